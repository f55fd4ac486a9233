abbrev zo_Mo_thrown : ByteArray := prog_7_method_2_code
abbrev zy_Mo_thrown : MethodName := ⟨"LiftGroupModel", "thrown", "()I"⟩
theorem zd_Mo_thrown_0 : decode zo_Mo_thrown 0 = .ok (.aload_n 0, 1) := by decide +kernel
theorem zd_Mo_thrown_1 : decode zo_Mo_thrown 1 = .ok (.getfield 66, 3) := by decide +kernel
theorem zd_Mo_thrown_4 : decode zo_Mo_thrown 4 = .ok (.ireturn, 1) := by decide +kernel
abbrev zo_Mo_refuse : ByteArray := prog_7_method_3_code
abbrev zy_Mo_refuse : MethodName := ⟨"LiftGroupModel", "refuse", "(ZZ)Z"⟩
theorem zd_Mo_refuse_0 : decode zo_Mo_refuse 0 = .ok (.aload_n 0, 1) := by decide +kernel
theorem zd_Mo_refuse_1 : decode zo_Mo_refuse 1 = .ok (.iload_n 1, 1) := by decide +kernel
theorem zd_Mo_refuse_2 : decode zo_Mo_refuse 2 = .ok (.ifCond .eq 7, 3) := by decide +kernel
theorem zd_Mo_refuse_5 : decode zo_Mo_refuse 5 = .ok (.iconst 1, 1) := by decide +kernel
theorem zd_Mo_refuse_6 : decode zo_Mo_refuse 6 = .ok (.goto 12, 3) := by decide +kernel
theorem zd_Mo_refuse_9 : decode zo_Mo_refuse 9 = .ok (.iload_n 2, 1) := by decide +kernel
theorem zd_Mo_refuse_10 : decode zo_Mo_refuse 10 = .ok (.ifCond .eq 7, 3) := by decide +kernel
theorem zd_Mo_refuse_13 : decode zo_Mo_refuse 13 = .ok (.iconst 2, 1) := by decide +kernel
theorem zd_Mo_refuse_14 : decode zo_Mo_refuse 14 = .ok (.goto 4, 3) := by decide +kernel
theorem zd_Mo_refuse_17 : decode zo_Mo_refuse 17 = .ok (.iconst 0, 1) := by decide +kernel
theorem zd_Mo_refuse_18 : decode zo_Mo_refuse 18 = .ok (.putfield 66, 3) := by decide +kernel
theorem zd_Mo_refuse_21 : decode zo_Mo_refuse 21 = .ok (.aload_n 0, 1) := by decide +kernel
theorem zd_Mo_refuse_22 : decode zo_Mo_refuse 22 = .ok (.getfield 66, 3) := by decide +kernel
theorem zd_Mo_refuse_25 : decode zo_Mo_refuse 25 = .ok (.ifCond .le 7, 3) := by decide +kernel
theorem zd_Mo_refuse_28 : decode zo_Mo_refuse 28 = .ok (.iconst 1, 1) := by decide +kernel
theorem zd_Mo_refuse_29 : decode zo_Mo_refuse 29 = .ok (.goto 4, 3) := by decide +kernel
theorem zd_Mo_refuse_32 : decode zo_Mo_refuse 32 = .ok (.iconst 0, 1) := by decide +kernel
theorem zd_Mo_refuse_33 : decode zo_Mo_refuse 33 = .ok (.ireturn, 1) := by decide +kernel
abbrev zo_Mo_in : ByteArray := prog_7_method_4_code
abbrev zy_Mo_in : MethodName := ⟨"LiftGroupModel", "in", "(III)Z"⟩
theorem zd_Mo_in_0 : decode zo_Mo_in 0 = .ok (.iload_n 0, 1) := by decide +kernel
theorem zd_Mo_in_1 : decode zo_Mo_in 1 = .ok (.iload_n 1, 1) := by decide +kernel
theorem zd_Mo_in_2 : decode zo_Mo_in 2 = .ok (.if_icmp .lt 12, 3) := by decide +kernel
theorem zd_Mo_in_5 : decode zo_Mo_in 5 = .ok (.iload_n 0, 1) := by decide +kernel
theorem zd_Mo_in_6 : decode zo_Mo_in 6 = .ok (.iload_n 2, 1) := by decide +kernel
theorem zd_Mo_in_7 : decode zo_Mo_in 7 = .ok (.if_icmp .gt 7, 3) := by decide +kernel
theorem zd_Mo_in_10 : decode zo_Mo_in 10 = .ok (.iconst 1, 1) := by decide +kernel
theorem zd_Mo_in_11 : decode zo_Mo_in 11 = .ok (.goto 4, 3) := by decide +kernel
theorem zd_Mo_in_14 : decode zo_Mo_in 14 = .ok (.iconst 0, 1) := by decide +kernel
theorem zd_Mo_in_15 : decode zo_Mo_in 15 = .ok (.ireturn, 1) := by decide +kernel
abbrev zo_Mo_building : ByteArray := prog_7_method_5_code
abbrev zy_Mo_building : MethodName := ⟨"LiftGroupModel", "building", "(III)V"⟩
theorem zd_Mo_building_0 : decode zo_Mo_building 0 = .ok (.aload_n 0, 1) := by decide +kernel
theorem zd_Mo_building_1 : decode zo_Mo_building 1 = .ok (.iload_n 1, 1) := by decide +kernel
theorem zd_Mo_building_2 : decode zo_Mo_building 2 = .ok (.iconst 2, 1) := by decide +kernel
theorem zd_Mo_building_3 : decode zo_Mo_building 3 = .ok (.bipush 10, 2) := by decide +kernel
theorem zd_Mo_building_5 : decode zo_Mo_building 5 = .ok (.invokestatic 69, 3) := by decide +kernel
theorem zd_Mo_building_8 : decode zo_Mo_building 8 = .ok (.ifCond .eq 21, 3) := by decide +kernel
theorem zd_Mo_building_11 : decode zo_Mo_building 11 = .ok (.iload_n 2, 1) := by decide +kernel
theorem zd_Mo_building_12 : decode zo_Mo_building 12 = .ok (.iconst 1, 1) := by decide +kernel
theorem zd_Mo_building_13 : decode zo_Mo_building 13 = .ok (.iconst 4, 1) := by decide +kernel
theorem zd_Mo_building_14 : decode zo_Mo_building 14 = .ok (.invokestatic 69, 3) := by decide +kernel
theorem zd_Mo_building_17 : decode zo_Mo_building 17 = .ok (.ifCond .eq 12, 3) := by decide +kernel
theorem zd_Mo_building_20 : decode zo_Mo_building 20 = .ok (.iload_n 3, 1) := by decide +kernel
theorem zd_Mo_building_21 : decode zo_Mo_building 21 = .ok (.iconst 1, 1) := by decide +kernel
theorem zd_Mo_building_22 : decode zo_Mo_building 22 = .ok (.iconst 5, 1) := by decide +kernel
theorem zd_Mo_building_23 : decode zo_Mo_building 23 = .ok (.invokestatic 69, 3) := by decide +kernel
theorem zd_Mo_building_26 : decode zo_Mo_building 26 = .ok (.ifCond .ne 7, 3) := by decide +kernel
theorem zd_Mo_building_29 : decode zo_Mo_building 29 = .ok (.iconst 1, 1) := by decide +kernel
theorem zd_Mo_building_30 : decode zo_Mo_building 30 = .ok (.goto 4, 3) := by decide +kernel
theorem zd_Mo_building_33 : decode zo_Mo_building 33 = .ok (.iconst 0, 1) := by decide +kernel
theorem zd_Mo_building_34 : decode zo_Mo_building 34 = .ok (.iconst 0, 1) := by decide +kernel
theorem zd_Mo_building_35 : decode zo_Mo_building 35 = .ok (.invokevirtual 73, 3) := by decide +kernel
theorem zd_Mo_building_38 : decode zo_Mo_building 38 = .ok (.ifCond .eq 4, 3) := by decide +kernel
theorem zd_Mo_building_41 : decode zo_Mo_building 41 = .ok (.return_, 1) := by decide +kernel
theorem zd_Mo_building_42 : decode zo_Mo_building 42 = .ok (.aload_n 0, 1) := by decide +kernel
theorem zd_Mo_building_43 : decode zo_Mo_building 43 = .ok (.iload_n 1, 1) := by decide +kernel
theorem zd_Mo_building_44 : decode zo_Mo_building 44 = .ok (.putfield 7, 3) := by decide +kernel
theorem zd_Mo_building_47 : decode zo_Mo_building 47 = .ok (.aload_n 0, 1) := by decide +kernel
theorem zd_Mo_building_48 : decode zo_Mo_building 48 = .ok (.iload_n 2, 1) := by decide +kernel
theorem zd_Mo_building_49 : decode zo_Mo_building 49 = .ok (.putfield 13, 3) := by decide +kernel
theorem zd_Mo_building_52 : decode zo_Mo_building 52 = .ok (.aload_n 0, 1) := by decide +kernel
theorem zd_Mo_building_53 : decode zo_Mo_building 53 = .ok (.iload_n 3, 1) := by decide +kernel
theorem zd_Mo_building_54 : decode zo_Mo_building 54 = .ok (.putfield 16, 3) := by decide +kernel
theorem zd_Mo_building_57 : decode zo_Mo_building 57 = .ok (.iconst 0, 1) := by decide +kernel
theorem zd_Mo_building_58 : decode zo_Mo_building 58 = .ok (.istore 4, 2) := by decide +kernel
theorem zd_Mo_building_60 : decode zo_Mo_building 60 = .ok (.iload 4, 2) := by decide +kernel
theorem zd_Mo_building_62 : decode zo_Mo_building 62 = .ok (.iconst 5, 1) := by decide +kernel
theorem zd_Mo_building_63 : decode zo_Mo_building 63 = .ok (.if_icmp .ge 73, 3) := by decide +kernel
theorem zd_Mo_building_66 : decode zo_Mo_building 66 = .ok (.aload_n 0, 1) := by decide +kernel
theorem zd_Mo_building_67 : decode zo_Mo_building 67 = .ok (.getfield 19, 3) := by decide +kernel
theorem zd_Mo_building_70 : decode zo_Mo_building 70 = .ok (.iload 4, 2) := by decide +kernel
theorem zd_Mo_building_72 : decode zo_Mo_building 72 = .ok (.iconst 0, 1) := by decide +kernel
theorem zd_Mo_building_73 : decode zo_Mo_building 73 = .ok (.iastore, 1) := by decide +kernel
theorem zd_Mo_building_74 : decode zo_Mo_building 74 = .ok (.aload_n 0, 1) := by decide +kernel
theorem zd_Mo_building_75 : decode zo_Mo_building 75 = .ok (.getfield 23, 3) := by decide +kernel
theorem zd_Mo_building_78 : decode zo_Mo_building 78 = .ok (.iload 4, 2) := by decide +kernel
theorem zd_Mo_building_80 : decode zo_Mo_building 80 = .ok (.iconst 0, 1) := by decide +kernel
theorem zd_Mo_building_81 : decode zo_Mo_building 81 = .ok (.iastore, 1) := by decide +kernel
theorem zd_Mo_building_82 : decode zo_Mo_building 82 = .ok (.aload_n 0, 1) := by decide +kernel
theorem zd_Mo_building_83 : decode zo_Mo_building 83 = .ok (.getfield 26, 3) := by decide +kernel
theorem zd_Mo_building_86 : decode zo_Mo_building 86 = .ok (.iload 4, 2) := by decide +kernel
theorem zd_Mo_building_88 : decode zo_Mo_building 88 = .ok (.iconst 0, 1) := by decide +kernel
theorem zd_Mo_building_89 : decode zo_Mo_building 89 = .ok (.iastore, 1) := by decide +kernel
theorem zd_Mo_building_90 : decode zo_Mo_building 90 = .ok (.aload_n 0, 1) := by decide +kernel
theorem zd_Mo_building_91 : decode zo_Mo_building 91 = .ok (.getfield 29, 3) := by decide +kernel
theorem zd_Mo_building_94 : decode zo_Mo_building 94 = .ok (.iload 4, 2) := by decide +kernel
theorem zd_Mo_building_96 : decode zo_Mo_building 96 = .ok (.iconst 0, 1) := by decide +kernel
theorem zd_Mo_building_97 : decode zo_Mo_building 97 = .ok (.iastore, 1) := by decide +kernel
theorem zd_Mo_building_98 : decode zo_Mo_building 98 = .ok (.aload_n 0, 1) := by decide +kernel
theorem zd_Mo_building_99 : decode zo_Mo_building 99 = .ok (.getfield 32, 3) := by decide +kernel
theorem zd_Mo_building_102 : decode zo_Mo_building 102 = .ok (.iload 4, 2) := by decide +kernel
theorem zd_Mo_building_104 : decode zo_Mo_building 104 = .ok (.iconst 0, 1) := by decide +kernel
theorem zd_Mo_building_105 : decode zo_Mo_building 105 = .ok (.iastore, 1) := by decide +kernel
theorem zd_Mo_building_106 : decode zo_Mo_building 106 = .ok (.aload_n 0, 1) := by decide +kernel
theorem zd_Mo_building_107 : decode zo_Mo_building 107 = .ok (.getfield 35, 3) := by decide +kernel
theorem zd_Mo_building_110 : decode zo_Mo_building 110 = .ok (.iload 4, 2) := by decide +kernel
theorem zd_Mo_building_112 : decode zo_Mo_building 112 = .ok (.iconst 0, 1) := by decide +kernel
theorem zd_Mo_building_113 : decode zo_Mo_building 113 = .ok (.bastore, 1) := by decide +kernel
theorem zd_Mo_building_114 : decode zo_Mo_building 114 = .ok (.aload_n 0, 1) := by decide +kernel
theorem zd_Mo_building_115 : decode zo_Mo_building 115 = .ok (.getfield 39, 3) := by decide +kernel
theorem zd_Mo_building_118 : decode zo_Mo_building 118 = .ok (.iload 4, 2) := by decide +kernel
theorem zd_Mo_building_120 : decode zo_Mo_building 120 = .ok (.iconst 0, 1) := by decide +kernel
theorem zd_Mo_building_121 : decode zo_Mo_building 121 = .ok (.bastore, 1) := by decide +kernel
theorem zd_Mo_building_122 : decode zo_Mo_building 122 = .ok (.aload_n 0, 1) := by decide +kernel
theorem zd_Mo_building_123 : decode zo_Mo_building 123 = .ok (.getfield 42, 3) := by decide +kernel
theorem zd_Mo_building_126 : decode zo_Mo_building 126 = .ok (.iload 4, 2) := by decide +kernel
theorem zd_Mo_building_128 : decode zo_Mo_building 128 = .ok (.iconst 0, 1) := by decide +kernel
theorem zd_Mo_building_129 : decode zo_Mo_building 129 = .ok (.bastore, 1) := by decide +kernel
theorem zd_Mo_building_130 : decode zo_Mo_building 130 = .ok (.iinc 4 1, 3) := by decide +kernel
theorem zd_Mo_building_133 : decode zo_Mo_building 133 = .ok (.goto (-73), 3) := by decide +kernel
theorem zd_Mo_building_136 : decode zo_Mo_building 136 = .ok (.aload_n 0, 1) := by decide +kernel
theorem zd_Mo_building_137 : decode zo_Mo_building 137 = .ok (.iconst 0, 1) := by decide +kernel
theorem zd_Mo_building_138 : decode zo_Mo_building 138 = .ok (.putfield 77, 3) := by decide +kernel
theorem zd_Mo_building_141 : decode zo_Mo_building 141 = .ok (.aload_n 0, 1) := by decide +kernel
theorem zd_Mo_building_142 : decode zo_Mo_building 142 = .ok (.iconst 0, 1) := by decide +kernel
theorem zd_Mo_building_143 : decode zo_Mo_building 143 = .ok (.putfield 81, 3) := by decide +kernel
theorem zd_Mo_building_146 : decode zo_Mo_building 146 = .ok (.aload_n 0, 1) := by decide +kernel
theorem zd_Mo_building_147 : decode zo_Mo_building 147 = .ok (.iconst 0, 1) := by decide +kernel
theorem zd_Mo_building_148 : decode zo_Mo_building 148 = .ok (.putfield 84, 3) := by decide +kernel
theorem zd_Mo_building_151 : decode zo_Mo_building 151 = .ok (.aload_n 0, 1) := by decide +kernel
theorem zd_Mo_building_152 : decode zo_Mo_building 152 = .ok (.iconst 0, 1) := by decide +kernel
theorem zd_Mo_building_153 : decode zo_Mo_building 153 = .ok (.putfield 87, 3) := by decide +kernel
theorem zd_Mo_building_156 : decode zo_Mo_building 156 = .ok (.return_, 1) := by decide +kernel
abbrev zo_Mo_note : ByteArray := prog_7_method_6_code
abbrev zy_Mo_note : MethodName := ⟨"LiftGroupModel", "note", "(III)V"⟩
theorem zd_Mo_note_0 : decode zo_Mo_note 0 = .ok (.aload_n 0, 1) := by decide +kernel
theorem zd_Mo_note_1 : decode zo_Mo_note 1 = .ok (.getfield 87, 3) := by decide +kernel
theorem zd_Mo_note_4 : decode zo_Mo_note 4 = .ok (.bipush 30, 2) := by decide +kernel
theorem zd_Mo_note_6 : decode zo_Mo_note 6 = .ok (.irem, 1) := by decide +kernel
theorem zd_Mo_note_7 : decode zo_Mo_note 7 = .ok (.iconst 4, 1) := by decide +kernel
theorem zd_Mo_note_8 : decode zo_Mo_note 8 = .ok (.imul, 1) := by decide +kernel
theorem zd_Mo_note_9 : decode zo_Mo_note 9 = .ok (.istore 4, 2) := by decide +kernel
theorem zd_Mo_note_11 : decode zo_Mo_note 11 = .ok (.aload_n 0, 1) := by decide +kernel
theorem zd_Mo_note_12 : decode zo_Mo_note 12 = .ok (.getfield 63, 3) := by decide +kernel
theorem zd_Mo_note_15 : decode zo_Mo_note 15 = .ok (.iload 4, 2) := by decide +kernel
theorem zd_Mo_note_17 : decode zo_Mo_note 17 = .ok (.aload_n 0, 1) := by decide +kernel
theorem zd_Mo_note_18 : decode zo_Mo_note 18 = .ok (.getfield 84, 3) := by decide +kernel
theorem zd_Mo_note_21 : decode zo_Mo_note 21 = .ok (.iastore, 1) := by decide +kernel
theorem zd_Mo_note_22 : decode zo_Mo_note 22 = .ok (.aload_n 0, 1) := by decide +kernel
theorem zd_Mo_note_23 : decode zo_Mo_note 23 = .ok (.getfield 63, 3) := by decide +kernel
theorem zd_Mo_note_26 : decode zo_Mo_note 26 = .ok (.iload 4, 2) := by decide +kernel
theorem zd_Mo_note_28 : decode zo_Mo_note 28 = .ok (.iconst 1, 1) := by decide +kernel
theorem zd_Mo_note_29 : decode zo_Mo_note 29 = .ok (.iadd, 1) := by decide +kernel
theorem zd_Mo_note_30 : decode zo_Mo_note 30 = .ok (.iload_n 1, 1) := by decide +kernel
theorem zd_Mo_note_31 : decode zo_Mo_note 31 = .ok (.iastore, 1) := by decide +kernel
theorem zd_Mo_note_32 : decode zo_Mo_note 32 = .ok (.aload_n 0, 1) := by decide +kernel
theorem zd_Mo_note_33 : decode zo_Mo_note 33 = .ok (.getfield 63, 3) := by decide +kernel
theorem zd_Mo_note_36 : decode zo_Mo_note 36 = .ok (.iload 4, 2) := by decide +kernel
theorem zd_Mo_note_38 : decode zo_Mo_note 38 = .ok (.iconst 2, 1) := by decide +kernel
theorem zd_Mo_note_39 : decode zo_Mo_note 39 = .ok (.iadd, 1) := by decide +kernel
theorem zd_Mo_note_40 : decode zo_Mo_note 40 = .ok (.iload_n 2, 1) := by decide +kernel
theorem zd_Mo_note_41 : decode zo_Mo_note 41 = .ok (.iastore, 1) := by decide +kernel
theorem zd_Mo_note_42 : decode zo_Mo_note 42 = .ok (.aload_n 0, 1) := by decide +kernel
theorem zd_Mo_note_43 : decode zo_Mo_note 43 = .ok (.getfield 63, 3) := by decide +kernel
theorem zd_Mo_note_46 : decode zo_Mo_note 46 = .ok (.iload 4, 2) := by decide +kernel
theorem zd_Mo_note_48 : decode zo_Mo_note 48 = .ok (.iconst 3, 1) := by decide +kernel
theorem zd_Mo_note_49 : decode zo_Mo_note 49 = .ok (.iadd, 1) := by decide +kernel
theorem zd_Mo_note_50 : decode zo_Mo_note 50 = .ok (.iload_n 3, 1) := by decide +kernel
theorem zd_Mo_note_51 : decode zo_Mo_note 51 = .ok (.iastore, 1) := by decide +kernel
theorem zd_Mo_note_52 : decode zo_Mo_note 52 = .ok (.aload_n 0, 1) := by decide +kernel
theorem zd_Mo_note_53 : decode zo_Mo_note 53 = .ok (.dup, 1) := by decide +kernel
theorem zd_Mo_note_54 : decode zo_Mo_note 54 = .ok (.getfield 87, 3) := by decide +kernel
theorem zd_Mo_note_57 : decode zo_Mo_note 57 = .ok (.iconst 1, 1) := by decide +kernel
theorem zd_Mo_note_58 : decode zo_Mo_note 58 = .ok (.iadd, 1) := by decide +kernel
theorem zd_Mo_note_59 : decode zo_Mo_note 59 = .ok (.putfield 87, 3) := by decide +kernel
theorem zd_Mo_note_62 : decode zo_Mo_note 62 = .ok (.return_, 1) := by decide +kernel
abbrev zo_Mo_aboard : ByteArray := prog_7_method_7_code
abbrev zy_Mo_aboard : MethodName := ⟨"LiftGroupModel", "aboard", "(II)I"⟩
theorem zd_Mo_aboard_0 : decode zo_Mo_aboard 0 = .ok (.iconst 0, 1) := by decide +kernel
theorem zd_Mo_aboard_1 : decode zo_Mo_aboard 1 = .ok (.istore_n 3, 1) := by decide +kernel
theorem zd_Mo_aboard_2 : decode zo_Mo_aboard 2 = .ok (.iload_n 2, 1) := by decide +kernel
theorem zd_Mo_aboard_3 : decode zo_Mo_aboard 3 = .ok (.istore 4, 2) := by decide +kernel
theorem zd_Mo_aboard_5 : decode zo_Mo_aboard 5 = .ok (.iload 4, 2) := by decide +kernel
theorem zd_Mo_aboard_7 : decode zo_Mo_aboard 7 = .ok (.iload_n 2, 1) := by decide +kernel
theorem zd_Mo_aboard_8 : decode zo_Mo_aboard 8 = .ok (.aload_n 0, 1) := by decide +kernel
theorem zd_Mo_aboard_9 : decode zo_Mo_aboard 9 = .ok (.getfield 81, 3) := by decide +kernel
theorem zd_Mo_aboard_12 : decode zo_Mo_aboard 12 = .ok (.iadd, 1) := by decide +kernel
theorem zd_Mo_aboard_13 : decode zo_Mo_aboard 13 = .ok (.if_icmp .ge 39, 3) := by decide +kernel
theorem zd_Mo_aboard_16 : decode zo_Mo_aboard 16 = .ok (.iload_n 3, 1) := by decide +kernel
theorem zd_Mo_aboard_17 : decode zo_Mo_aboard 17 = .ok (.aload_n 0, 1) := by decide +kernel
theorem zd_Mo_aboard_18 : decode zo_Mo_aboard 18 = .ok (.getfield 45, 3) := by decide +kernel
theorem zd_Mo_aboard_21 : decode zo_Mo_aboard 21 = .ok (.iload 4, 2) := by decide +kernel
theorem zd_Mo_aboard_23 : decode zo_Mo_aboard 23 = .ok (.iaload, 1) := by decide +kernel
theorem zd_Mo_aboard_24 : decode zo_Mo_aboard 24 = .ok (.iconst 1, 1) := by decide +kernel
theorem zd_Mo_aboard_25 : decode zo_Mo_aboard 25 = .ok (.if_icmp .ne 18, 3) := by decide +kernel
theorem zd_Mo_aboard_28 : decode zo_Mo_aboard 28 = .ok (.aload_n 0, 1) := by decide +kernel
theorem zd_Mo_aboard_29 : decode zo_Mo_aboard 29 = .ok (.getfield 48, 3) := by decide +kernel
theorem zd_Mo_aboard_32 : decode zo_Mo_aboard 32 = .ok (.iload 4, 2) := by decide +kernel
theorem zd_Mo_aboard_34 : decode zo_Mo_aboard 34 = .ok (.iaload, 1) := by decide +kernel
theorem zd_Mo_aboard_35 : decode zo_Mo_aboard 35 = .ok (.iload_n 1, 1) := by decide +kernel
theorem zd_Mo_aboard_36 : decode zo_Mo_aboard 36 = .ok (.if_icmp .ne 7, 3) := by decide +kernel
theorem zd_Mo_aboard_39 : decode zo_Mo_aboard 39 = .ok (.iconst 1, 1) := by decide +kernel
theorem zd_Mo_aboard_40 : decode zo_Mo_aboard 40 = .ok (.goto 4, 3) := by decide +kernel
theorem zd_Mo_aboard_43 : decode zo_Mo_aboard 43 = .ok (.iconst 0, 1) := by decide +kernel
theorem zd_Mo_aboard_44 : decode zo_Mo_aboard 44 = .ok (.iadd, 1) := by decide +kernel
theorem zd_Mo_aboard_45 : decode zo_Mo_aboard 45 = .ok (.istore_n 3, 1) := by decide +kernel
theorem zd_Mo_aboard_46 : decode zo_Mo_aboard 46 = .ok (.iinc 4 1, 3) := by decide +kernel
theorem zd_Mo_aboard_49 : decode zo_Mo_aboard 49 = .ok (.goto (-44), 3) := by decide +kernel
theorem zd_Mo_aboard_52 : decode zo_Mo_aboard 52 = .ok (.iload_n 3, 1) := by decide +kernel
theorem zd_Mo_aboard_53 : decode zo_Mo_aboard 53 = .ok (.ireturn, 1) := by decide +kernel
abbrev zo_Mo_isStop : ByteArray := prog_7_method_8_code
abbrev zy_Mo_isStop : MethodName := ⟨"LiftGroupModel", "isStop", "(III)Z"⟩
theorem zd_Mo_isStop_0 : decode zo_Mo_isStop 0 = .ok (.aload_n 0, 1) := by decide +kernel
theorem zd_Mo_isStop_1 : decode zo_Mo_isStop 1 = .ok (.getfield 77, 3) := by decide +kernel
theorem zd_Mo_isStop_4 : decode zo_Mo_isStop 4 = .ok (.ifCond .eq 13, 3) := by decide +kernel
theorem zd_Mo_isStop_7 : decode zo_Mo_isStop 7 = .ok (.iload_n 2, 1) := by decide +kernel
theorem zd_Mo_isStop_8 : decode zo_Mo_isStop 8 = .ok (.ifCond .ne 7, 3) := by decide +kernel
theorem zd_Mo_isStop_11 : decode zo_Mo_isStop 11 = .ok (.iconst 1, 1) := by decide +kernel
theorem zd_Mo_isStop_12 : decode zo_Mo_isStop 12 = .ok (.goto 4, 3) := by decide +kernel
theorem zd_Mo_isStop_15 : decode zo_Mo_isStop 15 = .ok (.iconst 0, 1) := by decide +kernel
theorem zd_Mo_isStop_16 : decode zo_Mo_isStop 16 = .ok (.ireturn, 1) := by decide +kernel
theorem zd_Mo_isStop_17 : decode zo_Mo_isStop 17 = .ok (.aload_n 0, 1) := by decide +kernel
theorem zd_Mo_isStop_18 : decode zo_Mo_isStop 18 = .ok (.iload_n 1, 1) := by decide +kernel
theorem zd_Mo_isStop_19 : decode zo_Mo_isStop 19 = .ok (.iload_n 3, 1) := by decide +kernel
theorem zd_Mo_isStop_20 : decode zo_Mo_isStop 20 = .ok (.invokevirtual 90, 3) := by decide +kernel
theorem zd_Mo_isStop_23 : decode zo_Mo_isStop 23 = .ok (.aload_n 0, 1) := by decide +kernel
theorem zd_Mo_isStop_24 : decode zo_Mo_isStop 24 = .ok (.getfield 16, 3) := by decide +kernel
theorem zd_Mo_isStop_27 : decode zo_Mo_isStop 27 = .ok (.if_icmp .ge 7, 3) := by decide +kernel
theorem zd_Mo_isStop_30 : decode zo_Mo_isStop 30 = .ok (.iconst 1, 1) := by decide +kernel
theorem zd_Mo_isStop_31 : decode zo_Mo_isStop 31 = .ok (.goto 4, 3) := by decide +kernel
theorem zd_Mo_isStop_34 : decode zo_Mo_isStop 34 = .ok (.iconst 0, 1) := by decide +kernel
theorem zd_Mo_isStop_35 : decode zo_Mo_isStop 35 = .ok (.istore 4, 2) := by decide +kernel
theorem zd_Mo_isStop_37 : decode zo_Mo_isStop 37 = .ok (.iconst 0, 1) := by decide +kernel
theorem zd_Mo_isStop_38 : decode zo_Mo_isStop 38 = .ok (.istore 5, 2) := by decide +kernel
theorem zd_Mo_isStop_40 : decode zo_Mo_isStop 40 = .ok (.iload_n 3, 1) := by decide +kernel
theorem zd_Mo_isStop_41 : decode zo_Mo_isStop 41 = .ok (.istore 6, 2) := by decide +kernel
theorem zd_Mo_isStop_43 : decode zo_Mo_isStop 43 = .ok (.iload 6, 2) := by decide +kernel
theorem zd_Mo_isStop_45 : decode zo_Mo_isStop 45 = .ok (.iload_n 3, 1) := by decide +kernel
theorem zd_Mo_isStop_46 : decode zo_Mo_isStop 46 = .ok (.aload_n 0, 1) := by decide +kernel
theorem zd_Mo_isStop_47 : decode zo_Mo_isStop 47 = .ok (.getfield 81, 3) := by decide +kernel
theorem zd_Mo_isStop_50 : decode zo_Mo_isStop 50 = .ok (.iadd, 1) := by decide +kernel
theorem zd_Mo_isStop_51 : decode zo_Mo_isStop 51 = .ok (.if_icmp .ge 97, 3) := by decide +kernel
theorem zd_Mo_isStop_54 : decode zo_Mo_isStop 54 = .ok (.aload_n 0, 1) := by decide +kernel
theorem zd_Mo_isStop_55 : decode zo_Mo_isStop 55 = .ok (.getfield 48, 3) := by decide +kernel
theorem zd_Mo_isStop_58 : decode zo_Mo_isStop 58 = .ok (.iload 6, 2) := by decide +kernel
theorem zd_Mo_isStop_60 : decode zo_Mo_isStop 60 = .ok (.iaload, 1) := by decide +kernel
theorem zd_Mo_isStop_61 : decode zo_Mo_isStop 61 = .ok (.iload_n 1, 1) := by decide +kernel
theorem zd_Mo_isStop_62 : decode zo_Mo_isStop 62 = .ok (.if_icmp .ne 7, 3) := by decide +kernel
theorem zd_Mo_isStop_65 : decode zo_Mo_isStop 65 = .ok (.iconst 1, 1) := by decide +kernel
theorem zd_Mo_isStop_66 : decode zo_Mo_isStop 66 = .ok (.goto 4, 3) := by decide +kernel
theorem zd_Mo_isStop_69 : decode zo_Mo_isStop 69 = .ok (.iconst 0, 1) := by decide +kernel
theorem zd_Mo_isStop_70 : decode zo_Mo_isStop 70 = .ok (.istore 7, 2) := by decide +kernel
theorem zd_Mo_isStop_72 : decode zo_Mo_isStop 72 = .ok (.iload 5, 2) := by decide +kernel
theorem zd_Mo_isStop_74 : decode zo_Mo_isStop 74 = .ok (.ifCond .ne 61, 3) := by decide +kernel
theorem zd_Mo_isStop_77 : decode zo_Mo_isStop 77 = .ok (.iload 7, 2) := by decide +kernel
theorem zd_Mo_isStop_79 : decode zo_Mo_isStop 79 = .ok (.ifCond .eq 25, 3) := by decide +kernel
theorem zd_Mo_isStop_82 : decode zo_Mo_isStop 82 = .ok (.aload_n 0, 1) := by decide +kernel
theorem zd_Mo_isStop_83 : decode zo_Mo_isStop 83 = .ok (.getfield 45, 3) := by decide +kernel
theorem zd_Mo_isStop_86 : decode zo_Mo_isStop 86 = .ok (.iload 6, 2) := by decide +kernel
theorem zd_Mo_isStop_88 : decode zo_Mo_isStop 88 = .ok (.iaload, 1) := by decide +kernel
theorem zd_Mo_isStop_89 : decode zo_Mo_isStop 89 = .ok (.iconst 1, 1) := by decide +kernel
theorem zd_Mo_isStop_90 : decode zo_Mo_isStop 90 = .ok (.if_icmp .ne 14, 3) := by decide +kernel
theorem zd_Mo_isStop_93 : decode zo_Mo_isStop 93 = .ok (.aload_n 0, 1) := by decide +kernel
theorem zd_Mo_isStop_94 : decode zo_Mo_isStop 94 = .ok (.getfield 54, 3) := by decide +kernel
theorem zd_Mo_isStop_97 : decode zo_Mo_isStop 97 = .ok (.iload 6, 2) := by decide +kernel
theorem zd_Mo_isStop_99 : decode zo_Mo_isStop 99 = .ok (.iaload, 1) := by decide +kernel
theorem zd_Mo_isStop_100 : decode zo_Mo_isStop 100 = .ok (.iload_n 2, 1) := by decide +kernel
theorem zd_Mo_isStop_101 : decode zo_Mo_isStop 101 = .ok (.if_icmp .eq 34, 3) := by decide +kernel
theorem zd_Mo_isStop_104 : decode zo_Mo_isStop 104 = .ok (.iload 7, 2) := by decide +kernel
theorem zd_Mo_isStop_106 : decode zo_Mo_isStop 106 = .ok (.ifCond .eq 33, 3) := by decide +kernel
theorem zd_Mo_isStop_109 : decode zo_Mo_isStop 109 = .ok (.aload_n 0, 1) := by decide +kernel
theorem zd_Mo_isStop_110 : decode zo_Mo_isStop 110 = .ok (.getfield 45, 3) := by decide +kernel
theorem zd_Mo_isStop_113 : decode zo_Mo_isStop 113 = .ok (.iload 6, 2) := by decide +kernel
theorem zd_Mo_isStop_115 : decode zo_Mo_isStop 115 = .ok (.iaload, 1) := by decide +kernel
theorem zd_Mo_isStop_116 : decode zo_Mo_isStop 116 = .ok (.ifCond .ne 23, 3) := by decide +kernel
theorem zd_Mo_isStop_119 : decode zo_Mo_isStop 119 = .ok (.aload_n 0, 1) := by decide +kernel
theorem zd_Mo_isStop_120 : decode zo_Mo_isStop 120 = .ok (.getfield 51, 3) := by decide +kernel
theorem zd_Mo_isStop_123 : decode zo_Mo_isStop 123 = .ok (.iload 6, 2) := by decide +kernel
theorem zd_Mo_isStop_125 : decode zo_Mo_isStop 125 = .ok (.iaload, 1) := by decide +kernel
theorem zd_Mo_isStop_126 : decode zo_Mo_isStop 126 = .ok (.iload_n 2, 1) := by decide +kernel
theorem zd_Mo_isStop_127 : decode zo_Mo_isStop 127 = .ok (.if_icmp .ne 12, 3) := by decide +kernel
theorem zd_Mo_isStop_130 : decode zo_Mo_isStop 130 = .ok (.iload 4, 2) := by decide +kernel
theorem zd_Mo_isStop_132 : decode zo_Mo_isStop 132 = .ok (.ifCond .eq 7, 3) := by decide +kernel
theorem zd_Mo_isStop_135 : decode zo_Mo_isStop 135 = .ok (.iconst 1, 1) := by decide +kernel
theorem zd_Mo_isStop_136 : decode zo_Mo_isStop 136 = .ok (.goto 4, 3) := by decide +kernel
theorem zd_Mo_isStop_139 : decode zo_Mo_isStop 139 = .ok (.iconst 0, 1) := by decide +kernel
theorem zd_Mo_isStop_140 : decode zo_Mo_isStop 140 = .ok (.istore 5, 2) := by decide +kernel
theorem zd_Mo_isStop_142 : decode zo_Mo_isStop 142 = .ok (.iinc 6 1, 3) := by decide +kernel
theorem zd_Mo_isStop_145 : decode zo_Mo_isStop 145 = .ok (.goto (-102), 3) := by decide +kernel
theorem zd_Mo_isStop_148 : decode zo_Mo_isStop 148 = .ok (.iload 5, 2) := by decide +kernel
theorem zd_Mo_isStop_150 : decode zo_Mo_isStop 150 = .ok (.ireturn, 1) := by decide +kernel
abbrev zo_Mo_isThere : ByteArray := prog_7_method_9_code
abbrev zy_Mo_isThere : MethodName := ⟨"LiftGroupModel", "isThere", "(I)Z"⟩
theorem zd_Mo_isThere_0 : decode zo_Mo_isThere 0 = .ok (.aload_n 0, 1) := by decide +kernel
theorem zd_Mo_isThere_1 : decode zo_Mo_isThere 1 = .ok (.getfield 19, 3) := by decide +kernel
theorem zd_Mo_isThere_4 : decode zo_Mo_isThere 4 = .ok (.iload_n 1, 1) := by decide +kernel
theorem zd_Mo_isThere_5 : decode zo_Mo_isThere 5 = .ok (.iaload, 1) := by decide +kernel
theorem zd_Mo_isThere_6 : decode zo_Mo_isThere 6 = .ok (.iconst 2, 1) := by decide +kernel
theorem zd_Mo_isThere_7 : decode zo_Mo_isThere 7 = .ok (.irem, 1) := by decide +kernel
theorem zd_Mo_isThere_8 : decode zo_Mo_isThere 8 = .ok (.ifCond .ne 7, 3) := by decide +kernel
theorem zd_Mo_isThere_11 : decode zo_Mo_isThere 11 = .ok (.iconst 1, 1) := by decide +kernel
theorem zd_Mo_isThere_12 : decode zo_Mo_isThere 12 = .ok (.goto 4, 3) := by decide +kernel
theorem zd_Mo_isThere_15 : decode zo_Mo_isThere 15 = .ok (.iconst 0, 1) := by decide +kernel
theorem zd_Mo_isThere_16 : decode zo_Mo_isThere 16 = .ok (.ireturn, 1) := by decide +kernel
abbrev zo_Mo_hasStop : ByteArray := prog_7_method_10_code
abbrev zy_Mo_hasStop : MethodName := ⟨"LiftGroupModel", "hasStop", "(III)Z"⟩
theorem zd_Mo_hasStop_0 : decode zo_Mo_hasStop 0 = .ok (.iconst 0, 1) := by decide +kernel
theorem zd_Mo_hasStop_1 : decode zo_Mo_hasStop 1 = .ok (.istore 4, 2) := by decide +kernel
theorem zd_Mo_hasStop_3 : decode zo_Mo_hasStop 3 = .ok (.iconst 0, 1) := by decide +kernel
theorem zd_Mo_hasStop_4 : decode zo_Mo_hasStop 4 = .ok (.istore 5, 2) := by decide +kernel
theorem zd_Mo_hasStop_6 : decode zo_Mo_hasStop 6 = .ok (.iload 5, 2) := by decide +kernel
theorem zd_Mo_hasStop_8 : decode zo_Mo_hasStop 8 = .ok (.aload_n 0, 1) := by decide +kernel
theorem zd_Mo_hasStop_9 : decode zo_Mo_hasStop 9 = .ok (.getfield 7, 3) := by decide +kernel
theorem zd_Mo_hasStop_12 : decode zo_Mo_hasStop 12 = .ok (.if_icmp .ge 48, 3) := by decide +kernel
theorem zd_Mo_hasStop_15 : decode zo_Mo_hasStop 15 = .ok (.iload 4, 2) := by decide +kernel
theorem zd_Mo_hasStop_17 : decode zo_Mo_hasStop 17 = .ok (.ifCond .ne 30, 3) := by decide +kernel
theorem zd_Mo_hasStop_20 : decode zo_Mo_hasStop 20 = .ok (.iconst 2, 1) := by decide +kernel
theorem zd_Mo_hasStop_21 : decode zo_Mo_hasStop 21 = .ok (.iload 5, 2) := by decide +kernel
theorem zd_Mo_hasStop_23 : decode zo_Mo_hasStop 23 = .ok (.imul, 1) := by decide +kernel
theorem zd_Mo_hasStop_24 : decode zo_Mo_hasStop 24 = .ok (.aload_n 0, 1) := by decide +kernel
theorem zd_Mo_hasStop_25 : decode zo_Mo_hasStop 25 = .ok (.getfield 19, 3) := by decide +kernel
theorem zd_Mo_hasStop_28 : decode zo_Mo_hasStop 28 = .ok (.iload_n 1, 1) := by decide +kernel
theorem zd_Mo_hasStop_29 : decode zo_Mo_hasStop 29 = .ok (.iaload, 1) := by decide +kernel
theorem zd_Mo_hasStop_30 : decode zo_Mo_hasStop 30 = .ok (.isub, 1) := by decide +kernel
theorem zd_Mo_hasStop_31 : decode zo_Mo_hasStop 31 = .ok (.iload_n 2, 1) := by decide +kernel
theorem zd_Mo_hasStop_32 : decode zo_Mo_hasStop 32 = .ok (.imul, 1) := by decide +kernel
theorem zd_Mo_hasStop_33 : decode zo_Mo_hasStop 33 = .ok (.ifCond .le 18, 3) := by decide +kernel
theorem zd_Mo_hasStop_36 : decode zo_Mo_hasStop 36 = .ok (.aload_n 0, 1) := by decide +kernel
theorem zd_Mo_hasStop_37 : decode zo_Mo_hasStop 37 = .ok (.iload_n 1, 1) := by decide +kernel
theorem zd_Mo_hasStop_38 : decode zo_Mo_hasStop 38 = .ok (.iload 5, 2) := by decide +kernel
theorem zd_Mo_hasStop_40 : decode zo_Mo_hasStop 40 = .ok (.iload_n 3, 1) := by decide +kernel
theorem zd_Mo_hasStop_41 : decode zo_Mo_hasStop 41 = .ok (.invokevirtual 94, 3) := by decide +kernel
theorem zd_Mo_hasStop_44 : decode zo_Mo_hasStop 44 = .ok (.ifCond .eq 7, 3) := by decide +kernel
theorem zd_Mo_hasStop_47 : decode zo_Mo_hasStop 47 = .ok (.iconst 1, 1) := by decide +kernel
theorem zd_Mo_hasStop_48 : decode zo_Mo_hasStop 48 = .ok (.goto 4, 3) := by decide +kernel
theorem zd_Mo_hasStop_51 : decode zo_Mo_hasStop 51 = .ok (.iconst 0, 1) := by decide +kernel
theorem zd_Mo_hasStop_52 : decode zo_Mo_hasStop 52 = .ok (.istore 4, 2) := by decide +kernel
theorem zd_Mo_hasStop_54 : decode zo_Mo_hasStop 54 = .ok (.iinc 5 1, 3) := by decide +kernel
theorem zd_Mo_hasStop_57 : decode zo_Mo_hasStop 57 = .ok (.goto (-51), 3) := by decide +kernel
theorem zd_Mo_hasStop_60 : decode zo_Mo_hasStop 60 = .ok (.iload 4, 2) := by decide +kernel
theorem zd_Mo_hasStop_62 : decode zo_Mo_hasStop 62 = .ok (.ireturn, 1) := by decide +kernel
abbrev zo_Mo_nearest : ByteArray := prog_7_method_11_code
abbrev zy_Mo_nearest : MethodName := ⟨"LiftGroupModel", "nearest", "(II)I"⟩
theorem zd_Mo_nearest_0 : decode zo_Mo_nearest 0 = .ok (.iconst 1, 1) := by decide +kernel
theorem zd_Mo_nearest_1 : decode zo_Mo_nearest 1 = .ok (.istore_n 3, 1) := by decide +kernel
theorem zd_Mo_nearest_2 : decode zo_Mo_nearest 2 = .ok (.iload_n 3, 1) := by decide +kernel
theorem zd_Mo_nearest_3 : decode zo_Mo_nearest 3 = .ok (.iconst 2, 1) := by decide +kernel
theorem zd_Mo_nearest_4 : decode zo_Mo_nearest 4 = .ok (.aload_n 0, 1) := by decide +kernel
theorem zd_Mo_nearest_5 : decode zo_Mo_nearest 5 = .ok (.getfield 7, 3) := by decide +kernel
theorem zd_Mo_nearest_8 : decode zo_Mo_nearest 8 = .ok (.imul, 1) := by decide +kernel
theorem zd_Mo_nearest_9 : decode zo_Mo_nearest 9 = .ok (.if_icmp .ge 89, 3) := by decide +kernel
theorem zd_Mo_nearest_12 : decode zo_Mo_nearest 12 = .ok (.aload_n 0, 1) := by decide +kernel
theorem zd_Mo_nearest_13 : decode zo_Mo_nearest 13 = .ok (.getfield 19, 3) := by decide +kernel
theorem zd_Mo_nearest_16 : decode zo_Mo_nearest 16 = .ok (.iload_n 1, 1) := by decide +kernel
theorem zd_Mo_nearest_17 : decode zo_Mo_nearest 17 = .ok (.iaload, 1) := by decide +kernel
theorem zd_Mo_nearest_18 : decode zo_Mo_nearest 18 = .ok (.iload_n 3, 1) := by decide +kernel
theorem zd_Mo_nearest_19 : decode zo_Mo_nearest 19 = .ok (.isub, 1) := by decide +kernel
theorem zd_Mo_nearest_20 : decode zo_Mo_nearest 20 = .ok (.istore 4, 2) := by decide +kernel
theorem zd_Mo_nearest_22 : decode zo_Mo_nearest 22 = .ok (.aload_n 0, 1) := by decide +kernel
theorem zd_Mo_nearest_23 : decode zo_Mo_nearest 23 = .ok (.getfield 19, 3) := by decide +kernel
theorem zd_Mo_nearest_26 : decode zo_Mo_nearest 26 = .ok (.iload_n 1, 1) := by decide +kernel
theorem zd_Mo_nearest_27 : decode zo_Mo_nearest 27 = .ok (.iaload, 1) := by decide +kernel
theorem zd_Mo_nearest_28 : decode zo_Mo_nearest 28 = .ok (.iload_n 3, 1) := by decide +kernel
theorem zd_Mo_nearest_29 : decode zo_Mo_nearest 29 = .ok (.iadd, 1) := by decide +kernel
theorem zd_Mo_nearest_30 : decode zo_Mo_nearest 30 = .ok (.istore 5, 2) := by decide +kernel
theorem zd_Mo_nearest_32 : decode zo_Mo_nearest 32 = .ok (.iload 4, 2) := by decide +kernel
theorem zd_Mo_nearest_34 : decode zo_Mo_nearest 34 = .ok (.ifCond .lt 25, 3) := by decide +kernel
theorem zd_Mo_nearest_37 : decode zo_Mo_nearest 37 = .ok (.iload 4, 2) := by decide +kernel
theorem zd_Mo_nearest_39 : decode zo_Mo_nearest 39 = .ok (.iconst 2, 1) := by decide +kernel
theorem zd_Mo_nearest_40 : decode zo_Mo_nearest 40 = .ok (.irem, 1) := by decide +kernel
theorem zd_Mo_nearest_41 : decode zo_Mo_nearest 41 = .ok (.ifCond .ne 18, 3) := by decide +kernel
theorem zd_Mo_nearest_44 : decode zo_Mo_nearest 44 = .ok (.aload_n 0, 1) := by decide +kernel
theorem zd_Mo_nearest_45 : decode zo_Mo_nearest 45 = .ok (.iload_n 1, 1) := by decide +kernel
theorem zd_Mo_nearest_46 : decode zo_Mo_nearest 46 = .ok (.iload 4, 2) := by decide +kernel
theorem zd_Mo_nearest_48 : decode zo_Mo_nearest 48 = .ok (.iconst 2, 1) := by decide +kernel
theorem zd_Mo_nearest_49 : decode zo_Mo_nearest 49 = .ok (.idiv, 1) := by decide +kernel
theorem zd_Mo_nearest_50 : decode zo_Mo_nearest 50 = .ok (.iload_n 2, 1) := by decide +kernel
theorem zd_Mo_nearest_51 : decode zo_Mo_nearest 51 = .ok (.invokevirtual 94, 3) := by decide +kernel
theorem zd_Mo_nearest_54 : decode zo_Mo_nearest 54 = .ok (.ifCond .eq 5, 3) := by decide +kernel
theorem zd_Mo_nearest_57 : decode zo_Mo_nearest 57 = .ok (.iconst (-1), 1) := by decide +kernel
theorem zd_Mo_nearest_58 : decode zo_Mo_nearest 58 = .ok (.ireturn, 1) := by decide +kernel
theorem zd_Mo_nearest_59 : decode zo_Mo_nearest 59 = .ok (.iload 5, 2) := by decide +kernel
theorem zd_Mo_nearest_61 : decode zo_Mo_nearest 61 = .ok (.iconst 2, 1) := by decide +kernel
theorem zd_Mo_nearest_62 : decode zo_Mo_nearest 62 = .ok (.irem, 1) := by decide +kernel
theorem zd_Mo_nearest_63 : decode zo_Mo_nearest 63 = .ok (.ifCond .ne 29, 3) := by decide +kernel
theorem zd_Mo_nearest_66 : decode zo_Mo_nearest 66 = .ok (.iload 5, 2) := by decide +kernel
theorem zd_Mo_nearest_68 : decode zo_Mo_nearest 68 = .ok (.iconst 2, 1) := by decide +kernel
theorem zd_Mo_nearest_69 : decode zo_Mo_nearest 69 = .ok (.idiv, 1) := by decide +kernel
theorem zd_Mo_nearest_70 : decode zo_Mo_nearest 70 = .ok (.aload_n 0, 1) := by decide +kernel
theorem zd_Mo_nearest_71 : decode zo_Mo_nearest 71 = .ok (.getfield 7, 3) := by decide +kernel
theorem zd_Mo_nearest_74 : decode zo_Mo_nearest 74 = .ok (.if_icmp .ge 18, 3) := by decide +kernel
theorem zd_Mo_nearest_77 : decode zo_Mo_nearest 77 = .ok (.aload_n 0, 1) := by decide +kernel
theorem zd_Mo_nearest_78 : decode zo_Mo_nearest 78 = .ok (.iload_n 1, 1) := by decide +kernel
theorem zd_Mo_nearest_79 : decode zo_Mo_nearest 79 = .ok (.iload 5, 2) := by decide +kernel
theorem zd_Mo_nearest_81 : decode zo_Mo_nearest 81 = .ok (.iconst 2, 1) := by decide +kernel
theorem zd_Mo_nearest_82 : decode zo_Mo_nearest 82 = .ok (.idiv, 1) := by decide +kernel
theorem zd_Mo_nearest_83 : decode zo_Mo_nearest 83 = .ok (.iload_n 2, 1) := by decide +kernel
theorem zd_Mo_nearest_84 : decode zo_Mo_nearest 84 = .ok (.invokevirtual 94, 3) := by decide +kernel
theorem zd_Mo_nearest_87 : decode zo_Mo_nearest 87 = .ok (.ifCond .eq 5, 3) := by decide +kernel
theorem zd_Mo_nearest_90 : decode zo_Mo_nearest 90 = .ok (.iconst 1, 1) := by decide +kernel
theorem zd_Mo_nearest_91 : decode zo_Mo_nearest 91 = .ok (.ireturn, 1) := by decide +kernel
theorem zd_Mo_nearest_92 : decode zo_Mo_nearest 92 = .ok (.iinc 3 1, 3) := by decide +kernel
theorem zd_Mo_nearest_95 : decode zo_Mo_nearest 95 = .ok (.goto (-93), 3) := by decide +kernel
theorem zd_Mo_nearest_98 : decode zo_Mo_nearest 98 = .ok (.iconst 0, 1) := by decide +kernel
theorem zd_Mo_nearest_99 : decode zo_Mo_nearest 99 = .ok (.ireturn, 1) := by decide +kernel
abbrev zo_Mo_leave : ByteArray := prog_7_method_13_code
abbrev zy_Mo_leave : MethodName := ⟨"LiftGroupModel", "leave", "(IIZ)V"⟩
theorem zd_Mo_leave_0 : decode zo_Mo_leave 0 = .ok (.iload_n 3, 1) := by decide +kernel
theorem zd_Mo_leave_1 : decode zo_Mo_leave 1 = .ok (.ifCond .eq 32, 3) := by decide +kernel
theorem zd_Mo_leave_4 : decode zo_Mo_leave 4 = .ok (.aload_n 0, 1) := by decide +kernel
theorem zd_Mo_leave_5 : decode zo_Mo_leave 5 = .ok (.getfield 60, 3) := by decide +kernel
theorem zd_Mo_leave_8 : decode zo_Mo_leave 8 = .ok (.iload_n 1, 1) := by decide +kernel
theorem zd_Mo_leave_9 : decode zo_Mo_leave 9 = .ok (.aload_n 0, 1) := by decide +kernel
theorem zd_Mo_leave_10 : decode zo_Mo_leave 10 = .ok (.getfield 84, 3) := by decide +kernel
theorem zd_Mo_leave_13 : decode zo_Mo_leave 13 = .ok (.aload_n 0, 1) := by decide +kernel
theorem zd_Mo_leave_14 : decode zo_Mo_leave 14 = .ok (.getfield 57, 3) := by decide +kernel
theorem zd_Mo_leave_17 : decode zo_Mo_leave 17 = .ok (.iload_n 1, 1) := by decide +kernel
theorem zd_Mo_leave_18 : decode zo_Mo_leave 18 = .ok (.iaload, 1) := by decide +kernel
theorem zd_Mo_leave_19 : decode zo_Mo_leave 19 = .ok (.isub, 1) := by decide +kernel
theorem zd_Mo_leave_20 : decode zo_Mo_leave 20 = .ok (.iastore, 1) := by decide +kernel
theorem zd_Mo_leave_21 : decode zo_Mo_leave 21 = .ok (.aload_n 0, 1) := by decide +kernel
theorem zd_Mo_leave_22 : decode zo_Mo_leave 22 = .ok (.iload_n 2, 1) := by decide +kernel
theorem zd_Mo_leave_23 : decode zo_Mo_leave 23 = .ok (.iload_n 1, 1) := by decide +kernel
theorem zd_Mo_leave_24 : decode zo_Mo_leave 24 = .ok (.aload_n 0, 1) := by decide +kernel
theorem zd_Mo_leave_25 : decode zo_Mo_leave 25 = .ok (.getfield 48, 3) := by decide +kernel
theorem zd_Mo_leave_28 : decode zo_Mo_leave 28 = .ok (.iload_n 1, 1) := by decide +kernel
theorem zd_Mo_leave_29 : decode zo_Mo_leave 29 = .ok (.iaload, 1) := by decide +kernel
theorem zd_Mo_leave_30 : decode zo_Mo_leave 30 = .ok (.invokevirtual 101, 3) := by decide +kernel
theorem zd_Mo_leave_33 : decode zo_Mo_leave 33 = .ok (.return_, 1) := by decide +kernel
abbrev zo_Mo_exchange : ByteArray := prog_7_method_12_code
abbrev zy_Mo_exchange : MethodName := ⟨"LiftGroupModel", "exchange", "(II)V"⟩
theorem zd_Mo_exchange_0 : decode zo_Mo_exchange 0 = .ok (.aload_n 0, 1) := by decide +kernel
theorem zd_Mo_exchange_1 : decode zo_Mo_exchange 1 = .ok (.getfield 19, 3) := by decide +kernel
theorem zd_Mo_exchange_4 : decode zo_Mo_exchange 4 = .ok (.iload_n 1, 1) := by decide +kernel
theorem zd_Mo_exchange_5 : decode zo_Mo_exchange 5 = .ok (.iaload, 1) := by decide +kernel
theorem zd_Mo_exchange_6 : decode zo_Mo_exchange 6 = .ok (.iconst 2, 1) := by decide +kernel
theorem zd_Mo_exchange_7 : decode zo_Mo_exchange 7 = .ok (.idiv, 1) := by decide +kernel
theorem zd_Mo_exchange_8 : decode zo_Mo_exchange 8 = .ok (.istore_n 3, 1) := by decide +kernel
theorem zd_Mo_exchange_9 : decode zo_Mo_exchange 9 = .ok (.iload_n 2, 1) := by decide +kernel
theorem zd_Mo_exchange_10 : decode zo_Mo_exchange 10 = .ok (.ifCond .ne 7, 3) := by decide +kernel
theorem zd_Mo_exchange_13 : decode zo_Mo_exchange 13 = .ok (.iconst 1, 1) := by decide +kernel
theorem zd_Mo_exchange_14 : decode zo_Mo_exchange 14 = .ok (.goto 4, 3) := by decide +kernel
theorem zd_Mo_exchange_17 : decode zo_Mo_exchange 17 = .ok (.iconst 0, 1) := by decide +kernel
theorem zd_Mo_exchange_18 : decode zo_Mo_exchange 18 = .ok (.istore 4, 2) := by decide +kernel
theorem zd_Mo_exchange_20 : decode zo_Mo_exchange 20 = .ok (.iload_n 2, 1) := by decide +kernel
theorem zd_Mo_exchange_21 : decode zo_Mo_exchange 21 = .ok (.istore 5, 2) := by decide +kernel
theorem zd_Mo_exchange_23 : decode zo_Mo_exchange 23 = .ok (.iload 5, 2) := by decide +kernel
theorem zd_Mo_exchange_25 : decode zo_Mo_exchange 25 = .ok (.iload_n 2, 1) := by decide +kernel
theorem zd_Mo_exchange_26 : decode zo_Mo_exchange 26 = .ok (.aload_n 0, 1) := by decide +kernel
theorem zd_Mo_exchange_27 : decode zo_Mo_exchange 27 = .ok (.getfield 81, 3) := by decide +kernel
theorem zd_Mo_exchange_30 : decode zo_Mo_exchange 30 = .ok (.iadd, 1) := by decide +kernel
theorem zd_Mo_exchange_31 : decode zo_Mo_exchange 31 = .ok (.if_icmp .ge 71, 3) := by decide +kernel
theorem zd_Mo_exchange_34 : decode zo_Mo_exchange 34 = .ok (.aload_n 0, 1) := by decide +kernel
theorem zd_Mo_exchange_35 : decode zo_Mo_exchange 35 = .ok (.getfield 48, 3) := by decide +kernel
theorem zd_Mo_exchange_38 : decode zo_Mo_exchange 38 = .ok (.iload 5, 2) := by decide +kernel
theorem zd_Mo_exchange_40 : decode zo_Mo_exchange 40 = .ok (.iaload, 1) := by decide +kernel
theorem zd_Mo_exchange_41 : decode zo_Mo_exchange 41 = .ok (.iload_n 1, 1) := by decide +kernel
theorem zd_Mo_exchange_42 : decode zo_Mo_exchange 42 = .ok (.if_icmp .ne 18, 3) := by decide +kernel
theorem zd_Mo_exchange_45 : decode zo_Mo_exchange 45 = .ok (.aload_n 0, 1) := by decide +kernel
theorem zd_Mo_exchange_46 : decode zo_Mo_exchange 46 = .ok (.getfield 45, 3) := by decide +kernel
theorem zd_Mo_exchange_49 : decode zo_Mo_exchange 49 = .ok (.iload 5, 2) := by decide +kernel
theorem zd_Mo_exchange_51 : decode zo_Mo_exchange 51 = .ok (.iaload, 1) := by decide +kernel
theorem zd_Mo_exchange_52 : decode zo_Mo_exchange 52 = .ok (.iconst 1, 1) := by decide +kernel
theorem zd_Mo_exchange_53 : decode zo_Mo_exchange 53 = .ok (.if_icmp .ne 7, 3) := by decide +kernel
theorem zd_Mo_exchange_56 : decode zo_Mo_exchange 56 = .ok (.iconst 1, 1) := by decide +kernel
theorem zd_Mo_exchange_57 : decode zo_Mo_exchange 57 = .ok (.goto 4, 3) := by decide +kernel
theorem zd_Mo_exchange_60 : decode zo_Mo_exchange 60 = .ok (.iconst 0, 1) := by decide +kernel
theorem zd_Mo_exchange_61 : decode zo_Mo_exchange 61 = .ok (.istore 6, 2) := by decide +kernel
theorem zd_Mo_exchange_63 : decode zo_Mo_exchange 63 = .ok (.iload 6, 2) := by decide +kernel
theorem zd_Mo_exchange_65 : decode zo_Mo_exchange 65 = .ok (.ifCond .eq 31, 3) := by decide +kernel
theorem zd_Mo_exchange_68 : decode zo_Mo_exchange 68 = .ok (.aload_n 0, 1) := by decide +kernel
theorem zd_Mo_exchange_69 : decode zo_Mo_exchange 69 = .ok (.getfield 54, 3) := by decide +kernel
theorem zd_Mo_exchange_72 : decode zo_Mo_exchange 72 = .ok (.iload 5, 2) := by decide +kernel
theorem zd_Mo_exchange_74 : decode zo_Mo_exchange 74 = .ok (.iaload, 1) := by decide +kernel
theorem zd_Mo_exchange_75 : decode zo_Mo_exchange 75 = .ok (.iload_n 3, 1) := by decide +kernel
theorem zd_Mo_exchange_76 : decode zo_Mo_exchange 76 = .ok (.if_icmp .ne 20, 3) := by decide +kernel
theorem zd_Mo_exchange_79 : decode zo_Mo_exchange 79 = .ok (.aload_n 0, 1) := by decide +kernel
theorem zd_Mo_exchange_80 : decode zo_Mo_exchange 80 = .ok (.getfield 45, 3) := by decide +kernel
theorem zd_Mo_exchange_83 : decode zo_Mo_exchange 83 = .ok (.iload 5, 2) := by decide +kernel
theorem zd_Mo_exchange_85 : decode zo_Mo_exchange 85 = .ok (.iconst 2, 1) := by decide +kernel
theorem zd_Mo_exchange_86 : decode zo_Mo_exchange 86 = .ok (.iastore, 1) := by decide +kernel
theorem zd_Mo_exchange_87 : decode zo_Mo_exchange 87 = .ok (.aload_n 0, 1) := by decide +kernel
theorem zd_Mo_exchange_88 : decode zo_Mo_exchange 88 = .ok (.iload 5, 2) := by decide +kernel
theorem zd_Mo_exchange_90 : decode zo_Mo_exchange 90 = .ok (.iconst 3, 1) := by decide +kernel
theorem zd_Mo_exchange_91 : decode zo_Mo_exchange 91 = .ok (.iload 4, 2) := by decide +kernel
theorem zd_Mo_exchange_93 : decode zo_Mo_exchange 93 = .ok (.invokevirtual 97, 3) := by decide +kernel
theorem zd_Mo_exchange_96 : decode zo_Mo_exchange 96 = .ok (.iinc 5 1, 3) := by decide +kernel
theorem zd_Mo_exchange_99 : decode zo_Mo_exchange 99 = .ok (.goto (-76), 3) := by decide +kernel
theorem zd_Mo_exchange_102 : decode zo_Mo_exchange 102 = .ok (.iload_n 2, 1) := by decide +kernel
theorem zd_Mo_exchange_103 : decode zo_Mo_exchange 103 = .ok (.istore 5, 2) := by decide +kernel
theorem zd_Mo_exchange_105 : decode zo_Mo_exchange 105 = .ok (.iload 5, 2) := by decide +kernel
theorem zd_Mo_exchange_107 : decode zo_Mo_exchange 107 = .ok (.iload_n 2, 1) := by decide +kernel
theorem zd_Mo_exchange_108 : decode zo_Mo_exchange 108 = .ok (.aload_n 0, 1) := by decide +kernel
theorem zd_Mo_exchange_109 : decode zo_Mo_exchange 109 = .ok (.getfield 81, 3) := by decide +kernel
theorem zd_Mo_exchange_112 : decode zo_Mo_exchange 112 = .ok (.iadd, 1) := by decide +kernel
theorem zd_Mo_exchange_113 : decode zo_Mo_exchange 113 = .ok (.if_icmp .ge 59, 3) := by decide +kernel
theorem zd_Mo_exchange_116 : decode zo_Mo_exchange 116 = .ok (.aload_n 0, 1) := by decide +kernel
theorem zd_Mo_exchange_117 : decode zo_Mo_exchange 117 = .ok (.getfield 77, 3) := by decide +kernel
theorem zd_Mo_exchange_120 : decode zo_Mo_exchange 120 = .ok (.ifCond .eq 52, 3) := by decide +kernel
theorem zd_Mo_exchange_123 : decode zo_Mo_exchange 123 = .ok (.iload_n 3, 1) := by decide +kernel
theorem zd_Mo_exchange_124 : decode zo_Mo_exchange 124 = .ok (.ifCond .ne 48, 3) := by decide +kernel
theorem zd_Mo_exchange_127 : decode zo_Mo_exchange 127 = .ok (.aload_n 0, 1) := by decide +kernel
theorem zd_Mo_exchange_128 : decode zo_Mo_exchange 128 = .ok (.getfield 48, 3) := by decide +kernel
theorem zd_Mo_exchange_131 : decode zo_Mo_exchange 131 = .ok (.iload 5, 2) := by decide +kernel
theorem zd_Mo_exchange_133 : decode zo_Mo_exchange 133 = .ok (.iaload, 1) := by decide +kernel
theorem zd_Mo_exchange_134 : decode zo_Mo_exchange 134 = .ok (.iload_n 1, 1) := by decide +kernel
theorem zd_Mo_exchange_135 : decode zo_Mo_exchange 135 = .ok (.if_icmp .ne 31, 3) := by decide +kernel
theorem zd_Mo_exchange_138 : decode zo_Mo_exchange 138 = .ok (.aload_n 0, 1) := by decide +kernel
theorem zd_Mo_exchange_139 : decode zo_Mo_exchange 139 = .ok (.getfield 45, 3) := by decide +kernel
theorem zd_Mo_exchange_142 : decode zo_Mo_exchange 142 = .ok (.iload 5, 2) := by decide +kernel
theorem zd_Mo_exchange_144 : decode zo_Mo_exchange 144 = .ok (.iaload, 1) := by decide +kernel
theorem zd_Mo_exchange_145 : decode zo_Mo_exchange 145 = .ok (.iconst 1, 1) := by decide +kernel
theorem zd_Mo_exchange_146 : decode zo_Mo_exchange 146 = .ok (.if_icmp .ne 20, 3) := by decide +kernel
theorem zd_Mo_exchange_149 : decode zo_Mo_exchange 149 = .ok (.aload_n 0, 1) := by decide +kernel
theorem zd_Mo_exchange_150 : decode zo_Mo_exchange 150 = .ok (.getfield 45, 3) := by decide +kernel
theorem zd_Mo_exchange_153 : decode zo_Mo_exchange 153 = .ok (.iload 5, 2) := by decide +kernel
theorem zd_Mo_exchange_155 : decode zo_Mo_exchange 155 = .ok (.iconst 3, 1) := by decide +kernel
theorem zd_Mo_exchange_156 : decode zo_Mo_exchange 156 = .ok (.iastore, 1) := by decide +kernel
theorem zd_Mo_exchange_157 : decode zo_Mo_exchange 157 = .ok (.aload_n 0, 1) := by decide +kernel
theorem zd_Mo_exchange_158 : decode zo_Mo_exchange 158 = .ok (.iload 5, 2) := by decide +kernel
theorem zd_Mo_exchange_160 : decode zo_Mo_exchange 160 = .ok (.iconst 4, 1) := by decide +kernel
theorem zd_Mo_exchange_161 : decode zo_Mo_exchange 161 = .ok (.iload 4, 2) := by decide +kernel
theorem zd_Mo_exchange_163 : decode zo_Mo_exchange 163 = .ok (.invokevirtual 97, 3) := by decide +kernel
theorem zd_Mo_exchange_166 : decode zo_Mo_exchange 166 = .ok (.iinc 5 1, 3) := by decide +kernel
theorem zd_Mo_exchange_169 : decode zo_Mo_exchange 169 = .ok (.goto (-64), 3) := by decide +kernel
theorem zd_Mo_exchange_172 : decode zo_Mo_exchange 172 = .ok (.iload_n 2, 1) := by decide +kernel
theorem zd_Mo_exchange_173 : decode zo_Mo_exchange 173 = .ok (.istore 5, 2) := by decide +kernel
theorem zd_Mo_exchange_175 : decode zo_Mo_exchange 175 = .ok (.iload 5, 2) := by decide +kernel
theorem zd_Mo_exchange_177 : decode zo_Mo_exchange 177 = .ok (.iload_n 2, 1) := by decide +kernel
theorem zd_Mo_exchange_178 : decode zo_Mo_exchange 178 = .ok (.aload_n 0, 1) := by decide +kernel
theorem zd_Mo_exchange_179 : decode zo_Mo_exchange 179 = .ok (.getfield 81, 3) := by decide +kernel
theorem zd_Mo_exchange_182 : decode zo_Mo_exchange 182 = .ok (.iadd, 1) := by decide +kernel
theorem zd_Mo_exchange_183 : decode zo_Mo_exchange 183 = .ok (.if_icmp .ge 82, 3) := by decide +kernel
theorem zd_Mo_exchange_186 : decode zo_Mo_exchange 186 = .ok (.aload_n 0, 1) := by decide +kernel
theorem zd_Mo_exchange_187 : decode zo_Mo_exchange 187 = .ok (.getfield 77, 3) := by decide +kernel
theorem zd_Mo_exchange_190 : decode zo_Mo_exchange 190 = .ok (.ifCond .ne 75, 3) := by decide +kernel
theorem zd_Mo_exchange_193 : decode zo_Mo_exchange 193 = .ok (.aload_n 0, 1) := by decide +kernel
theorem zd_Mo_exchange_194 : decode zo_Mo_exchange 194 = .ok (.getfield 48, 3) := by decide +kernel
theorem zd_Mo_exchange_197 : decode zo_Mo_exchange 197 = .ok (.iload 5, 2) := by decide +kernel
theorem zd_Mo_exchange_199 : decode zo_Mo_exchange 199 = .ok (.iaload, 1) := by decide +kernel
theorem zd_Mo_exchange_200 : decode zo_Mo_exchange 200 = .ok (.iload_n 1, 1) := by decide +kernel
theorem zd_Mo_exchange_201 : decode zo_Mo_exchange 201 = .ok (.if_icmp .ne 58, 3) := by decide +kernel
theorem zd_Mo_exchange_204 : decode zo_Mo_exchange 204 = .ok (.aload_n 0, 1) := by decide +kernel
theorem zd_Mo_exchange_205 : decode zo_Mo_exchange 205 = .ok (.getfield 45, 3) := by decide +kernel
theorem zd_Mo_exchange_208 : decode zo_Mo_exchange 208 = .ok (.iload 5, 2) := by decide +kernel
theorem zd_Mo_exchange_210 : decode zo_Mo_exchange 210 = .ok (.iaload, 1) := by decide +kernel
theorem zd_Mo_exchange_211 : decode zo_Mo_exchange 211 = .ok (.ifCond .ne 48, 3) := by decide +kernel
theorem zd_Mo_exchange_214 : decode zo_Mo_exchange 214 = .ok (.aload_n 0, 1) := by decide +kernel
theorem zd_Mo_exchange_215 : decode zo_Mo_exchange 215 = .ok (.getfield 51, 3) := by decide +kernel
theorem zd_Mo_exchange_218 : decode zo_Mo_exchange 218 = .ok (.iload 5, 2) := by decide +kernel
theorem zd_Mo_exchange_220 : decode zo_Mo_exchange 220 = .ok (.iaload, 1) := by decide +kernel
theorem zd_Mo_exchange_221 : decode zo_Mo_exchange 221 = .ok (.iload_n 3, 1) := by decide +kernel
theorem zd_Mo_exchange_222 : decode zo_Mo_exchange 222 = .ok (.if_icmp .ne 37, 3) := by decide +kernel
theorem zd_Mo_exchange_225 : decode zo_Mo_exchange 225 = .ok (.aload_n 0, 1) := by decide +kernel
theorem zd_Mo_exchange_226 : decode zo_Mo_exchange 226 = .ok (.iload_n 1, 1) := by decide +kernel
theorem zd_Mo_exchange_227 : decode zo_Mo_exchange 227 = .ok (.iload_n 2, 1) := by decide +kernel
theorem zd_Mo_exchange_228 : decode zo_Mo_exchange 228 = .ok (.invokevirtual 90, 3) := by decide +kernel
theorem zd_Mo_exchange_231 : decode zo_Mo_exchange 231 = .ok (.aload_n 0, 1) := by decide +kernel
theorem zd_Mo_exchange_232 : decode zo_Mo_exchange 232 = .ok (.getfield 16, 3) := by decide +kernel
theorem zd_Mo_exchange_235 : decode zo_Mo_exchange 235 = .ok (.if_icmp .ge 24, 3) := by decide +kernel
theorem zd_Mo_exchange_238 : decode zo_Mo_exchange 238 = .ok (.aload_n 0, 1) := by decide +kernel
theorem zd_Mo_exchange_239 : decode zo_Mo_exchange 239 = .ok (.getfield 45, 3) := by decide +kernel
theorem zd_Mo_exchange_242 : decode zo_Mo_exchange 242 = .ok (.iload 5, 2) := by decide +kernel
theorem zd_Mo_exchange_244 : decode zo_Mo_exchange 244 = .ok (.iconst 1, 1) := by decide +kernel
theorem zd_Mo_exchange_245 : decode zo_Mo_exchange 245 = .ok (.iastore, 1) := by decide +kernel
theorem zd_Mo_exchange_246 : decode zo_Mo_exchange 246 = .ok (.iload 4, 2) := by decide +kernel
theorem zd_Mo_exchange_248 : decode zo_Mo_exchange 248 = .ok (.ifCond .eq 11, 3) := by decide +kernel
theorem zd_Mo_exchange_251 : decode zo_Mo_exchange 251 = .ok (.aload_n 0, 1) := by decide +kernel
theorem zd_Mo_exchange_252 : decode zo_Mo_exchange 252 = .ok (.iconst 2, 1) := by decide +kernel
theorem zd_Mo_exchange_253 : decode zo_Mo_exchange 253 = .ok (.iload 5, 2) := by decide +kernel
theorem zd_Mo_exchange_255 : decode zo_Mo_exchange 255 = .ok (.iload_n 1, 1) := by decide +kernel
theorem zd_Mo_exchange_256 : decode zo_Mo_exchange 256 = .ok (.invokevirtual 101, 3) := by decide +kernel
theorem zd_Mo_exchange_259 : decode zo_Mo_exchange 259 = .ok (.iinc 5 1, 3) := by decide +kernel
theorem zd_Mo_exchange_262 : decode zo_Mo_exchange 262 = .ok (.goto (-87), 3) := by decide +kernel
theorem zd_Mo_exchange_265 : decode zo_Mo_exchange 265 = .ok (.return_, 1) := by decide +kernel
abbrev zo_Mo_closed : ByteArray := prog_7_method_14_code
abbrev zy_Mo_closed : MethodName := ⟨"LiftGroupModel", "closed", "(II)V"⟩
theorem zd_Mo_closed_0 : decode zo_Mo_closed 0 = .ok (.aload_n 0, 1) := by decide +kernel
theorem zd_Mo_closed_1 : decode zo_Mo_closed 1 = .ok (.iload_n 1, 1) := by decide +kernel
theorem zd_Mo_closed_2 : decode zo_Mo_closed 2 = .ok (.invokevirtual 105, 3) := by decide +kernel
theorem zd_Mo_closed_5 : decode zo_Mo_closed 5 = .ok (.ifCond .eq 35, 3) := by decide +kernel
theorem zd_Mo_closed_8 : decode zo_Mo_closed 8 = .ok (.aload_n 0, 1) := by decide +kernel
theorem zd_Mo_closed_9 : decode zo_Mo_closed 9 = .ok (.iload_n 1, 1) := by decide +kernel
theorem zd_Mo_closed_10 : decode zo_Mo_closed 10 = .ok (.aload_n 0, 1) := by decide +kernel
theorem zd_Mo_closed_11 : decode zo_Mo_closed 11 = .ok (.getfield 19, 3) := by decide +kernel
theorem zd_Mo_closed_14 : decode zo_Mo_closed 14 = .ok (.iload_n 1, 1) := by decide +kernel
theorem zd_Mo_closed_15 : decode zo_Mo_closed 15 = .ok (.iaload, 1) := by decide +kernel
theorem zd_Mo_closed_16 : decode zo_Mo_closed 16 = .ok (.iconst 2, 1) := by decide +kernel
theorem zd_Mo_closed_17 : decode zo_Mo_closed 17 = .ok (.idiv, 1) := by decide +kernel
theorem zd_Mo_closed_18 : decode zo_Mo_closed 18 = .ok (.iload_n 2, 1) := by decide +kernel
theorem zd_Mo_closed_19 : decode zo_Mo_closed 19 = .ok (.invokevirtual 94, 3) := by decide +kernel
theorem zd_Mo_closed_22 : decode zo_Mo_closed 22 = .ok (.ifCond .eq 18, 3) := by decide +kernel
theorem zd_Mo_closed_25 : decode zo_Mo_closed 25 = .ok (.aload_n 0, 1) := by decide +kernel
theorem zd_Mo_closed_26 : decode zo_Mo_closed 26 = .ok (.getfield 26, 3) := by decide +kernel
theorem zd_Mo_closed_29 : decode zo_Mo_closed 29 = .ok (.iload_n 1, 1) := by decide +kernel
theorem zd_Mo_closed_30 : decode zo_Mo_closed 30 = .ok (.iconst 1, 1) := by decide +kernel
theorem zd_Mo_closed_31 : decode zo_Mo_closed 31 = .ok (.iastore, 1) := by decide +kernel
theorem zd_Mo_closed_32 : decode zo_Mo_closed 32 = .ok (.aload_n 0, 1) := by decide +kernel
theorem zd_Mo_closed_33 : decode zo_Mo_closed 33 = .ok (.getfield 29, 3) := by decide +kernel
theorem zd_Mo_closed_36 : decode zo_Mo_closed 36 = .ok (.iload_n 1, 1) := by decide +kernel
theorem zd_Mo_closed_37 : decode zo_Mo_closed 37 = .ok (.iconst 3, 1) := by decide +kernel
theorem zd_Mo_closed_38 : decode zo_Mo_closed 38 = .ok (.iastore, 1) := by decide +kernel
theorem zd_Mo_closed_39 : decode zo_Mo_closed 39 = .ok (.return_, 1) := by decide +kernel
theorem zd_Mo_closed_40 : decode zo_Mo_closed 40 = .ok (.aload_n 0, 1) := by decide +kernel
theorem zd_Mo_closed_41 : decode zo_Mo_closed 41 = .ok (.iload_n 1, 1) := by decide +kernel
theorem zd_Mo_closed_42 : decode zo_Mo_closed 42 = .ok (.iload_n 2, 1) := by decide +kernel
theorem zd_Mo_closed_43 : decode zo_Mo_closed 43 = .ok (.invokevirtual 109, 3) := by decide +kernel
theorem zd_Mo_closed_46 : decode zo_Mo_closed 46 = .ok (.istore_n 3, 1) := by decide +kernel
theorem zd_Mo_closed_47 : decode zo_Mo_closed 47 = .ok (.iload_n 3, 1) := by decide +kernel
theorem zd_Mo_closed_48 : decode zo_Mo_closed 48 = .ok (.ifCond .ne 11, 3) := by decide +kernel
theorem zd_Mo_closed_51 : decode zo_Mo_closed 51 = .ok (.aload_n 0, 1) := by decide +kernel
theorem zd_Mo_closed_52 : decode zo_Mo_closed 52 = .ok (.getfield 23, 3) := by decide +kernel
theorem zd_Mo_closed_55 : decode zo_Mo_closed 55 = .ok (.iload_n 1, 1) := by decide +kernel
theorem zd_Mo_closed_56 : decode zo_Mo_closed 56 = .ok (.iconst 0, 1) := by decide +kernel
theorem zd_Mo_closed_57 : decode zo_Mo_closed 57 = .ok (.iastore, 1) := by decide +kernel
theorem zd_Mo_closed_58 : decode zo_Mo_closed 58 = .ok (.return_, 1) := by decide +kernel
theorem zd_Mo_closed_59 : decode zo_Mo_closed 59 = .ok (.aload_n 0, 1) := by decide +kernel
theorem zd_Mo_closed_60 : decode zo_Mo_closed 60 = .ok (.getfield 23, 3) := by decide +kernel
theorem zd_Mo_closed_63 : decode zo_Mo_closed 63 = .ok (.iload_n 1, 1) := by decide +kernel
theorem zd_Mo_closed_64 : decode zo_Mo_closed 64 = .ok (.iaload, 1) := by decide +kernel
theorem zd_Mo_closed_65 : decode zo_Mo_closed 65 = .ok (.istore 4, 2) := by decide +kernel
theorem zd_Mo_closed_67 : decode zo_Mo_closed 67 = .ok (.aload_n 0, 1) := by decide +kernel
theorem zd_Mo_closed_68 : decode zo_Mo_closed 68 = .ok (.getfield 23, 3) := by decide +kernel
theorem zd_Mo_closed_71 : decode zo_Mo_closed 71 = .ok (.iload_n 1, 1) := by decide +kernel
theorem zd_Mo_closed_72 : decode zo_Mo_closed 72 = .ok (.iload 4, 2) := by decide +kernel
theorem zd_Mo_closed_74 : decode zo_Mo_closed 74 = .ok (.ifCond .ne 7, 3) := by decide +kernel
theorem zd_Mo_closed_77 : decode zo_Mo_closed 77 = .ok (.iload_n 3, 1) := by decide +kernel
theorem zd_Mo_closed_78 : decode zo_Mo_closed 78 = .ok (.goto 22, 3) := by decide +kernel
theorem zd_Mo_closed_81 : decode zo_Mo_closed 81 = .ok (.aload_n 0, 1) := by decide +kernel
theorem zd_Mo_closed_82 : decode zo_Mo_closed 82 = .ok (.iload_n 1, 1) := by decide +kernel
theorem zd_Mo_closed_83 : decode zo_Mo_closed 83 = .ok (.iload 4, 2) := by decide +kernel
theorem zd_Mo_closed_85 : decode zo_Mo_closed 85 = .ok (.iload_n 2, 1) := by decide +kernel
theorem zd_Mo_closed_86 : decode zo_Mo_closed 86 = .ok (.invokevirtual 112, 3) := by decide +kernel
theorem zd_Mo_closed_89 : decode zo_Mo_closed 89 = .ok (.ifCond .eq 8, 3) := by decide +kernel
theorem zd_Mo_closed_92 : decode zo_Mo_closed 92 = .ok (.iload 4, 2) := by decide +kernel
theorem zd_Mo_closed_94 : decode zo_Mo_closed 94 = .ok (.goto 6, 3) := by decide +kernel
theorem zd_Mo_closed_97 : decode zo_Mo_closed 97 = .ok (.iload 4, 2) := by decide +kernel
theorem zd_Mo_closed_99 : decode zo_Mo_closed 99 = .ok (.ineg, 1) := by decide +kernel
theorem zd_Mo_closed_100 : decode zo_Mo_closed 100 = .ok (.iastore, 1) := by decide +kernel
theorem zd_Mo_closed_101 : decode zo_Mo_closed 101 = .ok (.aload_n 0, 1) := by decide +kernel
theorem zd_Mo_closed_102 : decode zo_Mo_closed 102 = .ok (.getfield 19, 3) := by decide +kernel
theorem zd_Mo_closed_105 : decode zo_Mo_closed 105 = .ok (.iload_n 1, 1) := by decide +kernel
theorem zd_Mo_closed_106 : decode zo_Mo_closed 106 = .ok (.dup2, 1) := by decide +kernel
theorem zd_Mo_closed_107 : decode zo_Mo_closed 107 = .ok (.iaload, 1) := by decide +kernel
theorem zd_Mo_closed_108 : decode zo_Mo_closed 108 = .ok (.aload_n 0, 1) := by decide +kernel
theorem zd_Mo_closed_109 : decode zo_Mo_closed 109 = .ok (.getfield 23, 3) := by decide +kernel
theorem zd_Mo_closed_112 : decode zo_Mo_closed 112 = .ok (.iload_n 1, 1) := by decide +kernel
theorem zd_Mo_closed_113 : decode zo_Mo_closed 113 = .ok (.iaload, 1) := by decide +kernel
theorem zd_Mo_closed_114 : decode zo_Mo_closed 114 = .ok (.iadd, 1) := by decide +kernel
theorem zd_Mo_closed_115 : decode zo_Mo_closed 115 = .ok (.iastore, 1) := by decide +kernel
theorem zd_Mo_closed_116 : decode zo_Mo_closed 116 = .ok (.return_, 1) := by decide +kernel
abbrev zo_Mo_open : ByteArray := prog_7_method_15_code
abbrev zy_Mo_open : MethodName := ⟨"LiftGroupModel", "open", "(II)V"⟩
theorem zd_Mo_open_0 : decode zo_Mo_open 0 = .ok (.aload_n 0, 1) := by decide +kernel
theorem zd_Mo_open_1 : decode zo_Mo_open 1 = .ok (.iload_n 1, 1) := by decide +kernel
theorem zd_Mo_open_2 : decode zo_Mo_open 2 = .ok (.iload_n 2, 1) := by decide +kernel
theorem zd_Mo_open_3 : decode zo_Mo_open 3 = .ok (.invokevirtual 115, 3) := by decide +kernel
theorem zd_Mo_open_6 : decode zo_Mo_open 6 = .ok (.aload_n 0, 1) := by decide +kernel
theorem zd_Mo_open_7 : decode zo_Mo_open 7 = .ok (.getfield 32, 3) := by decide +kernel
theorem zd_Mo_open_10 : decode zo_Mo_open 10 = .ok (.iload_n 1, 1) := by decide +kernel
theorem zd_Mo_open_11 : decode zo_Mo_open 11 = .ok (.dup2, 1) := by decide +kernel
theorem zd_Mo_open_12 : decode zo_Mo_open 12 = .ok (.iaload, 1) := by decide +kernel
theorem zd_Mo_open_13 : decode zo_Mo_open 13 = .ok (.iconst 1, 1) := by decide +kernel
theorem zd_Mo_open_14 : decode zo_Mo_open 14 = .ok (.iadd, 1) := by decide +kernel
theorem zd_Mo_open_15 : decode zo_Mo_open 15 = .ok (.iastore, 1) := by decide +kernel
theorem zd_Mo_open_16 : decode zo_Mo_open 16 = .ok (.aload_n 0, 1) := by decide +kernel
theorem zd_Mo_open_17 : decode zo_Mo_open 17 = .ok (.getfield 77, 3) := by decide +kernel
theorem zd_Mo_open_20 : decode zo_Mo_open 20 = .ok (.ifCond .eq 12, 3) := by decide +kernel
theorem zd_Mo_open_23 : decode zo_Mo_open 23 = .ok (.aload_n 0, 1) := by decide +kernel
theorem zd_Mo_open_24 : decode zo_Mo_open 24 = .ok (.getfield 19, 3) := by decide +kernel
theorem zd_Mo_open_27 : decode zo_Mo_open 27 = .ok (.iload_n 1, 1) := by decide +kernel
theorem zd_Mo_open_28 : decode zo_Mo_open 28 = .ok (.iaload, 1) := by decide +kernel
theorem zd_Mo_open_29 : decode zo_Mo_open 29 = .ok (.ifCond .eq 23, 3) := by decide +kernel
theorem zd_Mo_open_32 : decode zo_Mo_open 32 = .ok (.aload_n 0, 1) := by decide +kernel
theorem zd_Mo_open_33 : decode zo_Mo_open 33 = .ok (.getfield 42, 3) := by decide +kernel
theorem zd_Mo_open_36 : decode zo_Mo_open 36 = .ok (.iload_n 1, 1) := by decide +kernel
theorem zd_Mo_open_37 : decode zo_Mo_open 37 = .ok (.baload, 1) := by decide +kernel
theorem zd_Mo_open_38 : decode zo_Mo_open 38 = .ok (.ifCond .eq 18, 3) := by decide +kernel
theorem zd_Mo_open_41 : decode zo_Mo_open 41 = .ok (.aload_n 0, 1) := by decide +kernel
theorem zd_Mo_open_42 : decode zo_Mo_open 42 = .ok (.getfield 32, 3) := by decide +kernel
theorem zd_Mo_open_45 : decode zo_Mo_open 45 = .ok (.iload_n 1, 1) := by decide +kernel
theorem zd_Mo_open_46 : decode zo_Mo_open 46 = .ok (.iaload, 1) := by decide +kernel
theorem zd_Mo_open_47 : decode zo_Mo_open 47 = .ok (.bipush 20, 2) := by decide +kernel
theorem zd_Mo_open_49 : decode zo_Mo_open 49 = .ok (.if_icmp .gt 7, 3) := by decide +kernel
theorem zd_Mo_open_52 : decode zo_Mo_open 52 = .ok (.iconst 1, 1) := by decide +kernel
theorem zd_Mo_open_53 : decode zo_Mo_open 53 = .ok (.goto 4, 3) := by decide +kernel
theorem zd_Mo_open_56 : decode zo_Mo_open 56 = .ok (.iconst 0, 1) := by decide +kernel
theorem zd_Mo_open_57 : decode zo_Mo_open 57 = .ok (.istore_n 3, 1) := by decide +kernel
theorem zd_Mo_open_58 : decode zo_Mo_open 58 = .ok (.iload_n 3, 1) := by decide +kernel
theorem zd_Mo_open_59 : decode zo_Mo_open 59 = .ok (.ifCond .eq 4, 3) := by decide +kernel
theorem zd_Mo_open_62 : decode zo_Mo_open 62 = .ok (.return_, 1) := by decide +kernel
theorem zd_Mo_open_63 : decode zo_Mo_open 63 = .ok (.aload_n 0, 1) := by decide +kernel
theorem zd_Mo_open_64 : decode zo_Mo_open 64 = .ok (.getfield 29, 3) := by decide +kernel
theorem zd_Mo_open_67 : decode zo_Mo_open 67 = .ok (.iload_n 1, 1) := by decide +kernel
theorem zd_Mo_open_68 : decode zo_Mo_open 68 = .ok (.dup2, 1) := by decide +kernel
theorem zd_Mo_open_69 : decode zo_Mo_open 69 = .ok (.iaload, 1) := by decide +kernel
theorem zd_Mo_open_70 : decode zo_Mo_open 70 = .ok (.iconst 1, 1) := by decide +kernel
theorem zd_Mo_open_71 : decode zo_Mo_open 71 = .ok (.isub, 1) := by decide +kernel
theorem zd_Mo_open_72 : decode zo_Mo_open 72 = .ok (.iastore, 1) := by decide +kernel
theorem zd_Mo_open_73 : decode zo_Mo_open 73 = .ok (.aload_n 0, 1) := by decide +kernel
theorem zd_Mo_open_74 : decode zo_Mo_open 74 = .ok (.getfield 29, 3) := by decide +kernel
theorem zd_Mo_open_77 : decode zo_Mo_open 77 = .ok (.iload_n 1, 1) := by decide +kernel
theorem zd_Mo_open_78 : decode zo_Mo_open 78 = .ok (.iaload, 1) := by decide +kernel
theorem zd_Mo_open_79 : decode zo_Mo_open 79 = .ok (.ifCond .ne 44, 3) := by decide +kernel
theorem zd_Mo_open_82 : decode zo_Mo_open 82 = .ok (.aload_n 0, 1) := by decide +kernel
theorem zd_Mo_open_83 : decode zo_Mo_open 83 = .ok (.getfield 26, 3) := by decide +kernel
theorem zd_Mo_open_86 : decode zo_Mo_open 86 = .ok (.iload_n 1, 1) := by decide +kernel
theorem zd_Mo_open_87 : decode zo_Mo_open 87 = .ok (.aload_n 0, 1) := by decide +kernel
theorem zd_Mo_open_88 : decode zo_Mo_open 88 = .ok (.getfield 42, 3) := by decide +kernel
theorem zd_Mo_open_91 : decode zo_Mo_open 91 = .ok (.iload_n 1, 1) := by decide +kernel
theorem zd_Mo_open_92 : decode zo_Mo_open 92 = .ok (.baload, 1) := by decide +kernel
theorem zd_Mo_open_93 : decode zo_Mo_open 93 = .ok (.ifCond .eq 7, 3) := by decide +kernel
theorem zd_Mo_open_96 : decode zo_Mo_open 96 = .ok (.iconst 4, 1) := by decide +kernel
theorem zd_Mo_open_97 : decode zo_Mo_open 97 = .ok (.goto 4, 3) := by decide +kernel
theorem zd_Mo_open_100 : decode zo_Mo_open 100 = .ok (.iconst 3, 1) := by decide +kernel
theorem zd_Mo_open_101 : decode zo_Mo_open 101 = .ok (.iastore, 1) := by decide +kernel
theorem zd_Mo_open_102 : decode zo_Mo_open 102 = .ok (.aload_n 0, 1) := by decide +kernel
theorem zd_Mo_open_103 : decode zo_Mo_open 103 = .ok (.getfield 29, 3) := by decide +kernel
theorem zd_Mo_open_106 : decode zo_Mo_open 106 = .ok (.iload_n 1, 1) := by decide +kernel
theorem zd_Mo_open_107 : decode zo_Mo_open 107 = .ok (.aload_n 0, 1) := by decide +kernel
theorem zd_Mo_open_108 : decode zo_Mo_open 108 = .ok (.getfield 42, 3) := by decide +kernel
theorem zd_Mo_open_111 : decode zo_Mo_open 111 = .ok (.iload_n 1, 1) := by decide +kernel
theorem zd_Mo_open_112 : decode zo_Mo_open 112 = .ok (.baload, 1) := by decide +kernel
theorem zd_Mo_open_113 : decode zo_Mo_open 113 = .ok (.ifCond .eq 8, 3) := by decide +kernel
theorem zd_Mo_open_116 : decode zo_Mo_open 116 = .ok (.bipush 6, 2) := by decide +kernel
theorem zd_Mo_open_118 : decode zo_Mo_open 118 = .ok (.goto 4, 3) := by decide +kernel
theorem zd_Mo_open_121 : decode zo_Mo_open 121 = .ok (.iconst 3, 1) := by decide +kernel
theorem zd_Mo_open_122 : decode zo_Mo_open 122 = .ok (.iastore, 1) := by decide +kernel
theorem zd_Mo_open_123 : decode zo_Mo_open 123 = .ok (.return_, 1) := by decide +kernel
abbrev zo_Mo_stepCar : ByteArray := prog_7_method_16_code
abbrev zy_Mo_stepCar : MethodName := ⟨"LiftGroupModel", "stepCar", "(II)V"⟩
theorem zd_Mo_stepCar_0 : decode zo_Mo_stepCar 0 = .ok (.aload_n 0, 1) := by decide +kernel
theorem zd_Mo_stepCar_1 : decode zo_Mo_stepCar 1 = .ok (.getfield 26, 3) := by decide +kernel
theorem zd_Mo_stepCar_4 : decode zo_Mo_stepCar 4 = .ok (.iload_n 1, 1) := by decide +kernel
theorem zd_Mo_stepCar_5 : decode zo_Mo_stepCar 5 = .ok (.iaload, 1) := by decide +kernel
theorem zd_Mo_stepCar_6 : decode zo_Mo_stepCar 6 = .ok (.tableswitch 93 0 2 #[26, 35, 84], 26) := by decide +kernel
theorem zd_Mo_stepCar_32 : decode zo_Mo_stepCar 32 = .ok (.aload_n 0, 1) := by decide +kernel
theorem zd_Mo_stepCar_33 : decode zo_Mo_stepCar 33 = .ok (.iload_n 1, 1) := by decide +kernel
theorem zd_Mo_stepCar_34 : decode zo_Mo_stepCar 34 = .ok (.iload_n 2, 1) := by decide +kernel
theorem zd_Mo_stepCar_35 : decode zo_Mo_stepCar 35 = .ok (.invokevirtual 119, 3) := by decide +kernel
theorem zd_Mo_stepCar_38 : decode zo_Mo_stepCar 38 = .ok (.goto 133, 3) := by decide +kernel
theorem zd_Mo_stepCar_41 : decode zo_Mo_stepCar 41 = .ok (.aload_n 0, 1) := by decide +kernel
theorem zd_Mo_stepCar_42 : decode zo_Mo_stepCar 42 = .ok (.getfield 29, 3) := by decide +kernel
theorem zd_Mo_stepCar_45 : decode zo_Mo_stepCar 45 = .ok (.iload_n 1, 1) := by decide +kernel
theorem zd_Mo_stepCar_46 : decode zo_Mo_stepCar 46 = .ok (.dup2, 1) := by decide +kernel
theorem zd_Mo_stepCar_47 : decode zo_Mo_stepCar 47 = .ok (.iaload, 1) := by decide +kernel
theorem zd_Mo_stepCar_48 : decode zo_Mo_stepCar 48 = .ok (.iconst 1, 1) := by decide +kernel
theorem zd_Mo_stepCar_49 : decode zo_Mo_stepCar 49 = .ok (.isub, 1) := by decide +kernel
theorem zd_Mo_stepCar_50 : decode zo_Mo_stepCar 50 = .ok (.iastore, 1) := by decide +kernel
theorem zd_Mo_stepCar_51 : decode zo_Mo_stepCar 51 = .ok (.aload_n 0, 1) := by decide +kernel
theorem zd_Mo_stepCar_52 : decode zo_Mo_stepCar 52 = .ok (.getfield 29, 3) := by decide +kernel
theorem zd_Mo_stepCar_55 : decode zo_Mo_stepCar 55 = .ok (.iload_n 1, 1) := by decide +kernel
theorem zd_Mo_stepCar_56 : decode zo_Mo_stepCar 56 = .ok (.iaload, 1) := by decide +kernel
theorem zd_Mo_stepCar_57 : decode zo_Mo_stepCar 57 = .ok (.ifCond .ne 114, 3) := by decide +kernel
theorem zd_Mo_stepCar_60 : decode zo_Mo_stepCar 60 = .ok (.aload_n 0, 1) := by decide +kernel
theorem zd_Mo_stepCar_61 : decode zo_Mo_stepCar 61 = .ok (.getfield 26, 3) := by decide +kernel
theorem zd_Mo_stepCar_64 : decode zo_Mo_stepCar 64 = .ok (.iload_n 1, 1) := by decide +kernel
theorem zd_Mo_stepCar_65 : decode zo_Mo_stepCar 65 = .ok (.iconst 2, 1) := by decide +kernel
theorem zd_Mo_stepCar_66 : decode zo_Mo_stepCar 66 = .ok (.iastore, 1) := by decide +kernel
theorem zd_Mo_stepCar_67 : decode zo_Mo_stepCar 67 = .ok (.aload_n 0, 1) := by decide +kernel
theorem zd_Mo_stepCar_68 : decode zo_Mo_stepCar 68 = .ok (.getfield 29, 3) := by decide +kernel
theorem zd_Mo_stepCar_71 : decode zo_Mo_stepCar 71 = .ok (.iload_n 1, 1) := by decide +kernel
theorem zd_Mo_stepCar_72 : decode zo_Mo_stepCar 72 = .ok (.iconst 4, 1) := by decide +kernel
theorem zd_Mo_stepCar_73 : decode zo_Mo_stepCar 73 = .ok (.iastore, 1) := by decide +kernel
theorem zd_Mo_stepCar_74 : decode zo_Mo_stepCar 74 = .ok (.aload_n 0, 1) := by decide +kernel
theorem zd_Mo_stepCar_75 : decode zo_Mo_stepCar 75 = .ok (.getfield 32, 3) := by decide +kernel
theorem zd_Mo_stepCar_78 : decode zo_Mo_stepCar 78 = .ok (.iload_n 1, 1) := by decide +kernel
theorem zd_Mo_stepCar_79 : decode zo_Mo_stepCar 79 = .ok (.iconst 0, 1) := by decide +kernel
theorem zd_Mo_stepCar_80 : decode zo_Mo_stepCar 80 = .ok (.iastore, 1) := by decide +kernel
theorem zd_Mo_stepCar_81 : decode zo_Mo_stepCar 81 = .ok (.aload_n 0, 1) := by decide +kernel
theorem zd_Mo_stepCar_82 : decode zo_Mo_stepCar 82 = .ok (.iload_n 1, 1) := by decide +kernel
theorem zd_Mo_stepCar_83 : decode zo_Mo_stepCar 83 = .ok (.iload_n 2, 1) := by decide +kernel
theorem zd_Mo_stepCar_84 : decode zo_Mo_stepCar 84 = .ok (.invokevirtual 115, 3) := by decide +kernel
theorem zd_Mo_stepCar_87 : decode zo_Mo_stepCar 87 = .ok (.goto 84, 3) := by decide +kernel
theorem zd_Mo_stepCar_90 : decode zo_Mo_stepCar 90 = .ok (.aload_n 0, 1) := by decide +kernel
theorem zd_Mo_stepCar_91 : decode zo_Mo_stepCar 91 = .ok (.iload_n 1, 1) := by decide +kernel
theorem zd_Mo_stepCar_92 : decode zo_Mo_stepCar 92 = .ok (.iload_n 2, 1) := by decide +kernel
theorem zd_Mo_stepCar_93 : decode zo_Mo_stepCar 93 = .ok (.invokevirtual 122, 3) := by decide +kernel
theorem zd_Mo_stepCar_96 : decode zo_Mo_stepCar 96 = .ok (.goto 75, 3) := by decide +kernel
theorem zd_Mo_stepCar_99 : decode zo_Mo_stepCar 99 = .ok (.aload_n 0, 1) := by decide +kernel
theorem zd_Mo_stepCar_100 : decode zo_Mo_stepCar 100 = .ok (.getfield 26, 3) := by decide +kernel
theorem zd_Mo_stepCar_103 : decode zo_Mo_stepCar 103 = .ok (.iload_n 1, 1) := by decide +kernel
theorem zd_Mo_stepCar_104 : decode zo_Mo_stepCar 104 = .ok (.iaload, 1) := by decide +kernel
theorem zd_Mo_stepCar_105 : decode zo_Mo_stepCar 105 = .ok (.iconst 3, 1) := by decide +kernel
theorem zd_Mo_stepCar_106 : decode zo_Mo_stepCar 106 = .ok (.if_icmp .ne 16, 3) := by decide +kernel
theorem zd_Mo_stepCar_109 : decode zo_Mo_stepCar 109 = .ok (.aload_n 0, 1) := by decide +kernel
theorem zd_Mo_stepCar_110 : decode zo_Mo_stepCar 110 = .ok (.getfield 42, 3) := by decide +kernel
theorem zd_Mo_stepCar_113 : decode zo_Mo_stepCar 113 = .ok (.iload_n 1, 1) := by decide +kernel
theorem zd_Mo_stepCar_114 : decode zo_Mo_stepCar 114 = .ok (.baload, 1) := by decide +kernel
theorem zd_Mo_stepCar_115 : decode zo_Mo_stepCar 115 = .ok (.ifCond .eq 7, 3) := by decide +kernel
theorem zd_Mo_stepCar_118 : decode zo_Mo_stepCar 118 = .ok (.iconst 1, 1) := by decide +kernel
theorem zd_Mo_stepCar_119 : decode zo_Mo_stepCar 119 = .ok (.goto 4, 3) := by decide +kernel
theorem zd_Mo_stepCar_122 : decode zo_Mo_stepCar 122 = .ok (.iconst 0, 1) := by decide +kernel
theorem zd_Mo_stepCar_123 : decode zo_Mo_stepCar 123 = .ok (.istore_n 3, 1) := by decide +kernel
theorem zd_Mo_stepCar_124 : decode zo_Mo_stepCar 124 = .ok (.aload_n 0, 1) := by decide +kernel
theorem zd_Mo_stepCar_125 : decode zo_Mo_stepCar 125 = .ok (.getfield 29, 3) := by decide +kernel
theorem zd_Mo_stepCar_128 : decode zo_Mo_stepCar 128 = .ok (.iload_n 1, 1) := by decide +kernel
theorem zd_Mo_stepCar_129 : decode zo_Mo_stepCar 129 = .ok (.dup2, 1) := by decide +kernel
theorem zd_Mo_stepCar_130 : decode zo_Mo_stepCar 130 = .ok (.iaload, 1) := by decide +kernel
theorem zd_Mo_stepCar_131 : decode zo_Mo_stepCar 131 = .ok (.iconst 1, 1) := by decide +kernel
theorem zd_Mo_stepCar_132 : decode zo_Mo_stepCar 132 = .ok (.isub, 1) := by decide +kernel
theorem zd_Mo_stepCar_133 : decode zo_Mo_stepCar 133 = .ok (.iastore, 1) := by decide +kernel
theorem zd_Mo_stepCar_134 : decode zo_Mo_stepCar 134 = .ok (.iload_n 3, 1) := by decide +kernel
theorem zd_Mo_stepCar_135 : decode zo_Mo_stepCar 135 = .ok (.ifCond .eq 20, 3) := by decide +kernel
theorem zd_Mo_stepCar_138 : decode zo_Mo_stepCar 138 = .ok (.aload_n 0, 1) := by decide +kernel
theorem zd_Mo_stepCar_139 : decode zo_Mo_stepCar 139 = .ok (.getfield 26, 3) := by decide +kernel
theorem zd_Mo_stepCar_142 : decode zo_Mo_stepCar 142 = .ok (.iload_n 1, 1) := by decide +kernel
theorem zd_Mo_stepCar_143 : decode zo_Mo_stepCar 143 = .ok (.iconst 1, 1) := by decide +kernel
theorem zd_Mo_stepCar_144 : decode zo_Mo_stepCar 144 = .ok (.iastore, 1) := by decide +kernel
theorem zd_Mo_stepCar_145 : decode zo_Mo_stepCar 145 = .ok (.aload_n 0, 1) := by decide +kernel
theorem zd_Mo_stepCar_146 : decode zo_Mo_stepCar 146 = .ok (.getfield 29, 3) := by decide +kernel
theorem zd_Mo_stepCar_149 : decode zo_Mo_stepCar 149 = .ok (.iload_n 1, 1) := by decide +kernel
theorem zd_Mo_stepCar_150 : decode zo_Mo_stepCar 150 = .ok (.iconst 3, 1) := by decide +kernel
theorem zd_Mo_stepCar_151 : decode zo_Mo_stepCar 151 = .ok (.iastore, 1) := by decide +kernel
theorem zd_Mo_stepCar_152 : decode zo_Mo_stepCar 152 = .ok (.goto 19, 3) := by decide +kernel
theorem zd_Mo_stepCar_155 : decode zo_Mo_stepCar 155 = .ok (.aload_n 0, 1) := by decide +kernel
theorem zd_Mo_stepCar_156 : decode zo_Mo_stepCar 156 = .ok (.getfield 29, 3) := by decide +kernel
theorem zd_Mo_stepCar_159 : decode zo_Mo_stepCar 159 = .ok (.iload_n 1, 1) := by decide +kernel
theorem zd_Mo_stepCar_160 : decode zo_Mo_stepCar 160 = .ok (.iaload, 1) := by decide +kernel
theorem zd_Mo_stepCar_161 : decode zo_Mo_stepCar 161 = .ok (.ifCond .ne 10, 3) := by decide +kernel
theorem zd_Mo_stepCar_164 : decode zo_Mo_stepCar 164 = .ok (.aload_n 0, 1) := by decide +kernel
theorem zd_Mo_stepCar_165 : decode zo_Mo_stepCar 165 = .ok (.getfield 26, 3) := by decide +kernel
theorem zd_Mo_stepCar_168 : decode zo_Mo_stepCar 168 = .ok (.iload_n 1, 1) := by decide +kernel
theorem zd_Mo_stepCar_169 : decode zo_Mo_stepCar 169 = .ok (.iconst 0, 1) := by decide +kernel
theorem zd_Mo_stepCar_170 : decode zo_Mo_stepCar 170 = .ok (.iastore, 1) := by decide +kernel
theorem zd_Mo_stepCar_171 : decode zo_Mo_stepCar 171 = .ok (.return_, 1) := by decide +kernel
abbrev zo_Mo_copy : ByteArray := prog_7_method_17_code
abbrev zy_Mo_copy : MethodName := ⟨"LiftGroupModel", "copy", "(I)V"⟩
theorem zd_Mo_copy_0 : decode zo_Mo_copy 0 = .ok (.aload_n 0, 1) := by decide +kernel
theorem zd_Mo_copy_1 : decode zo_Mo_copy 1 = .ok (.getfield 19, 3) := by decide +kernel
theorem zd_Mo_copy_4 : decode zo_Mo_copy 4 = .ok (.iconst 4, 1) := by decide +kernel
theorem zd_Mo_copy_5 : decode zo_Mo_copy 5 = .ok (.aload_n 0, 1) := by decide +kernel
theorem zd_Mo_copy_6 : decode zo_Mo_copy 6 = .ok (.getfield 19, 3) := by decide +kernel
theorem zd_Mo_copy_9 : decode zo_Mo_copy 9 = .ok (.iload_n 1, 1) := by decide +kernel
theorem zd_Mo_copy_10 : decode zo_Mo_copy 10 = .ok (.iaload, 1) := by decide +kernel
theorem zd_Mo_copy_11 : decode zo_Mo_copy 11 = .ok (.iastore, 1) := by decide +kernel
theorem zd_Mo_copy_12 : decode zo_Mo_copy 12 = .ok (.aload_n 0, 1) := by decide +kernel
theorem zd_Mo_copy_13 : decode zo_Mo_copy 13 = .ok (.getfield 23, 3) := by decide +kernel
theorem zd_Mo_copy_16 : decode zo_Mo_copy 16 = .ok (.iconst 4, 1) := by decide +kernel
theorem zd_Mo_copy_17 : decode zo_Mo_copy 17 = .ok (.aload_n 0, 1) := by decide +kernel
theorem zd_Mo_copy_18 : decode zo_Mo_copy 18 = .ok (.getfield 23, 3) := by decide +kernel
theorem zd_Mo_copy_21 : decode zo_Mo_copy 21 = .ok (.iload_n 1, 1) := by decide +kernel
theorem zd_Mo_copy_22 : decode zo_Mo_copy 22 = .ok (.iaload, 1) := by decide +kernel
theorem zd_Mo_copy_23 : decode zo_Mo_copy 23 = .ok (.iastore, 1) := by decide +kernel
theorem zd_Mo_copy_24 : decode zo_Mo_copy 24 = .ok (.aload_n 0, 1) := by decide +kernel
theorem zd_Mo_copy_25 : decode zo_Mo_copy 25 = .ok (.getfield 26, 3) := by decide +kernel
theorem zd_Mo_copy_28 : decode zo_Mo_copy 28 = .ok (.iconst 4, 1) := by decide +kernel
theorem zd_Mo_copy_29 : decode zo_Mo_copy 29 = .ok (.aload_n 0, 1) := by decide +kernel
theorem zd_Mo_copy_30 : decode zo_Mo_copy 30 = .ok (.getfield 26, 3) := by decide +kernel
theorem zd_Mo_copy_33 : decode zo_Mo_copy 33 = .ok (.iload_n 1, 1) := by decide +kernel
theorem zd_Mo_copy_34 : decode zo_Mo_copy 34 = .ok (.iaload, 1) := by decide +kernel
theorem zd_Mo_copy_35 : decode zo_Mo_copy 35 = .ok (.iastore, 1) := by decide +kernel
theorem zd_Mo_copy_36 : decode zo_Mo_copy 36 = .ok (.aload_n 0, 1) := by decide +kernel
theorem zd_Mo_copy_37 : decode zo_Mo_copy 37 = .ok (.getfield 29, 3) := by decide +kernel
theorem zd_Mo_copy_40 : decode zo_Mo_copy 40 = .ok (.iconst 4, 1) := by decide +kernel
theorem zd_Mo_copy_41 : decode zo_Mo_copy 41 = .ok (.aload_n 0, 1) := by decide +kernel
theorem zd_Mo_copy_42 : decode zo_Mo_copy 42 = .ok (.getfield 29, 3) := by decide +kernel
theorem zd_Mo_copy_45 : decode zo_Mo_copy 45 = .ok (.iload_n 1, 1) := by decide +kernel
theorem zd_Mo_copy_46 : decode zo_Mo_copy 46 = .ok (.iaload, 1) := by decide +kernel
theorem zd_Mo_copy_47 : decode zo_Mo_copy 47 = .ok (.iastore, 1) := by decide +kernel
theorem zd_Mo_copy_48 : decode zo_Mo_copy 48 = .ok (.aload_n 0, 1) := by decide +kernel
theorem zd_Mo_copy_49 : decode zo_Mo_copy 49 = .ok (.getfield 32, 3) := by decide +kernel
theorem zd_Mo_copy_52 : decode zo_Mo_copy 52 = .ok (.iconst 4, 1) := by decide +kernel
theorem zd_Mo_copy_53 : decode zo_Mo_copy 53 = .ok (.aload_n 0, 1) := by decide +kernel
theorem zd_Mo_copy_54 : decode zo_Mo_copy 54 = .ok (.getfield 32, 3) := by decide +kernel
theorem zd_Mo_copy_57 : decode zo_Mo_copy 57 = .ok (.iload_n 1, 1) := by decide +kernel
theorem zd_Mo_copy_58 : decode zo_Mo_copy 58 = .ok (.iaload, 1) := by decide +kernel
theorem zd_Mo_copy_59 : decode zo_Mo_copy 59 = .ok (.iastore, 1) := by decide +kernel
theorem zd_Mo_copy_60 : decode zo_Mo_copy 60 = .ok (.aload_n 0, 1) := by decide +kernel
theorem zd_Mo_copy_61 : decode zo_Mo_copy 61 = .ok (.getfield 42, 3) := by decide +kernel
theorem zd_Mo_copy_64 : decode zo_Mo_copy 64 = .ok (.iconst 4, 1) := by decide +kernel
theorem zd_Mo_copy_65 : decode zo_Mo_copy 65 = .ok (.aload_n 0, 1) := by decide +kernel
theorem zd_Mo_copy_66 : decode zo_Mo_copy 66 = .ok (.getfield 42, 3) := by decide +kernel
theorem zd_Mo_copy_69 : decode zo_Mo_copy 69 = .ok (.iload_n 1, 1) := by decide +kernel
theorem zd_Mo_copy_70 : decode zo_Mo_copy 70 = .ok (.baload, 1) := by decide +kernel
theorem zd_Mo_copy_71 : decode zo_Mo_copy 71 = .ok (.bastore, 1) := by decide +kernel
theorem zd_Mo_copy_72 : decode zo_Mo_copy 72 = .ok (.iconst 0, 1) := by decide +kernel
theorem zd_Mo_copy_73 : decode zo_Mo_copy 73 = .ok (.istore_n 2, 1) := by decide +kernel
theorem zd_Mo_copy_74 : decode zo_Mo_copy 74 = .ok (.iload_n 2, 1) := by decide +kernel
theorem zd_Mo_copy_75 : decode zo_Mo_copy 75 = .ok (.aload_n 0, 1) := by decide +kernel
theorem zd_Mo_copy_76 : decode zo_Mo_copy 76 = .ok (.getfield 81, 3) := by decide +kernel
theorem zd_Mo_copy_79 : decode zo_Mo_copy 79 = .ok (.if_icmp .ge 78, 3) := by decide +kernel
theorem zd_Mo_copy_82 : decode zo_Mo_copy 82 = .ok (.aload_n 0, 1) := by decide +kernel
theorem zd_Mo_copy_83 : decode zo_Mo_copy 83 = .ok (.getfield 45, 3) := by decide +kernel
theorem zd_Mo_copy_86 : decode zo_Mo_copy 86 = .ok (.bipush 24, 2) := by decide +kernel
theorem zd_Mo_copy_88 : decode zo_Mo_copy 88 = .ok (.iload_n 2, 1) := by decide +kernel
theorem zd_Mo_copy_89 : decode zo_Mo_copy 89 = .ok (.iadd, 1) := by decide +kernel
theorem zd_Mo_copy_90 : decode zo_Mo_copy 90 = .ok (.aload_n 0, 1) := by decide +kernel
theorem zd_Mo_copy_91 : decode zo_Mo_copy 91 = .ok (.getfield 45, 3) := by decide +kernel
theorem zd_Mo_copy_94 : decode zo_Mo_copy 94 = .ok (.iload_n 2, 1) := by decide +kernel
theorem zd_Mo_copy_95 : decode zo_Mo_copy 95 = .ok (.iaload, 1) := by decide +kernel
theorem zd_Mo_copy_96 : decode zo_Mo_copy 96 = .ok (.iastore, 1) := by decide +kernel
theorem zd_Mo_copy_97 : decode zo_Mo_copy 97 = .ok (.aload_n 0, 1) := by decide +kernel
theorem zd_Mo_copy_98 : decode zo_Mo_copy 98 = .ok (.getfield 48, 3) := by decide +kernel
theorem zd_Mo_copy_101 : decode zo_Mo_copy 101 = .ok (.bipush 24, 2) := by decide +kernel
theorem zd_Mo_copy_103 : decode zo_Mo_copy 103 = .ok (.iload_n 2, 1) := by decide +kernel
theorem zd_Mo_copy_104 : decode zo_Mo_copy 104 = .ok (.iadd, 1) := by decide +kernel
theorem zd_Mo_copy_105 : decode zo_Mo_copy 105 = .ok (.aload_n 0, 1) := by decide +kernel
theorem zd_Mo_copy_106 : decode zo_Mo_copy 106 = .ok (.getfield 48, 3) := by decide +kernel
theorem zd_Mo_copy_109 : decode zo_Mo_copy 109 = .ok (.iload_n 2, 1) := by decide +kernel
theorem zd_Mo_copy_110 : decode zo_Mo_copy 110 = .ok (.iaload, 1) := by decide +kernel
theorem zd_Mo_copy_111 : decode zo_Mo_copy 111 = .ok (.iload_n 1, 1) := by decide +kernel
theorem zd_Mo_copy_112 : decode zo_Mo_copy 112 = .ok (.if_icmp .ne 7, 3) := by decide +kernel
theorem zd_Mo_copy_115 : decode zo_Mo_copy 115 = .ok (.iconst 4, 1) := by decide +kernel
theorem zd_Mo_copy_116 : decode zo_Mo_copy 116 = .ok (.goto 4, 3) := by decide +kernel
theorem zd_Mo_copy_119 : decode zo_Mo_copy 119 = .ok (.iconst (-1), 1) := by decide +kernel
theorem zd_Mo_copy_120 : decode zo_Mo_copy 120 = .ok (.iastore, 1) := by decide +kernel
theorem zd_Mo_copy_121 : decode zo_Mo_copy 121 = .ok (.aload_n 0, 1) := by decide +kernel
theorem zd_Mo_copy_122 : decode zo_Mo_copy 122 = .ok (.getfield 51, 3) := by decide +kernel
theorem zd_Mo_copy_125 : decode zo_Mo_copy 125 = .ok (.bipush 24, 2) := by decide +kernel
theorem zd_Mo_copy_127 : decode zo_Mo_copy 127 = .ok (.iload_n 2, 1) := by decide +kernel
theorem zd_Mo_copy_128 : decode zo_Mo_copy 128 = .ok (.iadd, 1) := by decide +kernel
theorem zd_Mo_copy_129 : decode zo_Mo_copy 129 = .ok (.aload_n 0, 1) := by decide +kernel
theorem zd_Mo_copy_130 : decode zo_Mo_copy 130 = .ok (.getfield 51, 3) := by decide +kernel
theorem zd_Mo_copy_133 : decode zo_Mo_copy 133 = .ok (.iload_n 2, 1) := by decide +kernel
theorem zd_Mo_copy_134 : decode zo_Mo_copy 134 = .ok (.iaload, 1) := by decide +kernel
theorem zd_Mo_copy_135 : decode zo_Mo_copy 135 = .ok (.iastore, 1) := by decide +kernel
theorem zd_Mo_copy_136 : decode zo_Mo_copy 136 = .ok (.aload_n 0, 1) := by decide +kernel
theorem zd_Mo_copy_137 : decode zo_Mo_copy 137 = .ok (.getfield 54, 3) := by decide +kernel
theorem zd_Mo_copy_140 : decode zo_Mo_copy 140 = .ok (.bipush 24, 2) := by decide +kernel
theorem zd_Mo_copy_142 : decode zo_Mo_copy 142 = .ok (.iload_n 2, 1) := by decide +kernel
theorem zd_Mo_copy_143 : decode zo_Mo_copy 143 = .ok (.iadd, 1) := by decide +kernel
theorem zd_Mo_copy_144 : decode zo_Mo_copy 144 = .ok (.aload_n 0, 1) := by decide +kernel
theorem zd_Mo_copy_145 : decode zo_Mo_copy 145 = .ok (.getfield 54, 3) := by decide +kernel
theorem zd_Mo_copy_148 : decode zo_Mo_copy 148 = .ok (.iload_n 2, 1) := by decide +kernel
theorem zd_Mo_copy_149 : decode zo_Mo_copy 149 = .ok (.iaload, 1) := by decide +kernel
theorem zd_Mo_copy_150 : decode zo_Mo_copy 150 = .ok (.iastore, 1) := by decide +kernel
theorem zd_Mo_copy_151 : decode zo_Mo_copy 151 = .ok (.iinc 2 1, 3) := by decide +kernel
theorem zd_Mo_copy_154 : decode zo_Mo_copy 154 = .ok (.goto (-80), 3) := by decide +kernel
theorem zd_Mo_copy_157 : decode zo_Mo_copy 157 = .ok (.return_, 1) := by decide +kernel
abbrev zo_Mo_isRider : ByteArray := prog_7_method_18_code
abbrev zy_Mo_isRider : MethodName := ⟨"LiftGroupModel", "isRider", "(I)Z"⟩
theorem zd_Mo_isRider_0 : decode zo_Mo_isRider 0 = .ok (.aload_n 0, 1) := by decide +kernel
theorem zd_Mo_isRider_1 : decode zo_Mo_isRider 1 = .ok (.getfield 48, 3) := by decide +kernel
theorem zd_Mo_isRider_4 : decode zo_Mo_isRider 4 = .ok (.iload_n 1, 1) := by decide +kernel
theorem zd_Mo_isRider_5 : decode zo_Mo_isRider 5 = .ok (.iaload, 1) := by decide +kernel
theorem zd_Mo_isRider_6 : decode zo_Mo_isRider 6 = .ok (.ifCond .lt 26, 3) := by decide +kernel
theorem zd_Mo_isRider_9 : decode zo_Mo_isRider 9 = .ok (.aload_n 0, 1) := by decide +kernel
theorem zd_Mo_isRider_10 : decode zo_Mo_isRider 10 = .ok (.getfield 45, 3) := by decide +kernel
theorem zd_Mo_isRider_13 : decode zo_Mo_isRider 13 = .ok (.iload_n 1, 1) := by decide +kernel
theorem zd_Mo_isRider_14 : decode zo_Mo_isRider 14 = .ok (.iaload, 1) := by decide +kernel
theorem zd_Mo_isRider_15 : decode zo_Mo_isRider 15 = .ok (.ifCond .eq 13, 3) := by decide +kernel
theorem zd_Mo_isRider_18 : decode zo_Mo_isRider 18 = .ok (.aload_n 0, 1) := by decide +kernel
theorem zd_Mo_isRider_19 : decode zo_Mo_isRider 19 = .ok (.getfield 45, 3) := by decide +kernel
theorem zd_Mo_isRider_22 : decode zo_Mo_isRider 22 = .ok (.iload_n 1, 1) := by decide +kernel
theorem zd_Mo_isRider_23 : decode zo_Mo_isRider 23 = .ok (.iaload, 1) := by decide +kernel
theorem zd_Mo_isRider_24 : decode zo_Mo_isRider 24 = .ok (.iconst 1, 1) := by decide +kernel
theorem zd_Mo_isRider_25 : decode zo_Mo_isRider 25 = .ok (.if_icmp .ne 7, 3) := by decide +kernel
theorem zd_Mo_isRider_28 : decode zo_Mo_isRider 28 = .ok (.iconst 1, 1) := by decide +kernel
theorem zd_Mo_isRider_29 : decode zo_Mo_isRider 29 = .ok (.goto 4, 3) := by decide +kernel
theorem zd_Mo_isRider_32 : decode zo_Mo_isRider 32 = .ok (.iconst 0, 1) := by decide +kernel
theorem zd_Mo_isRider_33 : decode zo_Mo_isRider 33 = .ok (.ireturn, 1) := by decide +kernel
section ZC6
variable {p : Program} {l : Launch} {e : Env} {s : State} {m : MethodId} {args : Array Value} {below : List Frame} {meth : Method} {c : Code} {E : zE} {A : Nat → Prop}
set_option maxRecDepth 100000 in
theorem zwf_Mo_66 : Cond.fieldLink zR10 66 (zT10 0).1 (zT10 0).2.1 (zT10 0).2.2.1 ∈ zwAll := zw_at 665 rfl rfl
abbrev zrm_Mo_thrown : Room := { frames := 0, cells := 0, slots := 0, locals := 0 }
def zf_Mo_thrown (N : Nat)  (st : zS) : Option (Int32 × zS) := some ((st 40 0), st)
set_option maxHeartbeats 4000000 in
theorem zl_Mo_thrown_0 (F : zw_X p m c zo_Mo_thrown 1 s args zR10 E 20 A meth (some .int)) {N : Nat} {rv : Int32} {rst : zS}  (st : zS)  (h : zf_Mo_thrown N  st = some (rv, rst)) : zw_G p l e zrm_Mo_thrown s m args below meth c (MQ below (zw_Q E (some (.int rv)) rst A) args s 0 0 A) E A 1 0 0 [some (.ref 40)] [] st := by
  unfold zf_Mo_thrown at h
  refine zg_aload_n F.1 zd_Mo_thrown_0 rfl rfl ?_
  refine zg_getI10 F.1 (by decide) rfl 0 (by decide) (st 40 0) rfl rfl zwf_Mo_66 zd_Mo_thrown_1 ?_
  cases h
  exact zg_iret F zd_Mo_thrown_4
theorem zk_Mo_thrown {E : zE} (hn : zw_n E 20) (N : Nat)  (st : zS)  {rv : Int32} {rst : zS} (h : zf_Mo_thrown N  st = some (rv, rst)) : zw_M l zy_Mo_thrown (Cond.code zy_Mo_thrown zo_Mo_thrown 1 (some .int) :: zwAll) zrm_Mo_thrown E [.ref 40] st (some (.int rv)) rst :=
  zw_enter (by decide) rfl hn (Nat.le_of_ble_eq_true rfl) (by simp [Value.category]) 0 (fun p e s m args below meth c A F => zl_Mo_thrown_0 F  st  h)
abbrev zrm_Mo_refuse : Room := { frames := 0, cells := 0, slots := 0, locals := 0 }
def zf_Mo_refuse_33 (N : Nat)  (s0 : Int32) (st : zS) : Option (Int32 × zS) := (if s0 = 0 ∨ s0 = 1 then some (s0, st) else none)
set_option maxHeartbeats 4000000 in
theorem zl_Mo_refuse_33 (F : zw_X p m c zo_Mo_refuse 3 s args zR10 E 20 A meth (some .boolean)) {N : Nat} {rv : Int32} {rst : zS}   (s0 : Int32) (st : zS)  (h : zf_Mo_refuse_33 N  s0 st = some (rv, rst)) : zw_G p l e zrm_Mo_refuse s m args below meth c (MQ below (zw_Q E (some (.int rv)) rst A) args s 0 0 A) E A 3 0 33 [none, none, none] [.int s0] st := by
  unfold zf_Mo_refuse_33 at h
  by_cases hb33 : s0 = 0 ∨ s0 = 1
  case neg => rw [if_neg hb33] at h; cases h
  rw [if_pos hb33] at h
  cases h
  exact zg_zret F hb33 zd_Mo_refuse_33
def zf_Mo_refuse_18 (N : Nat)  (s0 : Int32) (st : zS) : Option (Int32 × zS) := (if s0 ≤ 0 then zf_Mo_refuse_33 N 0 (zp st 40 0 s0) else zf_Mo_refuse_33 N 1 (zp st 40 0 s0))
set_option maxHeartbeats 4000000 in
theorem zl_Mo_refuse_18 (F : zw_X p m c zo_Mo_refuse 3 s args zR10 E 20 A meth (some .boolean)) {N : Nat} {rv : Int32} {rst : zS}   (s0 : Int32) (st : zS)  (h : zf_Mo_refuse_18 N  s0 st = some (rv, rst)) : zw_G p l e zrm_Mo_refuse s m args below meth c (MQ below (zw_Q E (some (.int rv)) rst A) args s 0 0 A) E A 3 0 18 [some (.ref 40), none, none] [.int s0, .ref 40] st := by
  unfold zf_Mo_refuse_18 at h
  refine zg_putI10 F.1 (by decide) rfl 0 (by decide) (Or.inl rfl) .int (by decide) rfl rfl rfl zwf_Mo_66 zd_Mo_refuse_18 ?_
  refine zg_aload_n F.1 zd_Mo_refuse_21 rfl rfl ?_
  refine zg_getI10 F.1 (by decide) rfl 0 (by decide) s0 rfl (zp_s _ _ _ _) zwf_Mo_66 zd_Mo_refuse_22 ?_
  refine zg_if_le F.1 32 zd_Mo_refuse_25 rfl (fun hc => ?_) (fun hc => ?_)
  · rw [if_pos hc] at h
    refine zg_iconst F.1 0 0 (by decide) zd_Mo_refuse_32 ?_
    exact zg_le (zw_len (zw_les (zw_les zw_le0))) (zl_Mo_refuse_33 F 0 (zp st 40 0 s0) h)
  · rw [if_neg hc] at h
    refine zg_iconst F.1 1 1 (by decide) zd_Mo_refuse_28 ?_
    refine zg_goto F.1 33 zd_Mo_refuse_29 rfl ?_
    exact zg_le (zw_len (zw_les (zw_les zw_le0))) (zl_Mo_refuse_33 F 1 (zp st 40 0 s0) h)
def zf_Mo_refuse (N : Nat) (a1 : Int32) (a2 : Int32) (st : zS) : Option (Int32 × zS) := (if a1 = 0 then (if a2 = 0 then zf_Mo_refuse_18 N 0 st else zf_Mo_refuse_18 N 2 st) else zf_Mo_refuse_18 N 1 st)
set_option maxHeartbeats 4000000 in
theorem zl_Mo_refuse_0 (F : zw_X p m c zo_Mo_refuse 3 s args zR10 E 20 A meth (some .boolean)) {N : Nat} {rv : Int32} {rst : zS} (a1 : Int32) (a2 : Int32) (st : zS)  (h : zf_Mo_refuse N a1 a2 st = some (rv, rst)) : zw_G p l e zrm_Mo_refuse s m args below meth c (MQ below (zw_Q E (some (.int rv)) rst A) args s 0 0 A) E A 3 0 0 [some (.ref 40), some (.int a1), some (.int a2)] [] st := by
  unfold zf_Mo_refuse at h
  refine zg_aload_n F.1 zd_Mo_refuse_0 rfl rfl ?_
  refine zg_iload_n F.1 zd_Mo_refuse_1 rfl rfl ?_
  refine zg_if_eq F.1 9 zd_Mo_refuse_2 rfl (fun hc => ?_) (fun hc => ?_)
  · rw [if_pos hc] at h
    refine zg_iload_n F.1 zd_Mo_refuse_9 rfl rfl ?_
    refine zg_if_eq F.1 17 zd_Mo_refuse_10 rfl (fun hc => ?_) (fun hc => ?_)
    · rw [if_pos hc] at h
      refine zg_iconst F.1 0 0 (by decide) zd_Mo_refuse_17 ?_
      exact zg_le (zw_les (zw_len (zw_len zw_le0))) (zl_Mo_refuse_18 F 0 st h)
    · rw [if_neg hc] at h
      refine zg_iconst F.1 2 2 (by decide) zd_Mo_refuse_13 ?_
      refine zg_goto F.1 18 zd_Mo_refuse_14 rfl ?_
      exact zg_le (zw_les (zw_len (zw_len zw_le0))) (zl_Mo_refuse_18 F 2 st h)
  · rw [if_neg hc] at h
    refine zg_iconst F.1 1 1 (by decide) zd_Mo_refuse_5 ?_
    refine zg_goto F.1 18 zd_Mo_refuse_6 rfl ?_
    exact zg_le (zw_les (zw_len (zw_len zw_le0))) (zl_Mo_refuse_18 F 1 st h)
theorem zk_Mo_refuse {E : zE} (hn : zw_n E 20) (N : Nat) (a1 : Int32) (a2 : Int32) (st : zS)  {rv : Int32} {rst : zS} (h : zf_Mo_refuse N a1 a2 st = some (rv, rst)) : zw_M l zy_Mo_refuse (Cond.code zy_Mo_refuse zo_Mo_refuse 3 (some .boolean) :: zwAll) zrm_Mo_refuse E [.ref 40, .int a1, .int a2] st (some (.int rv)) rst :=
  zw_enter (by decide) rfl hn (Nat.le_of_ble_eq_true rfl) (by simp [Value.category]) 0 (fun p e s m args below meth c A F => zl_Mo_refuse_0 F a1 a2 st  h)
abbrev zrm_Mo_in : Room := { frames := 0, cells := 0, slots := 0, locals := 0 }
def zf_Mo_in_15 (N : Nat)  (s0 : Int32) (st : zS) : Option (Int32 × zS) := (if s0 = 0 ∨ s0 = 1 then some (s0, st) else none)
set_option maxHeartbeats 4000000 in
theorem zl_Mo_in_15 (F : zw_X p m c zo_Mo_in 3 s args zR10 E 20 A meth (some .boolean)) {N : Nat} {rv : Int32} {rst : zS}   (s0 : Int32) (st : zS)  (h : zf_Mo_in_15 N  s0 st = some (rv, rst)) : zw_G p l e zrm_Mo_in s m args below meth c (MQ below (zw_Q E (some (.int rv)) rst A) args s 0 0 A) E A 3 0 15 [none, none, none] [.int s0] st := by
  unfold zf_Mo_in_15 at h
  by_cases hb15 : s0 = 0 ∨ s0 = 1
  case neg => rw [if_neg hb15] at h; cases h
  rw [if_pos hb15] at h
  cases h
  exact zg_zret F hb15 zd_Mo_in_15
def zf_Mo_in_14 (N : Nat)   (st : zS) : Option (Int32 × zS) := zf_Mo_in_15 N 0 st
set_option maxHeartbeats 4000000 in
theorem zl_Mo_in_14 (F : zw_X p m c zo_Mo_in 3 s args zR10 E 20 A meth (some .boolean)) {N : Nat} {rv : Int32} {rst : zS}    (st : zS)  (h : zf_Mo_in_14 N   st = some (rv, rst)) : zw_G p l e zrm_Mo_in s m args below meth c (MQ below (zw_Q E (some (.int rv)) rst A) args s 0 0 A) E A 3 0 14 [none, none, none] [] st := by
  unfold zf_Mo_in_14 at h
  refine zg_iconst F.1 0 0 (by decide) zd_Mo_in_14 ?_
  exact zl_Mo_in_15 F 0 st h
def zf_Mo_in (N : Nat) (a0 : Int32) (a1 : Int32) (a2 : Int32) (st : zS) : Option (Int32 × zS) := (if a0 < a1 then zf_Mo_in_14 N st else (if a2 < a0 then zf_Mo_in_14 N st else zf_Mo_in_15 N 1 st))
set_option maxHeartbeats 4000000 in
theorem zl_Mo_in_0 (F : zw_X p m c zo_Mo_in 3 s args zR10 E 20 A meth (some .boolean)) {N : Nat} {rv : Int32} {rst : zS} (a0 : Int32) (a1 : Int32) (a2 : Int32) (st : zS)  (h : zf_Mo_in N a0 a1 a2 st = some (rv, rst)) : zw_G p l e zrm_Mo_in s m args below meth c (MQ below (zw_Q E (some (.int rv)) rst A) args s 0 0 A) E A 3 0 0 [some (.int a0), some (.int a1), some (.int a2)] [] st := by
  unfold zf_Mo_in at h
  refine zg_iload_n F.1 zd_Mo_in_0 rfl rfl ?_
  refine zg_iload_n F.1 zd_Mo_in_1 rfl rfl ?_
  refine zg_icmp_lt F.1 14 zd_Mo_in_2 rfl (fun hc => ?_) (fun hc => ?_)
  · rw [if_pos hc] at h
    exact zg_le (zw_len (zw_len (zw_len zw_le0))) (zl_Mo_in_14 F st h)
  · rw [if_neg hc] at h
    refine zg_iload_n F.1 zd_Mo_in_5 rfl rfl ?_
    refine zg_iload_n F.1 zd_Mo_in_6 rfl rfl ?_
    refine zg_icmp_gt F.1 14 zd_Mo_in_7 rfl (fun hc => ?_) (fun hc => ?_)
    · rw [if_pos hc] at h
      exact zg_le (zw_len (zw_len (zw_len zw_le0))) (zl_Mo_in_14 F st h)
    · rw [if_neg hc] at h
      refine zg_iconst F.1 1 1 (by decide) zd_Mo_in_10 ?_
      refine zg_goto F.1 15 zd_Mo_in_11 rfl ?_
      exact zg_le (zw_len (zw_len (zw_len zw_le0))) (zl_Mo_in_15 F 1 st h)
theorem zk_Mo_in {E : zE} (hn : zw_n E 20) (N : Nat) (a0 : Int32) (a1 : Int32) (a2 : Int32) (st : zS)  {rv : Int32} {rst : zS} (h : zf_Mo_in N a0 a1 a2 st = some (rv, rst)) : zw_M l zy_Mo_in (Cond.code zy_Mo_in zo_Mo_in 3 (some .boolean) :: zwAll) zrm_Mo_in E [.int a0, .int a1, .int a2] st (some (.int rv)) rst :=
  zw_enter (by decide) rfl hn (Nat.le_of_ble_eq_true rfl) (by simp [Value.category]) 0 (fun p e s m args below meth c A F => zl_Mo_in_0 F a0 a1 a2 st  h)
set_option maxRecDepth 100000 in
theorem zcal_Mo_in : zw_calS zy_Mo_in zo_Mo_in 3 (some .boolean) 3 := ⟨zw_at 745 rfl rfl, zw_at 52 rfl rfl, zw_at 746 rfl rfl, by decide, by decide, by decide +kernel⟩
set_option maxRecDepth 100000 in
theorem zml_Mo_69 : Cond.methodLink zR10 69 zy_Mo_in ∈ zwAll := zw_at 744 rfl rfl
set_option maxRecDepth 100000 in
theorem zcal_Mo_refuse : zw_cal zR10 zy_Mo_refuse zo_Mo_refuse 3 (some .boolean) 2 := ⟨zw_at 749 rfl rfl, zw_at 25 rfl rfl, zw_at 52 rfl rfl, zw_at 750 rfl rfl, rfl, by decide, by decide, by decide +kernel⟩
set_option maxRecDepth 100000 in
theorem zml_Mo_73 : Cond.methodLink zR10 73 zy_Mo_refuse ∈ zwAll := zw_at 747 rfl rfl
set_option maxRecDepth 100000 in
theorem zwf_Mo_7 : Cond.fieldLink zR10 7 (zT10 1).1 (zT10 1).2.1 (zT10 1).2.2.1 ∈ zwAll := zw_at 666 rfl rfl
set_option maxRecDepth 100000 in
theorem zwf_Mo_13 : Cond.fieldLink zR10 13 (zT10 2).1 (zT10 2).2.1 (zT10 2).2.2.1 ∈ zwAll := zw_at 667 rfl rfl
set_option maxRecDepth 100000 in
theorem zwf_Mo_16 : Cond.fieldLink zR10 16 (zT10 3).1 (zT10 3).2.1 (zT10 3).2.2.1 ∈ zwAll := zw_at 668 rfl rfl
set_option maxRecDepth 100000 in
theorem zwf_Mo_19 : Cond.fieldLink zR10 19 (zT10 4).1 (zT10 4).2.1 (zT10 4).2.2.1 ∈ zwAll := zw_at 669 rfl rfl
set_option maxRecDepth 100000 in
theorem zwf_Mo_23 : Cond.fieldLink zR10 23 (zT10 5).1 (zT10 5).2.1 (zT10 5).2.2.1 ∈ zwAll := zw_at 670 rfl rfl
set_option maxRecDepth 100000 in
theorem zwf_Mo_26 : Cond.fieldLink zR10 26 (zT10 6).1 (zT10 6).2.1 (zT10 6).2.2.1 ∈ zwAll := zw_at 671 rfl rfl
set_option maxRecDepth 100000 in
theorem zwf_Mo_29 : Cond.fieldLink zR10 29 (zT10 7).1 (zT10 7).2.1 (zT10 7).2.2.1 ∈ zwAll := zw_at 672 rfl rfl
set_option maxRecDepth 100000 in
theorem zwf_Mo_32 : Cond.fieldLink zR10 32 (zT10 8).1 (zT10 8).2.1 (zT10 8).2.2.1 ∈ zwAll := zw_at 673 rfl rfl
set_option maxRecDepth 100000 in
theorem zwf_Mo_35 : Cond.fieldLink zR10 35 (zT10 9).1 (zT10 9).2.1 (zT10 9).2.2.1 ∈ zwAll := zw_at 674 rfl rfl
set_option maxRecDepth 100000 in
theorem zwf_Mo_39 : Cond.fieldLink zR10 39 (zT10 10).1 (zT10 10).2.1 (zT10 10).2.2.1 ∈ zwAll := zw_at 675 rfl rfl
set_option maxRecDepth 100000 in
theorem zwf_Mo_42 : Cond.fieldLink zR10 42 (zT10 11).1 (zT10 11).2.1 (zT10 11).2.2.1 ∈ zwAll := zw_at 676 rfl rfl
set_option maxRecDepth 100000 in
theorem zwf_Mo_77 : Cond.fieldLink zR10 77 (zT10 12).1 (zT10 12).2.1 (zT10 12).2.2.1 ∈ zwAll := zw_at 677 rfl rfl
set_option maxRecDepth 100000 in
theorem zwf_Mo_81 : Cond.fieldLink zR10 81 (zT10 19).1 (zT10 19).2.1 (zT10 19).2.2.1 ∈ zwAll := zw_at 684 rfl rfl
set_option maxRecDepth 100000 in
theorem zwf_Mo_84 : Cond.fieldLink zR10 84 (zT10 20).1 (zT10 20).2.1 (zT10 20).2.2.1 ∈ zwAll := zw_at 685 rfl rfl
set_option maxRecDepth 100000 in
theorem zwf_Mo_87 : Cond.fieldLink zR10 87 (zT10 22).1 (zT10 22).2.1 (zT10 22).2.2.1 ∈ zwAll := zw_at 687 rfl rfl
abbrev zrm_Mo_building : Room := { frames := 1, cells := 0, slots := 0, locals := 22 }
def zb_Mo_building_60 (N : Nat) (r60 : Int32 → zS → Option zS) (l4 : Int32) (st : zS) : Option zS := (if 5 ≤ l4 then some (zp (zp (zp (zp st 40 12 0) 40 19 0) 40 20 0) 40 22 0) else (if l4 < 0 ∨ 5 ≤ l4.toNatClampNeg then none else (if l4 < 0 ∨ 5 ≤ l4.toNatClampNeg then none else (if l4 < 0 ∨ 5 ≤ l4.toNatClampNeg then none else (if l4 < 0 ∨ 5 ≤ l4.toNatClampNeg then none else (if l4 < 0 ∨ 5 ≤ l4.toNatClampNeg then none else (if l4 < 0 ∨ 5 ≤ l4.toNatClampNeg then none else (if l4 < 0 ∨ 5 ≤ l4.toNatClampNeg then none else (if l4 < 0 ∨ 5 ≤ l4.toNatClampNeg then none else r60 (l4 + 1) (zp (zp (zp (zp (zp (zp (zp (zp st 41 l4.toNatClampNeg 0) 42 l4.toNatClampNeg 0) 43 l4.toNatClampNeg 0) 44 l4.toNatClampNeg 0) 45 l4.toNatClampNeg 0) 46 l4.toNatClampNeg 0) 47 l4.toNatClampNeg 0) 48 l4.toNatClampNeg 0))))))))))
set_option maxHeartbeats 4000000 in
theorem zlb_Mo_building_60 (F : zw_X p m c zo_Mo_building 5 s args zR10 E 20 A meth none) {N : Nat} {rst : zS} {r60 : Int32 → zS → Option zS} (hr60 : ∀ (l4 : Int32) (st : zS) , r60 l4 st = some rst → zw_G p l e zrm_Mo_building s m args below meth c (MQ below (zw_Q E none rst A) args s 0 0 A) E A 5 0 60 [some (.ref 40), none, none, none, some (.int l4)] [] st) (l4 : Int32) (st : zS)  (h : zb_Mo_building_60 N r60 l4 st = some rst) : zw_G p l e zrm_Mo_building s m args below meth c (MQ below (zw_Q E none rst A) args s 0 0 A) E A 5 0 60 [some (.ref 40), none, none, none, some (.int l4)] [] st := by
  unfold zb_Mo_building_60 at h
  refine zg_iload F.1 zd_Mo_building_60 rfl ?_
  refine zg_iconst F.1 5 5 (by decide) zd_Mo_building_62 ?_
  refine zg_icmp_ge F.1 136 zd_Mo_building_63 rfl (fun hc => ?_) (fun hc => ?_)
  · rw [if_pos hc] at h
    refine zg_aload_n F.1 zd_Mo_building_136 rfl rfl ?_
    refine zg_iconst F.1 0 0 (by decide) zd_Mo_building_137 ?_
    refine zg_putI10 F.1 (by decide) rfl 12 (by decide) (Or.inr (Or.inr (Or.inr (Or.inr (Or.inl rfl))))) .boolean (by decide) rfl rfl rfl zwf_Mo_77 zd_Mo_building_138 ?_
    refine zg_aload_n F.1 zd_Mo_building_141 rfl rfl ?_
    refine zg_iconst F.1 0 0 (by decide) zd_Mo_building_142 ?_
    refine zg_putI10 F.1 (by decide) rfl 19 (by decide) (Or.inr (Or.inr (Or.inr (Or.inr (Or.inr (Or.inl rfl)))))) .int (by decide) rfl rfl rfl zwf_Mo_81 zd_Mo_building_143 ?_
    refine zg_aload_n F.1 zd_Mo_building_146 rfl rfl ?_
    refine zg_iconst F.1 0 0 (by decide) zd_Mo_building_147 ?_
    refine zg_putI10 F.1 (by decide) rfl 20 (by decide) (Or.inr (Or.inr (Or.inr (Or.inr (Or.inr (Or.inr (Or.inl rfl))))))) .int (by decide) rfl rfl rfl zwf_Mo_84 zd_Mo_building_148 ?_
    refine zg_aload_n F.1 zd_Mo_building_151 rfl rfl ?_
    refine zg_iconst F.1 0 0 (by decide) zd_Mo_building_152 ?_
    refine zg_putI10 F.1 (by decide) rfl 22 (by decide) (Or.inr (Or.inr (Or.inr (Or.inr (Or.inr (Or.inr (Or.inr rfl))))))) .int (by decide) rfl rfl rfl zwf_Mo_87 zd_Mo_building_153 ?_
    cases h
    exact zg_vret F zd_Mo_building_156
  · rw [if_neg hc] at h
    refine zg_aload_n F.1 zd_Mo_building_66 rfl rfl ?_
    refine zg_getR10 F.1 (by decide) rfl 4 (by decide) 41 rfl zwf_Mo_19 zd_Mo_building_67 ?_
    refine zg_iload F.1 zd_Mo_building_70 rfl ?_
    refine zg_iconst F.1 0 0 (by decide) zd_Mo_building_72 ?_
    by_cases hi73 : l4 < 0 ∨ 5 ≤ l4.toNatClampNeg
    case pos => rw [if_pos hi73] at h; cases h
    rw [if_neg hi73] at h
    refine zg_ast11 F.1 (by decide) rfl hi73 l4.toNatClampNeg rfl zd_Mo_building_73 ?_
    refine zg_aload_n F.1 zd_Mo_building_74 rfl rfl ?_
    refine zg_getR10 F.1 (by decide) rfl 5 (by decide) 42 rfl zwf_Mo_23 zd_Mo_building_75 ?_
    refine zg_iload F.1 zd_Mo_building_78 rfl ?_
    refine zg_iconst F.1 0 0 (by decide) zd_Mo_building_80 ?_
    by_cases hi81 : l4 < 0 ∨ 5 ≤ l4.toNatClampNeg
    case pos => rw [if_pos hi81] at h; cases h
    rw [if_neg hi81] at h
    refine zg_ast11 F.1 (by decide) rfl hi81 l4.toNatClampNeg rfl zd_Mo_building_81 ?_
    refine zg_aload_n F.1 zd_Mo_building_82 rfl rfl ?_
    refine zg_getR10 F.1 (by decide) rfl 6 (by decide) 43 rfl zwf_Mo_26 zd_Mo_building_83 ?_
    refine zg_iload F.1 zd_Mo_building_86 rfl ?_
    refine zg_iconst F.1 0 0 (by decide) zd_Mo_building_88 ?_
    by_cases hi89 : l4 < 0 ∨ 5 ≤ l4.toNatClampNeg
    case pos => rw [if_pos hi89] at h; cases h
    rw [if_neg hi89] at h
    refine zg_ast11 F.1 (by decide) rfl hi89 l4.toNatClampNeg rfl zd_Mo_building_89 ?_
    refine zg_aload_n F.1 zd_Mo_building_90 rfl rfl ?_
    refine zg_getR10 F.1 (by decide) rfl 7 (by decide) 44 rfl zwf_Mo_29 zd_Mo_building_91 ?_
    refine zg_iload F.1 zd_Mo_building_94 rfl ?_
    refine zg_iconst F.1 0 0 (by decide) zd_Mo_building_96 ?_
    by_cases hi97 : l4 < 0 ∨ 5 ≤ l4.toNatClampNeg
    case pos => rw [if_pos hi97] at h; cases h
    rw [if_neg hi97] at h
    refine zg_ast11 F.1 (by decide) rfl hi97 l4.toNatClampNeg rfl zd_Mo_building_97 ?_
    refine zg_aload_n F.1 zd_Mo_building_98 rfl rfl ?_
    refine zg_getR10 F.1 (by decide) rfl 8 (by decide) 45 rfl zwf_Mo_32 zd_Mo_building_99 ?_
    refine zg_iload F.1 zd_Mo_building_102 rfl ?_
    refine zg_iconst F.1 0 0 (by decide) zd_Mo_building_104 ?_
    by_cases hi105 : l4 < 0 ∨ 5 ≤ l4.toNatClampNeg
    case pos => rw [if_pos hi105] at h; cases h
    rw [if_neg hi105] at h
    refine zg_ast11 F.1 (by decide) rfl hi105 l4.toNatClampNeg rfl zd_Mo_building_105 ?_
    refine zg_aload_n F.1 zd_Mo_building_106 rfl rfl ?_
    refine zg_getR10 F.1 (by decide) rfl 9 (by decide) 46 rfl zwf_Mo_35 zd_Mo_building_107 ?_
    refine zg_iload F.1 zd_Mo_building_110 rfl ?_
    refine zg_iconst F.1 0 0 (by decide) zd_Mo_building_112 ?_
    by_cases hi113 : l4 < 0 ∨ 5 ≤ l4.toNatClampNeg
    case pos => rw [if_pos hi113] at h; cases h
    rw [if_neg hi113] at h
    refine zg_ast12 F.1 (by decide) rfl hi113 rfl l4.toNatClampNeg rfl zd_Mo_building_113 ?_
    refine zg_aload_n F.1 zd_Mo_building_114 rfl rfl ?_
    refine zg_getR10 F.1 (by decide) rfl 10 (by decide) 47 rfl zwf_Mo_39 zd_Mo_building_115 ?_
    refine zg_iload F.1 zd_Mo_building_118 rfl ?_
    refine zg_iconst F.1 0 0 (by decide) zd_Mo_building_120 ?_
    by_cases hi121 : l4 < 0 ∨ 5 ≤ l4.toNatClampNeg
    case pos => rw [if_pos hi121] at h; cases h
    rw [if_neg hi121] at h
    refine zg_ast12 F.1 (by decide) rfl hi121 rfl l4.toNatClampNeg rfl zd_Mo_building_121 ?_
    refine zg_aload_n F.1 zd_Mo_building_122 rfl rfl ?_
    refine zg_getR10 F.1 (by decide) rfl 11 (by decide) 48 rfl zwf_Mo_42 zd_Mo_building_123 ?_
    refine zg_iload F.1 zd_Mo_building_126 rfl ?_
    refine zg_iconst F.1 0 0 (by decide) zd_Mo_building_128 ?_
    by_cases hi129 : l4 < 0 ∨ 5 ≤ l4.toNatClampNeg
    case pos => rw [if_pos hi129] at h; cases h
    rw [if_neg hi129] at h
    refine zg_ast12 F.1 (by decide) rfl hi129 rfl l4.toNatClampNeg rfl zd_Mo_building_129 ?_
    refine zg_iinc F.1 (l4 + 1) [some (.ref 40), none, none, none, some (.int (l4 + 1))] zd_Mo_building_130 rfl (by rw [lit1]) (by decide) rfl ?_
    refine zg_goto F.1 60 zd_Mo_building_133 rfl ?_
    exact hr60 (l4 + 1) (zp (zp (zp (zp (zp (zp (zp (zp st 41 l4.toNatClampNeg 0) 42 l4.toNatClampNeg 0) 43 l4.toNatClampNeg 0) 44 l4.toNatClampNeg 0) 45 l4.toNatClampNeg 0) 46 l4.toNatClampNeg 0) 47 l4.toNatClampNeg 0) 48 l4.toNatClampNeg 0) h
def zf_Mo_building_60 (N : Nat)  : Nat → Int32 → zS → Option zS
  | 0, _, _ => none
  | n + 1, l4, st => zb_Mo_building_60 N  (zf_Mo_building_60 N  n) l4 st
theorem zl_Mo_building_60 (F : zw_X p m c zo_Mo_building 5 s args zR10 E 20 A meth none) {N : Nat} {rst : zS}   : ∀ (n : Nat) (l4 : Int32) (st : zS)  (h : zf_Mo_building_60 N  n l4 st = some rst), zw_G p l e zrm_Mo_building s m args below meth c (MQ below (zw_Q E none rst A) args s 0 0 A) E A 5 0 60 [some (.ref 40), none, none, none, some (.int l4)] [] st := by
  intro n
  induction n with
  | zero => intro l4 st  h; cases h
  | succ n ih => intro l4 st  h; exact zlb_Mo_building_60 F  ih l4 st  h
def zf_Mo_building_34 (N : Nat)  (l1 : Int32) (l2 : Int32) (l3 : Int32) (s0 : Int32) (st : zS) : Option zS := ((zf_Mo_refuse N s0 0 st).bind fun y35 => (if y35.1 = 0 then zf_Mo_building_60 N N 0 (zp (zp (zp y35.2 40 1 l1) 40 2 l2) 40 3 l3) else some y35.2))
set_option maxHeartbeats 4000000 in
theorem zl_Mo_building_34 (F : zw_X p m c zo_Mo_building 5 s args zR10 E 20 A meth none) {N : Nat} {rst : zS}   (l1 : Int32) (l2 : Int32) (l3 : Int32) (s0 : Int32) (st : zS)  (h : zf_Mo_building_34 N  l1 l2 l3 s0 st = some rst) : zw_G p l e zrm_Mo_building s m args below meth c (MQ below (zw_Q E none rst A) args s 0 0 A) E A 5 0 34 [some (.ref 40), some (.int l1), some (.int l2), some (.int l3), none] [.int s0, .ref 40] st := by
  unfold zf_Mo_building_34 at h
  refine zg_iconst F.1 0 0 (by decide) zd_Mo_building_34 ?_
  obtain ⟨y35, hc35, h⟩ := Option.bind_eq_some_iff.mp h
  refine zg_callV F (As := [.int s0, .int 0]) (rest := []) (zk_Mo_refuse F.1.2.2 N s0 0 st hc35) rfl rfl zcal_Mo_refuse zml_Mo_73 ⟨(Nat.le_of_ble_eq_true rfl), (Nat.le_of_ble_eq_true rfl)⟩ (zg_rec10 F.1 (by decide) rfl) rfl (Nat.le_of_ble_eq_true rfl) ⟨(Nat.le_of_ble_eq_true rfl), (Nat.le_of_ble_eq_true rfl)⟩ zd_Mo_building_35 ?_
  refine zg_if_eq F.1 42 zd_Mo_building_38 rfl (fun hc => ?_) (fun hc => ?_)
  · rw [if_pos hc] at h
    refine zg_aload_n F.1 zd_Mo_building_42 rfl rfl ?_
    refine zg_iload_n F.1 zd_Mo_building_43 rfl rfl ?_
    refine zg_putI10 F.1 (by decide) rfl 1 (by decide) (Or.inr (Or.inl rfl)) .int (by decide) rfl rfl rfl zwf_Mo_7 zd_Mo_building_44 ?_
    refine zg_aload_n F.1 zd_Mo_building_47 rfl rfl ?_
    refine zg_iload_n F.1 zd_Mo_building_48 rfl rfl ?_
    refine zg_putI10 F.1 (by decide) rfl 2 (by decide) (Or.inr (Or.inr (Or.inl rfl))) .int (by decide) rfl rfl rfl zwf_Mo_13 zd_Mo_building_49 ?_
    refine zg_aload_n F.1 zd_Mo_building_52 rfl rfl ?_
    refine zg_iload_n F.1 zd_Mo_building_53 rfl rfl ?_
    refine zg_putI10 F.1 (by decide) rfl 3 (by decide) (Or.inr (Or.inr (Or.inr (Or.inl rfl)))) .int (by decide) rfl rfl rfl zwf_Mo_16 zd_Mo_building_54 ?_
    refine zg_iconst F.1 0 0 (by decide) zd_Mo_building_57 ?_
    refine zg_istore F.1 [some (.ref 40), some (.int l1), some (.int l2), some (.int l3), some (.int 0)] zd_Mo_building_58 (by decide) rfl ?_
    exact zg_le (zw_les (zw_len (zw_len (zw_len (zw_les zw_le0))))) (zl_Mo_building_60 F N 0 (zp (zp (zp y35.2 40 1 l1) 40 2 l2) 40 3 l3) h)
  · rw [if_neg hc] at h
    cases h
    exact zg_vret F zd_Mo_building_41
def zf_Mo_building_29 (N : Nat)  (l1 : Int32) (l2 : Int32) (l3 : Int32) (st : zS) : Option zS := zf_Mo_building_34 N l1 l2 l3 1 st
set_option maxHeartbeats 4000000 in
theorem zl_Mo_building_29 (F : zw_X p m c zo_Mo_building 5 s args zR10 E 20 A meth none) {N : Nat} {rst : zS}   (l1 : Int32) (l2 : Int32) (l3 : Int32) (st : zS)  (h : zf_Mo_building_29 N  l1 l2 l3 st = some rst) : zw_G p l e zrm_Mo_building s m args below meth c (MQ below (zw_Q E none rst A) args s 0 0 A) E A 5 0 29 [some (.ref 40), some (.int l1), some (.int l2), some (.int l3), none] [.ref 40] st := by
  unfold zf_Mo_building_29 at h
  refine zg_iconst F.1 1 1 (by decide) zd_Mo_building_29 ?_
  refine zg_goto F.1 34 zd_Mo_building_30 rfl ?_
  exact zl_Mo_building_34 F l1 l2 l3 1 st h
def zf_Mo_building (N : Nat) (a1 : Int32) (a2 : Int32) (a3 : Int32) (st : zS) : Option zS := ((zf_Mo_in N a1 2 10 st).bind fun y5 => (if y5.1 = 0 then zf_Mo_building_29 N a1 a2 a3 y5.2 else ((zf_Mo_in N a2 1 4 y5.2).bind fun y14 => (if y14.1 = 0 then zf_Mo_building_29 N a1 a2 a3 y14.2 else ((zf_Mo_in N a3 1 5 y14.2).bind fun y23 => (if y23.1 = 0 then zf_Mo_building_29 N a1 a2 a3 y23.2 else zf_Mo_building_34 N a1 a2 a3 0 y23.2))))))
set_option maxHeartbeats 4000000 in
theorem zl_Mo_building_0 (F : zw_X p m c zo_Mo_building 5 s args zR10 E 20 A meth none) {N : Nat} {rst : zS} (a1 : Int32) (a2 : Int32) (a3 : Int32) (st : zS)  (h : zf_Mo_building N a1 a2 a3 st = some rst) : zw_G p l e zrm_Mo_building s m args below meth c (MQ below (zw_Q E none rst A) args s 0 0 A) E A 5 0 0 [some (.ref 40), some (.int a1), some (.int a2), some (.int a3), none] [] st := by
  unfold zf_Mo_building at h
  refine zg_aload_n F.1 zd_Mo_building_0 rfl rfl ?_
  refine zg_iload_n F.1 zd_Mo_building_1 rfl rfl ?_
  refine zg_iconst F.1 2 2 (by decide) zd_Mo_building_2 ?_
  refine zg_bipush F.1 10 10 (by decide) zd_Mo_building_3 ?_
  obtain ⟨y5, hc5, h⟩ := Option.bind_eq_some_iff.mp h
  refine zg_callS F (As := [.int a1, .int 2, .int 10]) (rest := [.ref 40]) (zk_Mo_in F.1.2.2 N a1 2 10 st hc5) rfl rfl zcal_Mo_in zml_Mo_69 ⟨(Nat.le_of_ble_eq_true rfl), (Nat.le_of_ble_eq_true rfl)⟩ rfl (Nat.le_of_ble_eq_true rfl) ⟨(Nat.le_of_ble_eq_true rfl), (Nat.le_of_ble_eq_true rfl)⟩ zd_Mo_building_5 ?_
  refine zg_if_eq F.1 29 zd_Mo_building_8 rfl (fun hc => ?_) (fun hc => ?_)
  · rw [if_pos hc] at h
    exact zl_Mo_building_29 F a1 a2 a3 y5.2 h
  · rw [if_neg hc] at h
    refine zg_iload_n F.1 zd_Mo_building_11 rfl rfl ?_
    refine zg_iconst F.1 1 1 (by decide) zd_Mo_building_12 ?_
    refine zg_iconst F.1 4 4 (by decide) zd_Mo_building_13 ?_
    obtain ⟨y14, hc14, h⟩ := Option.bind_eq_some_iff.mp h
    refine zg_callS F (As := [.int a2, .int 1, .int 4]) (rest := [.ref 40]) (zk_Mo_in F.1.2.2 N a2 1 4 y5.2 hc14) rfl rfl zcal_Mo_in zml_Mo_69 ⟨(Nat.le_of_ble_eq_true rfl), (Nat.le_of_ble_eq_true rfl)⟩ rfl (Nat.le_of_ble_eq_true rfl) ⟨(Nat.le_of_ble_eq_true rfl), (Nat.le_of_ble_eq_true rfl)⟩ zd_Mo_building_14 ?_
    refine zg_if_eq F.1 29 zd_Mo_building_17 rfl (fun hc => ?_) (fun hc => ?_)
    · rw [if_pos hc] at h
      exact zl_Mo_building_29 F a1 a2 a3 y14.2 h
    · rw [if_neg hc] at h
      refine zg_iload_n F.1 zd_Mo_building_20 rfl rfl ?_
      refine zg_iconst F.1 1 1 (by decide) zd_Mo_building_21 ?_
      refine zg_iconst F.1 5 5 (by decide) zd_Mo_building_22 ?_
      obtain ⟨y23, hc23, h⟩ := Option.bind_eq_some_iff.mp h
      refine zg_callS F (As := [.int a3, .int 1, .int 5]) (rest := [.ref 40]) (zk_Mo_in F.1.2.2 N a3 1 5 y14.2 hc23) rfl rfl zcal_Mo_in zml_Mo_69 ⟨(Nat.le_of_ble_eq_true rfl), (Nat.le_of_ble_eq_true rfl)⟩ rfl (Nat.le_of_ble_eq_true rfl) ⟨(Nat.le_of_ble_eq_true rfl), (Nat.le_of_ble_eq_true rfl)⟩ zd_Mo_building_23 ?_
      refine zg_if_ne F.1 33 zd_Mo_building_26 rfl (fun hc => ?_) (fun hc => ?_)
      · rw [if_neg hc] at h
        refine zg_iconst F.1 0 0 (by decide) zd_Mo_building_33 ?_
        exact zl_Mo_building_34 F a1 a2 a3 0 y23.2 h
      · rw [if_pos hc] at h
        exact zl_Mo_building_29 F a1 a2 a3 y23.2 h
theorem zk_Mo_building {E : zE} (hn : zw_n E 20) (N : Nat) (a1 : Int32) (a2 : Int32) (a3 : Int32) (st : zS)  {rst : zS} (h : zf_Mo_building N a1 a2 a3 st = some rst) : zw_M l zy_Mo_building (Cond.code zy_Mo_building zo_Mo_building 5 none :: zwAll) zrm_Mo_building E [.ref 40, .int a1, .int a2, .int a3] st none rst :=
  zw_enter (by decide) rfl hn (Nat.le_of_ble_eq_true rfl) (by simp [Value.category]) 1 (fun p e s m args below meth c A F => zl_Mo_building_0 F a1 a2 a3 st  h)
set_option maxRecDepth 100000 in
theorem zwf_Mo_63 : Cond.fieldLink zR10 63 (zT10 21).1 (zT10 21).2.1 (zT10 21).2.2.1 ∈ zwAll := zw_at 686 rfl rfl
abbrev zrm_Mo_note : Room := { frames := 0, cells := 0, slots := 0, locals := 0 }
def zf_Mo_note (N : Nat) (a1 : Int32) (a2 : Int32) (a3 : Int32) (st : zS) : Option zS := (if (((st 40 22) - (st 40 22) / 30 * 30) * 4) < 0 ∨ 120 ≤ (((st 40 22) - (st 40 22) / 30 * 30) * 4).toNatClampNeg then none else (if ((((st 40 22) - (st 40 22) / 30 * 30) * 4) + 1) < 0 ∨ 120 ≤ ((((st 40 22) - (st 40 22) / 30 * 30) * 4) + 1).toNatClampNeg then none else (if ((((st 40 22) - (st 40 22) / 30 * 30) * 4) + 2) < 0 ∨ 120 ≤ ((((st 40 22) - (st 40 22) / 30 * 30) * 4) + 2).toNatClampNeg then none else (if ((((st 40 22) - (st 40 22) / 30 * 30) * 4) + 3) < 0 ∨ 120 ≤ ((((st 40 22) - (st 40 22) / 30 * 30) * 4) + 3).toNatClampNeg then none else some (zp (zp (zp (zp (zp st 55 ((((st 40 22) - (st 40 22) / 30 * 30) * 4).toNatClampNeg) (st 40 20)) 55 (((((st 40 22) - (st 40 22) / 30 * 30) * 4) + 1).toNatClampNeg) a1) 55 (((((st 40 22) - (st 40 22) / 30 * 30) * 4) + 2).toNatClampNeg) a2) 55 (((((st 40 22) - (st 40 22) / 30 * 30) * 4) + 3).toNatClampNeg) a3) 40 22 ((st 40 22) + 1))))))
set_option maxHeartbeats 4000000 in
theorem zl_Mo_note_0 (F : zw_X p m c zo_Mo_note 5 s args zR10 E 20 A meth none) {N : Nat} {rst : zS} (a1 : Int32) (a2 : Int32) (a3 : Int32) (st : zS)  (h : zf_Mo_note N a1 a2 a3 st = some rst) : zw_G p l e zrm_Mo_note s m args below meth c (MQ below (zw_Q E none rst A) args s 0 0 A) E A 5 0 0 [some (.ref 40), some (.int a1), some (.int a2), some (.int a3), none] [] st := by
  unfold zf_Mo_note at h
  refine zg_aload_n F.1 zd_Mo_note_0 rfl rfl ?_
  refine zg_getI10 F.1 (by decide) rfl 22 (by decide) (st 40 22) rfl rfl zwf_Mo_87 zd_Mo_note_1 ?_
  refine zg_bipush F.1 30 30 (by decide) zd_Mo_note_4 ?_
  refine zg_irem F.1 zd_Mo_note_6 (by decide) ?_
  refine zg_iconst F.1 4 4 (by decide) zd_Mo_note_7 ?_
  refine zg_imul F.1 zd_Mo_note_8 ?_
  refine zg_istore F.1 [some (.ref 40), some (.int a1), some (.int a2), some (.int a3), some (.int (((st 40 22) - (st 40 22) / 30 * 30) * 4))] zd_Mo_note_9 (by decide) rfl ?_
  refine zg_aload_n F.1 zd_Mo_note_11 rfl rfl ?_
  refine zg_getR10 F.1 (by decide) rfl 21 (by decide) 55 rfl zwf_Mo_63 zd_Mo_note_12 ?_
  refine zg_iload F.1 zd_Mo_note_15 rfl ?_
  refine zg_aload_n F.1 zd_Mo_note_17 rfl rfl ?_
  refine zg_getI10 F.1 (by decide) rfl 20 (by decide) (st 40 20) rfl rfl zwf_Mo_84 zd_Mo_note_18 ?_
  by_cases hi21 : (((st 40 22) - (st 40 22) / 30 * 30) * 4) < 0 ∨ 120 ≤ (((st 40 22) - (st 40 22) / 30 * 30) * 4).toNatClampNeg
  case pos => rw [if_pos hi21] at h; cases h
  rw [if_neg hi21] at h
  refine zg_ast15 F.1 (by decide) rfl hi21 ((((st 40 22) - (st 40 22) / 30 * 30) * 4).toNatClampNeg) rfl zd_Mo_note_21 ?_
  refine zg_aload_n F.1 zd_Mo_note_22 rfl rfl ?_
  refine zg_getR10 F.1 (by decide) rfl 21 (by decide) 55 rfl zwf_Mo_63 zd_Mo_note_23 ?_
  refine zg_iload F.1 zd_Mo_note_26 rfl ?_
  refine zg_iconst F.1 1 1 (by decide) zd_Mo_note_28 ?_
  refine zg_iadd F.1 zd_Mo_note_29 ?_
  refine zg_iload_n F.1 zd_Mo_note_30 rfl rfl ?_
  by_cases hi31 : ((((st 40 22) - (st 40 22) / 30 * 30) * 4) + 1) < 0 ∨ 120 ≤ ((((st 40 22) - (st 40 22) / 30 * 30) * 4) + 1).toNatClampNeg
  case pos => rw [if_pos hi31] at h; cases h
  rw [if_neg hi31] at h
  refine zg_ast15 F.1 (by decide) rfl hi31 (((((st 40 22) - (st 40 22) / 30 * 30) * 4) + 1).toNatClampNeg) rfl zd_Mo_note_31 ?_
  refine zg_aload_n F.1 zd_Mo_note_32 rfl rfl ?_
  refine zg_getR10 F.1 (by decide) rfl 21 (by decide) 55 rfl zwf_Mo_63 zd_Mo_note_33 ?_
  refine zg_iload F.1 zd_Mo_note_36 rfl ?_
  refine zg_iconst F.1 2 2 (by decide) zd_Mo_note_38 ?_
  refine zg_iadd F.1 zd_Mo_note_39 ?_
  refine zg_iload_n F.1 zd_Mo_note_40 rfl rfl ?_
  by_cases hi41 : ((((st 40 22) - (st 40 22) / 30 * 30) * 4) + 2) < 0 ∨ 120 ≤ ((((st 40 22) - (st 40 22) / 30 * 30) * 4) + 2).toNatClampNeg
  case pos => rw [if_pos hi41] at h; cases h
  rw [if_neg hi41] at h
  refine zg_ast15 F.1 (by decide) rfl hi41 (((((st 40 22) - (st 40 22) / 30 * 30) * 4) + 2).toNatClampNeg) rfl zd_Mo_note_41 ?_
  refine zg_aload_n F.1 zd_Mo_note_42 rfl rfl ?_
  refine zg_getR10 F.1 (by decide) rfl 21 (by decide) 55 rfl zwf_Mo_63 zd_Mo_note_43 ?_
  refine zg_iload F.1 zd_Mo_note_46 rfl ?_
  refine zg_iconst F.1 3 3 (by decide) zd_Mo_note_48 ?_
  refine zg_iadd F.1 zd_Mo_note_49 ?_
  refine zg_iload_n F.1 zd_Mo_note_50 rfl rfl ?_
  by_cases hi51 : ((((st 40 22) - (st 40 22) / 30 * 30) * 4) + 3) < 0 ∨ 120 ≤ ((((st 40 22) - (st 40 22) / 30 * 30) * 4) + 3).toNatClampNeg
  case pos => rw [if_pos hi51] at h; cases h
  rw [if_neg hi51] at h
  refine zg_ast15 F.1 (by decide) rfl hi51 (((((st 40 22) - (st 40 22) / 30 * 30) * 4) + 3).toNatClampNeg) rfl zd_Mo_note_51 ?_
  refine zg_aload_n F.1 zd_Mo_note_52 rfl rfl ?_
  refine zg_dup F.1 zd_Mo_note_53 rfl ?_
  refine zg_getI10 F.1 (by decide) rfl 22 (by decide) (st 40 22) rfl ((zp_q _ _ (by decide)).trans ((zp_q _ _ (by decide)).trans ((zp_q _ _ (by decide)).trans (zp_q _ _ (by decide))))) zwf_Mo_87 zd_Mo_note_54 ?_
  refine zg_iconst F.1 1 1 (by decide) zd_Mo_note_57 ?_
  refine zg_iadd F.1 zd_Mo_note_58 ?_
  refine zg_putI10 F.1 (by decide) rfl 22 (by decide) (Or.inr (Or.inr (Or.inr (Or.inr (Or.inr (Or.inr (Or.inr rfl))))))) .int (by decide) rfl rfl rfl zwf_Mo_87 zd_Mo_note_59 ?_
  cases h
  exact zg_vret F zd_Mo_note_62
theorem zk_Mo_note {E : zE} (hn : zw_n E 20) (N : Nat) (a1 : Int32) (a2 : Int32) (a3 : Int32) (st : zS)  {rst : zS} (h : zf_Mo_note N a1 a2 a3 st = some rst) : zw_M l zy_Mo_note (Cond.code zy_Mo_note zo_Mo_note 5 none :: zwAll) zrm_Mo_note E [.ref 40, .int a1, .int a2, .int a3] st none rst :=
  zw_enter (by decide) rfl hn (Nat.le_of_ble_eq_true rfl) (by simp [Value.category]) 1 (fun p e s m args below meth c A F => zl_Mo_note_0 F a1 a2 a3 st  h)
set_option maxRecDepth 100000 in
theorem zwf_Mo_45 : Cond.fieldLink zR10 45 (zT10 13).1 (zT10 13).2.1 (zT10 13).2.2.1 ∈ zwAll := zw_at 678 rfl rfl
set_option maxRecDepth 100000 in
theorem zwf_Mo_48 : Cond.fieldLink zR10 48 (zT10 14).1 (zT10 14).2.1 (zT10 14).2.2.1 ∈ zwAll := zw_at 679 rfl rfl
abbrev zrm_Mo_aboard : Room := { frames := 0, cells := 0, slots := 0, locals := 0 }
def zf_Mo_aboard_44 (N : Nat) (r5 : Int32 → Int32 → Int32 → Int32 → zS → Option (Int32 × zS)) (l1 : Int32) (l2 : Int32) (l4 : Int32) (s0 : Int32) (s1 : Int32) (st : zS) : Option (Int32 × zS) := r5 l1 l2 (s1 + s0) (l4 + 1) st
set_option maxHeartbeats 4000000 in
theorem zl_Mo_aboard_44 (F : zw_X p m c zo_Mo_aboard 5 s args zR10 E 20 A meth (some .int)) {N : Nat} {rv : Int32} {rst : zS} {r5 : Int32 → Int32 → Int32 → Int32 → zS → Option (Int32 × zS)} (hr5 : ∀ (l1 : Int32) (l2 : Int32) (l3 : Int32) (l4 : Int32) (st : zS) , r5 l1 l2 l3 l4 st = some (rv, rst) → zw_G p l e zrm_Mo_aboard s m args below meth c (MQ below (zw_Q E (some (.int rv)) rst A) args s 0 0 A) E A 5 0 5 [some (.ref 40), some (.int l1), some (.int l2), some (.int l3), some (.int l4)] [] st) (l1 : Int32) (l2 : Int32) (l4 : Int32) (s0 : Int32) (s1 : Int32) (st : zS)  (h : zf_Mo_aboard_44 N r5 l1 l2 l4 s0 s1 st = some (rv, rst)) : zw_G p l e zrm_Mo_aboard s m args below meth c (MQ below (zw_Q E (some (.int rv)) rst A) args s 0 0 A) E A 5 0 44 [some (.ref 40), some (.int l1), some (.int l2), none, some (.int l4)] [.int s0, .int s1] st := by
  unfold zf_Mo_aboard_44 at h
  refine zg_iadd F.1 zd_Mo_aboard_44 ?_
  refine zg_istore_n F.1 [some (.ref 40), some (.int l1), some (.int l2), some (.int (s1 + s0)), some (.int l4)] zd_Mo_aboard_45 rfl (by decide) rfl ?_
  refine zg_iinc F.1 (l4 + 1) [some (.ref 40), some (.int l1), some (.int l2), some (.int (s1 + s0)), some (.int (l4 + 1))] zd_Mo_aboard_46 rfl (by rw [lit1]) (by decide) rfl ?_
  refine zg_goto F.1 5 zd_Mo_aboard_49 rfl ?_
  exact hr5 l1 l2 (s1 + s0) (l4 + 1) st h
def zf_Mo_aboard_43 (N : Nat) (r5 : Int32 → Int32 → Int32 → Int32 → zS → Option (Int32 × zS)) (l1 : Int32) (l2 : Int32) (l4 : Int32) (s0 : Int32) (st : zS) : Option (Int32 × zS) := zf_Mo_aboard_44 N r5 l1 l2 l4 0 s0 st
set_option maxHeartbeats 4000000 in
theorem zl_Mo_aboard_43 (F : zw_X p m c zo_Mo_aboard 5 s args zR10 E 20 A meth (some .int)) {N : Nat} {rv : Int32} {rst : zS} {r5 : Int32 → Int32 → Int32 → Int32 → zS → Option (Int32 × zS)} (hr5 : ∀ (l1 : Int32) (l2 : Int32) (l3 : Int32) (l4 : Int32) (st : zS) , r5 l1 l2 l3 l4 st = some (rv, rst) → zw_G p l e zrm_Mo_aboard s m args below meth c (MQ below (zw_Q E (some (.int rv)) rst A) args s 0 0 A) E A 5 0 5 [some (.ref 40), some (.int l1), some (.int l2), some (.int l3), some (.int l4)] [] st) (l1 : Int32) (l2 : Int32) (l4 : Int32) (s0 : Int32) (st : zS)  (h : zf_Mo_aboard_43 N r5 l1 l2 l4 s0 st = some (rv, rst)) : zw_G p l e zrm_Mo_aboard s m args below meth c (MQ below (zw_Q E (some (.int rv)) rst A) args s 0 0 A) E A 5 0 43 [some (.ref 40), some (.int l1), some (.int l2), none, some (.int l4)] [.int s0] st := by
  unfold zf_Mo_aboard_43 at h
  refine zg_iconst F.1 0 0 (by decide) zd_Mo_aboard_43 ?_
  exact zl_Mo_aboard_44 F hr5 l1 l2 l4 0 s0 st h
def zb_Mo_aboard_5 (N : Nat) (r5 : Int32 → Int32 → Int32 → Int32 → zS → Option (Int32 × zS)) (l1 : Int32) (l2 : Int32) (l3 : Int32) (l4 : Int32) (st : zS) : Option (Int32 × zS) := (if (l2 + (st 40 19)) ≤ l4 then some (l3, st) else (if l4 < 0 ∨ 48 ≤ l4.toNatClampNeg then none else (if (st 49 l4.toNatClampNeg) = 1 then (if l4 < 0 ∨ 48 ≤ l4.toNatClampNeg then none else (if (st 50 l4.toNatClampNeg) = l1 then zf_Mo_aboard_44 N r5 l1 l2 l4 1 l3 st else zf_Mo_aboard_43 N r5 l1 l2 l4 l3 st)) else zf_Mo_aboard_43 N r5 l1 l2 l4 l3 st)))
set_option maxHeartbeats 4000000 in
theorem zlb_Mo_aboard_5 (F : zw_X p m c zo_Mo_aboard 5 s args zR10 E 20 A meth (some .int)) {N : Nat} {rv : Int32} {rst : zS} {r5 : Int32 → Int32 → Int32 → Int32 → zS → Option (Int32 × zS)} (hr5 : ∀ (l1 : Int32) (l2 : Int32) (l3 : Int32) (l4 : Int32) (st : zS) , r5 l1 l2 l3 l4 st = some (rv, rst) → zw_G p l e zrm_Mo_aboard s m args below meth c (MQ below (zw_Q E (some (.int rv)) rst A) args s 0 0 A) E A 5 0 5 [some (.ref 40), some (.int l1), some (.int l2), some (.int l3), some (.int l4)] [] st) (l1 : Int32) (l2 : Int32) (l3 : Int32) (l4 : Int32) (st : zS)  (h : zb_Mo_aboard_5 N r5 l1 l2 l3 l4 st = some (rv, rst)) : zw_G p l e zrm_Mo_aboard s m args below meth c (MQ below (zw_Q E (some (.int rv)) rst A) args s 0 0 A) E A 5 0 5 [some (.ref 40), some (.int l1), some (.int l2), some (.int l3), some (.int l4)] [] st := by
  unfold zb_Mo_aboard_5 at h
  refine zg_iload F.1 zd_Mo_aboard_5 rfl ?_
  refine zg_iload_n F.1 zd_Mo_aboard_7 rfl rfl ?_
  refine zg_aload_n F.1 zd_Mo_aboard_8 rfl rfl ?_
  refine zg_getI10 F.1 (by decide) rfl 19 (by decide) (st 40 19) rfl rfl zwf_Mo_81 zd_Mo_aboard_9 ?_
  refine zg_iadd F.1 zd_Mo_aboard_12 ?_
  refine zg_icmp_ge F.1 52 zd_Mo_aboard_13 rfl (fun hc => ?_) (fun hc => ?_)
  · rw [if_pos hc] at h
    refine zg_iload_n F.1 zd_Mo_aboard_52 rfl rfl ?_
    cases h
    exact zg_iret F zd_Mo_aboard_53
  · rw [if_neg hc] at h
    refine zg_iload_n F.1 zd_Mo_aboard_16 rfl rfl ?_
    refine zg_aload_n F.1 zd_Mo_aboard_17 rfl rfl ?_
    refine zg_getR10 F.1 (by decide) rfl 13 (by decide) 49 rfl zwf_Mo_45 zd_Mo_aboard_18 ?_
    refine zg_iload F.1 zd_Mo_aboard_21 rfl ?_
    by_cases hi23 : l4 < 0 ∨ 48 ≤ l4.toNatClampNeg
    case pos => rw [if_pos hi23] at h; cases h
    rw [if_neg hi23] at h
    refine zg_ald13 F.1 (by decide) rfl hi23 l4.toNatClampNeg rfl (st 49 l4.toNatClampNeg) rfl zd_Mo_aboard_23 ?_
    refine zg_iconst F.1 1 1 (by decide) zd_Mo_aboard_24 ?_
    refine zg_icmp_ne F.1 43 zd_Mo_aboard_25 rfl (fun hc => ?_) (fun hc => ?_)
    · rw [if_neg hc] at h
      exact zg_le (zw_les (zw_les (zw_les (zw_len (zw_les zw_le0))))) (zl_Mo_aboard_43 F hr5 l1 l2 l4 l3 st h)
    · rw [if_pos hc] at h
      refine zg_aload_n F.1 zd_Mo_aboard_28 rfl rfl ?_
      refine zg_getR10 F.1 (by decide) rfl 14 (by decide) 50 rfl zwf_Mo_48 zd_Mo_aboard_29 ?_
      refine zg_iload F.1 zd_Mo_aboard_32 rfl ?_
      by_cases hi34 : l4 < 0 ∨ 48 ≤ l4.toNatClampNeg
      case pos => rw [if_pos hi34] at h; cases h
      rw [if_neg hi34] at h
      refine zg_ald13 F.1 (by decide) rfl hi34 l4.toNatClampNeg rfl (st 50 l4.toNatClampNeg) rfl zd_Mo_aboard_34 ?_
      refine zg_iload_n F.1 zd_Mo_aboard_35 rfl rfl ?_
      refine zg_icmp_ne F.1 43 zd_Mo_aboard_36 rfl (fun hc => ?_) (fun hc => ?_)
      · rw [if_neg hc] at h
        exact zg_le (zw_les (zw_les (zw_les (zw_len (zw_les zw_le0))))) (zl_Mo_aboard_43 F hr5 l1 l2 l4 l3 st h)
      · rw [if_pos hc] at h
        refine zg_iconst F.1 1 1 (by decide) zd_Mo_aboard_39 ?_
        refine zg_goto F.1 44 zd_Mo_aboard_40 rfl ?_
        exact zg_le (zw_les (zw_les (zw_les (zw_len (zw_les zw_le0))))) (zl_Mo_aboard_44 F hr5 l1 l2 l4 1 l3 st h)
def zf_Mo_aboard_5 (N : Nat)  : Nat → Int32 → Int32 → Int32 → Int32 → zS → Option (Int32 × zS)
  | 0, _, _, _, _, _ => none
  | n + 1, l1, l2, l3, l4, st => zb_Mo_aboard_5 N  (zf_Mo_aboard_5 N  n) l1 l2 l3 l4 st
theorem zl_Mo_aboard_5 (F : zw_X p m c zo_Mo_aboard 5 s args zR10 E 20 A meth (some .int)) {N : Nat} {rv : Int32} {rst : zS}   : ∀ (n : Nat) (l1 : Int32) (l2 : Int32) (l3 : Int32) (l4 : Int32) (st : zS)  (h : zf_Mo_aboard_5 N  n l1 l2 l3 l4 st = some (rv, rst)), zw_G p l e zrm_Mo_aboard s m args below meth c (MQ below (zw_Q E (some (.int rv)) rst A) args s 0 0 A) E A 5 0 5 [some (.ref 40), some (.int l1), some (.int l2), some (.int l3), some (.int l4)] [] st := by
  intro n
  induction n with
  | zero => intro l1 l2 l3 l4 st  h; cases h
  | succ n ih => intro l1 l2 l3 l4 st  h; exact zlb_Mo_aboard_5 F  ih l1 l2 l3 l4 st  h
def zf_Mo_aboard (N : Nat) (a1 : Int32) (a2 : Int32) (st : zS) : Option (Int32 × zS) := zf_Mo_aboard_5 N N a1 a2 0 a2 st
set_option maxHeartbeats 4000000 in
theorem zl_Mo_aboard_0 (F : zw_X p m c zo_Mo_aboard 5 s args zR10 E 20 A meth (some .int)) {N : Nat} {rv : Int32} {rst : zS} (a1 : Int32) (a2 : Int32) (st : zS)  (h : zf_Mo_aboard N a1 a2 st = some (rv, rst)) : zw_G p l e zrm_Mo_aboard s m args below meth c (MQ below (zw_Q E (some (.int rv)) rst A) args s 0 0 A) E A 5 0 0 [some (.ref 40), some (.int a1), some (.int a2), none, none] [] st := by
  unfold zf_Mo_aboard at h
  refine zg_iconst F.1 0 0 (by decide) zd_Mo_aboard_0 ?_
  refine zg_istore_n F.1 [some (.ref 40), some (.int a1), some (.int a2), some (.int 0), none] zd_Mo_aboard_1 rfl (by decide) rfl ?_
  refine zg_iload_n F.1 zd_Mo_aboard_2 rfl rfl ?_
  refine zg_istore F.1 [some (.ref 40), some (.int a1), some (.int a2), some (.int 0), some (.int a2)] zd_Mo_aboard_3 (by decide) rfl ?_
  exact zl_Mo_aboard_5 F N a1 a2 0 a2 st h
theorem zk_Mo_aboard {E : zE} (hn : zw_n E 20) (N : Nat) (a1 : Int32) (a2 : Int32) (st : zS)  {rv : Int32} {rst : zS} (h : zf_Mo_aboard N a1 a2 st = some (rv, rst)) : zw_M l zy_Mo_aboard (Cond.code zy_Mo_aboard zo_Mo_aboard 5 (some .int) :: zwAll) zrm_Mo_aboard E [.ref 40, .int a1, .int a2] st (some (.int rv)) rst :=
  zw_enter (by decide) rfl hn (Nat.le_of_ble_eq_true rfl) (by simp [Value.category]) 2 (fun p e s m args below meth c A F => zl_Mo_aboard_0 F a1 a2 st  h)
set_option maxRecDepth 100000 in
theorem zcal_Mo_aboard : zw_cal zR10 zy_Mo_aboard zo_Mo_aboard 5 (some .int) 2 := ⟨zw_at 797 rfl rfl, zw_at 36 rfl rfl, zw_at 52 rfl rfl, zw_at 798 rfl rfl, rfl, by decide, by decide, by decide +kernel⟩
set_option maxRecDepth 100000 in
theorem zml_Mo_90 : Cond.methodLink zR10 90 zy_Mo_aboard ∈ zwAll := zw_at 795 rfl rfl
set_option maxRecDepth 100000 in
theorem zwf_Mo_54 : Cond.fieldLink zR10 54 (zT10 16).1 (zT10 16).2.1 (zT10 16).2.2.1 ∈ zwAll := zw_at 681 rfl rfl
set_option maxRecDepth 100000 in
theorem zwf_Mo_51 : Cond.fieldLink zR10 51 (zT10 15).1 (zT10 15).2.1 (zT10 15).2.2.1 ∈ zwAll := zw_at 680 rfl rfl
abbrev zrm_Mo_isStop : Room := { frames := 1, cells := 0, slots := 0, locals := 24 }
def zf_Mo_isStop_16 (N : Nat)  (s0 : Int32) (st : zS) : Option (Int32 × zS) := (if s0 = 0 ∨ s0 = 1 then some (s0, st) else none)
set_option maxHeartbeats 4000000 in
theorem zl_Mo_isStop_16 (F : zw_X p m c zo_Mo_isStop 8 s args zR10 E 20 A meth (some .boolean)) {N : Nat} {rv : Int32} {rst : zS}   (s0 : Int32) (st : zS)  (h : zf_Mo_isStop_16 N  s0 st = some (rv, rst)) : zw_G p l e zrm_Mo_isStop s m args below meth c (MQ below (zw_Q E (some (.int rv)) rst A) args s 0 0 A) E A 8 0 16 [none, none, none, none, none, none, none, none] [.int s0] st := by
  unfold zf_Mo_isStop_16 at h
  by_cases hb16 : s0 = 0 ∨ s0 = 1
  case neg => rw [if_neg hb16] at h; cases h
  rw [if_pos hb16] at h
  cases h
  exact zg_zret F hb16 zd_Mo_isStop_16
def zf_Mo_isStop_140 (N : Nat) (r43 : Int32 → Int32 → Int32 → Int32 → Int32 → Int32 → zS → Option (Int32 × zS)) (l1 : Int32) (l2 : Int32) (l3 : Int32) (l4 : Int32) (l6 : Int32) (s0 : Int32) (st : zS) : Option (Int32 × zS) := r43 l1 l2 l3 l4 s0 (l6 + 1) st
set_option maxHeartbeats 4000000 in
theorem zl_Mo_isStop_140 (F : zw_X p m c zo_Mo_isStop 8 s args zR10 E 20 A meth (some .boolean)) {N : Nat} {rv : Int32} {rst : zS} {r43 : Int32 → Int32 → Int32 → Int32 → Int32 → Int32 → zS → Option (Int32 × zS)} (hr43 : ∀ (l1 : Int32) (l2 : Int32) (l3 : Int32) (l4 : Int32) (l5 : Int32) (l6 : Int32) (st : zS) , r43 l1 l2 l3 l4 l5 l6 st = some (rv, rst) → zw_G p l e zrm_Mo_isStop s m args below meth c (MQ below (zw_Q E (some (.int rv)) rst A) args s 0 0 A) E A 8 0 43 [some (.ref 40), some (.int l1), some (.int l2), some (.int l3), some (.int l4), some (.int l5), some (.int l6), none] [] st) (l1 : Int32) (l2 : Int32) (l3 : Int32) (l4 : Int32) (l6 : Int32) (s0 : Int32) (st : zS)  (h : zf_Mo_isStop_140 N r43 l1 l2 l3 l4 l6 s0 st = some (rv, rst)) : zw_G p l e zrm_Mo_isStop s m args below meth c (MQ below (zw_Q E (some (.int rv)) rst A) args s 0 0 A) E A 8 0 140 [some (.ref 40), some (.int l1), some (.int l2), some (.int l3), some (.int l4), none, some (.int l6), none] [.int s0] st := by
  unfold zf_Mo_isStop_140 at h
  refine zg_istore F.1 [some (.ref 40), some (.int l1), some (.int l2), some (.int l3), some (.int l4), some (.int s0), some (.int l6), none] zd_Mo_isStop_140 (by decide) rfl ?_
  refine zg_iinc F.1 (l6 + 1) [some (.ref 40), some (.int l1), some (.int l2), some (.int l3), some (.int l4), some (.int s0), some (.int (l6 + 1)), none] zd_Mo_isStop_142 rfl (by rw [lit1]) (by decide) rfl ?_
  refine zg_goto F.1 43 zd_Mo_isStop_145 rfl ?_
  exact hr43 l1 l2 l3 l4 s0 (l6 + 1) st h
def zf_Mo_isStop_135 (N : Nat) (r43 : Int32 → Int32 → Int32 → Int32 → Int32 → Int32 → zS → Option (Int32 × zS)) (l1 : Int32) (l2 : Int32) (l3 : Int32) (l4 : Int32) (l6 : Int32) (st : zS) : Option (Int32 × zS) := zf_Mo_isStop_140 N r43 l1 l2 l3 l4 l6 1 st
set_option maxHeartbeats 4000000 in
theorem zl_Mo_isStop_135 (F : zw_X p m c zo_Mo_isStop 8 s args zR10 E 20 A meth (some .boolean)) {N : Nat} {rv : Int32} {rst : zS} {r43 : Int32 → Int32 → Int32 → Int32 → Int32 → Int32 → zS → Option (Int32 × zS)} (hr43 : ∀ (l1 : Int32) (l2 : Int32) (l3 : Int32) (l4 : Int32) (l5 : Int32) (l6 : Int32) (st : zS) , r43 l1 l2 l3 l4 l5 l6 st = some (rv, rst) → zw_G p l e zrm_Mo_isStop s m args below meth c (MQ below (zw_Q E (some (.int rv)) rst A) args s 0 0 A) E A 8 0 43 [some (.ref 40), some (.int l1), some (.int l2), some (.int l3), some (.int l4), some (.int l5), some (.int l6), none] [] st) (l1 : Int32) (l2 : Int32) (l3 : Int32) (l4 : Int32) (l6 : Int32) (st : zS)  (h : zf_Mo_isStop_135 N r43 l1 l2 l3 l4 l6 st = some (rv, rst)) : zw_G p l e zrm_Mo_isStop s m args below meth c (MQ below (zw_Q E (some (.int rv)) rst A) args s 0 0 A) E A 8 0 135 [some (.ref 40), some (.int l1), some (.int l2), some (.int l3), some (.int l4), none, some (.int l6), none] [] st := by
  unfold zf_Mo_isStop_135 at h
  refine zg_iconst F.1 1 1 (by decide) zd_Mo_isStop_135 ?_
  refine zg_goto F.1 140 zd_Mo_isStop_136 rfl ?_
  exact zl_Mo_isStop_140 F hr43 l1 l2 l3 l4 l6 1 st h
def zf_Mo_isStop_139 (N : Nat) (r43 : Int32 → Int32 → Int32 → Int32 → Int32 → Int32 → zS → Option (Int32 × zS)) (l1 : Int32) (l2 : Int32) (l3 : Int32) (l4 : Int32) (l6 : Int32) (st : zS) : Option (Int32 × zS) := zf_Mo_isStop_140 N r43 l1 l2 l3 l4 l6 0 st
set_option maxHeartbeats 4000000 in
theorem zl_Mo_isStop_139 (F : zw_X p m c zo_Mo_isStop 8 s args zR10 E 20 A meth (some .boolean)) {N : Nat} {rv : Int32} {rst : zS} {r43 : Int32 → Int32 → Int32 → Int32 → Int32 → Int32 → zS → Option (Int32 × zS)} (hr43 : ∀ (l1 : Int32) (l2 : Int32) (l3 : Int32) (l4 : Int32) (l5 : Int32) (l6 : Int32) (st : zS) , r43 l1 l2 l3 l4 l5 l6 st = some (rv, rst) → zw_G p l e zrm_Mo_isStop s m args below meth c (MQ below (zw_Q E (some (.int rv)) rst A) args s 0 0 A) E A 8 0 43 [some (.ref 40), some (.int l1), some (.int l2), some (.int l3), some (.int l4), some (.int l5), some (.int l6), none] [] st) (l1 : Int32) (l2 : Int32) (l3 : Int32) (l4 : Int32) (l6 : Int32) (st : zS)  (h : zf_Mo_isStop_139 N r43 l1 l2 l3 l4 l6 st = some (rv, rst)) : zw_G p l e zrm_Mo_isStop s m args below meth c (MQ below (zw_Q E (some (.int rv)) rst A) args s 0 0 A) E A 8 0 139 [some (.ref 40), some (.int l1), some (.int l2), some (.int l3), some (.int l4), none, some (.int l6), none] [] st := by
  unfold zf_Mo_isStop_139 at h
  refine zg_iconst F.1 0 0 (by decide) zd_Mo_isStop_139 ?_
  exact zl_Mo_isStop_140 F hr43 l1 l2 l3 l4 l6 0 st h
def zf_Mo_isStop_104 (N : Nat) (r43 : Int32 → Int32 → Int32 → Int32 → Int32 → Int32 → zS → Option (Int32 × zS)) (l1 : Int32) (l2 : Int32) (l3 : Int32) (l4 : Int32) (l6 : Int32) (l7 : Int32) (st : zS) : Option (Int32 × zS) := (if l7 = 0 then zf_Mo_isStop_139 N r43 l1 l2 l3 l4 l6 st else (if l6 < 0 ∨ 48 ≤ l6.toNatClampNeg then none else (if (st 49 l6.toNatClampNeg) = 0 then (if l6 < 0 ∨ 48 ≤ l6.toNatClampNeg then none else (if (st 51 l6.toNatClampNeg) = l2 then (if l4 = 0 then zf_Mo_isStop_139 N r43 l1 l2 l3 l4 l6 st else zf_Mo_isStop_135 N r43 l1 l2 l3 l4 l6 st) else zf_Mo_isStop_139 N r43 l1 l2 l3 l4 l6 st)) else zf_Mo_isStop_139 N r43 l1 l2 l3 l4 l6 st)))
set_option maxHeartbeats 4000000 in
theorem zl_Mo_isStop_104 (F : zw_X p m c zo_Mo_isStop 8 s args zR10 E 20 A meth (some .boolean)) {N : Nat} {rv : Int32} {rst : zS} {r43 : Int32 → Int32 → Int32 → Int32 → Int32 → Int32 → zS → Option (Int32 × zS)} (hr43 : ∀ (l1 : Int32) (l2 : Int32) (l3 : Int32) (l4 : Int32) (l5 : Int32) (l6 : Int32) (st : zS) , r43 l1 l2 l3 l4 l5 l6 st = some (rv, rst) → zw_G p l e zrm_Mo_isStop s m args below meth c (MQ below (zw_Q E (some (.int rv)) rst A) args s 0 0 A) E A 8 0 43 [some (.ref 40), some (.int l1), some (.int l2), some (.int l3), some (.int l4), some (.int l5), some (.int l6), none] [] st) (l1 : Int32) (l2 : Int32) (l3 : Int32) (l4 : Int32) (l6 : Int32) (l7 : Int32) (st : zS)  (h : zf_Mo_isStop_104 N r43 l1 l2 l3 l4 l6 l7 st = some (rv, rst)) : zw_G p l e zrm_Mo_isStop s m args below meth c (MQ below (zw_Q E (some (.int rv)) rst A) args s 0 0 A) E A 8 0 104 [some (.ref 40), some (.int l1), some (.int l2), some (.int l3), some (.int l4), none, some (.int l6), some (.int l7)] [] st := by
  unfold zf_Mo_isStop_104 at h
  refine zg_iload F.1 zd_Mo_isStop_104 rfl ?_
  refine zg_if_eq F.1 139 zd_Mo_isStop_106 rfl (fun hc => ?_) (fun hc => ?_)
  · rw [if_pos hc] at h
    exact zg_le (zw_les (zw_les (zw_les (zw_les (zw_les (zw_les (zw_les (zw_len zw_le0)))))))) (zl_Mo_isStop_139 F hr43 l1 l2 l3 l4 l6 st h)
  · rw [if_neg hc] at h
    refine zg_aload_n F.1 zd_Mo_isStop_109 rfl rfl ?_
    refine zg_getR10 F.1 (by decide) rfl 13 (by decide) 49 rfl zwf_Mo_45 zd_Mo_isStop_110 ?_
    refine zg_iload F.1 zd_Mo_isStop_113 rfl ?_
    by_cases hi115 : l6 < 0 ∨ 48 ≤ l6.toNatClampNeg
    case pos => rw [if_pos hi115] at h; cases h
    rw [if_neg hi115] at h
    refine zg_ald13 F.1 (by decide) rfl hi115 l6.toNatClampNeg rfl (st 49 l6.toNatClampNeg) rfl zd_Mo_isStop_115 ?_
    refine zg_if_ne F.1 139 zd_Mo_isStop_116 rfl (fun hc => ?_) (fun hc => ?_)
    · rw [if_neg hc] at h
      exact zg_le (zw_les (zw_les (zw_les (zw_les (zw_les (zw_les (zw_les (zw_len zw_le0)))))))) (zl_Mo_isStop_139 F hr43 l1 l2 l3 l4 l6 st h)
    · rw [if_pos hc] at h
      refine zg_aload_n F.1 zd_Mo_isStop_119 rfl rfl ?_
      refine zg_getR10 F.1 (by decide) rfl 15 (by decide) 51 rfl zwf_Mo_51 zd_Mo_isStop_120 ?_
      refine zg_iload F.1 zd_Mo_isStop_123 rfl ?_
      by_cases hi125 : l6 < 0 ∨ 48 ≤ l6.toNatClampNeg
      case pos => rw [if_pos hi125] at h; cases h
      rw [if_neg hi125] at h
      refine zg_ald13 F.1 (by decide) rfl hi125 l6.toNatClampNeg rfl (st 51 l6.toNatClampNeg) rfl zd_Mo_isStop_125 ?_
      refine zg_iload_n F.1 zd_Mo_isStop_126 rfl rfl ?_
      refine zg_icmp_ne F.1 139 zd_Mo_isStop_127 rfl (fun hc => ?_) (fun hc => ?_)
      · rw [if_neg hc] at h
        exact zg_le (zw_les (zw_les (zw_les (zw_les (zw_les (zw_les (zw_les (zw_len zw_le0)))))))) (zl_Mo_isStop_139 F hr43 l1 l2 l3 l4 l6 st h)
      · rw [if_pos hc] at h
        refine zg_iload F.1 zd_Mo_isStop_130 rfl ?_
        refine zg_if_eq F.1 139 zd_Mo_isStop_132 rfl (fun hc => ?_) (fun hc => ?_)
        · rw [if_pos hc] at h
          exact zg_le (zw_les (zw_les (zw_les (zw_les (zw_les (zw_les (zw_les (zw_len zw_le0)))))))) (zl_Mo_isStop_139 F hr43 l1 l2 l3 l4 l6 st h)
        · rw [if_neg hc] at h
          exact zg_le (zw_les (zw_les (zw_les (zw_les (zw_les (zw_les (zw_les (zw_len zw_le0)))))))) (zl_Mo_isStop_135 F hr43 l1 l2 l3 l4 l6 st h)
def zf_Mo_isStop_70 (N : Nat) (r43 : Int32 → Int32 → Int32 → Int32 → Int32 → Int32 → zS → Option (Int32 × zS)) (l1 : Int32) (l2 : Int32) (l3 : Int32) (l4 : Int32) (l5 : Int32) (l6 : Int32) (s0 : Int32) (st : zS) : Option (Int32 × zS) := (if l5 = 0 then (if s0 = 0 then zf_Mo_isStop_104 N r43 l1 l2 l3 l4 l6 s0 st else (if l6 < 0 ∨ 48 ≤ l6.toNatClampNeg then none else (if (st 49 l6.toNatClampNeg) = 1 then (if l6 < 0 ∨ 48 ≤ l6.toNatClampNeg then none else (if (st 52 l6.toNatClampNeg) = l2 then zf_Mo_isStop_135 N r43 l1 l2 l3 l4 l6 st else zf_Mo_isStop_104 N r43 l1 l2 l3 l4 l6 s0 st)) else zf_Mo_isStop_104 N r43 l1 l2 l3 l4 l6 s0 st))) else zf_Mo_isStop_135 N r43 l1 l2 l3 l4 l6 st)
set_option maxHeartbeats 4000000 in
theorem zl_Mo_isStop_70 (F : zw_X p m c zo_Mo_isStop 8 s args zR10 E 20 A meth (some .boolean)) {N : Nat} {rv : Int32} {rst : zS} {r43 : Int32 → Int32 → Int32 → Int32 → Int32 → Int32 → zS → Option (Int32 × zS)} (hr43 : ∀ (l1 : Int32) (l2 : Int32) (l3 : Int32) (l4 : Int32) (l5 : Int32) (l6 : Int32) (st : zS) , r43 l1 l2 l3 l4 l5 l6 st = some (rv, rst) → zw_G p l e zrm_Mo_isStop s m args below meth c (MQ below (zw_Q E (some (.int rv)) rst A) args s 0 0 A) E A 8 0 43 [some (.ref 40), some (.int l1), some (.int l2), some (.int l3), some (.int l4), some (.int l5), some (.int l6), none] [] st) (l1 : Int32) (l2 : Int32) (l3 : Int32) (l4 : Int32) (l5 : Int32) (l6 : Int32) (s0 : Int32) (st : zS)  (h : zf_Mo_isStop_70 N r43 l1 l2 l3 l4 l5 l6 s0 st = some (rv, rst)) : zw_G p l e zrm_Mo_isStop s m args below meth c (MQ below (zw_Q E (some (.int rv)) rst A) args s 0 0 A) E A 8 0 70 [some (.ref 40), some (.int l1), some (.int l2), some (.int l3), some (.int l4), some (.int l5), some (.int l6), none] [.int s0] st := by
  unfold zf_Mo_isStop_70 at h
  refine zg_istore F.1 [some (.ref 40), some (.int l1), some (.int l2), some (.int l3), some (.int l4), some (.int l5), some (.int l6), some (.int s0)] zd_Mo_isStop_70 (by decide) rfl ?_
  refine zg_iload F.1 zd_Mo_isStop_72 rfl ?_
  refine zg_if_ne F.1 135 zd_Mo_isStop_74 rfl (fun hc => ?_) (fun hc => ?_)
  · rw [if_neg hc] at h
    exact zg_le (zw_les (zw_les (zw_les (zw_les (zw_les (zw_len (zw_les (zw_len zw_le0)))))))) (zl_Mo_isStop_135 F hr43 l1 l2 l3 l4 l6 st h)
  · rw [if_pos hc] at h
    refine zg_iload F.1 zd_Mo_isStop_77 rfl ?_
    refine zg_if_eq F.1 104 zd_Mo_isStop_79 rfl (fun hc => ?_) (fun hc => ?_)
    · rw [if_pos hc] at h
      exact zg_le (zw_les (zw_les (zw_les (zw_les (zw_les (zw_len (zw_les (zw_les zw_le0)))))))) (zl_Mo_isStop_104 F hr43 l1 l2 l3 l4 l6 s0 st h)
    · rw [if_neg hc] at h
      refine zg_aload_n F.1 zd_Mo_isStop_82 rfl rfl ?_
      refine zg_getR10 F.1 (by decide) rfl 13 (by decide) 49 rfl zwf_Mo_45 zd_Mo_isStop_83 ?_
      refine zg_iload F.1 zd_Mo_isStop_86 rfl ?_
      by_cases hi88 : l6 < 0 ∨ 48 ≤ l6.toNatClampNeg
      case pos => rw [if_pos hi88] at h; cases h
      rw [if_neg hi88] at h
      refine zg_ald13 F.1 (by decide) rfl hi88 l6.toNatClampNeg rfl (st 49 l6.toNatClampNeg) rfl zd_Mo_isStop_88 ?_
      refine zg_iconst F.1 1 1 (by decide) zd_Mo_isStop_89 ?_
      refine zg_icmp_ne F.1 104 zd_Mo_isStop_90 rfl (fun hc => ?_) (fun hc => ?_)
      · rw [if_neg hc] at h
        exact zg_le (zw_les (zw_les (zw_les (zw_les (zw_les (zw_len (zw_les (zw_les zw_le0)))))))) (zl_Mo_isStop_104 F hr43 l1 l2 l3 l4 l6 s0 st h)
      · rw [if_pos hc] at h
        refine zg_aload_n F.1 zd_Mo_isStop_93 rfl rfl ?_
        refine zg_getR10 F.1 (by decide) rfl 16 (by decide) 52 rfl zwf_Mo_54 zd_Mo_isStop_94 ?_
        refine zg_iload F.1 zd_Mo_isStop_97 rfl ?_
        by_cases hi99 : l6 < 0 ∨ 48 ≤ l6.toNatClampNeg
        case pos => rw [if_pos hi99] at h; cases h
        rw [if_neg hi99] at h
        refine zg_ald13 F.1 (by decide) rfl hi99 l6.toNatClampNeg rfl (st 52 l6.toNatClampNeg) rfl zd_Mo_isStop_99 ?_
        refine zg_iload_n F.1 zd_Mo_isStop_100 rfl rfl ?_
        refine zg_icmp_eq F.1 135 zd_Mo_isStop_101 rfl (fun hc => ?_) (fun hc => ?_)
        · rw [if_pos hc] at h
          exact zg_le (zw_les (zw_les (zw_les (zw_les (zw_les (zw_len (zw_les (zw_len zw_le0)))))))) (zl_Mo_isStop_135 F hr43 l1 l2 l3 l4 l6 st h)
        · rw [if_neg hc] at h
          exact zg_le (zw_les (zw_les (zw_les (zw_les (zw_les (zw_len (zw_les (zw_les zw_le0)))))))) (zl_Mo_isStop_104 F hr43 l1 l2 l3 l4 l6 s0 st h)
def zb_Mo_isStop_43 (N : Nat) (r43 : Int32 → Int32 → Int32 → Int32 → Int32 → Int32 → zS → Option (Int32 × zS)) (l1 : Int32) (l2 : Int32) (l3 : Int32) (l4 : Int32) (l5 : Int32) (l6 : Int32) (st : zS) : Option (Int32 × zS) := (if (l3 + (st 40 19)) ≤ l6 then (if l5 = 0 ∨ l5 = 1 then some (l5, st) else none) else (if l6 < 0 ∨ 48 ≤ l6.toNatClampNeg then none else (if (st 50 l6.toNatClampNeg) = l1 then zf_Mo_isStop_70 N r43 l1 l2 l3 l4 l5 l6 1 st else zf_Mo_isStop_70 N r43 l1 l2 l3 l4 l5 l6 0 st)))
set_option maxHeartbeats 4000000 in
theorem zlb_Mo_isStop_43 (F : zw_X p m c zo_Mo_isStop 8 s args zR10 E 20 A meth (some .boolean)) {N : Nat} {rv : Int32} {rst : zS} {r43 : Int32 → Int32 → Int32 → Int32 → Int32 → Int32 → zS → Option (Int32 × zS)} (hr43 : ∀ (l1 : Int32) (l2 : Int32) (l3 : Int32) (l4 : Int32) (l5 : Int32) (l6 : Int32) (st : zS) , r43 l1 l2 l3 l4 l5 l6 st = some (rv, rst) → zw_G p l e zrm_Mo_isStop s m args below meth c (MQ below (zw_Q E (some (.int rv)) rst A) args s 0 0 A) E A 8 0 43 [some (.ref 40), some (.int l1), some (.int l2), some (.int l3), some (.int l4), some (.int l5), some (.int l6), none] [] st) (l1 : Int32) (l2 : Int32) (l3 : Int32) (l4 : Int32) (l5 : Int32) (l6 : Int32) (st : zS)  (h : zb_Mo_isStop_43 N r43 l1 l2 l3 l4 l5 l6 st = some (rv, rst)) : zw_G p l e zrm_Mo_isStop s m args below meth c (MQ below (zw_Q E (some (.int rv)) rst A) args s 0 0 A) E A 8 0 43 [some (.ref 40), some (.int l1), some (.int l2), some (.int l3), some (.int l4), some (.int l5), some (.int l6), none] [] st := by
  unfold zb_Mo_isStop_43 at h
  refine zg_iload F.1 zd_Mo_isStop_43 rfl ?_
  refine zg_iload_n F.1 zd_Mo_isStop_45 rfl rfl ?_
  refine zg_aload_n F.1 zd_Mo_isStop_46 rfl rfl ?_
  refine zg_getI10 F.1 (by decide) rfl 19 (by decide) (st 40 19) rfl rfl zwf_Mo_81 zd_Mo_isStop_47 ?_
  refine zg_iadd F.1 zd_Mo_isStop_50 ?_
  refine zg_icmp_ge F.1 148 zd_Mo_isStop_51 rfl (fun hc => ?_) (fun hc => ?_)
  · rw [if_pos hc] at h
    refine zg_iload F.1 zd_Mo_isStop_148 rfl ?_
    by_cases hb150 : l5 = 0 ∨ l5 = 1
    case neg => rw [if_neg hb150] at h; cases h
    rw [if_pos hb150] at h
    cases h
    exact zg_zret F hb150 zd_Mo_isStop_150
  · rw [if_neg hc] at h
    refine zg_aload_n F.1 zd_Mo_isStop_54 rfl rfl ?_
    refine zg_getR10 F.1 (by decide) rfl 14 (by decide) 50 rfl zwf_Mo_48 zd_Mo_isStop_55 ?_
    refine zg_iload F.1 zd_Mo_isStop_58 rfl ?_
    by_cases hi60 : l6 < 0 ∨ 48 ≤ l6.toNatClampNeg
    case pos => rw [if_pos hi60] at h; cases h
    rw [if_neg hi60] at h
    refine zg_ald13 F.1 (by decide) rfl hi60 l6.toNatClampNeg rfl (st 50 l6.toNatClampNeg) rfl zd_Mo_isStop_60 ?_
    refine zg_iload_n F.1 zd_Mo_isStop_61 rfl rfl ?_
    refine zg_icmp_ne F.1 69 zd_Mo_isStop_62 rfl (fun hc => ?_) (fun hc => ?_)
    · rw [if_neg hc] at h
      refine zg_iconst F.1 0 0 (by decide) zd_Mo_isStop_69 ?_
      exact zl_Mo_isStop_70 F hr43 l1 l2 l3 l4 l5 l6 0 st h
    · rw [if_pos hc] at h
      refine zg_iconst F.1 1 1 (by decide) zd_Mo_isStop_65 ?_
      refine zg_goto F.1 70 zd_Mo_isStop_66 rfl ?_
      exact zl_Mo_isStop_70 F hr43 l1 l2 l3 l4 l5 l6 1 st h
def zf_Mo_isStop_43 (N : Nat)  : Nat → Int32 → Int32 → Int32 → Int32 → Int32 → Int32 → zS → Option (Int32 × zS)
  | 0, _, _, _, _, _, _, _ => none
  | n + 1, l1, l2, l3, l4, l5, l6, st => zb_Mo_isStop_43 N  (zf_Mo_isStop_43 N  n) l1 l2 l3 l4 l5 l6 st
theorem zl_Mo_isStop_43 (F : zw_X p m c zo_Mo_isStop 8 s args zR10 E 20 A meth (some .boolean)) {N : Nat} {rv : Int32} {rst : zS}   : ∀ (n : Nat) (l1 : Int32) (l2 : Int32) (l3 : Int32) (l4 : Int32) (l5 : Int32) (l6 : Int32) (st : zS)  (h : zf_Mo_isStop_43 N  n l1 l2 l3 l4 l5 l6 st = some (rv, rst)), zw_G p l e zrm_Mo_isStop s m args below meth c (MQ below (zw_Q E (some (.int rv)) rst A) args s 0 0 A) E A 8 0 43 [some (.ref 40), some (.int l1), some (.int l2), some (.int l3), some (.int l4), some (.int l5), some (.int l6), none] [] st := by
  intro n
  induction n with
  | zero => intro l1 l2 l3 l4 l5 l6 st  h; cases h
  | succ n ih => intro l1 l2 l3 l4 l5 l6 st  h; exact zlb_Mo_isStop_43 F  ih l1 l2 l3 l4 l5 l6 st  h
def zf_Mo_isStop_35 (N : Nat)  (l1 : Int32) (l2 : Int32) (l3 : Int32) (s0 : Int32) (st : zS) : Option (Int32 × zS) := zf_Mo_isStop_43 N N l1 l2 l3 s0 0 l3 st
set_option maxHeartbeats 4000000 in
theorem zl_Mo_isStop_35 (F : zw_X p m c zo_Mo_isStop 8 s args zR10 E 20 A meth (some .boolean)) {N : Nat} {rv : Int32} {rst : zS}   (l1 : Int32) (l2 : Int32) (l3 : Int32) (s0 : Int32) (st : zS)  (h : zf_Mo_isStop_35 N  l1 l2 l3 s0 st = some (rv, rst)) : zw_G p l e zrm_Mo_isStop s m args below meth c (MQ below (zw_Q E (some (.int rv)) rst A) args s 0 0 A) E A 8 0 35 [some (.ref 40), some (.int l1), some (.int l2), some (.int l3), none, none, none, none] [.int s0] st := by
  unfold zf_Mo_isStop_35 at h
  refine zg_istore F.1 [some (.ref 40), some (.int l1), some (.int l2), some (.int l3), some (.int s0), none, none, none] zd_Mo_isStop_35 (by decide) rfl ?_
  refine zg_iconst F.1 0 0 (by decide) zd_Mo_isStop_37 ?_
  refine zg_istore F.1 [some (.ref 40), some (.int l1), some (.int l2), some (.int l3), some (.int s0), some (.int 0), none, none] zd_Mo_isStop_38 (by decide) rfl ?_
  refine zg_iload_n F.1 zd_Mo_isStop_40 rfl rfl ?_
  refine zg_istore F.1 [some (.ref 40), some (.int l1), some (.int l2), some (.int l3), some (.int s0), some (.int 0), some (.int l3), none] zd_Mo_isStop_41 (by decide) rfl ?_
  exact zl_Mo_isStop_43 F N l1 l2 l3 s0 0 l3 st h
def zf_Mo_isStop (N : Nat) (a1 : Int32) (a2 : Int32) (a3 : Int32) (st : zS) : Option (Int32 × zS) := (if (st 40 12) = 0 then ((zf_Mo_aboard N a1 a3 st).bind fun y20 => (if (y20.2 40 3) ≤ y20.1 then zf_Mo_isStop_35 N a1 a2 a3 0 y20.2 else zf_Mo_isStop_35 N a1 a2 a3 1 y20.2)) else (if a2 = 0 then zf_Mo_isStop_16 N 1 st else zf_Mo_isStop_16 N 0 st))
set_option maxHeartbeats 4000000 in
theorem zl_Mo_isStop_0 (F : zw_X p m c zo_Mo_isStop 8 s args zR10 E 20 A meth (some .boolean)) {N : Nat} {rv : Int32} {rst : zS} (a1 : Int32) (a2 : Int32) (a3 : Int32) (st : zS)  (h : zf_Mo_isStop N a1 a2 a3 st = some (rv, rst)) : zw_G p l e zrm_Mo_isStop s m args below meth c (MQ below (zw_Q E (some (.int rv)) rst A) args s 0 0 A) E A 8 0 0 [some (.ref 40), some (.int a1), some (.int a2), some (.int a3), none, none, none, none] [] st := by
  unfold zf_Mo_isStop at h
  refine zg_aload_n F.1 zd_Mo_isStop_0 rfl rfl ?_
  refine zg_getI10 F.1 (by decide) rfl 12 (by decide) (st 40 12) rfl rfl zwf_Mo_77 zd_Mo_isStop_1 ?_
  refine zg_if_eq F.1 17 zd_Mo_isStop_4 rfl (fun hc => ?_) (fun hc => ?_)
  · rw [if_pos hc] at h
    refine zg_aload_n F.1 zd_Mo_isStop_17 rfl rfl ?_
    refine zg_iload_n F.1 zd_Mo_isStop_18 rfl rfl ?_
    refine zg_iload_n F.1 zd_Mo_isStop_19 rfl rfl ?_
    obtain ⟨y20, hc20, h⟩ := Option.bind_eq_some_iff.mp h
    refine zg_callV F (As := [.int a1, .int a3]) (rest := []) (zk_Mo_aboard F.1.2.2 N a1 a3 st hc20) rfl rfl zcal_Mo_aboard zml_Mo_90 ⟨(Nat.le_of_ble_eq_true rfl), (Nat.le_of_ble_eq_true rfl)⟩ (zg_rec10 F.1 (by decide) rfl) rfl (Nat.le_of_ble_eq_true rfl) ⟨(Nat.le_of_ble_eq_true rfl), (Nat.le_of_ble_eq_true rfl)⟩ zd_Mo_isStop_20 ?_
    refine zg_aload_n F.1 zd_Mo_isStop_23 rfl rfl ?_
    refine zg_getI10 F.1 (by decide) rfl 3 (by decide) (y20.2 40 3) rfl rfl zwf_Mo_16 zd_Mo_isStop_24 ?_
    refine zg_icmp_ge F.1 34 zd_Mo_isStop_27 rfl (fun hc => ?_) (fun hc => ?_)
    · rw [if_pos hc] at h
      refine zg_iconst F.1 0 0 (by decide) zd_Mo_isStop_34 ?_
      exact zl_Mo_isStop_35 F a1 a2 a3 0 y20.2 h
    · rw [if_neg hc] at h
      refine zg_iconst F.1 1 1 (by decide) zd_Mo_isStop_30 ?_
      refine zg_goto F.1 35 zd_Mo_isStop_31 rfl ?_
      exact zl_Mo_isStop_35 F a1 a2 a3 1 y20.2 h
  · rw [if_neg hc] at h
    refine zg_iload_n F.1 zd_Mo_isStop_7 rfl rfl ?_
    refine zg_if_ne F.1 15 zd_Mo_isStop_8 rfl (fun hc => ?_) (fun hc => ?_)
    · rw [if_neg hc] at h
      refine zg_iconst F.1 0 0 (by decide) zd_Mo_isStop_15 ?_
      exact zg_le (zw_len (zw_len (zw_len (zw_len (zw_les (zw_les (zw_les (zw_les zw_le0)))))))) (zl_Mo_isStop_16 F 0 st h)
    · rw [if_pos hc] at h
      refine zg_iconst F.1 1 1 (by decide) zd_Mo_isStop_11 ?_
      refine zg_goto F.1 16 zd_Mo_isStop_12 rfl ?_
      exact zg_le (zw_len (zw_len (zw_len (zw_len (zw_les (zw_les (zw_les (zw_les zw_le0)))))))) (zl_Mo_isStop_16 F 1 st h)
theorem zk_Mo_isStop {E : zE} (hn : zw_n E 20) (N : Nat) (a1 : Int32) (a2 : Int32) (a3 : Int32) (st : zS)  {rv : Int32} {rst : zS} (h : zf_Mo_isStop N a1 a2 a3 st = some (rv, rst)) : zw_M l zy_Mo_isStop (Cond.code zy_Mo_isStop zo_Mo_isStop 8 (some .boolean) :: zwAll) zrm_Mo_isStop E [.ref 40, .int a1, .int a2, .int a3] st (some (.int rv)) rst :=
  zw_enter (by decide) rfl hn (Nat.le_of_ble_eq_true rfl) (by simp [Value.category]) 4 (fun p e s m args below meth c A F => zl_Mo_isStop_0 F a1 a2 a3 st  h)
abbrev zrm_Mo_isThere : Room := { frames := 0, cells := 0, slots := 0, locals := 0 }
def zf_Mo_isThere_16 (N : Nat)  (s0 : Int32) (st : zS) : Option (Int32 × zS) := (if s0 = 0 ∨ s0 = 1 then some (s0, st) else none)
set_option maxHeartbeats 4000000 in
theorem zl_Mo_isThere_16 (F : zw_X p m c zo_Mo_isThere 2 s args zR10 E 20 A meth (some .boolean)) {N : Nat} {rv : Int32} {rst : zS}   (s0 : Int32) (st : zS)  (h : zf_Mo_isThere_16 N  s0 st = some (rv, rst)) : zw_G p l e zrm_Mo_isThere s m args below meth c (MQ below (zw_Q E (some (.int rv)) rst A) args s 0 0 A) E A 2 0 16 [none, none] [.int s0] st := by
  unfold zf_Mo_isThere_16 at h
  by_cases hb16 : s0 = 0 ∨ s0 = 1
  case neg => rw [if_neg hb16] at h; cases h
  rw [if_pos hb16] at h
  cases h
  exact zg_zret F hb16 zd_Mo_isThere_16
def zf_Mo_isThere (N : Nat) (a1 : Int32) (st : zS) : Option (Int32 × zS) := (if a1 < 0 ∨ 5 ≤ a1.toNatClampNeg then none else (if ((st 41 a1.toNatClampNeg) - (st 41 a1.toNatClampNeg) / 2 * 2) = 0 then zf_Mo_isThere_16 N 1 st else zf_Mo_isThere_16 N 0 st))
set_option maxHeartbeats 4000000 in
theorem zl_Mo_isThere_0 (F : zw_X p m c zo_Mo_isThere 2 s args zR10 E 20 A meth (some .boolean)) {N : Nat} {rv : Int32} {rst : zS} (a1 : Int32) (st : zS)  (h : zf_Mo_isThere N a1 st = some (rv, rst)) : zw_G p l e zrm_Mo_isThere s m args below meth c (MQ below (zw_Q E (some (.int rv)) rst A) args s 0 0 A) E A 2 0 0 [some (.ref 40), some (.int a1)] [] st := by
  unfold zf_Mo_isThere at h
  refine zg_aload_n F.1 zd_Mo_isThere_0 rfl rfl ?_
  refine zg_getR10 F.1 (by decide) rfl 4 (by decide) 41 rfl zwf_Mo_19 zd_Mo_isThere_1 ?_
  refine zg_iload_n F.1 zd_Mo_isThere_4 rfl rfl ?_
  by_cases hi5 : a1 < 0 ∨ 5 ≤ a1.toNatClampNeg
  case pos => rw [if_pos hi5] at h; cases h
  rw [if_neg hi5] at h
  refine zg_ald11 F.1 (by decide) rfl hi5 a1.toNatClampNeg rfl (st 41 a1.toNatClampNeg) rfl zd_Mo_isThere_5 ?_
  refine zg_iconst F.1 2 2 (by decide) zd_Mo_isThere_6 ?_
  refine zg_irem F.1 zd_Mo_isThere_7 (by decide) ?_
  refine zg_if_ne F.1 15 zd_Mo_isThere_8 rfl (fun hc => ?_) (fun hc => ?_)
  · rw [if_neg hc] at h
    refine zg_iconst F.1 0 0 (by decide) zd_Mo_isThere_15 ?_
    exact zg_le (zw_len (zw_len zw_le0)) (zl_Mo_isThere_16 F 0 st h)
  · rw [if_pos hc] at h
    refine zg_iconst F.1 1 1 (by decide) zd_Mo_isThere_11 ?_
    refine zg_goto F.1 16 zd_Mo_isThere_12 rfl ?_
    exact zg_le (zw_len (zw_len zw_le0)) (zl_Mo_isThere_16 F 1 st h)
theorem zk_Mo_isThere {E : zE} (hn : zw_n E 20) (N : Nat) (a1 : Int32) (st : zS)  {rv : Int32} {rst : zS} (h : zf_Mo_isThere N a1 st = some (rv, rst)) : zw_M l zy_Mo_isThere (Cond.code zy_Mo_isThere zo_Mo_isThere 2 (some .boolean) :: zwAll) zrm_Mo_isThere E [.ref 40, .int a1] st (some (.int rv)) rst :=
  zw_enter (by decide) rfl hn (Nat.le_of_ble_eq_true rfl) (by simp [Value.category]) 0 (fun p e s m args below meth c A F => zl_Mo_isThere_0 F a1 st  h)
set_option maxRecDepth 100000 in
theorem zcal_Mo_isStop : zw_cal zR10 zy_Mo_isStop zo_Mo_isStop 8 (some .boolean) 3 := ⟨zw_at 793 rfl rfl, zw_at 35 rfl rfl, zw_at 52 rfl rfl, zw_at 794 rfl rfl, rfl, by decide, by decide, by decide +kernel⟩
set_option maxRecDepth 100000 in
theorem zml_Mo_94 : Cond.methodLink zR10 94 zy_Mo_isStop ∈ zwAll := zw_at 791 rfl rfl
abbrev zrm_Mo_hasStop : Room := { frames := 2, cells := 0, slots := 0, locals := 51 }
def zf_Mo_hasStop_52 (N : Nat) (r6 : Int32 → Int32 → Int32 → Int32 → Int32 → zS → Option (Int32 × zS)) (l1 : Int32) (l2 : Int32) (l3 : Int32) (l5 : Int32) (s0 : Int32) (st : zS) : Option (Int32 × zS) := r6 l1 l2 l3 s0 (l5 + 1) st
set_option maxHeartbeats 4000000 in
theorem zl_Mo_hasStop_52 (F : zw_X p m c zo_Mo_hasStop 6 s args zR10 E 20 A meth (some .boolean)) {N : Nat} {rv : Int32} {rst : zS} {r6 : Int32 → Int32 → Int32 → Int32 → Int32 → zS → Option (Int32 × zS)} (hr6 : ∀ (l1 : Int32) (l2 : Int32) (l3 : Int32) (l4 : Int32) (l5 : Int32) (st : zS) , r6 l1 l2 l3 l4 l5 st = some (rv, rst) → zw_G p l e zrm_Mo_hasStop s m args below meth c (MQ below (zw_Q E (some (.int rv)) rst A) args s 0 0 A) E A 6 0 6 [some (.ref 40), some (.int l1), some (.int l2), some (.int l3), some (.int l4), some (.int l5)] [] st) (l1 : Int32) (l2 : Int32) (l3 : Int32) (l5 : Int32) (s0 : Int32) (st : zS)  (h : zf_Mo_hasStop_52 N r6 l1 l2 l3 l5 s0 st = some (rv, rst)) : zw_G p l e zrm_Mo_hasStop s m args below meth c (MQ below (zw_Q E (some (.int rv)) rst A) args s 0 0 A) E A 6 0 52 [some (.ref 40), some (.int l1), some (.int l2), some (.int l3), none, some (.int l5)] [.int s0] st := by
  unfold zf_Mo_hasStop_52 at h
  refine zg_istore F.1 [some (.ref 40), some (.int l1), some (.int l2), some (.int l3), some (.int s0), some (.int l5)] zd_Mo_hasStop_52 (by decide) rfl ?_
  refine zg_iinc F.1 (l5 + 1) [some (.ref 40), some (.int l1), some (.int l2), some (.int l3), some (.int s0), some (.int (l5 + 1))] zd_Mo_hasStop_54 rfl (by rw [lit1]) (by decide) rfl ?_
  refine zg_goto F.1 6 zd_Mo_hasStop_57 rfl ?_
  exact hr6 l1 l2 l3 s0 (l5 + 1) st h
def zf_Mo_hasStop_47 (N : Nat) (r6 : Int32 → Int32 → Int32 → Int32 → Int32 → zS → Option (Int32 × zS)) (l1 : Int32) (l2 : Int32) (l3 : Int32) (l5 : Int32) (st : zS) : Option (Int32 × zS) := zf_Mo_hasStop_52 N r6 l1 l2 l3 l5 1 st
set_option maxHeartbeats 4000000 in
theorem zl_Mo_hasStop_47 (F : zw_X p m c zo_Mo_hasStop 6 s args zR10 E 20 A meth (some .boolean)) {N : Nat} {rv : Int32} {rst : zS} {r6 : Int32 → Int32 → Int32 → Int32 → Int32 → zS → Option (Int32 × zS)} (hr6 : ∀ (l1 : Int32) (l2 : Int32) (l3 : Int32) (l4 : Int32) (l5 : Int32) (st : zS) , r6 l1 l2 l3 l4 l5 st = some (rv, rst) → zw_G p l e zrm_Mo_hasStop s m args below meth c (MQ below (zw_Q E (some (.int rv)) rst A) args s 0 0 A) E A 6 0 6 [some (.ref 40), some (.int l1), some (.int l2), some (.int l3), some (.int l4), some (.int l5)] [] st) (l1 : Int32) (l2 : Int32) (l3 : Int32) (l5 : Int32) (st : zS)  (h : zf_Mo_hasStop_47 N r6 l1 l2 l3 l5 st = some (rv, rst)) : zw_G p l e zrm_Mo_hasStop s m args below meth c (MQ below (zw_Q E (some (.int rv)) rst A) args s 0 0 A) E A 6 0 47 [some (.ref 40), some (.int l1), some (.int l2), some (.int l3), none, some (.int l5)] [] st := by
  unfold zf_Mo_hasStop_47 at h
  refine zg_iconst F.1 1 1 (by decide) zd_Mo_hasStop_47 ?_
  refine zg_goto F.1 52 zd_Mo_hasStop_48 rfl ?_
  exact zl_Mo_hasStop_52 F hr6 l1 l2 l3 l5 1 st h
def zf_Mo_hasStop_51 (N : Nat) (r6 : Int32 → Int32 → Int32 → Int32 → Int32 → zS → Option (Int32 × zS)) (l1 : Int32) (l2 : Int32) (l3 : Int32) (l5 : Int32) (st : zS) : Option (Int32 × zS) := zf_Mo_hasStop_52 N r6 l1 l2 l3 l5 0 st
set_option maxHeartbeats 4000000 in
theorem zl_Mo_hasStop_51 (F : zw_X p m c zo_Mo_hasStop 6 s args zR10 E 20 A meth (some .boolean)) {N : Nat} {rv : Int32} {rst : zS} {r6 : Int32 → Int32 → Int32 → Int32 → Int32 → zS → Option (Int32 × zS)} (hr6 : ∀ (l1 : Int32) (l2 : Int32) (l3 : Int32) (l4 : Int32) (l5 : Int32) (st : zS) , r6 l1 l2 l3 l4 l5 st = some (rv, rst) → zw_G p l e zrm_Mo_hasStop s m args below meth c (MQ below (zw_Q E (some (.int rv)) rst A) args s 0 0 A) E A 6 0 6 [some (.ref 40), some (.int l1), some (.int l2), some (.int l3), some (.int l4), some (.int l5)] [] st) (l1 : Int32) (l2 : Int32) (l3 : Int32) (l5 : Int32) (st : zS)  (h : zf_Mo_hasStop_51 N r6 l1 l2 l3 l5 st = some (rv, rst)) : zw_G p l e zrm_Mo_hasStop s m args below meth c (MQ below (zw_Q E (some (.int rv)) rst A) args s 0 0 A) E A 6 0 51 [some (.ref 40), some (.int l1), some (.int l2), some (.int l3), none, some (.int l5)] [] st := by
  unfold zf_Mo_hasStop_51 at h
  refine zg_iconst F.1 0 0 (by decide) zd_Mo_hasStop_51 ?_
  exact zl_Mo_hasStop_52 F hr6 l1 l2 l3 l5 0 st h
def zb_Mo_hasStop_6 (N : Nat) (r6 : Int32 → Int32 → Int32 → Int32 → Int32 → zS → Option (Int32 × zS)) (l1 : Int32) (l2 : Int32) (l3 : Int32) (l4 : Int32) (l5 : Int32) (st : zS) : Option (Int32 × zS) := (if (st 40 1) ≤ l5 then (if l4 = 0 ∨ l4 = 1 then some (l4, st) else none) else (if l4 = 0 then (if l1 < 0 ∨ 5 ≤ l1.toNatClampNeg then none else (if (((2 * l5) - (st 41 l1.toNatClampNeg)) * l2) ≤ 0 then zf_Mo_hasStop_51 N r6 l1 l2 l3 l5 st else ((zf_Mo_isStop N l1 l5 l3 st).bind fun y41 => (if y41.1 = 0 then zf_Mo_hasStop_51 N r6 l1 l2 l3 l5 y41.2 else zf_Mo_hasStop_47 N r6 l1 l2 l3 l5 y41.2)))) else zf_Mo_hasStop_47 N r6 l1 l2 l3 l5 st))
set_option maxHeartbeats 4000000 in
theorem zlb_Mo_hasStop_6 (F : zw_X p m c zo_Mo_hasStop 6 s args zR10 E 20 A meth (some .boolean)) {N : Nat} {rv : Int32} {rst : zS} {r6 : Int32 → Int32 → Int32 → Int32 → Int32 → zS → Option (Int32 × zS)} (hr6 : ∀ (l1 : Int32) (l2 : Int32) (l3 : Int32) (l4 : Int32) (l5 : Int32) (st : zS) , r6 l1 l2 l3 l4 l5 st = some (rv, rst) → zw_G p l e zrm_Mo_hasStop s m args below meth c (MQ below (zw_Q E (some (.int rv)) rst A) args s 0 0 A) E A 6 0 6 [some (.ref 40), some (.int l1), some (.int l2), some (.int l3), some (.int l4), some (.int l5)] [] st) (l1 : Int32) (l2 : Int32) (l3 : Int32) (l4 : Int32) (l5 : Int32) (st : zS)  (h : zb_Mo_hasStop_6 N r6 l1 l2 l3 l4 l5 st = some (rv, rst)) : zw_G p l e zrm_Mo_hasStop s m args below meth c (MQ below (zw_Q E (some (.int rv)) rst A) args s 0 0 A) E A 6 0 6 [some (.ref 40), some (.int l1), some (.int l2), some (.int l3), some (.int l4), some (.int l5)] [] st := by
  unfold zb_Mo_hasStop_6 at h
  refine zg_iload F.1 zd_Mo_hasStop_6 rfl ?_
  refine zg_aload_n F.1 zd_Mo_hasStop_8 rfl rfl ?_
  refine zg_getI10 F.1 (by decide) rfl 1 (by decide) (st 40 1) rfl rfl zwf_Mo_7 zd_Mo_hasStop_9 ?_
  refine zg_icmp_ge F.1 60 zd_Mo_hasStop_12 rfl (fun hc => ?_) (fun hc => ?_)
  · rw [if_pos hc] at h
    refine zg_iload F.1 zd_Mo_hasStop_60 rfl ?_
    by_cases hb62 : l4 = 0 ∨ l4 = 1
    case neg => rw [if_neg hb62] at h; cases h
    rw [if_pos hb62] at h
    cases h
    exact zg_zret F hb62 zd_Mo_hasStop_62
  · rw [if_neg hc] at h
    refine zg_iload F.1 zd_Mo_hasStop_15 rfl ?_
    refine zg_if_ne F.1 47 zd_Mo_hasStop_17 rfl (fun hc => ?_) (fun hc => ?_)
    · rw [if_neg hc] at h
      exact zg_le (zw_les (zw_les (zw_les (zw_les (zw_len (zw_les zw_le0)))))) (zl_Mo_hasStop_47 F hr6 l1 l2 l3 l5 st h)
    · rw [if_pos hc] at h
      refine zg_iconst F.1 2 2 (by decide) zd_Mo_hasStop_20 ?_
      refine zg_iload F.1 zd_Mo_hasStop_21 rfl ?_
      refine zg_imul F.1 zd_Mo_hasStop_23 ?_
      refine zg_aload_n F.1 zd_Mo_hasStop_24 rfl rfl ?_
      refine zg_getR10 F.1 (by decide) rfl 4 (by decide) 41 rfl zwf_Mo_19 zd_Mo_hasStop_25 ?_
      refine zg_iload_n F.1 zd_Mo_hasStop_28 rfl rfl ?_
      by_cases hi29 : l1 < 0 ∨ 5 ≤ l1.toNatClampNeg
      case pos => rw [if_pos hi29] at h; cases h
      rw [if_neg hi29] at h
      refine zg_ald11 F.1 (by decide) rfl hi29 l1.toNatClampNeg rfl (st 41 l1.toNatClampNeg) rfl zd_Mo_hasStop_29 ?_
      refine zg_isub F.1 zd_Mo_hasStop_30 ?_
      refine zg_iload_n F.1 zd_Mo_hasStop_31 rfl rfl ?_
      refine zg_imul F.1 zd_Mo_hasStop_32 ?_
      refine zg_if_le F.1 51 zd_Mo_hasStop_33 rfl (fun hc => ?_) (fun hc => ?_)
      · rw [if_pos hc] at h
        exact zg_le (zw_les (zw_les (zw_les (zw_les (zw_len (zw_les zw_le0)))))) (zl_Mo_hasStop_51 F hr6 l1 l2 l3 l5 st h)
      · rw [if_neg hc] at h
        refine zg_aload_n F.1 zd_Mo_hasStop_36 rfl rfl ?_
        refine zg_iload_n F.1 zd_Mo_hasStop_37 rfl rfl ?_
        refine zg_iload F.1 zd_Mo_hasStop_38 rfl ?_
        refine zg_iload_n F.1 zd_Mo_hasStop_40 rfl rfl ?_
        obtain ⟨y41, hc41, h⟩ := Option.bind_eq_some_iff.mp h
        refine zg_callV F (As := [.int l1, .int l5, .int l3]) (rest := []) (zk_Mo_isStop F.1.2.2 N l1 l5 l3 st hc41) rfl rfl zcal_Mo_isStop zml_Mo_94 ⟨(Nat.le_of_ble_eq_true rfl), (Nat.le_of_ble_eq_true rfl)⟩ (zg_rec10 F.1 (by decide) rfl) rfl (Nat.le_of_ble_eq_true rfl) ⟨(Nat.le_of_ble_eq_true rfl), (Nat.le_of_ble_eq_true rfl)⟩ zd_Mo_hasStop_41 ?_
        refine zg_if_eq F.1 51 zd_Mo_hasStop_44 rfl (fun hc => ?_) (fun hc => ?_)
        · rw [if_pos hc] at h
          exact zg_le (zw_les (zw_les (zw_les (zw_les (zw_len (zw_les zw_le0)))))) (zl_Mo_hasStop_51 F hr6 l1 l2 l3 l5 y41.2 h)
        · rw [if_neg hc] at h
          exact zg_le (zw_les (zw_les (zw_les (zw_les (zw_len (zw_les zw_le0)))))) (zl_Mo_hasStop_47 F hr6 l1 l2 l3 l5 y41.2 h)
def zf_Mo_hasStop_6 (N : Nat)  : Nat → Int32 → Int32 → Int32 → Int32 → Int32 → zS → Option (Int32 × zS)
  | 0, _, _, _, _, _, _ => none
  | n + 1, l1, l2, l3, l4, l5, st => zb_Mo_hasStop_6 N  (zf_Mo_hasStop_6 N  n) l1 l2 l3 l4 l5 st
theorem zl_Mo_hasStop_6 (F : zw_X p m c zo_Mo_hasStop 6 s args zR10 E 20 A meth (some .boolean)) {N : Nat} {rv : Int32} {rst : zS}   : ∀ (n : Nat) (l1 : Int32) (l2 : Int32) (l3 : Int32) (l4 : Int32) (l5 : Int32) (st : zS)  (h : zf_Mo_hasStop_6 N  n l1 l2 l3 l4 l5 st = some (rv, rst)), zw_G p l e zrm_Mo_hasStop s m args below meth c (MQ below (zw_Q E (some (.int rv)) rst A) args s 0 0 A) E A 6 0 6 [some (.ref 40), some (.int l1), some (.int l2), some (.int l3), some (.int l4), some (.int l5)] [] st := by
  intro n
  induction n with
  | zero => intro l1 l2 l3 l4 l5 st  h; cases h
  | succ n ih => intro l1 l2 l3 l4 l5 st  h; exact zlb_Mo_hasStop_6 F  ih l1 l2 l3 l4 l5 st  h
def zf_Mo_hasStop (N : Nat) (a1 : Int32) (a2 : Int32) (a3 : Int32) (st : zS) : Option (Int32 × zS) := zf_Mo_hasStop_6 N N a1 a2 a3 0 0 st
set_option maxHeartbeats 4000000 in
theorem zl_Mo_hasStop_0 (F : zw_X p m c zo_Mo_hasStop 6 s args zR10 E 20 A meth (some .boolean)) {N : Nat} {rv : Int32} {rst : zS} (a1 : Int32) (a2 : Int32) (a3 : Int32) (st : zS)  (h : zf_Mo_hasStop N a1 a2 a3 st = some (rv, rst)) : zw_G p l e zrm_Mo_hasStop s m args below meth c (MQ below (zw_Q E (some (.int rv)) rst A) args s 0 0 A) E A 6 0 0 [some (.ref 40), some (.int a1), some (.int a2), some (.int a3), none, none] [] st := by
  unfold zf_Mo_hasStop at h
  refine zg_iconst F.1 0 0 (by decide) zd_Mo_hasStop_0 ?_
  refine zg_istore F.1 [some (.ref 40), some (.int a1), some (.int a2), some (.int a3), some (.int 0), none] zd_Mo_hasStop_1 (by decide) rfl ?_
  refine zg_iconst F.1 0 0 (by decide) zd_Mo_hasStop_3 ?_
  refine zg_istore F.1 [some (.ref 40), some (.int a1), some (.int a2), some (.int a3), some (.int 0), some (.int 0)] zd_Mo_hasStop_4 (by decide) rfl ?_
  exact zl_Mo_hasStop_6 F N a1 a2 a3 0 0 st h
theorem zk_Mo_hasStop {E : zE} (hn : zw_n E 20) (N : Nat) (a1 : Int32) (a2 : Int32) (a3 : Int32) (st : zS)  {rv : Int32} {rst : zS} (h : zf_Mo_hasStop N a1 a2 a3 st = some (rv, rst)) : zw_M l zy_Mo_hasStop (Cond.code zy_Mo_hasStop zo_Mo_hasStop 6 (some .boolean) :: zwAll) zrm_Mo_hasStop E [.ref 40, .int a1, .int a2, .int a3] st (some (.int rv)) rst :=
  zw_enter (by decide) rfl hn (Nat.le_of_ble_eq_true rfl) (by simp [Value.category]) 2 (fun p e s m args below meth c A F => zl_Mo_hasStop_0 F a1 a2 a3 st  h)
abbrev zrm_Mo_nearest : Room := { frames := 2, cells := 0, slots := 0, locals := 51 }
def zf_Mo_nearest_92 (N : Nat) (r2 : Int32 → Int32 → Int32 → zS → Option (Int32 × zS)) (l1 : Int32) (l2 : Int32) (l3 : Int32) (st : zS) : Option (Int32 × zS) := r2 l1 l2 (l3 + 1) st
set_option maxHeartbeats 4000000 in
theorem zl_Mo_nearest_92 (F : zw_X p m c zo_Mo_nearest 6 s args zR10 E 20 A meth (some .int)) {N : Nat} {rv : Int32} {rst : zS} {r2 : Int32 → Int32 → Int32 → zS → Option (Int32 × zS)} (hr2 : ∀ (l1 : Int32) (l2 : Int32) (l3 : Int32) (st : zS) , r2 l1 l2 l3 st = some (rv, rst) → zw_G p l e zrm_Mo_nearest s m args below meth c (MQ below (zw_Q E (some (.int rv)) rst A) args s 0 0 A) E A 6 0 2 [some (.ref 40), some (.int l1), some (.int l2), some (.int l3), none, none] [] st) (l1 : Int32) (l2 : Int32) (l3 : Int32) (st : zS)  (h : zf_Mo_nearest_92 N r2 l1 l2 l3 st = some (rv, rst)) : zw_G p l e zrm_Mo_nearest s m args below meth c (MQ below (zw_Q E (some (.int rv)) rst A) args s 0 0 A) E A 6 0 92 [some (.ref 40), some (.int l1), some (.int l2), some (.int l3), none, none] [] st := by
  unfold zf_Mo_nearest_92 at h
  refine zg_iinc F.1 (l3 + 1) [some (.ref 40), some (.int l1), some (.int l2), some (.int (l3 + 1)), none, none] zd_Mo_nearest_92 rfl (by rw [lit1]) (by decide) rfl ?_
  refine zg_goto F.1 2 zd_Mo_nearest_95 rfl ?_
  exact hr2 l1 l2 (l3 + 1) st h
def zf_Mo_nearest_59 (N : Nat) (r2 : Int32 → Int32 → Int32 → zS → Option (Int32 × zS)) (l1 : Int32) (l2 : Int32) (l3 : Int32) (l5 : Int32) (st : zS) : Option (Int32 × zS) := (if (l5 - l5 / 2 * 2) = 0 then (if (st 40 1) ≤ (l5 / 2) then zf_Mo_nearest_92 N r2 l1 l2 l3 st else ((zf_Mo_isStop N l1 (l5 / 2) l2 st).bind fun y84 => (if y84.1 = 0 then zf_Mo_nearest_92 N r2 l1 l2 l3 y84.2 else some (1, y84.2)))) else zf_Mo_nearest_92 N r2 l1 l2 l3 st)
set_option maxHeartbeats 4000000 in
theorem zl_Mo_nearest_59 (F : zw_X p m c zo_Mo_nearest 6 s args zR10 E 20 A meth (some .int)) {N : Nat} {rv : Int32} {rst : zS} {r2 : Int32 → Int32 → Int32 → zS → Option (Int32 × zS)} (hr2 : ∀ (l1 : Int32) (l2 : Int32) (l3 : Int32) (st : zS) , r2 l1 l2 l3 st = some (rv, rst) → zw_G p l e zrm_Mo_nearest s m args below meth c (MQ below (zw_Q E (some (.int rv)) rst A) args s 0 0 A) E A 6 0 2 [some (.ref 40), some (.int l1), some (.int l2), some (.int l3), none, none] [] st) (l1 : Int32) (l2 : Int32) (l3 : Int32) (l5 : Int32) (st : zS)  (h : zf_Mo_nearest_59 N r2 l1 l2 l3 l5 st = some (rv, rst)) : zw_G p l e zrm_Mo_nearest s m args below meth c (MQ below (zw_Q E (some (.int rv)) rst A) args s 0 0 A) E A 6 0 59 [some (.ref 40), some (.int l1), some (.int l2), some (.int l3), none, some (.int l5)] [] st := by
  unfold zf_Mo_nearest_59 at h
  refine zg_iload F.1 zd_Mo_nearest_59 rfl ?_
  refine zg_iconst F.1 2 2 (by decide) zd_Mo_nearest_61 ?_
  refine zg_irem F.1 zd_Mo_nearest_62 (by decide) ?_
  refine zg_if_ne F.1 92 zd_Mo_nearest_63 rfl (fun hc => ?_) (fun hc => ?_)
  · rw [if_neg hc] at h
    exact zg_le (zw_les (zw_les (zw_les (zw_les (zw_les (zw_len zw_le0)))))) (zl_Mo_nearest_92 F hr2 l1 l2 l3 st h)
  · rw [if_pos hc] at h
    refine zg_iload F.1 zd_Mo_nearest_66 rfl ?_
    refine zg_iconst F.1 2 2 (by decide) zd_Mo_nearest_68 ?_
    refine zg_idiv F.1 zd_Mo_nearest_69 (by decide) ?_
    refine zg_aload_n F.1 zd_Mo_nearest_70 rfl rfl ?_
    refine zg_getI10 F.1 (by decide) rfl 1 (by decide) (st 40 1) rfl rfl zwf_Mo_7 zd_Mo_nearest_71 ?_
    refine zg_icmp_ge F.1 92 zd_Mo_nearest_74 rfl (fun hc => ?_) (fun hc => ?_)
    · rw [if_pos hc] at h
      exact zg_le (zw_les (zw_les (zw_les (zw_les (zw_les (zw_len zw_le0)))))) (zl_Mo_nearest_92 F hr2 l1 l2 l3 st h)
    · rw [if_neg hc] at h
      refine zg_aload_n F.1 zd_Mo_nearest_77 rfl rfl ?_
      refine zg_iload_n F.1 zd_Mo_nearest_78 rfl rfl ?_
      refine zg_iload F.1 zd_Mo_nearest_79 rfl ?_
      refine zg_iconst F.1 2 2 (by decide) zd_Mo_nearest_81 ?_
      refine zg_idiv F.1 zd_Mo_nearest_82 (by decide) ?_
      refine zg_iload_n F.1 zd_Mo_nearest_83 rfl rfl ?_
      obtain ⟨y84, hc84, h⟩ := Option.bind_eq_some_iff.mp h
      refine zg_callV F (As := [.int l1, .int (l5 / 2), .int l2]) (rest := []) (zk_Mo_isStop F.1.2.2 N l1 (l5 / 2) l2 st hc84) rfl rfl zcal_Mo_isStop zml_Mo_94 ⟨(Nat.le_of_ble_eq_true rfl), (Nat.le_of_ble_eq_true rfl)⟩ (zg_rec10 F.1 (by decide) rfl) rfl (Nat.le_of_ble_eq_true rfl) ⟨(Nat.le_of_ble_eq_true rfl), (Nat.le_of_ble_eq_true rfl)⟩ zd_Mo_nearest_84 ?_
      refine zg_if_eq F.1 92 zd_Mo_nearest_87 rfl (fun hc => ?_) (fun hc => ?_)
      · rw [if_pos hc] at h
        exact zg_le (zw_les (zw_les (zw_les (zw_les (zw_les (zw_len zw_le0)))))) (zl_Mo_nearest_92 F hr2 l1 l2 l3 y84.2 h)
      · rw [if_neg hc] at h
        refine zg_iconst F.1 1 1 (by decide) zd_Mo_nearest_90 ?_
        cases h
        exact zg_iret F zd_Mo_nearest_91
def zb_Mo_nearest_2 (N : Nat) (r2 : Int32 → Int32 → Int32 → zS → Option (Int32 × zS)) (l1 : Int32) (l2 : Int32) (l3 : Int32) (st : zS) : Option (Int32 × zS) := (if (2 * (st 40 1)) ≤ l3 then some (0, st) else (if l1 < 0 ∨ 5 ≤ l1.toNatClampNeg then none else (if l1 < 0 ∨ 5 ≤ l1.toNatClampNeg then none else (if ((st 41 l1.toNatClampNeg) - l3) < 0 then zf_Mo_nearest_59 N r2 l1 l2 l3 ((st 41 l1.toNatClampNeg) + l3) st else (if (((st 41 l1.toNatClampNeg) - l3) - ((st 41 l1.toNatClampNeg) - l3) / 2 * 2) = 0 then ((zf_Mo_isStop N l1 (((st 41 l1.toNatClampNeg) - l3) / 2) l2 st).bind fun y51 => (if y51.1 = 0 then zf_Mo_nearest_59 N r2 l1 l2 l3 ((st 41 l1.toNatClampNeg) + l3) y51.2 else some ((-1), y51.2))) else zf_Mo_nearest_59 N r2 l1 l2 l3 ((st 41 l1.toNatClampNeg) + l3) st)))))
set_option maxHeartbeats 4000000 in
theorem zlb_Mo_nearest_2 (F : zw_X p m c zo_Mo_nearest 6 s args zR10 E 20 A meth (some .int)) {N : Nat} {rv : Int32} {rst : zS} {r2 : Int32 → Int32 → Int32 → zS → Option (Int32 × zS)} (hr2 : ∀ (l1 : Int32) (l2 : Int32) (l3 : Int32) (st : zS) , r2 l1 l2 l3 st = some (rv, rst) → zw_G p l e zrm_Mo_nearest s m args below meth c (MQ below (zw_Q E (some (.int rv)) rst A) args s 0 0 A) E A 6 0 2 [some (.ref 40), some (.int l1), some (.int l2), some (.int l3), none, none] [] st) (l1 : Int32) (l2 : Int32) (l3 : Int32) (st : zS)  (h : zb_Mo_nearest_2 N r2 l1 l2 l3 st = some (rv, rst)) : zw_G p l e zrm_Mo_nearest s m args below meth c (MQ below (zw_Q E (some (.int rv)) rst A) args s 0 0 A) E A 6 0 2 [some (.ref 40), some (.int l1), some (.int l2), some (.int l3), none, none] [] st := by
  unfold zb_Mo_nearest_2 at h
  refine zg_iload_n F.1 zd_Mo_nearest_2 rfl rfl ?_
  refine zg_iconst F.1 2 2 (by decide) zd_Mo_nearest_3 ?_
  refine zg_aload_n F.1 zd_Mo_nearest_4 rfl rfl ?_
  refine zg_getI10 F.1 (by decide) rfl 1 (by decide) (st 40 1) rfl rfl zwf_Mo_7 zd_Mo_nearest_5 ?_
  refine zg_imul F.1 zd_Mo_nearest_8 ?_
  refine zg_icmp_ge F.1 98 zd_Mo_nearest_9 rfl (fun hc => ?_) (fun hc => ?_)
  · rw [if_pos hc] at h
    refine zg_iconst F.1 0 0 (by decide) zd_Mo_nearest_98 ?_
    cases h
    exact zg_iret F zd_Mo_nearest_99
  · rw [if_neg hc] at h
    refine zg_aload_n F.1 zd_Mo_nearest_12 rfl rfl ?_
    refine zg_getR10 F.1 (by decide) rfl 4 (by decide) 41 rfl zwf_Mo_19 zd_Mo_nearest_13 ?_
    refine zg_iload_n F.1 zd_Mo_nearest_16 rfl rfl ?_
    by_cases hi17 : l1 < 0 ∨ 5 ≤ l1.toNatClampNeg
    case pos => rw [if_pos hi17] at h; cases h
    rw [if_neg hi17] at h
    refine zg_ald11 F.1 (by decide) rfl hi17 l1.toNatClampNeg rfl (st 41 l1.toNatClampNeg) rfl zd_Mo_nearest_17 ?_
    refine zg_iload_n F.1 zd_Mo_nearest_18 rfl rfl ?_
    refine zg_isub F.1 zd_Mo_nearest_19 ?_
    refine zg_istore F.1 [some (.ref 40), some (.int l1), some (.int l2), some (.int l3), some (.int ((st 41 l1.toNatClampNeg) - l3)), none] zd_Mo_nearest_20 (by decide) rfl ?_
    refine zg_aload_n F.1 zd_Mo_nearest_22 rfl rfl ?_
    refine zg_getR10 F.1 (by decide) rfl 4 (by decide) 41 rfl zwf_Mo_19 zd_Mo_nearest_23 ?_
    refine zg_iload_n F.1 zd_Mo_nearest_26 rfl rfl ?_
    by_cases hi27 : l1 < 0 ∨ 5 ≤ l1.toNatClampNeg
    case pos => rw [if_pos hi27] at h; cases h
    rw [if_neg hi27] at h
    refine zg_ald11 F.1 (by decide) rfl hi27 l1.toNatClampNeg rfl (st 41 l1.toNatClampNeg) rfl zd_Mo_nearest_27 ?_
    refine zg_iload_n F.1 zd_Mo_nearest_28 rfl rfl ?_
    refine zg_iadd F.1 zd_Mo_nearest_29 ?_
    refine zg_istore F.1 [some (.ref 40), some (.int l1), some (.int l2), some (.int l3), some (.int ((st 41 l1.toNatClampNeg) - l3)), some (.int ((st 41 l1.toNatClampNeg) + l3))] zd_Mo_nearest_30 (by decide) rfl ?_
    refine zg_iload F.1 zd_Mo_nearest_32 rfl ?_
    refine zg_if_lt F.1 59 zd_Mo_nearest_34 rfl (fun hc => ?_) (fun hc => ?_)
    · rw [if_pos hc] at h
      exact zg_le (zw_les (zw_les (zw_les (zw_les (zw_len (zw_les zw_le0)))))) (zl_Mo_nearest_59 F hr2 l1 l2 l3 ((st 41 l1.toNatClampNeg) + l3) st h)
    · rw [if_neg hc] at h
      refine zg_iload F.1 zd_Mo_nearest_37 rfl ?_
      refine zg_iconst F.1 2 2 (by decide) zd_Mo_nearest_39 ?_
      refine zg_irem F.1 zd_Mo_nearest_40 (by decide) ?_
      refine zg_if_ne F.1 59 zd_Mo_nearest_41 rfl (fun hc => ?_) (fun hc => ?_)
      · rw [if_neg hc] at h
        exact zg_le (zw_les (zw_les (zw_les (zw_les (zw_len (zw_les zw_le0)))))) (zl_Mo_nearest_59 F hr2 l1 l2 l3 ((st 41 l1.toNatClampNeg) + l3) st h)
      · rw [if_pos hc] at h
        refine zg_aload_n F.1 zd_Mo_nearest_44 rfl rfl ?_
        refine zg_iload_n F.1 zd_Mo_nearest_45 rfl rfl ?_
        refine zg_iload F.1 zd_Mo_nearest_46 rfl ?_
        refine zg_iconst F.1 2 2 (by decide) zd_Mo_nearest_48 ?_
        refine zg_idiv F.1 zd_Mo_nearest_49 (by decide) ?_
        refine zg_iload_n F.1 zd_Mo_nearest_50 rfl rfl ?_
        obtain ⟨y51, hc51, h⟩ := Option.bind_eq_some_iff.mp h
        refine zg_callV F (As := [.int l1, .int (((st 41 l1.toNatClampNeg) - l3) / 2), .int l2]) (rest := []) (zk_Mo_isStop F.1.2.2 N l1 (((st 41 l1.toNatClampNeg) - l3) / 2) l2 st hc51) rfl rfl zcal_Mo_isStop zml_Mo_94 ⟨(Nat.le_of_ble_eq_true rfl), (Nat.le_of_ble_eq_true rfl)⟩ (zg_rec10 F.1 (by decide) rfl) rfl (Nat.le_of_ble_eq_true rfl) ⟨(Nat.le_of_ble_eq_true rfl), (Nat.le_of_ble_eq_true rfl)⟩ zd_Mo_nearest_51 ?_
        refine zg_if_eq F.1 59 zd_Mo_nearest_54 rfl (fun hc => ?_) (fun hc => ?_)
        · rw [if_pos hc] at h
          exact zg_le (zw_les (zw_les (zw_les (zw_les (zw_len (zw_les zw_le0)))))) (zl_Mo_nearest_59 F hr2 l1 l2 l3 ((st 41 l1.toNatClampNeg) + l3) y51.2 h)
        · rw [if_neg hc] at h
          refine zg_iconst F.1 (-1) (-1) (by decide) zd_Mo_nearest_57 ?_
          cases h
          exact zg_iret F zd_Mo_nearest_58
def zf_Mo_nearest_2 (N : Nat)  : Nat → Int32 → Int32 → Int32 → zS → Option (Int32 × zS)
  | 0, _, _, _, _ => none
  | n + 1, l1, l2, l3, st => zb_Mo_nearest_2 N  (zf_Mo_nearest_2 N  n) l1 l2 l3 st
theorem zl_Mo_nearest_2 (F : zw_X p m c zo_Mo_nearest 6 s args zR10 E 20 A meth (some .int)) {N : Nat} {rv : Int32} {rst : zS}   : ∀ (n : Nat) (l1 : Int32) (l2 : Int32) (l3 : Int32) (st : zS)  (h : zf_Mo_nearest_2 N  n l1 l2 l3 st = some (rv, rst)), zw_G p l e zrm_Mo_nearest s m args below meth c (MQ below (zw_Q E (some (.int rv)) rst A) args s 0 0 A) E A 6 0 2 [some (.ref 40), some (.int l1), some (.int l2), some (.int l3), none, none] [] st := by
  intro n
  induction n with
  | zero => intro l1 l2 l3 st  h; cases h
  | succ n ih => intro l1 l2 l3 st  h; exact zlb_Mo_nearest_2 F  ih l1 l2 l3 st  h
def zf_Mo_nearest (N : Nat) (a1 : Int32) (a2 : Int32) (st : zS) : Option (Int32 × zS) := zf_Mo_nearest_2 N N a1 a2 1 st
set_option maxHeartbeats 4000000 in
theorem zl_Mo_nearest_0 (F : zw_X p m c zo_Mo_nearest 6 s args zR10 E 20 A meth (some .int)) {N : Nat} {rv : Int32} {rst : zS} (a1 : Int32) (a2 : Int32) (st : zS)  (h : zf_Mo_nearest N a1 a2 st = some (rv, rst)) : zw_G p l e zrm_Mo_nearest s m args below meth c (MQ below (zw_Q E (some (.int rv)) rst A) args s 0 0 A) E A 6 0 0 [some (.ref 40), some (.int a1), some (.int a2), none, none, none] [] st := by
  unfold zf_Mo_nearest at h
  refine zg_iconst F.1 1 1 (by decide) zd_Mo_nearest_0 ?_
  refine zg_istore_n F.1 [some (.ref 40), some (.int a1), some (.int a2), some (.int 1), none, none] zd_Mo_nearest_1 rfl (by decide) rfl ?_
  exact zl_Mo_nearest_2 F N a1 a2 1 st h
theorem zk_Mo_nearest {E : zE} (hn : zw_n E 20) (N : Nat) (a1 : Int32) (a2 : Int32) (st : zS)  {rv : Int32} {rst : zS} (h : zf_Mo_nearest N a1 a2 st = some (rv, rst)) : zw_M l zy_Mo_nearest (Cond.code zy_Mo_nearest zo_Mo_nearest 6 (some .int) :: zwAll) zrm_Mo_nearest E [.ref 40, .int a1, .int a2] st (some (.int rv)) rst :=
  zw_enter (by decide) rfl hn (Nat.le_of_ble_eq_true rfl) (by simp [Value.category]) 3 (fun p e s m args below meth c A F => zl_Mo_nearest_0 F a1 a2 st  h)
set_option maxRecDepth 100000 in
theorem zwf_Mo_60 : Cond.fieldLink zR10 60 (zT10 18).1 (zT10 18).2.1 (zT10 18).2.2.1 ∈ zwAll := zw_at 683 rfl rfl
set_option maxRecDepth 100000 in
theorem zwf_Mo_57 : Cond.fieldLink zR10 57 (zT10 17).1 (zT10 17).2.1 (zT10 17).2.2.1 ∈ zwAll := zw_at 682 rfl rfl
set_option maxRecDepth 100000 in
theorem zcal_Mo_note : zw_cal zR10 zy_Mo_note zo_Mo_note 5 none 3 := ⟨zw_at 817 rfl rfl, zw_at 41 rfl rfl, zw_at 52 rfl rfl, zw_at 818 rfl rfl, rfl, by decide, by decide, by decide +kernel⟩
set_option maxRecDepth 100000 in
theorem zml_Mo_101 : Cond.methodLink zR10 101 zy_Mo_note ∈ zwAll := zw_at 815 rfl rfl
abbrev zrm_Mo_leave : Room := { frames := 1, cells := 0, slots := 0, locals := 24 }
def zf_Mo_leave_33 (N : Nat)   (st : zS) : Option zS := some st
set_option maxHeartbeats 4000000 in
theorem zl_Mo_leave_33 (F : zw_X p m c zo_Mo_leave 4 s args zR10 E 20 A meth none) {N : Nat} {rst : zS}    (st : zS)  (h : zf_Mo_leave_33 N   st = some rst) : zw_G p l e zrm_Mo_leave s m args below meth c (MQ below (zw_Q E none rst A) args s 0 0 A) E A 4 0 33 [none, none, none, none] [] st := by
  unfold zf_Mo_leave_33 at h
  cases h
  exact zg_vret F zd_Mo_leave_33
def zf_Mo_leave (N : Nat) (a1 : Int32) (a2 : Int32) (a3 : Int32) (st : zS) : Option zS := (if a3 = 0 then zf_Mo_leave_33 N st else (if a1 < 0 ∨ 24 ≤ a1.toNatClampNeg then none else (if a1 < 0 ∨ 24 ≤ a1.toNatClampNeg then none else (if a1 < 0 ∨ 48 ≤ a1.toNatClampNeg then none else ((zf_Mo_note N a2 a1 (st 50 a1.toNatClampNeg) (zp st 54 a1.toNatClampNeg ((st 40 20) - (st 53 a1.toNatClampNeg)))).bind fun t30 => zf_Mo_leave_33 N t30)))))
set_option maxHeartbeats 4000000 in
theorem zl_Mo_leave_0 (F : zw_X p m c zo_Mo_leave 4 s args zR10 E 20 A meth none) {N : Nat} {rst : zS} (a1 : Int32) (a2 : Int32) (a3 : Int32) (st : zS)  (h : zf_Mo_leave N a1 a2 a3 st = some rst) : zw_G p l e zrm_Mo_leave s m args below meth c (MQ below (zw_Q E none rst A) args s 0 0 A) E A 4 0 0 [some (.ref 40), some (.int a1), some (.int a2), some (.int a3)] [] st := by
  unfold zf_Mo_leave at h
  refine zg_iload_n F.1 zd_Mo_leave_0 rfl rfl ?_
  refine zg_if_eq F.1 33 zd_Mo_leave_1 rfl (fun hc => ?_) (fun hc => ?_)
  · rw [if_pos hc] at h
    exact zg_le (zw_len (zw_len (zw_len (zw_len zw_le0)))) (zl_Mo_leave_33 F st h)
  · rw [if_neg hc] at h
    refine zg_aload_n F.1 zd_Mo_leave_4 rfl rfl ?_
    refine zg_getR10 F.1 (by decide) rfl 18 (by decide) 54 rfl zwf_Mo_60 zd_Mo_leave_5 ?_
    refine zg_iload_n F.1 zd_Mo_leave_8 rfl rfl ?_
    refine zg_aload_n F.1 zd_Mo_leave_9 rfl rfl ?_
    refine zg_getI10 F.1 (by decide) rfl 20 (by decide) (st 40 20) rfl rfl zwf_Mo_84 zd_Mo_leave_10 ?_
    refine zg_aload_n F.1 zd_Mo_leave_13 rfl rfl ?_
    refine zg_getR10 F.1 (by decide) rfl 17 (by decide) 53 rfl zwf_Mo_57 zd_Mo_leave_14 ?_
    refine zg_iload_n F.1 zd_Mo_leave_17 rfl rfl ?_
    by_cases hi18 : a1 < 0 ∨ 24 ≤ a1.toNatClampNeg
    case pos => rw [if_pos hi18] at h; cases h
    rw [if_neg hi18] at h
    refine zg_ald14 F.1 (by decide) rfl hi18 a1.toNatClampNeg rfl (st 53 a1.toNatClampNeg) rfl zd_Mo_leave_18 ?_
    refine zg_isub F.1 zd_Mo_leave_19 ?_
    by_cases hi20 : a1 < 0 ∨ 24 ≤ a1.toNatClampNeg
    case pos => rw [if_pos hi20] at h; cases h
    rw [if_neg hi20] at h
    refine zg_ast14 F.1 (by decide) rfl hi20 a1.toNatClampNeg rfl zd_Mo_leave_20 ?_
    refine zg_aload_n F.1 zd_Mo_leave_21 rfl rfl ?_
    refine zg_iload_n F.1 zd_Mo_leave_22 rfl rfl ?_
    refine zg_iload_n F.1 zd_Mo_leave_23 rfl rfl ?_
    refine zg_aload_n F.1 zd_Mo_leave_24 rfl rfl ?_
    refine zg_getR10 F.1 (by decide) rfl 14 (by decide) 50 rfl zwf_Mo_48 zd_Mo_leave_25 ?_
    refine zg_iload_n F.1 zd_Mo_leave_28 rfl rfl ?_
    by_cases hi29 : a1 < 0 ∨ 48 ≤ a1.toNatClampNeg
    case pos => rw [if_pos hi29] at h; cases h
    rw [if_neg hi29] at h
    refine zg_ald13 F.1 (by decide) rfl hi29 a1.toNatClampNeg rfl (st 50 a1.toNatClampNeg) (zp_q _ _ (by decide)) zd_Mo_leave_29 ?_
    obtain ⟨t30, hc30, h⟩ := Option.bind_eq_some_iff.mp h
    refine zg_callV F (As := [.int a2, .int a1, .int (st 50 a1.toNatClampNeg)]) (rest := []) (zk_Mo_note F.1.2.2 N a2 a1 (st 50 a1.toNatClampNeg) (zp st 54 a1.toNatClampNeg ((st 40 20) - (st 53 a1.toNatClampNeg))) hc30) rfl rfl zcal_Mo_note zml_Mo_101 ⟨(Nat.le_of_ble_eq_true rfl), (Nat.le_of_ble_eq_true rfl)⟩ (zg_rec10 F.1 (by decide) rfl) rfl (Nat.le_of_ble_eq_true rfl) ⟨(Nat.le_of_ble_eq_true rfl), (Nat.le_of_ble_eq_true rfl)⟩ zd_Mo_leave_30 ?_
    exact zg_le (zw_len (zw_len (zw_len (zw_len zw_le0)))) (zl_Mo_leave_33 F t30 h)
theorem zk_Mo_leave {E : zE} (hn : zw_n E 20) (N : Nat) (a1 : Int32) (a2 : Int32) (a3 : Int32) (st : zS)  {rst : zS} (h : zf_Mo_leave N a1 a2 a3 st = some rst) : zw_M l zy_Mo_leave (Cond.code zy_Mo_leave zo_Mo_leave 4 none :: zwAll) zrm_Mo_leave E [.ref 40, .int a1, .int a2, .int a3] st none rst :=
  zw_enter (by decide) rfl hn (Nat.le_of_ble_eq_true rfl) (by simp [Value.category]) 0 (fun p e s m args below meth c A F => zl_Mo_leave_0 F a1 a2 a3 st  h)
set_option maxRecDepth 100000 in
theorem zcal_Mo_leave : zw_cal zR10 zy_Mo_leave zo_Mo_leave 4 none 3 := ⟨zw_at 813 rfl rfl, zw_at 40 rfl rfl, zw_at 52 rfl rfl, zw_at 814 rfl rfl, rfl, by decide, by decide, by decide +kernel⟩
set_option maxRecDepth 100000 in
theorem zml_Mo_97 : Cond.methodLink zR10 97 zy_Mo_leave ∈ zwAll := zw_at 811 rfl rfl
abbrev zrm_Mo_exchange : Room := { frames := 2, cells := 0, slots := 0, locals := 47 }
def zf_Mo_exchange_96 (N : Nat) (r23 : Int32 → Int32 → Int32 → Int32 → Int32 → zS → Option zS) (l1 : Int32) (l2 : Int32) (l3 : Int32) (l4 : Int32) (l5 : Int32) (st : zS) : Option zS := r23 l1 l2 l3 l4 (l5 + 1) st
set_option maxHeartbeats 4000000 in
theorem zl_Mo_exchange_96 (F : zw_X p m c zo_Mo_exchange 7 s args zR10 E 20 A meth none) {N : Nat} {rst : zS} {r23 : Int32 → Int32 → Int32 → Int32 → Int32 → zS → Option zS} (hr23 : ∀ (l1 : Int32) (l2 : Int32) (l3 : Int32) (l4 : Int32) (l5 : Int32) (st : zS) , r23 l1 l2 l3 l4 l5 st = some rst → zw_G p l e zrm_Mo_exchange s m args below meth c (MQ below (zw_Q E none rst A) args s 0 0 A) E A 7 0 23 [some (.ref 40), some (.int l1), some (.int l2), some (.int l3), some (.int l4), some (.int l5), none] [] st) (l1 : Int32) (l2 : Int32) (l3 : Int32) (l4 : Int32) (l5 : Int32) (st : zS)  (h : zf_Mo_exchange_96 N r23 l1 l2 l3 l4 l5 st = some rst) : zw_G p l e zrm_Mo_exchange s m args below meth c (MQ below (zw_Q E none rst A) args s 0 0 A) E A 7 0 96 [some (.ref 40), some (.int l1), some (.int l2), some (.int l3), some (.int l4), some (.int l5), none] [] st := by
  unfold zf_Mo_exchange_96 at h
  refine zg_iinc F.1 (l5 + 1) [some (.ref 40), some (.int l1), some (.int l2), some (.int l3), some (.int l4), some (.int (l5 + 1)), none] zd_Mo_exchange_96 rfl (by rw [lit1]) (by decide) rfl ?_
  refine zg_goto F.1 23 zd_Mo_exchange_99 rfl ?_
  exact hr23 l1 l2 l3 l4 (l5 + 1) st h
def zf_Mo_exchange_61 (N : Nat) (r23 : Int32 → Int32 → Int32 → Int32 → Int32 → zS → Option zS) (l1 : Int32) (l2 : Int32) (l3 : Int32) (l4 : Int32) (l5 : Int32) (s0 : Int32) (st : zS) : Option zS := (if s0 = 0 then zf_Mo_exchange_96 N r23 l1 l2 l3 l4 l5 st else (if l5 < 0 ∨ 48 ≤ l5.toNatClampNeg then none else (if (st 52 l5.toNatClampNeg) = l3 then (if l5 < 0 ∨ 48 ≤ l5.toNatClampNeg then none else ((zf_Mo_leave N l5 3 l4 (zp st 49 l5.toNatClampNeg 2)).bind fun t93 => zf_Mo_exchange_96 N r23 l1 l2 l3 l4 l5 t93)) else zf_Mo_exchange_96 N r23 l1 l2 l3 l4 l5 st)))
set_option maxHeartbeats 4000000 in
theorem zl_Mo_exchange_61 (F : zw_X p m c zo_Mo_exchange 7 s args zR10 E 20 A meth none) {N : Nat} {rst : zS} {r23 : Int32 → Int32 → Int32 → Int32 → Int32 → zS → Option zS} (hr23 : ∀ (l1 : Int32) (l2 : Int32) (l3 : Int32) (l4 : Int32) (l5 : Int32) (st : zS) , r23 l1 l2 l3 l4 l5 st = some rst → zw_G p l e zrm_Mo_exchange s m args below meth c (MQ below (zw_Q E none rst A) args s 0 0 A) E A 7 0 23 [some (.ref 40), some (.int l1), some (.int l2), some (.int l3), some (.int l4), some (.int l5), none] [] st) (l1 : Int32) (l2 : Int32) (l3 : Int32) (l4 : Int32) (l5 : Int32) (s0 : Int32) (st : zS)  (h : zf_Mo_exchange_61 N r23 l1 l2 l3 l4 l5 s0 st = some rst) : zw_G p l e zrm_Mo_exchange s m args below meth c (MQ below (zw_Q E none rst A) args s 0 0 A) E A 7 0 61 [some (.ref 40), some (.int l1), some (.int l2), some (.int l3), some (.int l4), some (.int l5), none] [.int s0] st := by
  unfold zf_Mo_exchange_61 at h
  refine zg_istore F.1 [some (.ref 40), some (.int l1), some (.int l2), some (.int l3), some (.int l4), some (.int l5), some (.int s0)] zd_Mo_exchange_61 (by decide) rfl ?_
  refine zg_iload F.1 zd_Mo_exchange_63 rfl ?_
  refine zg_if_eq F.1 96 zd_Mo_exchange_65 rfl (fun hc => ?_) (fun hc => ?_)
  · rw [if_pos hc] at h
    exact zg_le (zw_les (zw_les (zw_les (zw_les (zw_les (zw_les (zw_len zw_le0))))))) (zl_Mo_exchange_96 F hr23 l1 l2 l3 l4 l5 st h)
  · rw [if_neg hc] at h
    refine zg_aload_n F.1 zd_Mo_exchange_68 rfl rfl ?_
    refine zg_getR10 F.1 (by decide) rfl 16 (by decide) 52 rfl zwf_Mo_54 zd_Mo_exchange_69 ?_
    refine zg_iload F.1 zd_Mo_exchange_72 rfl ?_
    by_cases hi74 : l5 < 0 ∨ 48 ≤ l5.toNatClampNeg
    case pos => rw [if_pos hi74] at h; cases h
    rw [if_neg hi74] at h
    refine zg_ald13 F.1 (by decide) rfl hi74 l5.toNatClampNeg rfl (st 52 l5.toNatClampNeg) rfl zd_Mo_exchange_74 ?_
    refine zg_iload_n F.1 zd_Mo_exchange_75 rfl rfl ?_
    refine zg_icmp_ne F.1 96 zd_Mo_exchange_76 rfl (fun hc => ?_) (fun hc => ?_)
    · rw [if_neg hc] at h
      exact zg_le (zw_les (zw_les (zw_les (zw_les (zw_les (zw_les (zw_len zw_le0))))))) (zl_Mo_exchange_96 F hr23 l1 l2 l3 l4 l5 st h)
    · rw [if_pos hc] at h
      refine zg_aload_n F.1 zd_Mo_exchange_79 rfl rfl ?_
      refine zg_getR10 F.1 (by decide) rfl 13 (by decide) 49 rfl zwf_Mo_45 zd_Mo_exchange_80 ?_
      refine zg_iload F.1 zd_Mo_exchange_83 rfl ?_
      refine zg_iconst F.1 2 2 (by decide) zd_Mo_exchange_85 ?_
      by_cases hi86 : l5 < 0 ∨ 48 ≤ l5.toNatClampNeg
      case pos => rw [if_pos hi86] at h; cases h
      rw [if_neg hi86] at h
      refine zg_ast13 F.1 (by decide) rfl hi86 l5.toNatClampNeg rfl zd_Mo_exchange_86 ?_
      refine zg_aload_n F.1 zd_Mo_exchange_87 rfl rfl ?_
      refine zg_iload F.1 zd_Mo_exchange_88 rfl ?_
      refine zg_iconst F.1 3 3 (by decide) zd_Mo_exchange_90 ?_
      refine zg_iload F.1 zd_Mo_exchange_91 rfl ?_
      obtain ⟨t93, hc93, h⟩ := Option.bind_eq_some_iff.mp h
      refine zg_callV F (As := [.int l5, .int 3, .int l4]) (rest := []) (zk_Mo_leave F.1.2.2 N l5 3 l4 (zp st 49 l5.toNatClampNeg 2) hc93) rfl rfl zcal_Mo_leave zml_Mo_97 ⟨(Nat.le_of_ble_eq_true rfl), (Nat.le_of_ble_eq_true rfl)⟩ (zg_rec10 F.1 (by decide) rfl) rfl (Nat.le_of_ble_eq_true rfl) ⟨(Nat.le_of_ble_eq_true rfl), (Nat.le_of_ble_eq_true rfl)⟩ zd_Mo_exchange_93 ?_
      exact zg_le (zw_les (zw_les (zw_les (zw_les (zw_les (zw_les (zw_len zw_le0))))))) (zl_Mo_exchange_96 F hr23 l1 l2 l3 l4 l5 t93 h)
def zf_Mo_exchange_60 (N : Nat) (r23 : Int32 → Int32 → Int32 → Int32 → Int32 → zS → Option zS) (l1 : Int32) (l2 : Int32) (l3 : Int32) (l4 : Int32) (l5 : Int32) (st : zS) : Option zS := zf_Mo_exchange_61 N r23 l1 l2 l3 l4 l5 0 st
set_option maxHeartbeats 4000000 in
theorem zl_Mo_exchange_60 (F : zw_X p m c zo_Mo_exchange 7 s args zR10 E 20 A meth none) {N : Nat} {rst : zS} {r23 : Int32 → Int32 → Int32 → Int32 → Int32 → zS → Option zS} (hr23 : ∀ (l1 : Int32) (l2 : Int32) (l3 : Int32) (l4 : Int32) (l5 : Int32) (st : zS) , r23 l1 l2 l3 l4 l5 st = some rst → zw_G p l e zrm_Mo_exchange s m args below meth c (MQ below (zw_Q E none rst A) args s 0 0 A) E A 7 0 23 [some (.ref 40), some (.int l1), some (.int l2), some (.int l3), some (.int l4), some (.int l5), none] [] st) (l1 : Int32) (l2 : Int32) (l3 : Int32) (l4 : Int32) (l5 : Int32) (st : zS)  (h : zf_Mo_exchange_60 N r23 l1 l2 l3 l4 l5 st = some rst) : zw_G p l e zrm_Mo_exchange s m args below meth c (MQ below (zw_Q E none rst A) args s 0 0 A) E A 7 0 60 [some (.ref 40), some (.int l1), some (.int l2), some (.int l3), some (.int l4), some (.int l5), none] [] st := by
  unfold zf_Mo_exchange_60 at h
  refine zg_iconst F.1 0 0 (by decide) zd_Mo_exchange_60 ?_
  exact zl_Mo_exchange_61 F hr23 l1 l2 l3 l4 l5 0 st h
def zf_Mo_exchange_166 (N : Nat) (r105 : Int32 → Int32 → Int32 → Int32 → Int32 → zS → Option zS) (l1 : Int32) (l2 : Int32) (l3 : Int32) (l4 : Int32) (l5 : Int32) (st : zS) : Option zS := r105 l1 l2 l3 l4 (l5 + 1) st
set_option maxHeartbeats 4000000 in
theorem zl_Mo_exchange_166 (F : zw_X p m c zo_Mo_exchange 7 s args zR10 E 20 A meth none) {N : Nat} {rst : zS} {r105 : Int32 → Int32 → Int32 → Int32 → Int32 → zS → Option zS} (hr105 : ∀ (l1 : Int32) (l2 : Int32) (l3 : Int32) (l4 : Int32) (l5 : Int32) (st : zS) , r105 l1 l2 l3 l4 l5 st = some rst → zw_G p l e zrm_Mo_exchange s m args below meth c (MQ below (zw_Q E none rst A) args s 0 0 A) E A 7 0 105 [some (.ref 40), some (.int l1), some (.int l2), some (.int l3), some (.int l4), some (.int l5), none] [] st) (l1 : Int32) (l2 : Int32) (l3 : Int32) (l4 : Int32) (l5 : Int32) (st : zS)  (h : zf_Mo_exchange_166 N r105 l1 l2 l3 l4 l5 st = some rst) : zw_G p l e zrm_Mo_exchange s m args below meth c (MQ below (zw_Q E none rst A) args s 0 0 A) E A 7 0 166 [some (.ref 40), some (.int l1), some (.int l2), some (.int l3), some (.int l4), some (.int l5), none] [] st := by
  unfold zf_Mo_exchange_166 at h
  refine zg_iinc F.1 (l5 + 1) [some (.ref 40), some (.int l1), some (.int l2), some (.int l3), some (.int l4), some (.int (l5 + 1)), none] zd_Mo_exchange_166 rfl (by rw [lit1]) (by decide) rfl ?_
  refine zg_goto F.1 105 zd_Mo_exchange_169 rfl ?_
  exact hr105 l1 l2 l3 l4 (l5 + 1) st h
def zf_Mo_exchange_259 (N : Nat) (r175 : Int32 → Int32 → Int32 → Int32 → Int32 → zS → Option zS) (l1 : Int32) (l2 : Int32) (l3 : Int32) (l4 : Int32) (l5 : Int32) (st : zS) : Option zS := r175 l1 l2 l3 l4 (l5 + 1) st
set_option maxHeartbeats 4000000 in
theorem zl_Mo_exchange_259 (F : zw_X p m c zo_Mo_exchange 7 s args zR10 E 20 A meth none) {N : Nat} {rst : zS} {r175 : Int32 → Int32 → Int32 → Int32 → Int32 → zS → Option zS} (hr175 : ∀ (l1 : Int32) (l2 : Int32) (l3 : Int32) (l4 : Int32) (l5 : Int32) (st : zS) , r175 l1 l2 l3 l4 l5 st = some rst → zw_G p l e zrm_Mo_exchange s m args below meth c (MQ below (zw_Q E none rst A) args s 0 0 A) E A 7 0 175 [some (.ref 40), some (.int l1), some (.int l2), some (.int l3), some (.int l4), some (.int l5), none] [] st) (l1 : Int32) (l2 : Int32) (l3 : Int32) (l4 : Int32) (l5 : Int32) (st : zS)  (h : zf_Mo_exchange_259 N r175 l1 l2 l3 l4 l5 st = some rst) : zw_G p l e zrm_Mo_exchange s m args below meth c (MQ below (zw_Q E none rst A) args s 0 0 A) E A 7 0 259 [some (.ref 40), some (.int l1), some (.int l2), some (.int l3), some (.int l4), some (.int l5), none] [] st := by
  unfold zf_Mo_exchange_259 at h
  refine zg_iinc F.1 (l5 + 1) [some (.ref 40), some (.int l1), some (.int l2), some (.int l3), some (.int l4), some (.int (l5 + 1)), none] zd_Mo_exchange_259 rfl (by rw [lit1]) (by decide) rfl ?_
  refine zg_goto F.1 175 zd_Mo_exchange_262 rfl ?_
  exact hr175 l1 l2 l3 l4 (l5 + 1) st h
def zf_Mo_exchange_265 (N : Nat)   (st : zS) : Option zS := some st
set_option maxHeartbeats 4000000 in
theorem zl_Mo_exchange_265 (F : zw_X p m c zo_Mo_exchange 7 s args zR10 E 20 A meth none) {N : Nat} {rst : zS}    (st : zS)  (h : zf_Mo_exchange_265 N   st = some rst) : zw_G p l e zrm_Mo_exchange s m args below meth c (MQ below (zw_Q E none rst A) args s 0 0 A) E A 7 0 265 [none, none, none, none, none, none, none] [] st := by
  unfold zf_Mo_exchange_265 at h
  cases h
  exact zg_vret F zd_Mo_exchange_265
def zb_Mo_exchange_175 (N : Nat) (r175 : Int32 → Int32 → Int32 → Int32 → Int32 → zS → Option zS) (l1 : Int32) (l2 : Int32) (l3 : Int32) (l4 : Int32) (l5 : Int32) (st : zS) : Option zS := (if (l2 + (st 40 19)) ≤ l5 then zf_Mo_exchange_265 N st else (if (st 40 12) = 0 then (if l5 < 0 ∨ 48 ≤ l5.toNatClampNeg then none else (if (st 50 l5.toNatClampNeg) = l1 then (if l5 < 0 ∨ 48 ≤ l5.toNatClampNeg then none else (if (st 49 l5.toNatClampNeg) = 0 then (if l5 < 0 ∨ 48 ≤ l5.toNatClampNeg then none else (if (st 51 l5.toNatClampNeg) = l3 then ((zf_Mo_aboard N l1 l2 st).bind fun y228 => (if (y228.2 40 3) ≤ y228.1 then zf_Mo_exchange_259 N r175 l1 l2 l3 l4 l5 y228.2 else (if l5 < 0 ∨ 48 ≤ l5.toNatClampNeg then none else (if l4 = 0 then zf_Mo_exchange_259 N r175 l1 l2 l3 l4 l5 (zp y228.2 49 l5.toNatClampNeg 1) else ((zf_Mo_note N 2 l5 l1 (zp y228.2 49 l5.toNatClampNeg 1)).bind fun t256 => zf_Mo_exchange_259 N r175 l1 l2 l3 l4 l5 t256))))) else zf_Mo_exchange_259 N r175 l1 l2 l3 l4 l5 st)) else zf_Mo_exchange_259 N r175 l1 l2 l3 l4 l5 st)) else zf_Mo_exchange_259 N r175 l1 l2 l3 l4 l5 st)) else zf_Mo_exchange_265 N st))
set_option maxHeartbeats 4000000 in
theorem zlb_Mo_exchange_175 (F : zw_X p m c zo_Mo_exchange 7 s args zR10 E 20 A meth none) {N : Nat} {rst : zS} {r175 : Int32 → Int32 → Int32 → Int32 → Int32 → zS → Option zS} (hr175 : ∀ (l1 : Int32) (l2 : Int32) (l3 : Int32) (l4 : Int32) (l5 : Int32) (st : zS) , r175 l1 l2 l3 l4 l5 st = some rst → zw_G p l e zrm_Mo_exchange s m args below meth c (MQ below (zw_Q E none rst A) args s 0 0 A) E A 7 0 175 [some (.ref 40), some (.int l1), some (.int l2), some (.int l3), some (.int l4), some (.int l5), none] [] st) (l1 : Int32) (l2 : Int32) (l3 : Int32) (l4 : Int32) (l5 : Int32) (st : zS)  (h : zb_Mo_exchange_175 N r175 l1 l2 l3 l4 l5 st = some rst) : zw_G p l e zrm_Mo_exchange s m args below meth c (MQ below (zw_Q E none rst A) args s 0 0 A) E A 7 0 175 [some (.ref 40), some (.int l1), some (.int l2), some (.int l3), some (.int l4), some (.int l5), none] [] st := by
  unfold zb_Mo_exchange_175 at h
  refine zg_iload F.1 zd_Mo_exchange_175 rfl ?_
  refine zg_iload_n F.1 zd_Mo_exchange_177 rfl rfl ?_
  refine zg_aload_n F.1 zd_Mo_exchange_178 rfl rfl ?_
  refine zg_getI10 F.1 (by decide) rfl 19 (by decide) (st 40 19) rfl rfl zwf_Mo_81 zd_Mo_exchange_179 ?_
  refine zg_iadd F.1 zd_Mo_exchange_182 ?_
  refine zg_icmp_ge F.1 265 zd_Mo_exchange_183 rfl (fun hc => ?_) (fun hc => ?_)
  · rw [if_pos hc] at h
    exact zg_le (zw_len (zw_len (zw_len (zw_len (zw_len (zw_len (zw_les zw_le0))))))) (zl_Mo_exchange_265 F st h)
  · rw [if_neg hc] at h
    refine zg_aload_n F.1 zd_Mo_exchange_186 rfl rfl ?_
    refine zg_getI10 F.1 (by decide) rfl 12 (by decide) (st 40 12) rfl rfl zwf_Mo_77 zd_Mo_exchange_187 ?_
    refine zg_if_ne F.1 265 zd_Mo_exchange_190 rfl (fun hc => ?_) (fun hc => ?_)
    · rw [if_neg hc] at h
      exact zg_le (zw_len (zw_len (zw_len (zw_len (zw_len (zw_len (zw_les zw_le0))))))) (zl_Mo_exchange_265 F st h)
    · rw [if_pos hc] at h
      refine zg_aload_n F.1 zd_Mo_exchange_193 rfl rfl ?_
      refine zg_getR10 F.1 (by decide) rfl 14 (by decide) 50 rfl zwf_Mo_48 zd_Mo_exchange_194 ?_
      refine zg_iload F.1 zd_Mo_exchange_197 rfl ?_
      by_cases hi199 : l5 < 0 ∨ 48 ≤ l5.toNatClampNeg
      case pos => rw [if_pos hi199] at h; cases h
      rw [if_neg hi199] at h
      refine zg_ald13 F.1 (by decide) rfl hi199 l5.toNatClampNeg rfl (st 50 l5.toNatClampNeg) rfl zd_Mo_exchange_199 ?_
      refine zg_iload_n F.1 zd_Mo_exchange_200 rfl rfl ?_
      refine zg_icmp_ne F.1 259 zd_Mo_exchange_201 rfl (fun hc => ?_) (fun hc => ?_)
      · rw [if_neg hc] at h
        exact zl_Mo_exchange_259 F hr175 l1 l2 l3 l4 l5 st h
      · rw [if_pos hc] at h
        refine zg_aload_n F.1 zd_Mo_exchange_204 rfl rfl ?_
        refine zg_getR10 F.1 (by decide) rfl 13 (by decide) 49 rfl zwf_Mo_45 zd_Mo_exchange_205 ?_
        refine zg_iload F.1 zd_Mo_exchange_208 rfl ?_
        by_cases hi210 : l5 < 0 ∨ 48 ≤ l5.toNatClampNeg
        case pos => rw [if_pos hi210] at h; cases h
        rw [if_neg hi210] at h
        refine zg_ald13 F.1 (by decide) rfl hi210 l5.toNatClampNeg rfl (st 49 l5.toNatClampNeg) rfl zd_Mo_exchange_210 ?_
        refine zg_if_ne F.1 259 zd_Mo_exchange_211 rfl (fun hc => ?_) (fun hc => ?_)
        · rw [if_neg hc] at h
          exact zl_Mo_exchange_259 F hr175 l1 l2 l3 l4 l5 st h
        · rw [if_pos hc] at h
          refine zg_aload_n F.1 zd_Mo_exchange_214 rfl rfl ?_
          refine zg_getR10 F.1 (by decide) rfl 15 (by decide) 51 rfl zwf_Mo_51 zd_Mo_exchange_215 ?_
          refine zg_iload F.1 zd_Mo_exchange_218 rfl ?_
          by_cases hi220 : l5 < 0 ∨ 48 ≤ l5.toNatClampNeg
          case pos => rw [if_pos hi220] at h; cases h
          rw [if_neg hi220] at h
          refine zg_ald13 F.1 (by decide) rfl hi220 l5.toNatClampNeg rfl (st 51 l5.toNatClampNeg) rfl zd_Mo_exchange_220 ?_
          refine zg_iload_n F.1 zd_Mo_exchange_221 rfl rfl ?_
          refine zg_icmp_ne F.1 259 zd_Mo_exchange_222 rfl (fun hc => ?_) (fun hc => ?_)
          · rw [if_neg hc] at h
            exact zl_Mo_exchange_259 F hr175 l1 l2 l3 l4 l5 st h
          · rw [if_pos hc] at h
            refine zg_aload_n F.1 zd_Mo_exchange_225 rfl rfl ?_
            refine zg_iload_n F.1 zd_Mo_exchange_226 rfl rfl ?_
            refine zg_iload_n F.1 zd_Mo_exchange_227 rfl rfl ?_
            obtain ⟨y228, hc228, h⟩ := Option.bind_eq_some_iff.mp h
            refine zg_callV F (As := [.int l1, .int l2]) (rest := []) (zk_Mo_aboard F.1.2.2 N l1 l2 st hc228) rfl rfl zcal_Mo_aboard zml_Mo_90 ⟨(Nat.le_of_ble_eq_true rfl), (Nat.le_of_ble_eq_true rfl)⟩ (zg_rec10 F.1 (by decide) rfl) rfl (Nat.le_of_ble_eq_true rfl) ⟨(Nat.le_of_ble_eq_true rfl), (Nat.le_of_ble_eq_true rfl)⟩ zd_Mo_exchange_228 ?_
            refine zg_aload_n F.1 zd_Mo_exchange_231 rfl rfl ?_
            refine zg_getI10 F.1 (by decide) rfl 3 (by decide) (y228.2 40 3) rfl rfl zwf_Mo_16 zd_Mo_exchange_232 ?_
            refine zg_icmp_ge F.1 259 zd_Mo_exchange_235 rfl (fun hc => ?_) (fun hc => ?_)
            · rw [if_pos hc] at h
              exact zl_Mo_exchange_259 F hr175 l1 l2 l3 l4 l5 y228.2 h
            · rw [if_neg hc] at h
              refine zg_aload_n F.1 zd_Mo_exchange_238 rfl rfl ?_
              refine zg_getR10 F.1 (by decide) rfl 13 (by decide) 49 rfl zwf_Mo_45 zd_Mo_exchange_239 ?_
              refine zg_iload F.1 zd_Mo_exchange_242 rfl ?_
              refine zg_iconst F.1 1 1 (by decide) zd_Mo_exchange_244 ?_
              by_cases hi245 : l5 < 0 ∨ 48 ≤ l5.toNatClampNeg
              case pos => rw [if_pos hi245] at h; cases h
              rw [if_neg hi245] at h
              refine zg_ast13 F.1 (by decide) rfl hi245 l5.toNatClampNeg rfl zd_Mo_exchange_245 ?_
              refine zg_iload F.1 zd_Mo_exchange_246 rfl ?_
              refine zg_if_eq F.1 259 zd_Mo_exchange_248 rfl (fun hc => ?_) (fun hc => ?_)
              · rw [if_pos hc] at h
                exact zl_Mo_exchange_259 F hr175 l1 l2 l3 l4 l5 (zp y228.2 49 l5.toNatClampNeg 1) h
              · rw [if_neg hc] at h
                refine zg_aload_n F.1 zd_Mo_exchange_251 rfl rfl ?_
                refine zg_iconst F.1 2 2 (by decide) zd_Mo_exchange_252 ?_
                refine zg_iload F.1 zd_Mo_exchange_253 rfl ?_
                refine zg_iload_n F.1 zd_Mo_exchange_255 rfl rfl ?_
                obtain ⟨t256, hc256, h⟩ := Option.bind_eq_some_iff.mp h
                refine zg_callV F (As := [.int 2, .int l5, .int l1]) (rest := []) (zk_Mo_note F.1.2.2 N 2 l5 l1 (zp y228.2 49 l5.toNatClampNeg 1) hc256) rfl rfl zcal_Mo_note zml_Mo_101 ⟨(Nat.le_of_ble_eq_true rfl), (Nat.le_of_ble_eq_true rfl)⟩ (zg_rec10 F.1 (by decide) rfl) rfl (Nat.le_of_ble_eq_true rfl) ⟨(Nat.le_of_ble_eq_true rfl), (Nat.le_of_ble_eq_true rfl)⟩ zd_Mo_exchange_256 ?_
                exact zl_Mo_exchange_259 F hr175 l1 l2 l3 l4 l5 t256 h
def zf_Mo_exchange_175 (N : Nat)  : Nat → Int32 → Int32 → Int32 → Int32 → Int32 → zS → Option zS
  | 0, _, _, _, _, _, _ => none
  | n + 1, l1, l2, l3, l4, l5, st => zb_Mo_exchange_175 N  (zf_Mo_exchange_175 N  n) l1 l2 l3 l4 l5 st
theorem zl_Mo_exchange_175 (F : zw_X p m c zo_Mo_exchange 7 s args zR10 E 20 A meth none) {N : Nat} {rst : zS}   : ∀ (n : Nat) (l1 : Int32) (l2 : Int32) (l3 : Int32) (l4 : Int32) (l5 : Int32) (st : zS)  (h : zf_Mo_exchange_175 N  n l1 l2 l3 l4 l5 st = some rst), zw_G p l e zrm_Mo_exchange s m args below meth c (MQ below (zw_Q E none rst A) args s 0 0 A) E A 7 0 175 [some (.ref 40), some (.int l1), some (.int l2), some (.int l3), some (.int l4), some (.int l5), none] [] st := by
  intro n
  induction n with
  | zero => intro l1 l2 l3 l4 l5 st  h; cases h
  | succ n ih => intro l1 l2 l3 l4 l5 st  h; exact zlb_Mo_exchange_175 F  ih l1 l2 l3 l4 l5 st  h
def zf_Mo_exchange_172 (N : Nat)  (l1 : Int32) (l2 : Int32) (l3 : Int32) (l4 : Int32) (st : zS) : Option zS := zf_Mo_exchange_175 N N l1 l2 l3 l4 l2 st
set_option maxHeartbeats 4000000 in
theorem zl_Mo_exchange_172 (F : zw_X p m c zo_Mo_exchange 7 s args zR10 E 20 A meth none) {N : Nat} {rst : zS}   (l1 : Int32) (l2 : Int32) (l3 : Int32) (l4 : Int32) (st : zS)  (h : zf_Mo_exchange_172 N  l1 l2 l3 l4 st = some rst) : zw_G p l e zrm_Mo_exchange s m args below meth c (MQ below (zw_Q E none rst A) args s 0 0 A) E A 7 0 172 [some (.ref 40), some (.int l1), some (.int l2), some (.int l3), some (.int l4), none, none] [] st := by
  unfold zf_Mo_exchange_172 at h
  refine zg_iload_n F.1 zd_Mo_exchange_172 rfl rfl ?_
  refine zg_istore F.1 [some (.ref 40), some (.int l1), some (.int l2), some (.int l3), some (.int l4), some (.int l2), none] zd_Mo_exchange_173 (by decide) rfl ?_
  exact zl_Mo_exchange_175 F N l1 l2 l3 l4 l2 st h
def zb_Mo_exchange_105 (N : Nat) (r105 : Int32 → Int32 → Int32 → Int32 → Int32 → zS → Option zS) (l1 : Int32) (l2 : Int32) (l3 : Int32) (l4 : Int32) (l5 : Int32) (st : zS) : Option zS := (if (l2 + (st 40 19)) ≤ l5 then zf_Mo_exchange_172 N l1 l2 l3 l4 st else (if (st 40 12) = 0 then zf_Mo_exchange_172 N l1 l2 l3 l4 st else (if l3 = 0 then (if l5 < 0 ∨ 48 ≤ l5.toNatClampNeg then none else (if (st 50 l5.toNatClampNeg) = l1 then (if l5 < 0 ∨ 48 ≤ l5.toNatClampNeg then none else (if (st 49 l5.toNatClampNeg) = 1 then (if l5 < 0 ∨ 48 ≤ l5.toNatClampNeg then none else ((zf_Mo_leave N l5 4 l4 (zp st 49 l5.toNatClampNeg 3)).bind fun t163 => zf_Mo_exchange_166 N r105 l1 l2 l3 l4 l5 t163)) else zf_Mo_exchange_166 N r105 l1 l2 l3 l4 l5 st)) else zf_Mo_exchange_166 N r105 l1 l2 l3 l4 l5 st)) else zf_Mo_exchange_172 N l1 l2 l3 l4 st)))
set_option maxHeartbeats 4000000 in
theorem zlb_Mo_exchange_105 (F : zw_X p m c zo_Mo_exchange 7 s args zR10 E 20 A meth none) {N : Nat} {rst : zS} {r105 : Int32 → Int32 → Int32 → Int32 → Int32 → zS → Option zS} (hr105 : ∀ (l1 : Int32) (l2 : Int32) (l3 : Int32) (l4 : Int32) (l5 : Int32) (st : zS) , r105 l1 l2 l3 l4 l5 st = some rst → zw_G p l e zrm_Mo_exchange s m args below meth c (MQ below (zw_Q E none rst A) args s 0 0 A) E A 7 0 105 [some (.ref 40), some (.int l1), some (.int l2), some (.int l3), some (.int l4), some (.int l5), none] [] st) (l1 : Int32) (l2 : Int32) (l3 : Int32) (l4 : Int32) (l5 : Int32) (st : zS)  (h : zb_Mo_exchange_105 N r105 l1 l2 l3 l4 l5 st = some rst) : zw_G p l e zrm_Mo_exchange s m args below meth c (MQ below (zw_Q E none rst A) args s 0 0 A) E A 7 0 105 [some (.ref 40), some (.int l1), some (.int l2), some (.int l3), some (.int l4), some (.int l5), none] [] st := by
  unfold zb_Mo_exchange_105 at h
  refine zg_iload F.1 zd_Mo_exchange_105 rfl ?_
  refine zg_iload_n F.1 zd_Mo_exchange_107 rfl rfl ?_
  refine zg_aload_n F.1 zd_Mo_exchange_108 rfl rfl ?_
  refine zg_getI10 F.1 (by decide) rfl 19 (by decide) (st 40 19) rfl rfl zwf_Mo_81 zd_Mo_exchange_109 ?_
  refine zg_iadd F.1 zd_Mo_exchange_112 ?_
  refine zg_icmp_ge F.1 172 zd_Mo_exchange_113 rfl (fun hc => ?_) (fun hc => ?_)
  · rw [if_pos hc] at h
    exact zg_le (zw_les (zw_les (zw_les (zw_les (zw_les (zw_len (zw_les zw_le0))))))) (zl_Mo_exchange_172 F l1 l2 l3 l4 st h)
  · rw [if_neg hc] at h
    refine zg_aload_n F.1 zd_Mo_exchange_116 rfl rfl ?_
    refine zg_getI10 F.1 (by decide) rfl 12 (by decide) (st 40 12) rfl rfl zwf_Mo_77 zd_Mo_exchange_117 ?_
    refine zg_if_eq F.1 172 zd_Mo_exchange_120 rfl (fun hc => ?_) (fun hc => ?_)
    · rw [if_pos hc] at h
      exact zg_le (zw_les (zw_les (zw_les (zw_les (zw_les (zw_len (zw_les zw_le0))))))) (zl_Mo_exchange_172 F l1 l2 l3 l4 st h)
    · rw [if_neg hc] at h
      refine zg_iload_n F.1 zd_Mo_exchange_123 rfl rfl ?_
      refine zg_if_ne F.1 172 zd_Mo_exchange_124 rfl (fun hc => ?_) (fun hc => ?_)
      · rw [if_neg hc] at h
        exact zg_le (zw_les (zw_les (zw_les (zw_les (zw_les (zw_len (zw_les zw_le0))))))) (zl_Mo_exchange_172 F l1 l2 l3 l4 st h)
      · rw [if_pos hc] at h
        refine zg_aload_n F.1 zd_Mo_exchange_127 rfl rfl ?_
        refine zg_getR10 F.1 (by decide) rfl 14 (by decide) 50 rfl zwf_Mo_48 zd_Mo_exchange_128 ?_
        refine zg_iload F.1 zd_Mo_exchange_131 rfl ?_
        by_cases hi133 : l5 < 0 ∨ 48 ≤ l5.toNatClampNeg
        case pos => rw [if_pos hi133] at h; cases h
        rw [if_neg hi133] at h
        refine zg_ald13 F.1 (by decide) rfl hi133 l5.toNatClampNeg rfl (st 50 l5.toNatClampNeg) rfl zd_Mo_exchange_133 ?_
        refine zg_iload_n F.1 zd_Mo_exchange_134 rfl rfl ?_
        refine zg_icmp_ne F.1 166 zd_Mo_exchange_135 rfl (fun hc => ?_) (fun hc => ?_)
        · rw [if_neg hc] at h
          exact zl_Mo_exchange_166 F hr105 l1 l2 l3 l4 l5 st h
        · rw [if_pos hc] at h
          refine zg_aload_n F.1 zd_Mo_exchange_138 rfl rfl ?_
          refine zg_getR10 F.1 (by decide) rfl 13 (by decide) 49 rfl zwf_Mo_45 zd_Mo_exchange_139 ?_
          refine zg_iload F.1 zd_Mo_exchange_142 rfl ?_
          by_cases hi144 : l5 < 0 ∨ 48 ≤ l5.toNatClampNeg
          case pos => rw [if_pos hi144] at h; cases h
          rw [if_neg hi144] at h
          refine zg_ald13 F.1 (by decide) rfl hi144 l5.toNatClampNeg rfl (st 49 l5.toNatClampNeg) rfl zd_Mo_exchange_144 ?_
          refine zg_iconst F.1 1 1 (by decide) zd_Mo_exchange_145 ?_
          refine zg_icmp_ne F.1 166 zd_Mo_exchange_146 rfl (fun hc => ?_) (fun hc => ?_)
          · rw [if_neg hc] at h
            exact zl_Mo_exchange_166 F hr105 l1 l2 l3 l4 l5 st h
          · rw [if_pos hc] at h
            refine zg_aload_n F.1 zd_Mo_exchange_149 rfl rfl ?_
            refine zg_getR10 F.1 (by decide) rfl 13 (by decide) 49 rfl zwf_Mo_45 zd_Mo_exchange_150 ?_
            refine zg_iload F.1 zd_Mo_exchange_153 rfl ?_
            refine zg_iconst F.1 3 3 (by decide) zd_Mo_exchange_155 ?_
            by_cases hi156 : l5 < 0 ∨ 48 ≤ l5.toNatClampNeg
            case pos => rw [if_pos hi156] at h; cases h
            rw [if_neg hi156] at h
            refine zg_ast13 F.1 (by decide) rfl hi156 l5.toNatClampNeg rfl zd_Mo_exchange_156 ?_
            refine zg_aload_n F.1 zd_Mo_exchange_157 rfl rfl ?_
            refine zg_iload F.1 zd_Mo_exchange_158 rfl ?_
            refine zg_iconst F.1 4 4 (by decide) zd_Mo_exchange_160 ?_
            refine zg_iload F.1 zd_Mo_exchange_161 rfl ?_
            obtain ⟨t163, hc163, h⟩ := Option.bind_eq_some_iff.mp h
            refine zg_callV F (As := [.int l5, .int 4, .int l4]) (rest := []) (zk_Mo_leave F.1.2.2 N l5 4 l4 (zp st 49 l5.toNatClampNeg 3) hc163) rfl rfl zcal_Mo_leave zml_Mo_97 ⟨(Nat.le_of_ble_eq_true rfl), (Nat.le_of_ble_eq_true rfl)⟩ (zg_rec10 F.1 (by decide) rfl) rfl (Nat.le_of_ble_eq_true rfl) ⟨(Nat.le_of_ble_eq_true rfl), (Nat.le_of_ble_eq_true rfl)⟩ zd_Mo_exchange_163 ?_
            exact zl_Mo_exchange_166 F hr105 l1 l2 l3 l4 l5 t163 h
def zf_Mo_exchange_105 (N : Nat)  : Nat → Int32 → Int32 → Int32 → Int32 → Int32 → zS → Option zS
  | 0, _, _, _, _, _, _ => none
  | n + 1, l1, l2, l3, l4, l5, st => zb_Mo_exchange_105 N  (zf_Mo_exchange_105 N  n) l1 l2 l3 l4 l5 st
theorem zl_Mo_exchange_105 (F : zw_X p m c zo_Mo_exchange 7 s args zR10 E 20 A meth none) {N : Nat} {rst : zS}   : ∀ (n : Nat) (l1 : Int32) (l2 : Int32) (l3 : Int32) (l4 : Int32) (l5 : Int32) (st : zS)  (h : zf_Mo_exchange_105 N  n l1 l2 l3 l4 l5 st = some rst), zw_G p l e zrm_Mo_exchange s m args below meth c (MQ below (zw_Q E none rst A) args s 0 0 A) E A 7 0 105 [some (.ref 40), some (.int l1), some (.int l2), some (.int l3), some (.int l4), some (.int l5), none] [] st := by
  intro n
  induction n with
  | zero => intro l1 l2 l3 l4 l5 st  h; cases h
  | succ n ih => intro l1 l2 l3 l4 l5 st  h; exact zlb_Mo_exchange_105 F  ih l1 l2 l3 l4 l5 st  h
def zb_Mo_exchange_23 (N : Nat) (r23 : Int32 → Int32 → Int32 → Int32 → Int32 → zS → Option zS) (l1 : Int32) (l2 : Int32) (l3 : Int32) (l4 : Int32) (l5 : Int32) (st : zS) : Option zS := (if (l2 + (st 40 19)) ≤ l5 then zf_Mo_exchange_105 N N l1 l2 l3 l4 l2 st else (if l5 < 0 ∨ 48 ≤ l5.toNatClampNeg then none else (if (st 50 l5.toNatClampNeg) = l1 then (if l5 < 0 ∨ 48 ≤ l5.toNatClampNeg then none else (if (st 49 l5.toNatClampNeg) = 1 then zf_Mo_exchange_61 N r23 l1 l2 l3 l4 l5 1 st else zf_Mo_exchange_60 N r23 l1 l2 l3 l4 l5 st)) else zf_Mo_exchange_60 N r23 l1 l2 l3 l4 l5 st)))
set_option maxHeartbeats 4000000 in
theorem zlb_Mo_exchange_23 (F : zw_X p m c zo_Mo_exchange 7 s args zR10 E 20 A meth none) {N : Nat} {rst : zS} {r23 : Int32 → Int32 → Int32 → Int32 → Int32 → zS → Option zS} (hr23 : ∀ (l1 : Int32) (l2 : Int32) (l3 : Int32) (l4 : Int32) (l5 : Int32) (st : zS) , r23 l1 l2 l3 l4 l5 st = some rst → zw_G p l e zrm_Mo_exchange s m args below meth c (MQ below (zw_Q E none rst A) args s 0 0 A) E A 7 0 23 [some (.ref 40), some (.int l1), some (.int l2), some (.int l3), some (.int l4), some (.int l5), none] [] st) (l1 : Int32) (l2 : Int32) (l3 : Int32) (l4 : Int32) (l5 : Int32) (st : zS)  (h : zb_Mo_exchange_23 N r23 l1 l2 l3 l4 l5 st = some rst) : zw_G p l e zrm_Mo_exchange s m args below meth c (MQ below (zw_Q E none rst A) args s 0 0 A) E A 7 0 23 [some (.ref 40), some (.int l1), some (.int l2), some (.int l3), some (.int l4), some (.int l5), none] [] st := by
  unfold zb_Mo_exchange_23 at h
  refine zg_iload F.1 zd_Mo_exchange_23 rfl ?_
  refine zg_iload_n F.1 zd_Mo_exchange_25 rfl rfl ?_
  refine zg_aload_n F.1 zd_Mo_exchange_26 rfl rfl ?_
  refine zg_getI10 F.1 (by decide) rfl 19 (by decide) (st 40 19) rfl rfl zwf_Mo_81 zd_Mo_exchange_27 ?_
  refine zg_iadd F.1 zd_Mo_exchange_30 ?_
  refine zg_icmp_ge F.1 102 zd_Mo_exchange_31 rfl (fun hc => ?_) (fun hc => ?_)
  · rw [if_pos hc] at h
    refine zg_iload_n F.1 zd_Mo_exchange_102 rfl rfl ?_
    refine zg_istore F.1 [some (.ref 40), some (.int l1), some (.int l2), some (.int l3), some (.int l4), some (.int l2), none] zd_Mo_exchange_103 (by decide) rfl ?_
    exact zl_Mo_exchange_105 F N l1 l2 l3 l4 l2 st h
  · rw [if_neg hc] at h
    refine zg_aload_n F.1 zd_Mo_exchange_34 rfl rfl ?_
    refine zg_getR10 F.1 (by decide) rfl 14 (by decide) 50 rfl zwf_Mo_48 zd_Mo_exchange_35 ?_
    refine zg_iload F.1 zd_Mo_exchange_38 rfl ?_
    by_cases hi40 : l5 < 0 ∨ 48 ≤ l5.toNatClampNeg
    case pos => rw [if_pos hi40] at h; cases h
    rw [if_neg hi40] at h
    refine zg_ald13 F.1 (by decide) rfl hi40 l5.toNatClampNeg rfl (st 50 l5.toNatClampNeg) rfl zd_Mo_exchange_40 ?_
    refine zg_iload_n F.1 zd_Mo_exchange_41 rfl rfl ?_
    refine zg_icmp_ne F.1 60 zd_Mo_exchange_42 rfl (fun hc => ?_) (fun hc => ?_)
    · rw [if_neg hc] at h
      exact zl_Mo_exchange_60 F hr23 l1 l2 l3 l4 l5 st h
    · rw [if_pos hc] at h
      refine zg_aload_n F.1 zd_Mo_exchange_45 rfl rfl ?_
      refine zg_getR10 F.1 (by decide) rfl 13 (by decide) 49 rfl zwf_Mo_45 zd_Mo_exchange_46 ?_
      refine zg_iload F.1 zd_Mo_exchange_49 rfl ?_
      by_cases hi51 : l5 < 0 ∨ 48 ≤ l5.toNatClampNeg
      case pos => rw [if_pos hi51] at h; cases h
      rw [if_neg hi51] at h
      refine zg_ald13 F.1 (by decide) rfl hi51 l5.toNatClampNeg rfl (st 49 l5.toNatClampNeg) rfl zd_Mo_exchange_51 ?_
      refine zg_iconst F.1 1 1 (by decide) zd_Mo_exchange_52 ?_
      refine zg_icmp_ne F.1 60 zd_Mo_exchange_53 rfl (fun hc => ?_) (fun hc => ?_)
      · rw [if_neg hc] at h
        exact zl_Mo_exchange_60 F hr23 l1 l2 l3 l4 l5 st h
      · rw [if_pos hc] at h
        refine zg_iconst F.1 1 1 (by decide) zd_Mo_exchange_56 ?_
        refine zg_goto F.1 61 zd_Mo_exchange_57 rfl ?_
        exact zl_Mo_exchange_61 F hr23 l1 l2 l3 l4 l5 1 st h
def zf_Mo_exchange_23 (N : Nat)  : Nat → Int32 → Int32 → Int32 → Int32 → Int32 → zS → Option zS
  | 0, _, _, _, _, _, _ => none
  | n + 1, l1, l2, l3, l4, l5, st => zb_Mo_exchange_23 N  (zf_Mo_exchange_23 N  n) l1 l2 l3 l4 l5 st
theorem zl_Mo_exchange_23 (F : zw_X p m c zo_Mo_exchange 7 s args zR10 E 20 A meth none) {N : Nat} {rst : zS}   : ∀ (n : Nat) (l1 : Int32) (l2 : Int32) (l3 : Int32) (l4 : Int32) (l5 : Int32) (st : zS)  (h : zf_Mo_exchange_23 N  n l1 l2 l3 l4 l5 st = some rst), zw_G p l e zrm_Mo_exchange s m args below meth c (MQ below (zw_Q E none rst A) args s 0 0 A) E A 7 0 23 [some (.ref 40), some (.int l1), some (.int l2), some (.int l3), some (.int l4), some (.int l5), none] [] st := by
  intro n
  induction n with
  | zero => intro l1 l2 l3 l4 l5 st  h; cases h
  | succ n ih => intro l1 l2 l3 l4 l5 st  h; exact zlb_Mo_exchange_23 F  ih l1 l2 l3 l4 l5 st  h
def zf_Mo_exchange_18 (N : Nat)  (l1 : Int32) (l2 : Int32) (l3 : Int32) (s0 : Int32) (st : zS) : Option zS := zf_Mo_exchange_23 N N l1 l2 l3 s0 l2 st
set_option maxHeartbeats 4000000 in
theorem zl_Mo_exchange_18 (F : zw_X p m c zo_Mo_exchange 7 s args zR10 E 20 A meth none) {N : Nat} {rst : zS}   (l1 : Int32) (l2 : Int32) (l3 : Int32) (s0 : Int32) (st : zS)  (h : zf_Mo_exchange_18 N  l1 l2 l3 s0 st = some rst) : zw_G p l e zrm_Mo_exchange s m args below meth c (MQ below (zw_Q E none rst A) args s 0 0 A) E A 7 0 18 [some (.ref 40), some (.int l1), some (.int l2), some (.int l3), none, none, none] [.int s0] st := by
  unfold zf_Mo_exchange_18 at h
  refine zg_istore F.1 [some (.ref 40), some (.int l1), some (.int l2), some (.int l3), some (.int s0), none, none] zd_Mo_exchange_18 (by decide) rfl ?_
  refine zg_iload_n F.1 zd_Mo_exchange_20 rfl rfl ?_
  refine zg_istore F.1 [some (.ref 40), some (.int l1), some (.int l2), some (.int l3), some (.int s0), some (.int l2), none] zd_Mo_exchange_21 (by decide) rfl ?_
  exact zl_Mo_exchange_23 F N l1 l2 l3 s0 l2 st h
def zf_Mo_exchange (N : Nat) (a1 : Int32) (a2 : Int32) (st : zS) : Option zS := (if a1 < 0 ∨ 5 ≤ a1.toNatClampNeg then none else (if a2 = 0 then zf_Mo_exchange_18 N a1 a2 ((st 41 a1.toNatClampNeg) / 2) 1 st else zf_Mo_exchange_18 N a1 a2 ((st 41 a1.toNatClampNeg) / 2) 0 st))
set_option maxHeartbeats 4000000 in
theorem zl_Mo_exchange_0 (F : zw_X p m c zo_Mo_exchange 7 s args zR10 E 20 A meth none) {N : Nat} {rst : zS} (a1 : Int32) (a2 : Int32) (st : zS)  (h : zf_Mo_exchange N a1 a2 st = some rst) : zw_G p l e zrm_Mo_exchange s m args below meth c (MQ below (zw_Q E none rst A) args s 0 0 A) E A 7 0 0 [some (.ref 40), some (.int a1), some (.int a2), none, none, none, none] [] st := by
  unfold zf_Mo_exchange at h
  refine zg_aload_n F.1 zd_Mo_exchange_0 rfl rfl ?_
  refine zg_getR10 F.1 (by decide) rfl 4 (by decide) 41 rfl zwf_Mo_19 zd_Mo_exchange_1 ?_
  refine zg_iload_n F.1 zd_Mo_exchange_4 rfl rfl ?_
  by_cases hi5 : a1 < 0 ∨ 5 ≤ a1.toNatClampNeg
  case pos => rw [if_pos hi5] at h; cases h
  rw [if_neg hi5] at h
  refine zg_ald11 F.1 (by decide) rfl hi5 a1.toNatClampNeg rfl (st 41 a1.toNatClampNeg) rfl zd_Mo_exchange_5 ?_
  refine zg_iconst F.1 2 2 (by decide) zd_Mo_exchange_6 ?_
  refine zg_idiv F.1 zd_Mo_exchange_7 (by decide) ?_
  refine zg_istore_n F.1 [some (.ref 40), some (.int a1), some (.int a2), some (.int ((st 41 a1.toNatClampNeg) / 2)), none, none, none] zd_Mo_exchange_8 rfl (by decide) rfl ?_
  refine zg_iload_n F.1 zd_Mo_exchange_9 rfl rfl ?_
  refine zg_if_ne F.1 17 zd_Mo_exchange_10 rfl (fun hc => ?_) (fun hc => ?_)
  · rw [if_neg hc] at h
    refine zg_iconst F.1 0 0 (by decide) zd_Mo_exchange_17 ?_
    exact zl_Mo_exchange_18 F a1 a2 ((st 41 a1.toNatClampNeg) / 2) 0 st h
  · rw [if_pos hc] at h
    refine zg_iconst F.1 1 1 (by decide) zd_Mo_exchange_13 ?_
    refine zg_goto F.1 18 zd_Mo_exchange_14 rfl ?_
    exact zl_Mo_exchange_18 F a1 a2 ((st 41 a1.toNatClampNeg) / 2) 1 st h
theorem zk_Mo_exchange {E : zE} (hn : zw_n E 20) (N : Nat) (a1 : Int32) (a2 : Int32) (st : zS)  {rst : zS} (h : zf_Mo_exchange N a1 a2 st = some rst) : zw_M l zy_Mo_exchange (Cond.code zy_Mo_exchange zo_Mo_exchange 7 none :: zwAll) zrm_Mo_exchange E [.ref 40, .int a1, .int a2] st none rst :=
  zw_enter (by decide) rfl hn (Nat.le_of_ble_eq_true rfl) (by simp [Value.category]) 4 (fun p e s m args below meth c A F => zl_Mo_exchange_0 F a1 a2 st  h)
set_option maxRecDepth 100000 in
theorem zcal_Mo_isThere : zw_cal zR10 zy_Mo_isThere zo_Mo_isThere 2 (some .boolean) 1 := ⟨zw_at 789 rfl rfl, zw_at 34 rfl rfl, zw_at 52 rfl rfl, zw_at 790 rfl rfl, rfl, by decide, by decide, by decide +kernel⟩
set_option maxRecDepth 100000 in
theorem zml_Mo_105 : Cond.methodLink zR10 105 zy_Mo_isThere ∈ zwAll := zw_at 787 rfl rfl
set_option maxRecDepth 100000 in
theorem zcal_Mo_nearest : zw_cal zR10 zy_Mo_nearest zo_Mo_nearest 6 (some .int) 2 := ⟨zw_at 801 rfl rfl, zw_at 37 rfl rfl, zw_at 52 rfl rfl, zw_at 802 rfl rfl, rfl, by decide, by decide, by decide +kernel⟩
set_option maxRecDepth 100000 in
theorem zml_Mo_109 : Cond.methodLink zR10 109 zy_Mo_nearest ∈ zwAll := zw_at 799 rfl rfl
set_option maxRecDepth 100000 in
theorem zcal_Mo_hasStop : zw_cal zR10 zy_Mo_hasStop zo_Mo_hasStop 6 (some .boolean) 3 := ⟨zw_at 805 rfl rfl, zw_at 38 rfl rfl, zw_at 52 rfl rfl, zw_at 806 rfl rfl, rfl, by decide, by decide, by decide +kernel⟩
set_option maxRecDepth 100000 in
theorem zml_Mo_112 : Cond.methodLink zR10 112 zy_Mo_hasStop ∈ zwAll := zw_at 803 rfl rfl
abbrev zrm_Mo_closed : Room := { frames := 3, cells := 0, slots := 0, locals := 76 }
def zf_Mo_closed_100 (N : Nat)  (l1 : Int32) (s0 : Int32) (s1 : Int32) (st : zS) : Option zS := (if s1 < 0 ∨ 5 ≤ s1.toNatClampNeg then none else (if l1 < 0 ∨ 5 ≤ l1.toNatClampNeg then none else (if l1 < 0 ∨ 5 ≤ l1.toNatClampNeg then none else (if l1 < 0 ∨ 5 ≤ l1.toNatClampNeg then none else some (zp (zp st 42 s1.toNatClampNeg s0) 41 l1.toNatClampNeg ((st 41 l1.toNatClampNeg) + ((zp st 42 s1.toNatClampNeg s0) 42 l1.toNatClampNeg)))))))
set_option maxHeartbeats 4000000 in
theorem zl_Mo_closed_100 (F : zw_X p m c zo_Mo_closed 5 s args zR10 E 20 A meth none) {N : Nat} {rst : zS}   (l1 : Int32) (s0 : Int32) (s1 : Int32) (st : zS)  (h : zf_Mo_closed_100 N  l1 s0 s1 st = some rst) : zw_G p l e zrm_Mo_closed s m args below meth c (MQ below (zw_Q E none rst A) args s 0 0 A) E A 5 0 100 [some (.ref 40), some (.int l1), none, none, none] [.int s0, .int s1, .ref 42] st := by
  unfold zf_Mo_closed_100 at h
  by_cases hi100 : s1 < 0 ∨ 5 ≤ s1.toNatClampNeg
  case pos => rw [if_pos hi100] at h; cases h
  rw [if_neg hi100] at h
  refine zg_ast11 F.1 (by decide) rfl hi100 s1.toNatClampNeg rfl zd_Mo_closed_100 ?_
  refine zg_aload_n F.1 zd_Mo_closed_101 rfl rfl ?_
  refine zg_getR10 F.1 (by decide) rfl 4 (by decide) 41 rfl zwf_Mo_19 zd_Mo_closed_102 ?_
  refine zg_iload_n F.1 zd_Mo_closed_105 rfl rfl ?_
  refine zg_dup2 F.1 zd_Mo_closed_106 rfl rfl ?_
  by_cases hi107 : l1 < 0 ∨ 5 ≤ l1.toNatClampNeg
  case pos => rw [if_pos hi107] at h; cases h
  rw [if_neg hi107] at h
  refine zg_ald11 F.1 (by decide) rfl hi107 l1.toNatClampNeg rfl (st 41 l1.toNatClampNeg) (zp_q _ _ (by decide)) zd_Mo_closed_107 ?_
  refine zg_aload_n F.1 zd_Mo_closed_108 rfl rfl ?_
  refine zg_getR10 F.1 (by decide) rfl 5 (by decide) 42 rfl zwf_Mo_23 zd_Mo_closed_109 ?_
  refine zg_iload_n F.1 zd_Mo_closed_112 rfl rfl ?_
  by_cases hi113 : l1 < 0 ∨ 5 ≤ l1.toNatClampNeg
  case pos => rw [if_pos hi113] at h; cases h
  rw [if_neg hi113] at h
  refine zg_ald11 F.1 (by decide) rfl hi113 l1.toNatClampNeg rfl ((zp st 42 s1.toNatClampNeg s0) 42 l1.toNatClampNeg) rfl zd_Mo_closed_113 ?_
  refine zg_iadd F.1 zd_Mo_closed_114 ?_
  by_cases hi115 : l1 < 0 ∨ 5 ≤ l1.toNatClampNeg
  case pos => rw [if_pos hi115] at h; cases h
  rw [if_neg hi115] at h
  refine zg_ast11 F.1 (by decide) rfl hi115 l1.toNatClampNeg rfl zd_Mo_closed_115 ?_
  cases h
  exact zg_vret F zd_Mo_closed_116
def zf_Mo_closed_40 (N : Nat)  (l1 : Int32) (l2 : Int32) (st : zS) : Option zS := ((zf_Mo_nearest N l1 l2 st).bind fun y43 => (if y43.1 = 0 then (if l1 < 0 ∨ 5 ≤ l1.toNatClampNeg then none else some (zp y43.2 42 l1.toNatClampNeg 0)) else (if l1 < 0 ∨ 5 ≤ l1.toNatClampNeg then none else (if (y43.2 42 l1.toNatClampNeg) = 0 then zf_Mo_closed_100 N l1 y43.1 l1 y43.2 else ((zf_Mo_hasStop N l1 (y43.2 42 l1.toNatClampNeg) l2 y43.2).bind fun y86 => (if y86.1 = 0 then zf_Mo_closed_100 N l1 (-(y43.2 42 l1.toNatClampNeg)) l1 y86.2 else zf_Mo_closed_100 N l1 (y43.2 42 l1.toNatClampNeg) l1 y86.2))))))
set_option maxHeartbeats 4000000 in
theorem zl_Mo_closed_40 (F : zw_X p m c zo_Mo_closed 5 s args zR10 E 20 A meth none) {N : Nat} {rst : zS}   (l1 : Int32) (l2 : Int32) (st : zS)  (h : zf_Mo_closed_40 N  l1 l2 st = some rst) : zw_G p l e zrm_Mo_closed s m args below meth c (MQ below (zw_Q E none rst A) args s 0 0 A) E A 5 0 40 [some (.ref 40), some (.int l1), some (.int l2), none, none] [] st := by
  unfold zf_Mo_closed_40 at h
  refine zg_aload_n F.1 zd_Mo_closed_40 rfl rfl ?_
  refine zg_iload_n F.1 zd_Mo_closed_41 rfl rfl ?_
  refine zg_iload_n F.1 zd_Mo_closed_42 rfl rfl ?_
  obtain ⟨y43, hc43, h⟩ := Option.bind_eq_some_iff.mp h
  refine zg_callV F (As := [.int l1, .int l2]) (rest := []) (zk_Mo_nearest F.1.2.2 N l1 l2 st hc43) rfl rfl zcal_Mo_nearest zml_Mo_109 ⟨(Nat.le_of_ble_eq_true rfl), (Nat.le_of_ble_eq_true rfl)⟩ (zg_rec10 F.1 (by decide) rfl) rfl (Nat.le_of_ble_eq_true rfl) ⟨(Nat.le_of_ble_eq_true rfl), (Nat.le_of_ble_eq_true rfl)⟩ zd_Mo_closed_43 ?_
  refine zg_istore_n F.1 [some (.ref 40), some (.int l1), some (.int l2), some (.int y43.1), none] zd_Mo_closed_46 rfl (by decide) rfl ?_
  refine zg_iload_n F.1 zd_Mo_closed_47 rfl rfl ?_
  refine zg_if_ne F.1 59 zd_Mo_closed_48 rfl (fun hc => ?_) (fun hc => ?_)
  · rw [if_neg hc] at h
    refine zg_aload_n F.1 zd_Mo_closed_59 rfl rfl ?_
    refine zg_getR10 F.1 (by decide) rfl 5 (by decide) 42 rfl zwf_Mo_23 zd_Mo_closed_60 ?_
    refine zg_iload_n F.1 zd_Mo_closed_63 rfl rfl ?_
    by_cases hi64 : l1 < 0 ∨ 5 ≤ l1.toNatClampNeg
    case pos => rw [if_pos hi64] at h; cases h
    rw [if_neg hi64] at h
    refine zg_ald11 F.1 (by decide) rfl hi64 l1.toNatClampNeg rfl (y43.2 42 l1.toNatClampNeg) rfl zd_Mo_closed_64 ?_
    refine zg_istore F.1 [some (.ref 40), some (.int l1), some (.int l2), some (.int y43.1), some (.int (y43.2 42 l1.toNatClampNeg))] zd_Mo_closed_65 (by decide) rfl ?_
    refine zg_aload_n F.1 zd_Mo_closed_67 rfl rfl ?_
    refine zg_getR10 F.1 (by decide) rfl 5 (by decide) 42 rfl zwf_Mo_23 zd_Mo_closed_68 ?_
    refine zg_iload_n F.1 zd_Mo_closed_71 rfl rfl ?_
    refine zg_iload F.1 zd_Mo_closed_72 rfl ?_
    refine zg_if_ne F.1 81 zd_Mo_closed_74 rfl (fun hc => ?_) (fun hc => ?_)
    · rw [if_neg hc] at h
      refine zg_aload_n F.1 zd_Mo_closed_81 rfl rfl ?_
      refine zg_iload_n F.1 zd_Mo_closed_82 rfl rfl ?_
      refine zg_iload F.1 zd_Mo_closed_83 rfl ?_
      refine zg_iload_n F.1 zd_Mo_closed_85 rfl rfl ?_
      obtain ⟨y86, hc86, h⟩ := Option.bind_eq_some_iff.mp h
      refine zg_callV F (As := [.int l1, .int (y43.2 42 l1.toNatClampNeg), .int l2]) (rest := [.int l1, .ref 42]) (zk_Mo_hasStop F.1.2.2 N l1 (y43.2 42 l1.toNatClampNeg) l2 y43.2 hc86) rfl rfl zcal_Mo_hasStop zml_Mo_112 ⟨(Nat.le_of_ble_eq_true rfl), (Nat.le_of_ble_eq_true rfl)⟩ (zg_rec10 F.1 (by decide) rfl) rfl (Nat.le_of_ble_eq_true rfl) ⟨(Nat.le_of_ble_eq_true rfl), (Nat.le_of_ble_eq_true rfl)⟩ zd_Mo_closed_86 ?_
      refine zg_if_eq F.1 97 zd_Mo_closed_89 rfl (fun hc => ?_) (fun hc => ?_)
      · rw [if_pos hc] at h
        refine zg_iload F.1 zd_Mo_closed_97 rfl ?_
        refine zg_ineg F.1 zd_Mo_closed_99 ?_
        exact zg_le (zw_les (zw_les (zw_len (zw_len (zw_len zw_le0))))) (zl_Mo_closed_100 F l1 (-(y43.2 42 l1.toNatClampNeg)) l1 y86.2 h)
      · rw [if_neg hc] at h
        refine zg_iload F.1 zd_Mo_closed_92 rfl ?_
        refine zg_goto F.1 100 zd_Mo_closed_94 rfl ?_
        exact zg_le (zw_les (zw_les (zw_len (zw_len (zw_len zw_le0))))) (zl_Mo_closed_100 F l1 (y43.2 42 l1.toNatClampNeg) l1 y86.2 h)
    · rw [if_pos hc] at h
      refine zg_iload_n F.1 zd_Mo_closed_77 rfl rfl ?_
      refine zg_goto F.1 100 zd_Mo_closed_78 rfl ?_
      exact zg_le (zw_les (zw_les (zw_len (zw_len (zw_len zw_le0))))) (zl_Mo_closed_100 F l1 y43.1 l1 y43.2 h)
  · rw [if_pos hc] at h
    refine zg_aload_n F.1 zd_Mo_closed_51 rfl rfl ?_
    refine zg_getR10 F.1 (by decide) rfl 5 (by decide) 42 rfl zwf_Mo_23 zd_Mo_closed_52 ?_
    refine zg_iload_n F.1 zd_Mo_closed_55 rfl rfl ?_
    refine zg_iconst F.1 0 0 (by decide) zd_Mo_closed_56 ?_
    by_cases hi57 : l1 < 0 ∨ 5 ≤ l1.toNatClampNeg
    case pos => rw [if_pos hi57] at h; cases h
    rw [if_neg hi57] at h
    refine zg_ast11 F.1 (by decide) rfl hi57 l1.toNatClampNeg rfl zd_Mo_closed_57 ?_
    cases h
    exact zg_vret F zd_Mo_closed_58
def zf_Mo_closed (N : Nat) (a1 : Int32) (a2 : Int32) (st : zS) : Option zS := ((zf_Mo_isThere N a1 st).bind fun y2 => (if y2.1 = 0 then zf_Mo_closed_40 N a1 a2 y2.2 else (if a1 < 0 ∨ 5 ≤ a1.toNatClampNeg then none else ((zf_Mo_isStop N a1 ((y2.2 41 a1.toNatClampNeg) / 2) a2 y2.2).bind fun y19 => (if y19.1 = 0 then zf_Mo_closed_40 N a1 a2 y19.2 else (if a1 < 0 ∨ 5 ≤ a1.toNatClampNeg then none else (if a1 < 0 ∨ 5 ≤ a1.toNatClampNeg then none else some (zp (zp y19.2 43 a1.toNatClampNeg 1) 44 a1.toNatClampNeg 3))))))))
set_option maxHeartbeats 4000000 in
theorem zl_Mo_closed_0 (F : zw_X p m c zo_Mo_closed 5 s args zR10 E 20 A meth none) {N : Nat} {rst : zS} (a1 : Int32) (a2 : Int32) (st : zS)  (h : zf_Mo_closed N a1 a2 st = some rst) : zw_G p l e zrm_Mo_closed s m args below meth c (MQ below (zw_Q E none rst A) args s 0 0 A) E A 5 0 0 [some (.ref 40), some (.int a1), some (.int a2), none, none] [] st := by
  unfold zf_Mo_closed at h
  refine zg_aload_n F.1 zd_Mo_closed_0 rfl rfl ?_
  refine zg_iload_n F.1 zd_Mo_closed_1 rfl rfl ?_
  obtain ⟨y2, hc2, h⟩ := Option.bind_eq_some_iff.mp h
  refine zg_callV F (As := [.int a1]) (rest := []) (zk_Mo_isThere F.1.2.2 N a1 st hc2) rfl rfl zcal_Mo_isThere zml_Mo_105 ⟨(Nat.le_of_ble_eq_true rfl), (Nat.le_of_ble_eq_true rfl)⟩ (zg_rec10 F.1 (by decide) rfl) rfl (Nat.le_of_ble_eq_true rfl) ⟨(Nat.le_of_ble_eq_true rfl), (Nat.le_of_ble_eq_true rfl)⟩ zd_Mo_closed_2 ?_
  refine zg_if_eq F.1 40 zd_Mo_closed_5 rfl (fun hc => ?_) (fun hc => ?_)
  · rw [if_pos hc] at h
    exact zl_Mo_closed_40 F a1 a2 y2.2 h
  · rw [if_neg hc] at h
    refine zg_aload_n F.1 zd_Mo_closed_8 rfl rfl ?_
    refine zg_iload_n F.1 zd_Mo_closed_9 rfl rfl ?_
    refine zg_aload_n F.1 zd_Mo_closed_10 rfl rfl ?_
    refine zg_getR10 F.1 (by decide) rfl 4 (by decide) 41 rfl zwf_Mo_19 zd_Mo_closed_11 ?_
    refine zg_iload_n F.1 zd_Mo_closed_14 rfl rfl ?_
    by_cases hi15 : a1 < 0 ∨ 5 ≤ a1.toNatClampNeg
    case pos => rw [if_pos hi15] at h; cases h
    rw [if_neg hi15] at h
    refine zg_ald11 F.1 (by decide) rfl hi15 a1.toNatClampNeg rfl (y2.2 41 a1.toNatClampNeg) rfl zd_Mo_closed_15 ?_
    refine zg_iconst F.1 2 2 (by decide) zd_Mo_closed_16 ?_
    refine zg_idiv F.1 zd_Mo_closed_17 (by decide) ?_
    refine zg_iload_n F.1 zd_Mo_closed_18 rfl rfl ?_
    obtain ⟨y19, hc19, h⟩ := Option.bind_eq_some_iff.mp h
    refine zg_callV F (As := [.int a1, .int ((y2.2 41 a1.toNatClampNeg) / 2), .int a2]) (rest := []) (zk_Mo_isStop F.1.2.2 N a1 ((y2.2 41 a1.toNatClampNeg) / 2) a2 y2.2 hc19) rfl rfl zcal_Mo_isStop zml_Mo_94 ⟨(Nat.le_of_ble_eq_true rfl), (Nat.le_of_ble_eq_true rfl)⟩ (zg_rec10 F.1 (by decide) rfl) rfl (Nat.le_of_ble_eq_true rfl) ⟨(Nat.le_of_ble_eq_true rfl), (Nat.le_of_ble_eq_true rfl)⟩ zd_Mo_closed_19 ?_
    refine zg_if_eq F.1 40 zd_Mo_closed_22 rfl (fun hc => ?_) (fun hc => ?_)
    · rw [if_pos hc] at h
      exact zl_Mo_closed_40 F a1 a2 y19.2 h
    · rw [if_neg hc] at h
      refine zg_aload_n F.1 zd_Mo_closed_25 rfl rfl ?_
      refine zg_getR10 F.1 (by decide) rfl 6 (by decide) 43 rfl zwf_Mo_26 zd_Mo_closed_26 ?_
      refine zg_iload_n F.1 zd_Mo_closed_29 rfl rfl ?_
      refine zg_iconst F.1 1 1 (by decide) zd_Mo_closed_30 ?_
      by_cases hi31 : a1 < 0 ∨ 5 ≤ a1.toNatClampNeg
      case pos => rw [if_pos hi31] at h; cases h
      rw [if_neg hi31] at h
      refine zg_ast11 F.1 (by decide) rfl hi31 a1.toNatClampNeg rfl zd_Mo_closed_31 ?_
      refine zg_aload_n F.1 zd_Mo_closed_32 rfl rfl ?_
      refine zg_getR10 F.1 (by decide) rfl 7 (by decide) 44 rfl zwf_Mo_29 zd_Mo_closed_33 ?_
      refine zg_iload_n F.1 zd_Mo_closed_36 rfl rfl ?_
      refine zg_iconst F.1 3 3 (by decide) zd_Mo_closed_37 ?_
      by_cases hi38 : a1 < 0 ∨ 5 ≤ a1.toNatClampNeg
      case pos => rw [if_pos hi38] at h; cases h
      rw [if_neg hi38] at h
      refine zg_ast11 F.1 (by decide) rfl hi38 a1.toNatClampNeg rfl zd_Mo_closed_38 ?_
      cases h
      exact zg_vret F zd_Mo_closed_39
theorem zk_Mo_closed {E : zE} (hn : zw_n E 20) (N : Nat) (a1 : Int32) (a2 : Int32) (st : zS)  {rst : zS} (h : zf_Mo_closed N a1 a2 st = some rst) : zw_M l zy_Mo_closed (Cond.code zy_Mo_closed zo_Mo_closed 5 none :: zwAll) zrm_Mo_closed E [.ref 40, .int a1, .int a2] st none rst :=
  zw_enter (by decide) rfl hn (Nat.le_of_ble_eq_true rfl) (by simp [Value.category]) 2 (fun p e s m args below meth c A F => zl_Mo_closed_0 F a1 a2 st  h)
set_option maxRecDepth 100000 in
theorem zcal_Mo_exchange : zw_cal zR10 zy_Mo_exchange zo_Mo_exchange 7 none 2 := ⟨zw_at 809 rfl rfl, zw_at 39 rfl rfl, zw_at 52 rfl rfl, zw_at 810 rfl rfl, rfl, by decide, by decide, by decide +kernel⟩
set_option maxRecDepth 100000 in
theorem zml_Mo_115 : Cond.methodLink zR10 115 zy_Mo_exchange ∈ zwAll := zw_at 807 rfl rfl
abbrev zrm_Mo_open : Room := { frames := 3, cells := 0, slots := 0, locals := 73 }
def zf_Mo_open_123 (N : Nat)   (st : zS) : Option zS := some st
set_option maxHeartbeats 4000000 in
theorem zl_Mo_open_123 (F : zw_X p m c zo_Mo_open 4 s args zR10 E 20 A meth none) {N : Nat} {rst : zS}    (st : zS)  (h : zf_Mo_open_123 N   st = some rst) : zw_G p l e zrm_Mo_open s m args below meth c (MQ below (zw_Q E none rst A) args s 0 0 A) E A 4 0 123 [none, none, none, none] [] st := by
  unfold zf_Mo_open_123 at h
  cases h
  exact zg_vret F zd_Mo_open_123
def zf_Mo_open_122 (N : Nat)  (s0 : Int32) (s1 : Int32) (st : zS) : Option zS := (if s1 < 0 ∨ 5 ≤ s1.toNatClampNeg then none else zf_Mo_open_123 N (zp st 44 s1.toNatClampNeg s0))
set_option maxHeartbeats 4000000 in
theorem zl_Mo_open_122 (F : zw_X p m c zo_Mo_open 4 s args zR10 E 20 A meth none) {N : Nat} {rst : zS}   (s0 : Int32) (s1 : Int32) (st : zS)  (h : zf_Mo_open_122 N  s0 s1 st = some rst) : zw_G p l e zrm_Mo_open s m args below meth c (MQ below (zw_Q E none rst A) args s 0 0 A) E A 4 0 122 [none, none, none, none] [.int s0, .int s1, .ref 44] st := by
  unfold zf_Mo_open_122 at h
  by_cases hi122 : s1 < 0 ∨ 5 ≤ s1.toNatClampNeg
  case pos => rw [if_pos hi122] at h; cases h
  rw [if_neg hi122] at h
  refine zg_ast11 F.1 (by decide) rfl hi122 s1.toNatClampNeg rfl zd_Mo_open_122 ?_
  exact zl_Mo_open_123 F (zp st 44 s1.toNatClampNeg s0) h
def zf_Mo_open_101 (N : Nat)  (l1 : Int32) (s0 : Int32) (s1 : Int32) (st : zS) : Option zS := (if s1 < 0 ∨ 5 ≤ s1.toNatClampNeg then none else (if l1 < 0 ∨ 5 ≤ l1.toNatClampNeg then none else (if (st 48 l1.toNatClampNeg) = 0 then zf_Mo_open_122 N 3 l1 (zp st 43 s1.toNatClampNeg s0) else zf_Mo_open_122 N 6 l1 (zp st 43 s1.toNatClampNeg s0))))
set_option maxHeartbeats 4000000 in
theorem zl_Mo_open_101 (F : zw_X p m c zo_Mo_open 4 s args zR10 E 20 A meth none) {N : Nat} {rst : zS}   (l1 : Int32) (s0 : Int32) (s1 : Int32) (st : zS)  (h : zf_Mo_open_101 N  l1 s0 s1 st = some rst) : zw_G p l e zrm_Mo_open s m args below meth c (MQ below (zw_Q E none rst A) args s 0 0 A) E A 4 0 101 [some (.ref 40), some (.int l1), none, none] [.int s0, .int s1, .ref 43] st := by
  unfold zf_Mo_open_101 at h
  by_cases hi101 : s1 < 0 ∨ 5 ≤ s1.toNatClampNeg
  case pos => rw [if_pos hi101] at h; cases h
  rw [if_neg hi101] at h
  refine zg_ast11 F.1 (by decide) rfl hi101 s1.toNatClampNeg rfl zd_Mo_open_101 ?_
  refine zg_aload_n F.1 zd_Mo_open_102 rfl rfl ?_
  refine zg_getR10 F.1 (by decide) rfl 7 (by decide) 44 rfl zwf_Mo_29 zd_Mo_open_103 ?_
  refine zg_iload_n F.1 zd_Mo_open_106 rfl rfl ?_
  refine zg_aload_n F.1 zd_Mo_open_107 rfl rfl ?_
  refine zg_getR10 F.1 (by decide) rfl 11 (by decide) 48 rfl zwf_Mo_42 zd_Mo_open_108 ?_
  refine zg_iload_n F.1 zd_Mo_open_111 rfl rfl ?_
  by_cases hi112 : l1 < 0 ∨ 5 ≤ l1.toNatClampNeg
  case pos => rw [if_pos hi112] at h; cases h
  rw [if_neg hi112] at h
  refine zg_ald12 F.1 (by decide) rfl hi112 l1.toNatClampNeg rfl (st 48 l1.toNatClampNeg) (zp_q _ _ (by decide)) zd_Mo_open_112 ?_
  refine zg_if_eq F.1 121 zd_Mo_open_113 rfl (fun hc => ?_) (fun hc => ?_)
  · rw [if_pos hc] at h
    refine zg_iconst F.1 3 3 (by decide) zd_Mo_open_121 ?_
    exact zg_le (zw_len (zw_len (zw_les (zw_les zw_le0)))) (zl_Mo_open_122 F 3 l1 (zp st 43 s1.toNatClampNeg s0) h)
  · rw [if_neg hc] at h
    refine zg_bipush F.1 6 6 (by decide) zd_Mo_open_116 ?_
    refine zg_goto F.1 122 zd_Mo_open_118 rfl ?_
    exact zg_le (zw_len (zw_len (zw_les (zw_les zw_le0)))) (zl_Mo_open_122 F 6 l1 (zp st 43 s1.toNatClampNeg s0) h)
def zf_Mo_open_57 (N : Nat)  (l1 : Int32) (s0 : Int32) (st : zS) : Option zS := (if s0 = 0 then (if l1 < 0 ∨ 5 ≤ l1.toNatClampNeg then none else (if l1 < 0 ∨ 5 ≤ l1.toNatClampNeg then none else (if l1 < 0 ∨ 5 ≤ l1.toNatClampNeg then none else (if ((st 44 l1.toNatClampNeg) - 1) = 0 then (if l1 < 0 ∨ 5 ≤ l1.toNatClampNeg then none else (if (st 48 l1.toNatClampNeg) = 0 then zf_Mo_open_101 N l1 3 l1 (zp st 44 l1.toNatClampNeg ((st 44 l1.toNatClampNeg) - 1)) else zf_Mo_open_101 N l1 4 l1 (zp st 44 l1.toNatClampNeg ((st 44 l1.toNatClampNeg) - 1)))) else zf_Mo_open_123 N (zp st 44 l1.toNatClampNeg ((st 44 l1.toNatClampNeg) - 1)))))) else some st)
set_option maxHeartbeats 4000000 in
theorem zl_Mo_open_57 (F : zw_X p m c zo_Mo_open 4 s args zR10 E 20 A meth none) {N : Nat} {rst : zS}   (l1 : Int32) (s0 : Int32) (st : zS)  (h : zf_Mo_open_57 N  l1 s0 st = some rst) : zw_G p l e zrm_Mo_open s m args below meth c (MQ below (zw_Q E none rst A) args s 0 0 A) E A 4 0 57 [some (.ref 40), some (.int l1), none, none] [.int s0] st := by
  unfold zf_Mo_open_57 at h
  refine zg_istore_n F.1 [some (.ref 40), some (.int l1), none, some (.int s0)] zd_Mo_open_57 rfl (by decide) rfl ?_
  refine zg_iload_n F.1 zd_Mo_open_58 rfl rfl ?_
  refine zg_if_eq F.1 63 zd_Mo_open_59 rfl (fun hc => ?_) (fun hc => ?_)
  · rw [if_pos hc] at h
    refine zg_aload_n F.1 zd_Mo_open_63 rfl rfl ?_
    refine zg_getR10 F.1 (by decide) rfl 7 (by decide) 44 rfl zwf_Mo_29 zd_Mo_open_64 ?_
    refine zg_iload_n F.1 zd_Mo_open_67 rfl rfl ?_
    refine zg_dup2 F.1 zd_Mo_open_68 rfl rfl ?_
    by_cases hi69 : l1 < 0 ∨ 5 ≤ l1.toNatClampNeg
    case pos => rw [if_pos hi69] at h; cases h
    rw [if_neg hi69] at h
    refine zg_ald11 F.1 (by decide) rfl hi69 l1.toNatClampNeg rfl (st 44 l1.toNatClampNeg) rfl zd_Mo_open_69 ?_
    refine zg_iconst F.1 1 1 (by decide) zd_Mo_open_70 ?_
    refine zg_isub F.1 zd_Mo_open_71 ?_
    by_cases hi72 : l1 < 0 ∨ 5 ≤ l1.toNatClampNeg
    case pos => rw [if_pos hi72] at h; cases h
    rw [if_neg hi72] at h
    refine zg_ast11 F.1 (by decide) rfl hi72 l1.toNatClampNeg rfl zd_Mo_open_72 ?_
    refine zg_aload_n F.1 zd_Mo_open_73 rfl rfl ?_
    refine zg_getR10 F.1 (by decide) rfl 7 (by decide) 44 rfl zwf_Mo_29 zd_Mo_open_74 ?_
    refine zg_iload_n F.1 zd_Mo_open_77 rfl rfl ?_
    by_cases hi78 : l1 < 0 ∨ 5 ≤ l1.toNatClampNeg
    case pos => rw [if_pos hi78] at h; cases h
    rw [if_neg hi78] at h
    refine zg_ald11 F.1 (by decide) rfl hi78 l1.toNatClampNeg rfl ((st 44 l1.toNatClampNeg) - 1) (zp_s _ _ _ _) zd_Mo_open_78 ?_
    refine zg_if_ne F.1 123 zd_Mo_open_79 rfl (fun hc => ?_) (fun hc => ?_)
    · rw [if_neg hc] at h
      exact zg_le (zw_len (zw_len (zw_les (zw_len zw_le0)))) (zl_Mo_open_123 F (zp st 44 l1.toNatClampNeg ((st 44 l1.toNatClampNeg) - 1)) h)
    · rw [if_pos hc] at h
      refine zg_aload_n F.1 zd_Mo_open_82 rfl rfl ?_
      refine zg_getR10 F.1 (by decide) rfl 6 (by decide) 43 rfl zwf_Mo_26 zd_Mo_open_83 ?_
      refine zg_iload_n F.1 zd_Mo_open_86 rfl rfl ?_
      refine zg_aload_n F.1 zd_Mo_open_87 rfl rfl ?_
      refine zg_getR10 F.1 (by decide) rfl 11 (by decide) 48 rfl zwf_Mo_42 zd_Mo_open_88 ?_
      refine zg_iload_n F.1 zd_Mo_open_91 rfl rfl ?_
      by_cases hi92 : l1 < 0 ∨ 5 ≤ l1.toNatClampNeg
      case pos => rw [if_pos hi92] at h; cases h
      rw [if_neg hi92] at h
      refine zg_ald12 F.1 (by decide) rfl hi92 l1.toNatClampNeg rfl (st 48 l1.toNatClampNeg) (zp_q _ _ (by decide)) zd_Mo_open_92 ?_
      refine zg_if_eq F.1 100 zd_Mo_open_93 rfl (fun hc => ?_) (fun hc => ?_)
      · rw [if_pos hc] at h
        refine zg_iconst F.1 3 3 (by decide) zd_Mo_open_100 ?_
        exact zg_le (zw_les (zw_les (zw_les (zw_len zw_le0)))) (zl_Mo_open_101 F l1 3 l1 (zp st 44 l1.toNatClampNeg ((st 44 l1.toNatClampNeg) - 1)) h)
      · rw [if_neg hc] at h
        refine zg_iconst F.1 4 4 (by decide) zd_Mo_open_96 ?_
        refine zg_goto F.1 101 zd_Mo_open_97 rfl ?_
        exact zg_le (zw_les (zw_les (zw_les (zw_len zw_le0)))) (zl_Mo_open_101 F l1 4 l1 (zp st 44 l1.toNatClampNeg ((st 44 l1.toNatClampNeg) - 1)) h)
  · rw [if_neg hc] at h
    cases h
    exact zg_vret F zd_Mo_open_62
def zf_Mo_open_52 (N : Nat)  (l1 : Int32) (st : zS) : Option zS := zf_Mo_open_57 N l1 1 st
set_option maxHeartbeats 4000000 in
theorem zl_Mo_open_52 (F : zw_X p m c zo_Mo_open 4 s args zR10 E 20 A meth none) {N : Nat} {rst : zS}   (l1 : Int32) (st : zS)  (h : zf_Mo_open_52 N  l1 st = some rst) : zw_G p l e zrm_Mo_open s m args below meth c (MQ below (zw_Q E none rst A) args s 0 0 A) E A 4 0 52 [some (.ref 40), some (.int l1), none, none] [] st := by
  unfold zf_Mo_open_52 at h
  refine zg_iconst F.1 1 1 (by decide) zd_Mo_open_52 ?_
  refine zg_goto F.1 57 zd_Mo_open_53 rfl ?_
  exact zl_Mo_open_57 F l1 1 st h
def zf_Mo_open_56 (N : Nat)  (l1 : Int32) (st : zS) : Option zS := zf_Mo_open_57 N l1 0 st
set_option maxHeartbeats 4000000 in
theorem zl_Mo_open_56 (F : zw_X p m c zo_Mo_open 4 s args zR10 E 20 A meth none) {N : Nat} {rst : zS}   (l1 : Int32) (st : zS)  (h : zf_Mo_open_56 N  l1 st = some rst) : zw_G p l e zrm_Mo_open s m args below meth c (MQ below (zw_Q E none rst A) args s 0 0 A) E A 4 0 56 [some (.ref 40), some (.int l1), none, none] [] st := by
  unfold zf_Mo_open_56 at h
  refine zg_iconst F.1 0 0 (by decide) zd_Mo_open_56 ?_
  exact zl_Mo_open_57 F l1 0 st h
def zf_Mo_open_32 (N : Nat)  (l1 : Int32) (st : zS) : Option zS := (if l1 < 0 ∨ 5 ≤ l1.toNatClampNeg then none else (if (st 48 l1.toNatClampNeg) = 0 then zf_Mo_open_56 N l1 st else (if l1 < 0 ∨ 5 ≤ l1.toNatClampNeg then none else (if 20 < (st 45 l1.toNatClampNeg) then zf_Mo_open_56 N l1 st else zf_Mo_open_52 N l1 st))))
set_option maxHeartbeats 4000000 in
theorem zl_Mo_open_32 (F : zw_X p m c zo_Mo_open 4 s args zR10 E 20 A meth none) {N : Nat} {rst : zS}   (l1 : Int32) (st : zS)  (h : zf_Mo_open_32 N  l1 st = some rst) : zw_G p l e zrm_Mo_open s m args below meth c (MQ below (zw_Q E none rst A) args s 0 0 A) E A 4 0 32 [some (.ref 40), some (.int l1), none, none] [] st := by
  unfold zf_Mo_open_32 at h
  refine zg_aload_n F.1 zd_Mo_open_32 rfl rfl ?_
  refine zg_getR10 F.1 (by decide) rfl 11 (by decide) 48 rfl zwf_Mo_42 zd_Mo_open_33 ?_
  refine zg_iload_n F.1 zd_Mo_open_36 rfl rfl ?_
  by_cases hi37 : l1 < 0 ∨ 5 ≤ l1.toNatClampNeg
  case pos => rw [if_pos hi37] at h; cases h
  rw [if_neg hi37] at h
  refine zg_ald12 F.1 (by decide) rfl hi37 l1.toNatClampNeg rfl (st 48 l1.toNatClampNeg) rfl zd_Mo_open_37 ?_
  refine zg_if_eq F.1 56 zd_Mo_open_38 rfl (fun hc => ?_) (fun hc => ?_)
  · rw [if_pos hc] at h
    exact zl_Mo_open_56 F l1 st h
  · rw [if_neg hc] at h
    refine zg_aload_n F.1 zd_Mo_open_41 rfl rfl ?_
    refine zg_getR10 F.1 (by decide) rfl 8 (by decide) 45 rfl zwf_Mo_32 zd_Mo_open_42 ?_
    refine zg_iload_n F.1 zd_Mo_open_45 rfl rfl ?_
    by_cases hi46 : l1 < 0 ∨ 5 ≤ l1.toNatClampNeg
    case pos => rw [if_pos hi46] at h; cases h
    rw [if_neg hi46] at h
    refine zg_ald11 F.1 (by decide) rfl hi46 l1.toNatClampNeg rfl (st 45 l1.toNatClampNeg) rfl zd_Mo_open_46 ?_
    refine zg_bipush F.1 20 20 (by decide) zd_Mo_open_47 ?_
    refine zg_icmp_gt F.1 56 zd_Mo_open_49 rfl (fun hc => ?_) (fun hc => ?_)
    · rw [if_pos hc] at h
      exact zl_Mo_open_56 F l1 st h
    · rw [if_neg hc] at h
      exact zl_Mo_open_52 F l1 st h
def zf_Mo_open (N : Nat) (a1 : Int32) (a2 : Int32) (st : zS) : Option zS := ((zf_Mo_exchange N a1 a2 st).bind fun t3 => (if a1 < 0 ∨ 5 ≤ a1.toNatClampNeg then none else (if a1 < 0 ∨ 5 ≤ a1.toNatClampNeg then none else (if (t3 40 12) = 0 then zf_Mo_open_32 N a1 (zp t3 45 a1.toNatClampNeg ((t3 45 a1.toNatClampNeg) + 1)) else (if a1 < 0 ∨ 5 ≤ a1.toNatClampNeg then none else (if (t3 41 a1.toNatClampNeg) = 0 then zf_Mo_open_52 N a1 (zp t3 45 a1.toNatClampNeg ((t3 45 a1.toNatClampNeg) + 1)) else zf_Mo_open_32 N a1 (zp t3 45 a1.toNatClampNeg ((t3 45 a1.toNatClampNeg) + 1))))))))
set_option maxHeartbeats 4000000 in
theorem zl_Mo_open_0 (F : zw_X p m c zo_Mo_open 4 s args zR10 E 20 A meth none) {N : Nat} {rst : zS} (a1 : Int32) (a2 : Int32) (st : zS)  (h : zf_Mo_open N a1 a2 st = some rst) : zw_G p l e zrm_Mo_open s m args below meth c (MQ below (zw_Q E none rst A) args s 0 0 A) E A 4 0 0 [some (.ref 40), some (.int a1), some (.int a2), none] [] st := by
  unfold zf_Mo_open at h
  refine zg_aload_n F.1 zd_Mo_open_0 rfl rfl ?_
  refine zg_iload_n F.1 zd_Mo_open_1 rfl rfl ?_
  refine zg_iload_n F.1 zd_Mo_open_2 rfl rfl ?_
  obtain ⟨t3, hc3, h⟩ := Option.bind_eq_some_iff.mp h
  refine zg_callV F (As := [.int a1, .int a2]) (rest := []) (zk_Mo_exchange F.1.2.2 N a1 a2 st hc3) rfl rfl zcal_Mo_exchange zml_Mo_115 ⟨(Nat.le_of_ble_eq_true rfl), (Nat.le_of_ble_eq_true rfl)⟩ (zg_rec10 F.1 (by decide) rfl) rfl (Nat.le_of_ble_eq_true rfl) ⟨(Nat.le_of_ble_eq_true rfl), (Nat.le_of_ble_eq_true rfl)⟩ zd_Mo_open_3 ?_
  refine zg_aload_n F.1 zd_Mo_open_6 rfl rfl ?_
  refine zg_getR10 F.1 (by decide) rfl 8 (by decide) 45 rfl zwf_Mo_32 zd_Mo_open_7 ?_
  refine zg_iload_n F.1 zd_Mo_open_10 rfl rfl ?_
  refine zg_dup2 F.1 zd_Mo_open_11 rfl rfl ?_
  by_cases hi12 : a1 < 0 ∨ 5 ≤ a1.toNatClampNeg
  case pos => rw [if_pos hi12] at h; cases h
  rw [if_neg hi12] at h
  refine zg_ald11 F.1 (by decide) rfl hi12 a1.toNatClampNeg rfl (t3 45 a1.toNatClampNeg) rfl zd_Mo_open_12 ?_
  refine zg_iconst F.1 1 1 (by decide) zd_Mo_open_13 ?_
  refine zg_iadd F.1 zd_Mo_open_14 ?_
  by_cases hi15 : a1 < 0 ∨ 5 ≤ a1.toNatClampNeg
  case pos => rw [if_pos hi15] at h; cases h
  rw [if_neg hi15] at h
  refine zg_ast11 F.1 (by decide) rfl hi15 a1.toNatClampNeg rfl zd_Mo_open_15 ?_
  refine zg_aload_n F.1 zd_Mo_open_16 rfl rfl ?_
  refine zg_getI10 F.1 (by decide) rfl 12 (by decide) (t3 40 12) rfl (zp_q _ _ (by decide)) zwf_Mo_77 zd_Mo_open_17 ?_
  refine zg_if_eq F.1 32 zd_Mo_open_20 rfl (fun hc => ?_) (fun hc => ?_)
  · rw [if_pos hc] at h
    exact zg_le (zw_les (zw_les (zw_len (zw_les zw_le0)))) (zl_Mo_open_32 F a1 (zp t3 45 a1.toNatClampNeg ((t3 45 a1.toNatClampNeg) + 1)) h)
  · rw [if_neg hc] at h
    refine zg_aload_n F.1 zd_Mo_open_23 rfl rfl ?_
    refine zg_getR10 F.1 (by decide) rfl 4 (by decide) 41 rfl zwf_Mo_19 zd_Mo_open_24 ?_
    refine zg_iload_n F.1 zd_Mo_open_27 rfl rfl ?_
    by_cases hi28 : a1 < 0 ∨ 5 ≤ a1.toNatClampNeg
    case pos => rw [if_pos hi28] at h; cases h
    rw [if_neg hi28] at h
    refine zg_ald11 F.1 (by decide) rfl hi28 a1.toNatClampNeg rfl (t3 41 a1.toNatClampNeg) (zp_q _ _ (by decide)) zd_Mo_open_28 ?_
    refine zg_if_eq F.1 52 zd_Mo_open_29 rfl (fun hc => ?_) (fun hc => ?_)
    · rw [if_pos hc] at h
      exact zg_le (zw_les (zw_les (zw_len (zw_les zw_le0)))) (zl_Mo_open_52 F a1 (zp t3 45 a1.toNatClampNeg ((t3 45 a1.toNatClampNeg) + 1)) h)
    · rw [if_neg hc] at h
      exact zg_le (zw_les (zw_les (zw_len (zw_les zw_le0)))) (zl_Mo_open_32 F a1 (zp t3 45 a1.toNatClampNeg ((t3 45 a1.toNatClampNeg) + 1)) h)
theorem zk_Mo_open {E : zE} (hn : zw_n E 20) (N : Nat) (a1 : Int32) (a2 : Int32) (st : zS)  {rst : zS} (h : zf_Mo_open N a1 a2 st = some rst) : zw_M l zy_Mo_open (Cond.code zy_Mo_open zo_Mo_open 4 none :: zwAll) zrm_Mo_open E [.ref 40, .int a1, .int a2] st none rst :=
  zw_enter (by decide) rfl hn (Nat.le_of_ble_eq_true rfl) (by simp [Value.category]) 1 (fun p e s m args below meth c A F => zl_Mo_open_0 F a1 a2 st  h)
set_option maxRecDepth 100000 in
theorem zcal_Mo_closed : zw_cal zR10 zy_Mo_closed zo_Mo_closed 5 none 2 := ⟨zw_at 785 rfl rfl, zw_at 33 rfl rfl, zw_at 52 rfl rfl, zw_at 786 rfl rfl, rfl, by decide, by decide, by decide +kernel⟩
set_option maxRecDepth 100000 in
theorem zml_Mo_119 : Cond.methodLink zR10 119 zy_Mo_closed ∈ zwAll := zw_at 783 rfl rfl
set_option maxRecDepth 100000 in
theorem zcal_Mo_open : zw_cal zR10 zy_Mo_open zo_Mo_open 4 none 2 := ⟨zw_at 821 rfl rfl, zw_at 42 rfl rfl, zw_at 52 rfl rfl, zw_at 822 rfl rfl, rfl, by decide, by decide, by decide +kernel⟩
set_option maxRecDepth 100000 in
theorem zml_Mo_122 : Cond.methodLink zR10 122 zy_Mo_open ∈ zwAll := zw_at 819 rfl rfl
abbrev zrm_Mo_stepCar : Room := { frames := 4, cells := 0, slots := 0, locals := 100 }
def zf_Mo_stepCar_171 (N : Nat)   (st : zS) : Option zS := some st
set_option maxHeartbeats 4000000 in
theorem zl_Mo_stepCar_171 (F : zw_X p m c zo_Mo_stepCar 4 s args zR10 E 20 A meth none) {N : Nat} {rst : zS}    (st : zS)  (h : zf_Mo_stepCar_171 N   st = some rst) : zw_G p l e zrm_Mo_stepCar s m args below meth c (MQ below (zw_Q E none rst A) args s 0 0 A) E A 4 0 171 [none, none, none, none] [] st := by
  unfold zf_Mo_stepCar_171 at h
  cases h
  exact zg_vret F zd_Mo_stepCar_171
def zf_Mo_stepCar_123 (N : Nat)  (l1 : Int32) (s0 : Int32) (st : zS) : Option zS := (if l1 < 0 ∨ 5 ≤ l1.toNatClampNeg then none else (if l1 < 0 ∨ 5 ≤ l1.toNatClampNeg then none else (if s0 = 0 then (if l1 < 0 ∨ 5 ≤ l1.toNatClampNeg then none else (if ((st 44 l1.toNatClampNeg) - 1) = 0 then (if l1 < 0 ∨ 5 ≤ l1.toNatClampNeg then none else zf_Mo_stepCar_171 N (zp (zp st 44 l1.toNatClampNeg ((st 44 l1.toNatClampNeg) - 1)) 43 l1.toNatClampNeg 0)) else zf_Mo_stepCar_171 N (zp st 44 l1.toNatClampNeg ((st 44 l1.toNatClampNeg) - 1)))) else (if l1 < 0 ∨ 5 ≤ l1.toNatClampNeg then none else (if l1 < 0 ∨ 5 ≤ l1.toNatClampNeg then none else zf_Mo_stepCar_171 N (zp (zp (zp st 44 l1.toNatClampNeg ((st 44 l1.toNatClampNeg) - 1)) 43 l1.toNatClampNeg 1) 44 l1.toNatClampNeg 3))))))
set_option maxHeartbeats 4000000 in
theorem zl_Mo_stepCar_123 (F : zw_X p m c zo_Mo_stepCar 4 s args zR10 E 20 A meth none) {N : Nat} {rst : zS}   (l1 : Int32) (s0 : Int32) (st : zS)  (h : zf_Mo_stepCar_123 N  l1 s0 st = some rst) : zw_G p l e zrm_Mo_stepCar s m args below meth c (MQ below (zw_Q E none rst A) args s 0 0 A) E A 4 0 123 [some (.ref 40), some (.int l1), none, none] [.int s0] st := by
  unfold zf_Mo_stepCar_123 at h
  refine zg_istore_n F.1 [some (.ref 40), some (.int l1), none, some (.int s0)] zd_Mo_stepCar_123 rfl (by decide) rfl ?_
  refine zg_aload_n F.1 zd_Mo_stepCar_124 rfl rfl ?_
  refine zg_getR10 F.1 (by decide) rfl 7 (by decide) 44 rfl zwf_Mo_29 zd_Mo_stepCar_125 ?_
  refine zg_iload_n F.1 zd_Mo_stepCar_128 rfl rfl ?_
  refine zg_dup2 F.1 zd_Mo_stepCar_129 rfl rfl ?_
  by_cases hi130 : l1 < 0 ∨ 5 ≤ l1.toNatClampNeg
  case pos => rw [if_pos hi130] at h; cases h
  rw [if_neg hi130] at h
  refine zg_ald11 F.1 (by decide) rfl hi130 l1.toNatClampNeg rfl (st 44 l1.toNatClampNeg) rfl zd_Mo_stepCar_130 ?_
  refine zg_iconst F.1 1 1 (by decide) zd_Mo_stepCar_131 ?_
  refine zg_isub F.1 zd_Mo_stepCar_132 ?_
  by_cases hi133 : l1 < 0 ∨ 5 ≤ l1.toNatClampNeg
  case pos => rw [if_pos hi133] at h; cases h
  rw [if_neg hi133] at h
  refine zg_ast11 F.1 (by decide) rfl hi133 l1.toNatClampNeg rfl zd_Mo_stepCar_133 ?_
  refine zg_iload_n F.1 zd_Mo_stepCar_134 rfl rfl ?_
  refine zg_if_eq F.1 155 zd_Mo_stepCar_135 rfl (fun hc => ?_) (fun hc => ?_)
  · rw [if_pos hc] at h
    refine zg_aload_n F.1 zd_Mo_stepCar_155 rfl rfl ?_
    refine zg_getR10 F.1 (by decide) rfl 7 (by decide) 44 rfl zwf_Mo_29 zd_Mo_stepCar_156 ?_
    refine zg_iload_n F.1 zd_Mo_stepCar_159 rfl rfl ?_
    by_cases hi160 : l1 < 0 ∨ 5 ≤ l1.toNatClampNeg
    case pos => rw [if_pos hi160] at h; cases h
    rw [if_neg hi160] at h
    refine zg_ald11 F.1 (by decide) rfl hi160 l1.toNatClampNeg rfl ((st 44 l1.toNatClampNeg) - 1) (zp_s _ _ _ _) zd_Mo_stepCar_160 ?_
    refine zg_if_ne F.1 171 zd_Mo_stepCar_161 rfl (fun hc => ?_) (fun hc => ?_)
    · rw [if_neg hc] at h
      exact zg_le (zw_len (zw_len (zw_les (zw_len zw_le0)))) (zl_Mo_stepCar_171 F (zp st 44 l1.toNatClampNeg ((st 44 l1.toNatClampNeg) - 1)) h)
    · rw [if_pos hc] at h
      refine zg_aload_n F.1 zd_Mo_stepCar_164 rfl rfl ?_
      refine zg_getR10 F.1 (by decide) rfl 6 (by decide) 43 rfl zwf_Mo_26 zd_Mo_stepCar_165 ?_
      refine zg_iload_n F.1 zd_Mo_stepCar_168 rfl rfl ?_
      refine zg_iconst F.1 0 0 (by decide) zd_Mo_stepCar_169 ?_
      by_cases hi170 : l1 < 0 ∨ 5 ≤ l1.toNatClampNeg
      case pos => rw [if_pos hi170] at h; cases h
      rw [if_neg hi170] at h
      refine zg_ast11 F.1 (by decide) rfl hi170 l1.toNatClampNeg rfl zd_Mo_stepCar_170 ?_
      exact zg_le (zw_len (zw_len (zw_les (zw_len zw_le0)))) (zl_Mo_stepCar_171 F (zp (zp st 44 l1.toNatClampNeg ((st 44 l1.toNatClampNeg) - 1)) 43 l1.toNatClampNeg 0) h)
  · rw [if_neg hc] at h
    refine zg_aload_n F.1 zd_Mo_stepCar_138 rfl rfl ?_
    refine zg_getR10 F.1 (by decide) rfl 6 (by decide) 43 rfl zwf_Mo_26 zd_Mo_stepCar_139 ?_
    refine zg_iload_n F.1 zd_Mo_stepCar_142 rfl rfl ?_
    refine zg_iconst F.1 1 1 (by decide) zd_Mo_stepCar_143 ?_
    by_cases hi144 : l1 < 0 ∨ 5 ≤ l1.toNatClampNeg
    case pos => rw [if_pos hi144] at h; cases h
    rw [if_neg hi144] at h
    refine zg_ast11 F.1 (by decide) rfl hi144 l1.toNatClampNeg rfl zd_Mo_stepCar_144 ?_
    refine zg_aload_n F.1 zd_Mo_stepCar_145 rfl rfl ?_
    refine zg_getR10 F.1 (by decide) rfl 7 (by decide) 44 rfl zwf_Mo_29 zd_Mo_stepCar_146 ?_
    refine zg_iload_n F.1 zd_Mo_stepCar_149 rfl rfl ?_
    refine zg_iconst F.1 3 3 (by decide) zd_Mo_stepCar_150 ?_
    by_cases hi151 : l1 < 0 ∨ 5 ≤ l1.toNatClampNeg
    case pos => rw [if_pos hi151] at h; cases h
    rw [if_neg hi151] at h
    refine zg_ast11 F.1 (by decide) rfl hi151 l1.toNatClampNeg rfl zd_Mo_stepCar_151 ?_
    refine zg_goto F.1 171 zd_Mo_stepCar_152 rfl ?_
    exact zg_le (zw_len (zw_len (zw_les (zw_len zw_le0)))) (zl_Mo_stepCar_171 F (zp (zp (zp st 44 l1.toNatClampNeg ((st 44 l1.toNatClampNeg) - 1)) 43 l1.toNatClampNeg 1) 44 l1.toNatClampNeg 3) h)
def zf_Mo_stepCar_122 (N : Nat)  (l1 : Int32) (st : zS) : Option zS := zf_Mo_stepCar_123 N l1 0 st
set_option maxHeartbeats 4000000 in
theorem zl_Mo_stepCar_122 (F : zw_X p m c zo_Mo_stepCar 4 s args zR10 E 20 A meth none) {N : Nat} {rst : zS}   (l1 : Int32) (st : zS)  (h : zf_Mo_stepCar_122 N  l1 st = some rst) : zw_G p l e zrm_Mo_stepCar s m args below meth c (MQ below (zw_Q E none rst A) args s 0 0 A) E A 4 0 122 [some (.ref 40), some (.int l1), none, none] [] st := by
  unfold zf_Mo_stepCar_122 at h
  refine zg_iconst F.1 0 0 (by decide) zd_Mo_stepCar_122 ?_
  exact zl_Mo_stepCar_123 F l1 0 st h
def zf_Mo_stepCar (N : Nat) (a1 : Int32) (a2 : Int32) (st : zS) : Option zS := (if a1 < 0 ∨ 5 ≤ a1.toNatClampNeg then none else (if (st 43 a1.toNatClampNeg) = 0 then ((zf_Mo_closed N a1 a2 st).bind fun t35 => zf_Mo_stepCar_171 N t35) else (if (st 43 a1.toNatClampNeg) = 1 then (if a1 < 0 ∨ 5 ≤ a1.toNatClampNeg then none else (if a1 < 0 ∨ 5 ≤ a1.toNatClampNeg then none else (if a1 < 0 ∨ 5 ≤ a1.toNatClampNeg then none else (if ((st 44 a1.toNatClampNeg) - 1) = 0 then (if a1 < 0 ∨ 5 ≤ a1.toNatClampNeg then none else (if a1 < 0 ∨ 5 ≤ a1.toNatClampNeg then none else (if a1 < 0 ∨ 5 ≤ a1.toNatClampNeg then none else ((zf_Mo_exchange N a1 a2 (zp (zp (zp (zp st 44 a1.toNatClampNeg ((st 44 a1.toNatClampNeg) - 1)) 43 a1.toNatClampNeg 2) 44 a1.toNatClampNeg 4) 45 a1.toNatClampNeg 0)).bind fun t84 => zf_Mo_stepCar_171 N t84)))) else zf_Mo_stepCar_171 N (zp st 44 a1.toNatClampNeg ((st 44 a1.toNatClampNeg) - 1)))))) else (if (st 43 a1.toNatClampNeg) = 2 then ((zf_Mo_open N a1 a2 st).bind fun t93 => zf_Mo_stepCar_171 N t93) else (if a1 < 0 ∨ 5 ≤ a1.toNatClampNeg then none else (if (st 43 a1.toNatClampNeg) = 3 then (if a1 < 0 ∨ 5 ≤ a1.toNatClampNeg then none else (if (st 48 a1.toNatClampNeg) = 0 then zf_Mo_stepCar_122 N a1 st else zf_Mo_stepCar_123 N a1 1 st)) else zf_Mo_stepCar_122 N a1 st))))))
set_option maxHeartbeats 4000000 in
theorem zl_Mo_stepCar_0 (F : zw_X p m c zo_Mo_stepCar 4 s args zR10 E 20 A meth none) {N : Nat} {rst : zS} (a1 : Int32) (a2 : Int32) (st : zS)  (h : zf_Mo_stepCar N a1 a2 st = some rst) : zw_G p l e zrm_Mo_stepCar s m args below meth c (MQ below (zw_Q E none rst A) args s 0 0 A) E A 4 0 0 [some (.ref 40), some (.int a1), some (.int a2), none] [] st := by
  unfold zf_Mo_stepCar at h
  refine zg_aload_n F.1 zd_Mo_stepCar_0 rfl rfl ?_
  refine zg_getR10 F.1 (by decide) rfl 6 (by decide) 43 rfl zwf_Mo_26 zd_Mo_stepCar_1 ?_
  refine zg_iload_n F.1 zd_Mo_stepCar_4 rfl rfl ?_
  by_cases hi5 : a1 < 0 ∨ 5 ≤ a1.toNatClampNeg
  case pos => rw [if_pos hi5] at h; cases h
  rw [if_neg hi5] at h
  refine zg_ald11 F.1 (by decide) rfl hi5 a1.toNatClampNeg rfl (st 43 a1.toNatClampNeg) rfl zd_Mo_stepCar_5 ?_
  by_cases hc0 : (st 43 a1.toNatClampNeg) = 0
  · rw [if_pos hc0] at h
    refine zg_tabIn F.1 32 zd_Mo_stepCar_6 (by rw [hc0]; decide) (by rw [hc0]; decide) (by rw [hc0]; rfl) rfl ?_
    refine zg_aload_n F.1 zd_Mo_stepCar_32 rfl rfl ?_
    refine zg_iload_n F.1 zd_Mo_stepCar_33 rfl rfl ?_
    refine zg_iload_n F.1 zd_Mo_stepCar_34 rfl rfl ?_
    obtain ⟨t35, hc35, h⟩ := Option.bind_eq_some_iff.mp h
    refine zg_callV F (As := [.int a1, .int a2]) (rest := []) (zk_Mo_closed F.1.2.2 N a1 a2 st hc35) rfl rfl zcal_Mo_closed zml_Mo_119 ⟨(Nat.le_of_ble_eq_true rfl), (Nat.le_of_ble_eq_true rfl)⟩ (zg_rec10 F.1 (by decide) rfl) rfl (Nat.le_of_ble_eq_true rfl) ⟨(Nat.le_of_ble_eq_true rfl), (Nat.le_of_ble_eq_true rfl)⟩ zd_Mo_stepCar_35 ?_
    refine zg_goto F.1 171 zd_Mo_stepCar_38 rfl ?_
    exact zg_le (zw_len (zw_len (zw_len (zw_les zw_le0)))) (zl_Mo_stepCar_171 F t35 h)
  · rw [if_neg hc0] at h
    by_cases hc1 : (st 43 a1.toNatClampNeg) = 1
    · rw [if_pos hc1] at h
      refine zg_tabIn F.1 41 zd_Mo_stepCar_6 (by rw [hc1]; decide) (by rw [hc1]; decide) (by rw [hc1]; rfl) rfl ?_
      refine zg_aload_n F.1 zd_Mo_stepCar_41 rfl rfl ?_
      refine zg_getR10 F.1 (by decide) rfl 7 (by decide) 44 rfl zwf_Mo_29 zd_Mo_stepCar_42 ?_
      refine zg_iload_n F.1 zd_Mo_stepCar_45 rfl rfl ?_
      refine zg_dup2 F.1 zd_Mo_stepCar_46 rfl rfl ?_
      by_cases hi47 : a1 < 0 ∨ 5 ≤ a1.toNatClampNeg
      case pos => rw [if_pos hi47] at h; cases h
      rw [if_neg hi47] at h
      refine zg_ald11 F.1 (by decide) rfl hi47 a1.toNatClampNeg rfl (st 44 a1.toNatClampNeg) rfl zd_Mo_stepCar_47 ?_
      refine zg_iconst F.1 1 1 (by decide) zd_Mo_stepCar_48 ?_
      refine zg_isub F.1 zd_Mo_stepCar_49 ?_
      by_cases hi50 : a1 < 0 ∨ 5 ≤ a1.toNatClampNeg
      case pos => rw [if_pos hi50] at h; cases h
      rw [if_neg hi50] at h
      refine zg_ast11 F.1 (by decide) rfl hi50 a1.toNatClampNeg rfl zd_Mo_stepCar_50 ?_
      refine zg_aload_n F.1 zd_Mo_stepCar_51 rfl rfl ?_
      refine zg_getR10 F.1 (by decide) rfl 7 (by decide) 44 rfl zwf_Mo_29 zd_Mo_stepCar_52 ?_
      refine zg_iload_n F.1 zd_Mo_stepCar_55 rfl rfl ?_
      by_cases hi56 : a1 < 0 ∨ 5 ≤ a1.toNatClampNeg
      case pos => rw [if_pos hi56] at h; cases h
      rw [if_neg hi56] at h
      refine zg_ald11 F.1 (by decide) rfl hi56 a1.toNatClampNeg rfl ((st 44 a1.toNatClampNeg) - 1) (zp_s _ _ _ _) zd_Mo_stepCar_56 ?_
      refine zg_if_ne F.1 171 zd_Mo_stepCar_57 rfl (fun hc => ?_) (fun hc => ?_)
      · rw [if_neg hc] at h
        exact zg_le (zw_len (zw_len (zw_len (zw_les zw_le0)))) (zl_Mo_stepCar_171 F (zp st 44 a1.toNatClampNeg ((st 44 a1.toNatClampNeg) - 1)) h)
      · rw [if_pos hc] at h
        refine zg_aload_n F.1 zd_Mo_stepCar_60 rfl rfl ?_
        refine zg_getR10 F.1 (by decide) rfl 6 (by decide) 43 rfl zwf_Mo_26 zd_Mo_stepCar_61 ?_
        refine zg_iload_n F.1 zd_Mo_stepCar_64 rfl rfl ?_
        refine zg_iconst F.1 2 2 (by decide) zd_Mo_stepCar_65 ?_
        by_cases hi66 : a1 < 0 ∨ 5 ≤ a1.toNatClampNeg
        case pos => rw [if_pos hi66] at h; cases h
        rw [if_neg hi66] at h
        refine zg_ast11 F.1 (by decide) rfl hi66 a1.toNatClampNeg rfl zd_Mo_stepCar_66 ?_
        refine zg_aload_n F.1 zd_Mo_stepCar_67 rfl rfl ?_
        refine zg_getR10 F.1 (by decide) rfl 7 (by decide) 44 rfl zwf_Mo_29 zd_Mo_stepCar_68 ?_
        refine zg_iload_n F.1 zd_Mo_stepCar_71 rfl rfl ?_
        refine zg_iconst F.1 4 4 (by decide) zd_Mo_stepCar_72 ?_
        by_cases hi73 : a1 < 0 ∨ 5 ≤ a1.toNatClampNeg
        case pos => rw [if_pos hi73] at h; cases h
        rw [if_neg hi73] at h
        refine zg_ast11 F.1 (by decide) rfl hi73 a1.toNatClampNeg rfl zd_Mo_stepCar_73 ?_
        refine zg_aload_n F.1 zd_Mo_stepCar_74 rfl rfl ?_
        refine zg_getR10 F.1 (by decide) rfl 8 (by decide) 45 rfl zwf_Mo_32 zd_Mo_stepCar_75 ?_
        refine zg_iload_n F.1 zd_Mo_stepCar_78 rfl rfl ?_
        refine zg_iconst F.1 0 0 (by decide) zd_Mo_stepCar_79 ?_
        by_cases hi80 : a1 < 0 ∨ 5 ≤ a1.toNatClampNeg
        case pos => rw [if_pos hi80] at h; cases h
        rw [if_neg hi80] at h
        refine zg_ast11 F.1 (by decide) rfl hi80 a1.toNatClampNeg rfl zd_Mo_stepCar_80 ?_
        refine zg_aload_n F.1 zd_Mo_stepCar_81 rfl rfl ?_
        refine zg_iload_n F.1 zd_Mo_stepCar_82 rfl rfl ?_
        refine zg_iload_n F.1 zd_Mo_stepCar_83 rfl rfl ?_
        obtain ⟨t84, hc84, h⟩ := Option.bind_eq_some_iff.mp h
        refine zg_callV F (As := [.int a1, .int a2]) (rest := []) (zk_Mo_exchange F.1.2.2 N a1 a2 (zp (zp (zp (zp st 44 a1.toNatClampNeg ((st 44 a1.toNatClampNeg) - 1)) 43 a1.toNatClampNeg 2) 44 a1.toNatClampNeg 4) 45 a1.toNatClampNeg 0) hc84) rfl rfl zcal_Mo_exchange zml_Mo_115 ⟨(Nat.le_of_ble_eq_true rfl), (Nat.le_of_ble_eq_true rfl)⟩ (zg_rec10 F.1 (by decide) rfl) rfl (Nat.le_of_ble_eq_true rfl) ⟨(Nat.le_of_ble_eq_true rfl), (Nat.le_of_ble_eq_true rfl)⟩ zd_Mo_stepCar_84 ?_
        refine zg_goto F.1 171 zd_Mo_stepCar_87 rfl ?_
        exact zg_le (zw_len (zw_len (zw_len (zw_les zw_le0)))) (zl_Mo_stepCar_171 F t84 h)
    · rw [if_neg hc1] at h
      by_cases hc2 : (st 43 a1.toNatClampNeg) = 2
      · rw [if_pos hc2] at h
        refine zg_tabIn F.1 90 zd_Mo_stepCar_6 (by rw [hc2]; decide) (by rw [hc2]; decide) (by rw [hc2]; rfl) rfl ?_
        refine zg_aload_n F.1 zd_Mo_stepCar_90 rfl rfl ?_
        refine zg_iload_n F.1 zd_Mo_stepCar_91 rfl rfl ?_
        refine zg_iload_n F.1 zd_Mo_stepCar_92 rfl rfl ?_
        obtain ⟨t93, hc93, h⟩ := Option.bind_eq_some_iff.mp h
        refine zg_callV F (As := [.int a1, .int a2]) (rest := []) (zk_Mo_open F.1.2.2 N a1 a2 st hc93) rfl rfl zcal_Mo_open zml_Mo_122 ⟨(Nat.le_of_ble_eq_true rfl), (Nat.le_of_ble_eq_true rfl)⟩ (zg_rec10 F.1 (by decide) rfl) rfl (Nat.le_of_ble_eq_true rfl) ⟨(Nat.le_of_ble_eq_true rfl), (Nat.le_of_ble_eq_true rfl)⟩ zd_Mo_stepCar_93 ?_
        refine zg_goto F.1 171 zd_Mo_stepCar_96 rfl ?_
        exact zg_le (zw_len (zw_len (zw_len (zw_les zw_le0)))) (zl_Mo_stepCar_171 F t93 h)
      · rw [if_neg hc2] at h
        refine zg_tabOut F.1 99 zd_Mo_stepCar_6 (zw_sw0_2 hc0 hc1 hc2) rfl ?_
        refine zg_aload_n F.1 zd_Mo_stepCar_99 rfl rfl ?_
        refine zg_getR10 F.1 (by decide) rfl 6 (by decide) 43 rfl zwf_Mo_26 zd_Mo_stepCar_100 ?_
        refine zg_iload_n F.1 zd_Mo_stepCar_103 rfl rfl ?_
        by_cases hi104 : a1 < 0 ∨ 5 ≤ a1.toNatClampNeg
        case pos => rw [if_pos hi104] at h; cases h
        rw [if_neg hi104] at h
        refine zg_ald11 F.1 (by decide) rfl hi104 a1.toNatClampNeg rfl (st 43 a1.toNatClampNeg) rfl zd_Mo_stepCar_104 ?_
        refine zg_iconst F.1 3 3 (by decide) zd_Mo_stepCar_105 ?_
        refine zg_icmp_ne F.1 122 zd_Mo_stepCar_106 rfl (fun hc => ?_) (fun hc => ?_)
        · rw [if_neg hc] at h
          exact zg_le (zw_les (zw_les (zw_len (zw_les zw_le0)))) (zl_Mo_stepCar_122 F a1 st h)
        · rw [if_pos hc] at h
          refine zg_aload_n F.1 zd_Mo_stepCar_109 rfl rfl ?_
          refine zg_getR10 F.1 (by decide) rfl 11 (by decide) 48 rfl zwf_Mo_42 zd_Mo_stepCar_110 ?_
          refine zg_iload_n F.1 zd_Mo_stepCar_113 rfl rfl ?_
          by_cases hi114 : a1 < 0 ∨ 5 ≤ a1.toNatClampNeg
          case pos => rw [if_pos hi114] at h; cases h
          rw [if_neg hi114] at h
          refine zg_ald12 F.1 (by decide) rfl hi114 a1.toNatClampNeg rfl (st 48 a1.toNatClampNeg) rfl zd_Mo_stepCar_114 ?_
          refine zg_if_eq F.1 122 zd_Mo_stepCar_115 rfl (fun hc => ?_) (fun hc => ?_)
          · rw [if_pos hc] at h
            exact zg_le (zw_les (zw_les (zw_len (zw_les zw_le0)))) (zl_Mo_stepCar_122 F a1 st h)
          · rw [if_neg hc] at h
            refine zg_iconst F.1 1 1 (by decide) zd_Mo_stepCar_118 ?_
            refine zg_goto F.1 123 zd_Mo_stepCar_119 rfl ?_
            exact zg_le (zw_les (zw_les (zw_len (zw_les zw_le0)))) (zl_Mo_stepCar_123 F a1 1 st h)
theorem zk_Mo_stepCar {E : zE} (hn : zw_n E 20) (N : Nat) (a1 : Int32) (a2 : Int32) (st : zS)  {rst : zS} (h : zf_Mo_stepCar N a1 a2 st = some rst) : zw_M l zy_Mo_stepCar (Cond.code zy_Mo_stepCar zo_Mo_stepCar 4 none :: zwAll) zrm_Mo_stepCar E [.ref 40, .int a1, .int a2] st none rst :=
  zw_enter (by decide) rfl hn (Nat.le_of_ble_eq_true rfl) (by simp [Value.category]) 1 (fun p e s m args below meth c A F => zl_Mo_stepCar_0 F a1 a2 st  h)
abbrev zrm_Mo_copy : Room := { frames := 0, cells := 0, slots := 0, locals := 0 }
def zf_Mo_copy_120 (N : Nat) (r74 : Int32 → Int32 → zS → Option zS) (l1 : Int32) (l2 : Int32) (s0 : Int32) (s1 : Int32) (st : zS) : Option zS := (if s1 < 0 ∨ 48 ≤ s1.toNatClampNeg then none else (if l2 < 0 ∨ 48 ≤ l2.toNatClampNeg then none else (if (24 + l2) < 0 ∨ 48 ≤ (24 + l2).toNatClampNeg then none else (if l2 < 0 ∨ 48 ≤ l2.toNatClampNeg then none else (if (24 + l2) < 0 ∨ 48 ≤ (24 + l2).toNatClampNeg then none else r74 l1 (l2 + 1) (zp (zp (zp st 50 s1.toNatClampNeg s0) 51 ((24 + l2).toNatClampNeg) (st 51 l2.toNatClampNeg)) 52 ((24 + l2).toNatClampNeg) (st 52 l2.toNatClampNeg)))))))
set_option maxHeartbeats 4000000 in
theorem zl_Mo_copy_120 (F : zw_X p m c zo_Mo_copy 3 s args zR10 E 20 A meth none) {N : Nat} {rst : zS} {r74 : Int32 → Int32 → zS → Option zS} (hr74 : ∀ (l1 : Int32) (l2 : Int32) (st : zS) , r74 l1 l2 st = some rst → zw_G p l e zrm_Mo_copy s m args below meth c (MQ below (zw_Q E none rst A) args s 0 0 A) E A 3 0 74 [some (.ref 40), some (.int l1), some (.int l2)] [] st) (l1 : Int32) (l2 : Int32) (s0 : Int32) (s1 : Int32) (st : zS)  (h : zf_Mo_copy_120 N r74 l1 l2 s0 s1 st = some rst) : zw_G p l e zrm_Mo_copy s m args below meth c (MQ below (zw_Q E none rst A) args s 0 0 A) E A 3 0 120 [some (.ref 40), some (.int l1), some (.int l2)] [.int s0, .int s1, .ref 50] st := by
  unfold zf_Mo_copy_120 at h
  by_cases hi120 : s1 < 0 ∨ 48 ≤ s1.toNatClampNeg
  case pos => rw [if_pos hi120] at h; cases h
  rw [if_neg hi120] at h
  refine zg_ast13 F.1 (by decide) rfl hi120 s1.toNatClampNeg rfl zd_Mo_copy_120 ?_
  refine zg_aload_n F.1 zd_Mo_copy_121 rfl rfl ?_
  refine zg_getR10 F.1 (by decide) rfl 15 (by decide) 51 rfl zwf_Mo_51 zd_Mo_copy_122 ?_
  refine zg_bipush F.1 24 24 (by decide) zd_Mo_copy_125 ?_
  refine zg_iload_n F.1 zd_Mo_copy_127 rfl rfl ?_
  refine zg_iadd F.1 zd_Mo_copy_128 ?_
  refine zg_aload_n F.1 zd_Mo_copy_129 rfl rfl ?_
  refine zg_getR10 F.1 (by decide) rfl 15 (by decide) 51 rfl zwf_Mo_51 zd_Mo_copy_130 ?_
  refine zg_iload_n F.1 zd_Mo_copy_133 rfl rfl ?_
  by_cases hi134 : l2 < 0 ∨ 48 ≤ l2.toNatClampNeg
  case pos => rw [if_pos hi134] at h; cases h
  rw [if_neg hi134] at h
  refine zg_ald13 F.1 (by decide) rfl hi134 l2.toNatClampNeg rfl (st 51 l2.toNatClampNeg) (zp_q _ _ (by decide)) zd_Mo_copy_134 ?_
  by_cases hi135 : (24 + l2) < 0 ∨ 48 ≤ (24 + l2).toNatClampNeg
  case pos => rw [if_pos hi135] at h; cases h
  rw [if_neg hi135] at h
  refine zg_ast13 F.1 (by decide) rfl hi135 ((24 + l2).toNatClampNeg) rfl zd_Mo_copy_135 ?_
  refine zg_aload_n F.1 zd_Mo_copy_136 rfl rfl ?_
  refine zg_getR10 F.1 (by decide) rfl 16 (by decide) 52 rfl zwf_Mo_54 zd_Mo_copy_137 ?_
  refine zg_bipush F.1 24 24 (by decide) zd_Mo_copy_140 ?_
  refine zg_iload_n F.1 zd_Mo_copy_142 rfl rfl ?_
  refine zg_iadd F.1 zd_Mo_copy_143 ?_
  refine zg_aload_n F.1 zd_Mo_copy_144 rfl rfl ?_
  refine zg_getR10 F.1 (by decide) rfl 16 (by decide) 52 rfl zwf_Mo_54 zd_Mo_copy_145 ?_
  refine zg_iload_n F.1 zd_Mo_copy_148 rfl rfl ?_
  by_cases hi149 : l2 < 0 ∨ 48 ≤ l2.toNatClampNeg
  case pos => rw [if_pos hi149] at h; cases h
  rw [if_neg hi149] at h
  refine zg_ald13 F.1 (by decide) rfl hi149 l2.toNatClampNeg rfl (st 52 l2.toNatClampNeg) ((zp_q _ _ (by decide)).trans (zp_q _ _ (by decide))) zd_Mo_copy_149 ?_
  by_cases hi150 : (24 + l2) < 0 ∨ 48 ≤ (24 + l2).toNatClampNeg
  case pos => rw [if_pos hi150] at h; cases h
  rw [if_neg hi150] at h
  refine zg_ast13 F.1 (by decide) rfl hi150 ((24 + l2).toNatClampNeg) rfl zd_Mo_copy_150 ?_
  refine zg_iinc F.1 (l2 + 1) [some (.ref 40), some (.int l1), some (.int (l2 + 1))] zd_Mo_copy_151 rfl (by rw [lit1]) (by decide) rfl ?_
  refine zg_goto F.1 74 zd_Mo_copy_154 rfl ?_
  exact hr74 l1 (l2 + 1) (zp (zp (zp st 50 s1.toNatClampNeg s0) 51 ((24 + l2).toNatClampNeg) (st 51 l2.toNatClampNeg)) 52 ((24 + l2).toNatClampNeg) (st 52 l2.toNatClampNeg)) h
def zb_Mo_copy_74 (N : Nat) (r74 : Int32 → Int32 → zS → Option zS) (l1 : Int32) (l2 : Int32) (st : zS) : Option zS := (if (st 40 19) ≤ l2 then some st else (if l2 < 0 ∨ 48 ≤ l2.toNatClampNeg then none else (if (24 + l2) < 0 ∨ 48 ≤ (24 + l2).toNatClampNeg then none else (if l2 < 0 ∨ 48 ≤ l2.toNatClampNeg then none else (if (st 50 l2.toNatClampNeg) = l1 then zf_Mo_copy_120 N r74 l1 l2 4 (24 + l2) (zp st 49 ((24 + l2).toNatClampNeg) (st 49 l2.toNatClampNeg)) else zf_Mo_copy_120 N r74 l1 l2 (-1) (24 + l2) (zp st 49 ((24 + l2).toNatClampNeg) (st 49 l2.toNatClampNeg)))))))
set_option maxHeartbeats 4000000 in
theorem zlb_Mo_copy_74 (F : zw_X p m c zo_Mo_copy 3 s args zR10 E 20 A meth none) {N : Nat} {rst : zS} {r74 : Int32 → Int32 → zS → Option zS} (hr74 : ∀ (l1 : Int32) (l2 : Int32) (st : zS) , r74 l1 l2 st = some rst → zw_G p l e zrm_Mo_copy s m args below meth c (MQ below (zw_Q E none rst A) args s 0 0 A) E A 3 0 74 [some (.ref 40), some (.int l1), some (.int l2)] [] st) (l1 : Int32) (l2 : Int32) (st : zS)  (h : zb_Mo_copy_74 N r74 l1 l2 st = some rst) : zw_G p l e zrm_Mo_copy s m args below meth c (MQ below (zw_Q E none rst A) args s 0 0 A) E A 3 0 74 [some (.ref 40), some (.int l1), some (.int l2)] [] st := by
  unfold zb_Mo_copy_74 at h
  refine zg_iload_n F.1 zd_Mo_copy_74 rfl rfl ?_
  refine zg_aload_n F.1 zd_Mo_copy_75 rfl rfl ?_
  refine zg_getI10 F.1 (by decide) rfl 19 (by decide) (st 40 19) rfl rfl zwf_Mo_81 zd_Mo_copy_76 ?_
  refine zg_icmp_ge F.1 157 zd_Mo_copy_79 rfl (fun hc => ?_) (fun hc => ?_)
  · rw [if_pos hc] at h
    cases h
    exact zg_vret F zd_Mo_copy_157
  · rw [if_neg hc] at h
    refine zg_aload_n F.1 zd_Mo_copy_82 rfl rfl ?_
    refine zg_getR10 F.1 (by decide) rfl 13 (by decide) 49 rfl zwf_Mo_45 zd_Mo_copy_83 ?_
    refine zg_bipush F.1 24 24 (by decide) zd_Mo_copy_86 ?_
    refine zg_iload_n F.1 zd_Mo_copy_88 rfl rfl ?_
    refine zg_iadd F.1 zd_Mo_copy_89 ?_
    refine zg_aload_n F.1 zd_Mo_copy_90 rfl rfl ?_
    refine zg_getR10 F.1 (by decide) rfl 13 (by decide) 49 rfl zwf_Mo_45 zd_Mo_copy_91 ?_
    refine zg_iload_n F.1 zd_Mo_copy_94 rfl rfl ?_
    by_cases hi95 : l2 < 0 ∨ 48 ≤ l2.toNatClampNeg
    case pos => rw [if_pos hi95] at h; cases h
    rw [if_neg hi95] at h
    refine zg_ald13 F.1 (by decide) rfl hi95 l2.toNatClampNeg rfl (st 49 l2.toNatClampNeg) rfl zd_Mo_copy_95 ?_
    by_cases hi96 : (24 + l2) < 0 ∨ 48 ≤ (24 + l2).toNatClampNeg
    case pos => rw [if_pos hi96] at h; cases h
    rw [if_neg hi96] at h
    refine zg_ast13 F.1 (by decide) rfl hi96 ((24 + l2).toNatClampNeg) rfl zd_Mo_copy_96 ?_
    refine zg_aload_n F.1 zd_Mo_copy_97 rfl rfl ?_
    refine zg_getR10 F.1 (by decide) rfl 14 (by decide) 50 rfl zwf_Mo_48 zd_Mo_copy_98 ?_
    refine zg_bipush F.1 24 24 (by decide) zd_Mo_copy_101 ?_
    refine zg_iload_n F.1 zd_Mo_copy_103 rfl rfl ?_
    refine zg_iadd F.1 zd_Mo_copy_104 ?_
    refine zg_aload_n F.1 zd_Mo_copy_105 rfl rfl ?_
    refine zg_getR10 F.1 (by decide) rfl 14 (by decide) 50 rfl zwf_Mo_48 zd_Mo_copy_106 ?_
    refine zg_iload_n F.1 zd_Mo_copy_109 rfl rfl ?_
    by_cases hi110 : l2 < 0 ∨ 48 ≤ l2.toNatClampNeg
    case pos => rw [if_pos hi110] at h; cases h
    rw [if_neg hi110] at h
    refine zg_ald13 F.1 (by decide) rfl hi110 l2.toNatClampNeg rfl (st 50 l2.toNatClampNeg) (zp_q _ _ (by decide)) zd_Mo_copy_110 ?_
    refine zg_iload_n F.1 zd_Mo_copy_111 rfl rfl ?_
    refine zg_icmp_ne F.1 119 zd_Mo_copy_112 rfl (fun hc => ?_) (fun hc => ?_)
    · rw [if_neg hc] at h
      refine zg_iconst F.1 (-1) (-1) (by decide) zd_Mo_copy_119 ?_
      exact zl_Mo_copy_120 F hr74 l1 l2 (-1) (24 + l2) (zp st 49 ((24 + l2).toNatClampNeg) (st 49 l2.toNatClampNeg)) h
    · rw [if_pos hc] at h
      refine zg_iconst F.1 4 4 (by decide) zd_Mo_copy_115 ?_
      refine zg_goto F.1 120 zd_Mo_copy_116 rfl ?_
      exact zl_Mo_copy_120 F hr74 l1 l2 4 (24 + l2) (zp st 49 ((24 + l2).toNatClampNeg) (st 49 l2.toNatClampNeg)) h
def zf_Mo_copy_74 (N : Nat)  : Nat → Int32 → Int32 → zS → Option zS
  | 0, _, _, _ => none
  | n + 1, l1, l2, st => zb_Mo_copy_74 N  (zf_Mo_copy_74 N  n) l1 l2 st
theorem zl_Mo_copy_74 (F : zw_X p m c zo_Mo_copy 3 s args zR10 E 20 A meth none) {N : Nat} {rst : zS}   : ∀ (n : Nat) (l1 : Int32) (l2 : Int32) (st : zS)  (h : zf_Mo_copy_74 N  n l1 l2 st = some rst), zw_G p l e zrm_Mo_copy s m args below meth c (MQ below (zw_Q E none rst A) args s 0 0 A) E A 3 0 74 [some (.ref 40), some (.int l1), some (.int l2)] [] st := by
  intro n
  induction n with
  | zero => intro l1 l2 st  h; cases h
  | succ n ih => intro l1 l2 st  h; exact zlb_Mo_copy_74 F  ih l1 l2 st  h
def zf_Mo_copy (N : Nat) (a1 : Int32) (st : zS) : Option zS := (if a1 < 0 ∨ 5 ≤ a1.toNatClampNeg then none else (if a1 < 0 ∨ 5 ≤ a1.toNatClampNeg then none else (if a1 < 0 ∨ 5 ≤ a1.toNatClampNeg then none else (if a1 < 0 ∨ 5 ≤ a1.toNatClampNeg then none else (if a1 < 0 ∨ 5 ≤ a1.toNatClampNeg then none else (if a1 < 0 ∨ 5 ≤ a1.toNatClampNeg then none else (if (st 48 a1.toNatClampNeg) = 0 ∨ (st 48 a1.toNatClampNeg) = 1 then zf_Mo_copy_74 N N a1 0 (zp (zp (zp (zp (zp (zp st 41 4 (st 41 a1.toNatClampNeg)) 42 4 (st 42 a1.toNatClampNeg)) 43 4 (st 43 a1.toNatClampNeg)) 44 4 (st 44 a1.toNatClampNeg)) 45 4 (st 45 a1.toNatClampNeg)) 48 4 (st 48 a1.toNatClampNeg)) else none)))))))
set_option maxHeartbeats 4000000 in
theorem zl_Mo_copy_0 (F : zw_X p m c zo_Mo_copy 3 s args zR10 E 20 A meth none) {N : Nat} {rst : zS} (a1 : Int32) (st : zS)  (h : zf_Mo_copy N a1 st = some rst) : zw_G p l e zrm_Mo_copy s m args below meth c (MQ below (zw_Q E none rst A) args s 0 0 A) E A 3 0 0 [some (.ref 40), some (.int a1), none] [] st := by
  unfold zf_Mo_copy at h
  refine zg_aload_n F.1 zd_Mo_copy_0 rfl rfl ?_
  refine zg_getR10 F.1 (by decide) rfl 4 (by decide) 41 rfl zwf_Mo_19 zd_Mo_copy_1 ?_
  refine zg_iconst F.1 4 4 (by decide) zd_Mo_copy_4 ?_
  refine zg_aload_n F.1 zd_Mo_copy_5 rfl rfl ?_
  refine zg_getR10 F.1 (by decide) rfl 4 (by decide) 41 rfl zwf_Mo_19 zd_Mo_copy_6 ?_
  refine zg_iload_n F.1 zd_Mo_copy_9 rfl rfl ?_
  by_cases hi10 : a1 < 0 ∨ 5 ≤ a1.toNatClampNeg
  case pos => rw [if_pos hi10] at h; cases h
  rw [if_neg hi10] at h
  refine zg_ald11 F.1 (by decide) rfl hi10 a1.toNatClampNeg rfl (st 41 a1.toNatClampNeg) rfl zd_Mo_copy_10 ?_
  refine zg_ast11 F.1 (by decide) rfl (by unfold vp_in; decide) 4 (by decide) zd_Mo_copy_11 ?_
  refine zg_aload_n F.1 zd_Mo_copy_12 rfl rfl ?_
  refine zg_getR10 F.1 (by decide) rfl 5 (by decide) 42 rfl zwf_Mo_23 zd_Mo_copy_13 ?_
  refine zg_iconst F.1 4 4 (by decide) zd_Mo_copy_16 ?_
  refine zg_aload_n F.1 zd_Mo_copy_17 rfl rfl ?_
  refine zg_getR10 F.1 (by decide) rfl 5 (by decide) 42 rfl zwf_Mo_23 zd_Mo_copy_18 ?_
  refine zg_iload_n F.1 zd_Mo_copy_21 rfl rfl ?_
  by_cases hi22 : a1 < 0 ∨ 5 ≤ a1.toNatClampNeg
  case pos => rw [if_pos hi22] at h; cases h
  rw [if_neg hi22] at h
  refine zg_ald11 F.1 (by decide) rfl hi22 a1.toNatClampNeg rfl (st 42 a1.toNatClampNeg) (zp_q _ _ (by decide)) zd_Mo_copy_22 ?_
  refine zg_ast11 F.1 (by decide) rfl (by unfold vp_in; decide) 4 (by decide) zd_Mo_copy_23 ?_
  refine zg_aload_n F.1 zd_Mo_copy_24 rfl rfl ?_
  refine zg_getR10 F.1 (by decide) rfl 6 (by decide) 43 rfl zwf_Mo_26 zd_Mo_copy_25 ?_
  refine zg_iconst F.1 4 4 (by decide) zd_Mo_copy_28 ?_
  refine zg_aload_n F.1 zd_Mo_copy_29 rfl rfl ?_
  refine zg_getR10 F.1 (by decide) rfl 6 (by decide) 43 rfl zwf_Mo_26 zd_Mo_copy_30 ?_
  refine zg_iload_n F.1 zd_Mo_copy_33 rfl rfl ?_
  by_cases hi34 : a1 < 0 ∨ 5 ≤ a1.toNatClampNeg
  case pos => rw [if_pos hi34] at h; cases h
  rw [if_neg hi34] at h
  refine zg_ald11 F.1 (by decide) rfl hi34 a1.toNatClampNeg rfl (st 43 a1.toNatClampNeg) ((zp_q _ _ (by decide)).trans (zp_q _ _ (by decide))) zd_Mo_copy_34 ?_
  refine zg_ast11 F.1 (by decide) rfl (by unfold vp_in; decide) 4 (by decide) zd_Mo_copy_35 ?_
  refine zg_aload_n F.1 zd_Mo_copy_36 rfl rfl ?_
  refine zg_getR10 F.1 (by decide) rfl 7 (by decide) 44 rfl zwf_Mo_29 zd_Mo_copy_37 ?_
  refine zg_iconst F.1 4 4 (by decide) zd_Mo_copy_40 ?_
  refine zg_aload_n F.1 zd_Mo_copy_41 rfl rfl ?_
  refine zg_getR10 F.1 (by decide) rfl 7 (by decide) 44 rfl zwf_Mo_29 zd_Mo_copy_42 ?_
  refine zg_iload_n F.1 zd_Mo_copy_45 rfl rfl ?_
  by_cases hi46 : a1 < 0 ∨ 5 ≤ a1.toNatClampNeg
  case pos => rw [if_pos hi46] at h; cases h
  rw [if_neg hi46] at h
  refine zg_ald11 F.1 (by decide) rfl hi46 a1.toNatClampNeg rfl (st 44 a1.toNatClampNeg) ((zp_q _ _ (by decide)).trans ((zp_q _ _ (by decide)).trans (zp_q _ _ (by decide)))) zd_Mo_copy_46 ?_
  refine zg_ast11 F.1 (by decide) rfl (by unfold vp_in; decide) 4 (by decide) zd_Mo_copy_47 ?_
  refine zg_aload_n F.1 zd_Mo_copy_48 rfl rfl ?_
  refine zg_getR10 F.1 (by decide) rfl 8 (by decide) 45 rfl zwf_Mo_32 zd_Mo_copy_49 ?_
  refine zg_iconst F.1 4 4 (by decide) zd_Mo_copy_52 ?_
  refine zg_aload_n F.1 zd_Mo_copy_53 rfl rfl ?_
  refine zg_getR10 F.1 (by decide) rfl 8 (by decide) 45 rfl zwf_Mo_32 zd_Mo_copy_54 ?_
  refine zg_iload_n F.1 zd_Mo_copy_57 rfl rfl ?_
  by_cases hi58 : a1 < 0 ∨ 5 ≤ a1.toNatClampNeg
  case pos => rw [if_pos hi58] at h; cases h
  rw [if_neg hi58] at h
  refine zg_ald11 F.1 (by decide) rfl hi58 a1.toNatClampNeg rfl (st 45 a1.toNatClampNeg) ((zp_q _ _ (by decide)).trans ((zp_q _ _ (by decide)).trans ((zp_q _ _ (by decide)).trans (zp_q _ _ (by decide))))) zd_Mo_copy_58 ?_
  refine zg_ast11 F.1 (by decide) rfl (by unfold vp_in; decide) 4 (by decide) zd_Mo_copy_59 ?_
  refine zg_aload_n F.1 zd_Mo_copy_60 rfl rfl ?_
  refine zg_getR10 F.1 (by decide) rfl 11 (by decide) 48 rfl zwf_Mo_42 zd_Mo_copy_61 ?_
  refine zg_iconst F.1 4 4 (by decide) zd_Mo_copy_64 ?_
  refine zg_aload_n F.1 zd_Mo_copy_65 rfl rfl ?_
  refine zg_getR10 F.1 (by decide) rfl 11 (by decide) 48 rfl zwf_Mo_42 zd_Mo_copy_66 ?_
  refine zg_iload_n F.1 zd_Mo_copy_69 rfl rfl ?_
  by_cases hi70 : a1 < 0 ∨ 5 ≤ a1.toNatClampNeg
  case pos => rw [if_pos hi70] at h; cases h
  rw [if_neg hi70] at h
  refine zg_ald12 F.1 (by decide) rfl hi70 a1.toNatClampNeg rfl (st 48 a1.toNatClampNeg) ((zp_q _ _ (by decide)).trans ((zp_q _ _ (by decide)).trans ((zp_q _ _ (by decide)).trans ((zp_q _ _ (by decide)).trans (zp_q _ _ (by decide)))))) zd_Mo_copy_70 ?_
  by_cases hb71 : (st 48 a1.toNatClampNeg) = 0 ∨ (st 48 a1.toNatClampNeg) = 1
  case neg => rw [if_neg hb71] at h; cases h
  rw [if_pos hb71] at h
  refine zg_ast12 F.1 (by decide) rfl (by unfold vp_in; decide) (zw_nv hb71) 4 (by decide) zd_Mo_copy_71 ?_
  refine zg_iconst F.1 0 0 (by decide) zd_Mo_copy_72 ?_
  refine zg_istore_n F.1 [some (.ref 40), some (.int a1), some (.int 0)] zd_Mo_copy_73 rfl (by decide) rfl ?_
  exact zl_Mo_copy_74 F N a1 0 (zp (zp (zp (zp (zp (zp st 41 4 (st 41 a1.toNatClampNeg)) 42 4 (st 42 a1.toNatClampNeg)) 43 4 (st 43 a1.toNatClampNeg)) 44 4 (st 44 a1.toNatClampNeg)) 45 4 (st 45 a1.toNatClampNeg)) 48 4 (st 48 a1.toNatClampNeg)) h
theorem zk_Mo_copy {E : zE} (hn : zw_n E 20) (N : Nat) (a1 : Int32) (st : zS)  {rst : zS} (h : zf_Mo_copy N a1 st = some rst) : zw_M l zy_Mo_copy (Cond.code zy_Mo_copy zo_Mo_copy 3 none :: zwAll) zrm_Mo_copy E [.ref 40, .int a1] st none rst :=
  zw_enter (by decide) rfl hn (Nat.le_of_ble_eq_true rfl) (by simp [Value.category]) 1 (fun p e s m args below meth c A F => zl_Mo_copy_0 F a1 st  h)
abbrev zrm_Mo_isRider : Room := { frames := 0, cells := 0, slots := 0, locals := 0 }
def zf_Mo_isRider_33 (N : Nat)  (s0 : Int32) (st : zS) : Option (Int32 × zS) := (if s0 = 0 ∨ s0 = 1 then some (s0, st) else none)
set_option maxHeartbeats 4000000 in
theorem zl_Mo_isRider_33 (F : zw_X p m c zo_Mo_isRider 2 s args zR10 E 20 A meth (some .boolean)) {N : Nat} {rv : Int32} {rst : zS}   (s0 : Int32) (st : zS)  (h : zf_Mo_isRider_33 N  s0 st = some (rv, rst)) : zw_G p l e zrm_Mo_isRider s m args below meth c (MQ below (zw_Q E (some (.int rv)) rst A) args s 0 0 A) E A 2 0 33 [none, none] [.int s0] st := by
  unfold zf_Mo_isRider_33 at h
  by_cases hb33 : s0 = 0 ∨ s0 = 1
  case neg => rw [if_neg hb33] at h; cases h
  rw [if_pos hb33] at h
  cases h
  exact zg_zret F hb33 zd_Mo_isRider_33
def zf_Mo_isRider_28 (N : Nat)   (st : zS) : Option (Int32 × zS) := zf_Mo_isRider_33 N 1 st
set_option maxHeartbeats 4000000 in
theorem zl_Mo_isRider_28 (F : zw_X p m c zo_Mo_isRider 2 s args zR10 E 20 A meth (some .boolean)) {N : Nat} {rv : Int32} {rst : zS}    (st : zS)  (h : zf_Mo_isRider_28 N   st = some (rv, rst)) : zw_G p l e zrm_Mo_isRider s m args below meth c (MQ below (zw_Q E (some (.int rv)) rst A) args s 0 0 A) E A 2 0 28 [none, none] [] st := by
  unfold zf_Mo_isRider_28 at h
  refine zg_iconst F.1 1 1 (by decide) zd_Mo_isRider_28 ?_
  refine zg_goto F.1 33 zd_Mo_isRider_29 rfl ?_
  exact zl_Mo_isRider_33 F 1 st h
def zf_Mo_isRider_32 (N : Nat)   (st : zS) : Option (Int32 × zS) := zf_Mo_isRider_33 N 0 st
set_option maxHeartbeats 4000000 in
theorem zl_Mo_isRider_32 (F : zw_X p m c zo_Mo_isRider 2 s args zR10 E 20 A meth (some .boolean)) {N : Nat} {rv : Int32} {rst : zS}    (st : zS)  (h : zf_Mo_isRider_32 N   st = some (rv, rst)) : zw_G p l e zrm_Mo_isRider s m args below meth c (MQ below (zw_Q E (some (.int rv)) rst A) args s 0 0 A) E A 2 0 32 [none, none] [] st := by
  unfold zf_Mo_isRider_32 at h
  refine zg_iconst F.1 0 0 (by decide) zd_Mo_isRider_32 ?_
  exact zl_Mo_isRider_33 F 0 st h
def zf_Mo_isRider (N : Nat) (a1 : Int32) (st : zS) : Option (Int32 × zS) := (if a1 < 0 ∨ 48 ≤ a1.toNatClampNeg then none else (if (st 50 a1.toNatClampNeg) < 0 then zf_Mo_isRider_32 N st else (if a1 < 0 ∨ 48 ≤ a1.toNatClampNeg then none else (if (st 49 a1.toNatClampNeg) = 0 then zf_Mo_isRider_28 N st else (if a1 < 0 ∨ 48 ≤ a1.toNatClampNeg then none else (if (st 49 a1.toNatClampNeg) = 1 then zf_Mo_isRider_28 N st else zf_Mo_isRider_32 N st))))))
set_option maxHeartbeats 4000000 in
theorem zl_Mo_isRider_0 (F : zw_X p m c zo_Mo_isRider 2 s args zR10 E 20 A meth (some .boolean)) {N : Nat} {rv : Int32} {rst : zS} (a1 : Int32) (st : zS)  (h : zf_Mo_isRider N a1 st = some (rv, rst)) : zw_G p l e zrm_Mo_isRider s m args below meth c (MQ below (zw_Q E (some (.int rv)) rst A) args s 0 0 A) E A 2 0 0 [some (.ref 40), some (.int a1)] [] st := by
  unfold zf_Mo_isRider at h
  refine zg_aload_n F.1 zd_Mo_isRider_0 rfl rfl ?_
  refine zg_getR10 F.1 (by decide) rfl 14 (by decide) 50 rfl zwf_Mo_48 zd_Mo_isRider_1 ?_
  refine zg_iload_n F.1 zd_Mo_isRider_4 rfl rfl ?_
  by_cases hi5 : a1 < 0 ∨ 48 ≤ a1.toNatClampNeg
  case pos => rw [if_pos hi5] at h; cases h
  rw [if_neg hi5] at h
  refine zg_ald13 F.1 (by decide) rfl hi5 a1.toNatClampNeg rfl (st 50 a1.toNatClampNeg) rfl zd_Mo_isRider_5 ?_
  refine zg_if_lt F.1 32 zd_Mo_isRider_6 rfl (fun hc => ?_) (fun hc => ?_)
  · rw [if_pos hc] at h
    exact zg_le (zw_len (zw_len zw_le0)) (zl_Mo_isRider_32 F st h)
  · rw [if_neg hc] at h
    refine zg_aload_n F.1 zd_Mo_isRider_9 rfl rfl ?_
    refine zg_getR10 F.1 (by decide) rfl 13 (by decide) 49 rfl zwf_Mo_45 zd_Mo_isRider_10 ?_
    refine zg_iload_n F.1 zd_Mo_isRider_13 rfl rfl ?_
    by_cases hi14 : a1 < 0 ∨ 48 ≤ a1.toNatClampNeg
    case pos => rw [if_pos hi14] at h; cases h
    rw [if_neg hi14] at h
    refine zg_ald13 F.1 (by decide) rfl hi14 a1.toNatClampNeg rfl (st 49 a1.toNatClampNeg) rfl zd_Mo_isRider_14 ?_
    refine zg_if_eq F.1 28 zd_Mo_isRider_15 rfl (fun hc => ?_) (fun hc => ?_)
    · rw [if_pos hc] at h
      exact zg_le (zw_len (zw_len zw_le0)) (zl_Mo_isRider_28 F st h)
    · rw [if_neg hc] at h
      refine zg_aload_n F.1 zd_Mo_isRider_18 rfl rfl ?_
      refine zg_getR10 F.1 (by decide) rfl 13 (by decide) 49 rfl zwf_Mo_45 zd_Mo_isRider_19 ?_
      refine zg_iload_n F.1 zd_Mo_isRider_22 rfl rfl ?_
      by_cases hi23 : a1 < 0 ∨ 48 ≤ a1.toNatClampNeg
      case pos => rw [if_pos hi23] at h; cases h
      rw [if_neg hi23] at h
      refine zg_ald13 F.1 (by decide) rfl hi23 a1.toNatClampNeg rfl (st 49 a1.toNatClampNeg) rfl zd_Mo_isRider_23 ?_
      refine zg_iconst F.1 1 1 (by decide) zd_Mo_isRider_24 ?_
      refine zg_icmp_ne F.1 32 zd_Mo_isRider_25 rfl (fun hc => ?_) (fun hc => ?_)
      · rw [if_neg hc] at h
        exact zg_le (zw_len (zw_len zw_le0)) (zl_Mo_isRider_32 F st h)
      · rw [if_pos hc] at h
        exact zg_le (zw_len (zw_len zw_le0)) (zl_Mo_isRider_28 F st h)
theorem zk_Mo_isRider {E : zE} (hn : zw_n E 20) (N : Nat) (a1 : Int32) (st : zS)  {rv : Int32} {rst : zS} (h : zf_Mo_isRider N a1 st = some (rv, rst)) : zw_M l zy_Mo_isRider (Cond.code zy_Mo_isRider zo_Mo_isRider 2 (some .boolean) :: zwAll) zrm_Mo_isRider E [.ref 40, .int a1] st (some (.int rv)) rst :=
  zw_enter (by decide) rfl hn (Nat.le_of_ble_eq_true rfl) (by simp [Value.category]) 0 (fun p e s m args below meth c A F => zl_Mo_isRider_0 F a1 st  h)
end ZC6
