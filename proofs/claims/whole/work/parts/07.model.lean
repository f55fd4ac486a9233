abbrev zo_Mo_promiseOf : ByteArray := prog_7_method_19_code
abbrev zy_Mo_promiseOf : MethodName := ⟨"LiftGroupModel", "promiseOf", "(I)I"⟩
theorem zd_Mo_promiseOf_0 : decode zo_Mo_promiseOf 0 = .ok (.aload_n 0, 1) := by decide +kernel
theorem zd_Mo_promiseOf_1 : decode zo_Mo_promiseOf 1 = .ok (.getfield 48, 3) := by decide +kernel
theorem zd_Mo_promiseOf_4 : decode zo_Mo_promiseOf 4 = .ok (.iload_n 1, 1) := by decide +kernel
theorem zd_Mo_promiseOf_5 : decode zo_Mo_promiseOf 5 = .ok (.iaload, 1) := by decide +kernel
theorem zd_Mo_promiseOf_6 : decode zo_Mo_promiseOf 6 = .ok (.istore_n 2, 1) := by decide +kernel
theorem zd_Mo_promiseOf_7 : decode zo_Mo_promiseOf 7 = .ok (.aload_n 0, 1) := by decide +kernel
theorem zd_Mo_promiseOf_8 : decode zo_Mo_promiseOf 8 = .ok (.getfield 39, 3) := by decide +kernel
theorem zd_Mo_promiseOf_11 : decode zo_Mo_promiseOf 11 = .ok (.iload_n 2, 1) := by decide +kernel
theorem zd_Mo_promiseOf_12 : decode zo_Mo_promiseOf 12 = .ok (.baload, 1) := by decide +kernel
theorem zd_Mo_promiseOf_13 : decode zo_Mo_promiseOf 13 = .ok (.ifCond .eq 5, 3) := by decide +kernel
theorem zd_Mo_promiseOf_16 : decode zo_Mo_promiseOf 16 = .ok (.iconst (-1), 1) := by decide +kernel
theorem zd_Mo_promiseOf_17 : decode zo_Mo_promiseOf 17 = .ok (.ireturn, 1) := by decide +kernel
theorem zd_Mo_promiseOf_18 : decode zo_Mo_promiseOf 18 = .ok (.aload_n 0, 1) := by decide +kernel
theorem zd_Mo_promiseOf_19 : decode zo_Mo_promiseOf 19 = .ok (.iload_n 2, 1) := by decide +kernel
theorem zd_Mo_promiseOf_20 : decode zo_Mo_promiseOf 20 = .ok (.invokevirtual 125, 3) := by decide +kernel
theorem zd_Mo_promiseOf_23 : decode zo_Mo_promiseOf 23 = .ok (.iconst 1, 1) := by decide +kernel
theorem zd_Mo_promiseOf_24 : decode zo_Mo_promiseOf 24 = .ok (.istore_n 3, 1) := by decide +kernel
theorem zd_Mo_promiseOf_25 : decode zo_Mo_promiseOf 25 = .ok (.iload_n 3, 1) := by decide +kernel
theorem zd_Mo_promiseOf_26 : decode zo_Mo_promiseOf 26 = .ok (.sipush 1000, 3) := by decide +kernel
theorem zd_Mo_promiseOf_29 : decode zo_Mo_promiseOf 29 = .ok (.if_icmp .gt 31, 3) := by decide +kernel
theorem zd_Mo_promiseOf_32 : decode zo_Mo_promiseOf 32 = .ok (.aload_n 0, 1) := by decide +kernel
theorem zd_Mo_promiseOf_33 : decode zo_Mo_promiseOf 33 = .ok (.iconst 4, 1) := by decide +kernel
theorem zd_Mo_promiseOf_34 : decode zo_Mo_promiseOf 34 = .ok (.bipush 24, 2) := by decide +kernel
theorem zd_Mo_promiseOf_36 : decode zo_Mo_promiseOf 36 = .ok (.invokevirtual 129, 3) := by decide +kernel
theorem zd_Mo_promiseOf_39 : decode zo_Mo_promiseOf 39 = .ok (.aload_n 0, 1) := by decide +kernel
theorem zd_Mo_promiseOf_40 : decode zo_Mo_promiseOf 40 = .ok (.getfield 45, 3) := by decide +kernel
theorem zd_Mo_promiseOf_43 : decode zo_Mo_promiseOf 43 = .ok (.bipush 24, 2) := by decide +kernel
theorem zd_Mo_promiseOf_45 : decode zo_Mo_promiseOf 45 = .ok (.iload_n 1, 1) := by decide +kernel
theorem zd_Mo_promiseOf_46 : decode zo_Mo_promiseOf 46 = .ok (.iadd, 1) := by decide +kernel
theorem zd_Mo_promiseOf_47 : decode zo_Mo_promiseOf 47 = .ok (.iaload, 1) := by decide +kernel
theorem zd_Mo_promiseOf_48 : decode zo_Mo_promiseOf 48 = .ok (.iconst 2, 1) := by decide +kernel
theorem zd_Mo_promiseOf_49 : decode zo_Mo_promiseOf 49 = .ok (.if_icmp .ne 5, 3) := by decide +kernel
theorem zd_Mo_promiseOf_52 : decode zo_Mo_promiseOf 52 = .ok (.iload_n 3, 1) := by decide +kernel
theorem zd_Mo_promiseOf_53 : decode zo_Mo_promiseOf 53 = .ok (.ireturn, 1) := by decide +kernel
theorem zd_Mo_promiseOf_54 : decode zo_Mo_promiseOf 54 = .ok (.iinc 3 1, 3) := by decide +kernel
theorem zd_Mo_promiseOf_57 : decode zo_Mo_promiseOf 57 = .ok (.goto (-32), 3) := by decide +kernel
theorem zd_Mo_promiseOf_60 : decode zo_Mo_promiseOf 60 = .ok (.iconst (-1), 1) := by decide +kernel
theorem zd_Mo_promiseOf_61 : decode zo_Mo_promiseOf 61 = .ok (.ireturn, 1) := by decide +kernel
abbrev zo_Mo_worstOf : ByteArray := prog_7_method_20_code
abbrev zy_Mo_worstOf : MethodName := ⟨"LiftGroupModel", "worstOf", "(I)I"⟩
theorem zd_Mo_worstOf_0 : decode zo_Mo_worstOf 0 = .ok (.iconst 0, 1) := by decide +kernel
theorem zd_Mo_worstOf_1 : decode zo_Mo_worstOf 1 = .ok (.istore_n 2, 1) := by decide +kernel
theorem zd_Mo_worstOf_2 : decode zo_Mo_worstOf 2 = .ok (.iconst 0, 1) := by decide +kernel
theorem zd_Mo_worstOf_3 : decode zo_Mo_worstOf 3 = .ok (.istore_n 3, 1) := by decide +kernel
theorem zd_Mo_worstOf_4 : decode zo_Mo_worstOf 4 = .ok (.iload_n 3, 1) := by decide +kernel
theorem zd_Mo_worstOf_5 : decode zo_Mo_worstOf 5 = .ok (.aload_n 0, 1) := by decide +kernel
theorem zd_Mo_worstOf_6 : decode zo_Mo_worstOf 6 = .ok (.getfield 81, 3) := by decide +kernel
theorem zd_Mo_worstOf_9 : decode zo_Mo_worstOf 9 = .ok (.if_icmp .ge 62, 3) := by decide +kernel
theorem zd_Mo_worstOf_12 : decode zo_Mo_worstOf 12 = .ok (.aload_n 0, 1) := by decide +kernel
theorem zd_Mo_worstOf_13 : decode zo_Mo_worstOf 13 = .ok (.getfield 48, 3) := by decide +kernel
theorem zd_Mo_worstOf_16 : decode zo_Mo_worstOf 16 = .ok (.iload_n 3, 1) := by decide +kernel
theorem zd_Mo_worstOf_17 : decode zo_Mo_worstOf 17 = .ok (.iaload, 1) := by decide +kernel
theorem zd_Mo_worstOf_18 : decode zo_Mo_worstOf 18 = .ok (.iload_n 1, 1) := by decide +kernel
theorem zd_Mo_worstOf_19 : decode zo_Mo_worstOf 19 = .ok (.if_icmp .ne 46, 3) := by decide +kernel
theorem zd_Mo_worstOf_22 : decode zo_Mo_worstOf 22 = .ok (.aload_n 0, 1) := by decide +kernel
theorem zd_Mo_worstOf_23 : decode zo_Mo_worstOf 23 = .ok (.iload_n 3, 1) := by decide +kernel
theorem zd_Mo_worstOf_24 : decode zo_Mo_worstOf 24 = .ok (.invokevirtual 132, 3) := by decide +kernel
theorem zd_Mo_worstOf_27 : decode zo_Mo_worstOf 27 = .ok (.ifCond .eq 38, 3) := by decide +kernel
theorem zd_Mo_worstOf_30 : decode zo_Mo_worstOf 30 = .ok (.aload_n 0, 1) := by decide +kernel
theorem zd_Mo_worstOf_31 : decode zo_Mo_worstOf 31 = .ok (.iload_n 3, 1) := by decide +kernel
theorem zd_Mo_worstOf_32 : decode zo_Mo_worstOf 32 = .ok (.invokevirtual 135, 3) := by decide +kernel
theorem zd_Mo_worstOf_35 : decode zo_Mo_worstOf 35 = .ok (.istore 4, 2) := by decide +kernel
theorem zd_Mo_worstOf_37 : decode zo_Mo_worstOf 37 = .ok (.iload 4, 2) := by decide +kernel
theorem zd_Mo_worstOf_39 : decode zo_Mo_worstOf 39 = .ok (.ifCond .ge 9, 3) := by decide +kernel
theorem zd_Mo_worstOf_42 : decode zo_Mo_worstOf 42 = .ok (.sipush 1000, 3) := by decide +kernel
theorem zd_Mo_worstOf_45 : decode zo_Mo_worstOf 45 = .ok (.goto 5, 3) := by decide +kernel
theorem zd_Mo_worstOf_48 : decode zo_Mo_worstOf 48 = .ok (.iload 4, 2) := by decide +kernel
theorem zd_Mo_worstOf_50 : decode zo_Mo_worstOf 50 = .ok (.istore 4, 2) := by decide +kernel
theorem zd_Mo_worstOf_52 : decode zo_Mo_worstOf 52 = .ok (.iload 4, 2) := by decide +kernel
theorem zd_Mo_worstOf_54 : decode zo_Mo_worstOf 54 = .ok (.iload_n 2, 1) := by decide +kernel
theorem zd_Mo_worstOf_55 : decode zo_Mo_worstOf 55 = .ok (.if_icmp .le 8, 3) := by decide +kernel
theorem zd_Mo_worstOf_58 : decode zo_Mo_worstOf 58 = .ok (.iload 4, 2) := by decide +kernel
theorem zd_Mo_worstOf_60 : decode zo_Mo_worstOf 60 = .ok (.goto 4, 3) := by decide +kernel
theorem zd_Mo_worstOf_63 : decode zo_Mo_worstOf 63 = .ok (.iload_n 2, 1) := by decide +kernel
theorem zd_Mo_worstOf_64 : decode zo_Mo_worstOf 64 = .ok (.istore_n 2, 1) := by decide +kernel
theorem zd_Mo_worstOf_65 : decode zo_Mo_worstOf 65 = .ok (.iinc 3 1, 3) := by decide +kernel
theorem zd_Mo_worstOf_68 : decode zo_Mo_worstOf 68 = .ok (.goto (-64), 3) := by decide +kernel
theorem zd_Mo_worstOf_71 : decode zo_Mo_worstOf 71 = .ok (.iload_n 2, 1) := by decide +kernel
theorem zd_Mo_worstOf_72 : decode zo_Mo_worstOf 72 = .ok (.ireturn, 1) := by decide +kernel
abbrev zo_Mo_isUsable : ByteArray := prog_7_method_21_code
abbrev zy_Mo_isUsable : MethodName := ⟨"LiftGroupModel", "isUsable", "(I)Z"⟩
theorem zd_Mo_isUsable_0 : decode zo_Mo_isUsable 0 = .ok (.aload_n 0, 1) := by decide +kernel
theorem zd_Mo_isUsable_1 : decode zo_Mo_isUsable 1 = .ok (.getfield 35, 3) := by decide +kernel
theorem zd_Mo_isUsable_4 : decode zo_Mo_isUsable 4 = .ok (.iload_n 1, 1) := by decide +kernel
theorem zd_Mo_isUsable_5 : decode zo_Mo_isUsable 5 = .ok (.baload, 1) := by decide +kernel
theorem zd_Mo_isUsable_6 : decode zo_Mo_isUsable 6 = .ok (.ifCond .ne 23, 3) := by decide +kernel
theorem zd_Mo_isUsable_9 : decode zo_Mo_isUsable 9 = .ok (.aload_n 0, 1) := by decide +kernel
theorem zd_Mo_isUsable_10 : decode zo_Mo_isUsable 10 = .ok (.getfield 39, 3) := by decide +kernel
theorem zd_Mo_isUsable_13 : decode zo_Mo_isUsable 13 = .ok (.iload_n 1, 1) := by decide +kernel
theorem zd_Mo_isUsable_14 : decode zo_Mo_isUsable 14 = .ok (.baload, 1) := by decide +kernel
theorem zd_Mo_isUsable_15 : decode zo_Mo_isUsable 15 = .ok (.ifCond .ne 14, 3) := by decide +kernel
theorem zd_Mo_isUsable_18 : decode zo_Mo_isUsable 18 = .ok (.aload_n 0, 1) := by decide +kernel
theorem zd_Mo_isUsable_19 : decode zo_Mo_isUsable 19 = .ok (.getfield 77, 3) := by decide +kernel
theorem zd_Mo_isUsable_22 : decode zo_Mo_isUsable 22 = .ok (.ifCond .ne 7, 3) := by decide +kernel
theorem zd_Mo_isUsable_25 : decode zo_Mo_isUsable 25 = .ok (.iconst 1, 1) := by decide +kernel
theorem zd_Mo_isUsable_26 : decode zo_Mo_isUsable 26 = .ok (.goto 4, 3) := by decide +kernel
theorem zd_Mo_isUsable_29 : decode zo_Mo_isUsable 29 = .ok (.iconst 0, 1) := by decide +kernel
theorem zd_Mo_isUsable_30 : decode zo_Mo_isUsable 30 = .ok (.ireturn, 1) := by decide +kernel
abbrev zo_Mo_choose : ByteArray := prog_7_method_22_code
abbrev zy_Mo_choose : MethodName := ⟨"LiftGroupModel", "choose", "(I)V"⟩
theorem zd_Mo_choose_0 : decode zo_Mo_choose 0 = .ok (.iconst (-1), 1) := by decide +kernel
theorem zd_Mo_choose_1 : decode zo_Mo_choose 1 = .ok (.istore_n 2, 1) := by decide +kernel
theorem zd_Mo_choose_2 : decode zo_Mo_choose 2 = .ok (.iconst 0, 1) := by decide +kernel
theorem zd_Mo_choose_3 : decode zo_Mo_choose 3 = .ok (.istore_n 3, 1) := by decide +kernel
theorem zd_Mo_choose_4 : decode zo_Mo_choose 4 = .ok (.iconst 0, 1) := by decide +kernel
theorem zd_Mo_choose_5 : decode zo_Mo_choose 5 = .ok (.istore 4, 2) := by decide +kernel
theorem zd_Mo_choose_7 : decode zo_Mo_choose 7 = .ok (.iload 4, 2) := by decide +kernel
theorem zd_Mo_choose_9 : decode zo_Mo_choose 9 = .ok (.aload_n 0, 1) := by decide +kernel
theorem zd_Mo_choose_10 : decode zo_Mo_choose 10 = .ok (.getfield 13, 3) := by decide +kernel
theorem zd_Mo_choose_13 : decode zo_Mo_choose 13 = .ok (.if_icmp .ge 68, 3) := by decide +kernel
theorem zd_Mo_choose_16 : decode zo_Mo_choose 16 = .ok (.aload_n 0, 1) := by decide +kernel
theorem zd_Mo_choose_17 : decode zo_Mo_choose 17 = .ok (.iload 4, 2) := by decide +kernel
theorem zd_Mo_choose_19 : decode zo_Mo_choose 19 = .ok (.invokevirtual 139, 3) := by decide +kernel
theorem zd_Mo_choose_22 : decode zo_Mo_choose 22 = .ok (.ifCond .eq 53, 3) := by decide +kernel
theorem zd_Mo_choose_25 : decode zo_Mo_choose 25 = .ok (.aload_n 0, 1) := by decide +kernel
theorem zd_Mo_choose_26 : decode zo_Mo_choose 26 = .ok (.getfield 48, 3) := by decide +kernel
theorem zd_Mo_choose_29 : decode zo_Mo_choose 29 = .ok (.iload_n 1, 1) := by decide +kernel
theorem zd_Mo_choose_30 : decode zo_Mo_choose 30 = .ok (.iconst (-1), 1) := by decide +kernel
theorem zd_Mo_choose_31 : decode zo_Mo_choose 31 = .ok (.iastore, 1) := by decide +kernel
theorem zd_Mo_choose_32 : decode zo_Mo_choose 32 = .ok (.aload_n 0, 1) := by decide +kernel
theorem zd_Mo_choose_33 : decode zo_Mo_choose 33 = .ok (.iload 4, 2) := by decide +kernel
theorem zd_Mo_choose_35 : decode zo_Mo_choose 35 = .ok (.invokevirtual 142, 3) := by decide +kernel
theorem zd_Mo_choose_38 : decode zo_Mo_choose 38 = .ok (.istore 5, 2) := by decide +kernel
theorem zd_Mo_choose_40 : decode zo_Mo_choose 40 = .ok (.aload_n 0, 1) := by decide +kernel
theorem zd_Mo_choose_41 : decode zo_Mo_choose 41 = .ok (.getfield 48, 3) := by decide +kernel
theorem zd_Mo_choose_44 : decode zo_Mo_choose 44 = .ok (.iload_n 1, 1) := by decide +kernel
theorem zd_Mo_choose_45 : decode zo_Mo_choose 45 = .ok (.iload 4, 2) := by decide +kernel
theorem zd_Mo_choose_47 : decode zo_Mo_choose 47 = .ok (.iastore, 1) := by decide +kernel
theorem zd_Mo_choose_48 : decode zo_Mo_choose 48 = .ok (.aload_n 0, 1) := by decide +kernel
theorem zd_Mo_choose_49 : decode zo_Mo_choose 49 = .ok (.iload 4, 2) := by decide +kernel
theorem zd_Mo_choose_51 : decode zo_Mo_choose 51 = .ok (.invokevirtual 142, 3) := by decide +kernel
theorem zd_Mo_choose_54 : decode zo_Mo_choose 54 = .ok (.iload 5, 2) := by decide +kernel
theorem zd_Mo_choose_56 : decode zo_Mo_choose 56 = .ok (.isub, 1) := by decide +kernel
theorem zd_Mo_choose_57 : decode zo_Mo_choose 57 = .ok (.istore 6, 2) := by decide +kernel
theorem zd_Mo_choose_59 : decode zo_Mo_choose 59 = .ok (.iload_n 2, 1) := by decide +kernel
theorem zd_Mo_choose_60 : decode zo_Mo_choose 60 = .ok (.ifCond .lt 9, 3) := by decide +kernel
theorem zd_Mo_choose_63 : decode zo_Mo_choose 63 = .ok (.iload 6, 2) := by decide +kernel
theorem zd_Mo_choose_65 : decode zo_Mo_choose 65 = .ok (.iload_n 3, 1) := by decide +kernel
theorem zd_Mo_choose_66 : decode zo_Mo_choose 66 = .ok (.if_icmp .ge 9, 3) := by decide +kernel
theorem zd_Mo_choose_69 : decode zo_Mo_choose 69 = .ok (.iload 4, 2) := by decide +kernel
theorem zd_Mo_choose_71 : decode zo_Mo_choose 71 = .ok (.istore_n 2, 1) := by decide +kernel
theorem zd_Mo_choose_72 : decode zo_Mo_choose 72 = .ok (.iload 6, 2) := by decide +kernel
theorem zd_Mo_choose_74 : decode zo_Mo_choose 74 = .ok (.istore_n 3, 1) := by decide +kernel
theorem zd_Mo_choose_75 : decode zo_Mo_choose 75 = .ok (.iinc 4 1, 3) := by decide +kernel
theorem zd_Mo_choose_78 : decode zo_Mo_choose 78 = .ok (.goto (-71), 3) := by decide +kernel
theorem zd_Mo_choose_81 : decode zo_Mo_choose 81 = .ok (.aload_n 0, 1) := by decide +kernel
theorem zd_Mo_choose_82 : decode zo_Mo_choose 82 = .ok (.getfield 48, 3) := by decide +kernel
theorem zd_Mo_choose_85 : decode zo_Mo_choose 85 = .ok (.iload_n 1, 1) := by decide +kernel
theorem zd_Mo_choose_86 : decode zo_Mo_choose 86 = .ok (.iload_n 2, 1) := by decide +kernel
theorem zd_Mo_choose_87 : decode zo_Mo_choose 87 = .ok (.iastore, 1) := by decide +kernel
theorem zd_Mo_choose_88 : decode zo_Mo_choose 88 = .ok (.aload_n 0, 1) := by decide +kernel
theorem zd_Mo_choose_89 : decode zo_Mo_choose 89 = .ok (.iload_n 2, 1) := by decide +kernel
theorem zd_Mo_choose_90 : decode zo_Mo_choose 90 = .ok (.ifCond .ge 7, 3) := by decide +kernel
theorem zd_Mo_choose_93 : decode zo_Mo_choose 93 = .ok (.iconst 5, 1) := by decide +kernel
theorem zd_Mo_choose_94 : decode zo_Mo_choose 94 = .ok (.goto 4, 3) := by decide +kernel
theorem zd_Mo_choose_97 : decode zo_Mo_choose 97 = .ok (.iconst 1, 1) := by decide +kernel
theorem zd_Mo_choose_98 : decode zo_Mo_choose 98 = .ok (.iload_n 1, 1) := by decide +kernel
theorem zd_Mo_choose_99 : decode zo_Mo_choose 99 = .ok (.iload_n 2, 1) := by decide +kernel
theorem zd_Mo_choose_100 : decode zo_Mo_choose 100 = .ok (.invokevirtual 101, 3) := by decide +kernel
theorem zd_Mo_choose_103 : decode zo_Mo_choose 103 = .ok (.return_, 1) := by decide +kernel
abbrev zo_Mo_chooseFor : ByteArray := prog_7_method_23_code
abbrev zy_Mo_chooseFor : MethodName := ⟨"LiftGroupModel", "chooseFor", "(I)V"⟩
theorem zd_Mo_chooseFor_0 : decode zo_Mo_chooseFor 0 = .ok (.iconst 0, 1) := by decide +kernel
theorem zd_Mo_chooseFor_1 : decode zo_Mo_chooseFor 1 = .ok (.istore_n 2, 1) := by decide +kernel
theorem zd_Mo_chooseFor_2 : decode zo_Mo_chooseFor 2 = .ok (.iload_n 2, 1) := by decide +kernel
theorem zd_Mo_chooseFor_3 : decode zo_Mo_chooseFor 3 = .ok (.aload_n 0, 1) := by decide +kernel
theorem zd_Mo_chooseFor_4 : decode zo_Mo_chooseFor 4 = .ok (.getfield 81, 3) := by decide +kernel
theorem zd_Mo_chooseFor_7 : decode zo_Mo_chooseFor 7 = .ok (.if_icmp .ge 33, 3) := by decide +kernel
theorem zd_Mo_chooseFor_10 : decode zo_Mo_chooseFor 10 = .ok (.aload_n 0, 1) := by decide +kernel
theorem zd_Mo_chooseFor_11 : decode zo_Mo_chooseFor 11 = .ok (.getfield 45, 3) := by decide +kernel
theorem zd_Mo_chooseFor_14 : decode zo_Mo_chooseFor 14 = .ok (.iload_n 2, 1) := by decide +kernel
theorem zd_Mo_chooseFor_15 : decode zo_Mo_chooseFor 15 = .ok (.iaload, 1) := by decide +kernel
theorem zd_Mo_chooseFor_16 : decode zo_Mo_chooseFor 16 = .ok (.ifCond .ne 18, 3) := by decide +kernel
theorem zd_Mo_chooseFor_19 : decode zo_Mo_chooseFor 19 = .ok (.aload_n 0, 1) := by decide +kernel
theorem zd_Mo_chooseFor_20 : decode zo_Mo_chooseFor 20 = .ok (.getfield 48, 3) := by decide +kernel
theorem zd_Mo_chooseFor_23 : decode zo_Mo_chooseFor 23 = .ok (.iload_n 2, 1) := by decide +kernel
theorem zd_Mo_chooseFor_24 : decode zo_Mo_chooseFor 24 = .ok (.iaload, 1) := by decide +kernel
theorem zd_Mo_chooseFor_25 : decode zo_Mo_chooseFor 25 = .ok (.iload_n 1, 1) := by decide +kernel
theorem zd_Mo_chooseFor_26 : decode zo_Mo_chooseFor 26 = .ok (.if_icmp .ne 8, 3) := by decide +kernel
theorem zd_Mo_chooseFor_29 : decode zo_Mo_chooseFor 29 = .ok (.aload_n 0, 1) := by decide +kernel
theorem zd_Mo_chooseFor_30 : decode zo_Mo_chooseFor 30 = .ok (.iload_n 2, 1) := by decide +kernel
theorem zd_Mo_chooseFor_31 : decode zo_Mo_chooseFor 31 = .ok (.invokevirtual 145, 3) := by decide +kernel
theorem zd_Mo_chooseFor_34 : decode zo_Mo_chooseFor 34 = .ok (.iinc 2 1, 3) := by decide +kernel
theorem zd_Mo_chooseFor_37 : decode zo_Mo_chooseFor 37 = .ok (.goto (-35), 3) := by decide +kernel
theorem zd_Mo_chooseFor_40 : decode zo_Mo_chooseFor 40 = .ok (.return_, 1) := by decide +kernel
abbrev zo_Mo_call : ByteArray := prog_7_method_24_code
abbrev zy_Mo_call : MethodName := ⟨"LiftGroupModel", "call", "(II)I"⟩
theorem zd_Mo_call_0 : decode zo_Mo_call 0 = .ok (.iload_n 1, 1) := by decide +kernel
theorem zd_Mo_call_1 : decode zo_Mo_call 1 = .ok (.iconst 0, 1) := by decide +kernel
theorem zd_Mo_call_2 : decode zo_Mo_call 2 = .ok (.aload_n 0, 1) := by decide +kernel
theorem zd_Mo_call_3 : decode zo_Mo_call 3 = .ok (.getfield 7, 3) := by decide +kernel
theorem zd_Mo_call_6 : decode zo_Mo_call 6 = .ok (.iconst 1, 1) := by decide +kernel
theorem zd_Mo_call_7 : decode zo_Mo_call 7 = .ok (.isub, 1) := by decide +kernel
theorem zd_Mo_call_8 : decode zo_Mo_call 8 = .ok (.invokestatic 69, 3) := by decide +kernel
theorem zd_Mo_call_11 : decode zo_Mo_call 11 = .ok (.ifCond .eq 22, 3) := by decide +kernel
theorem zd_Mo_call_14 : decode zo_Mo_call 14 = .ok (.iload_n 2, 1) := by decide +kernel
theorem zd_Mo_call_15 : decode zo_Mo_call 15 = .ok (.iconst 0, 1) := by decide +kernel
theorem zd_Mo_call_16 : decode zo_Mo_call 16 = .ok (.aload_n 0, 1) := by decide +kernel
theorem zd_Mo_call_17 : decode zo_Mo_call 17 = .ok (.getfield 7, 3) := by decide +kernel
theorem zd_Mo_call_20 : decode zo_Mo_call 20 = .ok (.iconst 1, 1) := by decide +kernel
theorem zd_Mo_call_21 : decode zo_Mo_call 21 = .ok (.isub, 1) := by decide +kernel
theorem zd_Mo_call_22 : decode zo_Mo_call 22 = .ok (.invokestatic 69, 3) := by decide +kernel
theorem zd_Mo_call_25 : decode zo_Mo_call 25 = .ok (.ifCond .eq 8, 3) := by decide +kernel
theorem zd_Mo_call_28 : decode zo_Mo_call 28 = .ok (.iload_n 1, 1) := by decide +kernel
theorem zd_Mo_call_29 : decode zo_Mo_call 29 = .ok (.iload_n 2, 1) := by decide +kernel
theorem zd_Mo_call_30 : decode zo_Mo_call 30 = .ok (.if_icmp .ne 7, 3) := by decide +kernel
theorem zd_Mo_call_33 : decode zo_Mo_call 33 = .ok (.iconst 1, 1) := by decide +kernel
theorem zd_Mo_call_34 : decode zo_Mo_call 34 = .ok (.goto 4, 3) := by decide +kernel
theorem zd_Mo_call_37 : decode zo_Mo_call 37 = .ok (.iconst 0, 1) := by decide +kernel
theorem zd_Mo_call_38 : decode zo_Mo_call 38 = .ok (.istore_n 3, 1) := by decide +kernel
theorem zd_Mo_call_39 : decode zo_Mo_call 39 = .ok (.iconst 0, 1) := by decide +kernel
theorem zd_Mo_call_40 : decode zo_Mo_call 40 = .ok (.istore 4, 2) := by decide +kernel
theorem zd_Mo_call_42 : decode zo_Mo_call 42 = .ok (.iconst 0, 1) := by decide +kernel
theorem zd_Mo_call_43 : decode zo_Mo_call 43 = .ok (.istore 5, 2) := by decide +kernel
theorem zd_Mo_call_45 : decode zo_Mo_call 45 = .ok (.iload 5, 2) := by decide +kernel
theorem zd_Mo_call_47 : decode zo_Mo_call 47 = .ok (.aload_n 0, 1) := by decide +kernel
theorem zd_Mo_call_48 : decode zo_Mo_call 48 = .ok (.getfield 13, 3) := by decide +kernel
theorem zd_Mo_call_51 : decode zo_Mo_call 51 = .ok (.if_icmp .ge 30, 3) := by decide +kernel
theorem zd_Mo_call_54 : decode zo_Mo_call 54 = .ok (.iload 4, 2) := by decide +kernel
theorem zd_Mo_call_56 : decode zo_Mo_call 56 = .ok (.ifCond .ne 12, 3) := by decide +kernel
theorem zd_Mo_call_59 : decode zo_Mo_call 59 = .ok (.aload_n 0, 1) := by decide +kernel
theorem zd_Mo_call_60 : decode zo_Mo_call 60 = .ok (.iload 5, 2) := by decide +kernel
theorem zd_Mo_call_62 : decode zo_Mo_call 62 = .ok (.invokevirtual 139, 3) := by decide +kernel
theorem zd_Mo_call_65 : decode zo_Mo_call 65 = .ok (.ifCond .eq 7, 3) := by decide +kernel
theorem zd_Mo_call_68 : decode zo_Mo_call 68 = .ok (.iconst 1, 1) := by decide +kernel
theorem zd_Mo_call_69 : decode zo_Mo_call 69 = .ok (.goto 4, 3) := by decide +kernel
theorem zd_Mo_call_72 : decode zo_Mo_call 72 = .ok (.iconst 0, 1) := by decide +kernel
theorem zd_Mo_call_73 : decode zo_Mo_call 73 = .ok (.istore 4, 2) := by decide +kernel
theorem zd_Mo_call_75 : decode zo_Mo_call 75 = .ok (.iinc 5 1, 3) := by decide +kernel
theorem zd_Mo_call_78 : decode zo_Mo_call 78 = .ok (.goto (-33), 3) := by decide +kernel
theorem zd_Mo_call_81 : decode zo_Mo_call 81 = .ok (.aload_n 0, 1) := by decide +kernel
theorem zd_Mo_call_82 : decode zo_Mo_call 82 = .ok (.iload_n 3, 1) := by decide +kernel
theorem zd_Mo_call_83 : decode zo_Mo_call 83 = .ok (.iload 4, 2) := by decide +kernel
theorem zd_Mo_call_85 : decode zo_Mo_call 85 = .ok (.ifCond .ne 7, 3) := by decide +kernel
theorem zd_Mo_call_88 : decode zo_Mo_call 88 = .ok (.iconst 1, 1) := by decide +kernel
theorem zd_Mo_call_89 : decode zo_Mo_call 89 = .ok (.goto 4, 3) := by decide +kernel
theorem zd_Mo_call_92 : decode zo_Mo_call 92 = .ok (.iconst 0, 1) := by decide +kernel
theorem zd_Mo_call_93 : decode zo_Mo_call 93 = .ok (.invokevirtual 73, 3) := by decide +kernel
theorem zd_Mo_call_96 : decode zo_Mo_call 96 = .ok (.ifCond .eq 5, 3) := by decide +kernel
theorem zd_Mo_call_99 : decode zo_Mo_call 99 = .ok (.iconst 0, 1) := by decide +kernel
theorem zd_Mo_call_100 : decode zo_Mo_call 100 = .ok (.ireturn, 1) := by decide +kernel
theorem zd_Mo_call_101 : decode zo_Mo_call 101 = .ok (.aload_n 0, 1) := by decide +kernel
theorem zd_Mo_call_102 : decode zo_Mo_call 102 = .ok (.getfield 81, 3) := by decide +kernel
theorem zd_Mo_call_105 : decode zo_Mo_call 105 = .ok (.bipush 24, 2) := by decide +kernel
theorem zd_Mo_call_107 : decode zo_Mo_call 107 = .ok (.if_icmp .ne 10, 3) := by decide +kernel
theorem zd_Mo_call_110 : decode zo_Mo_call 110 = .ok (.aload_n 0, 1) := by decide +kernel
theorem zd_Mo_call_111 : decode zo_Mo_call 111 = .ok (.iconst 3, 1) := by decide +kernel
theorem zd_Mo_call_112 : decode zo_Mo_call 112 = .ok (.putfield 66, 3) := by decide +kernel
theorem zd_Mo_call_115 : decode zo_Mo_call 115 = .ok (.iconst 0, 1) := by decide +kernel
theorem zd_Mo_call_116 : decode zo_Mo_call 116 = .ok (.ireturn, 1) := by decide +kernel
theorem zd_Mo_call_117 : decode zo_Mo_call 117 = .ok (.aload_n 0, 1) := by decide +kernel
theorem zd_Mo_call_118 : decode zo_Mo_call 118 = .ok (.getfield 81, 3) := by decide +kernel
theorem zd_Mo_call_121 : decode zo_Mo_call 121 = .ok (.istore 5, 2) := by decide +kernel
theorem zd_Mo_call_123 : decode zo_Mo_call 123 = .ok (.aload_n 0, 1) := by decide +kernel
theorem zd_Mo_call_124 : decode zo_Mo_call 124 = .ok (.getfield 45, 3) := by decide +kernel
theorem zd_Mo_call_127 : decode zo_Mo_call 127 = .ok (.iload 5, 2) := by decide +kernel
theorem zd_Mo_call_129 : decode zo_Mo_call 129 = .ok (.iconst 0, 1) := by decide +kernel
theorem zd_Mo_call_130 : decode zo_Mo_call 130 = .ok (.iastore, 1) := by decide +kernel
theorem zd_Mo_call_131 : decode zo_Mo_call 131 = .ok (.aload_n 0, 1) := by decide +kernel
theorem zd_Mo_call_132 : decode zo_Mo_call 132 = .ok (.getfield 48, 3) := by decide +kernel
theorem zd_Mo_call_135 : decode zo_Mo_call 135 = .ok (.iload 5, 2) := by decide +kernel
theorem zd_Mo_call_137 : decode zo_Mo_call 137 = .ok (.iconst (-1), 1) := by decide +kernel
theorem zd_Mo_call_138 : decode zo_Mo_call 138 = .ok (.iastore, 1) := by decide +kernel
theorem zd_Mo_call_139 : decode zo_Mo_call 139 = .ok (.aload_n 0, 1) := by decide +kernel
theorem zd_Mo_call_140 : decode zo_Mo_call 140 = .ok (.getfield 51, 3) := by decide +kernel
theorem zd_Mo_call_143 : decode zo_Mo_call 143 = .ok (.iload 5, 2) := by decide +kernel
theorem zd_Mo_call_145 : decode zo_Mo_call 145 = .ok (.iload_n 1, 1) := by decide +kernel
theorem zd_Mo_call_146 : decode zo_Mo_call 146 = .ok (.iastore, 1) := by decide +kernel
theorem zd_Mo_call_147 : decode zo_Mo_call 147 = .ok (.aload_n 0, 1) := by decide +kernel
theorem zd_Mo_call_148 : decode zo_Mo_call 148 = .ok (.getfield 54, 3) := by decide +kernel
theorem zd_Mo_call_151 : decode zo_Mo_call 151 = .ok (.iload 5, 2) := by decide +kernel
theorem zd_Mo_call_153 : decode zo_Mo_call 153 = .ok (.iload_n 2, 1) := by decide +kernel
theorem zd_Mo_call_154 : decode zo_Mo_call 154 = .ok (.iastore, 1) := by decide +kernel
theorem zd_Mo_call_155 : decode zo_Mo_call 155 = .ok (.aload_n 0, 1) := by decide +kernel
theorem zd_Mo_call_156 : decode zo_Mo_call 156 = .ok (.getfield 57, 3) := by decide +kernel
theorem zd_Mo_call_159 : decode zo_Mo_call 159 = .ok (.iload 5, 2) := by decide +kernel
theorem zd_Mo_call_161 : decode zo_Mo_call 161 = .ok (.aload_n 0, 1) := by decide +kernel
theorem zd_Mo_call_162 : decode zo_Mo_call 162 = .ok (.getfield 84, 3) := by decide +kernel
theorem zd_Mo_call_165 : decode zo_Mo_call 165 = .ok (.iastore, 1) := by decide +kernel
theorem zd_Mo_call_166 : decode zo_Mo_call 166 = .ok (.aload_n 0, 1) := by decide +kernel
theorem zd_Mo_call_167 : decode zo_Mo_call 167 = .ok (.getfield 60, 3) := by decide +kernel
theorem zd_Mo_call_170 : decode zo_Mo_call 170 = .ok (.iload 5, 2) := by decide +kernel
theorem zd_Mo_call_172 : decode zo_Mo_call 172 = .ok (.iconst 0, 1) := by decide +kernel
theorem zd_Mo_call_173 : decode zo_Mo_call 173 = .ok (.iastore, 1) := by decide +kernel
theorem zd_Mo_call_174 : decode zo_Mo_call 174 = .ok (.aload_n 0, 1) := by decide +kernel
theorem zd_Mo_call_175 : decode zo_Mo_call 175 = .ok (.dup, 1) := by decide +kernel
theorem zd_Mo_call_176 : decode zo_Mo_call 176 = .ok (.getfield 81, 3) := by decide +kernel
theorem zd_Mo_call_179 : decode zo_Mo_call 179 = .ok (.iconst 1, 1) := by decide +kernel
theorem zd_Mo_call_180 : decode zo_Mo_call 180 = .ok (.iadd, 1) := by decide +kernel
theorem zd_Mo_call_181 : decode zo_Mo_call 181 = .ok (.putfield 81, 3) := by decide +kernel
theorem zd_Mo_call_184 : decode zo_Mo_call 184 = .ok (.aload_n 0, 1) := by decide +kernel
theorem zd_Mo_call_185 : decode zo_Mo_call 185 = .ok (.iload 5, 2) := by decide +kernel
theorem zd_Mo_call_187 : decode zo_Mo_call 187 = .ok (.invokevirtual 145, 3) := by decide +kernel
theorem zd_Mo_call_190 : decode zo_Mo_call 190 = .ok (.aload_n 0, 1) := by decide +kernel
theorem zd_Mo_call_191 : decode zo_Mo_call 191 = .ok (.getfield 48, 3) := by decide +kernel
theorem zd_Mo_call_194 : decode zo_Mo_call 194 = .ok (.iload 5, 2) := by decide +kernel
theorem zd_Mo_call_196 : decode zo_Mo_call 196 = .ok (.iaload, 1) := by decide +kernel
theorem zd_Mo_call_197 : decode zo_Mo_call 197 = .ok (.ireturn, 1) := by decide +kernel
abbrev zo_Mo_step : ByteArray := prog_7_method_25_code
abbrev zy_Mo_step : MethodName := ⟨"LiftGroupModel", "step", "(I)V"⟩
theorem zd_Mo_step_0 : decode zo_Mo_step 0 = .ok (.aload_n 0, 1) := by decide +kernel
theorem zd_Mo_step_1 : decode zo_Mo_step 1 = .ok (.iload_n 1, 1) := by decide +kernel
theorem zd_Mo_step_2 : decode zo_Mo_step 2 = .ok (.iconst 0, 1) := by decide +kernel
theorem zd_Mo_step_3 : decode zo_Mo_step 3 = .ok (.sipush 200, 3) := by decide +kernel
theorem zd_Mo_step_6 : decode zo_Mo_step 6 = .ok (.invokestatic 69, 3) := by decide +kernel
theorem zd_Mo_step_9 : decode zo_Mo_step 9 = .ok (.ifCond .ne 7, 3) := by decide +kernel
theorem zd_Mo_step_12 : decode zo_Mo_step 12 = .ok (.iconst 1, 1) := by decide +kernel
theorem zd_Mo_step_13 : decode zo_Mo_step 13 = .ok (.goto 4, 3) := by decide +kernel
theorem zd_Mo_step_16 : decode zo_Mo_step 16 = .ok (.iconst 0, 1) := by decide +kernel
theorem zd_Mo_step_17 : decode zo_Mo_step 17 = .ok (.iconst 0, 1) := by decide +kernel
theorem zd_Mo_step_18 : decode zo_Mo_step 18 = .ok (.invokevirtual 73, 3) := by decide +kernel
theorem zd_Mo_step_21 : decode zo_Mo_step 21 = .ok (.ifCond .eq 4, 3) := by decide +kernel
theorem zd_Mo_step_24 : decode zo_Mo_step 24 = .ok (.return_, 1) := by decide +kernel
theorem zd_Mo_step_25 : decode zo_Mo_step 25 = .ok (.iconst 0, 1) := by decide +kernel
theorem zd_Mo_step_26 : decode zo_Mo_step 26 = .ok (.istore_n 2, 1) := by decide +kernel
theorem zd_Mo_step_27 : decode zo_Mo_step 27 = .ok (.iload_n 2, 1) := by decide +kernel
theorem zd_Mo_step_28 : decode zo_Mo_step 28 = .ok (.iload_n 1, 1) := by decide +kernel
theorem zd_Mo_step_29 : decode zo_Mo_step 29 = .ok (.if_icmp .ge 50, 3) := by decide +kernel
theorem zd_Mo_step_32 : decode zo_Mo_step 32 = .ok (.aload_n 0, 1) := by decide +kernel
theorem zd_Mo_step_33 : decode zo_Mo_step 33 = .ok (.dup, 1) := by decide +kernel
theorem zd_Mo_step_34 : decode zo_Mo_step 34 = .ok (.getfield 84, 3) := by decide +kernel
theorem zd_Mo_step_37 : decode zo_Mo_step 37 = .ok (.iconst 1, 1) := by decide +kernel
theorem zd_Mo_step_38 : decode zo_Mo_step 38 = .ok (.iadd, 1) := by decide +kernel
theorem zd_Mo_step_39 : decode zo_Mo_step 39 = .ok (.putfield 84, 3) := by decide +kernel
theorem zd_Mo_step_42 : decode zo_Mo_step 42 = .ok (.iconst 0, 1) := by decide +kernel
theorem zd_Mo_step_43 : decode zo_Mo_step 43 = .ok (.istore_n 3, 1) := by decide +kernel
theorem zd_Mo_step_44 : decode zo_Mo_step 44 = .ok (.iload_n 3, 1) := by decide +kernel
theorem zd_Mo_step_45 : decode zo_Mo_step 45 = .ok (.aload_n 0, 1) := by decide +kernel
theorem zd_Mo_step_46 : decode zo_Mo_step 46 = .ok (.getfield 13, 3) := by decide +kernel
theorem zd_Mo_step_49 : decode zo_Mo_step 49 = .ok (.if_icmp .ge 24, 3) := by decide +kernel
theorem zd_Mo_step_52 : decode zo_Mo_step 52 = .ok (.aload_n 0, 1) := by decide +kernel
theorem zd_Mo_step_53 : decode zo_Mo_step 53 = .ok (.getfield 39, 3) := by decide +kernel
theorem zd_Mo_step_56 : decode zo_Mo_step 56 = .ok (.iload_n 3, 1) := by decide +kernel
theorem zd_Mo_step_57 : decode zo_Mo_step 57 = .ok (.baload, 1) := by decide +kernel
theorem zd_Mo_step_58 : decode zo_Mo_step 58 = .ok (.ifCond .ne 9, 3) := by decide +kernel
theorem zd_Mo_step_61 : decode zo_Mo_step 61 = .ok (.aload_n 0, 1) := by decide +kernel
theorem zd_Mo_step_62 : decode zo_Mo_step 62 = .ok (.iload_n 3, 1) := by decide +kernel
theorem zd_Mo_step_63 : decode zo_Mo_step 63 = .ok (.iconst 0, 1) := by decide +kernel
theorem zd_Mo_step_64 : decode zo_Mo_step 64 = .ok (.invokevirtual 129, 3) := by decide +kernel
theorem zd_Mo_step_67 : decode zo_Mo_step 67 = .ok (.iinc 3 1, 3) := by decide +kernel
theorem zd_Mo_step_70 : decode zo_Mo_step 70 = .ok (.goto (-26), 3) := by decide +kernel
theorem zd_Mo_step_73 : decode zo_Mo_step 73 = .ok (.iinc 2 1, 3) := by decide +kernel
theorem zd_Mo_step_76 : decode zo_Mo_step 76 = .ok (.goto (-49), 3) := by decide +kernel
theorem zd_Mo_step_79 : decode zo_Mo_step 79 = .ok (.return_, 1) := by decide +kernel
abbrev zo_Mo_noCar : ByteArray := prog_7_method_26_code
abbrev zy_Mo_noCar : MethodName := ⟨"LiftGroupModel", "noCar", "(I)Z"⟩
theorem zd_Mo_noCar_0 : decode zo_Mo_noCar 0 = .ok (.aload_n 0, 1) := by decide +kernel
theorem zd_Mo_noCar_1 : decode zo_Mo_noCar 1 = .ok (.iload_n 1, 1) := by decide +kernel
theorem zd_Mo_noCar_2 : decode zo_Mo_noCar 2 = .ok (.iconst 0, 1) := by decide +kernel
theorem zd_Mo_noCar_3 : decode zo_Mo_noCar 3 = .ok (.aload_n 0, 1) := by decide +kernel
theorem zd_Mo_noCar_4 : decode zo_Mo_noCar 4 = .ok (.getfield 13, 3) := by decide +kernel
theorem zd_Mo_noCar_7 : decode zo_Mo_noCar 7 = .ok (.iconst 1, 1) := by decide +kernel
theorem zd_Mo_noCar_8 : decode zo_Mo_noCar 8 = .ok (.isub, 1) := by decide +kernel
theorem zd_Mo_noCar_9 : decode zo_Mo_noCar 9 = .ok (.invokestatic 69, 3) := by decide +kernel
theorem zd_Mo_noCar_12 : decode zo_Mo_noCar 12 = .ok (.ifCond .ne 7, 3) := by decide +kernel
theorem zd_Mo_noCar_15 : decode zo_Mo_noCar 15 = .ok (.iconst 1, 1) := by decide +kernel
theorem zd_Mo_noCar_16 : decode zo_Mo_noCar 16 = .ok (.goto 4, 3) := by decide +kernel
theorem zd_Mo_noCar_19 : decode zo_Mo_noCar 19 = .ok (.iconst 0, 1) := by decide +kernel
theorem zd_Mo_noCar_20 : decode zo_Mo_noCar 20 = .ok (.iconst 0, 1) := by decide +kernel
theorem zd_Mo_noCar_21 : decode zo_Mo_noCar 21 = .ok (.invokevirtual 73, 3) := by decide +kernel
theorem zd_Mo_noCar_24 : decode zo_Mo_noCar 24 = .ok (.ireturn, 1) := by decide +kernel
abbrev zo_Mo_curtain : ByteArray := prog_7_method_27_code
abbrev zy_Mo_curtain : MethodName := ⟨"LiftGroupModel", "curtain", "(IZ)V"⟩
theorem zd_Mo_curtain_0 : decode zo_Mo_curtain 0 = .ok (.aload_n 0, 1) := by decide +kernel
theorem zd_Mo_curtain_1 : decode zo_Mo_curtain 1 = .ok (.iload_n 1, 1) := by decide +kernel
theorem zd_Mo_curtain_2 : decode zo_Mo_curtain 2 = .ok (.invokevirtual 148, 3) := by decide +kernel
theorem zd_Mo_curtain_5 : decode zo_Mo_curtain 5 = .ok (.ifCond .ne 10, 3) := by decide +kernel
theorem zd_Mo_curtain_8 : decode zo_Mo_curtain 8 = .ok (.aload_n 0, 1) := by decide +kernel
theorem zd_Mo_curtain_9 : decode zo_Mo_curtain 9 = .ok (.getfield 42, 3) := by decide +kernel
theorem zd_Mo_curtain_12 : decode zo_Mo_curtain 12 = .ok (.iload_n 1, 1) := by decide +kernel
theorem zd_Mo_curtain_13 : decode zo_Mo_curtain 13 = .ok (.iload_n 2, 1) := by decide +kernel
theorem zd_Mo_curtain_14 : decode zo_Mo_curtain 14 = .ok (.bastore, 1) := by decide +kernel
theorem zd_Mo_curtain_15 : decode zo_Mo_curtain 15 = .ok (.return_, 1) := by decide +kernel
abbrev zo_Mo_changed : ByteArray := prog_7_method_28_code
abbrev zy_Mo_changed : MethodName := ⟨"LiftGroupModel", "changed", "(IZ)V"⟩
theorem zd_Mo_changed_0 : decode zo_Mo_changed 0 = .ok (.iload_n 2, 1) := by decide +kernel
theorem zd_Mo_changed_1 : decode zo_Mo_changed 1 = .ok (.ifCond .eq 19, 3) := by decide +kernel
theorem zd_Mo_changed_4 : decode zo_Mo_changed 4 = .ok (.aload_n 0, 1) := by decide +kernel
theorem zd_Mo_changed_5 : decode zo_Mo_changed 5 = .ok (.iload_n 1, 1) := by decide +kernel
theorem zd_Mo_changed_6 : decode zo_Mo_changed 6 = .ok (.invokevirtual 139, 3) := by decide +kernel
theorem zd_Mo_changed_9 : decode zo_Mo_changed 9 = .ok (.ifCond .ne 11, 3) := by decide +kernel
theorem zd_Mo_changed_12 : decode zo_Mo_changed 12 = .ok (.aload_n 0, 1) := by decide +kernel
theorem zd_Mo_changed_13 : decode zo_Mo_changed 13 = .ok (.iload_n 1, 1) := by decide +kernel
theorem zd_Mo_changed_14 : decode zo_Mo_changed 14 = .ok (.invokevirtual 151, 3) := by decide +kernel
theorem zd_Mo_changed_17 : decode zo_Mo_changed 17 = .ok (.goto 20, 3) := by decide +kernel
theorem zd_Mo_changed_20 : decode zo_Mo_changed 20 = .ok (.iload_n 2, 1) := by decide +kernel
theorem zd_Mo_changed_21 : decode zo_Mo_changed 21 = .ok (.ifCond .ne 16, 3) := by decide +kernel
theorem zd_Mo_changed_24 : decode zo_Mo_changed 24 = .ok (.aload_n 0, 1) := by decide +kernel
theorem zd_Mo_changed_25 : decode zo_Mo_changed 25 = .ok (.iload_n 1, 1) := by decide +kernel
theorem zd_Mo_changed_26 : decode zo_Mo_changed 26 = .ok (.invokevirtual 139, 3) := by decide +kernel
theorem zd_Mo_changed_29 : decode zo_Mo_changed 29 = .ok (.ifCond .eq 8, 3) := by decide +kernel
theorem zd_Mo_changed_32 : decode zo_Mo_changed 32 = .ok (.aload_n 0, 1) := by decide +kernel
theorem zd_Mo_changed_33 : decode zo_Mo_changed 33 = .ok (.iconst (-1), 1) := by decide +kernel
theorem zd_Mo_changed_34 : decode zo_Mo_changed 34 = .ok (.invokevirtual 151, 3) := by decide +kernel
theorem zd_Mo_changed_37 : decode zo_Mo_changed 37 = .ok (.return_, 1) := by decide +kernel
abbrev zo_Mo_lock : ByteArray := prog_7_method_29_code
abbrev zy_Mo_lock : MethodName := ⟨"LiftGroupModel", "lock", "(IZ)V"⟩
theorem zd_Mo_lock_0 : decode zo_Mo_lock 0 = .ok (.aload_n 0, 1) := by decide +kernel
theorem zd_Mo_lock_1 : decode zo_Mo_lock 1 = .ok (.iload_n 1, 1) := by decide +kernel
theorem zd_Mo_lock_2 : decode zo_Mo_lock 2 = .ok (.invokevirtual 148, 3) := by decide +kernel
theorem zd_Mo_lock_5 : decode zo_Mo_lock 5 = .ok (.ifCond .ne 22, 3) := by decide +kernel
theorem zd_Mo_lock_8 : decode zo_Mo_lock 8 = .ok (.aload_n 0, 1) := by decide +kernel
theorem zd_Mo_lock_9 : decode zo_Mo_lock 9 = .ok (.iload_n 1, 1) := by decide +kernel
theorem zd_Mo_lock_10 : decode zo_Mo_lock 10 = .ok (.invokevirtual 139, 3) := by decide +kernel
theorem zd_Mo_lock_13 : decode zo_Mo_lock 13 = .ok (.istore_n 3, 1) := by decide +kernel
theorem zd_Mo_lock_14 : decode zo_Mo_lock 14 = .ok (.aload_n 0, 1) := by decide +kernel
theorem zd_Mo_lock_15 : decode zo_Mo_lock 15 = .ok (.getfield 35, 3) := by decide +kernel
theorem zd_Mo_lock_18 : decode zo_Mo_lock 18 = .ok (.iload_n 1, 1) := by decide +kernel
theorem zd_Mo_lock_19 : decode zo_Mo_lock 19 = .ok (.iload_n 2, 1) := by decide +kernel
theorem zd_Mo_lock_20 : decode zo_Mo_lock 20 = .ok (.bastore, 1) := by decide +kernel
theorem zd_Mo_lock_21 : decode zo_Mo_lock 21 = .ok (.aload_n 0, 1) := by decide +kernel
theorem zd_Mo_lock_22 : decode zo_Mo_lock 22 = .ok (.iload_n 1, 1) := by decide +kernel
theorem zd_Mo_lock_23 : decode zo_Mo_lock 23 = .ok (.iload_n 3, 1) := by decide +kernel
theorem zd_Mo_lock_24 : decode zo_Mo_lock 24 = .ok (.invokevirtual 154, 3) := by decide +kernel
theorem zd_Mo_lock_27 : decode zo_Mo_lock 27 = .ok (.return_, 1) := by decide +kernel
abbrev zo_Mo_fail : ByteArray := prog_7_method_30_code
abbrev zy_Mo_fail : MethodName := ⟨"LiftGroupModel", "fail", "(IZ)V"⟩
theorem zd_Mo_fail_0 : decode zo_Mo_fail 0 = .ok (.aload_n 0, 1) := by decide +kernel
theorem zd_Mo_fail_1 : decode zo_Mo_fail 1 = .ok (.iload_n 1, 1) := by decide +kernel
theorem zd_Mo_fail_2 : decode zo_Mo_fail 2 = .ok (.invokevirtual 148, 3) := by decide +kernel
theorem zd_Mo_fail_5 : decode zo_Mo_fail 5 = .ok (.ifCond .ne 22, 3) := by decide +kernel
theorem zd_Mo_fail_8 : decode zo_Mo_fail 8 = .ok (.aload_n 0, 1) := by decide +kernel
theorem zd_Mo_fail_9 : decode zo_Mo_fail 9 = .ok (.iload_n 1, 1) := by decide +kernel
theorem zd_Mo_fail_10 : decode zo_Mo_fail 10 = .ok (.invokevirtual 139, 3) := by decide +kernel
theorem zd_Mo_fail_13 : decode zo_Mo_fail 13 = .ok (.istore_n 3, 1) := by decide +kernel
theorem zd_Mo_fail_14 : decode zo_Mo_fail 14 = .ok (.aload_n 0, 1) := by decide +kernel
theorem zd_Mo_fail_15 : decode zo_Mo_fail 15 = .ok (.getfield 39, 3) := by decide +kernel
theorem zd_Mo_fail_18 : decode zo_Mo_fail 18 = .ok (.iload_n 1, 1) := by decide +kernel
theorem zd_Mo_fail_19 : decode zo_Mo_fail 19 = .ok (.iload_n 2, 1) := by decide +kernel
theorem zd_Mo_fail_20 : decode zo_Mo_fail 20 = .ok (.bastore, 1) := by decide +kernel
theorem zd_Mo_fail_21 : decode zo_Mo_fail 21 = .ok (.aload_n 0, 1) := by decide +kernel
theorem zd_Mo_fail_22 : decode zo_Mo_fail 22 = .ok (.iload_n 1, 1) := by decide +kernel
theorem zd_Mo_fail_23 : decode zo_Mo_fail 23 = .ok (.iload_n 3, 1) := by decide +kernel
theorem zd_Mo_fail_24 : decode zo_Mo_fail 24 = .ok (.invokevirtual 154, 3) := by decide +kernel
theorem zd_Mo_fail_27 : decode zo_Mo_fail 27 = .ok (.return_, 1) := by decide +kernel
abbrev zo_Mo_recall : ByteArray := prog_7_method_31_code
abbrev zy_Mo_recall : MethodName := ⟨"LiftGroupModel", "recall", "(Z)V"⟩
theorem zd_Mo_recall_0 : decode zo_Mo_recall 0 = .ok (.aload_n 0, 1) := by decide +kernel
theorem zd_Mo_recall_1 : decode zo_Mo_recall 1 = .ok (.iconst 0, 1) := by decide +kernel
theorem zd_Mo_recall_2 : decode zo_Mo_recall 2 = .ok (.putfield 66, 3) := by decide +kernel
theorem zd_Mo_recall_5 : decode zo_Mo_recall 5 = .ok (.iload_n 1, 1) := by decide +kernel
theorem zd_Mo_recall_6 : decode zo_Mo_recall 6 = .ok (.aload_n 0, 1) := by decide +kernel
theorem zd_Mo_recall_7 : decode zo_Mo_recall 7 = .ok (.getfield 77, 3) := by decide +kernel
theorem zd_Mo_recall_10 : decode zo_Mo_recall 10 = .ok (.if_icmp .ne 4, 3) := by decide +kernel
theorem zd_Mo_recall_13 : decode zo_Mo_recall 13 = .ok (.return_, 1) := by decide +kernel
theorem zd_Mo_recall_14 : decode zo_Mo_recall 14 = .ok (.aload_n 0, 1) := by decide +kernel
theorem zd_Mo_recall_15 : decode zo_Mo_recall 15 = .ok (.iload_n 1, 1) := by decide +kernel
theorem zd_Mo_recall_16 : decode zo_Mo_recall 16 = .ok (.putfield 77, 3) := by decide +kernel
theorem zd_Mo_recall_19 : decode zo_Mo_recall 19 = .ok (.iload_n 1, 1) := by decide +kernel
theorem zd_Mo_recall_20 : decode zo_Mo_recall 20 = .ok (.ifCond .ne 9, 3) := by decide +kernel
theorem zd_Mo_recall_23 : decode zo_Mo_recall 23 = .ok (.aload_n 0, 1) := by decide +kernel
theorem zd_Mo_recall_24 : decode zo_Mo_recall 24 = .ok (.iconst (-1), 1) := by decide +kernel
theorem zd_Mo_recall_25 : decode zo_Mo_recall 25 = .ok (.invokevirtual 151, 3) := by decide +kernel
theorem zd_Mo_recall_28 : decode zo_Mo_recall 28 = .ok (.return_, 1) := by decide +kernel
theorem zd_Mo_recall_29 : decode zo_Mo_recall 29 = .ok (.iconst 0, 1) := by decide +kernel
theorem zd_Mo_recall_30 : decode zo_Mo_recall 30 = .ok (.istore_n 2, 1) := by decide +kernel
theorem zd_Mo_recall_31 : decode zo_Mo_recall 31 = .ok (.iload_n 2, 1) := by decide +kernel
theorem zd_Mo_recall_32 : decode zo_Mo_recall 32 = .ok (.aload_n 0, 1) := by decide +kernel
theorem zd_Mo_recall_33 : decode zo_Mo_recall 33 = .ok (.getfield 81, 3) := by decide +kernel
theorem zd_Mo_recall_36 : decode zo_Mo_recall 36 = .ok (.if_icmp .ge 34, 3) := by decide +kernel
theorem zd_Mo_recall_39 : decode zo_Mo_recall 39 = .ok (.aload_n 0, 1) := by decide +kernel
theorem zd_Mo_recall_40 : decode zo_Mo_recall 40 = .ok (.getfield 48, 3) := by decide +kernel
theorem zd_Mo_recall_43 : decode zo_Mo_recall 43 = .ok (.iload_n 2, 1) := by decide +kernel
theorem zd_Mo_recall_44 : decode zo_Mo_recall 44 = .ok (.aload_n 0, 1) := by decide +kernel
theorem zd_Mo_recall_45 : decode zo_Mo_recall 45 = .ok (.getfield 45, 3) := by decide +kernel
theorem zd_Mo_recall_48 : decode zo_Mo_recall 48 = .ok (.iload_n 2, 1) := by decide +kernel
theorem zd_Mo_recall_49 : decode zo_Mo_recall 49 = .ok (.iaload, 1) := by decide +kernel
theorem zd_Mo_recall_50 : decode zo_Mo_recall 50 = .ok (.ifCond .ne 7, 3) := by decide +kernel
theorem zd_Mo_recall_53 : decode zo_Mo_recall 53 = .ok (.iconst (-1), 1) := by decide +kernel
theorem zd_Mo_recall_54 : decode zo_Mo_recall 54 = .ok (.goto 9, 3) := by decide +kernel
theorem zd_Mo_recall_57 : decode zo_Mo_recall 57 = .ok (.aload_n 0, 1) := by decide +kernel
theorem zd_Mo_recall_58 : decode zo_Mo_recall 58 = .ok (.getfield 48, 3) := by decide +kernel
theorem zd_Mo_recall_61 : decode zo_Mo_recall 61 = .ok (.iload_n 2, 1) := by decide +kernel
theorem zd_Mo_recall_62 : decode zo_Mo_recall 62 = .ok (.iaload, 1) := by decide +kernel
theorem zd_Mo_recall_63 : decode zo_Mo_recall 63 = .ok (.iastore, 1) := by decide +kernel
theorem zd_Mo_recall_64 : decode zo_Mo_recall 64 = .ok (.iinc 2 1, 3) := by decide +kernel
theorem zd_Mo_recall_67 : decode zo_Mo_recall 67 = .ok (.goto (-36), 3) := by decide +kernel
theorem zd_Mo_recall_70 : decode zo_Mo_recall 70 = .ok (.return_, 1) := by decide +kernel
abbrev zo_Mo_car : ByteArray := prog_7_method_32_code
abbrev zy_Mo_car : MethodName := ⟨"LiftGroupModel", "car", "(II)I"⟩
theorem zd_Mo_car_0 : decode zo_Mo_car 0 = .ok (.aload_n 0, 1) := by decide +kernel
theorem zd_Mo_car_1 : decode zo_Mo_car 1 = .ok (.iload_n 1, 1) := by decide +kernel
theorem zd_Mo_car_2 : decode zo_Mo_car 2 = .ok (.iconst 0, 1) := by decide +kernel
theorem zd_Mo_car_3 : decode zo_Mo_car 3 = .ok (.aload_n 0, 1) := by decide +kernel
theorem zd_Mo_car_4 : decode zo_Mo_car 4 = .ok (.getfield 13, 3) := by decide +kernel
theorem zd_Mo_car_7 : decode zo_Mo_car 7 = .ok (.iconst 1, 1) := by decide +kernel
theorem zd_Mo_car_8 : decode zo_Mo_car 8 = .ok (.isub, 1) := by decide +kernel
theorem zd_Mo_car_9 : decode zo_Mo_car 9 = .ok (.invokestatic 69, 3) := by decide +kernel
theorem zd_Mo_car_12 : decode zo_Mo_car 12 = .ok (.ifCond .ne 7, 3) := by decide +kernel
theorem zd_Mo_car_15 : decode zo_Mo_car 15 = .ok (.iconst 1, 1) := by decide +kernel
theorem zd_Mo_car_16 : decode zo_Mo_car 16 = .ok (.goto 4, 3) := by decide +kernel
theorem zd_Mo_car_19 : decode zo_Mo_car 19 = .ok (.iconst 0, 1) := by decide +kernel
theorem zd_Mo_car_20 : decode zo_Mo_car 20 = .ok (.iload_n 2, 1) := by decide +kernel
theorem zd_Mo_car_21 : decode zo_Mo_car 21 = .ok (.iconst 0, 1) := by decide +kernel
theorem zd_Mo_car_22 : decode zo_Mo_car 22 = .ok (.iconst 5, 1) := by decide +kernel
theorem zd_Mo_car_23 : decode zo_Mo_car 23 = .ok (.invokestatic 69, 3) := by decide +kernel
theorem zd_Mo_car_26 : decode zo_Mo_car 26 = .ok (.ifCond .ne 7, 3) := by decide +kernel
theorem zd_Mo_car_29 : decode zo_Mo_car 29 = .ok (.iconst 1, 1) := by decide +kernel
theorem zd_Mo_car_30 : decode zo_Mo_car 30 = .ok (.goto 4, 3) := by decide +kernel
theorem zd_Mo_car_33 : decode zo_Mo_car 33 = .ok (.iconst 0, 1) := by decide +kernel
theorem zd_Mo_car_34 : decode zo_Mo_car 34 = .ok (.invokevirtual 73, 3) := by decide +kernel
theorem zd_Mo_car_37 : decode zo_Mo_car 37 = .ok (.ifCond .eq 5, 3) := by decide +kernel
theorem zd_Mo_car_40 : decode zo_Mo_car 40 = .ok (.iconst 0, 1) := by decide +kernel
theorem zd_Mo_car_41 : decode zo_Mo_car 41 = .ok (.ireturn, 1) := by decide +kernel
theorem zd_Mo_car_42 : decode zo_Mo_car 42 = .ok (.iload_n 2, 1) := by decide +kernel
theorem zd_Mo_car_43 : decode zo_Mo_car 43 = .ok (.tableswitch 81 0 4 #[33, 40, 47, 54, 74], 33) := by decide +kernel
theorem zd_Mo_car_76 : decode zo_Mo_car 76 = .ok (.aload_n 0, 1) := by decide +kernel
theorem zd_Mo_car_77 : decode zo_Mo_car 77 = .ok (.getfield 19, 3) := by decide +kernel
theorem zd_Mo_car_80 : decode zo_Mo_car 80 = .ok (.iload_n 1, 1) := by decide +kernel
theorem zd_Mo_car_81 : decode zo_Mo_car 81 = .ok (.iaload, 1) := by decide +kernel
theorem zd_Mo_car_82 : decode zo_Mo_car 82 = .ok (.ireturn, 1) := by decide +kernel
theorem zd_Mo_car_83 : decode zo_Mo_car 83 = .ok (.aload_n 0, 1) := by decide +kernel
theorem zd_Mo_car_84 : decode zo_Mo_car 84 = .ok (.getfield 23, 3) := by decide +kernel
theorem zd_Mo_car_87 : decode zo_Mo_car 87 = .ok (.iload_n 1, 1) := by decide +kernel
theorem zd_Mo_car_88 : decode zo_Mo_car 88 = .ok (.iaload, 1) := by decide +kernel
theorem zd_Mo_car_89 : decode zo_Mo_car 89 = .ok (.ireturn, 1) := by decide +kernel
theorem zd_Mo_car_90 : decode zo_Mo_car 90 = .ok (.aload_n 0, 1) := by decide +kernel
theorem zd_Mo_car_91 : decode zo_Mo_car 91 = .ok (.getfield 26, 3) := by decide +kernel
theorem zd_Mo_car_94 : decode zo_Mo_car 94 = .ok (.iload_n 1, 1) := by decide +kernel
theorem zd_Mo_car_95 : decode zo_Mo_car 95 = .ok (.iaload, 1) := by decide +kernel
theorem zd_Mo_car_96 : decode zo_Mo_car 96 = .ok (.ireturn, 1) := by decide +kernel
theorem zd_Mo_car_97 : decode zo_Mo_car 97 = .ok (.aload_n 0, 1) := by decide +kernel
theorem zd_Mo_car_98 : decode zo_Mo_car 98 = .ok (.getfield 26, 3) := by decide +kernel
theorem zd_Mo_car_101 : decode zo_Mo_car 101 = .ok (.iload_n 1, 1) := by decide +kernel
theorem zd_Mo_car_102 : decode zo_Mo_car 102 = .ok (.iaload, 1) := by decide +kernel
theorem zd_Mo_car_103 : decode zo_Mo_car 103 = .ok (.ifCond .ne 7, 3) := by decide +kernel
theorem zd_Mo_car_106 : decode zo_Mo_car 106 = .ok (.iconst 0, 1) := by decide +kernel
theorem zd_Mo_car_107 : decode zo_Mo_car 107 = .ok (.goto 9, 3) := by decide +kernel
theorem zd_Mo_car_110 : decode zo_Mo_car 110 = .ok (.aload_n 0, 1) := by decide +kernel
theorem zd_Mo_car_111 : decode zo_Mo_car 111 = .ok (.getfield 29, 3) := by decide +kernel
theorem zd_Mo_car_114 : decode zo_Mo_car 114 = .ok (.iload_n 1, 1) := by decide +kernel
theorem zd_Mo_car_115 : decode zo_Mo_car 115 = .ok (.iaload, 1) := by decide +kernel
theorem zd_Mo_car_116 : decode zo_Mo_car 116 = .ok (.ireturn, 1) := by decide +kernel
theorem zd_Mo_car_117 : decode zo_Mo_car 117 = .ok (.aload_n 0, 1) := by decide +kernel
theorem zd_Mo_car_118 : decode zo_Mo_car 118 = .ok (.iload_n 1, 1) := by decide +kernel
theorem zd_Mo_car_119 : decode zo_Mo_car 119 = .ok (.iconst 0, 1) := by decide +kernel
theorem zd_Mo_car_120 : decode zo_Mo_car 120 = .ok (.invokevirtual 90, 3) := by decide +kernel
theorem zd_Mo_car_123 : decode zo_Mo_car 123 = .ok (.ireturn, 1) := by decide +kernel
theorem zd_Mo_car_124 : decode zo_Mo_car 124 = .ok (.aload_n 0, 1) := by decide +kernel
theorem zd_Mo_car_125 : decode zo_Mo_car 125 = .ok (.getfield 35, 3) := by decide +kernel
theorem zd_Mo_car_128 : decode zo_Mo_car 128 = .ok (.iload_n 1, 1) := by decide +kernel
theorem zd_Mo_car_129 : decode zo_Mo_car 129 = .ok (.baload, 1) := by decide +kernel
theorem zd_Mo_car_130 : decode zo_Mo_car 130 = .ok (.ifCond .eq 7, 3) := by decide +kernel
theorem zd_Mo_car_133 : decode zo_Mo_car 133 = .ok (.iconst 1, 1) := by decide +kernel
theorem zd_Mo_car_134 : decode zo_Mo_car 134 = .ok (.goto 4, 3) := by decide +kernel
theorem zd_Mo_car_137 : decode zo_Mo_car 137 = .ok (.iconst 0, 1) := by decide +kernel
theorem zd_Mo_car_138 : decode zo_Mo_car 138 = .ok (.aload_n 0, 1) := by decide +kernel
theorem zd_Mo_car_139 : decode zo_Mo_car 139 = .ok (.getfield 39, 3) := by decide +kernel
theorem zd_Mo_car_142 : decode zo_Mo_car 142 = .ok (.iload_n 1, 1) := by decide +kernel
theorem zd_Mo_car_143 : decode zo_Mo_car 143 = .ok (.baload, 1) := by decide +kernel
theorem zd_Mo_car_144 : decode zo_Mo_car 144 = .ok (.ifCond .eq 7, 3) := by decide +kernel
theorem zd_Mo_car_147 : decode zo_Mo_car 147 = .ok (.iconst 2, 1) := by decide +kernel
theorem zd_Mo_car_148 : decode zo_Mo_car 148 = .ok (.goto 4, 3) := by decide +kernel
theorem zd_Mo_car_151 : decode zo_Mo_car 151 = .ok (.iconst 0, 1) := by decide +kernel
theorem zd_Mo_car_152 : decode zo_Mo_car 152 = .ok (.iadd, 1) := by decide +kernel
theorem zd_Mo_car_153 : decode zo_Mo_car 153 = .ok (.aload_n 0, 1) := by decide +kernel
theorem zd_Mo_car_154 : decode zo_Mo_car 154 = .ok (.getfield 42, 3) := by decide +kernel
theorem zd_Mo_car_157 : decode zo_Mo_car 157 = .ok (.iload_n 1, 1) := by decide +kernel
theorem zd_Mo_car_158 : decode zo_Mo_car 158 = .ok (.baload, 1) := by decide +kernel
theorem zd_Mo_car_159 : decode zo_Mo_car 159 = .ok (.ifCond .eq 7, 3) := by decide +kernel
theorem zd_Mo_car_162 : decode zo_Mo_car 162 = .ok (.iconst 4, 1) := by decide +kernel
theorem zd_Mo_car_163 : decode zo_Mo_car 163 = .ok (.goto 4, 3) := by decide +kernel
theorem zd_Mo_car_166 : decode zo_Mo_car 166 = .ok (.iconst 0, 1) := by decide +kernel
theorem zd_Mo_car_167 : decode zo_Mo_car 167 = .ok (.iadd, 1) := by decide +kernel
theorem zd_Mo_car_168 : decode zo_Mo_car 168 = .ok (.ireturn, 1) := by decide +kernel
abbrev zo_Mo_stop : ByteArray := prog_7_method_33_code
abbrev zy_Mo_stop : MethodName := ⟨"LiftGroupModel", "stop", "(II)Z"⟩
theorem zd_Mo_stop_0 : decode zo_Mo_stop 0 = .ok (.aload_n 0, 1) := by decide +kernel
theorem zd_Mo_stop_1 : decode zo_Mo_stop 1 = .ok (.iload_n 1, 1) := by decide +kernel
theorem zd_Mo_stop_2 : decode zo_Mo_stop 2 = .ok (.iconst 0, 1) := by decide +kernel
theorem zd_Mo_stop_3 : decode zo_Mo_stop 3 = .ok (.aload_n 0, 1) := by decide +kernel
theorem zd_Mo_stop_4 : decode zo_Mo_stop 4 = .ok (.getfield 13, 3) := by decide +kernel
theorem zd_Mo_stop_7 : decode zo_Mo_stop 7 = .ok (.iconst 1, 1) := by decide +kernel
theorem zd_Mo_stop_8 : decode zo_Mo_stop 8 = .ok (.isub, 1) := by decide +kernel
theorem zd_Mo_stop_9 : decode zo_Mo_stop 9 = .ok (.invokestatic 69, 3) := by decide +kernel
theorem zd_Mo_stop_12 : decode zo_Mo_stop 12 = .ok (.ifCond .ne 7, 3) := by decide +kernel
theorem zd_Mo_stop_15 : decode zo_Mo_stop 15 = .ok (.iconst 1, 1) := by decide +kernel
theorem zd_Mo_stop_16 : decode zo_Mo_stop 16 = .ok (.goto 4, 3) := by decide +kernel
theorem zd_Mo_stop_19 : decode zo_Mo_stop 19 = .ok (.iconst 0, 1) := by decide +kernel
theorem zd_Mo_stop_20 : decode zo_Mo_stop 20 = .ok (.iload_n 2, 1) := by decide +kernel
theorem zd_Mo_stop_21 : decode zo_Mo_stop 21 = .ok (.iconst 0, 1) := by decide +kernel
theorem zd_Mo_stop_22 : decode zo_Mo_stop 22 = .ok (.aload_n 0, 1) := by decide +kernel
theorem zd_Mo_stop_23 : decode zo_Mo_stop 23 = .ok (.getfield 7, 3) := by decide +kernel
theorem zd_Mo_stop_26 : decode zo_Mo_stop 26 = .ok (.iconst 1, 1) := by decide +kernel
theorem zd_Mo_stop_27 : decode zo_Mo_stop 27 = .ok (.isub, 1) := by decide +kernel
theorem zd_Mo_stop_28 : decode zo_Mo_stop 28 = .ok (.invokestatic 69, 3) := by decide +kernel
theorem zd_Mo_stop_31 : decode zo_Mo_stop 31 = .ok (.ifCond .ne 7, 3) := by decide +kernel
theorem zd_Mo_stop_34 : decode zo_Mo_stop 34 = .ok (.iconst 1, 1) := by decide +kernel
theorem zd_Mo_stop_35 : decode zo_Mo_stop 35 = .ok (.goto 4, 3) := by decide +kernel
theorem zd_Mo_stop_38 : decode zo_Mo_stop 38 = .ok (.iconst 0, 1) := by decide +kernel
theorem zd_Mo_stop_39 : decode zo_Mo_stop 39 = .ok (.invokevirtual 73, 3) := by decide +kernel
theorem zd_Mo_stop_42 : decode zo_Mo_stop 42 = .ok (.ifCond .eq 5, 3) := by decide +kernel
theorem zd_Mo_stop_45 : decode zo_Mo_stop 45 = .ok (.iconst 0, 1) := by decide +kernel
theorem zd_Mo_stop_46 : decode zo_Mo_stop 46 = .ok (.ireturn, 1) := by decide +kernel
theorem zd_Mo_stop_47 : decode zo_Mo_stop 47 = .ok (.aload_n 0, 1) := by decide +kernel
theorem zd_Mo_stop_48 : decode zo_Mo_stop 48 = .ok (.iload_n 1, 1) := by decide +kernel
theorem zd_Mo_stop_49 : decode zo_Mo_stop 49 = .ok (.iload_n 2, 1) := by decide +kernel
theorem zd_Mo_stop_50 : decode zo_Mo_stop 50 = .ok (.iconst 0, 1) := by decide +kernel
theorem zd_Mo_stop_51 : decode zo_Mo_stop 51 = .ok (.invokevirtual 94, 3) := by decide +kernel
theorem zd_Mo_stop_54 : decode zo_Mo_stop 54 = .ok (.ireturn, 1) := by decide +kernel
abbrev zo_Mo_worst : ByteArray := prog_7_method_34_code
abbrev zy_Mo_worst : MethodName := ⟨"LiftGroupModel", "worst", "(I)I"⟩
theorem zd_Mo_worst_0 : decode zo_Mo_worst 0 = .ok (.aload_n 0, 1) := by decide +kernel
theorem zd_Mo_worst_1 : decode zo_Mo_worst 1 = .ok (.iload_n 1, 1) := by decide +kernel
theorem zd_Mo_worst_2 : decode zo_Mo_worst 2 = .ok (.invokevirtual 148, 3) := by decide +kernel
theorem zd_Mo_worst_5 : decode zo_Mo_worst 5 = .ok (.ifCond .eq 5, 3) := by decide +kernel
theorem zd_Mo_worst_8 : decode zo_Mo_worst 8 = .ok (.iconst 0, 1) := by decide +kernel
theorem zd_Mo_worst_9 : decode zo_Mo_worst 9 = .ok (.ireturn, 1) := by decide +kernel
theorem zd_Mo_worst_10 : decode zo_Mo_worst 10 = .ok (.aload_n 0, 1) := by decide +kernel
theorem zd_Mo_worst_11 : decode zo_Mo_worst 11 = .ok (.iload_n 1, 1) := by decide +kernel
theorem zd_Mo_worst_12 : decode zo_Mo_worst 12 = .ok (.invokevirtual 142, 3) := by decide +kernel
theorem zd_Mo_worst_15 : decode zo_Mo_worst 15 = .ok (.ireturn, 1) := by decide +kernel
abbrev zo_Mo_rider : ByteArray := prog_7_method_35_code
abbrev zy_Mo_rider : MethodName := ⟨"LiftGroupModel", "rider", "(II)I"⟩
theorem zd_Mo_rider_0 : decode zo_Mo_rider 0 = .ok (.aload_n 0, 1) := by decide +kernel
theorem zd_Mo_rider_1 : decode zo_Mo_rider 1 = .ok (.iload_n 1, 1) := by decide +kernel
theorem zd_Mo_rider_2 : decode zo_Mo_rider 2 = .ok (.iconst 0, 1) := by decide +kernel
theorem zd_Mo_rider_3 : decode zo_Mo_rider 3 = .ok (.aload_n 0, 1) := by decide +kernel
theorem zd_Mo_rider_4 : decode zo_Mo_rider 4 = .ok (.getfield 81, 3) := by decide +kernel
theorem zd_Mo_rider_7 : decode zo_Mo_rider 7 = .ok (.iconst 1, 1) := by decide +kernel
theorem zd_Mo_rider_8 : decode zo_Mo_rider 8 = .ok (.isub, 1) := by decide +kernel
theorem zd_Mo_rider_9 : decode zo_Mo_rider 9 = .ok (.invokestatic 69, 3) := by decide +kernel
theorem zd_Mo_rider_12 : decode zo_Mo_rider 12 = .ok (.ifCond .ne 7, 3) := by decide +kernel
theorem zd_Mo_rider_15 : decode zo_Mo_rider 15 = .ok (.iconst 1, 1) := by decide +kernel
theorem zd_Mo_rider_16 : decode zo_Mo_rider 16 = .ok (.goto 4, 3) := by decide +kernel
theorem zd_Mo_rider_19 : decode zo_Mo_rider 19 = .ok (.iconst 0, 1) := by decide +kernel
theorem zd_Mo_rider_20 : decode zo_Mo_rider 20 = .ok (.iload_n 2, 1) := by decide +kernel
theorem zd_Mo_rider_21 : decode zo_Mo_rider 21 = .ok (.iconst 0, 1) := by decide +kernel
theorem zd_Mo_rider_22 : decode zo_Mo_rider 22 = .ok (.iconst 4, 1) := by decide +kernel
theorem zd_Mo_rider_23 : decode zo_Mo_rider 23 = .ok (.invokestatic 69, 3) := by decide +kernel
theorem zd_Mo_rider_26 : decode zo_Mo_rider 26 = .ok (.ifCond .ne 7, 3) := by decide +kernel
theorem zd_Mo_rider_29 : decode zo_Mo_rider 29 = .ok (.iconst 1, 1) := by decide +kernel
theorem zd_Mo_rider_30 : decode zo_Mo_rider 30 = .ok (.goto 4, 3) := by decide +kernel
theorem zd_Mo_rider_33 : decode zo_Mo_rider 33 = .ok (.iconst 0, 1) := by decide +kernel
theorem zd_Mo_rider_34 : decode zo_Mo_rider 34 = .ok (.invokevirtual 73, 3) := by decide +kernel
theorem zd_Mo_rider_37 : decode zo_Mo_rider 37 = .ok (.ifCond .eq 5, 3) := by decide +kernel
theorem zd_Mo_rider_40 : decode zo_Mo_rider 40 = .ok (.iconst 0, 1) := by decide +kernel
theorem zd_Mo_rider_41 : decode zo_Mo_rider 41 = .ok (.ireturn, 1) := by decide +kernel
theorem zd_Mo_rider_42 : decode zo_Mo_rider 42 = .ok (.iload_n 2, 1) := by decide +kernel
theorem zd_Mo_rider_43 : decode zo_Mo_rider 43 = .ok (.tableswitch 57 0 3 #[29, 36, 43, 50], 29) := by decide +kernel
theorem zd_Mo_rider_72 : decode zo_Mo_rider 72 = .ok (.aload_n 0, 1) := by decide +kernel
theorem zd_Mo_rider_73 : decode zo_Mo_rider 73 = .ok (.getfield 45, 3) := by decide +kernel
theorem zd_Mo_rider_76 : decode zo_Mo_rider 76 = .ok (.iload_n 1, 1) := by decide +kernel
theorem zd_Mo_rider_77 : decode zo_Mo_rider 77 = .ok (.iaload, 1) := by decide +kernel
theorem zd_Mo_rider_78 : decode zo_Mo_rider 78 = .ok (.ireturn, 1) := by decide +kernel
theorem zd_Mo_rider_79 : decode zo_Mo_rider 79 = .ok (.aload_n 0, 1) := by decide +kernel
theorem zd_Mo_rider_80 : decode zo_Mo_rider 80 = .ok (.getfield 48, 3) := by decide +kernel
theorem zd_Mo_rider_83 : decode zo_Mo_rider 83 = .ok (.iload_n 1, 1) := by decide +kernel
theorem zd_Mo_rider_84 : decode zo_Mo_rider 84 = .ok (.iaload, 1) := by decide +kernel
theorem zd_Mo_rider_85 : decode zo_Mo_rider 85 = .ok (.ireturn, 1) := by decide +kernel
theorem zd_Mo_rider_86 : decode zo_Mo_rider 86 = .ok (.aload_n 0, 1) := by decide +kernel
theorem zd_Mo_rider_87 : decode zo_Mo_rider 87 = .ok (.getfield 51, 3) := by decide +kernel
theorem zd_Mo_rider_90 : decode zo_Mo_rider 90 = .ok (.iload_n 1, 1) := by decide +kernel
theorem zd_Mo_rider_91 : decode zo_Mo_rider 91 = .ok (.iaload, 1) := by decide +kernel
theorem zd_Mo_rider_92 : decode zo_Mo_rider 92 = .ok (.ireturn, 1) := by decide +kernel
theorem zd_Mo_rider_93 : decode zo_Mo_rider 93 = .ok (.aload_n 0, 1) := by decide +kernel
theorem zd_Mo_rider_94 : decode zo_Mo_rider 94 = .ok (.getfield 54, 3) := by decide +kernel
theorem zd_Mo_rider_97 : decode zo_Mo_rider 97 = .ok (.iload_n 1, 1) := by decide +kernel
theorem zd_Mo_rider_98 : decode zo_Mo_rider 98 = .ok (.iaload, 1) := by decide +kernel
theorem zd_Mo_rider_99 : decode zo_Mo_rider 99 = .ok (.ireturn, 1) := by decide +kernel
theorem zd_Mo_rider_100 : decode zo_Mo_rider 100 = .ok (.aload_n 0, 1) := by decide +kernel
theorem zd_Mo_rider_101 : decode zo_Mo_rider 101 = .ok (.getfield 45, 3) := by decide +kernel
theorem zd_Mo_rider_104 : decode zo_Mo_rider 104 = .ok (.iload_n 1, 1) := by decide +kernel
theorem zd_Mo_rider_105 : decode zo_Mo_rider 105 = .ok (.iaload, 1) := by decide +kernel
theorem zd_Mo_rider_106 : decode zo_Mo_rider 106 = .ok (.iconst 2, 1) := by decide +kernel
theorem zd_Mo_rider_107 : decode zo_Mo_rider 107 = .ok (.if_icmp .ge 17, 3) := by decide +kernel
theorem zd_Mo_rider_110 : decode zo_Mo_rider 110 = .ok (.aload_n 0, 1) := by decide +kernel
theorem zd_Mo_rider_111 : decode zo_Mo_rider 111 = .ok (.getfield 84, 3) := by decide +kernel
theorem zd_Mo_rider_114 : decode zo_Mo_rider 114 = .ok (.aload_n 0, 1) := by decide +kernel
theorem zd_Mo_rider_115 : decode zo_Mo_rider 115 = .ok (.getfield 57, 3) := by decide +kernel
theorem zd_Mo_rider_118 : decode zo_Mo_rider 118 = .ok (.iload_n 1, 1) := by decide +kernel
theorem zd_Mo_rider_119 : decode zo_Mo_rider 119 = .ok (.iaload, 1) := by decide +kernel
theorem zd_Mo_rider_120 : decode zo_Mo_rider 120 = .ok (.isub, 1) := by decide +kernel
theorem zd_Mo_rider_121 : decode zo_Mo_rider 121 = .ok (.goto 9, 3) := by decide +kernel
theorem zd_Mo_rider_124 : decode zo_Mo_rider 124 = .ok (.aload_n 0, 1) := by decide +kernel
theorem zd_Mo_rider_125 : decode zo_Mo_rider 125 = .ok (.getfield 60, 3) := by decide +kernel
theorem zd_Mo_rider_128 : decode zo_Mo_rider 128 = .ok (.iload_n 1, 1) := by decide +kernel
theorem zd_Mo_rider_129 : decode zo_Mo_rider 129 = .ok (.iaload, 1) := by decide +kernel
theorem zd_Mo_rider_130 : decode zo_Mo_rider 130 = .ok (.ireturn, 1) := by decide +kernel
abbrev zo_Mo_promise : ByteArray := prog_7_method_36_code
abbrev zy_Mo_promise : MethodName := ⟨"LiftGroupModel", "promise", "(I)I"⟩
theorem zd_Mo_promise_0 : decode zo_Mo_promise 0 = .ok (.aload_n 0, 1) := by decide +kernel
theorem zd_Mo_promise_1 : decode zo_Mo_promise 1 = .ok (.iload_n 1, 1) := by decide +kernel
theorem zd_Mo_promise_2 : decode zo_Mo_promise 2 = .ok (.iconst 0, 1) := by decide +kernel
theorem zd_Mo_promise_3 : decode zo_Mo_promise 3 = .ok (.aload_n 0, 1) := by decide +kernel
theorem zd_Mo_promise_4 : decode zo_Mo_promise 4 = .ok (.getfield 81, 3) := by decide +kernel
theorem zd_Mo_promise_7 : decode zo_Mo_promise 7 = .ok (.iconst 1, 1) := by decide +kernel
theorem zd_Mo_promise_8 : decode zo_Mo_promise 8 = .ok (.isub, 1) := by decide +kernel
theorem zd_Mo_promise_9 : decode zo_Mo_promise 9 = .ok (.invokestatic 69, 3) := by decide +kernel
theorem zd_Mo_promise_12 : decode zo_Mo_promise 12 = .ok (.ifCond .ne 7, 3) := by decide +kernel
theorem zd_Mo_promise_15 : decode zo_Mo_promise 15 = .ok (.iconst 1, 1) := by decide +kernel
theorem zd_Mo_promise_16 : decode zo_Mo_promise 16 = .ok (.goto 4, 3) := by decide +kernel
theorem zd_Mo_promise_19 : decode zo_Mo_promise 19 = .ok (.iconst 0, 1) := by decide +kernel
theorem zd_Mo_promise_20 : decode zo_Mo_promise 20 = .ok (.iconst 0, 1) := by decide +kernel
theorem zd_Mo_promise_21 : decode zo_Mo_promise 21 = .ok (.invokevirtual 73, 3) := by decide +kernel
theorem zd_Mo_promise_24 : decode zo_Mo_promise 24 = .ok (.ifCond .eq 5, 3) := by decide +kernel
theorem zd_Mo_promise_27 : decode zo_Mo_promise 27 = .ok (.iconst 0, 1) := by decide +kernel
theorem zd_Mo_promise_28 : decode zo_Mo_promise 28 = .ok (.ireturn, 1) := by decide +kernel
theorem zd_Mo_promise_29 : decode zo_Mo_promise 29 = .ok (.aload_n 0, 1) := by decide +kernel
theorem zd_Mo_promise_30 : decode zo_Mo_promise 30 = .ok (.iload_n 1, 1) := by decide +kernel
theorem zd_Mo_promise_31 : decode zo_Mo_promise 31 = .ok (.invokevirtual 132, 3) := by decide +kernel
theorem zd_Mo_promise_34 : decode zo_Mo_promise 34 = .ok (.ifCond .eq 11, 3) := by decide +kernel
theorem zd_Mo_promise_37 : decode zo_Mo_promise 37 = .ok (.aload_n 0, 1) := by decide +kernel
theorem zd_Mo_promise_38 : decode zo_Mo_promise 38 = .ok (.iload_n 1, 1) := by decide +kernel
theorem zd_Mo_promise_39 : decode zo_Mo_promise 39 = .ok (.invokevirtual 135, 3) := by decide +kernel
theorem zd_Mo_promise_42 : decode zo_Mo_promise 42 = .ok (.goto 4, 3) := by decide +kernel
theorem zd_Mo_promise_45 : decode zo_Mo_promise 45 = .ok (.iconst (-1), 1) := by decide +kernel
theorem zd_Mo_promise_46 : decode zo_Mo_promise 46 = .ok (.ireturn, 1) := by decide +kernel
abbrev zo_Mo_event : ByteArray := prog_7_method_37_code
abbrev zy_Mo_event : MethodName := ⟨"LiftGroupModel", "event", "(II)I"⟩
theorem zd_Mo_event_0 : decode zo_Mo_event 0 = .ok (.aload_n 0, 1) := by decide +kernel
theorem zd_Mo_event_1 : decode zo_Mo_event 1 = .ok (.getfield 87, 3) := by decide +kernel
theorem zd_Mo_event_4 : decode zo_Mo_event 4 = .ok (.bipush 30, 2) := by decide +kernel
theorem zd_Mo_event_6 : decode zo_Mo_event 6 = .ok (.if_icmp .ge 10, 3) := by decide +kernel
theorem zd_Mo_event_9 : decode zo_Mo_event 9 = .ok (.aload_n 0, 1) := by decide +kernel
theorem zd_Mo_event_10 : decode zo_Mo_event 10 = .ok (.getfield 87, 3) := by decide +kernel
theorem zd_Mo_event_13 : decode zo_Mo_event 13 = .ok (.goto 5, 3) := by decide +kernel
theorem zd_Mo_event_16 : decode zo_Mo_event 16 = .ok (.bipush 30, 2) := by decide +kernel
theorem zd_Mo_event_18 : decode zo_Mo_event 18 = .ok (.istore_n 3, 1) := by decide +kernel
theorem zd_Mo_event_19 : decode zo_Mo_event 19 = .ok (.aload_n 0, 1) := by decide +kernel
theorem zd_Mo_event_20 : decode zo_Mo_event 20 = .ok (.iload_n 1, 1) := by decide +kernel
theorem zd_Mo_event_21 : decode zo_Mo_event 21 = .ok (.iconst 0, 1) := by decide +kernel
theorem zd_Mo_event_22 : decode zo_Mo_event 22 = .ok (.iload_n 3, 1) := by decide +kernel
theorem zd_Mo_event_23 : decode zo_Mo_event 23 = .ok (.iconst 1, 1) := by decide +kernel
theorem zd_Mo_event_24 : decode zo_Mo_event 24 = .ok (.isub, 1) := by decide +kernel
theorem zd_Mo_event_25 : decode zo_Mo_event 25 = .ok (.invokestatic 69, 3) := by decide +kernel
theorem zd_Mo_event_28 : decode zo_Mo_event 28 = .ok (.ifCond .ne 7, 3) := by decide +kernel
theorem zd_Mo_event_31 : decode zo_Mo_event 31 = .ok (.iconst 1, 1) := by decide +kernel
theorem zd_Mo_event_32 : decode zo_Mo_event 32 = .ok (.goto 4, 3) := by decide +kernel
theorem zd_Mo_event_35 : decode zo_Mo_event 35 = .ok (.iconst 0, 1) := by decide +kernel
theorem zd_Mo_event_36 : decode zo_Mo_event 36 = .ok (.iload_n 2, 1) := by decide +kernel
theorem zd_Mo_event_37 : decode zo_Mo_event 37 = .ok (.iconst 0, 1) := by decide +kernel
theorem zd_Mo_event_38 : decode zo_Mo_event 38 = .ok (.iconst 3, 1) := by decide +kernel
theorem zd_Mo_event_39 : decode zo_Mo_event 39 = .ok (.invokestatic 69, 3) := by decide +kernel
theorem zd_Mo_event_42 : decode zo_Mo_event 42 = .ok (.ifCond .ne 7, 3) := by decide +kernel
theorem zd_Mo_event_45 : decode zo_Mo_event 45 = .ok (.iconst 1, 1) := by decide +kernel
theorem zd_Mo_event_46 : decode zo_Mo_event 46 = .ok (.goto 4, 3) := by decide +kernel
theorem zd_Mo_event_49 : decode zo_Mo_event 49 = .ok (.iconst 0, 1) := by decide +kernel
theorem zd_Mo_event_50 : decode zo_Mo_event 50 = .ok (.invokevirtual 73, 3) := by decide +kernel
theorem zd_Mo_event_53 : decode zo_Mo_event 53 = .ok (.ifCond .eq 5, 3) := by decide +kernel
theorem zd_Mo_event_56 : decode zo_Mo_event 56 = .ok (.iconst 0, 1) := by decide +kernel
theorem zd_Mo_event_57 : decode zo_Mo_event 57 = .ok (.ireturn, 1) := by decide +kernel
theorem zd_Mo_event_58 : decode zo_Mo_event 58 = .ok (.aload_n 0, 1) := by decide +kernel
theorem zd_Mo_event_59 : decode zo_Mo_event 59 = .ok (.getfield 63, 3) := by decide +kernel
theorem zd_Mo_event_62 : decode zo_Mo_event 62 = .ok (.aload_n 0, 1) := by decide +kernel
theorem zd_Mo_event_63 : decode zo_Mo_event 63 = .ok (.getfield 87, 3) := by decide +kernel
theorem zd_Mo_event_66 : decode zo_Mo_event 66 = .ok (.iload_n 3, 1) := by decide +kernel
theorem zd_Mo_event_67 : decode zo_Mo_event 67 = .ok (.isub, 1) := by decide +kernel
theorem zd_Mo_event_68 : decode zo_Mo_event 68 = .ok (.iload_n 1, 1) := by decide +kernel
theorem zd_Mo_event_69 : decode zo_Mo_event 69 = .ok (.iadd, 1) := by decide +kernel
theorem zd_Mo_event_70 : decode zo_Mo_event 70 = .ok (.bipush 30, 2) := by decide +kernel
theorem zd_Mo_event_72 : decode zo_Mo_event 72 = .ok (.irem, 1) := by decide +kernel
theorem zd_Mo_event_73 : decode zo_Mo_event 73 = .ok (.iconst 4, 1) := by decide +kernel
theorem zd_Mo_event_74 : decode zo_Mo_event 74 = .ok (.imul, 1) := by decide +kernel
theorem zd_Mo_event_75 : decode zo_Mo_event 75 = .ok (.iload_n 2, 1) := by decide +kernel
theorem zd_Mo_event_76 : decode zo_Mo_event 76 = .ok (.iadd, 1) := by decide +kernel
theorem zd_Mo_event_77 : decode zo_Mo_event 77 = .ok (.iaload, 1) := by decide +kernel
theorem zd_Mo_event_78 : decode zo_Mo_event 78 = .ok (.ireturn, 1) := by decide +kernel
abbrev zo_Mo_about : ByteArray := prog_7_method_38_code
abbrev zy_Mo_about : MethodName := ⟨"LiftGroupModel", "about", "(I)I"⟩
theorem zd_Mo_about_0 : decode zo_Mo_about 0 = .ok (.aload_n 0, 1) := by decide +kernel
theorem zd_Mo_about_1 : decode zo_Mo_about 1 = .ok (.iconst 0, 1) := by decide +kernel
theorem zd_Mo_about_2 : decode zo_Mo_about 2 = .ok (.putfield 66, 3) := by decide +kernel
theorem zd_Mo_about_5 : decode zo_Mo_about 5 = .ok (.iconst 0, 1) := by decide +kernel
theorem zd_Mo_about_6 : decode zo_Mo_about 6 = .ok (.istore_n 2, 1) := by decide +kernel
theorem zd_Mo_about_7 : decode zo_Mo_about 7 = .ok (.iconst 0, 1) := by decide +kernel
theorem zd_Mo_about_8 : decode zo_Mo_about 8 = .ok (.istore_n 3, 1) := by decide +kernel
theorem zd_Mo_about_9 : decode zo_Mo_about 9 = .ok (.iconst 0, 1) := by decide +kernel
theorem zd_Mo_about_10 : decode zo_Mo_about 10 = .ok (.istore 4, 2) := by decide +kernel
theorem zd_Mo_about_12 : decode zo_Mo_about 12 = .ok (.iconst 0, 1) := by decide +kernel
theorem zd_Mo_about_13 : decode zo_Mo_about 13 = .ok (.istore 5, 2) := by decide +kernel
theorem zd_Mo_about_15 : decode zo_Mo_about 15 = .ok (.iload 5, 2) := by decide +kernel
theorem zd_Mo_about_17 : decode zo_Mo_about 17 = .ok (.aload_n 0, 1) := by decide +kernel
theorem zd_Mo_about_18 : decode zo_Mo_about 18 = .ok (.getfield 81, 3) := by decide +kernel
theorem zd_Mo_about_21 : decode zo_Mo_about 21 = .ok (.if_icmp .ge 58, 3) := by decide +kernel
theorem zd_Mo_about_24 : decode zo_Mo_about 24 = .ok (.aload_n 0, 1) := by decide +kernel
theorem zd_Mo_about_25 : decode zo_Mo_about 25 = .ok (.getfield 45, 3) := by decide +kernel
theorem zd_Mo_about_28 : decode zo_Mo_about 28 = .ok (.iload 5, 2) := by decide +kernel
theorem zd_Mo_about_30 : decode zo_Mo_about 30 = .ok (.iaload, 1) := by decide +kernel
theorem zd_Mo_about_31 : decode zo_Mo_about 31 = .ok (.iconst 2, 1) := by decide +kernel
theorem zd_Mo_about_32 : decode zo_Mo_about 32 = .ok (.if_icmp .ne 41, 3) := by decide +kernel
theorem zd_Mo_about_35 : decode zo_Mo_about 35 = .ok (.iinc 2 1, 3) := by decide +kernel
theorem zd_Mo_about_38 : decode zo_Mo_about 38 = .ok (.aload_n 0, 1) := by decide +kernel
theorem zd_Mo_about_39 : decode zo_Mo_about 39 = .ok (.getfield 60, 3) := by decide +kernel
theorem zd_Mo_about_42 : decode zo_Mo_about 42 = .ok (.iload 5, 2) := by decide +kernel
theorem zd_Mo_about_44 : decode zo_Mo_about 44 = .ok (.iaload, 1) := by decide +kernel
theorem zd_Mo_about_45 : decode zo_Mo_about 45 = .ok (.iload_n 3, 1) := by decide +kernel
theorem zd_Mo_about_46 : decode zo_Mo_about 46 = .ok (.if_icmp .le 13, 3) := by decide +kernel
theorem zd_Mo_about_49 : decode zo_Mo_about 49 = .ok (.aload_n 0, 1) := by decide +kernel
theorem zd_Mo_about_50 : decode zo_Mo_about 50 = .ok (.getfield 60, 3) := by decide +kernel
theorem zd_Mo_about_53 : decode zo_Mo_about 53 = .ok (.iload 5, 2) := by decide +kernel
theorem zd_Mo_about_55 : decode zo_Mo_about 55 = .ok (.iaload, 1) := by decide +kernel
theorem zd_Mo_about_56 : decode zo_Mo_about 56 = .ok (.goto 4, 3) := by decide +kernel
theorem zd_Mo_about_59 : decode zo_Mo_about 59 = .ok (.iload_n 3, 1) := by decide +kernel
theorem zd_Mo_about_60 : decode zo_Mo_about 60 = .ok (.istore_n 3, 1) := by decide +kernel
theorem zd_Mo_about_61 : decode zo_Mo_about 61 = .ok (.iload 4, 2) := by decide +kernel
theorem zd_Mo_about_63 : decode zo_Mo_about 63 = .ok (.aload_n 0, 1) := by decide +kernel
theorem zd_Mo_about_64 : decode zo_Mo_about 64 = .ok (.getfield 60, 3) := by decide +kernel
theorem zd_Mo_about_67 : decode zo_Mo_about 67 = .ok (.iload 5, 2) := by decide +kernel
theorem zd_Mo_about_69 : decode zo_Mo_about 69 = .ok (.iaload, 1) := by decide +kernel
theorem zd_Mo_about_70 : decode zo_Mo_about 70 = .ok (.iadd, 1) := by decide +kernel
theorem zd_Mo_about_71 : decode zo_Mo_about 71 = .ok (.istore 4, 2) := by decide +kernel
theorem zd_Mo_about_73 : decode zo_Mo_about 73 = .ok (.iinc 5 1, 3) := by decide +kernel
theorem zd_Mo_about_76 : decode zo_Mo_about 76 = .ok (.goto (-61), 3) := by decide +kernel
theorem zd_Mo_about_79 : decode zo_Mo_about 79 = .ok (.iload_n 1, 1) := by decide +kernel
theorem zd_Mo_about_80 : decode zo_Mo_about 80 = .ok (.tableswitch 62 0 5 #[40, 45, 50, 55, 57, 59], 40) := by decide +kernel
theorem zd_Mo_about_120 : decode zo_Mo_about 120 = .ok (.aload_n 0, 1) := by decide +kernel
theorem zd_Mo_about_121 : decode zo_Mo_about 121 = .ok (.getfield 84, 3) := by decide +kernel
theorem zd_Mo_about_124 : decode zo_Mo_about 124 = .ok (.ireturn, 1) := by decide +kernel
theorem zd_Mo_about_125 : decode zo_Mo_about 125 = .ok (.aload_n 0, 1) := by decide +kernel
theorem zd_Mo_about_126 : decode zo_Mo_about 126 = .ok (.getfield 81, 3) := by decide +kernel
theorem zd_Mo_about_129 : decode zo_Mo_about 129 = .ok (.ireturn, 1) := by decide +kernel
theorem zd_Mo_about_130 : decode zo_Mo_about 130 = .ok (.aload_n 0, 1) := by decide +kernel
theorem zd_Mo_about_131 : decode zo_Mo_about 131 = .ok (.getfield 87, 3) := by decide +kernel
theorem zd_Mo_about_134 : decode zo_Mo_about 134 = .ok (.ireturn, 1) := by decide +kernel
theorem zd_Mo_about_135 : decode zo_Mo_about 135 = .ok (.iload_n 2, 1) := by decide +kernel
theorem zd_Mo_about_136 : decode zo_Mo_about 136 = .ok (.ireturn, 1) := by decide +kernel
theorem zd_Mo_about_137 : decode zo_Mo_about 137 = .ok (.iload_n 3, 1) := by decide +kernel
theorem zd_Mo_about_138 : decode zo_Mo_about 138 = .ok (.ireturn, 1) := by decide +kernel
theorem zd_Mo_about_139 : decode zo_Mo_about 139 = .ok (.iload 4, 2) := by decide +kernel
theorem zd_Mo_about_141 : decode zo_Mo_about 141 = .ok (.ireturn, 1) := by decide +kernel
theorem zd_Mo_about_142 : decode zo_Mo_about 142 = .ok (.iconst (-1), 1) := by decide +kernel
theorem zd_Mo_about_143 : decode zo_Mo_about 143 = .ok (.ireturn, 1) := by decide +kernel
section ZC7
variable {p : Program} {l : Launch} {e : Env} {s : State} {m : MethodId} {args : Array Value} {below : List Frame} {meth : Method} {c : Code} {E : zE} {A : Nat → Prop}
set_option maxRecDepth 100000 in
theorem zcal_Mo_copy : zw_cal zR10 zy_Mo_copy zo_Mo_copy 3 none 1 := ⟨zw_at 777 rfl rfl, zw_at 31 rfl rfl, zw_at 52 rfl rfl, zw_at 778 rfl rfl, rfl, by decide, by decide, by decide +kernel⟩
set_option maxRecDepth 100000 in
theorem zml_Mo_125 : Cond.methodLink zR10 125 zy_Mo_copy ∈ zwAll := zw_at 775 rfl rfl
set_option maxRecDepth 100000 in
theorem zcal_Mo_stepCar : zw_cal zR10 zy_Mo_stepCar zo_Mo_stepCar 4 none 2 := ⟨zw_at 781 rfl rfl, zw_at 32 rfl rfl, zw_at 52 rfl rfl, zw_at 782 rfl rfl, rfl, by decide, by decide, by decide +kernel⟩
set_option maxRecDepth 100000 in
theorem zml_Mo_129 : Cond.methodLink zR10 129 zy_Mo_stepCar ∈ zwAll := zw_at 779 rfl rfl
abbrev zrm_Mo_promiseOf : Room := { frames := 5, cells := 0, slots := 0, locals := 123 }
def zb_Mo_promiseOf_25 (N : Nat) (r25 : Int32 → Int32 → zS → Option (Int32 × zS)) (l1 : Int32) (l3 : Int32) (st : zS) : Option (Int32 × zS) := (if 1000 < l3 then some ((-1), st) else ((zf_Mo_stepCar N 4 24 st).bind fun t36 => (if (24 + l1) < 0 ∨ 48 ≤ (24 + l1).toNatClampNeg then none else (if (t36 49 ((24 + l1).toNatClampNeg)) = 2 then some (l3, t36) else r25 l1 (l3 + 1) t36))))
set_option maxHeartbeats 4000000 in
theorem zlb_Mo_promiseOf_25 (F : zw_X p m c zo_Mo_promiseOf 4 s args zR10 E 20 A meth (some .int)) {N : Nat} {rv : Int32} {rst : zS} {r25 : Int32 → Int32 → zS → Option (Int32 × zS)} (hr25 : ∀ (l1 : Int32) (l3 : Int32) (st : zS) , r25 l1 l3 st = some (rv, rst) → zw_G p l e zrm_Mo_promiseOf s m args below meth c (MQ below (zw_Q E (some (.int rv)) rst A) args s 0 0 A) E A 4 0 25 [some (.ref 40), some (.int l1), none, some (.int l3)] [] st) (l1 : Int32) (l3 : Int32) (st : zS)  (h : zb_Mo_promiseOf_25 N r25 l1 l3 st = some (rv, rst)) : zw_G p l e zrm_Mo_promiseOf s m args below meth c (MQ below (zw_Q E (some (.int rv)) rst A) args s 0 0 A) E A 4 0 25 [some (.ref 40), some (.int l1), none, some (.int l3)] [] st := by
  unfold zb_Mo_promiseOf_25 at h
  refine zg_iload_n F.1 zd_Mo_promiseOf_25 rfl rfl ?_
  refine zg_sipush F.1 1000 1000 (by decide) zd_Mo_promiseOf_26 ?_
  refine zg_icmp_gt F.1 60 zd_Mo_promiseOf_29 rfl (fun hc => ?_) (fun hc => ?_)
  · rw [if_pos hc] at h
    refine zg_iconst F.1 (-1) (-1) (by decide) zd_Mo_promiseOf_60 ?_
    cases h
    exact zg_iret F zd_Mo_promiseOf_61
  · rw [if_neg hc] at h
    refine zg_aload_n F.1 zd_Mo_promiseOf_32 rfl rfl ?_
    refine zg_iconst F.1 4 4 (by decide) zd_Mo_promiseOf_33 ?_
    refine zg_bipush F.1 24 24 (by decide) zd_Mo_promiseOf_34 ?_
    obtain ⟨t36, hc36, h⟩ := Option.bind_eq_some_iff.mp h
    refine zg_callV F (As := [.int 4, .int 24]) (rest := []) (zk_Mo_stepCar F.1.2.2 N 4 24 st hc36) rfl rfl zcal_Mo_stepCar zml_Mo_129 ⟨(Nat.le_of_ble_eq_true rfl), (Nat.le_of_ble_eq_true rfl)⟩ (zg_rec10 F.1 (by decide) rfl) rfl (Nat.le_of_ble_eq_true rfl) ⟨(Nat.le_of_ble_eq_true rfl), (Nat.le_of_ble_eq_true rfl)⟩ zd_Mo_promiseOf_36 ?_
    refine zg_aload_n F.1 zd_Mo_promiseOf_39 rfl rfl ?_
    refine zg_getR10 F.1 (by decide) rfl 13 (by decide) 49 rfl zwf_Mo_45 zd_Mo_promiseOf_40 ?_
    refine zg_bipush F.1 24 24 (by decide) zd_Mo_promiseOf_43 ?_
    refine zg_iload_n F.1 zd_Mo_promiseOf_45 rfl rfl ?_
    refine zg_iadd F.1 zd_Mo_promiseOf_46 ?_
    by_cases hi47 : (24 + l1) < 0 ∨ 48 ≤ (24 + l1).toNatClampNeg
    case pos => rw [if_pos hi47] at h; cases h
    rw [if_neg hi47] at h
    refine zg_ald13 F.1 (by decide) rfl hi47 ((24 + l1).toNatClampNeg) rfl (t36 49 ((24 + l1).toNatClampNeg)) rfl zd_Mo_promiseOf_47 ?_
    refine zg_iconst F.1 2 2 (by decide) zd_Mo_promiseOf_48 ?_
    refine zg_icmp_ne F.1 54 zd_Mo_promiseOf_49 rfl (fun hc => ?_) (fun hc => ?_)
    · rw [if_neg hc] at h
      refine zg_iinc F.1 (l3 + 1) [some (.ref 40), some (.int l1), none, some (.int (l3 + 1))] zd_Mo_promiseOf_54 rfl (by rw [lit1]) (by decide) rfl ?_
      refine zg_goto F.1 25 zd_Mo_promiseOf_57 rfl ?_
      exact hr25 l1 (l3 + 1) t36 h
    · rw [if_pos hc] at h
      refine zg_iload_n F.1 zd_Mo_promiseOf_52 rfl rfl ?_
      cases h
      exact zg_iret F zd_Mo_promiseOf_53
def zf_Mo_promiseOf_25 (N : Nat)  : Nat → Int32 → Int32 → zS → Option (Int32 × zS)
  | 0, _, _, _ => none
  | n + 1, l1, l3, st => zb_Mo_promiseOf_25 N  (zf_Mo_promiseOf_25 N  n) l1 l3 st
theorem zl_Mo_promiseOf_25 (F : zw_X p m c zo_Mo_promiseOf 4 s args zR10 E 20 A meth (some .int)) {N : Nat} {rv : Int32} {rst : zS}   : ∀ (n : Nat) (l1 : Int32) (l3 : Int32) (st : zS)  (h : zf_Mo_promiseOf_25 N  n l1 l3 st = some (rv, rst)), zw_G p l e zrm_Mo_promiseOf s m args below meth c (MQ below (zw_Q E (some (.int rv)) rst A) args s 0 0 A) E A 4 0 25 [some (.ref 40), some (.int l1), none, some (.int l3)] [] st := by
  intro n
  induction n with
  | zero => intro l1 l3 st  h; cases h
  | succ n ih => intro l1 l3 st  h; exact zlb_Mo_promiseOf_25 F  ih l1 l3 st  h
def zf_Mo_promiseOf (N : Nat) (a1 : Int32) (st : zS) : Option (Int32 × zS) := (if a1 < 0 ∨ 48 ≤ a1.toNatClampNeg then none else (if (st 50 a1.toNatClampNeg) < 0 ∨ 5 ≤ (st 50 a1.toNatClampNeg).toNatClampNeg then none else (if (st 47 ((st 50 a1.toNatClampNeg).toNatClampNeg)) = 0 then ((zf_Mo_copy N (st 50 a1.toNatClampNeg) st).bind fun t20 => zf_Mo_promiseOf_25 N N a1 1 t20) else some ((-1), st))))
set_option maxHeartbeats 4000000 in
theorem zl_Mo_promiseOf_0 (F : zw_X p m c zo_Mo_promiseOf 4 s args zR10 E 20 A meth (some .int)) {N : Nat} {rv : Int32} {rst : zS} (a1 : Int32) (st : zS)  (h : zf_Mo_promiseOf N a1 st = some (rv, rst)) : zw_G p l e zrm_Mo_promiseOf s m args below meth c (MQ below (zw_Q E (some (.int rv)) rst A) args s 0 0 A) E A 4 0 0 [some (.ref 40), some (.int a1), none, none] [] st := by
  unfold zf_Mo_promiseOf at h
  refine zg_aload_n F.1 zd_Mo_promiseOf_0 rfl rfl ?_
  refine zg_getR10 F.1 (by decide) rfl 14 (by decide) 50 rfl zwf_Mo_48 zd_Mo_promiseOf_1 ?_
  refine zg_iload_n F.1 zd_Mo_promiseOf_4 rfl rfl ?_
  by_cases hi5 : a1 < 0 ∨ 48 ≤ a1.toNatClampNeg
  case pos => rw [if_pos hi5] at h; cases h
  rw [if_neg hi5] at h
  refine zg_ald13 F.1 (by decide) rfl hi5 a1.toNatClampNeg rfl (st 50 a1.toNatClampNeg) rfl zd_Mo_promiseOf_5 ?_
  refine zg_istore_n F.1 [some (.ref 40), some (.int a1), some (.int (st 50 a1.toNatClampNeg)), none] zd_Mo_promiseOf_6 rfl (by decide) rfl ?_
  refine zg_aload_n F.1 zd_Mo_promiseOf_7 rfl rfl ?_
  refine zg_getR10 F.1 (by decide) rfl 10 (by decide) 47 rfl zwf_Mo_39 zd_Mo_promiseOf_8 ?_
  refine zg_iload_n F.1 zd_Mo_promiseOf_11 rfl rfl ?_
  by_cases hi12 : (st 50 a1.toNatClampNeg) < 0 ∨ 5 ≤ (st 50 a1.toNatClampNeg).toNatClampNeg
  case pos => rw [if_pos hi12] at h; cases h
  rw [if_neg hi12] at h
  refine zg_ald12 F.1 (by decide) rfl hi12 ((st 50 a1.toNatClampNeg).toNatClampNeg) rfl (st 47 ((st 50 a1.toNatClampNeg).toNatClampNeg)) rfl zd_Mo_promiseOf_12 ?_
  refine zg_if_eq F.1 18 zd_Mo_promiseOf_13 rfl (fun hc => ?_) (fun hc => ?_)
  · rw [if_pos hc] at h
    refine zg_aload_n F.1 zd_Mo_promiseOf_18 rfl rfl ?_
    refine zg_iload_n F.1 zd_Mo_promiseOf_19 rfl rfl ?_
    obtain ⟨t20, hc20, h⟩ := Option.bind_eq_some_iff.mp h
    refine zg_callV F (As := [.int (st 50 a1.toNatClampNeg)]) (rest := []) (zk_Mo_copy F.1.2.2 N (st 50 a1.toNatClampNeg) st hc20) rfl rfl zcal_Mo_copy zml_Mo_125 ⟨(Nat.le_of_ble_eq_true rfl), (Nat.le_of_ble_eq_true rfl)⟩ (zg_rec10 F.1 (by decide) rfl) rfl (Nat.le_of_ble_eq_true rfl) ⟨(Nat.le_of_ble_eq_true rfl), (Nat.le_of_ble_eq_true rfl)⟩ zd_Mo_promiseOf_20 ?_
    refine zg_iconst F.1 1 1 (by decide) zd_Mo_promiseOf_23 ?_
    refine zg_istore_n F.1 [some (.ref 40), some (.int a1), some (.int (st 50 a1.toNatClampNeg)), some (.int 1)] zd_Mo_promiseOf_24 rfl (by decide) rfl ?_
    exact zg_le (zw_les (zw_les (zw_len (zw_les zw_le0)))) (zl_Mo_promiseOf_25 F N a1 1 t20 h)
  · rw [if_neg hc] at h
    refine zg_iconst F.1 (-1) (-1) (by decide) zd_Mo_promiseOf_16 ?_
    cases h
    exact zg_iret F zd_Mo_promiseOf_17
theorem zk_Mo_promiseOf {E : zE} (hn : zw_n E 20) (N : Nat) (a1 : Int32) (st : zS)  {rv : Int32} {rst : zS} (h : zf_Mo_promiseOf N a1 st = some (rv, rst)) : zw_M l zy_Mo_promiseOf (Cond.code zy_Mo_promiseOf zo_Mo_promiseOf 4 (some .int) :: zwAll) zrm_Mo_promiseOf E [.ref 40, .int a1] st (some (.int rv)) rst :=
  zw_enter (by decide) rfl hn (Nat.le_of_ble_eq_true rfl) (by simp [Value.category]) 2 (fun p e s m args below meth c A F => zl_Mo_promiseOf_0 F a1 st  h)
set_option maxRecDepth 100000 in
theorem zcal_Mo_isRider : zw_cal zR10 zy_Mo_isRider zo_Mo_isRider 2 (some .boolean) 1 := ⟨zw_at 769 rfl rfl, zw_at 29 rfl rfl, zw_at 52 rfl rfl, zw_at 770 rfl rfl, rfl, by decide, by decide, by decide +kernel⟩
set_option maxRecDepth 100000 in
theorem zml_Mo_132 : Cond.methodLink zR10 132 zy_Mo_isRider ∈ zwAll := zw_at 767 rfl rfl
set_option maxRecDepth 100000 in
theorem zcal_Mo_promiseOf : zw_cal zR10 zy_Mo_promiseOf zo_Mo_promiseOf 4 (some .int) 1 := ⟨zw_at 773 rfl rfl, zw_at 30 rfl rfl, zw_at 52 rfl rfl, zw_at 774 rfl rfl, rfl, by decide, by decide, by decide +kernel⟩
set_option maxRecDepth 100000 in
theorem zml_Mo_135 : Cond.methodLink zR10 135 zy_Mo_promiseOf ∈ zwAll := zw_at 771 rfl rfl
abbrev zrm_Mo_worstOf : Room := { frames := 6, cells := 0, slots := 0, locals := 146 }
def zf_Mo_worstOf_65 (N : Nat) (r4 : Int32 → Int32 → Int32 → zS → Option (Int32 × zS)) (l1 : Int32) (l2 : Int32) (l3 : Int32) (st : zS) : Option (Int32 × zS) := r4 l1 l2 (l3 + 1) st
set_option maxHeartbeats 4000000 in
theorem zl_Mo_worstOf_65 (F : zw_X p m c zo_Mo_worstOf 5 s args zR10 E 20 A meth (some .int)) {N : Nat} {rv : Int32} {rst : zS} {r4 : Int32 → Int32 → Int32 → zS → Option (Int32 × zS)} (hr4 : ∀ (l1 : Int32) (l2 : Int32) (l3 : Int32) (st : zS) , r4 l1 l2 l3 st = some (rv, rst) → zw_G p l e zrm_Mo_worstOf s m args below meth c (MQ below (zw_Q E (some (.int rv)) rst A) args s 0 0 A) E A 5 0 4 [some (.ref 40), some (.int l1), some (.int l2), some (.int l3), none] [] st) (l1 : Int32) (l2 : Int32) (l3 : Int32) (st : zS)  (h : zf_Mo_worstOf_65 N r4 l1 l2 l3 st = some (rv, rst)) : zw_G p l e zrm_Mo_worstOf s m args below meth c (MQ below (zw_Q E (some (.int rv)) rst A) args s 0 0 A) E A 5 0 65 [some (.ref 40), some (.int l1), some (.int l2), some (.int l3), none] [] st := by
  unfold zf_Mo_worstOf_65 at h
  refine zg_iinc F.1 (l3 + 1) [some (.ref 40), some (.int l1), some (.int l2), some (.int (l3 + 1)), none] zd_Mo_worstOf_65 rfl (by rw [lit1]) (by decide) rfl ?_
  refine zg_goto F.1 4 zd_Mo_worstOf_68 rfl ?_
  exact hr4 l1 l2 (l3 + 1) st h
def zf_Mo_worstOf_64 (N : Nat) (r4 : Int32 → Int32 → Int32 → zS → Option (Int32 × zS)) (l1 : Int32) (l3 : Int32) (s0 : Int32) (st : zS) : Option (Int32 × zS) := zf_Mo_worstOf_65 N r4 l1 s0 l3 st
set_option maxHeartbeats 4000000 in
theorem zl_Mo_worstOf_64 (F : zw_X p m c zo_Mo_worstOf 5 s args zR10 E 20 A meth (some .int)) {N : Nat} {rv : Int32} {rst : zS} {r4 : Int32 → Int32 → Int32 → zS → Option (Int32 × zS)} (hr4 : ∀ (l1 : Int32) (l2 : Int32) (l3 : Int32) (st : zS) , r4 l1 l2 l3 st = some (rv, rst) → zw_G p l e zrm_Mo_worstOf s m args below meth c (MQ below (zw_Q E (some (.int rv)) rst A) args s 0 0 A) E A 5 0 4 [some (.ref 40), some (.int l1), some (.int l2), some (.int l3), none] [] st) (l1 : Int32) (l3 : Int32) (s0 : Int32) (st : zS)  (h : zf_Mo_worstOf_64 N r4 l1 l3 s0 st = some (rv, rst)) : zw_G p l e zrm_Mo_worstOf s m args below meth c (MQ below (zw_Q E (some (.int rv)) rst A) args s 0 0 A) E A 5 0 64 [some (.ref 40), some (.int l1), none, some (.int l3), none] [.int s0] st := by
  unfold zf_Mo_worstOf_64 at h
  refine zg_istore_n F.1 [some (.ref 40), some (.int l1), some (.int s0), some (.int l3), none] zd_Mo_worstOf_64 rfl (by decide) rfl ?_
  exact zl_Mo_worstOf_65 F hr4 l1 s0 l3 st h
def zf_Mo_worstOf_50 (N : Nat) (r4 : Int32 → Int32 → Int32 → zS → Option (Int32 × zS)) (l1 : Int32) (l2 : Int32) (l3 : Int32) (s0 : Int32) (st : zS) : Option (Int32 × zS) := (if s0 ≤ l2 then zf_Mo_worstOf_64 N r4 l1 l3 l2 st else zf_Mo_worstOf_64 N r4 l1 l3 s0 st)
set_option maxHeartbeats 4000000 in
theorem zl_Mo_worstOf_50 (F : zw_X p m c zo_Mo_worstOf 5 s args zR10 E 20 A meth (some .int)) {N : Nat} {rv : Int32} {rst : zS} {r4 : Int32 → Int32 → Int32 → zS → Option (Int32 × zS)} (hr4 : ∀ (l1 : Int32) (l2 : Int32) (l3 : Int32) (st : zS) , r4 l1 l2 l3 st = some (rv, rst) → zw_G p l e zrm_Mo_worstOf s m args below meth c (MQ below (zw_Q E (some (.int rv)) rst A) args s 0 0 A) E A 5 0 4 [some (.ref 40), some (.int l1), some (.int l2), some (.int l3), none] [] st) (l1 : Int32) (l2 : Int32) (l3 : Int32) (s0 : Int32) (st : zS)  (h : zf_Mo_worstOf_50 N r4 l1 l2 l3 s0 st = some (rv, rst)) : zw_G p l e zrm_Mo_worstOf s m args below meth c (MQ below (zw_Q E (some (.int rv)) rst A) args s 0 0 A) E A 5 0 50 [some (.ref 40), some (.int l1), some (.int l2), some (.int l3), none] [.int s0] st := by
  unfold zf_Mo_worstOf_50 at h
  refine zg_istore F.1 [some (.ref 40), some (.int l1), some (.int l2), some (.int l3), some (.int s0)] zd_Mo_worstOf_50 (by decide) rfl ?_
  refine zg_iload F.1 zd_Mo_worstOf_52 rfl ?_
  refine zg_iload_n F.1 zd_Mo_worstOf_54 rfl rfl ?_
  refine zg_icmp_le F.1 63 zd_Mo_worstOf_55 rfl (fun hc => ?_) (fun hc => ?_)
  · rw [if_pos hc] at h
    refine zg_iload_n F.1 zd_Mo_worstOf_63 rfl rfl ?_
    exact zg_le (zw_les (zw_les (zw_len (zw_les (zw_len zw_le0))))) (zl_Mo_worstOf_64 F hr4 l1 l3 l2 st h)
  · rw [if_neg hc] at h
    refine zg_iload F.1 zd_Mo_worstOf_58 rfl ?_
    refine zg_goto F.1 64 zd_Mo_worstOf_60 rfl ?_
    exact zg_le (zw_les (zw_les (zw_len (zw_les (zw_len zw_le0))))) (zl_Mo_worstOf_64 F hr4 l1 l3 s0 st h)
def zb_Mo_worstOf_4 (N : Nat) (r4 : Int32 → Int32 → Int32 → zS → Option (Int32 × zS)) (l1 : Int32) (l2 : Int32) (l3 : Int32) (st : zS) : Option (Int32 × zS) := (if (st 40 19) ≤ l3 then some (l2, st) else (if l3 < 0 ∨ 48 ≤ l3.toNatClampNeg then none else (if (st 50 l3.toNatClampNeg) = l1 then ((zf_Mo_isRider N l3 st).bind fun y24 => (if y24.1 = 0 then zf_Mo_worstOf_65 N r4 l1 l2 l3 y24.2 else ((zf_Mo_promiseOf N l3 y24.2).bind fun y32 => (if 0 ≤ y32.1 then zf_Mo_worstOf_50 N r4 l1 l2 l3 y32.1 y32.2 else zf_Mo_worstOf_50 N r4 l1 l2 l3 1000 y32.2)))) else zf_Mo_worstOf_65 N r4 l1 l2 l3 st)))
set_option maxHeartbeats 4000000 in
theorem zlb_Mo_worstOf_4 (F : zw_X p m c zo_Mo_worstOf 5 s args zR10 E 20 A meth (some .int)) {N : Nat} {rv : Int32} {rst : zS} {r4 : Int32 → Int32 → Int32 → zS → Option (Int32 × zS)} (hr4 : ∀ (l1 : Int32) (l2 : Int32) (l3 : Int32) (st : zS) , r4 l1 l2 l3 st = some (rv, rst) → zw_G p l e zrm_Mo_worstOf s m args below meth c (MQ below (zw_Q E (some (.int rv)) rst A) args s 0 0 A) E A 5 0 4 [some (.ref 40), some (.int l1), some (.int l2), some (.int l3), none] [] st) (l1 : Int32) (l2 : Int32) (l3 : Int32) (st : zS)  (h : zb_Mo_worstOf_4 N r4 l1 l2 l3 st = some (rv, rst)) : zw_G p l e zrm_Mo_worstOf s m args below meth c (MQ below (zw_Q E (some (.int rv)) rst A) args s 0 0 A) E A 5 0 4 [some (.ref 40), some (.int l1), some (.int l2), some (.int l3), none] [] st := by
  unfold zb_Mo_worstOf_4 at h
  refine zg_iload_n F.1 zd_Mo_worstOf_4 rfl rfl ?_
  refine zg_aload_n F.1 zd_Mo_worstOf_5 rfl rfl ?_
  refine zg_getI10 F.1 (by decide) rfl 19 (by decide) (st 40 19) rfl rfl zwf_Mo_81 zd_Mo_worstOf_6 ?_
  refine zg_icmp_ge F.1 71 zd_Mo_worstOf_9 rfl (fun hc => ?_) (fun hc => ?_)
  · rw [if_pos hc] at h
    refine zg_iload_n F.1 zd_Mo_worstOf_71 rfl rfl ?_
    cases h
    exact zg_iret F zd_Mo_worstOf_72
  · rw [if_neg hc] at h
    refine zg_aload_n F.1 zd_Mo_worstOf_12 rfl rfl ?_
    refine zg_getR10 F.1 (by decide) rfl 14 (by decide) 50 rfl zwf_Mo_48 zd_Mo_worstOf_13 ?_
    refine zg_iload_n F.1 zd_Mo_worstOf_16 rfl rfl ?_
    by_cases hi17 : l3 < 0 ∨ 48 ≤ l3.toNatClampNeg
    case pos => rw [if_pos hi17] at h; cases h
    rw [if_neg hi17] at h
    refine zg_ald13 F.1 (by decide) rfl hi17 l3.toNatClampNeg rfl (st 50 l3.toNatClampNeg) rfl zd_Mo_worstOf_17 ?_
    refine zg_iload_n F.1 zd_Mo_worstOf_18 rfl rfl ?_
    refine zg_icmp_ne F.1 65 zd_Mo_worstOf_19 rfl (fun hc => ?_) (fun hc => ?_)
    · rw [if_neg hc] at h
      exact zl_Mo_worstOf_65 F hr4 l1 l2 l3 st h
    · rw [if_pos hc] at h
      refine zg_aload_n F.1 zd_Mo_worstOf_22 rfl rfl ?_
      refine zg_iload_n F.1 zd_Mo_worstOf_23 rfl rfl ?_
      obtain ⟨y24, hc24, h⟩ := Option.bind_eq_some_iff.mp h
      refine zg_callV F (As := [.int l3]) (rest := []) (zk_Mo_isRider F.1.2.2 N l3 st hc24) rfl rfl zcal_Mo_isRider zml_Mo_132 ⟨(Nat.le_of_ble_eq_true rfl), (Nat.le_of_ble_eq_true rfl)⟩ (zg_rec10 F.1 (by decide) rfl) rfl (Nat.le_of_ble_eq_true rfl) ⟨(Nat.le_of_ble_eq_true rfl), (Nat.le_of_ble_eq_true rfl)⟩ zd_Mo_worstOf_24 ?_
      refine zg_if_eq F.1 65 zd_Mo_worstOf_27 rfl (fun hc => ?_) (fun hc => ?_)
      · rw [if_pos hc] at h
        exact zl_Mo_worstOf_65 F hr4 l1 l2 l3 y24.2 h
      · rw [if_neg hc] at h
        refine zg_aload_n F.1 zd_Mo_worstOf_30 rfl rfl ?_
        refine zg_iload_n F.1 zd_Mo_worstOf_31 rfl rfl ?_
        obtain ⟨y32, hc32, h⟩ := Option.bind_eq_some_iff.mp h
        refine zg_callV F (As := [.int l3]) (rest := []) (zk_Mo_promiseOf F.1.2.2 N l3 y24.2 hc32) rfl rfl zcal_Mo_promiseOf zml_Mo_135 ⟨(Nat.le_of_ble_eq_true rfl), (Nat.le_of_ble_eq_true rfl)⟩ (zg_rec10 F.1 (by decide) rfl) rfl (Nat.le_of_ble_eq_true rfl) ⟨(Nat.le_of_ble_eq_true rfl), (Nat.le_of_ble_eq_true rfl)⟩ zd_Mo_worstOf_32 ?_
        refine zg_istore F.1 [some (.ref 40), some (.int l1), some (.int l2), some (.int l3), some (.int y32.1)] zd_Mo_worstOf_35 (by decide) rfl ?_
        refine zg_iload F.1 zd_Mo_worstOf_37 rfl ?_
        refine zg_if_ge F.1 48 zd_Mo_worstOf_39 rfl (fun hc => ?_) (fun hc => ?_)
        · rw [if_pos hc] at h
          refine zg_iload F.1 zd_Mo_worstOf_48 rfl ?_
          exact zg_le (zw_les (zw_les (zw_les (zw_les (zw_len zw_le0))))) (zl_Mo_worstOf_50 F hr4 l1 l2 l3 y32.1 y32.2 h)
        · rw [if_neg hc] at h
          refine zg_sipush F.1 1000 1000 (by decide) zd_Mo_worstOf_42 ?_
          refine zg_goto F.1 50 zd_Mo_worstOf_45 rfl ?_
          exact zg_le (zw_les (zw_les (zw_les (zw_les (zw_len zw_le0))))) (zl_Mo_worstOf_50 F hr4 l1 l2 l3 1000 y32.2 h)
def zf_Mo_worstOf_4 (N : Nat)  : Nat → Int32 → Int32 → Int32 → zS → Option (Int32 × zS)
  | 0, _, _, _, _ => none
  | n + 1, l1, l2, l3, st => zb_Mo_worstOf_4 N  (zf_Mo_worstOf_4 N  n) l1 l2 l3 st
theorem zl_Mo_worstOf_4 (F : zw_X p m c zo_Mo_worstOf 5 s args zR10 E 20 A meth (some .int)) {N : Nat} {rv : Int32} {rst : zS}   : ∀ (n : Nat) (l1 : Int32) (l2 : Int32) (l3 : Int32) (st : zS)  (h : zf_Mo_worstOf_4 N  n l1 l2 l3 st = some (rv, rst)), zw_G p l e zrm_Mo_worstOf s m args below meth c (MQ below (zw_Q E (some (.int rv)) rst A) args s 0 0 A) E A 5 0 4 [some (.ref 40), some (.int l1), some (.int l2), some (.int l3), none] [] st := by
  intro n
  induction n with
  | zero => intro l1 l2 l3 st  h; cases h
  | succ n ih => intro l1 l2 l3 st  h; exact zlb_Mo_worstOf_4 F  ih l1 l2 l3 st  h
def zf_Mo_worstOf (N : Nat) (a1 : Int32) (st : zS) : Option (Int32 × zS) := zf_Mo_worstOf_4 N N a1 0 0 st
set_option maxHeartbeats 4000000 in
theorem zl_Mo_worstOf_0 (F : zw_X p m c zo_Mo_worstOf 5 s args zR10 E 20 A meth (some .int)) {N : Nat} {rv : Int32} {rst : zS} (a1 : Int32) (st : zS)  (h : zf_Mo_worstOf N a1 st = some (rv, rst)) : zw_G p l e zrm_Mo_worstOf s m args below meth c (MQ below (zw_Q E (some (.int rv)) rst A) args s 0 0 A) E A 5 0 0 [some (.ref 40), some (.int a1), none, none, none] [] st := by
  unfold zf_Mo_worstOf at h
  refine zg_iconst F.1 0 0 (by decide) zd_Mo_worstOf_0 ?_
  refine zg_istore_n F.1 [some (.ref 40), some (.int a1), some (.int 0), none, none] zd_Mo_worstOf_1 rfl (by decide) rfl ?_
  refine zg_iconst F.1 0 0 (by decide) zd_Mo_worstOf_2 ?_
  refine zg_istore_n F.1 [some (.ref 40), some (.int a1), some (.int 0), some (.int 0), none] zd_Mo_worstOf_3 rfl (by decide) rfl ?_
  exact zl_Mo_worstOf_4 F N a1 0 0 st h
theorem zk_Mo_worstOf {E : zE} (hn : zw_n E 20) (N : Nat) (a1 : Int32) (st : zS)  {rv : Int32} {rst : zS} (h : zf_Mo_worstOf N a1 st = some (rv, rst)) : zw_M l zy_Mo_worstOf (Cond.code zy_Mo_worstOf zo_Mo_worstOf 5 (some .int) :: zwAll) zrm_Mo_worstOf E [.ref 40, .int a1] st (some (.int rv)) rst :=
  zw_enter (by decide) rfl hn (Nat.le_of_ble_eq_true rfl) (by simp [Value.category]) 3 (fun p e s m args below meth c A F => zl_Mo_worstOf_0 F a1 st  h)
abbrev zrm_Mo_isUsable : Room := { frames := 0, cells := 0, slots := 0, locals := 0 }
def zf_Mo_isUsable_30 (N : Nat)  (s0 : Int32) (st : zS) : Option (Int32 × zS) := (if s0 = 0 ∨ s0 = 1 then some (s0, st) else none)
set_option maxHeartbeats 4000000 in
theorem zl_Mo_isUsable_30 (F : zw_X p m c zo_Mo_isUsable 2 s args zR10 E 20 A meth (some .boolean)) {N : Nat} {rv : Int32} {rst : zS}   (s0 : Int32) (st : zS)  (h : zf_Mo_isUsable_30 N  s0 st = some (rv, rst)) : zw_G p l e zrm_Mo_isUsable s m args below meth c (MQ below (zw_Q E (some (.int rv)) rst A) args s 0 0 A) E A 2 0 30 [none, none] [.int s0] st := by
  unfold zf_Mo_isUsable_30 at h
  by_cases hb30 : s0 = 0 ∨ s0 = 1
  case neg => rw [if_neg hb30] at h; cases h
  rw [if_pos hb30] at h
  cases h
  exact zg_zret F hb30 zd_Mo_isUsable_30
def zf_Mo_isUsable_29 (N : Nat)   (st : zS) : Option (Int32 × zS) := zf_Mo_isUsable_30 N 0 st
set_option maxHeartbeats 4000000 in
theorem zl_Mo_isUsable_29 (F : zw_X p m c zo_Mo_isUsable 2 s args zR10 E 20 A meth (some .boolean)) {N : Nat} {rv : Int32} {rst : zS}    (st : zS)  (h : zf_Mo_isUsable_29 N   st = some (rv, rst)) : zw_G p l e zrm_Mo_isUsable s m args below meth c (MQ below (zw_Q E (some (.int rv)) rst A) args s 0 0 A) E A 2 0 29 [none, none] [] st := by
  unfold zf_Mo_isUsable_29 at h
  refine zg_iconst F.1 0 0 (by decide) zd_Mo_isUsable_29 ?_
  exact zl_Mo_isUsable_30 F 0 st h
def zf_Mo_isUsable (N : Nat) (a1 : Int32) (st : zS) : Option (Int32 × zS) := (if a1 < 0 ∨ 5 ≤ a1.toNatClampNeg then none else (if (st 46 a1.toNatClampNeg) = 0 then (if a1 < 0 ∨ 5 ≤ a1.toNatClampNeg then none else (if (st 47 a1.toNatClampNeg) = 0 then (if (st 40 12) = 0 then zf_Mo_isUsable_30 N 1 st else zf_Mo_isUsable_29 N st) else zf_Mo_isUsable_29 N st)) else zf_Mo_isUsable_29 N st))
set_option maxHeartbeats 4000000 in
theorem zl_Mo_isUsable_0 (F : zw_X p m c zo_Mo_isUsable 2 s args zR10 E 20 A meth (some .boolean)) {N : Nat} {rv : Int32} {rst : zS} (a1 : Int32) (st : zS)  (h : zf_Mo_isUsable N a1 st = some (rv, rst)) : zw_G p l e zrm_Mo_isUsable s m args below meth c (MQ below (zw_Q E (some (.int rv)) rst A) args s 0 0 A) E A 2 0 0 [some (.ref 40), some (.int a1)] [] st := by
  unfold zf_Mo_isUsable at h
  refine zg_aload_n F.1 zd_Mo_isUsable_0 rfl rfl ?_
  refine zg_getR10 F.1 (by decide) rfl 9 (by decide) 46 rfl zwf_Mo_35 zd_Mo_isUsable_1 ?_
  refine zg_iload_n F.1 zd_Mo_isUsable_4 rfl rfl ?_
  by_cases hi5 : a1 < 0 ∨ 5 ≤ a1.toNatClampNeg
  case pos => rw [if_pos hi5] at h; cases h
  rw [if_neg hi5] at h
  refine zg_ald12 F.1 (by decide) rfl hi5 a1.toNatClampNeg rfl (st 46 a1.toNatClampNeg) rfl zd_Mo_isUsable_5 ?_
  refine zg_if_ne F.1 29 zd_Mo_isUsable_6 rfl (fun hc => ?_) (fun hc => ?_)
  · rw [if_neg hc] at h
    exact zg_le (zw_len (zw_len zw_le0)) (zl_Mo_isUsable_29 F st h)
  · rw [if_pos hc] at h
    refine zg_aload_n F.1 zd_Mo_isUsable_9 rfl rfl ?_
    refine zg_getR10 F.1 (by decide) rfl 10 (by decide) 47 rfl zwf_Mo_39 zd_Mo_isUsable_10 ?_
    refine zg_iload_n F.1 zd_Mo_isUsable_13 rfl rfl ?_
    by_cases hi14 : a1 < 0 ∨ 5 ≤ a1.toNatClampNeg
    case pos => rw [if_pos hi14] at h; cases h
    rw [if_neg hi14] at h
    refine zg_ald12 F.1 (by decide) rfl hi14 a1.toNatClampNeg rfl (st 47 a1.toNatClampNeg) rfl zd_Mo_isUsable_14 ?_
    refine zg_if_ne F.1 29 zd_Mo_isUsable_15 rfl (fun hc => ?_) (fun hc => ?_)
    · rw [if_neg hc] at h
      exact zg_le (zw_len (zw_len zw_le0)) (zl_Mo_isUsable_29 F st h)
    · rw [if_pos hc] at h
      refine zg_aload_n F.1 zd_Mo_isUsable_18 rfl rfl ?_
      refine zg_getI10 F.1 (by decide) rfl 12 (by decide) (st 40 12) rfl rfl zwf_Mo_77 zd_Mo_isUsable_19 ?_
      refine zg_if_ne F.1 29 zd_Mo_isUsable_22 rfl (fun hc => ?_) (fun hc => ?_)
      · rw [if_neg hc] at h
        exact zg_le (zw_len (zw_len zw_le0)) (zl_Mo_isUsable_29 F st h)
      · rw [if_pos hc] at h
        refine zg_iconst F.1 1 1 (by decide) zd_Mo_isUsable_25 ?_
        refine zg_goto F.1 30 zd_Mo_isUsable_26 rfl ?_
        exact zg_le (zw_len (zw_len zw_le0)) (zl_Mo_isUsable_30 F 1 st h)
theorem zk_Mo_isUsable {E : zE} (hn : zw_n E 20) (N : Nat) (a1 : Int32) (st : zS)  {rv : Int32} {rst : zS} (h : zf_Mo_isUsable N a1 st = some (rv, rst)) : zw_M l zy_Mo_isUsable (Cond.code zy_Mo_isUsable zo_Mo_isUsable 2 (some .boolean) :: zwAll) zrm_Mo_isUsable E [.ref 40, .int a1] st (some (.int rv)) rst :=
  zw_enter (by decide) rfl hn (Nat.le_of_ble_eq_true rfl) (by simp [Value.category]) 0 (fun p e s m args below meth c A F => zl_Mo_isUsable_0 F a1 st  h)
set_option maxRecDepth 100000 in
theorem zcal_Mo_isUsable : zw_cal zR10 zy_Mo_isUsable zo_Mo_isUsable 2 (some .boolean) 1 := ⟨zw_at 757 rfl rfl, zw_at 26 rfl rfl, zw_at 52 rfl rfl, zw_at 758 rfl rfl, rfl, by decide, by decide, by decide +kernel⟩
set_option maxRecDepth 100000 in
theorem zml_Mo_139 : Cond.methodLink zR10 139 zy_Mo_isUsable ∈ zwAll := zw_at 755 rfl rfl
set_option maxRecDepth 100000 in
theorem zcal_Mo_worstOf : zw_cal zR10 zy_Mo_worstOf zo_Mo_worstOf 5 (some .int) 1 := ⟨zw_at 765 rfl rfl, zw_at 28 rfl rfl, zw_at 52 rfl rfl, zw_at 766 rfl rfl, rfl, by decide, by decide, by decide +kernel⟩
set_option maxRecDepth 100000 in
theorem zml_Mo_142 : Cond.methodLink zR10 142 zy_Mo_worstOf ∈ zwAll := zw_at 763 rfl rfl
abbrev zrm_Mo_choose : Room := { frames := 7, cells := 0, slots := 0, locals := 170 }
def zf_Mo_choose_75 (N : Nat) (r7 : Int32 → Int32 → Int32 → Int32 → zS → Option zS) (l1 : Int32) (l2 : Int32) (l3 : Int32) (l4 : Int32) (st : zS) : Option zS := r7 l1 l2 l3 (l4 + 1) st
set_option maxHeartbeats 4000000 in
theorem zl_Mo_choose_75 (F : zw_X p m c zo_Mo_choose 7 s args zR10 E 20 A meth none) {N : Nat} {rst : zS} {r7 : Int32 → Int32 → Int32 → Int32 → zS → Option zS} (hr7 : ∀ (l1 : Int32) (l2 : Int32) (l3 : Int32) (l4 : Int32) (st : zS) , r7 l1 l2 l3 l4 st = some rst → zw_G p l e zrm_Mo_choose s m args below meth c (MQ below (zw_Q E none rst A) args s 0 0 A) E A 7 0 7 [some (.ref 40), some (.int l1), some (.int l2), some (.int l3), some (.int l4), none, none] [] st) (l1 : Int32) (l2 : Int32) (l3 : Int32) (l4 : Int32) (st : zS)  (h : zf_Mo_choose_75 N r7 l1 l2 l3 l4 st = some rst) : zw_G p l e zrm_Mo_choose s m args below meth c (MQ below (zw_Q E none rst A) args s 0 0 A) E A 7 0 75 [some (.ref 40), some (.int l1), some (.int l2), some (.int l3), some (.int l4), none, none] [] st := by
  unfold zf_Mo_choose_75 at h
  refine zg_iinc F.1 (l4 + 1) [some (.ref 40), some (.int l1), some (.int l2), some (.int l3), some (.int (l4 + 1)), none, none] zd_Mo_choose_75 rfl (by rw [lit1]) (by decide) rfl ?_
  refine zg_goto F.1 7 zd_Mo_choose_78 rfl ?_
  exact hr7 l1 l2 l3 (l4 + 1) st h
def zf_Mo_choose_69 (N : Nat) (r7 : Int32 → Int32 → Int32 → Int32 → zS → Option zS) (l1 : Int32) (l4 : Int32) (l6 : Int32) (st : zS) : Option zS := zf_Mo_choose_75 N r7 l1 l4 l6 l4 st
set_option maxHeartbeats 4000000 in
theorem zl_Mo_choose_69 (F : zw_X p m c zo_Mo_choose 7 s args zR10 E 20 A meth none) {N : Nat} {rst : zS} {r7 : Int32 → Int32 → Int32 → Int32 → zS → Option zS} (hr7 : ∀ (l1 : Int32) (l2 : Int32) (l3 : Int32) (l4 : Int32) (st : zS) , r7 l1 l2 l3 l4 st = some rst → zw_G p l e zrm_Mo_choose s m args below meth c (MQ below (zw_Q E none rst A) args s 0 0 A) E A 7 0 7 [some (.ref 40), some (.int l1), some (.int l2), some (.int l3), some (.int l4), none, none] [] st) (l1 : Int32) (l4 : Int32) (l6 : Int32) (st : zS)  (h : zf_Mo_choose_69 N r7 l1 l4 l6 st = some rst) : zw_G p l e zrm_Mo_choose s m args below meth c (MQ below (zw_Q E none rst A) args s 0 0 A) E A 7 0 69 [some (.ref 40), some (.int l1), none, none, some (.int l4), none, some (.int l6)] [] st := by
  unfold zf_Mo_choose_69 at h
  refine zg_iload F.1 zd_Mo_choose_69 rfl ?_
  refine zg_istore_n F.1 [some (.ref 40), some (.int l1), some (.int l4), none, some (.int l4), none, some (.int l6)] zd_Mo_choose_71 rfl (by decide) rfl ?_
  refine zg_iload F.1 zd_Mo_choose_72 rfl ?_
  refine zg_istore_n F.1 [some (.ref 40), some (.int l1), some (.int l4), some (.int l6), some (.int l4), none, some (.int l6)] zd_Mo_choose_74 rfl (by decide) rfl ?_
  exact zg_le (zw_les (zw_les (zw_les (zw_les (zw_les (zw_les (zw_len zw_le0))))))) (zl_Mo_choose_75 F hr7 l1 l4 l6 l4 st h)
def zf_Mo_choose_98 (N : Nat)  (l1 : Int32) (l2 : Int32) (s0 : Int32) (st : zS) : Option zS := ((zf_Mo_note N s0 l1 l2 st).bind fun t100 => some t100)
set_option maxHeartbeats 4000000 in
theorem zl_Mo_choose_98 (F : zw_X p m c zo_Mo_choose 7 s args zR10 E 20 A meth none) {N : Nat} {rst : zS}   (l1 : Int32) (l2 : Int32) (s0 : Int32) (st : zS)  (h : zf_Mo_choose_98 N  l1 l2 s0 st = some rst) : zw_G p l e zrm_Mo_choose s m args below meth c (MQ below (zw_Q E none rst A) args s 0 0 A) E A 7 0 98 [none, some (.int l1), some (.int l2), none, none, none, none] [.int s0, .ref 40] st := by
  unfold zf_Mo_choose_98 at h
  refine zg_iload_n F.1 zd_Mo_choose_98 rfl rfl ?_
  refine zg_iload_n F.1 zd_Mo_choose_99 rfl rfl ?_
  obtain ⟨t100, hc100, h⟩ := Option.bind_eq_some_iff.mp h
  refine zg_callV F (As := [.int s0, .int l1, .int l2]) (rest := []) (zk_Mo_note F.1.2.2 N s0 l1 l2 st hc100) rfl rfl zcal_Mo_note zml_Mo_101 ⟨(Nat.le_of_ble_eq_true rfl), (Nat.le_of_ble_eq_true rfl)⟩ (zg_rec10 F.1 (by decide) rfl) rfl (Nat.le_of_ble_eq_true rfl) ⟨(Nat.le_of_ble_eq_true rfl), (Nat.le_of_ble_eq_true rfl)⟩ zd_Mo_choose_100 ?_
  cases h
  exact zg_vret F zd_Mo_choose_103
def zb_Mo_choose_7 (N : Nat) (r7 : Int32 → Int32 → Int32 → Int32 → zS → Option zS) (l1 : Int32) (l2 : Int32) (l3 : Int32) (l4 : Int32) (st : zS) : Option zS := (if (st 40 2) ≤ l4 then (if l1 < 0 ∨ 48 ≤ l1.toNatClampNeg then none else (if 0 ≤ l2 then zf_Mo_choose_98 N l1 l2 1 (zp st 50 l1.toNatClampNeg l2) else zf_Mo_choose_98 N l1 l2 5 (zp st 50 l1.toNatClampNeg l2))) else ((zf_Mo_isUsable N l4 st).bind fun y19 => (if y19.1 = 0 then zf_Mo_choose_75 N r7 l1 l2 l3 l4 y19.2 else (if l1 < 0 ∨ 48 ≤ l1.toNatClampNeg then none else ((zf_Mo_worstOf N l4 (zp y19.2 50 l1.toNatClampNeg (-1))).bind fun y35 => (if l1 < 0 ∨ 48 ≤ l1.toNatClampNeg then none else ((zf_Mo_worstOf N l4 (zp y35.2 50 l1.toNatClampNeg l4)).bind fun y51 => (if l2 < 0 then zf_Mo_choose_69 N r7 l1 l4 (y51.1 - y35.1) y51.2 else (if l3 ≤ (y51.1 - y35.1) then zf_Mo_choose_75 N r7 l1 l2 l3 l4 y51.2 else zf_Mo_choose_69 N r7 l1 l4 (y51.1 - y35.1) y51.2)))))))))
set_option maxHeartbeats 4000000 in
theorem zlb_Mo_choose_7 (F : zw_X p m c zo_Mo_choose 7 s args zR10 E 20 A meth none) {N : Nat} {rst : zS} {r7 : Int32 → Int32 → Int32 → Int32 → zS → Option zS} (hr7 : ∀ (l1 : Int32) (l2 : Int32) (l3 : Int32) (l4 : Int32) (st : zS) , r7 l1 l2 l3 l4 st = some rst → zw_G p l e zrm_Mo_choose s m args below meth c (MQ below (zw_Q E none rst A) args s 0 0 A) E A 7 0 7 [some (.ref 40), some (.int l1), some (.int l2), some (.int l3), some (.int l4), none, none] [] st) (l1 : Int32) (l2 : Int32) (l3 : Int32) (l4 : Int32) (st : zS)  (h : zb_Mo_choose_7 N r7 l1 l2 l3 l4 st = some rst) : zw_G p l e zrm_Mo_choose s m args below meth c (MQ below (zw_Q E none rst A) args s 0 0 A) E A 7 0 7 [some (.ref 40), some (.int l1), some (.int l2), some (.int l3), some (.int l4), none, none] [] st := by
  unfold zb_Mo_choose_7 at h
  refine zg_iload F.1 zd_Mo_choose_7 rfl ?_
  refine zg_aload_n F.1 zd_Mo_choose_9 rfl rfl ?_
  refine zg_getI10 F.1 (by decide) rfl 2 (by decide) (st 40 2) rfl rfl zwf_Mo_13 zd_Mo_choose_10 ?_
  refine zg_icmp_ge F.1 81 zd_Mo_choose_13 rfl (fun hc => ?_) (fun hc => ?_)
  · rw [if_pos hc] at h
    refine zg_aload_n F.1 zd_Mo_choose_81 rfl rfl ?_
    refine zg_getR10 F.1 (by decide) rfl 14 (by decide) 50 rfl zwf_Mo_48 zd_Mo_choose_82 ?_
    refine zg_iload_n F.1 zd_Mo_choose_85 rfl rfl ?_
    refine zg_iload_n F.1 zd_Mo_choose_86 rfl rfl ?_
    by_cases hi87 : l1 < 0 ∨ 48 ≤ l1.toNatClampNeg
    case pos => rw [if_pos hi87] at h; cases h
    rw [if_neg hi87] at h
    refine zg_ast13 F.1 (by decide) rfl hi87 l1.toNatClampNeg rfl zd_Mo_choose_87 ?_
    refine zg_aload_n F.1 zd_Mo_choose_88 rfl rfl ?_
    refine zg_iload_n F.1 zd_Mo_choose_89 rfl rfl ?_
    refine zg_if_ge F.1 97 zd_Mo_choose_90 rfl (fun hc => ?_) (fun hc => ?_)
    · rw [if_pos hc] at h
      refine zg_iconst F.1 1 1 (by decide) zd_Mo_choose_97 ?_
      exact zg_le (zw_len (zw_les (zw_les (zw_len (zw_len (zw_les (zw_les zw_le0))))))) (zl_Mo_choose_98 F l1 l2 1 (zp st 50 l1.toNatClampNeg l2) h)
    · rw [if_neg hc] at h
      refine zg_iconst F.1 5 5 (by decide) zd_Mo_choose_93 ?_
      refine zg_goto F.1 98 zd_Mo_choose_94 rfl ?_
      exact zg_le (zw_len (zw_les (zw_les (zw_len (zw_len (zw_les (zw_les zw_le0))))))) (zl_Mo_choose_98 F l1 l2 5 (zp st 50 l1.toNatClampNeg l2) h)
  · rw [if_neg hc] at h
    refine zg_aload_n F.1 zd_Mo_choose_16 rfl rfl ?_
    refine zg_iload F.1 zd_Mo_choose_17 rfl ?_
    obtain ⟨y19, hc19, h⟩ := Option.bind_eq_some_iff.mp h
    refine zg_callV F (As := [.int l4]) (rest := []) (zk_Mo_isUsable F.1.2.2 N l4 st hc19) rfl rfl zcal_Mo_isUsable zml_Mo_139 ⟨(Nat.le_of_ble_eq_true rfl), (Nat.le_of_ble_eq_true rfl)⟩ (zg_rec10 F.1 (by decide) rfl) rfl (Nat.le_of_ble_eq_true rfl) ⟨(Nat.le_of_ble_eq_true rfl), (Nat.le_of_ble_eq_true rfl)⟩ zd_Mo_choose_19 ?_
    refine zg_if_eq F.1 75 zd_Mo_choose_22 rfl (fun hc => ?_) (fun hc => ?_)
    · rw [if_pos hc] at h
      exact zl_Mo_choose_75 F hr7 l1 l2 l3 l4 y19.2 h
    · rw [if_neg hc] at h
      refine zg_aload_n F.1 zd_Mo_choose_25 rfl rfl ?_
      refine zg_getR10 F.1 (by decide) rfl 14 (by decide) 50 rfl zwf_Mo_48 zd_Mo_choose_26 ?_
      refine zg_iload_n F.1 zd_Mo_choose_29 rfl rfl ?_
      refine zg_iconst F.1 (-1) (-1) (by decide) zd_Mo_choose_30 ?_
      by_cases hi31 : l1 < 0 ∨ 48 ≤ l1.toNatClampNeg
      case pos => rw [if_pos hi31] at h; cases h
      rw [if_neg hi31] at h
      refine zg_ast13 F.1 (by decide) rfl hi31 l1.toNatClampNeg rfl zd_Mo_choose_31 ?_
      refine zg_aload_n F.1 zd_Mo_choose_32 rfl rfl ?_
      refine zg_iload F.1 zd_Mo_choose_33 rfl ?_
      obtain ⟨y35, hc35, h⟩ := Option.bind_eq_some_iff.mp h
      refine zg_callV F (As := [.int l4]) (rest := []) (zk_Mo_worstOf F.1.2.2 N l4 (zp y19.2 50 l1.toNatClampNeg (-1)) hc35) rfl rfl zcal_Mo_worstOf zml_Mo_142 ⟨(Nat.le_of_ble_eq_true rfl), (Nat.le_of_ble_eq_true rfl)⟩ (zg_rec10 F.1 (by decide) rfl) rfl (Nat.le_of_ble_eq_true rfl) ⟨(Nat.le_of_ble_eq_true rfl), (Nat.le_of_ble_eq_true rfl)⟩ zd_Mo_choose_35 ?_
      refine zg_istore F.1 [some (.ref 40), some (.int l1), some (.int l2), some (.int l3), some (.int l4), some (.int y35.1), none] zd_Mo_choose_38 (by decide) rfl ?_
      refine zg_aload_n F.1 zd_Mo_choose_40 rfl rfl ?_
      refine zg_getR10 F.1 (by decide) rfl 14 (by decide) 50 rfl zwf_Mo_48 zd_Mo_choose_41 ?_
      refine zg_iload_n F.1 zd_Mo_choose_44 rfl rfl ?_
      refine zg_iload F.1 zd_Mo_choose_45 rfl ?_
      by_cases hi47 : l1 < 0 ∨ 48 ≤ l1.toNatClampNeg
      case pos => rw [if_pos hi47] at h; cases h
      rw [if_neg hi47] at h
      refine zg_ast13 F.1 (by decide) rfl hi47 l1.toNatClampNeg rfl zd_Mo_choose_47 ?_
      refine zg_aload_n F.1 zd_Mo_choose_48 rfl rfl ?_
      refine zg_iload F.1 zd_Mo_choose_49 rfl ?_
      obtain ⟨y51, hc51, h⟩ := Option.bind_eq_some_iff.mp h
      refine zg_callV F (As := [.int l4]) (rest := []) (zk_Mo_worstOf F.1.2.2 N l4 (zp y35.2 50 l1.toNatClampNeg l4) hc51) rfl rfl zcal_Mo_worstOf zml_Mo_142 ⟨(Nat.le_of_ble_eq_true rfl), (Nat.le_of_ble_eq_true rfl)⟩ (zg_rec10 F.1 (by decide) rfl) rfl (Nat.le_of_ble_eq_true rfl) ⟨(Nat.le_of_ble_eq_true rfl), (Nat.le_of_ble_eq_true rfl)⟩ zd_Mo_choose_51 ?_
      refine zg_iload F.1 zd_Mo_choose_54 rfl ?_
      refine zg_isub F.1 zd_Mo_choose_56 ?_
      refine zg_istore F.1 [some (.ref 40), some (.int l1), some (.int l2), some (.int l3), some (.int l4), some (.int y35.1), some (.int (y51.1 - y35.1))] zd_Mo_choose_57 (by decide) rfl ?_
      refine zg_iload_n F.1 zd_Mo_choose_59 rfl rfl ?_
      refine zg_if_lt F.1 69 zd_Mo_choose_60 rfl (fun hc => ?_) (fun hc => ?_)
      · rw [if_pos hc] at h
        exact zg_le (zw_les (zw_les (zw_len (zw_len (zw_les (zw_len (zw_les zw_le0))))))) (zl_Mo_choose_69 F hr7 l1 l4 (y51.1 - y35.1) y51.2 h)
      · rw [if_neg hc] at h
        refine zg_iload F.1 zd_Mo_choose_63 rfl ?_
        refine zg_iload_n F.1 zd_Mo_choose_65 rfl rfl ?_
        refine zg_icmp_ge F.1 75 zd_Mo_choose_66 rfl (fun hc => ?_) (fun hc => ?_)
        · rw [if_pos hc] at h
          exact zg_le (zw_les (zw_les (zw_les (zw_les (zw_les (zw_len (zw_len zw_le0))))))) (zl_Mo_choose_75 F hr7 l1 l2 l3 l4 y51.2 h)
        · rw [if_neg hc] at h
          exact zg_le (zw_les (zw_les (zw_len (zw_len (zw_les (zw_len (zw_les zw_le0))))))) (zl_Mo_choose_69 F hr7 l1 l4 (y51.1 - y35.1) y51.2 h)
def zf_Mo_choose_7 (N : Nat)  : Nat → Int32 → Int32 → Int32 → Int32 → zS → Option zS
  | 0, _, _, _, _, _ => none
  | n + 1, l1, l2, l3, l4, st => zb_Mo_choose_7 N  (zf_Mo_choose_7 N  n) l1 l2 l3 l4 st
theorem zl_Mo_choose_7 (F : zw_X p m c zo_Mo_choose 7 s args zR10 E 20 A meth none) {N : Nat} {rst : zS}   : ∀ (n : Nat) (l1 : Int32) (l2 : Int32) (l3 : Int32) (l4 : Int32) (st : zS)  (h : zf_Mo_choose_7 N  n l1 l2 l3 l4 st = some rst), zw_G p l e zrm_Mo_choose s m args below meth c (MQ below (zw_Q E none rst A) args s 0 0 A) E A 7 0 7 [some (.ref 40), some (.int l1), some (.int l2), some (.int l3), some (.int l4), none, none] [] st := by
  intro n
  induction n with
  | zero => intro l1 l2 l3 l4 st  h; cases h
  | succ n ih => intro l1 l2 l3 l4 st  h; exact zlb_Mo_choose_7 F  ih l1 l2 l3 l4 st  h
def zf_Mo_choose (N : Nat) (a1 : Int32) (st : zS) : Option zS := zf_Mo_choose_7 N N a1 (-1) 0 0 st
set_option maxHeartbeats 4000000 in
theorem zl_Mo_choose_0 (F : zw_X p m c zo_Mo_choose 7 s args zR10 E 20 A meth none) {N : Nat} {rst : zS} (a1 : Int32) (st : zS)  (h : zf_Mo_choose N a1 st = some rst) : zw_G p l e zrm_Mo_choose s m args below meth c (MQ below (zw_Q E none rst A) args s 0 0 A) E A 7 0 0 [some (.ref 40), some (.int a1), none, none, none, none, none] [] st := by
  unfold zf_Mo_choose at h
  refine zg_iconst F.1 (-1) (-1) (by decide) zd_Mo_choose_0 ?_
  refine zg_istore_n F.1 [some (.ref 40), some (.int a1), some (.int (-1)), none, none, none, none] zd_Mo_choose_1 rfl (by decide) rfl ?_
  refine zg_iconst F.1 0 0 (by decide) zd_Mo_choose_2 ?_
  refine zg_istore_n F.1 [some (.ref 40), some (.int a1), some (.int (-1)), some (.int 0), none, none, none] zd_Mo_choose_3 rfl (by decide) rfl ?_
  refine zg_iconst F.1 0 0 (by decide) zd_Mo_choose_4 ?_
  refine zg_istore F.1 [some (.ref 40), some (.int a1), some (.int (-1)), some (.int 0), some (.int 0), none, none] zd_Mo_choose_5 (by decide) rfl ?_
  exact zl_Mo_choose_7 F N a1 (-1) 0 0 st h
theorem zk_Mo_choose {E : zE} (hn : zw_n E 20) (N : Nat) (a1 : Int32) (st : zS)  {rst : zS} (h : zf_Mo_choose N a1 st = some rst) : zw_M l zy_Mo_choose (Cond.code zy_Mo_choose zo_Mo_choose 7 none :: zwAll) zrm_Mo_choose E [.ref 40, .int a1] st none rst :=
  zw_enter (by decide) rfl hn (Nat.le_of_ble_eq_true rfl) (by simp [Value.category]) 5 (fun p e s m args below meth c A F => zl_Mo_choose_0 F a1 st  h)
set_option maxRecDepth 100000 in
theorem zcal_Mo_choose : zw_cal zR10 zy_Mo_choose zo_Mo_choose 7 none 1 := ⟨zw_at 761 rfl rfl, zw_at 27 rfl rfl, zw_at 52 rfl rfl, zw_at 762 rfl rfl, rfl, by decide, by decide, by decide +kernel⟩
set_option maxRecDepth 100000 in
theorem zml_Mo_145 : Cond.methodLink zR10 145 zy_Mo_choose ∈ zwAll := zw_at 759 rfl rfl
abbrev zrm_Mo_chooseFor : Room := { frames := 8, cells := 0, slots := 0, locals := 196 }
def zf_Mo_chooseFor_34 (N : Nat) (r2 : Int32 → Int32 → zS → Option zS) (l1 : Int32) (l2 : Int32) (st : zS) : Option zS := r2 l1 (l2 + 1) st
set_option maxHeartbeats 4000000 in
theorem zl_Mo_chooseFor_34 (F : zw_X p m c zo_Mo_chooseFor 3 s args zR10 E 20 A meth none) {N : Nat} {rst : zS} {r2 : Int32 → Int32 → zS → Option zS} (hr2 : ∀ (l1 : Int32) (l2 : Int32) (st : zS) , r2 l1 l2 st = some rst → zw_G p l e zrm_Mo_chooseFor s m args below meth c (MQ below (zw_Q E none rst A) args s 0 0 A) E A 3 0 2 [some (.ref 40), some (.int l1), some (.int l2)] [] st) (l1 : Int32) (l2 : Int32) (st : zS)  (h : zf_Mo_chooseFor_34 N r2 l1 l2 st = some rst) : zw_G p l e zrm_Mo_chooseFor s m args below meth c (MQ below (zw_Q E none rst A) args s 0 0 A) E A 3 0 34 [some (.ref 40), some (.int l1), some (.int l2)] [] st := by
  unfold zf_Mo_chooseFor_34 at h
  refine zg_iinc F.1 (l2 + 1) [some (.ref 40), some (.int l1), some (.int (l2 + 1))] zd_Mo_chooseFor_34 rfl (by rw [lit1]) (by decide) rfl ?_
  refine zg_goto F.1 2 zd_Mo_chooseFor_37 rfl ?_
  exact hr2 l1 (l2 + 1) st h
def zb_Mo_chooseFor_2 (N : Nat) (r2 : Int32 → Int32 → zS → Option zS) (l1 : Int32) (l2 : Int32) (st : zS) : Option zS := (if (st 40 19) ≤ l2 then some st else (if l2 < 0 ∨ 48 ≤ l2.toNatClampNeg then none else (if (st 49 l2.toNatClampNeg) = 0 then (if l2 < 0 ∨ 48 ≤ l2.toNatClampNeg then none else (if (st 50 l2.toNatClampNeg) = l1 then ((zf_Mo_choose N l2 st).bind fun t31 => zf_Mo_chooseFor_34 N r2 l1 l2 t31) else zf_Mo_chooseFor_34 N r2 l1 l2 st)) else zf_Mo_chooseFor_34 N r2 l1 l2 st)))
set_option maxHeartbeats 4000000 in
theorem zlb_Mo_chooseFor_2 (F : zw_X p m c zo_Mo_chooseFor 3 s args zR10 E 20 A meth none) {N : Nat} {rst : zS} {r2 : Int32 → Int32 → zS → Option zS} (hr2 : ∀ (l1 : Int32) (l2 : Int32) (st : zS) , r2 l1 l2 st = some rst → zw_G p l e zrm_Mo_chooseFor s m args below meth c (MQ below (zw_Q E none rst A) args s 0 0 A) E A 3 0 2 [some (.ref 40), some (.int l1), some (.int l2)] [] st) (l1 : Int32) (l2 : Int32) (st : zS)  (h : zb_Mo_chooseFor_2 N r2 l1 l2 st = some rst) : zw_G p l e zrm_Mo_chooseFor s m args below meth c (MQ below (zw_Q E none rst A) args s 0 0 A) E A 3 0 2 [some (.ref 40), some (.int l1), some (.int l2)] [] st := by
  unfold zb_Mo_chooseFor_2 at h
  refine zg_iload_n F.1 zd_Mo_chooseFor_2 rfl rfl ?_
  refine zg_aload_n F.1 zd_Mo_chooseFor_3 rfl rfl ?_
  refine zg_getI10 F.1 (by decide) rfl 19 (by decide) (st 40 19) rfl rfl zwf_Mo_81 zd_Mo_chooseFor_4 ?_
  refine zg_icmp_ge F.1 40 zd_Mo_chooseFor_7 rfl (fun hc => ?_) (fun hc => ?_)
  · rw [if_pos hc] at h
    cases h
    exact zg_vret F zd_Mo_chooseFor_40
  · rw [if_neg hc] at h
    refine zg_aload_n F.1 zd_Mo_chooseFor_10 rfl rfl ?_
    refine zg_getR10 F.1 (by decide) rfl 13 (by decide) 49 rfl zwf_Mo_45 zd_Mo_chooseFor_11 ?_
    refine zg_iload_n F.1 zd_Mo_chooseFor_14 rfl rfl ?_
    by_cases hi15 : l2 < 0 ∨ 48 ≤ l2.toNatClampNeg
    case pos => rw [if_pos hi15] at h; cases h
    rw [if_neg hi15] at h
    refine zg_ald13 F.1 (by decide) rfl hi15 l2.toNatClampNeg rfl (st 49 l2.toNatClampNeg) rfl zd_Mo_chooseFor_15 ?_
    refine zg_if_ne F.1 34 zd_Mo_chooseFor_16 rfl (fun hc => ?_) (fun hc => ?_)
    · rw [if_neg hc] at h
      exact zl_Mo_chooseFor_34 F hr2 l1 l2 st h
    · rw [if_pos hc] at h
      refine zg_aload_n F.1 zd_Mo_chooseFor_19 rfl rfl ?_
      refine zg_getR10 F.1 (by decide) rfl 14 (by decide) 50 rfl zwf_Mo_48 zd_Mo_chooseFor_20 ?_
      refine zg_iload_n F.1 zd_Mo_chooseFor_23 rfl rfl ?_
      by_cases hi24 : l2 < 0 ∨ 48 ≤ l2.toNatClampNeg
      case pos => rw [if_pos hi24] at h; cases h
      rw [if_neg hi24] at h
      refine zg_ald13 F.1 (by decide) rfl hi24 l2.toNatClampNeg rfl (st 50 l2.toNatClampNeg) rfl zd_Mo_chooseFor_24 ?_
      refine zg_iload_n F.1 zd_Mo_chooseFor_25 rfl rfl ?_
      refine zg_icmp_ne F.1 34 zd_Mo_chooseFor_26 rfl (fun hc => ?_) (fun hc => ?_)
      · rw [if_neg hc] at h
        exact zl_Mo_chooseFor_34 F hr2 l1 l2 st h
      · rw [if_pos hc] at h
        refine zg_aload_n F.1 zd_Mo_chooseFor_29 rfl rfl ?_
        refine zg_iload_n F.1 zd_Mo_chooseFor_30 rfl rfl ?_
        obtain ⟨t31, hc31, h⟩ := Option.bind_eq_some_iff.mp h
        refine zg_callV F (As := [.int l2]) (rest := []) (zk_Mo_choose F.1.2.2 N l2 st hc31) rfl rfl zcal_Mo_choose zml_Mo_145 ⟨(Nat.le_of_ble_eq_true rfl), (Nat.le_of_ble_eq_true rfl)⟩ (zg_rec10 F.1 (by decide) rfl) rfl (Nat.le_of_ble_eq_true rfl) ⟨(Nat.le_of_ble_eq_true rfl), (Nat.le_of_ble_eq_true rfl)⟩ zd_Mo_chooseFor_31 ?_
        exact zl_Mo_chooseFor_34 F hr2 l1 l2 t31 h
def zf_Mo_chooseFor_2 (N : Nat)  : Nat → Int32 → Int32 → zS → Option zS
  | 0, _, _, _ => none
  | n + 1, l1, l2, st => zb_Mo_chooseFor_2 N  (zf_Mo_chooseFor_2 N  n) l1 l2 st
theorem zl_Mo_chooseFor_2 (F : zw_X p m c zo_Mo_chooseFor 3 s args zR10 E 20 A meth none) {N : Nat} {rst : zS}   : ∀ (n : Nat) (l1 : Int32) (l2 : Int32) (st : zS)  (h : zf_Mo_chooseFor_2 N  n l1 l2 st = some rst), zw_G p l e zrm_Mo_chooseFor s m args below meth c (MQ below (zw_Q E none rst A) args s 0 0 A) E A 3 0 2 [some (.ref 40), some (.int l1), some (.int l2)] [] st := by
  intro n
  induction n with
  | zero => intro l1 l2 st  h; cases h
  | succ n ih => intro l1 l2 st  h; exact zlb_Mo_chooseFor_2 F  ih l1 l2 st  h
def zf_Mo_chooseFor (N : Nat) (a1 : Int32) (st : zS) : Option zS := zf_Mo_chooseFor_2 N N a1 0 st
set_option maxHeartbeats 4000000 in
theorem zl_Mo_chooseFor_0 (F : zw_X p m c zo_Mo_chooseFor 3 s args zR10 E 20 A meth none) {N : Nat} {rst : zS} (a1 : Int32) (st : zS)  (h : zf_Mo_chooseFor N a1 st = some rst) : zw_G p l e zrm_Mo_chooseFor s m args below meth c (MQ below (zw_Q E none rst A) args s 0 0 A) E A 3 0 0 [some (.ref 40), some (.int a1), none] [] st := by
  unfold zf_Mo_chooseFor at h
  refine zg_iconst F.1 0 0 (by decide) zd_Mo_chooseFor_0 ?_
  refine zg_istore_n F.1 [some (.ref 40), some (.int a1), some (.int 0)] zd_Mo_chooseFor_1 rfl (by decide) rfl ?_
  exact zl_Mo_chooseFor_2 F N a1 0 st h
theorem zk_Mo_chooseFor {E : zE} (hn : zw_n E 20) (N : Nat) (a1 : Int32) (st : zS)  {rst : zS} (h : zf_Mo_chooseFor N a1 st = some rst) : zw_M l zy_Mo_chooseFor (Cond.code zy_Mo_chooseFor zo_Mo_chooseFor 3 none :: zwAll) zrm_Mo_chooseFor E [.ref 40, .int a1] st none rst :=
  zw_enter (by decide) rfl hn (Nat.le_of_ble_eq_true rfl) (by simp [Value.category]) 1 (fun p e s m args below meth c A F => zl_Mo_chooseFor_0 F a1 st  h)
abbrev zrm_Mo_call : Room := { frames := 8, cells := 0, slots := 0, locals := 196 }
def zf_Mo_call_73 (N : Nat) (r45 : Int32 → Int32 → Int32 → Int32 → Int32 → zS → Option (Int32 × zS)) (l1 : Int32) (l2 : Int32) (l3 : Int32) (l5 : Int32) (s0 : Int32) (st : zS) : Option (Int32 × zS) := r45 l1 l2 l3 s0 (l5 + 1) st
set_option maxHeartbeats 4000000 in
theorem zl_Mo_call_73 (F : zw_X p m c zo_Mo_call 6 s args zR10 E 20 A meth (some .int)) {N : Nat} {rv : Int32} {rst : zS} {r45 : Int32 → Int32 → Int32 → Int32 → Int32 → zS → Option (Int32 × zS)} (hr45 : ∀ (l1 : Int32) (l2 : Int32) (l3 : Int32) (l4 : Int32) (l5 : Int32) (st : zS) , r45 l1 l2 l3 l4 l5 st = some (rv, rst) → zw_G p l e zrm_Mo_call s m args below meth c (MQ below (zw_Q E (some (.int rv)) rst A) args s 0 0 A) E A 6 0 45 [some (.ref 40), some (.int l1), some (.int l2), some (.int l3), some (.int l4), some (.int l5)] [] st) (l1 : Int32) (l2 : Int32) (l3 : Int32) (l5 : Int32) (s0 : Int32) (st : zS)  (h : zf_Mo_call_73 N r45 l1 l2 l3 l5 s0 st = some (rv, rst)) : zw_G p l e zrm_Mo_call s m args below meth c (MQ below (zw_Q E (some (.int rv)) rst A) args s 0 0 A) E A 6 0 73 [some (.ref 40), some (.int l1), some (.int l2), some (.int l3), none, some (.int l5)] [.int s0] st := by
  unfold zf_Mo_call_73 at h
  refine zg_istore F.1 [some (.ref 40), some (.int l1), some (.int l2), some (.int l3), some (.int s0), some (.int l5)] zd_Mo_call_73 (by decide) rfl ?_
  refine zg_iinc F.1 (l5 + 1) [some (.ref 40), some (.int l1), some (.int l2), some (.int l3), some (.int s0), some (.int (l5 + 1))] zd_Mo_call_75 rfl (by rw [lit1]) (by decide) rfl ?_
  refine zg_goto F.1 45 zd_Mo_call_78 rfl ?_
  exact hr45 l1 l2 l3 s0 (l5 + 1) st h
def zf_Mo_call_68 (N : Nat) (r45 : Int32 → Int32 → Int32 → Int32 → Int32 → zS → Option (Int32 × zS)) (l1 : Int32) (l2 : Int32) (l3 : Int32) (l5 : Int32) (st : zS) : Option (Int32 × zS) := zf_Mo_call_73 N r45 l1 l2 l3 l5 1 st
set_option maxHeartbeats 4000000 in
theorem zl_Mo_call_68 (F : zw_X p m c zo_Mo_call 6 s args zR10 E 20 A meth (some .int)) {N : Nat} {rv : Int32} {rst : zS} {r45 : Int32 → Int32 → Int32 → Int32 → Int32 → zS → Option (Int32 × zS)} (hr45 : ∀ (l1 : Int32) (l2 : Int32) (l3 : Int32) (l4 : Int32) (l5 : Int32) (st : zS) , r45 l1 l2 l3 l4 l5 st = some (rv, rst) → zw_G p l e zrm_Mo_call s m args below meth c (MQ below (zw_Q E (some (.int rv)) rst A) args s 0 0 A) E A 6 0 45 [some (.ref 40), some (.int l1), some (.int l2), some (.int l3), some (.int l4), some (.int l5)] [] st) (l1 : Int32) (l2 : Int32) (l3 : Int32) (l5 : Int32) (st : zS)  (h : zf_Mo_call_68 N r45 l1 l2 l3 l5 st = some (rv, rst)) : zw_G p l e zrm_Mo_call s m args below meth c (MQ below (zw_Q E (some (.int rv)) rst A) args s 0 0 A) E A 6 0 68 [some (.ref 40), some (.int l1), some (.int l2), some (.int l3), none, some (.int l5)] [] st := by
  unfold zf_Mo_call_68 at h
  refine zg_iconst F.1 1 1 (by decide) zd_Mo_call_68 ?_
  refine zg_goto F.1 73 zd_Mo_call_69 rfl ?_
  exact zl_Mo_call_73 F hr45 l1 l2 l3 l5 1 st h
def zf_Mo_call_93 (N : Nat)  (l1 : Int32) (l2 : Int32) (s0 : Int32) (s1 : Int32) (st : zS) : Option (Int32 × zS) := ((zf_Mo_refuse N s1 s0 st).bind fun y93 => (if y93.1 = 0 then (if (y93.2 40 19) = 24 then some (0, (zp y93.2 40 0 3)) else (if (y93.2 40 19) < 0 ∨ 48 ≤ (y93.2 40 19).toNatClampNeg then none else (if (y93.2 40 19) < 0 ∨ 48 ≤ (y93.2 40 19).toNatClampNeg then none else (if (y93.2 40 19) < 0 ∨ 48 ≤ (y93.2 40 19).toNatClampNeg then none else (if (y93.2 40 19) < 0 ∨ 48 ≤ (y93.2 40 19).toNatClampNeg then none else (if (y93.2 40 19) < 0 ∨ 24 ≤ (y93.2 40 19).toNatClampNeg then none else (if (y93.2 40 19) < 0 ∨ 24 ≤ (y93.2 40 19).toNatClampNeg then none else ((zf_Mo_choose N (y93.2 40 19) (zp (zp (zp (zp (zp (zp (zp y93.2 49 ((y93.2 40 19).toNatClampNeg) 0) 50 ((y93.2 40 19).toNatClampNeg) (-1)) 51 ((y93.2 40 19).toNatClampNeg) l1) 52 ((y93.2 40 19).toNatClampNeg) l2) 53 ((y93.2 40 19).toNatClampNeg) (y93.2 40 20)) 54 ((y93.2 40 19).toNatClampNeg) 0) 40 19 ((y93.2 40 19) + 1))).bind fun t187 => (if (y93.2 40 19) < 0 ∨ 48 ≤ (y93.2 40 19).toNatClampNeg then none else some ((t187 50 ((y93.2 40 19).toNatClampNeg)), t187)))))))))) else some (0, y93.2)))
set_option maxHeartbeats 4000000 in
theorem zl_Mo_call_93 (F : zw_X p m c zo_Mo_call 6 s args zR10 E 20 A meth (some .int)) {N : Nat} {rv : Int32} {rst : zS}   (l1 : Int32) (l2 : Int32) (s0 : Int32) (s1 : Int32) (st : zS)  (h : zf_Mo_call_93 N  l1 l2 s0 s1 st = some (rv, rst)) : zw_G p l e zrm_Mo_call s m args below meth c (MQ below (zw_Q E (some (.int rv)) rst A) args s 0 0 A) E A 6 0 93 [some (.ref 40), some (.int l1), some (.int l2), none, none, none] [.int s0, .int s1, .ref 40] st := by
  unfold zf_Mo_call_93 at h
  obtain ⟨y93, hc93, h⟩ := Option.bind_eq_some_iff.mp h
  refine zg_callV F (As := [.int s1, .int s0]) (rest := []) (zk_Mo_refuse F.1.2.2 N s1 s0 st hc93) rfl rfl zcal_Mo_refuse zml_Mo_73 ⟨(Nat.le_of_ble_eq_true rfl), (Nat.le_of_ble_eq_true rfl)⟩ (zg_rec10 F.1 (by decide) rfl) rfl (Nat.le_of_ble_eq_true rfl) ⟨(Nat.le_of_ble_eq_true rfl), (Nat.le_of_ble_eq_true rfl)⟩ zd_Mo_call_93 ?_
  refine zg_if_eq F.1 101 zd_Mo_call_96 rfl (fun hc => ?_) (fun hc => ?_)
  · rw [if_pos hc] at h
    refine zg_aload_n F.1 zd_Mo_call_101 rfl rfl ?_
    refine zg_getI10 F.1 (by decide) rfl 19 (by decide) (y93.2 40 19) rfl rfl zwf_Mo_81 zd_Mo_call_102 ?_
    refine zg_bipush F.1 24 24 (by decide) zd_Mo_call_105 ?_
    refine zg_icmp_ne F.1 117 zd_Mo_call_107 rfl (fun hc => ?_) (fun hc => ?_)
    · rw [if_neg hc] at h
      refine zg_aload_n F.1 zd_Mo_call_117 rfl rfl ?_
      refine zg_getI10 F.1 (by decide) rfl 19 (by decide) (y93.2 40 19) rfl rfl zwf_Mo_81 zd_Mo_call_118 ?_
      refine zg_istore F.1 [some (.ref 40), some (.int l1), some (.int l2), none, none, some (.int (y93.2 40 19))] zd_Mo_call_121 (by decide) rfl ?_
      refine zg_aload_n F.1 zd_Mo_call_123 rfl rfl ?_
      refine zg_getR10 F.1 (by decide) rfl 13 (by decide) 49 rfl zwf_Mo_45 zd_Mo_call_124 ?_
      refine zg_iload F.1 zd_Mo_call_127 rfl ?_
      refine zg_iconst F.1 0 0 (by decide) zd_Mo_call_129 ?_
      by_cases hi130 : (y93.2 40 19) < 0 ∨ 48 ≤ (y93.2 40 19).toNatClampNeg
      case pos => rw [if_pos hi130] at h; cases h
      rw [if_neg hi130] at h
      refine zg_ast13 F.1 (by decide) rfl hi130 ((y93.2 40 19).toNatClampNeg) rfl zd_Mo_call_130 ?_
      refine zg_aload_n F.1 zd_Mo_call_131 rfl rfl ?_
      refine zg_getR10 F.1 (by decide) rfl 14 (by decide) 50 rfl zwf_Mo_48 zd_Mo_call_132 ?_
      refine zg_iload F.1 zd_Mo_call_135 rfl ?_
      refine zg_iconst F.1 (-1) (-1) (by decide) zd_Mo_call_137 ?_
      by_cases hi138 : (y93.2 40 19) < 0 ∨ 48 ≤ (y93.2 40 19).toNatClampNeg
      case pos => rw [if_pos hi138] at h; cases h
      rw [if_neg hi138] at h
      refine zg_ast13 F.1 (by decide) rfl hi138 ((y93.2 40 19).toNatClampNeg) rfl zd_Mo_call_138 ?_
      refine zg_aload_n F.1 zd_Mo_call_139 rfl rfl ?_
      refine zg_getR10 F.1 (by decide) rfl 15 (by decide) 51 rfl zwf_Mo_51 zd_Mo_call_140 ?_
      refine zg_iload F.1 zd_Mo_call_143 rfl ?_
      refine zg_iload_n F.1 zd_Mo_call_145 rfl rfl ?_
      by_cases hi146 : (y93.2 40 19) < 0 ∨ 48 ≤ (y93.2 40 19).toNatClampNeg
      case pos => rw [if_pos hi146] at h; cases h
      rw [if_neg hi146] at h
      refine zg_ast13 F.1 (by decide) rfl hi146 ((y93.2 40 19).toNatClampNeg) rfl zd_Mo_call_146 ?_
      refine zg_aload_n F.1 zd_Mo_call_147 rfl rfl ?_
      refine zg_getR10 F.1 (by decide) rfl 16 (by decide) 52 rfl zwf_Mo_54 zd_Mo_call_148 ?_
      refine zg_iload F.1 zd_Mo_call_151 rfl ?_
      refine zg_iload_n F.1 zd_Mo_call_153 rfl rfl ?_
      by_cases hi154 : (y93.2 40 19) < 0 ∨ 48 ≤ (y93.2 40 19).toNatClampNeg
      case pos => rw [if_pos hi154] at h; cases h
      rw [if_neg hi154] at h
      refine zg_ast13 F.1 (by decide) rfl hi154 ((y93.2 40 19).toNatClampNeg) rfl zd_Mo_call_154 ?_
      refine zg_aload_n F.1 zd_Mo_call_155 rfl rfl ?_
      refine zg_getR10 F.1 (by decide) rfl 17 (by decide) 53 rfl zwf_Mo_57 zd_Mo_call_156 ?_
      refine zg_iload F.1 zd_Mo_call_159 rfl ?_
      refine zg_aload_n F.1 zd_Mo_call_161 rfl rfl ?_
      refine zg_getI10 F.1 (by decide) rfl 20 (by decide) (y93.2 40 20) rfl ((zp_q _ _ (by decide)).trans ((zp_q _ _ (by decide)).trans ((zp_q _ _ (by decide)).trans (zp_q _ _ (by decide))))) zwf_Mo_84 zd_Mo_call_162 ?_
      by_cases hi165 : (y93.2 40 19) < 0 ∨ 24 ≤ (y93.2 40 19).toNatClampNeg
      case pos => rw [if_pos hi165] at h; cases h
      rw [if_neg hi165] at h
      refine zg_ast14 F.1 (by decide) rfl hi165 ((y93.2 40 19).toNatClampNeg) rfl zd_Mo_call_165 ?_
      refine zg_aload_n F.1 zd_Mo_call_166 rfl rfl ?_
      refine zg_getR10 F.1 (by decide) rfl 18 (by decide) 54 rfl zwf_Mo_60 zd_Mo_call_167 ?_
      refine zg_iload F.1 zd_Mo_call_170 rfl ?_
      refine zg_iconst F.1 0 0 (by decide) zd_Mo_call_172 ?_
      by_cases hi173 : (y93.2 40 19) < 0 ∨ 24 ≤ (y93.2 40 19).toNatClampNeg
      case pos => rw [if_pos hi173] at h; cases h
      rw [if_neg hi173] at h
      refine zg_ast14 F.1 (by decide) rfl hi173 ((y93.2 40 19).toNatClampNeg) rfl zd_Mo_call_173 ?_
      refine zg_aload_n F.1 zd_Mo_call_174 rfl rfl ?_
      refine zg_dup F.1 zd_Mo_call_175 rfl ?_
      refine zg_getI10 F.1 (by decide) rfl 19 (by decide) (y93.2 40 19) rfl ((zp_q _ _ (by decide)).trans ((zp_q _ _ (by decide)).trans ((zp_q _ _ (by decide)).trans ((zp_q _ _ (by decide)).trans ((zp_q _ _ (by decide)).trans (zp_q _ _ (by decide))))))) zwf_Mo_81 zd_Mo_call_176 ?_
      refine zg_iconst F.1 1 1 (by decide) zd_Mo_call_179 ?_
      refine zg_iadd F.1 zd_Mo_call_180 ?_
      refine zg_putI10 F.1 (by decide) rfl 19 (by decide) (Or.inr (Or.inr (Or.inr (Or.inr (Or.inr (Or.inl rfl)))))) .int (by decide) rfl rfl rfl zwf_Mo_81 zd_Mo_call_181 ?_
      refine zg_aload_n F.1 zd_Mo_call_184 rfl rfl ?_
      refine zg_iload F.1 zd_Mo_call_185 rfl ?_
      obtain ⟨t187, hc187, h⟩ := Option.bind_eq_some_iff.mp h
      refine zg_callV F (As := [.int (y93.2 40 19)]) (rest := []) (zk_Mo_choose F.1.2.2 N (y93.2 40 19) (zp (zp (zp (zp (zp (zp (zp y93.2 49 ((y93.2 40 19).toNatClampNeg) 0) 50 ((y93.2 40 19).toNatClampNeg) (-1)) 51 ((y93.2 40 19).toNatClampNeg) l1) 52 ((y93.2 40 19).toNatClampNeg) l2) 53 ((y93.2 40 19).toNatClampNeg) (y93.2 40 20)) 54 ((y93.2 40 19).toNatClampNeg) 0) 40 19 ((y93.2 40 19) + 1)) hc187) rfl rfl zcal_Mo_choose zml_Mo_145 ⟨(Nat.le_of_ble_eq_true rfl), (Nat.le_of_ble_eq_true rfl)⟩ (zg_rec10 F.1 (by decide) rfl) rfl (Nat.le_of_ble_eq_true rfl) ⟨(Nat.le_of_ble_eq_true rfl), (Nat.le_of_ble_eq_true rfl)⟩ zd_Mo_call_187 ?_
      refine zg_aload_n F.1 zd_Mo_call_190 rfl rfl ?_
      refine zg_getR10 F.1 (by decide) rfl 14 (by decide) 50 rfl zwf_Mo_48 zd_Mo_call_191 ?_
      refine zg_iload F.1 zd_Mo_call_194 rfl ?_
      by_cases hi196 : (y93.2 40 19) < 0 ∨ 48 ≤ (y93.2 40 19).toNatClampNeg
      case pos => rw [if_pos hi196] at h; cases h
      rw [if_neg hi196] at h
      refine zg_ald13 F.1 (by decide) rfl hi196 ((y93.2 40 19).toNatClampNeg) rfl (t187 50 ((y93.2 40 19).toNatClampNeg)) rfl zd_Mo_call_196 ?_
      cases h
      exact zg_iret F zd_Mo_call_197
    · rw [if_pos hc] at h
      refine zg_aload_n F.1 zd_Mo_call_110 rfl rfl ?_
      refine zg_iconst F.1 3 3 (by decide) zd_Mo_call_111 ?_
      refine zg_putI10 F.1 (by decide) rfl 0 (by decide) (Or.inl rfl) .int (by decide) rfl rfl rfl zwf_Mo_66 zd_Mo_call_112 ?_
      refine zg_iconst F.1 0 0 (by decide) zd_Mo_call_115 ?_
      cases h
      exact zg_iret F zd_Mo_call_116
  · rw [if_neg hc] at h
    refine zg_iconst F.1 0 0 (by decide) zd_Mo_call_99 ?_
    cases h
    exact zg_iret F zd_Mo_call_100
def zb_Mo_call_45 (N : Nat) (r45 : Int32 → Int32 → Int32 → Int32 → Int32 → zS → Option (Int32 × zS)) (l1 : Int32) (l2 : Int32) (l3 : Int32) (l4 : Int32) (l5 : Int32) (st : zS) : Option (Int32 × zS) := (if (st 40 2) ≤ l5 then (if l4 = 0 then zf_Mo_call_93 N l1 l2 1 l3 st else zf_Mo_call_93 N l1 l2 0 l3 st) else (if l4 = 0 then ((zf_Mo_isUsable N l5 st).bind fun y62 => (if y62.1 = 0 then zf_Mo_call_73 N r45 l1 l2 l3 l5 0 y62.2 else zf_Mo_call_68 N r45 l1 l2 l3 l5 y62.2)) else zf_Mo_call_68 N r45 l1 l2 l3 l5 st))
set_option maxHeartbeats 4000000 in
theorem zlb_Mo_call_45 (F : zw_X p m c zo_Mo_call 6 s args zR10 E 20 A meth (some .int)) {N : Nat} {rv : Int32} {rst : zS} {r45 : Int32 → Int32 → Int32 → Int32 → Int32 → zS → Option (Int32 × zS)} (hr45 : ∀ (l1 : Int32) (l2 : Int32) (l3 : Int32) (l4 : Int32) (l5 : Int32) (st : zS) , r45 l1 l2 l3 l4 l5 st = some (rv, rst) → zw_G p l e zrm_Mo_call s m args below meth c (MQ below (zw_Q E (some (.int rv)) rst A) args s 0 0 A) E A 6 0 45 [some (.ref 40), some (.int l1), some (.int l2), some (.int l3), some (.int l4), some (.int l5)] [] st) (l1 : Int32) (l2 : Int32) (l3 : Int32) (l4 : Int32) (l5 : Int32) (st : zS)  (h : zb_Mo_call_45 N r45 l1 l2 l3 l4 l5 st = some (rv, rst)) : zw_G p l e zrm_Mo_call s m args below meth c (MQ below (zw_Q E (some (.int rv)) rst A) args s 0 0 A) E A 6 0 45 [some (.ref 40), some (.int l1), some (.int l2), some (.int l3), some (.int l4), some (.int l5)] [] st := by
  unfold zb_Mo_call_45 at h
  refine zg_iload F.1 zd_Mo_call_45 rfl ?_
  refine zg_aload_n F.1 zd_Mo_call_47 rfl rfl ?_
  refine zg_getI10 F.1 (by decide) rfl 2 (by decide) (st 40 2) rfl rfl zwf_Mo_13 zd_Mo_call_48 ?_
  refine zg_icmp_ge F.1 81 zd_Mo_call_51 rfl (fun hc => ?_) (fun hc => ?_)
  · rw [if_pos hc] at h
    refine zg_aload_n F.1 zd_Mo_call_81 rfl rfl ?_
    refine zg_iload_n F.1 zd_Mo_call_82 rfl rfl ?_
    refine zg_iload F.1 zd_Mo_call_83 rfl ?_
    refine zg_if_ne F.1 92 zd_Mo_call_85 rfl (fun hc => ?_) (fun hc => ?_)
    · rw [if_neg hc] at h
      refine zg_iconst F.1 0 0 (by decide) zd_Mo_call_92 ?_
      exact zg_le (zw_les (zw_les (zw_les (zw_len (zw_len (zw_len zw_le0)))))) (zl_Mo_call_93 F l1 l2 0 l3 st h)
    · rw [if_pos hc] at h
      refine zg_iconst F.1 1 1 (by decide) zd_Mo_call_88 ?_
      refine zg_goto F.1 93 zd_Mo_call_89 rfl ?_
      exact zg_le (zw_les (zw_les (zw_les (zw_len (zw_len (zw_len zw_le0)))))) (zl_Mo_call_93 F l1 l2 1 l3 st h)
  · rw [if_neg hc] at h
    refine zg_iload F.1 zd_Mo_call_54 rfl ?_
    refine zg_if_ne F.1 68 zd_Mo_call_56 rfl (fun hc => ?_) (fun hc => ?_)
    · rw [if_neg hc] at h
      exact zg_le (zw_les (zw_les (zw_les (zw_les (zw_len (zw_les zw_le0)))))) (zl_Mo_call_68 F hr45 l1 l2 l3 l5 st h)
    · rw [if_pos hc] at h
      refine zg_aload_n F.1 zd_Mo_call_59 rfl rfl ?_
      refine zg_iload F.1 zd_Mo_call_60 rfl ?_
      obtain ⟨y62, hc62, h⟩ := Option.bind_eq_some_iff.mp h
      refine zg_callV F (As := [.int l5]) (rest := []) (zk_Mo_isUsable F.1.2.2 N l5 st hc62) rfl rfl zcal_Mo_isUsable zml_Mo_139 ⟨(Nat.le_of_ble_eq_true rfl), (Nat.le_of_ble_eq_true rfl)⟩ (zg_rec10 F.1 (by decide) rfl) rfl (Nat.le_of_ble_eq_true rfl) ⟨(Nat.le_of_ble_eq_true rfl), (Nat.le_of_ble_eq_true rfl)⟩ zd_Mo_call_62 ?_
      refine zg_if_eq F.1 72 zd_Mo_call_65 rfl (fun hc => ?_) (fun hc => ?_)
      · rw [if_pos hc] at h
        refine zg_iconst F.1 0 0 (by decide) zd_Mo_call_72 ?_
        exact zg_le (zw_les (zw_les (zw_les (zw_les (zw_len (zw_les zw_le0)))))) (zl_Mo_call_73 F hr45 l1 l2 l3 l5 0 y62.2 h)
      · rw [if_neg hc] at h
        exact zg_le (zw_les (zw_les (zw_les (zw_les (zw_len (zw_les zw_le0)))))) (zl_Mo_call_68 F hr45 l1 l2 l3 l5 y62.2 h)
def zf_Mo_call_45 (N : Nat)  : Nat → Int32 → Int32 → Int32 → Int32 → Int32 → zS → Option (Int32 × zS)
  | 0, _, _, _, _, _, _ => none
  | n + 1, l1, l2, l3, l4, l5, st => zb_Mo_call_45 N  (zf_Mo_call_45 N  n) l1 l2 l3 l4 l5 st
theorem zl_Mo_call_45 (F : zw_X p m c zo_Mo_call 6 s args zR10 E 20 A meth (some .int)) {N : Nat} {rv : Int32} {rst : zS}   : ∀ (n : Nat) (l1 : Int32) (l2 : Int32) (l3 : Int32) (l4 : Int32) (l5 : Int32) (st : zS)  (h : zf_Mo_call_45 N  n l1 l2 l3 l4 l5 st = some (rv, rst)), zw_G p l e zrm_Mo_call s m args below meth c (MQ below (zw_Q E (some (.int rv)) rst A) args s 0 0 A) E A 6 0 45 [some (.ref 40), some (.int l1), some (.int l2), some (.int l3), some (.int l4), some (.int l5)] [] st := by
  intro n
  induction n with
  | zero => intro l1 l2 l3 l4 l5 st  h; cases h
  | succ n ih => intro l1 l2 l3 l4 l5 st  h; exact zlb_Mo_call_45 F  ih l1 l2 l3 l4 l5 st  h
def zf_Mo_call_38 (N : Nat)  (l1 : Int32) (l2 : Int32) (s0 : Int32) (st : zS) : Option (Int32 × zS) := zf_Mo_call_45 N N l1 l2 s0 0 0 st
set_option maxHeartbeats 4000000 in
theorem zl_Mo_call_38 (F : zw_X p m c zo_Mo_call 6 s args zR10 E 20 A meth (some .int)) {N : Nat} {rv : Int32} {rst : zS}   (l1 : Int32) (l2 : Int32) (s0 : Int32) (st : zS)  (h : zf_Mo_call_38 N  l1 l2 s0 st = some (rv, rst)) : zw_G p l e zrm_Mo_call s m args below meth c (MQ below (zw_Q E (some (.int rv)) rst A) args s 0 0 A) E A 6 0 38 [some (.ref 40), some (.int l1), some (.int l2), none, none, none] [.int s0] st := by
  unfold zf_Mo_call_38 at h
  refine zg_istore_n F.1 [some (.ref 40), some (.int l1), some (.int l2), some (.int s0), none, none] zd_Mo_call_38 rfl (by decide) rfl ?_
  refine zg_iconst F.1 0 0 (by decide) zd_Mo_call_39 ?_
  refine zg_istore F.1 [some (.ref 40), some (.int l1), some (.int l2), some (.int s0), some (.int 0), none] zd_Mo_call_40 (by decide) rfl ?_
  refine zg_iconst F.1 0 0 (by decide) zd_Mo_call_42 ?_
  refine zg_istore F.1 [some (.ref 40), some (.int l1), some (.int l2), some (.int s0), some (.int 0), some (.int 0)] zd_Mo_call_43 (by decide) rfl ?_
  exact zl_Mo_call_45 F N l1 l2 s0 0 0 st h
def zf_Mo_call_33 (N : Nat)  (l1 : Int32) (l2 : Int32) (st : zS) : Option (Int32 × zS) := zf_Mo_call_38 N l1 l2 1 st
set_option maxHeartbeats 4000000 in
theorem zl_Mo_call_33 (F : zw_X p m c zo_Mo_call 6 s args zR10 E 20 A meth (some .int)) {N : Nat} {rv : Int32} {rst : zS}   (l1 : Int32) (l2 : Int32) (st : zS)  (h : zf_Mo_call_33 N  l1 l2 st = some (rv, rst)) : zw_G p l e zrm_Mo_call s m args below meth c (MQ below (zw_Q E (some (.int rv)) rst A) args s 0 0 A) E A 6 0 33 [some (.ref 40), some (.int l1), some (.int l2), none, none, none] [] st := by
  unfold zf_Mo_call_33 at h
  refine zg_iconst F.1 1 1 (by decide) zd_Mo_call_33 ?_
  refine zg_goto F.1 38 zd_Mo_call_34 rfl ?_
  exact zl_Mo_call_38 F l1 l2 1 st h
def zf_Mo_call (N : Nat) (a1 : Int32) (a2 : Int32) (st : zS) : Option (Int32 × zS) := ((zf_Mo_in N a1 0 ((st 40 1) - 1) st).bind fun y8 => (if y8.1 = 0 then zf_Mo_call_33 N a1 a2 y8.2 else ((zf_Mo_in N a2 0 ((y8.2 40 1) - 1) y8.2).bind fun y22 => (if y22.1 = 0 then zf_Mo_call_33 N a1 a2 y22.2 else (if a1 = a2 then zf_Mo_call_33 N a1 a2 y22.2 else zf_Mo_call_38 N a1 a2 0 y22.2)))))
set_option maxHeartbeats 4000000 in
theorem zl_Mo_call_0 (F : zw_X p m c zo_Mo_call 6 s args zR10 E 20 A meth (some .int)) {N : Nat} {rv : Int32} {rst : zS} (a1 : Int32) (a2 : Int32) (st : zS)  (h : zf_Mo_call N a1 a2 st = some (rv, rst)) : zw_G p l e zrm_Mo_call s m args below meth c (MQ below (zw_Q E (some (.int rv)) rst A) args s 0 0 A) E A 6 0 0 [some (.ref 40), some (.int a1), some (.int a2), none, none, none] [] st := by
  unfold zf_Mo_call at h
  refine zg_iload_n F.1 zd_Mo_call_0 rfl rfl ?_
  refine zg_iconst F.1 0 0 (by decide) zd_Mo_call_1 ?_
  refine zg_aload_n F.1 zd_Mo_call_2 rfl rfl ?_
  refine zg_getI10 F.1 (by decide) rfl 1 (by decide) (st 40 1) rfl rfl zwf_Mo_7 zd_Mo_call_3 ?_
  refine zg_iconst F.1 1 1 (by decide) zd_Mo_call_6 ?_
  refine zg_isub F.1 zd_Mo_call_7 ?_
  obtain ⟨y8, hc8, h⟩ := Option.bind_eq_some_iff.mp h
  refine zg_callS F (As := [.int a1, .int 0, .int ((st 40 1) - 1)]) (rest := []) (zk_Mo_in F.1.2.2 N a1 0 ((st 40 1) - 1) st hc8) rfl rfl zcal_Mo_in zml_Mo_69 ⟨(Nat.le_of_ble_eq_true rfl), (Nat.le_of_ble_eq_true rfl)⟩ rfl (Nat.le_of_ble_eq_true rfl) ⟨(Nat.le_of_ble_eq_true rfl), (Nat.le_of_ble_eq_true rfl)⟩ zd_Mo_call_8 ?_
  refine zg_if_eq F.1 33 zd_Mo_call_11 rfl (fun hc => ?_) (fun hc => ?_)
  · rw [if_pos hc] at h
    exact zl_Mo_call_33 F a1 a2 y8.2 h
  · rw [if_neg hc] at h
    refine zg_iload_n F.1 zd_Mo_call_14 rfl rfl ?_
    refine zg_iconst F.1 0 0 (by decide) zd_Mo_call_15 ?_
    refine zg_aload_n F.1 zd_Mo_call_16 rfl rfl ?_
    refine zg_getI10 F.1 (by decide) rfl 1 (by decide) (y8.2 40 1) rfl rfl zwf_Mo_7 zd_Mo_call_17 ?_
    refine zg_iconst F.1 1 1 (by decide) zd_Mo_call_20 ?_
    refine zg_isub F.1 zd_Mo_call_21 ?_
    obtain ⟨y22, hc22, h⟩ := Option.bind_eq_some_iff.mp h
    refine zg_callS F (As := [.int a2, .int 0, .int ((y8.2 40 1) - 1)]) (rest := []) (zk_Mo_in F.1.2.2 N a2 0 ((y8.2 40 1) - 1) y8.2 hc22) rfl rfl zcal_Mo_in zml_Mo_69 ⟨(Nat.le_of_ble_eq_true rfl), (Nat.le_of_ble_eq_true rfl)⟩ rfl (Nat.le_of_ble_eq_true rfl) ⟨(Nat.le_of_ble_eq_true rfl), (Nat.le_of_ble_eq_true rfl)⟩ zd_Mo_call_22 ?_
    refine zg_if_eq F.1 33 zd_Mo_call_25 rfl (fun hc => ?_) (fun hc => ?_)
    · rw [if_pos hc] at h
      exact zl_Mo_call_33 F a1 a2 y22.2 h
    · rw [if_neg hc] at h
      refine zg_iload_n F.1 zd_Mo_call_28 rfl rfl ?_
      refine zg_iload_n F.1 zd_Mo_call_29 rfl rfl ?_
      refine zg_icmp_ne F.1 37 zd_Mo_call_30 rfl (fun hc => ?_) (fun hc => ?_)
      · rw [if_neg hc] at h
        refine zg_iconst F.1 0 0 (by decide) zd_Mo_call_37 ?_
        exact zl_Mo_call_38 F a1 a2 0 y22.2 h
      · rw [if_pos hc] at h
        exact zl_Mo_call_33 F a1 a2 y22.2 h
theorem zk_Mo_call {E : zE} (hn : zw_n E 20) (N : Nat) (a1 : Int32) (a2 : Int32) (st : zS)  {rv : Int32} {rst : zS} (h : zf_Mo_call N a1 a2 st = some (rv, rst)) : zw_M l zy_Mo_call (Cond.code zy_Mo_call zo_Mo_call 6 (some .int) :: zwAll) zrm_Mo_call E [.ref 40, .int a1, .int a2] st (some (.int rv)) rst :=
  zw_enter (by decide) rfl hn (Nat.le_of_ble_eq_true rfl) (by simp [Value.category]) 3 (fun p e s m args below meth c A F => zl_Mo_call_0 F a1 a2 st  h)
abbrev zrm_Mo_step : Room := { frames := 5, cells := 0, slots := 0, locals := 123 }
def zf_Mo_step_67 (N : Nat) (r27 : Int32 → Int32 → zS → Option zS) (r44 : Int32 → Int32 → Int32 → zS → Option zS) (l1 : Int32) (l2 : Int32) (l3 : Int32) (st : zS) : Option zS := r44 l1 l2 (l3 + 1) st
set_option maxHeartbeats 4000000 in
theorem zl_Mo_step_67 (F : zw_X p m c zo_Mo_step 4 s args zR10 E 20 A meth none) {N : Nat} {rst : zS} {r27 : Int32 → Int32 → zS → Option zS} {r44 : Int32 → Int32 → Int32 → zS → Option zS} (hr27 : ∀ (l1 : Int32) (l2 : Int32) (st : zS) , r27 l1 l2 st = some rst → zw_G p l e zrm_Mo_step s m args below meth c (MQ below (zw_Q E none rst A) args s 0 0 A) E A 4 0 27 [some (.ref 40), some (.int l1), some (.int l2), none] [] st) (hr44 : ∀ (l1 : Int32) (l2 : Int32) (l3 : Int32) (st : zS) , r44 l1 l2 l3 st = some rst → zw_G p l e zrm_Mo_step s m args below meth c (MQ below (zw_Q E none rst A) args s 0 0 A) E A 4 0 44 [some (.ref 40), some (.int l1), some (.int l2), some (.int l3)] [] st) (l1 : Int32) (l2 : Int32) (l3 : Int32) (st : zS)  (h : zf_Mo_step_67 N r27 r44 l1 l2 l3 st = some rst) : zw_G p l e zrm_Mo_step s m args below meth c (MQ below (zw_Q E none rst A) args s 0 0 A) E A 4 0 67 [some (.ref 40), some (.int l1), some (.int l2), some (.int l3)] [] st := by
  unfold zf_Mo_step_67 at h
  refine zg_iinc F.1 (l3 + 1) [some (.ref 40), some (.int l1), some (.int l2), some (.int (l3 + 1))] zd_Mo_step_67 rfl (by rw [lit1]) (by decide) rfl ?_
  refine zg_goto F.1 44 zd_Mo_step_70 rfl ?_
  exact hr44 l1 l2 (l3 + 1) st h
def zb_Mo_step_44 (N : Nat) (r27 : Int32 → Int32 → zS → Option zS) (r44 : Int32 → Int32 → Int32 → zS → Option zS) (l1 : Int32) (l2 : Int32) (l3 : Int32) (st : zS) : Option zS := (if (st 40 2) ≤ l3 then r27 l1 (l2 + 1) st else (if l3 < 0 ∨ 5 ≤ l3.toNatClampNeg then none else (if (st 47 l3.toNatClampNeg) = 0 then ((zf_Mo_stepCar N l3 0 st).bind fun t64 => zf_Mo_step_67 N r27 r44 l1 l2 l3 t64) else zf_Mo_step_67 N r27 r44 l1 l2 l3 st)))
set_option maxHeartbeats 4000000 in
theorem zlb_Mo_step_44 (F : zw_X p m c zo_Mo_step 4 s args zR10 E 20 A meth none) {N : Nat} {rst : zS} {r27 : Int32 → Int32 → zS → Option zS} {r44 : Int32 → Int32 → Int32 → zS → Option zS} (hr27 : ∀ (l1 : Int32) (l2 : Int32) (st : zS) , r27 l1 l2 st = some rst → zw_G p l e zrm_Mo_step s m args below meth c (MQ below (zw_Q E none rst A) args s 0 0 A) E A 4 0 27 [some (.ref 40), some (.int l1), some (.int l2), none] [] st) (hr44 : ∀ (l1 : Int32) (l2 : Int32) (l3 : Int32) (st : zS) , r44 l1 l2 l3 st = some rst → zw_G p l e zrm_Mo_step s m args below meth c (MQ below (zw_Q E none rst A) args s 0 0 A) E A 4 0 44 [some (.ref 40), some (.int l1), some (.int l2), some (.int l3)] [] st) (l1 : Int32) (l2 : Int32) (l3 : Int32) (st : zS)  (h : zb_Mo_step_44 N r27 r44 l1 l2 l3 st = some rst) : zw_G p l e zrm_Mo_step s m args below meth c (MQ below (zw_Q E none rst A) args s 0 0 A) E A 4 0 44 [some (.ref 40), some (.int l1), some (.int l2), some (.int l3)] [] st := by
  unfold zb_Mo_step_44 at h
  refine zg_iload_n F.1 zd_Mo_step_44 rfl rfl ?_
  refine zg_aload_n F.1 zd_Mo_step_45 rfl rfl ?_
  refine zg_getI10 F.1 (by decide) rfl 2 (by decide) (st 40 2) rfl rfl zwf_Mo_13 zd_Mo_step_46 ?_
  refine zg_icmp_ge F.1 73 zd_Mo_step_49 rfl (fun hc => ?_) (fun hc => ?_)
  · rw [if_pos hc] at h
    refine zg_iinc F.1 (l2 + 1) [some (.ref 40), some (.int l1), some (.int (l2 + 1)), some (.int l3)] zd_Mo_step_73 rfl (by rw [lit1]) (by decide) rfl ?_
    refine zg_goto F.1 27 zd_Mo_step_76 rfl ?_
    exact zg_le (zw_les (zw_les (zw_les (zw_len zw_le0)))) (hr27 l1 (l2 + 1) st h)
  · rw [if_neg hc] at h
    refine zg_aload_n F.1 zd_Mo_step_52 rfl rfl ?_
    refine zg_getR10 F.1 (by decide) rfl 10 (by decide) 47 rfl zwf_Mo_39 zd_Mo_step_53 ?_
    refine zg_iload_n F.1 zd_Mo_step_56 rfl rfl ?_
    by_cases hi57 : l3 < 0 ∨ 5 ≤ l3.toNatClampNeg
    case pos => rw [if_pos hi57] at h; cases h
    rw [if_neg hi57] at h
    refine zg_ald12 F.1 (by decide) rfl hi57 l3.toNatClampNeg rfl (st 47 l3.toNatClampNeg) rfl zd_Mo_step_57 ?_
    refine zg_if_ne F.1 67 zd_Mo_step_58 rfl (fun hc => ?_) (fun hc => ?_)
    · rw [if_neg hc] at h
      exact zl_Mo_step_67 F hr27 hr44 l1 l2 l3 st h
    · rw [if_pos hc] at h
      refine zg_aload_n F.1 zd_Mo_step_61 rfl rfl ?_
      refine zg_iload_n F.1 zd_Mo_step_62 rfl rfl ?_
      refine zg_iconst F.1 0 0 (by decide) zd_Mo_step_63 ?_
      obtain ⟨t64, hc64, h⟩ := Option.bind_eq_some_iff.mp h
      refine zg_callV F (As := [.int l3, .int 0]) (rest := []) (zk_Mo_stepCar F.1.2.2 N l3 0 st hc64) rfl rfl zcal_Mo_stepCar zml_Mo_129 ⟨(Nat.le_of_ble_eq_true rfl), (Nat.le_of_ble_eq_true rfl)⟩ (zg_rec10 F.1 (by decide) rfl) rfl (Nat.le_of_ble_eq_true rfl) ⟨(Nat.le_of_ble_eq_true rfl), (Nat.le_of_ble_eq_true rfl)⟩ zd_Mo_step_64 ?_
      exact zl_Mo_step_67 F hr27 hr44 l1 l2 l3 t64 h
def zf_Mo_step_44 (N : Nat) (r27 : Int32 → Int32 → zS → Option zS) : Nat → Int32 → Int32 → Int32 → zS → Option zS
  | 0, _, _, _, _ => none
  | n + 1, l1, l2, l3, st => zb_Mo_step_44 N r27 (zf_Mo_step_44 N r27 n) l1 l2 l3 st
theorem zl_Mo_step_44 (F : zw_X p m c zo_Mo_step 4 s args zR10 E 20 A meth none) {N : Nat} {rst : zS} {r27 : Int32 → Int32 → zS → Option zS} (hr27 : ∀ (l1 : Int32) (l2 : Int32) (st : zS) , r27 l1 l2 st = some rst → zw_G p l e zrm_Mo_step s m args below meth c (MQ below (zw_Q E none rst A) args s 0 0 A) E A 4 0 27 [some (.ref 40), some (.int l1), some (.int l2), none] [] st) : ∀ (n : Nat) (l1 : Int32) (l2 : Int32) (l3 : Int32) (st : zS)  (h : zf_Mo_step_44 N r27 n l1 l2 l3 st = some rst), zw_G p l e zrm_Mo_step s m args below meth c (MQ below (zw_Q E none rst A) args s 0 0 A) E A 4 0 44 [some (.ref 40), some (.int l1), some (.int l2), some (.int l3)] [] st := by
  intro n
  induction n with
  | zero => intro l1 l2 l3 st  h; cases h
  | succ n ih => intro l1 l2 l3 st  h; exact zlb_Mo_step_44 F hr27 ih l1 l2 l3 st  h
def zb_Mo_step_27 (N : Nat) (r27 : Int32 → Int32 → zS → Option zS) (l1 : Int32) (l2 : Int32) (st : zS) : Option zS := (if l1 ≤ l2 then some st else zf_Mo_step_44 N r27 N l1 l2 0 (zp st 40 20 ((st 40 20) + 1)))
set_option maxHeartbeats 4000000 in
theorem zlb_Mo_step_27 (F : zw_X p m c zo_Mo_step 4 s args zR10 E 20 A meth none) {N : Nat} {rst : zS} {r27 : Int32 → Int32 → zS → Option zS} (hr27 : ∀ (l1 : Int32) (l2 : Int32) (st : zS) , r27 l1 l2 st = some rst → zw_G p l e zrm_Mo_step s m args below meth c (MQ below (zw_Q E none rst A) args s 0 0 A) E A 4 0 27 [some (.ref 40), some (.int l1), some (.int l2), none] [] st) (l1 : Int32) (l2 : Int32) (st : zS)  (h : zb_Mo_step_27 N r27 l1 l2 st = some rst) : zw_G p l e zrm_Mo_step s m args below meth c (MQ below (zw_Q E none rst A) args s 0 0 A) E A 4 0 27 [some (.ref 40), some (.int l1), some (.int l2), none] [] st := by
  unfold zb_Mo_step_27 at h
  refine zg_iload_n F.1 zd_Mo_step_27 rfl rfl ?_
  refine zg_iload_n F.1 zd_Mo_step_28 rfl rfl ?_
  refine zg_icmp_ge F.1 79 zd_Mo_step_29 rfl (fun hc => ?_) (fun hc => ?_)
  · rw [if_pos hc] at h
    cases h
    exact zg_vret F zd_Mo_step_79
  · rw [if_neg hc] at h
    refine zg_aload_n F.1 zd_Mo_step_32 rfl rfl ?_
    refine zg_dup F.1 zd_Mo_step_33 rfl ?_
    refine zg_getI10 F.1 (by decide) rfl 20 (by decide) (st 40 20) rfl rfl zwf_Mo_84 zd_Mo_step_34 ?_
    refine zg_iconst F.1 1 1 (by decide) zd_Mo_step_37 ?_
    refine zg_iadd F.1 zd_Mo_step_38 ?_
    refine zg_putI10 F.1 (by decide) rfl 20 (by decide) (Or.inr (Or.inr (Or.inr (Or.inr (Or.inr (Or.inr (Or.inl rfl))))))) .int (by decide) rfl rfl rfl zwf_Mo_84 zd_Mo_step_39 ?_
    refine zg_iconst F.1 0 0 (by decide) zd_Mo_step_42 ?_
    refine zg_istore_n F.1 [some (.ref 40), some (.int l1), some (.int l2), some (.int 0)] zd_Mo_step_43 rfl (by decide) rfl ?_
    exact zl_Mo_step_44 F hr27 N l1 l2 0 (zp st 40 20 ((st 40 20) + 1)) h
def zf_Mo_step_27 (N : Nat)  : Nat → Int32 → Int32 → zS → Option zS
  | 0, _, _, _ => none
  | n + 1, l1, l2, st => zb_Mo_step_27 N  (zf_Mo_step_27 N  n) l1 l2 st
theorem zl_Mo_step_27 (F : zw_X p m c zo_Mo_step 4 s args zR10 E 20 A meth none) {N : Nat} {rst : zS}   : ∀ (n : Nat) (l1 : Int32) (l2 : Int32) (st : zS)  (h : zf_Mo_step_27 N  n l1 l2 st = some rst), zw_G p l e zrm_Mo_step s m args below meth c (MQ below (zw_Q E none rst A) args s 0 0 A) E A 4 0 27 [some (.ref 40), some (.int l1), some (.int l2), none] [] st := by
  intro n
  induction n with
  | zero => intro l1 l2 st  h; cases h
  | succ n ih => intro l1 l2 st  h; exact zlb_Mo_step_27 F  ih l1 l2 st  h
def zf_Mo_step_17 (N : Nat)  (l1 : Int32) (s0 : Int32) (st : zS) : Option zS := ((zf_Mo_refuse N s0 0 st).bind fun y18 => (if y18.1 = 0 then zf_Mo_step_27 N N l1 0 y18.2 else some y18.2))
set_option maxHeartbeats 4000000 in
theorem zl_Mo_step_17 (F : zw_X p m c zo_Mo_step 4 s args zR10 E 20 A meth none) {N : Nat} {rst : zS}   (l1 : Int32) (s0 : Int32) (st : zS)  (h : zf_Mo_step_17 N  l1 s0 st = some rst) : zw_G p l e zrm_Mo_step s m args below meth c (MQ below (zw_Q E none rst A) args s 0 0 A) E A 4 0 17 [some (.ref 40), some (.int l1), none, none] [.int s0, .ref 40] st := by
  unfold zf_Mo_step_17 at h
  refine zg_iconst F.1 0 0 (by decide) zd_Mo_step_17 ?_
  obtain ⟨y18, hc18, h⟩ := Option.bind_eq_some_iff.mp h
  refine zg_callV F (As := [.int s0, .int 0]) (rest := []) (zk_Mo_refuse F.1.2.2 N s0 0 st hc18) rfl rfl zcal_Mo_refuse zml_Mo_73 ⟨(Nat.le_of_ble_eq_true rfl), (Nat.le_of_ble_eq_true rfl)⟩ (zg_rec10 F.1 (by decide) rfl) rfl (Nat.le_of_ble_eq_true rfl) ⟨(Nat.le_of_ble_eq_true rfl), (Nat.le_of_ble_eq_true rfl)⟩ zd_Mo_step_18 ?_
  refine zg_if_eq F.1 25 zd_Mo_step_21 rfl (fun hc => ?_) (fun hc => ?_)
  · rw [if_pos hc] at h
    refine zg_iconst F.1 0 0 (by decide) zd_Mo_step_25 ?_
    refine zg_istore_n F.1 [some (.ref 40), some (.int l1), some (.int 0), none] zd_Mo_step_26 rfl (by decide) rfl ?_
    exact zl_Mo_step_27 F N l1 0 y18.2 h
  · rw [if_neg hc] at h
    cases h
    exact zg_vret F zd_Mo_step_24
def zf_Mo_step (N : Nat) (a1 : Int32) (st : zS) : Option zS := ((zf_Mo_in N a1 0 200 st).bind fun y6 => (if y6.1 = 0 then zf_Mo_step_17 N a1 1 y6.2 else zf_Mo_step_17 N a1 0 y6.2))
set_option maxHeartbeats 4000000 in
theorem zl_Mo_step_0 (F : zw_X p m c zo_Mo_step 4 s args zR10 E 20 A meth none) {N : Nat} {rst : zS} (a1 : Int32) (st : zS)  (h : zf_Mo_step N a1 st = some rst) : zw_G p l e zrm_Mo_step s m args below meth c (MQ below (zw_Q E none rst A) args s 0 0 A) E A 4 0 0 [some (.ref 40), some (.int a1), none, none] [] st := by
  unfold zf_Mo_step at h
  refine zg_aload_n F.1 zd_Mo_step_0 rfl rfl ?_
  refine zg_iload_n F.1 zd_Mo_step_1 rfl rfl ?_
  refine zg_iconst F.1 0 0 (by decide) zd_Mo_step_2 ?_
  refine zg_sipush F.1 200 200 (by decide) zd_Mo_step_3 ?_
  obtain ⟨y6, hc6, h⟩ := Option.bind_eq_some_iff.mp h
  refine zg_callS F (As := [.int a1, .int 0, .int 200]) (rest := [.ref 40]) (zk_Mo_in F.1.2.2 N a1 0 200 st hc6) rfl rfl zcal_Mo_in zml_Mo_69 ⟨(Nat.le_of_ble_eq_true rfl), (Nat.le_of_ble_eq_true rfl)⟩ rfl (Nat.le_of_ble_eq_true rfl) ⟨(Nat.le_of_ble_eq_true rfl), (Nat.le_of_ble_eq_true rfl)⟩ zd_Mo_step_6 ?_
  refine zg_if_ne F.1 16 zd_Mo_step_9 rfl (fun hc => ?_) (fun hc => ?_)
  · rw [if_neg hc] at h
    refine zg_iconst F.1 0 0 (by decide) zd_Mo_step_16 ?_
    exact zl_Mo_step_17 F a1 0 y6.2 h
  · rw [if_pos hc] at h
    refine zg_iconst F.1 1 1 (by decide) zd_Mo_step_12 ?_
    refine zg_goto F.1 17 zd_Mo_step_13 rfl ?_
    exact zl_Mo_step_17 F a1 1 y6.2 h
theorem zk_Mo_step {E : zE} (hn : zw_n E 20) (N : Nat) (a1 : Int32) (st : zS)  {rst : zS} (h : zf_Mo_step N a1 st = some rst) : zw_M l zy_Mo_step (Cond.code zy_Mo_step zo_Mo_step 4 none :: zwAll) zrm_Mo_step E [.ref 40, .int a1] st none rst :=
  zw_enter (by decide) rfl hn (Nat.le_of_ble_eq_true rfl) (by simp [Value.category]) 2 (fun p e s m args below meth c A F => zl_Mo_step_0 F a1 st  h)
abbrev zrm_Mo_noCar : Room := { frames := 1, cells := 0, slots := 0, locals := 22 }
def zf_Mo_noCar_20 (N : Nat)  (s0 : Int32) (st : zS) : Option (Int32 × zS) := ((zf_Mo_refuse N s0 0 st).bind fun y21 => (if y21.1 = 0 ∨ y21.1 = 1 then some (y21.1, y21.2) else none))
set_option maxHeartbeats 4000000 in
theorem zl_Mo_noCar_20 (F : zw_X p m c zo_Mo_noCar 2 s args zR10 E 20 A meth (some .boolean)) {N : Nat} {rv : Int32} {rst : zS}   (s0 : Int32) (st : zS)  (h : zf_Mo_noCar_20 N  s0 st = some (rv, rst)) : zw_G p l e zrm_Mo_noCar s m args below meth c (MQ below (zw_Q E (some (.int rv)) rst A) args s 0 0 A) E A 2 0 20 [none, none] [.int s0, .ref 40] st := by
  unfold zf_Mo_noCar_20 at h
  refine zg_iconst F.1 0 0 (by decide) zd_Mo_noCar_20 ?_
  obtain ⟨y21, hc21, h⟩ := Option.bind_eq_some_iff.mp h
  refine zg_callV F (As := [.int s0, .int 0]) (rest := []) (zk_Mo_refuse F.1.2.2 N s0 0 st hc21) rfl rfl zcal_Mo_refuse zml_Mo_73 ⟨(Nat.le_of_ble_eq_true rfl), (Nat.le_of_ble_eq_true rfl)⟩ (zg_rec10 F.1 (by decide) rfl) rfl (Nat.le_of_ble_eq_true rfl) ⟨(Nat.le_of_ble_eq_true rfl), (Nat.le_of_ble_eq_true rfl)⟩ zd_Mo_noCar_21 ?_
  by_cases hb24 : y21.1 = 0 ∨ y21.1 = 1
  case neg => rw [if_neg hb24] at h; cases h
  rw [if_pos hb24] at h
  cases h
  exact zg_zret F hb24 zd_Mo_noCar_24
def zf_Mo_noCar (N : Nat) (a1 : Int32) (st : zS) : Option (Int32 × zS) := ((zf_Mo_in N a1 0 ((st 40 2) - 1) st).bind fun y9 => (if y9.1 = 0 then zf_Mo_noCar_20 N 1 y9.2 else zf_Mo_noCar_20 N 0 y9.2))
set_option maxHeartbeats 4000000 in
theorem zl_Mo_noCar_0 (F : zw_X p m c zo_Mo_noCar 2 s args zR10 E 20 A meth (some .boolean)) {N : Nat} {rv : Int32} {rst : zS} (a1 : Int32) (st : zS)  (h : zf_Mo_noCar N a1 st = some (rv, rst)) : zw_G p l e zrm_Mo_noCar s m args below meth c (MQ below (zw_Q E (some (.int rv)) rst A) args s 0 0 A) E A 2 0 0 [some (.ref 40), some (.int a1)] [] st := by
  unfold zf_Mo_noCar at h
  refine zg_aload_n F.1 zd_Mo_noCar_0 rfl rfl ?_
  refine zg_iload_n F.1 zd_Mo_noCar_1 rfl rfl ?_
  refine zg_iconst F.1 0 0 (by decide) zd_Mo_noCar_2 ?_
  refine zg_aload_n F.1 zd_Mo_noCar_3 rfl rfl ?_
  refine zg_getI10 F.1 (by decide) rfl 2 (by decide) (st 40 2) rfl rfl zwf_Mo_13 zd_Mo_noCar_4 ?_
  refine zg_iconst F.1 1 1 (by decide) zd_Mo_noCar_7 ?_
  refine zg_isub F.1 zd_Mo_noCar_8 ?_
  obtain ⟨y9, hc9, h⟩ := Option.bind_eq_some_iff.mp h
  refine zg_callS F (As := [.int a1, .int 0, .int ((st 40 2) - 1)]) (rest := [.ref 40]) (zk_Mo_in F.1.2.2 N a1 0 ((st 40 2) - 1) st hc9) rfl rfl zcal_Mo_in zml_Mo_69 ⟨(Nat.le_of_ble_eq_true rfl), (Nat.le_of_ble_eq_true rfl)⟩ rfl (Nat.le_of_ble_eq_true rfl) ⟨(Nat.le_of_ble_eq_true rfl), (Nat.le_of_ble_eq_true rfl)⟩ zd_Mo_noCar_9 ?_
  refine zg_if_ne F.1 19 zd_Mo_noCar_12 rfl (fun hc => ?_) (fun hc => ?_)
  · rw [if_neg hc] at h
    refine zg_iconst F.1 0 0 (by decide) zd_Mo_noCar_19 ?_
    exact zg_le (zw_len (zw_len zw_le0)) (zl_Mo_noCar_20 F 0 y9.2 h)
  · rw [if_pos hc] at h
    refine zg_iconst F.1 1 1 (by decide) zd_Mo_noCar_15 ?_
    refine zg_goto F.1 20 zd_Mo_noCar_16 rfl ?_
    exact zg_le (zw_len (zw_len zw_le0)) (zl_Mo_noCar_20 F 1 y9.2 h)
theorem zk_Mo_noCar {E : zE} (hn : zw_n E 20) (N : Nat) (a1 : Int32) (st : zS)  {rv : Int32} {rst : zS} (h : zf_Mo_noCar N a1 st = some (rv, rst)) : zw_M l zy_Mo_noCar (Cond.code zy_Mo_noCar zo_Mo_noCar 2 (some .boolean) :: zwAll) zrm_Mo_noCar E [.ref 40, .int a1] st (some (.int rv)) rst :=
  zw_enter (by decide) rfl hn (Nat.le_of_ble_eq_true rfl) (by simp [Value.category]) 0 (fun p e s m args below meth c A F => zl_Mo_noCar_0 F a1 st  h)
set_option maxRecDepth 100000 in
theorem zcal_Mo_noCar : zw_cal zR10 zy_Mo_noCar zo_Mo_noCar 2 (some .boolean) 1 := ⟨zw_at 833 rfl rfl, zw_at 43 rfl rfl, zw_at 52 rfl rfl, zw_at 834 rfl rfl, rfl, by decide, by decide, by decide +kernel⟩
set_option maxRecDepth 100000 in
theorem zml_Mo_148 : Cond.methodLink zR10 148 zy_Mo_noCar ∈ zwAll := zw_at 831 rfl rfl
abbrev zrm_Mo_curtain : Room := { frames := 2, cells := 0, slots := 0, locals := 43 }
def zf_Mo_curtain_15 (N : Nat)   (st : zS) : Option zS := some st
set_option maxHeartbeats 4000000 in
theorem zl_Mo_curtain_15 (F : zw_X p m c zo_Mo_curtain 3 s args zR10 E 20 A meth none) {N : Nat} {rst : zS}    (st : zS)  (h : zf_Mo_curtain_15 N   st = some rst) : zw_G p l e zrm_Mo_curtain s m args below meth c (MQ below (zw_Q E none rst A) args s 0 0 A) E A 3 0 15 [none, none, none] [] st := by
  unfold zf_Mo_curtain_15 at h
  cases h
  exact zg_vret F zd_Mo_curtain_15
def zf_Mo_curtain (N : Nat) (a1 : Int32) (a2 : Int32) (st : zS) : Option zS := ((zf_Mo_noCar N a1 st).bind fun y2 => (if y2.1 = 0 then (if a1 < 0 ∨ 5 ≤ a1.toNatClampNeg then none else (if a2 = 0 ∨ a2 = 1 then zf_Mo_curtain_15 N (zp y2.2 48 a1.toNatClampNeg a2) else none)) else zf_Mo_curtain_15 N y2.2))
set_option maxHeartbeats 4000000 in
theorem zl_Mo_curtain_0 (F : zw_X p m c zo_Mo_curtain 3 s args zR10 E 20 A meth none) {N : Nat} {rst : zS} (a1 : Int32) (a2 : Int32) (st : zS)  (h : zf_Mo_curtain N a1 a2 st = some rst) : zw_G p l e zrm_Mo_curtain s m args below meth c (MQ below (zw_Q E none rst A) args s 0 0 A) E A 3 0 0 [some (.ref 40), some (.int a1), some (.int a2)] [] st := by
  unfold zf_Mo_curtain at h
  refine zg_aload_n F.1 zd_Mo_curtain_0 rfl rfl ?_
  refine zg_iload_n F.1 zd_Mo_curtain_1 rfl rfl ?_
  obtain ⟨y2, hc2, h⟩ := Option.bind_eq_some_iff.mp h
  refine zg_callV F (As := [.int a1]) (rest := []) (zk_Mo_noCar F.1.2.2 N a1 st hc2) rfl rfl zcal_Mo_noCar zml_Mo_148 ⟨(Nat.le_of_ble_eq_true rfl), (Nat.le_of_ble_eq_true rfl)⟩ (zg_rec10 F.1 (by decide) rfl) rfl (Nat.le_of_ble_eq_true rfl) ⟨(Nat.le_of_ble_eq_true rfl), (Nat.le_of_ble_eq_true rfl)⟩ zd_Mo_curtain_2 ?_
  refine zg_if_ne F.1 15 zd_Mo_curtain_5 rfl (fun hc => ?_) (fun hc => ?_)
  · rw [if_neg hc] at h
    exact zg_le (zw_len (zw_len (zw_len zw_le0))) (zl_Mo_curtain_15 F y2.2 h)
  · rw [if_pos hc] at h
    refine zg_aload_n F.1 zd_Mo_curtain_8 rfl rfl ?_
    refine zg_getR10 F.1 (by decide) rfl 11 (by decide) 48 rfl zwf_Mo_42 zd_Mo_curtain_9 ?_
    refine zg_iload_n F.1 zd_Mo_curtain_12 rfl rfl ?_
    refine zg_iload_n F.1 zd_Mo_curtain_13 rfl rfl ?_
    by_cases hi14 : a1 < 0 ∨ 5 ≤ a1.toNatClampNeg
    case pos => rw [if_pos hi14] at h; cases h
    rw [if_neg hi14] at h
    by_cases hb14 : a2 = 0 ∨ a2 = 1
    case neg => rw [if_neg hb14] at h; cases h
    rw [if_pos hb14] at h
    refine zg_ast12 F.1 (by decide) rfl hi14 (zw_nv hb14) a1.toNatClampNeg rfl zd_Mo_curtain_14 ?_
    exact zg_le (zw_len (zw_len (zw_len zw_le0))) (zl_Mo_curtain_15 F (zp y2.2 48 a1.toNatClampNeg a2) h)
theorem zk_Mo_curtain {E : zE} (hn : zw_n E 20) (N : Nat) (a1 : Int32) (a2 : Int32) (st : zS)  {rst : zS} (h : zf_Mo_curtain N a1 a2 st = some rst) : zw_M l zy_Mo_curtain (Cond.code zy_Mo_curtain zo_Mo_curtain 3 none :: zwAll) zrm_Mo_curtain E [.ref 40, .int a1, .int a2] st none rst :=
  zw_enter (by decide) rfl hn (Nat.le_of_ble_eq_true rfl) (by simp [Value.category]) 0 (fun p e s m args below meth c A F => zl_Mo_curtain_0 F a1 a2 st  h)
set_option maxRecDepth 100000 in
theorem zcal_Mo_chooseFor : zw_cal zR10 zy_Mo_chooseFor zo_Mo_chooseFor 3 none 1 := ⟨zw_at 845 rfl rfl, zw_at 45 rfl rfl, zw_at 52 rfl rfl, zw_at 846 rfl rfl, rfl, by decide, by decide, by decide +kernel⟩
set_option maxRecDepth 100000 in
theorem zml_Mo_151 : Cond.methodLink zR10 151 zy_Mo_chooseFor ∈ zwAll := zw_at 843 rfl rfl
abbrev zrm_Mo_changed : Room := { frames := 9, cells := 0, slots := 0, locals := 218 }
def zf_Mo_changed_37 (N : Nat)   (st : zS) : Option zS := some st
set_option maxHeartbeats 4000000 in
theorem zl_Mo_changed_37 (F : zw_X p m c zo_Mo_changed 3 s args zR10 E 20 A meth none) {N : Nat} {rst : zS}    (st : zS)  (h : zf_Mo_changed_37 N   st = some rst) : zw_G p l e zrm_Mo_changed s m args below meth c (MQ below (zw_Q E none rst A) args s 0 0 A) E A 3 0 37 [none, none, none] [] st := by
  unfold zf_Mo_changed_37 at h
  cases h
  exact zg_vret F zd_Mo_changed_37
def zf_Mo_changed_20 (N : Nat)  (l1 : Int32) (l2 : Int32) (st : zS) : Option zS := (if l2 = 0 then ((zf_Mo_isUsable N l1 st).bind fun y26 => (if y26.1 = 0 then zf_Mo_changed_37 N y26.2 else ((zf_Mo_chooseFor N (-1) y26.2).bind fun t34 => zf_Mo_changed_37 N t34))) else zf_Mo_changed_37 N st)
set_option maxHeartbeats 4000000 in
theorem zl_Mo_changed_20 (F : zw_X p m c zo_Mo_changed 3 s args zR10 E 20 A meth none) {N : Nat} {rst : zS}   (l1 : Int32) (l2 : Int32) (st : zS)  (h : zf_Mo_changed_20 N  l1 l2 st = some rst) : zw_G p l e zrm_Mo_changed s m args below meth c (MQ below (zw_Q E none rst A) args s 0 0 A) E A 3 0 20 [some (.ref 40), some (.int l1), some (.int l2)] [] st := by
  unfold zf_Mo_changed_20 at h
  refine zg_iload_n F.1 zd_Mo_changed_20 rfl rfl ?_
  refine zg_if_ne F.1 37 zd_Mo_changed_21 rfl (fun hc => ?_) (fun hc => ?_)
  · rw [if_neg hc] at h
    exact zg_le (zw_len (zw_len (zw_len zw_le0))) (zl_Mo_changed_37 F st h)
  · rw [if_pos hc] at h
    refine zg_aload_n F.1 zd_Mo_changed_24 rfl rfl ?_
    refine zg_iload_n F.1 zd_Mo_changed_25 rfl rfl ?_
    obtain ⟨y26, hc26, h⟩ := Option.bind_eq_some_iff.mp h
    refine zg_callV F (As := [.int l1]) (rest := []) (zk_Mo_isUsable F.1.2.2 N l1 st hc26) rfl rfl zcal_Mo_isUsable zml_Mo_139 ⟨(Nat.le_of_ble_eq_true rfl), (Nat.le_of_ble_eq_true rfl)⟩ (zg_rec10 F.1 (by decide) rfl) rfl (Nat.le_of_ble_eq_true rfl) ⟨(Nat.le_of_ble_eq_true rfl), (Nat.le_of_ble_eq_true rfl)⟩ zd_Mo_changed_26 ?_
    refine zg_if_eq F.1 37 zd_Mo_changed_29 rfl (fun hc => ?_) (fun hc => ?_)
    · rw [if_pos hc] at h
      exact zg_le (zw_len (zw_len (zw_len zw_le0))) (zl_Mo_changed_37 F y26.2 h)
    · rw [if_neg hc] at h
      refine zg_aload_n F.1 zd_Mo_changed_32 rfl rfl ?_
      refine zg_iconst F.1 (-1) (-1) (by decide) zd_Mo_changed_33 ?_
      obtain ⟨t34, hc34, h⟩ := Option.bind_eq_some_iff.mp h
      refine zg_callV F (As := [.int (-1)]) (rest := []) (zk_Mo_chooseFor F.1.2.2 N (-1) y26.2 hc34) rfl rfl zcal_Mo_chooseFor zml_Mo_151 ⟨(Nat.le_of_ble_eq_true rfl), (Nat.le_of_ble_eq_true rfl)⟩ (zg_rec10 F.1 (by decide) rfl) rfl (Nat.le_of_ble_eq_true rfl) ⟨(Nat.le_of_ble_eq_true rfl), (Nat.le_of_ble_eq_true rfl)⟩ zd_Mo_changed_34 ?_
      exact zg_le (zw_len (zw_len (zw_len zw_le0))) (zl_Mo_changed_37 F t34 h)
def zf_Mo_changed (N : Nat) (a1 : Int32) (a2 : Int32) (st : zS) : Option zS := (if a2 = 0 then zf_Mo_changed_20 N a1 a2 st else ((zf_Mo_isUsable N a1 st).bind fun y6 => (if y6.1 = 0 then ((zf_Mo_chooseFor N a1 y6.2).bind fun t14 => zf_Mo_changed_37 N t14) else zf_Mo_changed_20 N a1 a2 y6.2)))
set_option maxHeartbeats 4000000 in
theorem zl_Mo_changed_0 (F : zw_X p m c zo_Mo_changed 3 s args zR10 E 20 A meth none) {N : Nat} {rst : zS} (a1 : Int32) (a2 : Int32) (st : zS)  (h : zf_Mo_changed N a1 a2 st = some rst) : zw_G p l e zrm_Mo_changed s m args below meth c (MQ below (zw_Q E none rst A) args s 0 0 A) E A 3 0 0 [some (.ref 40), some (.int a1), some (.int a2)] [] st := by
  unfold zf_Mo_changed at h
  refine zg_iload_n F.1 zd_Mo_changed_0 rfl rfl ?_
  refine zg_if_eq F.1 20 zd_Mo_changed_1 rfl (fun hc => ?_) (fun hc => ?_)
  · rw [if_pos hc] at h
    exact zl_Mo_changed_20 F a1 a2 st h
  · rw [if_neg hc] at h
    refine zg_aload_n F.1 zd_Mo_changed_4 rfl rfl ?_
    refine zg_iload_n F.1 zd_Mo_changed_5 rfl rfl ?_
    obtain ⟨y6, hc6, h⟩ := Option.bind_eq_some_iff.mp h
    refine zg_callV F (As := [.int a1]) (rest := []) (zk_Mo_isUsable F.1.2.2 N a1 st hc6) rfl rfl zcal_Mo_isUsable zml_Mo_139 ⟨(Nat.le_of_ble_eq_true rfl), (Nat.le_of_ble_eq_true rfl)⟩ (zg_rec10 F.1 (by decide) rfl) rfl (Nat.le_of_ble_eq_true rfl) ⟨(Nat.le_of_ble_eq_true rfl), (Nat.le_of_ble_eq_true rfl)⟩ zd_Mo_changed_6 ?_
    refine zg_if_ne F.1 20 zd_Mo_changed_9 rfl (fun hc => ?_) (fun hc => ?_)
    · rw [if_neg hc] at h
      exact zl_Mo_changed_20 F a1 a2 y6.2 h
    · rw [if_pos hc] at h
      refine zg_aload_n F.1 zd_Mo_changed_12 rfl rfl ?_
      refine zg_iload_n F.1 zd_Mo_changed_13 rfl rfl ?_
      obtain ⟨t14, hc14, h⟩ := Option.bind_eq_some_iff.mp h
      refine zg_callV F (As := [.int a1]) (rest := []) (zk_Mo_chooseFor F.1.2.2 N a1 y6.2 hc14) rfl rfl zcal_Mo_chooseFor zml_Mo_151 ⟨(Nat.le_of_ble_eq_true rfl), (Nat.le_of_ble_eq_true rfl)⟩ (zg_rec10 F.1 (by decide) rfl) rfl (Nat.le_of_ble_eq_true rfl) ⟨(Nat.le_of_ble_eq_true rfl), (Nat.le_of_ble_eq_true rfl)⟩ zd_Mo_changed_14 ?_
      refine zg_goto F.1 37 zd_Mo_changed_17 rfl ?_
      exact zg_le (zw_len (zw_len (zw_len zw_le0))) (zl_Mo_changed_37 F t14 h)
theorem zk_Mo_changed {E : zE} (hn : zw_n E 20) (N : Nat) (a1 : Int32) (a2 : Int32) (st : zS)  {rst : zS} (h : zf_Mo_changed N a1 a2 st = some rst) : zw_M l zy_Mo_changed (Cond.code zy_Mo_changed zo_Mo_changed 3 none :: zwAll) zrm_Mo_changed E [.ref 40, .int a1, .int a2] st none rst :=
  zw_enter (by decide) rfl hn (Nat.le_of_ble_eq_true rfl) (by simp [Value.category]) 0 (fun p e s m args below meth c A F => zl_Mo_changed_0 F a1 a2 st  h)
set_option maxRecDepth 100000 in
theorem zcal_Mo_changed : zw_cal zR10 zy_Mo_changed zo_Mo_changed 3 none 2 := ⟨zw_at 841 rfl rfl, zw_at 44 rfl rfl, zw_at 52 rfl rfl, zw_at 842 rfl rfl, rfl, by decide, by decide, by decide +kernel⟩
set_option maxRecDepth 100000 in
theorem zml_Mo_154 : Cond.methodLink zR10 154 zy_Mo_changed ∈ zwAll := zw_at 839 rfl rfl
abbrev zrm_Mo_lock : Room := { frames := 10, cells := 0, slots := 0, locals := 240 }
def zf_Mo_lock_27 (N : Nat)   (st : zS) : Option zS := some st
set_option maxHeartbeats 4000000 in
theorem zl_Mo_lock_27 (F : zw_X p m c zo_Mo_lock 4 s args zR10 E 20 A meth none) {N : Nat} {rst : zS}    (st : zS)  (h : zf_Mo_lock_27 N   st = some rst) : zw_G p l e zrm_Mo_lock s m args below meth c (MQ below (zw_Q E none rst A) args s 0 0 A) E A 4 0 27 [none, none, none, none] [] st := by
  unfold zf_Mo_lock_27 at h
  cases h
  exact zg_vret F zd_Mo_lock_27
def zf_Mo_lock (N : Nat) (a1 : Int32) (a2 : Int32) (st : zS) : Option zS := ((zf_Mo_noCar N a1 st).bind fun y2 => (if y2.1 = 0 then ((zf_Mo_isUsable N a1 y2.2).bind fun y10 => (if a1 < 0 ∨ 5 ≤ a1.toNatClampNeg then none else (if a2 = 0 ∨ a2 = 1 then ((zf_Mo_changed N a1 y10.1 (zp y10.2 46 a1.toNatClampNeg a2)).bind fun t24 => zf_Mo_lock_27 N t24) else none))) else zf_Mo_lock_27 N y2.2))
set_option maxHeartbeats 4000000 in
theorem zl_Mo_lock_0 (F : zw_X p m c zo_Mo_lock 4 s args zR10 E 20 A meth none) {N : Nat} {rst : zS} (a1 : Int32) (a2 : Int32) (st : zS)  (h : zf_Mo_lock N a1 a2 st = some rst) : zw_G p l e zrm_Mo_lock s m args below meth c (MQ below (zw_Q E none rst A) args s 0 0 A) E A 4 0 0 [some (.ref 40), some (.int a1), some (.int a2), none] [] st := by
  unfold zf_Mo_lock at h
  refine zg_aload_n F.1 zd_Mo_lock_0 rfl rfl ?_
  refine zg_iload_n F.1 zd_Mo_lock_1 rfl rfl ?_
  obtain ⟨y2, hc2, h⟩ := Option.bind_eq_some_iff.mp h
  refine zg_callV F (As := [.int a1]) (rest := []) (zk_Mo_noCar F.1.2.2 N a1 st hc2) rfl rfl zcal_Mo_noCar zml_Mo_148 ⟨(Nat.le_of_ble_eq_true rfl), (Nat.le_of_ble_eq_true rfl)⟩ (zg_rec10 F.1 (by decide) rfl) rfl (Nat.le_of_ble_eq_true rfl) ⟨(Nat.le_of_ble_eq_true rfl), (Nat.le_of_ble_eq_true rfl)⟩ zd_Mo_lock_2 ?_
  refine zg_if_ne F.1 27 zd_Mo_lock_5 rfl (fun hc => ?_) (fun hc => ?_)
  · rw [if_neg hc] at h
    exact zg_le (zw_len (zw_len (zw_len (zw_les zw_le0)))) (zl_Mo_lock_27 F y2.2 h)
  · rw [if_pos hc] at h
    refine zg_aload_n F.1 zd_Mo_lock_8 rfl rfl ?_
    refine zg_iload_n F.1 zd_Mo_lock_9 rfl rfl ?_
    obtain ⟨y10, hc10, h⟩ := Option.bind_eq_some_iff.mp h
    refine zg_callV F (As := [.int a1]) (rest := []) (zk_Mo_isUsable F.1.2.2 N a1 y2.2 hc10) rfl rfl zcal_Mo_isUsable zml_Mo_139 ⟨(Nat.le_of_ble_eq_true rfl), (Nat.le_of_ble_eq_true rfl)⟩ (zg_rec10 F.1 (by decide) rfl) rfl (Nat.le_of_ble_eq_true rfl) ⟨(Nat.le_of_ble_eq_true rfl), (Nat.le_of_ble_eq_true rfl)⟩ zd_Mo_lock_10 ?_
    refine zg_istore_n F.1 [some (.ref 40), some (.int a1), some (.int a2), some (.int y10.1)] zd_Mo_lock_13 rfl (by decide) rfl ?_
    refine zg_aload_n F.1 zd_Mo_lock_14 rfl rfl ?_
    refine zg_getR10 F.1 (by decide) rfl 9 (by decide) 46 rfl zwf_Mo_35 zd_Mo_lock_15 ?_
    refine zg_iload_n F.1 zd_Mo_lock_18 rfl rfl ?_
    refine zg_iload_n F.1 zd_Mo_lock_19 rfl rfl ?_
    by_cases hi20 : a1 < 0 ∨ 5 ≤ a1.toNatClampNeg
    case pos => rw [if_pos hi20] at h; cases h
    rw [if_neg hi20] at h
    by_cases hb20 : a2 = 0 ∨ a2 = 1
    case neg => rw [if_neg hb20] at h; cases h
    rw [if_pos hb20] at h
    refine zg_ast12 F.1 (by decide) rfl hi20 (zw_nv hb20) a1.toNatClampNeg rfl zd_Mo_lock_20 ?_
    refine zg_aload_n F.1 zd_Mo_lock_21 rfl rfl ?_
    refine zg_iload_n F.1 zd_Mo_lock_22 rfl rfl ?_
    refine zg_iload_n F.1 zd_Mo_lock_23 rfl rfl ?_
    obtain ⟨t24, hc24, h⟩ := Option.bind_eq_some_iff.mp h
    refine zg_callV F (As := [.int a1, .int y10.1]) (rest := []) (zk_Mo_changed F.1.2.2 N a1 y10.1 (zp y10.2 46 a1.toNatClampNeg a2) hc24) rfl rfl zcal_Mo_changed zml_Mo_154 ⟨(Nat.le_of_ble_eq_true rfl), (Nat.le_of_ble_eq_true rfl)⟩ (zg_rec10 F.1 (by decide) rfl) rfl (Nat.le_of_ble_eq_true rfl) ⟨(Nat.le_of_ble_eq_true rfl), (Nat.le_of_ble_eq_true rfl)⟩ zd_Mo_lock_24 ?_
    exact zg_le (zw_len (zw_len (zw_len (zw_len zw_le0)))) (zl_Mo_lock_27 F t24 h)
theorem zk_Mo_lock {E : zE} (hn : zw_n E 20) (N : Nat) (a1 : Int32) (a2 : Int32) (st : zS)  {rst : zS} (h : zf_Mo_lock N a1 a2 st = some rst) : zw_M l zy_Mo_lock (Cond.code zy_Mo_lock zo_Mo_lock 4 none :: zwAll) zrm_Mo_lock E [.ref 40, .int a1, .int a2] st none rst :=
  zw_enter (by decide) rfl hn (Nat.le_of_ble_eq_true rfl) (by simp [Value.category]) 1 (fun p e s m args below meth c A F => zl_Mo_lock_0 F a1 a2 st  h)
abbrev zrm_Mo_fail : Room := { frames := 10, cells := 0, slots := 0, locals := 240 }
def zf_Mo_fail_27 (N : Nat)   (st : zS) : Option zS := some st
set_option maxHeartbeats 4000000 in
theorem zl_Mo_fail_27 (F : zw_X p m c zo_Mo_fail 4 s args zR10 E 20 A meth none) {N : Nat} {rst : zS}    (st : zS)  (h : zf_Mo_fail_27 N   st = some rst) : zw_G p l e zrm_Mo_fail s m args below meth c (MQ below (zw_Q E none rst A) args s 0 0 A) E A 4 0 27 [none, none, none, none] [] st := by
  unfold zf_Mo_fail_27 at h
  cases h
  exact zg_vret F zd_Mo_fail_27
def zf_Mo_fail (N : Nat) (a1 : Int32) (a2 : Int32) (st : zS) : Option zS := ((zf_Mo_noCar N a1 st).bind fun y2 => (if y2.1 = 0 then ((zf_Mo_isUsable N a1 y2.2).bind fun y10 => (if a1 < 0 ∨ 5 ≤ a1.toNatClampNeg then none else (if a2 = 0 ∨ a2 = 1 then ((zf_Mo_changed N a1 y10.1 (zp y10.2 47 a1.toNatClampNeg a2)).bind fun t24 => zf_Mo_fail_27 N t24) else none))) else zf_Mo_fail_27 N y2.2))
set_option maxHeartbeats 4000000 in
theorem zl_Mo_fail_0 (F : zw_X p m c zo_Mo_fail 4 s args zR10 E 20 A meth none) {N : Nat} {rst : zS} (a1 : Int32) (a2 : Int32) (st : zS)  (h : zf_Mo_fail N a1 a2 st = some rst) : zw_G p l e zrm_Mo_fail s m args below meth c (MQ below (zw_Q E none rst A) args s 0 0 A) E A 4 0 0 [some (.ref 40), some (.int a1), some (.int a2), none] [] st := by
  unfold zf_Mo_fail at h
  refine zg_aload_n F.1 zd_Mo_fail_0 rfl rfl ?_
  refine zg_iload_n F.1 zd_Mo_fail_1 rfl rfl ?_
  obtain ⟨y2, hc2, h⟩ := Option.bind_eq_some_iff.mp h
  refine zg_callV F (As := [.int a1]) (rest := []) (zk_Mo_noCar F.1.2.2 N a1 st hc2) rfl rfl zcal_Mo_noCar zml_Mo_148 ⟨(Nat.le_of_ble_eq_true rfl), (Nat.le_of_ble_eq_true rfl)⟩ (zg_rec10 F.1 (by decide) rfl) rfl (Nat.le_of_ble_eq_true rfl) ⟨(Nat.le_of_ble_eq_true rfl), (Nat.le_of_ble_eq_true rfl)⟩ zd_Mo_fail_2 ?_
  refine zg_if_ne F.1 27 zd_Mo_fail_5 rfl (fun hc => ?_) (fun hc => ?_)
  · rw [if_neg hc] at h
    exact zg_le (zw_len (zw_len (zw_len (zw_les zw_le0)))) (zl_Mo_fail_27 F y2.2 h)
  · rw [if_pos hc] at h
    refine zg_aload_n F.1 zd_Mo_fail_8 rfl rfl ?_
    refine zg_iload_n F.1 zd_Mo_fail_9 rfl rfl ?_
    obtain ⟨y10, hc10, h⟩ := Option.bind_eq_some_iff.mp h
    refine zg_callV F (As := [.int a1]) (rest := []) (zk_Mo_isUsable F.1.2.2 N a1 y2.2 hc10) rfl rfl zcal_Mo_isUsable zml_Mo_139 ⟨(Nat.le_of_ble_eq_true rfl), (Nat.le_of_ble_eq_true rfl)⟩ (zg_rec10 F.1 (by decide) rfl) rfl (Nat.le_of_ble_eq_true rfl) ⟨(Nat.le_of_ble_eq_true rfl), (Nat.le_of_ble_eq_true rfl)⟩ zd_Mo_fail_10 ?_
    refine zg_istore_n F.1 [some (.ref 40), some (.int a1), some (.int a2), some (.int y10.1)] zd_Mo_fail_13 rfl (by decide) rfl ?_
    refine zg_aload_n F.1 zd_Mo_fail_14 rfl rfl ?_
    refine zg_getR10 F.1 (by decide) rfl 10 (by decide) 47 rfl zwf_Mo_39 zd_Mo_fail_15 ?_
    refine zg_iload_n F.1 zd_Mo_fail_18 rfl rfl ?_
    refine zg_iload_n F.1 zd_Mo_fail_19 rfl rfl ?_
    by_cases hi20 : a1 < 0 ∨ 5 ≤ a1.toNatClampNeg
    case pos => rw [if_pos hi20] at h; cases h
    rw [if_neg hi20] at h
    by_cases hb20 : a2 = 0 ∨ a2 = 1
    case neg => rw [if_neg hb20] at h; cases h
    rw [if_pos hb20] at h
    refine zg_ast12 F.1 (by decide) rfl hi20 (zw_nv hb20) a1.toNatClampNeg rfl zd_Mo_fail_20 ?_
    refine zg_aload_n F.1 zd_Mo_fail_21 rfl rfl ?_
    refine zg_iload_n F.1 zd_Mo_fail_22 rfl rfl ?_
    refine zg_iload_n F.1 zd_Mo_fail_23 rfl rfl ?_
    obtain ⟨t24, hc24, h⟩ := Option.bind_eq_some_iff.mp h
    refine zg_callV F (As := [.int a1, .int y10.1]) (rest := []) (zk_Mo_changed F.1.2.2 N a1 y10.1 (zp y10.2 47 a1.toNatClampNeg a2) hc24) rfl rfl zcal_Mo_changed zml_Mo_154 ⟨(Nat.le_of_ble_eq_true rfl), (Nat.le_of_ble_eq_true rfl)⟩ (zg_rec10 F.1 (by decide) rfl) rfl (Nat.le_of_ble_eq_true rfl) ⟨(Nat.le_of_ble_eq_true rfl), (Nat.le_of_ble_eq_true rfl)⟩ zd_Mo_fail_24 ?_
    exact zg_le (zw_len (zw_len (zw_len (zw_len zw_le0)))) (zl_Mo_fail_27 F t24 h)
theorem zk_Mo_fail {E : zE} (hn : zw_n E 20) (N : Nat) (a1 : Int32) (a2 : Int32) (st : zS)  {rst : zS} (h : zf_Mo_fail N a1 a2 st = some rst) : zw_M l zy_Mo_fail (Cond.code zy_Mo_fail zo_Mo_fail 4 none :: zwAll) zrm_Mo_fail E [.ref 40, .int a1, .int a2] st none rst :=
  zw_enter (by decide) rfl hn (Nat.le_of_ble_eq_true rfl) (by simp [Value.category]) 1 (fun p e s m args below meth c A F => zl_Mo_fail_0 F a1 a2 st  h)
abbrev zrm_Mo_recall : Room := { frames := 9, cells := 0, slots := 0, locals := 218 }
def zf_Mo_recall_63 (N : Nat) (r31 : Int32 → zS → Option zS) (l2 : Int32) (s0 : Int32) (s1 : Int32) (st : zS) : Option zS := (if s1 < 0 ∨ 48 ≤ s1.toNatClampNeg then none else r31 (l2 + 1) (zp st 50 s1.toNatClampNeg s0))
set_option maxHeartbeats 4000000 in
theorem zl_Mo_recall_63 (F : zw_X p m c zo_Mo_recall 3 s args zR10 E 20 A meth none) {N : Nat} {rst : zS} {r31 : Int32 → zS → Option zS} (hr31 : ∀ (l2 : Int32) (st : zS) , r31 l2 st = some rst → zw_G p l e zrm_Mo_recall s m args below meth c (MQ below (zw_Q E none rst A) args s 0 0 A) E A 3 0 31 [some (.ref 40), none, some (.int l2)] [] st) (l2 : Int32) (s0 : Int32) (s1 : Int32) (st : zS)  (h : zf_Mo_recall_63 N r31 l2 s0 s1 st = some rst) : zw_G p l e zrm_Mo_recall s m args below meth c (MQ below (zw_Q E none rst A) args s 0 0 A) E A 3 0 63 [some (.ref 40), none, some (.int l2)] [.int s0, .int s1, .ref 50] st := by
  unfold zf_Mo_recall_63 at h
  by_cases hi63 : s1 < 0 ∨ 48 ≤ s1.toNatClampNeg
  case pos => rw [if_pos hi63] at h; cases h
  rw [if_neg hi63] at h
  refine zg_ast13 F.1 (by decide) rfl hi63 s1.toNatClampNeg rfl zd_Mo_recall_63 ?_
  refine zg_iinc F.1 (l2 + 1) [some (.ref 40), none, some (.int (l2 + 1))] zd_Mo_recall_64 rfl (by rw [lit1]) (by decide) rfl ?_
  refine zg_goto F.1 31 zd_Mo_recall_67 rfl ?_
  exact hr31 (l2 + 1) (zp st 50 s1.toNatClampNeg s0) h
def zb_Mo_recall_31 (N : Nat) (r31 : Int32 → zS → Option zS) (l2 : Int32) (st : zS) : Option zS := (if (st 40 19) ≤ l2 then some st else (if l2 < 0 ∨ 48 ≤ l2.toNatClampNeg then none else (if (st 49 l2.toNatClampNeg) = 0 then zf_Mo_recall_63 N r31 l2 (-1) l2 st else (if l2 < 0 ∨ 48 ≤ l2.toNatClampNeg then none else zf_Mo_recall_63 N r31 l2 (st 50 l2.toNatClampNeg) l2 st))))
set_option maxHeartbeats 4000000 in
theorem zlb_Mo_recall_31 (F : zw_X p m c zo_Mo_recall 3 s args zR10 E 20 A meth none) {N : Nat} {rst : zS} {r31 : Int32 → zS → Option zS} (hr31 : ∀ (l2 : Int32) (st : zS) , r31 l2 st = some rst → zw_G p l e zrm_Mo_recall s m args below meth c (MQ below (zw_Q E none rst A) args s 0 0 A) E A 3 0 31 [some (.ref 40), none, some (.int l2)] [] st) (l2 : Int32) (st : zS)  (h : zb_Mo_recall_31 N r31 l2 st = some rst) : zw_G p l e zrm_Mo_recall s m args below meth c (MQ below (zw_Q E none rst A) args s 0 0 A) E A 3 0 31 [some (.ref 40), none, some (.int l2)] [] st := by
  unfold zb_Mo_recall_31 at h
  refine zg_iload_n F.1 zd_Mo_recall_31 rfl rfl ?_
  refine zg_aload_n F.1 zd_Mo_recall_32 rfl rfl ?_
  refine zg_getI10 F.1 (by decide) rfl 19 (by decide) (st 40 19) rfl rfl zwf_Mo_81 zd_Mo_recall_33 ?_
  refine zg_icmp_ge F.1 70 zd_Mo_recall_36 rfl (fun hc => ?_) (fun hc => ?_)
  · rw [if_pos hc] at h
    cases h
    exact zg_vret F zd_Mo_recall_70
  · rw [if_neg hc] at h
    refine zg_aload_n F.1 zd_Mo_recall_39 rfl rfl ?_
    refine zg_getR10 F.1 (by decide) rfl 14 (by decide) 50 rfl zwf_Mo_48 zd_Mo_recall_40 ?_
    refine zg_iload_n F.1 zd_Mo_recall_43 rfl rfl ?_
    refine zg_aload_n F.1 zd_Mo_recall_44 rfl rfl ?_
    refine zg_getR10 F.1 (by decide) rfl 13 (by decide) 49 rfl zwf_Mo_45 zd_Mo_recall_45 ?_
    refine zg_iload_n F.1 zd_Mo_recall_48 rfl rfl ?_
    by_cases hi49 : l2 < 0 ∨ 48 ≤ l2.toNatClampNeg
    case pos => rw [if_pos hi49] at h; cases h
    rw [if_neg hi49] at h
    refine zg_ald13 F.1 (by decide) rfl hi49 l2.toNatClampNeg rfl (st 49 l2.toNatClampNeg) rfl zd_Mo_recall_49 ?_
    refine zg_if_ne F.1 57 zd_Mo_recall_50 rfl (fun hc => ?_) (fun hc => ?_)
    · rw [if_neg hc] at h
      refine zg_aload_n F.1 zd_Mo_recall_57 rfl rfl ?_
      refine zg_getR10 F.1 (by decide) rfl 14 (by decide) 50 rfl zwf_Mo_48 zd_Mo_recall_58 ?_
      refine zg_iload_n F.1 zd_Mo_recall_61 rfl rfl ?_
      by_cases hi62 : l2 < 0 ∨ 48 ≤ l2.toNatClampNeg
      case pos => rw [if_pos hi62] at h; cases h
      rw [if_neg hi62] at h
      refine zg_ald13 F.1 (by decide) rfl hi62 l2.toNatClampNeg rfl (st 50 l2.toNatClampNeg) rfl zd_Mo_recall_62 ?_
      exact zl_Mo_recall_63 F hr31 l2 (st 50 l2.toNatClampNeg) l2 st h
    · rw [if_pos hc] at h
      refine zg_iconst F.1 (-1) (-1) (by decide) zd_Mo_recall_53 ?_
      refine zg_goto F.1 63 zd_Mo_recall_54 rfl ?_
      exact zl_Mo_recall_63 F hr31 l2 (-1) l2 st h
def zf_Mo_recall_31 (N : Nat)  : Nat → Int32 → zS → Option zS
  | 0, _, _ => none
  | n + 1, l2, st => zb_Mo_recall_31 N  (zf_Mo_recall_31 N  n) l2 st
theorem zl_Mo_recall_31 (F : zw_X p m c zo_Mo_recall 3 s args zR10 E 20 A meth none) {N : Nat} {rst : zS}   : ∀ (n : Nat) (l2 : Int32) (st : zS)  (h : zf_Mo_recall_31 N  n l2 st = some rst), zw_G p l e zrm_Mo_recall s m args below meth c (MQ below (zw_Q E none rst A) args s 0 0 A) E A 3 0 31 [some (.ref 40), none, some (.int l2)] [] st := by
  intro n
  induction n with
  | zero => intro l2 st  h; cases h
  | succ n ih => intro l2 st  h; exact zlb_Mo_recall_31 F  ih l2 st  h
def zf_Mo_recall (N : Nat) (a1 : Int32) (st : zS) : Option zS := (if a1 = (st 40 12) then some (zp st 40 0 0) else (if a1 = 0 ∨ a1 = 1 then (if a1 = 0 then ((zf_Mo_chooseFor N (-1) (zp (zp st 40 0 0) 40 12 a1)).bind fun t25 => some t25) else zf_Mo_recall_31 N N 0 (zp (zp st 40 0 0) 40 12 a1)) else none))
set_option maxHeartbeats 4000000 in
theorem zl_Mo_recall_0 (F : zw_X p m c zo_Mo_recall 3 s args zR10 E 20 A meth none) {N : Nat} {rst : zS} (a1 : Int32) (st : zS)  (h : zf_Mo_recall N a1 st = some rst) : zw_G p l e zrm_Mo_recall s m args below meth c (MQ below (zw_Q E none rst A) args s 0 0 A) E A 3 0 0 [some (.ref 40), some (.int a1), none] [] st := by
  unfold zf_Mo_recall at h
  refine zg_aload_n F.1 zd_Mo_recall_0 rfl rfl ?_
  refine zg_iconst F.1 0 0 (by decide) zd_Mo_recall_1 ?_
  refine zg_putI10 F.1 (by decide) rfl 0 (by decide) (Or.inl rfl) .int (by decide) rfl rfl rfl zwf_Mo_66 zd_Mo_recall_2 ?_
  refine zg_iload_n F.1 zd_Mo_recall_5 rfl rfl ?_
  refine zg_aload_n F.1 zd_Mo_recall_6 rfl rfl ?_
  refine zg_getI10 F.1 (by decide) rfl 12 (by decide) (st 40 12) rfl (zp_o _ _ (by decide)) zwf_Mo_77 zd_Mo_recall_7 ?_
  refine zg_icmp_ne F.1 14 zd_Mo_recall_10 rfl (fun hc => ?_) (fun hc => ?_)
  · rw [if_neg hc] at h
    refine zg_aload_n F.1 zd_Mo_recall_14 rfl rfl ?_
    refine zg_iload_n F.1 zd_Mo_recall_15 rfl rfl ?_
    by_cases hb16 : a1 = 0 ∨ a1 = 1
    case neg => rw [if_neg hb16] at h; cases h
    rw [if_pos hb16] at h
    refine zg_putI10 F.1 (by decide) rfl 12 (by decide) (Or.inr (Or.inr (Or.inr (Or.inr (Or.inl rfl))))) .boolean (by decide) rfl (zw_nb hb16) (zw_fb hb16) zwf_Mo_77 zd_Mo_recall_16 ?_
    refine zg_iload_n F.1 zd_Mo_recall_19 rfl rfl ?_
    refine zg_if_ne F.1 29 zd_Mo_recall_20 rfl (fun hc => ?_) (fun hc => ?_)
    · rw [if_neg hc] at h
      refine zg_iconst F.1 0 0 (by decide) zd_Mo_recall_29 ?_
      refine zg_istore_n F.1 [some (.ref 40), some (.int a1), some (.int 0)] zd_Mo_recall_30 rfl (by decide) rfl ?_
      exact zg_le (zw_les (zw_len (zw_les zw_le0))) (zl_Mo_recall_31 F N 0 (zp (zp st 40 0 0) 40 12 a1) h)
    · rw [if_pos hc] at h
      refine zg_aload_n F.1 zd_Mo_recall_23 rfl rfl ?_
      refine zg_iconst F.1 (-1) (-1) (by decide) zd_Mo_recall_24 ?_
      obtain ⟨t25, hc25, h⟩ := Option.bind_eq_some_iff.mp h
      refine zg_callV F (As := [.int (-1)]) (rest := []) (zk_Mo_chooseFor F.1.2.2 N (-1) (zp (zp st 40 0 0) 40 12 a1) hc25) rfl rfl zcal_Mo_chooseFor zml_Mo_151 ⟨(Nat.le_of_ble_eq_true rfl), (Nat.le_of_ble_eq_true rfl)⟩ (zg_rec10 F.1 (by decide) rfl) rfl (Nat.le_of_ble_eq_true rfl) ⟨(Nat.le_of_ble_eq_true rfl), (Nat.le_of_ble_eq_true rfl)⟩ zd_Mo_recall_25 ?_
      cases h
      exact zg_vret F zd_Mo_recall_28
  · rw [if_pos hc] at h
    cases h
    exact zg_vret F zd_Mo_recall_13
theorem zk_Mo_recall {E : zE} (hn : zw_n E 20) (N : Nat) (a1 : Int32) (st : zS)  {rst : zS} (h : zf_Mo_recall N a1 st = some rst) : zw_M l zy_Mo_recall (Cond.code zy_Mo_recall zo_Mo_recall 3 none :: zwAll) zrm_Mo_recall E [.ref 40, .int a1] st none rst :=
  zw_enter (by decide) rfl hn (Nat.le_of_ble_eq_true rfl) (by simp [Value.category]) 1 (fun p e s m args below meth c A F => zl_Mo_recall_0 F a1 st  h)
abbrev zrm_Mo_car : Room := { frames := 1, cells := 0, slots := 0, locals := 24 }
def zf_Mo_car_116 (N : Nat)  (s0 : Int32) (st : zS) : Option (Int32 × zS) := some (s0, st)
set_option maxHeartbeats 4000000 in
theorem zl_Mo_car_116 (F : zw_X p m c zo_Mo_car 3 s args zR10 E 20 A meth (some .int)) {N : Nat} {rv : Int32} {rst : zS}   (s0 : Int32) (st : zS)  (h : zf_Mo_car_116 N  s0 st = some (rv, rst)) : zw_G p l e zrm_Mo_car s m args below meth c (MQ below (zw_Q E (some (.int rv)) rst A) args s 0 0 A) E A 3 0 116 [none, none, none] [.int s0] st := by
  unfold zf_Mo_car_116 at h
  cases h
  exact zg_iret F zd_Mo_car_116
def zf_Mo_car_167 (N : Nat)  (s0 : Int32) (s1 : Int32) (st : zS) : Option (Int32 × zS) := some ((s1 + s0), st)
set_option maxHeartbeats 4000000 in
theorem zl_Mo_car_167 (F : zw_X p m c zo_Mo_car 3 s args zR10 E 20 A meth (some .int)) {N : Nat} {rv : Int32} {rst : zS}   (s0 : Int32) (s1 : Int32) (st : zS)  (h : zf_Mo_car_167 N  s0 s1 st = some (rv, rst)) : zw_G p l e zrm_Mo_car s m args below meth c (MQ below (zw_Q E (some (.int rv)) rst A) args s 0 0 A) E A 3 0 167 [none, none, none] [.int s0, .int s1] st := by
  unfold zf_Mo_car_167 at h
  refine zg_iadd F.1 zd_Mo_car_167 ?_
  cases h
  exact zg_iret F zd_Mo_car_168
def zf_Mo_car_152 (N : Nat)  (l1 : Int32) (s0 : Int32) (s1 : Int32) (st : zS) : Option (Int32 × zS) := (if l1 < 0 ∨ 5 ≤ l1.toNatClampNeg then none else (if (st 48 l1.toNatClampNeg) = 0 then zf_Mo_car_167 N 0 (s1 + s0) st else zf_Mo_car_167 N 4 (s1 + s0) st))
set_option maxHeartbeats 4000000 in
theorem zl_Mo_car_152 (F : zw_X p m c zo_Mo_car 3 s args zR10 E 20 A meth (some .int)) {N : Nat} {rv : Int32} {rst : zS}   (l1 : Int32) (s0 : Int32) (s1 : Int32) (st : zS)  (h : zf_Mo_car_152 N  l1 s0 s1 st = some (rv, rst)) : zw_G p l e zrm_Mo_car s m args below meth c (MQ below (zw_Q E (some (.int rv)) rst A) args s 0 0 A) E A 3 0 152 [some (.ref 40), some (.int l1), none] [.int s0, .int s1] st := by
  unfold zf_Mo_car_152 at h
  refine zg_iadd F.1 zd_Mo_car_152 ?_
  refine zg_aload_n F.1 zd_Mo_car_153 rfl rfl ?_
  refine zg_getR10 F.1 (by decide) rfl 11 (by decide) 48 rfl zwf_Mo_42 zd_Mo_car_154 ?_
  refine zg_iload_n F.1 zd_Mo_car_157 rfl rfl ?_
  by_cases hi158 : l1 < 0 ∨ 5 ≤ l1.toNatClampNeg
  case pos => rw [if_pos hi158] at h; cases h
  rw [if_neg hi158] at h
  refine zg_ald12 F.1 (by decide) rfl hi158 l1.toNatClampNeg rfl (st 48 l1.toNatClampNeg) rfl zd_Mo_car_158 ?_
  refine zg_if_eq F.1 166 zd_Mo_car_159 rfl (fun hc => ?_) (fun hc => ?_)
  · rw [if_pos hc] at h
    refine zg_iconst F.1 0 0 (by decide) zd_Mo_car_166 ?_
    exact zg_le (zw_len (zw_len (zw_les zw_le0))) (zl_Mo_car_167 F 0 (s1 + s0) st h)
  · rw [if_neg hc] at h
    refine zg_iconst F.1 4 4 (by decide) zd_Mo_car_162 ?_
    refine zg_goto F.1 167 zd_Mo_car_163 rfl ?_
    exact zg_le (zw_len (zw_len (zw_les zw_le0))) (zl_Mo_car_167 F 4 (s1 + s0) st h)
def zf_Mo_car_138 (N : Nat)  (l1 : Int32) (s0 : Int32) (st : zS) : Option (Int32 × zS) := (if l1 < 0 ∨ 5 ≤ l1.toNatClampNeg then none else (if (st 47 l1.toNatClampNeg) = 0 then zf_Mo_car_152 N l1 0 s0 st else zf_Mo_car_152 N l1 2 s0 st))
set_option maxHeartbeats 4000000 in
theorem zl_Mo_car_138 (F : zw_X p m c zo_Mo_car 3 s args zR10 E 20 A meth (some .int)) {N : Nat} {rv : Int32} {rst : zS}   (l1 : Int32) (s0 : Int32) (st : zS)  (h : zf_Mo_car_138 N  l1 s0 st = some (rv, rst)) : zw_G p l e zrm_Mo_car s m args below meth c (MQ below (zw_Q E (some (.int rv)) rst A) args s 0 0 A) E A 3 0 138 [some (.ref 40), some (.int l1), none] [.int s0] st := by
  unfold zf_Mo_car_138 at h
  refine zg_aload_n F.1 zd_Mo_car_138 rfl rfl ?_
  refine zg_getR10 F.1 (by decide) rfl 10 (by decide) 47 rfl zwf_Mo_39 zd_Mo_car_139 ?_
  refine zg_iload_n F.1 zd_Mo_car_142 rfl rfl ?_
  by_cases hi143 : l1 < 0 ∨ 5 ≤ l1.toNatClampNeg
  case pos => rw [if_pos hi143] at h; cases h
  rw [if_neg hi143] at h
  refine zg_ald12 F.1 (by decide) rfl hi143 l1.toNatClampNeg rfl (st 47 l1.toNatClampNeg) rfl zd_Mo_car_143 ?_
  refine zg_if_eq F.1 151 zd_Mo_car_144 rfl (fun hc => ?_) (fun hc => ?_)
  · rw [if_pos hc] at h
    refine zg_iconst F.1 0 0 (by decide) zd_Mo_car_151 ?_
    exact zl_Mo_car_152 F l1 0 s0 st h
  · rw [if_neg hc] at h
    refine zg_iconst F.1 2 2 (by decide) zd_Mo_car_147 ?_
    refine zg_goto F.1 152 zd_Mo_car_148 rfl ?_
    exact zl_Mo_car_152 F l1 2 s0 st h
def zf_Mo_car_34 (N : Nat)  (l1 : Int32) (l2 : Int32) (s0 : Int32) (s1 : Int32) (st : zS) : Option (Int32 × zS) := ((zf_Mo_refuse N s1 s0 st).bind fun y34 => (if y34.1 = 0 then (if l2 = 0 then (if l1 < 0 ∨ 5 ≤ l1.toNatClampNeg then none else some ((y34.2 41 l1.toNatClampNeg), y34.2)) else (if l2 = 1 then (if l1 < 0 ∨ 5 ≤ l1.toNatClampNeg then none else some ((y34.2 42 l1.toNatClampNeg), y34.2)) else (if l2 = 2 then (if l1 < 0 ∨ 5 ≤ l1.toNatClampNeg then none else some ((y34.2 43 l1.toNatClampNeg), y34.2)) else (if l2 = 3 then (if l1 < 0 ∨ 5 ≤ l1.toNatClampNeg then none else (if (y34.2 43 l1.toNatClampNeg) = 0 then zf_Mo_car_116 N 0 y34.2 else (if l1 < 0 ∨ 5 ≤ l1.toNatClampNeg then none else zf_Mo_car_116 N (y34.2 44 l1.toNatClampNeg) y34.2))) else (if l2 = 4 then ((zf_Mo_aboard N l1 0 y34.2).bind fun y120 => some (y120.1, y120.2)) else (if l1 < 0 ∨ 5 ≤ l1.toNatClampNeg then none else (if (y34.2 46 l1.toNatClampNeg) = 0 then zf_Mo_car_138 N l1 0 y34.2 else zf_Mo_car_138 N l1 1 y34.2))))))) else some (0, y34.2)))
set_option maxHeartbeats 4000000 in
theorem zl_Mo_car_34 (F : zw_X p m c zo_Mo_car 3 s args zR10 E 20 A meth (some .int)) {N : Nat} {rv : Int32} {rst : zS}   (l1 : Int32) (l2 : Int32) (s0 : Int32) (s1 : Int32) (st : zS)  (h : zf_Mo_car_34 N  l1 l2 s0 s1 st = some (rv, rst)) : zw_G p l e zrm_Mo_car s m args below meth c (MQ below (zw_Q E (some (.int rv)) rst A) args s 0 0 A) E A 3 0 34 [some (.ref 40), some (.int l1), some (.int l2)] [.int s0, .int s1, .ref 40] st := by
  unfold zf_Mo_car_34 at h
  obtain ⟨y34, hc34, h⟩ := Option.bind_eq_some_iff.mp h
  refine zg_callV F (As := [.int s1, .int s0]) (rest := []) (zk_Mo_refuse F.1.2.2 N s1 s0 st hc34) rfl rfl zcal_Mo_refuse zml_Mo_73 ⟨(Nat.le_of_ble_eq_true rfl), (Nat.le_of_ble_eq_true rfl)⟩ (zg_rec10 F.1 (by decide) rfl) rfl (Nat.le_of_ble_eq_true rfl) ⟨(Nat.le_of_ble_eq_true rfl), (Nat.le_of_ble_eq_true rfl)⟩ zd_Mo_car_34 ?_
  refine zg_if_eq F.1 42 zd_Mo_car_37 rfl (fun hc => ?_) (fun hc => ?_)
  · rw [if_pos hc] at h
    refine zg_iload_n F.1 zd_Mo_car_42 rfl rfl ?_
    by_cases hc0 : l2 = 0
    · rw [if_pos hc0] at h
      refine zg_tabIn F.1 76 zd_Mo_car_43 (by rw [hc0]; decide) (by rw [hc0]; decide) (by rw [hc0]; rfl) rfl ?_
      refine zg_aload_n F.1 zd_Mo_car_76 rfl rfl ?_
      refine zg_getR10 F.1 (by decide) rfl 4 (by decide) 41 rfl zwf_Mo_19 zd_Mo_car_77 ?_
      refine zg_iload_n F.1 zd_Mo_car_80 rfl rfl ?_
      by_cases hi81 : l1 < 0 ∨ 5 ≤ l1.toNatClampNeg
      case pos => rw [if_pos hi81] at h; cases h
      rw [if_neg hi81] at h
      refine zg_ald11 F.1 (by decide) rfl hi81 l1.toNatClampNeg rfl (y34.2 41 l1.toNatClampNeg) rfl zd_Mo_car_81 ?_
      cases h
      exact zg_iret F zd_Mo_car_82
    · rw [if_neg hc0] at h
      by_cases hc1 : l2 = 1
      · rw [if_pos hc1] at h
        refine zg_tabIn F.1 83 zd_Mo_car_43 (by rw [hc1]; decide) (by rw [hc1]; decide) (by rw [hc1]; rfl) rfl ?_
        refine zg_aload_n F.1 zd_Mo_car_83 rfl rfl ?_
        refine zg_getR10 F.1 (by decide) rfl 5 (by decide) 42 rfl zwf_Mo_23 zd_Mo_car_84 ?_
        refine zg_iload_n F.1 zd_Mo_car_87 rfl rfl ?_
        by_cases hi88 : l1 < 0 ∨ 5 ≤ l1.toNatClampNeg
        case pos => rw [if_pos hi88] at h; cases h
        rw [if_neg hi88] at h
        refine zg_ald11 F.1 (by decide) rfl hi88 l1.toNatClampNeg rfl (y34.2 42 l1.toNatClampNeg) rfl zd_Mo_car_88 ?_
        cases h
        exact zg_iret F zd_Mo_car_89
      · rw [if_neg hc1] at h
        by_cases hc2 : l2 = 2
        · rw [if_pos hc2] at h
          refine zg_tabIn F.1 90 zd_Mo_car_43 (by rw [hc2]; decide) (by rw [hc2]; decide) (by rw [hc2]; rfl) rfl ?_
          refine zg_aload_n F.1 zd_Mo_car_90 rfl rfl ?_
          refine zg_getR10 F.1 (by decide) rfl 6 (by decide) 43 rfl zwf_Mo_26 zd_Mo_car_91 ?_
          refine zg_iload_n F.1 zd_Mo_car_94 rfl rfl ?_
          by_cases hi95 : l1 < 0 ∨ 5 ≤ l1.toNatClampNeg
          case pos => rw [if_pos hi95] at h; cases h
          rw [if_neg hi95] at h
          refine zg_ald11 F.1 (by decide) rfl hi95 l1.toNatClampNeg rfl (y34.2 43 l1.toNatClampNeg) rfl zd_Mo_car_95 ?_
          cases h
          exact zg_iret F zd_Mo_car_96
        · rw [if_neg hc2] at h
          by_cases hc3 : l2 = 3
          · rw [if_pos hc3] at h
            refine zg_tabIn F.1 97 zd_Mo_car_43 (by rw [hc3]; decide) (by rw [hc3]; decide) (by rw [hc3]; rfl) rfl ?_
            refine zg_aload_n F.1 zd_Mo_car_97 rfl rfl ?_
            refine zg_getR10 F.1 (by decide) rfl 6 (by decide) 43 rfl zwf_Mo_26 zd_Mo_car_98 ?_
            refine zg_iload_n F.1 zd_Mo_car_101 rfl rfl ?_
            by_cases hi102 : l1 < 0 ∨ 5 ≤ l1.toNatClampNeg
            case pos => rw [if_pos hi102] at h; cases h
            rw [if_neg hi102] at h
            refine zg_ald11 F.1 (by decide) rfl hi102 l1.toNatClampNeg rfl (y34.2 43 l1.toNatClampNeg) rfl zd_Mo_car_102 ?_
            refine zg_if_ne F.1 110 zd_Mo_car_103 rfl (fun hc => ?_) (fun hc => ?_)
            · rw [if_neg hc] at h
              refine zg_aload_n F.1 zd_Mo_car_110 rfl rfl ?_
              refine zg_getR10 F.1 (by decide) rfl 7 (by decide) 44 rfl zwf_Mo_29 zd_Mo_car_111 ?_
              refine zg_iload_n F.1 zd_Mo_car_114 rfl rfl ?_
              by_cases hi115 : l1 < 0 ∨ 5 ≤ l1.toNatClampNeg
              case pos => rw [if_pos hi115] at h; cases h
              rw [if_neg hi115] at h
              refine zg_ald11 F.1 (by decide) rfl hi115 l1.toNatClampNeg rfl (y34.2 44 l1.toNatClampNeg) rfl zd_Mo_car_115 ?_
              exact zg_le (zw_len (zw_len (zw_len zw_le0))) (zl_Mo_car_116 F (y34.2 44 l1.toNatClampNeg) y34.2 h)
            · rw [if_pos hc] at h
              refine zg_iconst F.1 0 0 (by decide) zd_Mo_car_106 ?_
              refine zg_goto F.1 116 zd_Mo_car_107 rfl ?_
              exact zg_le (zw_len (zw_len (zw_len zw_le0))) (zl_Mo_car_116 F 0 y34.2 h)
          · rw [if_neg hc3] at h
            by_cases hc4 : l2 = 4
            · rw [if_pos hc4] at h
              refine zg_tabIn F.1 117 zd_Mo_car_43 (by rw [hc4]; decide) (by rw [hc4]; decide) (by rw [hc4]; rfl) rfl ?_
              refine zg_aload_n F.1 zd_Mo_car_117 rfl rfl ?_
              refine zg_iload_n F.1 zd_Mo_car_118 rfl rfl ?_
              refine zg_iconst F.1 0 0 (by decide) zd_Mo_car_119 ?_
              obtain ⟨y120, hc120, h⟩ := Option.bind_eq_some_iff.mp h
              refine zg_callV F (As := [.int l1, .int 0]) (rest := []) (zk_Mo_aboard F.1.2.2 N l1 0 y34.2 hc120) rfl rfl zcal_Mo_aboard zml_Mo_90 ⟨(Nat.le_of_ble_eq_true rfl), (Nat.le_of_ble_eq_true rfl)⟩ (zg_rec10 F.1 (by decide) rfl) rfl (Nat.le_of_ble_eq_true rfl) ⟨(Nat.le_of_ble_eq_true rfl), (Nat.le_of_ble_eq_true rfl)⟩ zd_Mo_car_120 ?_
              cases h
              exact zg_iret F zd_Mo_car_123
            · rw [if_neg hc4] at h
              refine zg_tabOut F.1 124 zd_Mo_car_43 (zw_sw0_4 hc0 hc1 hc2 hc3 hc4) rfl ?_
              refine zg_aload_n F.1 zd_Mo_car_124 rfl rfl ?_
              refine zg_getR10 F.1 (by decide) rfl 9 (by decide) 46 rfl zwf_Mo_35 zd_Mo_car_125 ?_
              refine zg_iload_n F.1 zd_Mo_car_128 rfl rfl ?_
              by_cases hi129 : l1 < 0 ∨ 5 ≤ l1.toNatClampNeg
              case pos => rw [if_pos hi129] at h; cases h
              rw [if_neg hi129] at h
              refine zg_ald12 F.1 (by decide) rfl hi129 l1.toNatClampNeg rfl (y34.2 46 l1.toNatClampNeg) rfl zd_Mo_car_129 ?_
              refine zg_if_eq F.1 137 zd_Mo_car_130 rfl (fun hc => ?_) (fun hc => ?_)
              · rw [if_pos hc] at h
                refine zg_iconst F.1 0 0 (by decide) zd_Mo_car_137 ?_
                exact zg_le (zw_les (zw_les (zw_len zw_le0))) (zl_Mo_car_138 F l1 0 y34.2 h)
              · rw [if_neg hc] at h
                refine zg_iconst F.1 1 1 (by decide) zd_Mo_car_133 ?_
                refine zg_goto F.1 138 zd_Mo_car_134 rfl ?_
                exact zg_le (zw_les (zw_les (zw_len zw_le0))) (zl_Mo_car_138 F l1 1 y34.2 h)
  · rw [if_neg hc] at h
    refine zg_iconst F.1 0 0 (by decide) zd_Mo_car_40 ?_
    cases h
    exact zg_iret F zd_Mo_car_41
def zf_Mo_car_20 (N : Nat)  (l1 : Int32) (l2 : Int32) (s0 : Int32) (st : zS) : Option (Int32 × zS) := ((zf_Mo_in N l2 0 5 st).bind fun y23 => (if y23.1 = 0 then zf_Mo_car_34 N l1 l2 1 s0 y23.2 else zf_Mo_car_34 N l1 l2 0 s0 y23.2))
set_option maxHeartbeats 4000000 in
theorem zl_Mo_car_20 (F : zw_X p m c zo_Mo_car 3 s args zR10 E 20 A meth (some .int)) {N : Nat} {rv : Int32} {rst : zS}   (l1 : Int32) (l2 : Int32) (s0 : Int32) (st : zS)  (h : zf_Mo_car_20 N  l1 l2 s0 st = some (rv, rst)) : zw_G p l e zrm_Mo_car s m args below meth c (MQ below (zw_Q E (some (.int rv)) rst A) args s 0 0 A) E A 3 0 20 [some (.ref 40), some (.int l1), some (.int l2)] [.int s0, .ref 40] st := by
  unfold zf_Mo_car_20 at h
  refine zg_iload_n F.1 zd_Mo_car_20 rfl rfl ?_
  refine zg_iconst F.1 0 0 (by decide) zd_Mo_car_21 ?_
  refine zg_iconst F.1 5 5 (by decide) zd_Mo_car_22 ?_
  obtain ⟨y23, hc23, h⟩ := Option.bind_eq_some_iff.mp h
  refine zg_callS F (As := [.int l2, .int 0, .int 5]) (rest := [.int s0, .ref 40]) (zk_Mo_in F.1.2.2 N l2 0 5 st hc23) rfl rfl zcal_Mo_in zml_Mo_69 ⟨(Nat.le_of_ble_eq_true rfl), (Nat.le_of_ble_eq_true rfl)⟩ rfl (Nat.le_of_ble_eq_true rfl) ⟨(Nat.le_of_ble_eq_true rfl), (Nat.le_of_ble_eq_true rfl)⟩ zd_Mo_car_23 ?_
  refine zg_if_ne F.1 33 zd_Mo_car_26 rfl (fun hc => ?_) (fun hc => ?_)
  · rw [if_neg hc] at h
    refine zg_iconst F.1 0 0 (by decide) zd_Mo_car_33 ?_
    exact zl_Mo_car_34 F l1 l2 0 s0 y23.2 h
  · rw [if_pos hc] at h
    refine zg_iconst F.1 1 1 (by decide) zd_Mo_car_29 ?_
    refine zg_goto F.1 34 zd_Mo_car_30 rfl ?_
    exact zl_Mo_car_34 F l1 l2 1 s0 y23.2 h
def zf_Mo_car (N : Nat) (a1 : Int32) (a2 : Int32) (st : zS) : Option (Int32 × zS) := ((zf_Mo_in N a1 0 ((st 40 2) - 1) st).bind fun y9 => (if y9.1 = 0 then zf_Mo_car_20 N a1 a2 1 y9.2 else zf_Mo_car_20 N a1 a2 0 y9.2))
set_option maxHeartbeats 4000000 in
theorem zl_Mo_car_0 (F : zw_X p m c zo_Mo_car 3 s args zR10 E 20 A meth (some .int)) {N : Nat} {rv : Int32} {rst : zS} (a1 : Int32) (a2 : Int32) (st : zS)  (h : zf_Mo_car N a1 a2 st = some (rv, rst)) : zw_G p l e zrm_Mo_car s m args below meth c (MQ below (zw_Q E (some (.int rv)) rst A) args s 0 0 A) E A 3 0 0 [some (.ref 40), some (.int a1), some (.int a2)] [] st := by
  unfold zf_Mo_car at h
  refine zg_aload_n F.1 zd_Mo_car_0 rfl rfl ?_
  refine zg_iload_n F.1 zd_Mo_car_1 rfl rfl ?_
  refine zg_iconst F.1 0 0 (by decide) zd_Mo_car_2 ?_
  refine zg_aload_n F.1 zd_Mo_car_3 rfl rfl ?_
  refine zg_getI10 F.1 (by decide) rfl 2 (by decide) (st 40 2) rfl rfl zwf_Mo_13 zd_Mo_car_4 ?_
  refine zg_iconst F.1 1 1 (by decide) zd_Mo_car_7 ?_
  refine zg_isub F.1 zd_Mo_car_8 ?_
  obtain ⟨y9, hc9, h⟩ := Option.bind_eq_some_iff.mp h
  refine zg_callS F (As := [.int a1, .int 0, .int ((st 40 2) - 1)]) (rest := [.ref 40]) (zk_Mo_in F.1.2.2 N a1 0 ((st 40 2) - 1) st hc9) rfl rfl zcal_Mo_in zml_Mo_69 ⟨(Nat.le_of_ble_eq_true rfl), (Nat.le_of_ble_eq_true rfl)⟩ rfl (Nat.le_of_ble_eq_true rfl) ⟨(Nat.le_of_ble_eq_true rfl), (Nat.le_of_ble_eq_true rfl)⟩ zd_Mo_car_9 ?_
  refine zg_if_ne F.1 19 zd_Mo_car_12 rfl (fun hc => ?_) (fun hc => ?_)
  · rw [if_neg hc] at h
    refine zg_iconst F.1 0 0 (by decide) zd_Mo_car_19 ?_
    exact zl_Mo_car_20 F a1 a2 0 y9.2 h
  · rw [if_pos hc] at h
    refine zg_iconst F.1 1 1 (by decide) zd_Mo_car_15 ?_
    refine zg_goto F.1 20 zd_Mo_car_16 rfl ?_
    exact zl_Mo_car_20 F a1 a2 1 y9.2 h
theorem zk_Mo_car {E : zE} (hn : zw_n E 20) (N : Nat) (a1 : Int32) (a2 : Int32) (st : zS)  {rv : Int32} {rst : zS} (h : zf_Mo_car N a1 a2 st = some (rv, rst)) : zw_M l zy_Mo_car (Cond.code zy_Mo_car zo_Mo_car 3 (some .int) :: zwAll) zrm_Mo_car E [.ref 40, .int a1, .int a2] st (some (.int rv)) rst :=
  zw_enter (by decide) rfl hn (Nat.le_of_ble_eq_true rfl) (by simp [Value.category]) 0 (fun p e s m args below meth c A F => zl_Mo_car_0 F a1 a2 st  h)
abbrev zrm_Mo_stop : Room := { frames := 2, cells := 0, slots := 0, locals := 51 }
def zf_Mo_stop_39 (N : Nat)  (l1 : Int32) (l2 : Int32) (s0 : Int32) (s1 : Int32) (st : zS) : Option (Int32 × zS) := ((zf_Mo_refuse N s1 s0 st).bind fun y39 => (if y39.1 = 0 then ((zf_Mo_isStop N l1 l2 0 y39.2).bind fun y51 => (if y51.1 = 0 ∨ y51.1 = 1 then some (y51.1, y51.2) else none)) else some (0, y39.2)))
set_option maxHeartbeats 4000000 in
theorem zl_Mo_stop_39 (F : zw_X p m c zo_Mo_stop 3 s args zR10 E 20 A meth (some .boolean)) {N : Nat} {rv : Int32} {rst : zS}   (l1 : Int32) (l2 : Int32) (s0 : Int32) (s1 : Int32) (st : zS)  (h : zf_Mo_stop_39 N  l1 l2 s0 s1 st = some (rv, rst)) : zw_G p l e zrm_Mo_stop s m args below meth c (MQ below (zw_Q E (some (.int rv)) rst A) args s 0 0 A) E A 3 0 39 [some (.ref 40), some (.int l1), some (.int l2)] [.int s0, .int s1, .ref 40] st := by
  unfold zf_Mo_stop_39 at h
  obtain ⟨y39, hc39, h⟩ := Option.bind_eq_some_iff.mp h
  refine zg_callV F (As := [.int s1, .int s0]) (rest := []) (zk_Mo_refuse F.1.2.2 N s1 s0 st hc39) rfl rfl zcal_Mo_refuse zml_Mo_73 ⟨(Nat.le_of_ble_eq_true rfl), (Nat.le_of_ble_eq_true rfl)⟩ (zg_rec10 F.1 (by decide) rfl) rfl (Nat.le_of_ble_eq_true rfl) ⟨(Nat.le_of_ble_eq_true rfl), (Nat.le_of_ble_eq_true rfl)⟩ zd_Mo_stop_39 ?_
  refine zg_if_eq F.1 47 zd_Mo_stop_42 rfl (fun hc => ?_) (fun hc => ?_)
  · rw [if_pos hc] at h
    refine zg_aload_n F.1 zd_Mo_stop_47 rfl rfl ?_
    refine zg_iload_n F.1 zd_Mo_stop_48 rfl rfl ?_
    refine zg_iload_n F.1 zd_Mo_stop_49 rfl rfl ?_
    refine zg_iconst F.1 0 0 (by decide) zd_Mo_stop_50 ?_
    obtain ⟨y51, hc51, h⟩ := Option.bind_eq_some_iff.mp h
    refine zg_callV F (As := [.int l1, .int l2, .int 0]) (rest := []) (zk_Mo_isStop F.1.2.2 N l1 l2 0 y39.2 hc51) rfl rfl zcal_Mo_isStop zml_Mo_94 ⟨(Nat.le_of_ble_eq_true rfl), (Nat.le_of_ble_eq_true rfl)⟩ (zg_rec10 F.1 (by decide) rfl) rfl (Nat.le_of_ble_eq_true rfl) ⟨(Nat.le_of_ble_eq_true rfl), (Nat.le_of_ble_eq_true rfl)⟩ zd_Mo_stop_51 ?_
    by_cases hb54 : y51.1 = 0 ∨ y51.1 = 1
    case neg => rw [if_neg hb54] at h; cases h
    rw [if_pos hb54] at h
    cases h
    exact zg_zret F hb54 zd_Mo_stop_54
  · rw [if_neg hc] at h
    refine zg_iconst F.1 0 0 (by decide) zd_Mo_stop_45 ?_
    cases h
    exact zg_zret F (by decide) zd_Mo_stop_46
def zf_Mo_stop_20 (N : Nat)  (l1 : Int32) (l2 : Int32) (s0 : Int32) (st : zS) : Option (Int32 × zS) := ((zf_Mo_in N l2 0 ((st 40 1) - 1) st).bind fun y28 => (if y28.1 = 0 then zf_Mo_stop_39 N l1 l2 1 s0 y28.2 else zf_Mo_stop_39 N l1 l2 0 s0 y28.2))
set_option maxHeartbeats 4000000 in
theorem zl_Mo_stop_20 (F : zw_X p m c zo_Mo_stop 3 s args zR10 E 20 A meth (some .boolean)) {N : Nat} {rv : Int32} {rst : zS}   (l1 : Int32) (l2 : Int32) (s0 : Int32) (st : zS)  (h : zf_Mo_stop_20 N  l1 l2 s0 st = some (rv, rst)) : zw_G p l e zrm_Mo_stop s m args below meth c (MQ below (zw_Q E (some (.int rv)) rst A) args s 0 0 A) E A 3 0 20 [some (.ref 40), some (.int l1), some (.int l2)] [.int s0, .ref 40] st := by
  unfold zf_Mo_stop_20 at h
  refine zg_iload_n F.1 zd_Mo_stop_20 rfl rfl ?_
  refine zg_iconst F.1 0 0 (by decide) zd_Mo_stop_21 ?_
  refine zg_aload_n F.1 zd_Mo_stop_22 rfl rfl ?_
  refine zg_getI10 F.1 (by decide) rfl 1 (by decide) (st 40 1) rfl rfl zwf_Mo_7 zd_Mo_stop_23 ?_
  refine zg_iconst F.1 1 1 (by decide) zd_Mo_stop_26 ?_
  refine zg_isub F.1 zd_Mo_stop_27 ?_
  obtain ⟨y28, hc28, h⟩ := Option.bind_eq_some_iff.mp h
  refine zg_callS F (As := [.int l2, .int 0, .int ((st 40 1) - 1)]) (rest := [.int s0, .ref 40]) (zk_Mo_in F.1.2.2 N l2 0 ((st 40 1) - 1) st hc28) rfl rfl zcal_Mo_in zml_Mo_69 ⟨(Nat.le_of_ble_eq_true rfl), (Nat.le_of_ble_eq_true rfl)⟩ rfl (Nat.le_of_ble_eq_true rfl) ⟨(Nat.le_of_ble_eq_true rfl), (Nat.le_of_ble_eq_true rfl)⟩ zd_Mo_stop_28 ?_
  refine zg_if_ne F.1 38 zd_Mo_stop_31 rfl (fun hc => ?_) (fun hc => ?_)
  · rw [if_neg hc] at h
    refine zg_iconst F.1 0 0 (by decide) zd_Mo_stop_38 ?_
    exact zl_Mo_stop_39 F l1 l2 0 s0 y28.2 h
  · rw [if_pos hc] at h
    refine zg_iconst F.1 1 1 (by decide) zd_Mo_stop_34 ?_
    refine zg_goto F.1 39 zd_Mo_stop_35 rfl ?_
    exact zl_Mo_stop_39 F l1 l2 1 s0 y28.2 h
def zf_Mo_stop (N : Nat) (a1 : Int32) (a2 : Int32) (st : zS) : Option (Int32 × zS) := ((zf_Mo_in N a1 0 ((st 40 2) - 1) st).bind fun y9 => (if y9.1 = 0 then zf_Mo_stop_20 N a1 a2 1 y9.2 else zf_Mo_stop_20 N a1 a2 0 y9.2))
set_option maxHeartbeats 4000000 in
theorem zl_Mo_stop_0 (F : zw_X p m c zo_Mo_stop 3 s args zR10 E 20 A meth (some .boolean)) {N : Nat} {rv : Int32} {rst : zS} (a1 : Int32) (a2 : Int32) (st : zS)  (h : zf_Mo_stop N a1 a2 st = some (rv, rst)) : zw_G p l e zrm_Mo_stop s m args below meth c (MQ below (zw_Q E (some (.int rv)) rst A) args s 0 0 A) E A 3 0 0 [some (.ref 40), some (.int a1), some (.int a2)] [] st := by
  unfold zf_Mo_stop at h
  refine zg_aload_n F.1 zd_Mo_stop_0 rfl rfl ?_
  refine zg_iload_n F.1 zd_Mo_stop_1 rfl rfl ?_
  refine zg_iconst F.1 0 0 (by decide) zd_Mo_stop_2 ?_
  refine zg_aload_n F.1 zd_Mo_stop_3 rfl rfl ?_
  refine zg_getI10 F.1 (by decide) rfl 2 (by decide) (st 40 2) rfl rfl zwf_Mo_13 zd_Mo_stop_4 ?_
  refine zg_iconst F.1 1 1 (by decide) zd_Mo_stop_7 ?_
  refine zg_isub F.1 zd_Mo_stop_8 ?_
  obtain ⟨y9, hc9, h⟩ := Option.bind_eq_some_iff.mp h
  refine zg_callS F (As := [.int a1, .int 0, .int ((st 40 2) - 1)]) (rest := [.ref 40]) (zk_Mo_in F.1.2.2 N a1 0 ((st 40 2) - 1) st hc9) rfl rfl zcal_Mo_in zml_Mo_69 ⟨(Nat.le_of_ble_eq_true rfl), (Nat.le_of_ble_eq_true rfl)⟩ rfl (Nat.le_of_ble_eq_true rfl) ⟨(Nat.le_of_ble_eq_true rfl), (Nat.le_of_ble_eq_true rfl)⟩ zd_Mo_stop_9 ?_
  refine zg_if_ne F.1 19 zd_Mo_stop_12 rfl (fun hc => ?_) (fun hc => ?_)
  · rw [if_neg hc] at h
    refine zg_iconst F.1 0 0 (by decide) zd_Mo_stop_19 ?_
    exact zl_Mo_stop_20 F a1 a2 0 y9.2 h
  · rw [if_pos hc] at h
    refine zg_iconst F.1 1 1 (by decide) zd_Mo_stop_15 ?_
    refine zg_goto F.1 20 zd_Mo_stop_16 rfl ?_
    exact zl_Mo_stop_20 F a1 a2 1 y9.2 h
theorem zk_Mo_stop {E : zE} (hn : zw_n E 20) (N : Nat) (a1 : Int32) (a2 : Int32) (st : zS)  {rv : Int32} {rst : zS} (h : zf_Mo_stop N a1 a2 st = some (rv, rst)) : zw_M l zy_Mo_stop (Cond.code zy_Mo_stop zo_Mo_stop 3 (some .boolean) :: zwAll) zrm_Mo_stop E [.ref 40, .int a1, .int a2] st (some (.int rv)) rst :=
  zw_enter (by decide) rfl hn (Nat.le_of_ble_eq_true rfl) (by simp [Value.category]) 0 (fun p e s m args below meth c A F => zl_Mo_stop_0 F a1 a2 st  h)
abbrev zrm_Mo_worst : Room := { frames := 7, cells := 0, slots := 0, locals := 170 }
def zf_Mo_worst (N : Nat) (a1 : Int32) (st : zS) : Option (Int32 × zS) := ((zf_Mo_noCar N a1 st).bind fun y2 => (if y2.1 = 0 then ((zf_Mo_worstOf N a1 y2.2).bind fun y12 => some (y12.1, y12.2)) else some (0, y2.2)))
set_option maxHeartbeats 4000000 in
theorem zl_Mo_worst_0 (F : zw_X p m c zo_Mo_worst 2 s args zR10 E 20 A meth (some .int)) {N : Nat} {rv : Int32} {rst : zS} (a1 : Int32) (st : zS)  (h : zf_Mo_worst N a1 st = some (rv, rst)) : zw_G p l e zrm_Mo_worst s m args below meth c (MQ below (zw_Q E (some (.int rv)) rst A) args s 0 0 A) E A 2 0 0 [some (.ref 40), some (.int a1)] [] st := by
  unfold zf_Mo_worst at h
  refine zg_aload_n F.1 zd_Mo_worst_0 rfl rfl ?_
  refine zg_iload_n F.1 zd_Mo_worst_1 rfl rfl ?_
  obtain ⟨y2, hc2, h⟩ := Option.bind_eq_some_iff.mp h
  refine zg_callV F (As := [.int a1]) (rest := []) (zk_Mo_noCar F.1.2.2 N a1 st hc2) rfl rfl zcal_Mo_noCar zml_Mo_148 ⟨(Nat.le_of_ble_eq_true rfl), (Nat.le_of_ble_eq_true rfl)⟩ (zg_rec10 F.1 (by decide) rfl) rfl (Nat.le_of_ble_eq_true rfl) ⟨(Nat.le_of_ble_eq_true rfl), (Nat.le_of_ble_eq_true rfl)⟩ zd_Mo_worst_2 ?_
  refine zg_if_eq F.1 10 zd_Mo_worst_5 rfl (fun hc => ?_) (fun hc => ?_)
  · rw [if_pos hc] at h
    refine zg_aload_n F.1 zd_Mo_worst_10 rfl rfl ?_
    refine zg_iload_n F.1 zd_Mo_worst_11 rfl rfl ?_
    obtain ⟨y12, hc12, h⟩ := Option.bind_eq_some_iff.mp h
    refine zg_callV F (As := [.int a1]) (rest := []) (zk_Mo_worstOf F.1.2.2 N a1 y2.2 hc12) rfl rfl zcal_Mo_worstOf zml_Mo_142 ⟨(Nat.le_of_ble_eq_true rfl), (Nat.le_of_ble_eq_true rfl)⟩ (zg_rec10 F.1 (by decide) rfl) rfl (Nat.le_of_ble_eq_true rfl) ⟨(Nat.le_of_ble_eq_true rfl), (Nat.le_of_ble_eq_true rfl)⟩ zd_Mo_worst_12 ?_
    cases h
    exact zg_iret F zd_Mo_worst_15
  · rw [if_neg hc] at h
    refine zg_iconst F.1 0 0 (by decide) zd_Mo_worst_8 ?_
    cases h
    exact zg_iret F zd_Mo_worst_9
theorem zk_Mo_worst {E : zE} (hn : zw_n E 20) (N : Nat) (a1 : Int32) (st : zS)  {rv : Int32} {rst : zS} (h : zf_Mo_worst N a1 st = some (rv, rst)) : zw_M l zy_Mo_worst (Cond.code zy_Mo_worst zo_Mo_worst 2 (some .int) :: zwAll) zrm_Mo_worst E [.ref 40, .int a1] st (some (.int rv)) rst :=
  zw_enter (by decide) rfl hn (Nat.le_of_ble_eq_true rfl) (by simp [Value.category]) 0 (fun p e s m args below meth c A F => zl_Mo_worst_0 F a1 st  h)
abbrev zrm_Mo_rider : Room := { frames := 1, cells := 0, slots := 0, locals := 22 }
def zf_Mo_rider_130 (N : Nat)  (s0 : Int32) (st : zS) : Option (Int32 × zS) := some (s0, st)
set_option maxHeartbeats 4000000 in
theorem zl_Mo_rider_130 (F : zw_X p m c zo_Mo_rider 3 s args zR10 E 20 A meth (some .int)) {N : Nat} {rv : Int32} {rst : zS}   (s0 : Int32) (st : zS)  (h : zf_Mo_rider_130 N  s0 st = some (rv, rst)) : zw_G p l e zrm_Mo_rider s m args below meth c (MQ below (zw_Q E (some (.int rv)) rst A) args s 0 0 A) E A 3 0 130 [none, none, none] [.int s0] st := by
  unfold zf_Mo_rider_130 at h
  cases h
  exact zg_iret F zd_Mo_rider_130
def zf_Mo_rider_34 (N : Nat)  (l1 : Int32) (l2 : Int32) (s0 : Int32) (s1 : Int32) (st : zS) : Option (Int32 × zS) := ((zf_Mo_refuse N s1 s0 st).bind fun y34 => (if y34.1 = 0 then (if l2 = 0 then (if l1 < 0 ∨ 48 ≤ l1.toNatClampNeg then none else some ((y34.2 49 l1.toNatClampNeg), y34.2)) else (if l2 = 1 then (if l1 < 0 ∨ 48 ≤ l1.toNatClampNeg then none else some ((y34.2 50 l1.toNatClampNeg), y34.2)) else (if l2 = 2 then (if l1 < 0 ∨ 48 ≤ l1.toNatClampNeg then none else some ((y34.2 51 l1.toNatClampNeg), y34.2)) else (if l2 = 3 then (if l1 < 0 ∨ 48 ≤ l1.toNatClampNeg then none else some ((y34.2 52 l1.toNatClampNeg), y34.2)) else (if l1 < 0 ∨ 48 ≤ l1.toNatClampNeg then none else (if 2 ≤ (y34.2 49 l1.toNatClampNeg) then (if l1 < 0 ∨ 24 ≤ l1.toNatClampNeg then none else zf_Mo_rider_130 N (y34.2 54 l1.toNatClampNeg) y34.2) else (if l1 < 0 ∨ 24 ≤ l1.toNatClampNeg then none else zf_Mo_rider_130 N ((y34.2 40 20) - (y34.2 53 l1.toNatClampNeg)) y34.2))))))) else some (0, y34.2)))
set_option maxHeartbeats 4000000 in
theorem zl_Mo_rider_34 (F : zw_X p m c zo_Mo_rider 3 s args zR10 E 20 A meth (some .int)) {N : Nat} {rv : Int32} {rst : zS}   (l1 : Int32) (l2 : Int32) (s0 : Int32) (s1 : Int32) (st : zS)  (h : zf_Mo_rider_34 N  l1 l2 s0 s1 st = some (rv, rst)) : zw_G p l e zrm_Mo_rider s m args below meth c (MQ below (zw_Q E (some (.int rv)) rst A) args s 0 0 A) E A 3 0 34 [some (.ref 40), some (.int l1), some (.int l2)] [.int s0, .int s1, .ref 40] st := by
  unfold zf_Mo_rider_34 at h
  obtain ⟨y34, hc34, h⟩ := Option.bind_eq_some_iff.mp h
  refine zg_callV F (As := [.int s1, .int s0]) (rest := []) (zk_Mo_refuse F.1.2.2 N s1 s0 st hc34) rfl rfl zcal_Mo_refuse zml_Mo_73 ⟨(Nat.le_of_ble_eq_true rfl), (Nat.le_of_ble_eq_true rfl)⟩ (zg_rec10 F.1 (by decide) rfl) rfl (Nat.le_of_ble_eq_true rfl) ⟨(Nat.le_of_ble_eq_true rfl), (Nat.le_of_ble_eq_true rfl)⟩ zd_Mo_rider_34 ?_
  refine zg_if_eq F.1 42 zd_Mo_rider_37 rfl (fun hc => ?_) (fun hc => ?_)
  · rw [if_pos hc] at h
    refine zg_iload_n F.1 zd_Mo_rider_42 rfl rfl ?_
    by_cases hc0 : l2 = 0
    · rw [if_pos hc0] at h
      refine zg_tabIn F.1 72 zd_Mo_rider_43 (by rw [hc0]; decide) (by rw [hc0]; decide) (by rw [hc0]; rfl) rfl ?_
      refine zg_aload_n F.1 zd_Mo_rider_72 rfl rfl ?_
      refine zg_getR10 F.1 (by decide) rfl 13 (by decide) 49 rfl zwf_Mo_45 zd_Mo_rider_73 ?_
      refine zg_iload_n F.1 zd_Mo_rider_76 rfl rfl ?_
      by_cases hi77 : l1 < 0 ∨ 48 ≤ l1.toNatClampNeg
      case pos => rw [if_pos hi77] at h; cases h
      rw [if_neg hi77] at h
      refine zg_ald13 F.1 (by decide) rfl hi77 l1.toNatClampNeg rfl (y34.2 49 l1.toNatClampNeg) rfl zd_Mo_rider_77 ?_
      cases h
      exact zg_iret F zd_Mo_rider_78
    · rw [if_neg hc0] at h
      by_cases hc1 : l2 = 1
      · rw [if_pos hc1] at h
        refine zg_tabIn F.1 79 zd_Mo_rider_43 (by rw [hc1]; decide) (by rw [hc1]; decide) (by rw [hc1]; rfl) rfl ?_
        refine zg_aload_n F.1 zd_Mo_rider_79 rfl rfl ?_
        refine zg_getR10 F.1 (by decide) rfl 14 (by decide) 50 rfl zwf_Mo_48 zd_Mo_rider_80 ?_
        refine zg_iload_n F.1 zd_Mo_rider_83 rfl rfl ?_
        by_cases hi84 : l1 < 0 ∨ 48 ≤ l1.toNatClampNeg
        case pos => rw [if_pos hi84] at h; cases h
        rw [if_neg hi84] at h
        refine zg_ald13 F.1 (by decide) rfl hi84 l1.toNatClampNeg rfl (y34.2 50 l1.toNatClampNeg) rfl zd_Mo_rider_84 ?_
        cases h
        exact zg_iret F zd_Mo_rider_85
      · rw [if_neg hc1] at h
        by_cases hc2 : l2 = 2
        · rw [if_pos hc2] at h
          refine zg_tabIn F.1 86 zd_Mo_rider_43 (by rw [hc2]; decide) (by rw [hc2]; decide) (by rw [hc2]; rfl) rfl ?_
          refine zg_aload_n F.1 zd_Mo_rider_86 rfl rfl ?_
          refine zg_getR10 F.1 (by decide) rfl 15 (by decide) 51 rfl zwf_Mo_51 zd_Mo_rider_87 ?_
          refine zg_iload_n F.1 zd_Mo_rider_90 rfl rfl ?_
          by_cases hi91 : l1 < 0 ∨ 48 ≤ l1.toNatClampNeg
          case pos => rw [if_pos hi91] at h; cases h
          rw [if_neg hi91] at h
          refine zg_ald13 F.1 (by decide) rfl hi91 l1.toNatClampNeg rfl (y34.2 51 l1.toNatClampNeg) rfl zd_Mo_rider_91 ?_
          cases h
          exact zg_iret F zd_Mo_rider_92
        · rw [if_neg hc2] at h
          by_cases hc3 : l2 = 3
          · rw [if_pos hc3] at h
            refine zg_tabIn F.1 93 zd_Mo_rider_43 (by rw [hc3]; decide) (by rw [hc3]; decide) (by rw [hc3]; rfl) rfl ?_
            refine zg_aload_n F.1 zd_Mo_rider_93 rfl rfl ?_
            refine zg_getR10 F.1 (by decide) rfl 16 (by decide) 52 rfl zwf_Mo_54 zd_Mo_rider_94 ?_
            refine zg_iload_n F.1 zd_Mo_rider_97 rfl rfl ?_
            by_cases hi98 : l1 < 0 ∨ 48 ≤ l1.toNatClampNeg
            case pos => rw [if_pos hi98] at h; cases h
            rw [if_neg hi98] at h
            refine zg_ald13 F.1 (by decide) rfl hi98 l1.toNatClampNeg rfl (y34.2 52 l1.toNatClampNeg) rfl zd_Mo_rider_98 ?_
            cases h
            exact zg_iret F zd_Mo_rider_99
          · rw [if_neg hc3] at h
            refine zg_tabOut F.1 100 zd_Mo_rider_43 (zw_sw0_3 hc0 hc1 hc2 hc3) rfl ?_
            refine zg_aload_n F.1 zd_Mo_rider_100 rfl rfl ?_
            refine zg_getR10 F.1 (by decide) rfl 13 (by decide) 49 rfl zwf_Mo_45 zd_Mo_rider_101 ?_
            refine zg_iload_n F.1 zd_Mo_rider_104 rfl rfl ?_
            by_cases hi105 : l1 < 0 ∨ 48 ≤ l1.toNatClampNeg
            case pos => rw [if_pos hi105] at h; cases h
            rw [if_neg hi105] at h
            refine zg_ald13 F.1 (by decide) rfl hi105 l1.toNatClampNeg rfl (y34.2 49 l1.toNatClampNeg) rfl zd_Mo_rider_105 ?_
            refine zg_iconst F.1 2 2 (by decide) zd_Mo_rider_106 ?_
            refine zg_icmp_ge F.1 124 zd_Mo_rider_107 rfl (fun hc => ?_) (fun hc => ?_)
            · rw [if_pos hc] at h
              refine zg_aload_n F.1 zd_Mo_rider_124 rfl rfl ?_
              refine zg_getR10 F.1 (by decide) rfl 18 (by decide) 54 rfl zwf_Mo_60 zd_Mo_rider_125 ?_
              refine zg_iload_n F.1 zd_Mo_rider_128 rfl rfl ?_
              by_cases hi129 : l1 < 0 ∨ 24 ≤ l1.toNatClampNeg
              case pos => rw [if_pos hi129] at h; cases h
              rw [if_neg hi129] at h
              refine zg_ald14 F.1 (by decide) rfl hi129 l1.toNatClampNeg rfl (y34.2 54 l1.toNatClampNeg) rfl zd_Mo_rider_129 ?_
              exact zg_le (zw_len (zw_len (zw_len zw_le0))) (zl_Mo_rider_130 F (y34.2 54 l1.toNatClampNeg) y34.2 h)
            · rw [if_neg hc] at h
              refine zg_aload_n F.1 zd_Mo_rider_110 rfl rfl ?_
              refine zg_getI10 F.1 (by decide) rfl 20 (by decide) (y34.2 40 20) rfl rfl zwf_Mo_84 zd_Mo_rider_111 ?_
              refine zg_aload_n F.1 zd_Mo_rider_114 rfl rfl ?_
              refine zg_getR10 F.1 (by decide) rfl 17 (by decide) 53 rfl zwf_Mo_57 zd_Mo_rider_115 ?_
              refine zg_iload_n F.1 zd_Mo_rider_118 rfl rfl ?_
              by_cases hi119 : l1 < 0 ∨ 24 ≤ l1.toNatClampNeg
              case pos => rw [if_pos hi119] at h; cases h
              rw [if_neg hi119] at h
              refine zg_ald14 F.1 (by decide) rfl hi119 l1.toNatClampNeg rfl (y34.2 53 l1.toNatClampNeg) rfl zd_Mo_rider_119 ?_
              refine zg_isub F.1 zd_Mo_rider_120 ?_
              refine zg_goto F.1 130 zd_Mo_rider_121 rfl ?_
              exact zg_le (zw_len (zw_len (zw_len zw_le0))) (zl_Mo_rider_130 F ((y34.2 40 20) - (y34.2 53 l1.toNatClampNeg)) y34.2 h)
  · rw [if_neg hc] at h
    refine zg_iconst F.1 0 0 (by decide) zd_Mo_rider_40 ?_
    cases h
    exact zg_iret F zd_Mo_rider_41
def zf_Mo_rider_20 (N : Nat)  (l1 : Int32) (l2 : Int32) (s0 : Int32) (st : zS) : Option (Int32 × zS) := ((zf_Mo_in N l2 0 4 st).bind fun y23 => (if y23.1 = 0 then zf_Mo_rider_34 N l1 l2 1 s0 y23.2 else zf_Mo_rider_34 N l1 l2 0 s0 y23.2))
set_option maxHeartbeats 4000000 in
theorem zl_Mo_rider_20 (F : zw_X p m c zo_Mo_rider 3 s args zR10 E 20 A meth (some .int)) {N : Nat} {rv : Int32} {rst : zS}   (l1 : Int32) (l2 : Int32) (s0 : Int32) (st : zS)  (h : zf_Mo_rider_20 N  l1 l2 s0 st = some (rv, rst)) : zw_G p l e zrm_Mo_rider s m args below meth c (MQ below (zw_Q E (some (.int rv)) rst A) args s 0 0 A) E A 3 0 20 [some (.ref 40), some (.int l1), some (.int l2)] [.int s0, .ref 40] st := by
  unfold zf_Mo_rider_20 at h
  refine zg_iload_n F.1 zd_Mo_rider_20 rfl rfl ?_
  refine zg_iconst F.1 0 0 (by decide) zd_Mo_rider_21 ?_
  refine zg_iconst F.1 4 4 (by decide) zd_Mo_rider_22 ?_
  obtain ⟨y23, hc23, h⟩ := Option.bind_eq_some_iff.mp h
  refine zg_callS F (As := [.int l2, .int 0, .int 4]) (rest := [.int s0, .ref 40]) (zk_Mo_in F.1.2.2 N l2 0 4 st hc23) rfl rfl zcal_Mo_in zml_Mo_69 ⟨(Nat.le_of_ble_eq_true rfl), (Nat.le_of_ble_eq_true rfl)⟩ rfl (Nat.le_of_ble_eq_true rfl) ⟨(Nat.le_of_ble_eq_true rfl), (Nat.le_of_ble_eq_true rfl)⟩ zd_Mo_rider_23 ?_
  refine zg_if_ne F.1 33 zd_Mo_rider_26 rfl (fun hc => ?_) (fun hc => ?_)
  · rw [if_neg hc] at h
    refine zg_iconst F.1 0 0 (by decide) zd_Mo_rider_33 ?_
    exact zl_Mo_rider_34 F l1 l2 0 s0 y23.2 h
  · rw [if_pos hc] at h
    refine zg_iconst F.1 1 1 (by decide) zd_Mo_rider_29 ?_
    refine zg_goto F.1 34 zd_Mo_rider_30 rfl ?_
    exact zl_Mo_rider_34 F l1 l2 1 s0 y23.2 h
def zf_Mo_rider (N : Nat) (a1 : Int32) (a2 : Int32) (st : zS) : Option (Int32 × zS) := ((zf_Mo_in N a1 0 ((st 40 19) - 1) st).bind fun y9 => (if y9.1 = 0 then zf_Mo_rider_20 N a1 a2 1 y9.2 else zf_Mo_rider_20 N a1 a2 0 y9.2))
set_option maxHeartbeats 4000000 in
theorem zl_Mo_rider_0 (F : zw_X p m c zo_Mo_rider 3 s args zR10 E 20 A meth (some .int)) {N : Nat} {rv : Int32} {rst : zS} (a1 : Int32) (a2 : Int32) (st : zS)  (h : zf_Mo_rider N a1 a2 st = some (rv, rst)) : zw_G p l e zrm_Mo_rider s m args below meth c (MQ below (zw_Q E (some (.int rv)) rst A) args s 0 0 A) E A 3 0 0 [some (.ref 40), some (.int a1), some (.int a2)] [] st := by
  unfold zf_Mo_rider at h
  refine zg_aload_n F.1 zd_Mo_rider_0 rfl rfl ?_
  refine zg_iload_n F.1 zd_Mo_rider_1 rfl rfl ?_
  refine zg_iconst F.1 0 0 (by decide) zd_Mo_rider_2 ?_
  refine zg_aload_n F.1 zd_Mo_rider_3 rfl rfl ?_
  refine zg_getI10 F.1 (by decide) rfl 19 (by decide) (st 40 19) rfl rfl zwf_Mo_81 zd_Mo_rider_4 ?_
  refine zg_iconst F.1 1 1 (by decide) zd_Mo_rider_7 ?_
  refine zg_isub F.1 zd_Mo_rider_8 ?_
  obtain ⟨y9, hc9, h⟩ := Option.bind_eq_some_iff.mp h
  refine zg_callS F (As := [.int a1, .int 0, .int ((st 40 19) - 1)]) (rest := [.ref 40]) (zk_Mo_in F.1.2.2 N a1 0 ((st 40 19) - 1) st hc9) rfl rfl zcal_Mo_in zml_Mo_69 ⟨(Nat.le_of_ble_eq_true rfl), (Nat.le_of_ble_eq_true rfl)⟩ rfl (Nat.le_of_ble_eq_true rfl) ⟨(Nat.le_of_ble_eq_true rfl), (Nat.le_of_ble_eq_true rfl)⟩ zd_Mo_rider_9 ?_
  refine zg_if_ne F.1 19 zd_Mo_rider_12 rfl (fun hc => ?_) (fun hc => ?_)
  · rw [if_neg hc] at h
    refine zg_iconst F.1 0 0 (by decide) zd_Mo_rider_19 ?_
    exact zl_Mo_rider_20 F a1 a2 0 y9.2 h
  · rw [if_pos hc] at h
    refine zg_iconst F.1 1 1 (by decide) zd_Mo_rider_15 ?_
    refine zg_goto F.1 20 zd_Mo_rider_16 rfl ?_
    exact zl_Mo_rider_20 F a1 a2 1 y9.2 h
theorem zk_Mo_rider {E : zE} (hn : zw_n E 20) (N : Nat) (a1 : Int32) (a2 : Int32) (st : zS)  {rv : Int32} {rst : zS} (h : zf_Mo_rider N a1 a2 st = some (rv, rst)) : zw_M l zy_Mo_rider (Cond.code zy_Mo_rider zo_Mo_rider 3 (some .int) :: zwAll) zrm_Mo_rider E [.ref 40, .int a1, .int a2] st (some (.int rv)) rst :=
  zw_enter (by decide) rfl hn (Nat.le_of_ble_eq_true rfl) (by simp [Value.category]) 0 (fun p e s m args below meth c A F => zl_Mo_rider_0 F a1 a2 st  h)
abbrev zrm_Mo_promise : Room := { frames := 6, cells := 0, slots := 0, locals := 146 }
def zf_Mo_promise_46 (N : Nat)  (s0 : Int32) (st : zS) : Option (Int32 × zS) := some (s0, st)
set_option maxHeartbeats 4000000 in
theorem zl_Mo_promise_46 (F : zw_X p m c zo_Mo_promise 2 s args zR10 E 20 A meth (some .int)) {N : Nat} {rv : Int32} {rst : zS}   (s0 : Int32) (st : zS)  (h : zf_Mo_promise_46 N  s0 st = some (rv, rst)) : zw_G p l e zrm_Mo_promise s m args below meth c (MQ below (zw_Q E (some (.int rv)) rst A) args s 0 0 A) E A 2 0 46 [none, none] [.int s0] st := by
  unfold zf_Mo_promise_46 at h
  cases h
  exact zg_iret F zd_Mo_promise_46
def zf_Mo_promise_20 (N : Nat)  (l1 : Int32) (s0 : Int32) (st : zS) : Option (Int32 × zS) := ((zf_Mo_refuse N s0 0 st).bind fun y21 => (if y21.1 = 0 then ((zf_Mo_isRider N l1 y21.2).bind fun y31 => (if y31.1 = 0 then zf_Mo_promise_46 N (-1) y31.2 else ((zf_Mo_promiseOf N l1 y31.2).bind fun y39 => zf_Mo_promise_46 N y39.1 y39.2))) else some (0, y21.2)))
set_option maxHeartbeats 4000000 in
theorem zl_Mo_promise_20 (F : zw_X p m c zo_Mo_promise 2 s args zR10 E 20 A meth (some .int)) {N : Nat} {rv : Int32} {rst : zS}   (l1 : Int32) (s0 : Int32) (st : zS)  (h : zf_Mo_promise_20 N  l1 s0 st = some (rv, rst)) : zw_G p l e zrm_Mo_promise s m args below meth c (MQ below (zw_Q E (some (.int rv)) rst A) args s 0 0 A) E A 2 0 20 [some (.ref 40), some (.int l1)] [.int s0, .ref 40] st := by
  unfold zf_Mo_promise_20 at h
  refine zg_iconst F.1 0 0 (by decide) zd_Mo_promise_20 ?_
  obtain ⟨y21, hc21, h⟩ := Option.bind_eq_some_iff.mp h
  refine zg_callV F (As := [.int s0, .int 0]) (rest := []) (zk_Mo_refuse F.1.2.2 N s0 0 st hc21) rfl rfl zcal_Mo_refuse zml_Mo_73 ⟨(Nat.le_of_ble_eq_true rfl), (Nat.le_of_ble_eq_true rfl)⟩ (zg_rec10 F.1 (by decide) rfl) rfl (Nat.le_of_ble_eq_true rfl) ⟨(Nat.le_of_ble_eq_true rfl), (Nat.le_of_ble_eq_true rfl)⟩ zd_Mo_promise_21 ?_
  refine zg_if_eq F.1 29 zd_Mo_promise_24 rfl (fun hc => ?_) (fun hc => ?_)
  · rw [if_pos hc] at h
    refine zg_aload_n F.1 zd_Mo_promise_29 rfl rfl ?_
    refine zg_iload_n F.1 zd_Mo_promise_30 rfl rfl ?_
    obtain ⟨y31, hc31, h⟩ := Option.bind_eq_some_iff.mp h
    refine zg_callV F (As := [.int l1]) (rest := []) (zk_Mo_isRider F.1.2.2 N l1 y21.2 hc31) rfl rfl zcal_Mo_isRider zml_Mo_132 ⟨(Nat.le_of_ble_eq_true rfl), (Nat.le_of_ble_eq_true rfl)⟩ (zg_rec10 F.1 (by decide) rfl) rfl (Nat.le_of_ble_eq_true rfl) ⟨(Nat.le_of_ble_eq_true rfl), (Nat.le_of_ble_eq_true rfl)⟩ zd_Mo_promise_31 ?_
    refine zg_if_eq F.1 45 zd_Mo_promise_34 rfl (fun hc => ?_) (fun hc => ?_)
    · rw [if_pos hc] at h
      refine zg_iconst F.1 (-1) (-1) (by decide) zd_Mo_promise_45 ?_
      exact zg_le (zw_len (zw_len zw_le0)) (zl_Mo_promise_46 F (-1) y31.2 h)
    · rw [if_neg hc] at h
      refine zg_aload_n F.1 zd_Mo_promise_37 rfl rfl ?_
      refine zg_iload_n F.1 zd_Mo_promise_38 rfl rfl ?_
      obtain ⟨y39, hc39, h⟩ := Option.bind_eq_some_iff.mp h
      refine zg_callV F (As := [.int l1]) (rest := []) (zk_Mo_promiseOf F.1.2.2 N l1 y31.2 hc39) rfl rfl zcal_Mo_promiseOf zml_Mo_135 ⟨(Nat.le_of_ble_eq_true rfl), (Nat.le_of_ble_eq_true rfl)⟩ (zg_rec10 F.1 (by decide) rfl) rfl (Nat.le_of_ble_eq_true rfl) ⟨(Nat.le_of_ble_eq_true rfl), (Nat.le_of_ble_eq_true rfl)⟩ zd_Mo_promise_39 ?_
      refine zg_goto F.1 46 zd_Mo_promise_42 rfl ?_
      exact zg_le (zw_len (zw_len zw_le0)) (zl_Mo_promise_46 F y39.1 y39.2 h)
  · rw [if_neg hc] at h
    refine zg_iconst F.1 0 0 (by decide) zd_Mo_promise_27 ?_
    cases h
    exact zg_iret F zd_Mo_promise_28
def zf_Mo_promise (N : Nat) (a1 : Int32) (st : zS) : Option (Int32 × zS) := ((zf_Mo_in N a1 0 ((st 40 19) - 1) st).bind fun y9 => (if y9.1 = 0 then zf_Mo_promise_20 N a1 1 y9.2 else zf_Mo_promise_20 N a1 0 y9.2))
set_option maxHeartbeats 4000000 in
theorem zl_Mo_promise_0 (F : zw_X p m c zo_Mo_promise 2 s args zR10 E 20 A meth (some .int)) {N : Nat} {rv : Int32} {rst : zS} (a1 : Int32) (st : zS)  (h : zf_Mo_promise N a1 st = some (rv, rst)) : zw_G p l e zrm_Mo_promise s m args below meth c (MQ below (zw_Q E (some (.int rv)) rst A) args s 0 0 A) E A 2 0 0 [some (.ref 40), some (.int a1)] [] st := by
  unfold zf_Mo_promise at h
  refine zg_aload_n F.1 zd_Mo_promise_0 rfl rfl ?_
  refine zg_iload_n F.1 zd_Mo_promise_1 rfl rfl ?_
  refine zg_iconst F.1 0 0 (by decide) zd_Mo_promise_2 ?_
  refine zg_aload_n F.1 zd_Mo_promise_3 rfl rfl ?_
  refine zg_getI10 F.1 (by decide) rfl 19 (by decide) (st 40 19) rfl rfl zwf_Mo_81 zd_Mo_promise_4 ?_
  refine zg_iconst F.1 1 1 (by decide) zd_Mo_promise_7 ?_
  refine zg_isub F.1 zd_Mo_promise_8 ?_
  obtain ⟨y9, hc9, h⟩ := Option.bind_eq_some_iff.mp h
  refine zg_callS F (As := [.int a1, .int 0, .int ((st 40 19) - 1)]) (rest := [.ref 40]) (zk_Mo_in F.1.2.2 N a1 0 ((st 40 19) - 1) st hc9) rfl rfl zcal_Mo_in zml_Mo_69 ⟨(Nat.le_of_ble_eq_true rfl), (Nat.le_of_ble_eq_true rfl)⟩ rfl (Nat.le_of_ble_eq_true rfl) ⟨(Nat.le_of_ble_eq_true rfl), (Nat.le_of_ble_eq_true rfl)⟩ zd_Mo_promise_9 ?_
  refine zg_if_ne F.1 19 zd_Mo_promise_12 rfl (fun hc => ?_) (fun hc => ?_)
  · rw [if_neg hc] at h
    refine zg_iconst F.1 0 0 (by decide) zd_Mo_promise_19 ?_
    exact zl_Mo_promise_20 F a1 0 y9.2 h
  · rw [if_pos hc] at h
    refine zg_iconst F.1 1 1 (by decide) zd_Mo_promise_15 ?_
    refine zg_goto F.1 20 zd_Mo_promise_16 rfl ?_
    exact zl_Mo_promise_20 F a1 1 y9.2 h
theorem zk_Mo_promise {E : zE} (hn : zw_n E 20) (N : Nat) (a1 : Int32) (st : zS)  {rv : Int32} {rst : zS} (h : zf_Mo_promise N a1 st = some (rv, rst)) : zw_M l zy_Mo_promise (Cond.code zy_Mo_promise zo_Mo_promise 2 (some .int) :: zwAll) zrm_Mo_promise E [.ref 40, .int a1] st (some (.int rv)) rst :=
  zw_enter (by decide) rfl hn (Nat.le_of_ble_eq_true rfl) (by simp [Value.category]) 0 (fun p e s m args below meth c A F => zl_Mo_promise_0 F a1 st  h)
abbrev zrm_Mo_event : Room := { frames := 1, cells := 0, slots := 0, locals := 22 }
def zf_Mo_event_50 (N : Nat)  (l1 : Int32) (l2 : Int32) (l3 : Int32) (s0 : Int32) (s1 : Int32) (st : zS) : Option (Int32 × zS) := ((zf_Mo_refuse N s1 s0 st).bind fun y50 => (if y50.1 = 0 then (if ((((((y50.2 40 22) - l3) + l1) - (((y50.2 40 22) - l3) + l1) / 30 * 30) * 4) + l2) < 0 ∨ 120 ≤ ((((((y50.2 40 22) - l3) + l1) - (((y50.2 40 22) - l3) + l1) / 30 * 30) * 4) + l2).toNatClampNeg then none else some ((y50.2 55 (((((((y50.2 40 22) - l3) + l1) - (((y50.2 40 22) - l3) + l1) / 30 * 30) * 4) + l2).toNatClampNeg)), y50.2)) else some (0, y50.2)))
set_option maxHeartbeats 4000000 in
theorem zl_Mo_event_50 (F : zw_X p m c zo_Mo_event 4 s args zR10 E 20 A meth (some .int)) {N : Nat} {rv : Int32} {rst : zS}   (l1 : Int32) (l2 : Int32) (l3 : Int32) (s0 : Int32) (s1 : Int32) (st : zS)  (h : zf_Mo_event_50 N  l1 l2 l3 s0 s1 st = some (rv, rst)) : zw_G p l e zrm_Mo_event s m args below meth c (MQ below (zw_Q E (some (.int rv)) rst A) args s 0 0 A) E A 4 0 50 [some (.ref 40), some (.int l1), some (.int l2), some (.int l3)] [.int s0, .int s1, .ref 40] st := by
  unfold zf_Mo_event_50 at h
  obtain ⟨y50, hc50, h⟩ := Option.bind_eq_some_iff.mp h
  refine zg_callV F (As := [.int s1, .int s0]) (rest := []) (zk_Mo_refuse F.1.2.2 N s1 s0 st hc50) rfl rfl zcal_Mo_refuse zml_Mo_73 ⟨(Nat.le_of_ble_eq_true rfl), (Nat.le_of_ble_eq_true rfl)⟩ (zg_rec10 F.1 (by decide) rfl) rfl (Nat.le_of_ble_eq_true rfl) ⟨(Nat.le_of_ble_eq_true rfl), (Nat.le_of_ble_eq_true rfl)⟩ zd_Mo_event_50 ?_
  refine zg_if_eq F.1 58 zd_Mo_event_53 rfl (fun hc => ?_) (fun hc => ?_)
  · rw [if_pos hc] at h
    refine zg_aload_n F.1 zd_Mo_event_58 rfl rfl ?_
    refine zg_getR10 F.1 (by decide) rfl 21 (by decide) 55 rfl zwf_Mo_63 zd_Mo_event_59 ?_
    refine zg_aload_n F.1 zd_Mo_event_62 rfl rfl ?_
    refine zg_getI10 F.1 (by decide) rfl 22 (by decide) (y50.2 40 22) rfl rfl zwf_Mo_87 zd_Mo_event_63 ?_
    refine zg_iload_n F.1 zd_Mo_event_66 rfl rfl ?_
    refine zg_isub F.1 zd_Mo_event_67 ?_
    refine zg_iload_n F.1 zd_Mo_event_68 rfl rfl ?_
    refine zg_iadd F.1 zd_Mo_event_69 ?_
    refine zg_bipush F.1 30 30 (by decide) zd_Mo_event_70 ?_
    refine zg_irem F.1 zd_Mo_event_72 (by decide) ?_
    refine zg_iconst F.1 4 4 (by decide) zd_Mo_event_73 ?_
    refine zg_imul F.1 zd_Mo_event_74 ?_
    refine zg_iload_n F.1 zd_Mo_event_75 rfl rfl ?_
    refine zg_iadd F.1 zd_Mo_event_76 ?_
    by_cases hi77 : ((((((y50.2 40 22) - l3) + l1) - (((y50.2 40 22) - l3) + l1) / 30 * 30) * 4) + l2) < 0 ∨ 120 ≤ ((((((y50.2 40 22) - l3) + l1) - (((y50.2 40 22) - l3) + l1) / 30 * 30) * 4) + l2).toNatClampNeg
    case pos => rw [if_pos hi77] at h; cases h
    rw [if_neg hi77] at h
    refine zg_ald15 F.1 (by decide) rfl hi77 (((((((y50.2 40 22) - l3) + l1) - (((y50.2 40 22) - l3) + l1) / 30 * 30) * 4) + l2).toNatClampNeg) rfl (y50.2 55 (((((((y50.2 40 22) - l3) + l1) - (((y50.2 40 22) - l3) + l1) / 30 * 30) * 4) + l2).toNatClampNeg)) rfl zd_Mo_event_77 ?_
    cases h
    exact zg_iret F zd_Mo_event_78
  · rw [if_neg hc] at h
    refine zg_iconst F.1 0 0 (by decide) zd_Mo_event_56 ?_
    cases h
    exact zg_iret F zd_Mo_event_57
def zf_Mo_event_36 (N : Nat)  (l1 : Int32) (l2 : Int32) (l3 : Int32) (s0 : Int32) (st : zS) : Option (Int32 × zS) := ((zf_Mo_in N l2 0 3 st).bind fun y39 => (if y39.1 = 0 then zf_Mo_event_50 N l1 l2 l3 1 s0 y39.2 else zf_Mo_event_50 N l1 l2 l3 0 s0 y39.2))
set_option maxHeartbeats 4000000 in
theorem zl_Mo_event_36 (F : zw_X p m c zo_Mo_event 4 s args zR10 E 20 A meth (some .int)) {N : Nat} {rv : Int32} {rst : zS}   (l1 : Int32) (l2 : Int32) (l3 : Int32) (s0 : Int32) (st : zS)  (h : zf_Mo_event_36 N  l1 l2 l3 s0 st = some (rv, rst)) : zw_G p l e zrm_Mo_event s m args below meth c (MQ below (zw_Q E (some (.int rv)) rst A) args s 0 0 A) E A 4 0 36 [some (.ref 40), some (.int l1), some (.int l2), some (.int l3)] [.int s0, .ref 40] st := by
  unfold zf_Mo_event_36 at h
  refine zg_iload_n F.1 zd_Mo_event_36 rfl rfl ?_
  refine zg_iconst F.1 0 0 (by decide) zd_Mo_event_37 ?_
  refine zg_iconst F.1 3 3 (by decide) zd_Mo_event_38 ?_
  obtain ⟨y39, hc39, h⟩ := Option.bind_eq_some_iff.mp h
  refine zg_callS F (As := [.int l2, .int 0, .int 3]) (rest := [.int s0, .ref 40]) (zk_Mo_in F.1.2.2 N l2 0 3 st hc39) rfl rfl zcal_Mo_in zml_Mo_69 ⟨(Nat.le_of_ble_eq_true rfl), (Nat.le_of_ble_eq_true rfl)⟩ rfl (Nat.le_of_ble_eq_true rfl) ⟨(Nat.le_of_ble_eq_true rfl), (Nat.le_of_ble_eq_true rfl)⟩ zd_Mo_event_39 ?_
  refine zg_if_ne F.1 49 zd_Mo_event_42 rfl (fun hc => ?_) (fun hc => ?_)
  · rw [if_neg hc] at h
    refine zg_iconst F.1 0 0 (by decide) zd_Mo_event_49 ?_
    exact zl_Mo_event_50 F l1 l2 l3 0 s0 y39.2 h
  · rw [if_pos hc] at h
    refine zg_iconst F.1 1 1 (by decide) zd_Mo_event_45 ?_
    refine zg_goto F.1 50 zd_Mo_event_46 rfl ?_
    exact zl_Mo_event_50 F l1 l2 l3 1 s0 y39.2 h
def zf_Mo_event_18 (N : Nat)  (l1 : Int32) (l2 : Int32) (s0 : Int32) (st : zS) : Option (Int32 × zS) := ((zf_Mo_in N l1 0 (s0 - 1) st).bind fun y25 => (if y25.1 = 0 then zf_Mo_event_36 N l1 l2 s0 1 y25.2 else zf_Mo_event_36 N l1 l2 s0 0 y25.2))
set_option maxHeartbeats 4000000 in
theorem zl_Mo_event_18 (F : zw_X p m c zo_Mo_event 4 s args zR10 E 20 A meth (some .int)) {N : Nat} {rv : Int32} {rst : zS}   (l1 : Int32) (l2 : Int32) (s0 : Int32) (st : zS)  (h : zf_Mo_event_18 N  l1 l2 s0 st = some (rv, rst)) : zw_G p l e zrm_Mo_event s m args below meth c (MQ below (zw_Q E (some (.int rv)) rst A) args s 0 0 A) E A 4 0 18 [some (.ref 40), some (.int l1), some (.int l2), none] [.int s0] st := by
  unfold zf_Mo_event_18 at h
  refine zg_istore_n F.1 [some (.ref 40), some (.int l1), some (.int l2), some (.int s0)] zd_Mo_event_18 rfl (by decide) rfl ?_
  refine zg_aload_n F.1 zd_Mo_event_19 rfl rfl ?_
  refine zg_iload_n F.1 zd_Mo_event_20 rfl rfl ?_
  refine zg_iconst F.1 0 0 (by decide) zd_Mo_event_21 ?_
  refine zg_iload_n F.1 zd_Mo_event_22 rfl rfl ?_
  refine zg_iconst F.1 1 1 (by decide) zd_Mo_event_23 ?_
  refine zg_isub F.1 zd_Mo_event_24 ?_
  obtain ⟨y25, hc25, h⟩ := Option.bind_eq_some_iff.mp h
  refine zg_callS F (As := [.int l1, .int 0, .int (s0 - 1)]) (rest := [.ref 40]) (zk_Mo_in F.1.2.2 N l1 0 (s0 - 1) st hc25) rfl rfl zcal_Mo_in zml_Mo_69 ⟨(Nat.le_of_ble_eq_true rfl), (Nat.le_of_ble_eq_true rfl)⟩ rfl (Nat.le_of_ble_eq_true rfl) ⟨(Nat.le_of_ble_eq_true rfl), (Nat.le_of_ble_eq_true rfl)⟩ zd_Mo_event_25 ?_
  refine zg_if_ne F.1 35 zd_Mo_event_28 rfl (fun hc => ?_) (fun hc => ?_)
  · rw [if_neg hc] at h
    refine zg_iconst F.1 0 0 (by decide) zd_Mo_event_35 ?_
    exact zl_Mo_event_36 F l1 l2 s0 0 y25.2 h
  · rw [if_pos hc] at h
    refine zg_iconst F.1 1 1 (by decide) zd_Mo_event_31 ?_
    refine zg_goto F.1 36 zd_Mo_event_32 rfl ?_
    exact zl_Mo_event_36 F l1 l2 s0 1 y25.2 h
def zf_Mo_event (N : Nat) (a1 : Int32) (a2 : Int32) (st : zS) : Option (Int32 × zS) := (if 30 ≤ (st 40 22) then zf_Mo_event_18 N a1 a2 30 st else zf_Mo_event_18 N a1 a2 (st 40 22) st)
set_option maxHeartbeats 4000000 in
theorem zl_Mo_event_0 (F : zw_X p m c zo_Mo_event 4 s args zR10 E 20 A meth (some .int)) {N : Nat} {rv : Int32} {rst : zS} (a1 : Int32) (a2 : Int32) (st : zS)  (h : zf_Mo_event N a1 a2 st = some (rv, rst)) : zw_G p l e zrm_Mo_event s m args below meth c (MQ below (zw_Q E (some (.int rv)) rst A) args s 0 0 A) E A 4 0 0 [some (.ref 40), some (.int a1), some (.int a2), none] [] st := by
  unfold zf_Mo_event at h
  refine zg_aload_n F.1 zd_Mo_event_0 rfl rfl ?_
  refine zg_getI10 F.1 (by decide) rfl 22 (by decide) (st 40 22) rfl rfl zwf_Mo_87 zd_Mo_event_1 ?_
  refine zg_bipush F.1 30 30 (by decide) zd_Mo_event_4 ?_
  refine zg_icmp_ge F.1 16 zd_Mo_event_6 rfl (fun hc => ?_) (fun hc => ?_)
  · rw [if_pos hc] at h
    refine zg_bipush F.1 30 30 (by decide) zd_Mo_event_16 ?_
    exact zl_Mo_event_18 F a1 a2 30 st h
  · rw [if_neg hc] at h
    refine zg_aload_n F.1 zd_Mo_event_9 rfl rfl ?_
    refine zg_getI10 F.1 (by decide) rfl 22 (by decide) (st 40 22) rfl rfl zwf_Mo_87 zd_Mo_event_10 ?_
    refine zg_goto F.1 18 zd_Mo_event_13 rfl ?_
    exact zl_Mo_event_18 F a1 a2 (st 40 22) st h
theorem zk_Mo_event {E : zE} (hn : zw_n E 20) (N : Nat) (a1 : Int32) (a2 : Int32) (st : zS)  {rv : Int32} {rst : zS} (h : zf_Mo_event N a1 a2 st = some (rv, rst)) : zw_M l zy_Mo_event (Cond.code zy_Mo_event zo_Mo_event 4 (some .int) :: zwAll) zrm_Mo_event E [.ref 40, .int a1, .int a2] st (some (.int rv)) rst :=
  zw_enter (by decide) rfl hn (Nat.le_of_ble_eq_true rfl) (by simp [Value.category]) 1 (fun p e s m args below meth c A F => zl_Mo_event_0 F a1 a2 st  h)
abbrev zrm_Mo_about : Room := { frames := 0, cells := 0, slots := 0, locals := 0 }
def zf_Mo_about_73 (N : Nat) (r15 : Int32 → Int32 → Int32 → Int32 → Int32 → zS → Option (Int32 × zS)) (l1 : Int32) (l2 : Int32) (l3 : Int32) (l4 : Int32) (l5 : Int32) (st : zS) : Option (Int32 × zS) := r15 l1 l2 l3 l4 (l5 + 1) st
set_option maxHeartbeats 4000000 in
theorem zl_Mo_about_73 (F : zw_X p m c zo_Mo_about 6 s args zR10 E 20 A meth (some .int)) {N : Nat} {rv : Int32} {rst : zS} {r15 : Int32 → Int32 → Int32 → Int32 → Int32 → zS → Option (Int32 × zS)} (hr15 : ∀ (l1 : Int32) (l2 : Int32) (l3 : Int32) (l4 : Int32) (l5 : Int32) (st : zS) , r15 l1 l2 l3 l4 l5 st = some (rv, rst) → zw_G p l e zrm_Mo_about s m args below meth c (MQ below (zw_Q E (some (.int rv)) rst A) args s 0 0 A) E A 6 0 15 [some (.ref 40), some (.int l1), some (.int l2), some (.int l3), some (.int l4), some (.int l5)] [] st) (l1 : Int32) (l2 : Int32) (l3 : Int32) (l4 : Int32) (l5 : Int32) (st : zS)  (h : zf_Mo_about_73 N r15 l1 l2 l3 l4 l5 st = some (rv, rst)) : zw_G p l e zrm_Mo_about s m args below meth c (MQ below (zw_Q E (some (.int rv)) rst A) args s 0 0 A) E A 6 0 73 [some (.ref 40), some (.int l1), some (.int l2), some (.int l3), some (.int l4), some (.int l5)] [] st := by
  unfold zf_Mo_about_73 at h
  refine zg_iinc F.1 (l5 + 1) [some (.ref 40), some (.int l1), some (.int l2), some (.int l3), some (.int l4), some (.int (l5 + 1))] zd_Mo_about_73 rfl (by rw [lit1]) (by decide) rfl ?_
  refine zg_goto F.1 15 zd_Mo_about_76 rfl ?_
  exact hr15 l1 l2 l3 l4 (l5 + 1) st h
def zf_Mo_about_60 (N : Nat) (r15 : Int32 → Int32 → Int32 → Int32 → Int32 → zS → Option (Int32 × zS)) (l1 : Int32) (l2 : Int32) (l4 : Int32) (l5 : Int32) (s0 : Int32) (st : zS) : Option (Int32 × zS) := (if l5 < 0 ∨ 24 ≤ l5.toNatClampNeg then none else zf_Mo_about_73 N r15 l1 l2 s0 (l4 + (st 54 l5.toNatClampNeg)) l5 st)
set_option maxHeartbeats 4000000 in
theorem zl_Mo_about_60 (F : zw_X p m c zo_Mo_about 6 s args zR10 E 20 A meth (some .int)) {N : Nat} {rv : Int32} {rst : zS} {r15 : Int32 → Int32 → Int32 → Int32 → Int32 → zS → Option (Int32 × zS)} (hr15 : ∀ (l1 : Int32) (l2 : Int32) (l3 : Int32) (l4 : Int32) (l5 : Int32) (st : zS) , r15 l1 l2 l3 l4 l5 st = some (rv, rst) → zw_G p l e zrm_Mo_about s m args below meth c (MQ below (zw_Q E (some (.int rv)) rst A) args s 0 0 A) E A 6 0 15 [some (.ref 40), some (.int l1), some (.int l2), some (.int l3), some (.int l4), some (.int l5)] [] st) (l1 : Int32) (l2 : Int32) (l4 : Int32) (l5 : Int32) (s0 : Int32) (st : zS)  (h : zf_Mo_about_60 N r15 l1 l2 l4 l5 s0 st = some (rv, rst)) : zw_G p l e zrm_Mo_about s m args below meth c (MQ below (zw_Q E (some (.int rv)) rst A) args s 0 0 A) E A 6 0 60 [some (.ref 40), some (.int l1), some (.int l2), none, some (.int l4), some (.int l5)] [.int s0] st := by
  unfold zf_Mo_about_60 at h
  refine zg_istore_n F.1 [some (.ref 40), some (.int l1), some (.int l2), some (.int s0), some (.int l4), some (.int l5)] zd_Mo_about_60 rfl (by decide) rfl ?_
  refine zg_iload F.1 zd_Mo_about_61 rfl ?_
  refine zg_aload_n F.1 zd_Mo_about_63 rfl rfl ?_
  refine zg_getR10 F.1 (by decide) rfl 18 (by decide) 54 rfl zwf_Mo_60 zd_Mo_about_64 ?_
  refine zg_iload F.1 zd_Mo_about_67 rfl ?_
  by_cases hi69 : l5 < 0 ∨ 24 ≤ l5.toNatClampNeg
  case pos => rw [if_pos hi69] at h; cases h
  rw [if_neg hi69] at h
  refine zg_ald14 F.1 (by decide) rfl hi69 l5.toNatClampNeg rfl (st 54 l5.toNatClampNeg) rfl zd_Mo_about_69 ?_
  refine zg_iadd F.1 zd_Mo_about_70 ?_
  refine zg_istore F.1 [some (.ref 40), some (.int l1), some (.int l2), some (.int s0), some (.int (l4 + (st 54 l5.toNatClampNeg))), some (.int l5)] zd_Mo_about_71 (by decide) rfl ?_
  exact zl_Mo_about_73 F hr15 l1 l2 s0 (l4 + (st 54 l5.toNatClampNeg)) l5 st h
def zb_Mo_about_15 (N : Nat) (r15 : Int32 → Int32 → Int32 → Int32 → Int32 → zS → Option (Int32 × zS)) (l1 : Int32) (l2 : Int32) (l3 : Int32) (l4 : Int32) (l5 : Int32) (st : zS) : Option (Int32 × zS) := (if (st 40 19) ≤ l5 then (if l1 = 0 then some ((st 40 20), st) else (if l1 = 1 then some ((st 40 19), st) else (if l1 = 2 then some ((st 40 22), st) else (if l1 = 3 then some (l2, st) else (if l1 = 4 then some (l3, st) else (if l1 = 5 then some (l4, st) else some ((-1), st))))))) else (if l5 < 0 ∨ 48 ≤ l5.toNatClampNeg then none else (if (st 49 l5.toNatClampNeg) = 2 then (if l5 < 0 ∨ 24 ≤ l5.toNatClampNeg then none else (if (st 54 l5.toNatClampNeg) ≤ l3 then zf_Mo_about_60 N r15 l1 (l2 + 1) l4 l5 l3 st else (if l5 < 0 ∨ 24 ≤ l5.toNatClampNeg then none else zf_Mo_about_60 N r15 l1 (l2 + 1) l4 l5 (st 54 l5.toNatClampNeg) st))) else zf_Mo_about_73 N r15 l1 l2 l3 l4 l5 st)))
set_option maxHeartbeats 4000000 in
theorem zlb_Mo_about_15 (F : zw_X p m c zo_Mo_about 6 s args zR10 E 20 A meth (some .int)) {N : Nat} {rv : Int32} {rst : zS} {r15 : Int32 → Int32 → Int32 → Int32 → Int32 → zS → Option (Int32 × zS)} (hr15 : ∀ (l1 : Int32) (l2 : Int32) (l3 : Int32) (l4 : Int32) (l5 : Int32) (st : zS) , r15 l1 l2 l3 l4 l5 st = some (rv, rst) → zw_G p l e zrm_Mo_about s m args below meth c (MQ below (zw_Q E (some (.int rv)) rst A) args s 0 0 A) E A 6 0 15 [some (.ref 40), some (.int l1), some (.int l2), some (.int l3), some (.int l4), some (.int l5)] [] st) (l1 : Int32) (l2 : Int32) (l3 : Int32) (l4 : Int32) (l5 : Int32) (st : zS)  (h : zb_Mo_about_15 N r15 l1 l2 l3 l4 l5 st = some (rv, rst)) : zw_G p l e zrm_Mo_about s m args below meth c (MQ below (zw_Q E (some (.int rv)) rst A) args s 0 0 A) E A 6 0 15 [some (.ref 40), some (.int l1), some (.int l2), some (.int l3), some (.int l4), some (.int l5)] [] st := by
  unfold zb_Mo_about_15 at h
  refine zg_iload F.1 zd_Mo_about_15 rfl ?_
  refine zg_aload_n F.1 zd_Mo_about_17 rfl rfl ?_
  refine zg_getI10 F.1 (by decide) rfl 19 (by decide) (st 40 19) rfl rfl zwf_Mo_81 zd_Mo_about_18 ?_
  refine zg_icmp_ge F.1 79 zd_Mo_about_21 rfl (fun hc => ?_) (fun hc => ?_)
  · rw [if_pos hc] at h
    refine zg_iload_n F.1 zd_Mo_about_79 rfl rfl ?_
    by_cases hc0 : l1 = 0
    · rw [if_pos hc0] at h
      refine zg_tabIn F.1 120 zd_Mo_about_80 (by rw [hc0]; decide) (by rw [hc0]; decide) (by rw [hc0]; rfl) rfl ?_
      refine zg_aload_n F.1 zd_Mo_about_120 rfl rfl ?_
      refine zg_getI10 F.1 (by decide) rfl 20 (by decide) (st 40 20) rfl rfl zwf_Mo_84 zd_Mo_about_121 ?_
      cases h
      exact zg_iret F zd_Mo_about_124
    · rw [if_neg hc0] at h
      by_cases hc1 : l1 = 1
      · rw [if_pos hc1] at h
        refine zg_tabIn F.1 125 zd_Mo_about_80 (by rw [hc1]; decide) (by rw [hc1]; decide) (by rw [hc1]; rfl) rfl ?_
        refine zg_aload_n F.1 zd_Mo_about_125 rfl rfl ?_
        refine zg_getI10 F.1 (by decide) rfl 19 (by decide) (st 40 19) rfl rfl zwf_Mo_81 zd_Mo_about_126 ?_
        cases h
        exact zg_iret F zd_Mo_about_129
      · rw [if_neg hc1] at h
        by_cases hc2 : l1 = 2
        · rw [if_pos hc2] at h
          refine zg_tabIn F.1 130 zd_Mo_about_80 (by rw [hc2]; decide) (by rw [hc2]; decide) (by rw [hc2]; rfl) rfl ?_
          refine zg_aload_n F.1 zd_Mo_about_130 rfl rfl ?_
          refine zg_getI10 F.1 (by decide) rfl 22 (by decide) (st 40 22) rfl rfl zwf_Mo_87 zd_Mo_about_131 ?_
          cases h
          exact zg_iret F zd_Mo_about_134
        · rw [if_neg hc2] at h
          by_cases hc3 : l1 = 3
          · rw [if_pos hc3] at h
            refine zg_tabIn F.1 135 zd_Mo_about_80 (by rw [hc3]; decide) (by rw [hc3]; decide) (by rw [hc3]; rfl) rfl ?_
            refine zg_iload_n F.1 zd_Mo_about_135 rfl rfl ?_
            cases h
            exact zg_iret F zd_Mo_about_136
          · rw [if_neg hc3] at h
            by_cases hc4 : l1 = 4
            · rw [if_pos hc4] at h
              refine zg_tabIn F.1 137 zd_Mo_about_80 (by rw [hc4]; decide) (by rw [hc4]; decide) (by rw [hc4]; rfl) rfl ?_
              refine zg_iload_n F.1 zd_Mo_about_137 rfl rfl ?_
              cases h
              exact zg_iret F zd_Mo_about_138
            · rw [if_neg hc4] at h
              by_cases hc5 : l1 = 5
              · rw [if_pos hc5] at h
                refine zg_tabIn F.1 139 zd_Mo_about_80 (by rw [hc5]; decide) (by rw [hc5]; decide) (by rw [hc5]; rfl) rfl ?_
                refine zg_iload F.1 zd_Mo_about_139 rfl ?_
                cases h
                exact zg_iret F zd_Mo_about_141
              · rw [if_neg hc5] at h
                refine zg_tabOut F.1 142 zd_Mo_about_80 (zw_sw0_5 hc0 hc1 hc2 hc3 hc4 hc5) rfl ?_
                refine zg_iconst F.1 (-1) (-1) (by decide) zd_Mo_about_142 ?_
                cases h
                exact zg_iret F zd_Mo_about_143
  · rw [if_neg hc] at h
    refine zg_aload_n F.1 zd_Mo_about_24 rfl rfl ?_
    refine zg_getR10 F.1 (by decide) rfl 13 (by decide) 49 rfl zwf_Mo_45 zd_Mo_about_25 ?_
    refine zg_iload F.1 zd_Mo_about_28 rfl ?_
    by_cases hi30 : l5 < 0 ∨ 48 ≤ l5.toNatClampNeg
    case pos => rw [if_pos hi30] at h; cases h
    rw [if_neg hi30] at h
    refine zg_ald13 F.1 (by decide) rfl hi30 l5.toNatClampNeg rfl (st 49 l5.toNatClampNeg) rfl zd_Mo_about_30 ?_
    refine zg_iconst F.1 2 2 (by decide) zd_Mo_about_31 ?_
    refine zg_icmp_ne F.1 73 zd_Mo_about_32 rfl (fun hc => ?_) (fun hc => ?_)
    · rw [if_neg hc] at h
      exact zl_Mo_about_73 F hr15 l1 l2 l3 l4 l5 st h
    · rw [if_pos hc] at h
      refine zg_iinc F.1 (l2 + 1) [some (.ref 40), some (.int l1), some (.int (l2 + 1)), some (.int l3), some (.int l4), some (.int l5)] zd_Mo_about_35 rfl (by rw [lit1]) (by decide) rfl ?_
      refine zg_aload_n F.1 zd_Mo_about_38 rfl rfl ?_
      refine zg_getR10 F.1 (by decide) rfl 18 (by decide) 54 rfl zwf_Mo_60 zd_Mo_about_39 ?_
      refine zg_iload F.1 zd_Mo_about_42 rfl ?_
      by_cases hi44 : l5 < 0 ∨ 24 ≤ l5.toNatClampNeg
      case pos => rw [if_pos hi44] at h; cases h
      rw [if_neg hi44] at h
      refine zg_ald14 F.1 (by decide) rfl hi44 l5.toNatClampNeg rfl (st 54 l5.toNatClampNeg) rfl zd_Mo_about_44 ?_
      refine zg_iload_n F.1 zd_Mo_about_45 rfl rfl ?_
      refine zg_icmp_le F.1 59 zd_Mo_about_46 rfl (fun hc => ?_) (fun hc => ?_)
      · rw [if_pos hc] at h
        refine zg_iload_n F.1 zd_Mo_about_59 rfl rfl ?_
        exact zg_le (zw_les (zw_les (zw_les (zw_len (zw_les (zw_les zw_le0)))))) (zl_Mo_about_60 F hr15 l1 (l2 + 1) l4 l5 l3 st h)
      · rw [if_neg hc] at h
        refine zg_aload_n F.1 zd_Mo_about_49 rfl rfl ?_
        refine zg_getR10 F.1 (by decide) rfl 18 (by decide) 54 rfl zwf_Mo_60 zd_Mo_about_50 ?_
        refine zg_iload F.1 zd_Mo_about_53 rfl ?_
        by_cases hi55 : l5 < 0 ∨ 24 ≤ l5.toNatClampNeg
        case pos => rw [if_pos hi55] at h; cases h
        rw [if_neg hi55] at h
        refine zg_ald14 F.1 (by decide) rfl hi55 l5.toNatClampNeg rfl (st 54 l5.toNatClampNeg) rfl zd_Mo_about_55 ?_
        refine zg_goto F.1 60 zd_Mo_about_56 rfl ?_
        exact zg_le (zw_les (zw_les (zw_les (zw_len (zw_les (zw_les zw_le0)))))) (zl_Mo_about_60 F hr15 l1 (l2 + 1) l4 l5 (st 54 l5.toNatClampNeg) st h)
def zf_Mo_about_15 (N : Nat)  : Nat → Int32 → Int32 → Int32 → Int32 → Int32 → zS → Option (Int32 × zS)
  | 0, _, _, _, _, _, _ => none
  | n + 1, l1, l2, l3, l4, l5, st => zb_Mo_about_15 N  (zf_Mo_about_15 N  n) l1 l2 l3 l4 l5 st
theorem zl_Mo_about_15 (F : zw_X p m c zo_Mo_about 6 s args zR10 E 20 A meth (some .int)) {N : Nat} {rv : Int32} {rst : zS}   : ∀ (n : Nat) (l1 : Int32) (l2 : Int32) (l3 : Int32) (l4 : Int32) (l5 : Int32) (st : zS)  (h : zf_Mo_about_15 N  n l1 l2 l3 l4 l5 st = some (rv, rst)), zw_G p l e zrm_Mo_about s m args below meth c (MQ below (zw_Q E (some (.int rv)) rst A) args s 0 0 A) E A 6 0 15 [some (.ref 40), some (.int l1), some (.int l2), some (.int l3), some (.int l4), some (.int l5)] [] st := by
  intro n
  induction n with
  | zero => intro l1 l2 l3 l4 l5 st  h; cases h
  | succ n ih => intro l1 l2 l3 l4 l5 st  h; exact zlb_Mo_about_15 F  ih l1 l2 l3 l4 l5 st  h
def zf_Mo_about (N : Nat) (a1 : Int32) (st : zS) : Option (Int32 × zS) := zf_Mo_about_15 N N a1 0 0 0 0 (zp st 40 0 0)
set_option maxHeartbeats 4000000 in
theorem zl_Mo_about_0 (F : zw_X p m c zo_Mo_about 6 s args zR10 E 20 A meth (some .int)) {N : Nat} {rv : Int32} {rst : zS} (a1 : Int32) (st : zS)  (h : zf_Mo_about N a1 st = some (rv, rst)) : zw_G p l e zrm_Mo_about s m args below meth c (MQ below (zw_Q E (some (.int rv)) rst A) args s 0 0 A) E A 6 0 0 [some (.ref 40), some (.int a1), none, none, none, none] [] st := by
  unfold zf_Mo_about at h
  refine zg_aload_n F.1 zd_Mo_about_0 rfl rfl ?_
  refine zg_iconst F.1 0 0 (by decide) zd_Mo_about_1 ?_
  refine zg_putI10 F.1 (by decide) rfl 0 (by decide) (Or.inl rfl) .int (by decide) rfl rfl rfl zwf_Mo_66 zd_Mo_about_2 ?_
  refine zg_iconst F.1 0 0 (by decide) zd_Mo_about_5 ?_
  refine zg_istore_n F.1 [some (.ref 40), some (.int a1), some (.int 0), none, none, none] zd_Mo_about_6 rfl (by decide) rfl ?_
  refine zg_iconst F.1 0 0 (by decide) zd_Mo_about_7 ?_
  refine zg_istore_n F.1 [some (.ref 40), some (.int a1), some (.int 0), some (.int 0), none, none] zd_Mo_about_8 rfl (by decide) rfl ?_
  refine zg_iconst F.1 0 0 (by decide) zd_Mo_about_9 ?_
  refine zg_istore F.1 [some (.ref 40), some (.int a1), some (.int 0), some (.int 0), some (.int 0), none] zd_Mo_about_10 (by decide) rfl ?_
  refine zg_iconst F.1 0 0 (by decide) zd_Mo_about_12 ?_
  refine zg_istore F.1 [some (.ref 40), some (.int a1), some (.int 0), some (.int 0), some (.int 0), some (.int 0)] zd_Mo_about_13 (by decide) rfl ?_
  exact zl_Mo_about_15 F N a1 0 0 0 0 (zp st 40 0 0) h
theorem zk_Mo_about {E : zE} (hn : zw_n E 20) (N : Nat) (a1 : Int32) (st : zS)  {rv : Int32} {rst : zS} (h : zf_Mo_about N a1 st = some (rv, rst)) : zw_M l zy_Mo_about (Cond.code zy_Mo_about zo_Mo_about 6 (some .int) :: zwAll) zrm_Mo_about E [.ref 40, .int a1] st (some (.int rv)) rst :=
  zw_enter (by decide) rfl hn (Nat.le_of_ble_eq_true rfl) (by simp [Value.category]) 4 (fun p e s m args below meth c A F => zl_Mo_about_0 F a1 st  h)
end ZC7
