abbrev zo_LG_carNumbered : ByteArray := prog_1_method_17_code
abbrev zy_LG_carNumbered : MethodName := ⟨"LiftGroup", "carNumbered", "(I)LLiftGroup$Car;"⟩
theorem zd_LG_carNumbered_0 : decode zo_LG_carNumbered 0 = .ok (.iload_n 1, 1) := by decide +kernel
theorem zd_LG_carNumbered_1 : decode zo_LG_carNumbered 1 = .ok (.ifCond .lt 11, 3) := by decide +kernel
theorem zd_LG_carNumbered_4 : decode zo_LG_carNumbered 4 = .ok (.iload_n 1, 1) := by decide +kernel
theorem zd_LG_carNumbered_5 : decode zo_LG_carNumbered 5 = .ok (.aload_n 0, 1) := by decide +kernel
theorem zd_LG_carNumbered_6 : decode zo_LG_carNumbered 6 = .ok (.getfield 98, 3) := by decide +kernel
theorem zd_LG_carNumbered_9 : decode zo_LG_carNumbered 9 = .ok (.if_icmp .lt 14, 3) := by decide +kernel
theorem zd_LG_carNumbered_12 : decode zo_LG_carNumbered 12 = .ok (.new 255, 3) := by decide +kernel
theorem zd_LG_carNumbered_15 : decode zo_LG_carNumbered 15 = .ok (.dup, 1) := by decide +kernel
theorem zd_LG_carNumbered_16 : decode zo_LG_carNumbered 16 = .ok (.ldc_w 257, 3) := by decide +kernel
theorem zd_LG_carNumbered_19 : decode zo_LG_carNumbered 19 = .ok (.invokespecial 259, 3) := by decide +kernel
theorem zd_LG_carNumbered_22 : decode zo_LG_carNumbered 22 = .ok (.athrow, 1) := by decide +kernel
theorem zd_LG_carNumbered_23 : decode zo_LG_carNumbered 23 = .ok (.aload_n 0, 1) := by decide +kernel
theorem zd_LG_carNumbered_24 : decode zo_LG_carNumbered 24 = .ok (.getfield 18, 3) := by decide +kernel
theorem zd_LG_carNumbered_27 : decode zo_LG_carNumbered 27 = .ok (.iload_n 1, 1) := by decide +kernel
theorem zd_LG_carNumbered_28 : decode zo_LG_carNumbered 28 = .ok (.aaload, 1) := by decide +kernel
theorem zd_LG_carNumbered_29 : decode zo_LG_carNumbered 29 = .ok (.areturn, 1) := by decide +kernel
abbrev zo_LG_riderNumbered : ByteArray := prog_1_method_18_code
abbrev zy_LG_riderNumbered : MethodName := ⟨"LiftGroup", "riderNumbered", "(I)LLiftGroup$Rider;"⟩
theorem zd_LG_riderNumbered_0 : decode zo_LG_riderNumbered 0 = .ok (.iload_n 1, 1) := by decide +kernel
theorem zd_LG_riderNumbered_1 : decode zo_LG_riderNumbered 1 = .ok (.ifCond .lt 11, 3) := by decide +kernel
theorem zd_LG_riderNumbered_4 : decode zo_LG_riderNumbered 4 = .ok (.iload_n 1, 1) := by decide +kernel
theorem zd_LG_riderNumbered_5 : decode zo_LG_riderNumbered 5 = .ok (.aload_n 0, 1) := by decide +kernel
theorem zd_LG_riderNumbered_6 : decode zo_LG_riderNumbered 6 = .ok (.getfield 71, 3) := by decide +kernel
theorem zd_LG_riderNumbered_9 : decode zo_LG_riderNumbered 9 = .ok (.if_icmp .lt 14, 3) := by decide +kernel
theorem zd_LG_riderNumbered_12 : decode zo_LG_riderNumbered 12 = .ok (.new 255, 3) := by decide +kernel
theorem zd_LG_riderNumbered_15 : decode zo_LG_riderNumbered 15 = .ok (.dup, 1) := by decide +kernel
theorem zd_LG_riderNumbered_16 : decode zo_LG_riderNumbered 16 = .ok (.ldc_w 260, 3) := by decide +kernel
theorem zd_LG_riderNumbered_19 : decode zo_LG_riderNumbered 19 = .ok (.invokespecial 259, 3) := by decide +kernel
theorem zd_LG_riderNumbered_22 : decode zo_LG_riderNumbered 22 = .ok (.athrow, 1) := by decide +kernel
theorem zd_LG_riderNumbered_23 : decode zo_LG_riderNumbered 23 = .ok (.aload_n 0, 1) := by decide +kernel
theorem zd_LG_riderNumbered_24 : decode zo_LG_riderNumbered 24 = .ok (.getfield 29, 3) := by decide +kernel
theorem zd_LG_riderNumbered_27 : decode zo_LG_riderNumbered 27 = .ok (.iload_n 1, 1) := by decide +kernel
theorem zd_LG_riderNumbered_28 : decode zo_LG_riderNumbered 28 = .ok (.aaload, 1) := by decide +kernel
theorem zd_LG_riderNumbered_29 : decode zo_LG_riderNumbered 29 = .ok (.areturn, 1) := by decide +kernel
abbrev zo_LG_building : ByteArray := prog_1_method_2_code
abbrev zy_LG_building : MethodName := ⟨"LiftGroup", "building", "(III)V"⟩
theorem zd_LG_building_0 : decode zo_LG_building 0 = .ok (.iload_n 1, 1) := by decide +kernel
theorem zd_LG_building_1 : decode zo_LG_building 1 = .ok (.iconst 2, 1) := by decide +kernel
theorem zd_LG_building_2 : decode zo_LG_building 2 = .ok (.if_icmp .lt 9, 3) := by decide +kernel
theorem zd_LG_building_5 : decode zo_LG_building 5 = .ok (.iload_n 1, 1) := by decide +kernel
theorem zd_LG_building_6 : decode zo_LG_building 6 = .ok (.bipush 10, 2) := by decide +kernel
theorem zd_LG_building_8 : decode zo_LG_building 8 = .ok (.if_icmp .le 13, 3) := by decide +kernel
theorem zd_LG_building_11 : decode zo_LG_building 11 = .ok (.new 45, 3) := by decide +kernel
theorem zd_LG_building_14 : decode zo_LG_building 14 = .ok (.dup, 1) := by decide +kernel
theorem zd_LG_building_15 : decode zo_LG_building 15 = .ok (.ldc 47, 2) := by decide +kernel
theorem zd_LG_building_17 : decode zo_LG_building 17 = .ok (.invokespecial 49, 3) := by decide +kernel
theorem zd_LG_building_20 : decode zo_LG_building 20 = .ok (.athrow, 1) := by decide +kernel
theorem zd_LG_building_21 : decode zo_LG_building 21 = .ok (.iload_n 2, 1) := by decide +kernel
theorem zd_LG_building_22 : decode zo_LG_building 22 = .ok (.iconst 1, 1) := by decide +kernel
theorem zd_LG_building_23 : decode zo_LG_building 23 = .ok (.if_icmp .lt 8, 3) := by decide +kernel
theorem zd_LG_building_26 : decode zo_LG_building 26 = .ok (.iload_n 2, 1) := by decide +kernel
theorem zd_LG_building_27 : decode zo_LG_building 27 = .ok (.iconst 4, 1) := by decide +kernel
theorem zd_LG_building_28 : decode zo_LG_building 28 = .ok (.if_icmp .le 13, 3) := by decide +kernel
theorem zd_LG_building_31 : decode zo_LG_building 31 = .ok (.new 45, 3) := by decide +kernel
theorem zd_LG_building_34 : decode zo_LG_building 34 = .ok (.dup, 1) := by decide +kernel
theorem zd_LG_building_35 : decode zo_LG_building 35 = .ok (.ldc 52, 2) := by decide +kernel
theorem zd_LG_building_37 : decode zo_LG_building 37 = .ok (.invokespecial 49, 3) := by decide +kernel
theorem zd_LG_building_40 : decode zo_LG_building 40 = .ok (.athrow, 1) := by decide +kernel
theorem zd_LG_building_41 : decode zo_LG_building 41 = .ok (.iload_n 3, 1) := by decide +kernel
theorem zd_LG_building_42 : decode zo_LG_building 42 = .ok (.iconst 1, 1) := by decide +kernel
theorem zd_LG_building_43 : decode zo_LG_building 43 = .ok (.if_icmp .lt 8, 3) := by decide +kernel
theorem zd_LG_building_46 : decode zo_LG_building 46 = .ok (.iload_n 3, 1) := by decide +kernel
theorem zd_LG_building_47 : decode zo_LG_building 47 = .ok (.iconst 5, 1) := by decide +kernel
theorem zd_LG_building_48 : decode zo_LG_building 48 = .ok (.if_icmp .le 13, 3) := by decide +kernel
theorem zd_LG_building_51 : decode zo_LG_building 51 = .ok (.new 45, 3) := by decide +kernel
theorem zd_LG_building_54 : decode zo_LG_building 54 = .ok (.dup, 1) := by decide +kernel
theorem zd_LG_building_55 : decode zo_LG_building 55 = .ok (.ldc 54, 2) := by decide +kernel
theorem zd_LG_building_57 : decode zo_LG_building 57 = .ok (.invokespecial 49, 3) := by decide +kernel
theorem zd_LG_building_60 : decode zo_LG_building 60 = .ok (.athrow, 1) := by decide +kernel
theorem zd_LG_building_61 : decode zo_LG_building 61 = .ok (.aload_n 0, 1) := by decide +kernel
theorem zd_LG_building_62 : decode zo_LG_building 62 = .ok (.iload_n 1, 1) := by decide +kernel
theorem zd_LG_building_63 : decode zo_LG_building 63 = .ok (.iload_n 2, 1) := by decide +kernel
theorem zd_LG_building_64 : decode zo_LG_building 64 = .ok (.iload_n 3, 1) := by decide +kernel
theorem zd_LG_building_65 : decode zo_LG_building 65 = .ok (.invokevirtual 41, 3) := by decide +kernel
theorem zd_LG_building_68 : decode zo_LG_building 68 = .ok (.return_, 1) := by decide +kernel
abbrev zo_LG_call : ByteArray := prog_1_method_3_code
abbrev zy_LG_call : MethodName := ⟨"LiftGroup", "call", "(II)I"⟩
theorem zd_LG_call_0 : decode zo_LG_call 0 = .ok (.aload_n 0, 1) := by decide +kernel
theorem zd_LG_call_1 : decode zo_LG_call 1 = .ok (.iload_n 1, 1) := by decide +kernel
theorem zd_LG_call_2 : decode zo_LG_call 2 = .ok (.invokevirtual 56, 3) := by decide +kernel
theorem zd_LG_call_5 : decode zo_LG_call 5 = .ok (.ifCond .eq 16, 3) := by decide +kernel
theorem zd_LG_call_8 : decode zo_LG_call 8 = .ok (.aload_n 0, 1) := by decide +kernel
theorem zd_LG_call_9 : decode zo_LG_call 9 = .ok (.iload_n 2, 1) := by decide +kernel
theorem zd_LG_call_10 : decode zo_LG_call 10 = .ok (.invokevirtual 56, 3) := by decide +kernel
theorem zd_LG_call_13 : decode zo_LG_call 13 = .ok (.ifCond .eq 8, 3) := by decide +kernel
theorem zd_LG_call_16 : decode zo_LG_call 16 = .ok (.iload_n 1, 1) := by decide +kernel
theorem zd_LG_call_17 : decode zo_LG_call 17 = .ok (.iload_n 2, 1) := by decide +kernel
theorem zd_LG_call_18 : decode zo_LG_call 18 = .ok (.if_icmp .ne 13, 3) := by decide +kernel
theorem zd_LG_call_21 : decode zo_LG_call 21 = .ok (.new 45, 3) := by decide +kernel
theorem zd_LG_call_24 : decode zo_LG_call 24 = .ok (.dup, 1) := by decide +kernel
theorem zd_LG_call_25 : decode zo_LG_call 25 = .ok (.ldc 60, 2) := by decide +kernel
theorem zd_LG_call_27 : decode zo_LG_call 27 = .ok (.invokespecial 49, 3) := by decide +kernel
theorem zd_LG_call_30 : decode zo_LG_call 30 = .ok (.athrow, 1) := by decide +kernel
theorem zd_LG_call_31 : decode zo_LG_call 31 = .ok (.aload_n 0, 1) := by decide +kernel
theorem zd_LG_call_32 : decode zo_LG_call 32 = .ok (.invokevirtual 62, 3) := by decide +kernel
theorem zd_LG_call_35 : decode zo_LG_call 35 = .ok (.ifCond .ne 13, 3) := by decide +kernel
theorem zd_LG_call_38 : decode zo_LG_call 38 = .ok (.new 66, 3) := by decide +kernel
theorem zd_LG_call_41 : decode zo_LG_call 41 = .ok (.dup, 1) := by decide +kernel
theorem zd_LG_call_42 : decode zo_LG_call 42 = .ok (.ldc 68, 2) := by decide +kernel
theorem zd_LG_call_44 : decode zo_LG_call 44 = .ok (.invokespecial 70, 3) := by decide +kernel
theorem zd_LG_call_47 : decode zo_LG_call 47 = .ok (.athrow, 1) := by decide +kernel
theorem zd_LG_call_48 : decode zo_LG_call 48 = .ok (.aload_n 0, 1) := by decide +kernel
theorem zd_LG_call_49 : decode zo_LG_call 49 = .ok (.getfield 71, 3) := by decide +kernel
theorem zd_LG_call_52 : decode zo_LG_call 52 = .ok (.bipush 24, 2) := by decide +kernel
theorem zd_LG_call_54 : decode zo_LG_call 54 = .ok (.if_icmp .lt 13, 3) := by decide +kernel
theorem zd_LG_call_57 : decode zo_LG_call 57 = .ok (.new 75, 3) := by decide +kernel
theorem zd_LG_call_60 : decode zo_LG_call 60 = .ok (.dup, 1) := by decide +kernel
theorem zd_LG_call_61 : decode zo_LG_call 61 = .ok (.ldc 77, 2) := by decide +kernel
theorem zd_LG_call_63 : decode zo_LG_call 63 = .ok (.invokespecial 79, 3) := by decide +kernel
theorem zd_LG_call_66 : decode zo_LG_call 66 = .ok (.athrow, 1) := by decide +kernel
theorem zd_LG_call_67 : decode zo_LG_call 67 = .ok (.aload_n 0, 1) := by decide +kernel
theorem zd_LG_call_68 : decode zo_LG_call 68 = .ok (.getfield 71, 3) := by decide +kernel
theorem zd_LG_call_71 : decode zo_LG_call 71 = .ok (.istore_n 3, 1) := by decide +kernel
theorem zd_LG_call_72 : decode zo_LG_call 72 = .ok (.aload_n 0, 1) := by decide +kernel
theorem zd_LG_call_73 : decode zo_LG_call 73 = .ok (.dup, 1) := by decide +kernel
theorem zd_LG_call_74 : decode zo_LG_call 74 = .ok (.getfield 71, 3) := by decide +kernel
theorem zd_LG_call_77 : decode zo_LG_call 77 = .ok (.iconst 1, 1) := by decide +kernel
theorem zd_LG_call_78 : decode zo_LG_call 78 = .ok (.iadd, 1) := by decide +kernel
theorem zd_LG_call_79 : decode zo_LG_call 79 = .ok (.putfield 71, 3) := by decide +kernel
theorem zd_LG_call_82 : decode zo_LG_call 82 = .ok (.aload_n 0, 1) := by decide +kernel
theorem zd_LG_call_83 : decode zo_LG_call 83 = .ok (.getfield 29, 3) := by decide +kernel
theorem zd_LG_call_86 : decode zo_LG_call 86 = .ok (.iload_n 3, 1) := by decide +kernel
theorem zd_LG_call_87 : decode zo_LG_call 87 = .ok (.aaload, 1) := by decide +kernel
theorem zd_LG_call_88 : decode zo_LG_call 88 = .ok (.iload_n 1, 1) := by decide +kernel
theorem zd_LG_call_89 : decode zo_LG_call 89 = .ok (.iload_n 2, 1) := by decide +kernel
theorem zd_LG_call_90 : decode zo_LG_call 90 = .ok (.aload_n 0, 1) := by decide +kernel
theorem zd_LG_call_91 : decode zo_LG_call 91 = .ok (.getfield 80, 3) := by decide +kernel
theorem zd_LG_call_94 : decode zo_LG_call 94 = .ok (.invokevirtual 83, 3) := by decide +kernel
theorem zd_LG_call_97 : decode zo_LG_call 97 = .ok (.aload_n 0, 1) := by decide +kernel
theorem zd_LG_call_98 : decode zo_LG_call 98 = .ok (.getfield 10, 3) := by decide +kernel
theorem zd_LG_call_101 : decode zo_LG_call 101 = .ok (.iconst 1, 1) := by decide +kernel
theorem zd_LG_call_102 : decode zo_LG_call 102 = .ok (.iload_n 3, 1) := by decide +kernel
theorem zd_LG_call_103 : decode zo_LG_call 103 = .ok (.ishl, 1) := by decide +kernel
theorem zd_LG_call_104 : decode zo_LG_call 104 = .ok (.iload_n 1, 1) := by decide +kernel
theorem zd_LG_call_105 : decode zo_LG_call 105 = .ok (.iload_n 2, 1) := by decide +kernel
theorem zd_LG_call_106 : decode zo_LG_call 106 = .ok (.invokevirtual 86, 3) := by decide +kernel
theorem zd_LG_call_109 : decode zo_LG_call 109 = .ok (.aload_n 0, 1) := by decide +kernel
theorem zd_LG_call_110 : decode zo_LG_call 110 = .ok (.iload_n 3, 1) := by decide +kernel
theorem zd_LG_call_111 : decode zo_LG_call 111 = .ok (.invokevirtual 89, 3) := by decide +kernel
theorem zd_LG_call_114 : decode zo_LG_call 114 = .ok (.aload_n 0, 1) := by decide +kernel
theorem zd_LG_call_115 : decode zo_LG_call 115 = .ok (.getfield 29, 3) := by decide +kernel
theorem zd_LG_call_118 : decode zo_LG_call 118 = .ok (.iload_n 3, 1) := by decide +kernel
theorem zd_LG_call_119 : decode zo_LG_call 119 = .ok (.aaload, 1) := by decide +kernel
theorem zd_LG_call_120 : decode zo_LG_call 120 = .ok (.getfield 93, 3) := by decide +kernel
theorem zd_LG_call_123 : decode zo_LG_call 123 = .ok (.ireturn, 1) := by decide +kernel
abbrev zo_LG_step : ByteArray := prog_1_method_4_code
abbrev zy_LG_step : MethodName := ⟨"LiftGroup", "step", "(I)V"⟩
theorem zd_LG_step_0 : decode zo_LG_step 0 = .ok (.iload_n 1, 1) := by decide +kernel
theorem zd_LG_step_1 : decode zo_LG_step 1 = .ok (.ifCond .lt 10, 3) := by decide +kernel
theorem zd_LG_step_4 : decode zo_LG_step 4 = .ok (.iload_n 1, 1) := by decide +kernel
theorem zd_LG_step_5 : decode zo_LG_step 5 = .ok (.sipush 200, 3) := by decide +kernel
theorem zd_LG_step_8 : decode zo_LG_step 8 = .ok (.if_icmp .le 13, 3) := by decide +kernel
theorem zd_LG_step_11 : decode zo_LG_step 11 = .ok (.new 45, 3) := by decide +kernel
theorem zd_LG_step_14 : decode zo_LG_step 14 = .ok (.dup, 1) := by decide +kernel
theorem zd_LG_step_15 : decode zo_LG_step 15 = .ok (.ldc 96, 2) := by decide +kernel
theorem zd_LG_step_17 : decode zo_LG_step 17 = .ok (.invokespecial 49, 3) := by decide +kernel
theorem zd_LG_step_20 : decode zo_LG_step 20 = .ok (.athrow, 1) := by decide +kernel
theorem zd_LG_step_21 : decode zo_LG_step 21 = .ok (.iconst 0, 1) := by decide +kernel
theorem zd_LG_step_22 : decode zo_LG_step 22 = .ok (.istore_n 2, 1) := by decide +kernel
theorem zd_LG_step_23 : decode zo_LG_step 23 = .ok (.iload_n 2, 1) := by decide +kernel
theorem zd_LG_step_24 : decode zo_LG_step 24 = .ok (.iload_n 1, 1) := by decide +kernel
theorem zd_LG_step_25 : decode zo_LG_step 25 = .ok (.if_icmp .ge 65, 3) := by decide +kernel
theorem zd_LG_step_28 : decode zo_LG_step 28 = .ok (.aload_n 0, 1) := by decide +kernel
theorem zd_LG_step_29 : decode zo_LG_step 29 = .ok (.dup, 1) := by decide +kernel
theorem zd_LG_step_30 : decode zo_LG_step 30 = .ok (.getfield 80, 3) := by decide +kernel
theorem zd_LG_step_33 : decode zo_LG_step 33 = .ok (.iconst 1, 1) := by decide +kernel
theorem zd_LG_step_34 : decode zo_LG_step 34 = .ok (.iadd, 1) := by decide +kernel
theorem zd_LG_step_35 : decode zo_LG_step 35 = .ok (.putfield 80, 3) := by decide +kernel
theorem zd_LG_step_38 : decode zo_LG_step 38 = .ok (.iconst 0, 1) := by decide +kernel
theorem zd_LG_step_39 : decode zo_LG_step 39 = .ok (.istore_n 3, 1) := by decide +kernel
theorem zd_LG_step_40 : decode zo_LG_step 40 = .ok (.iload_n 3, 1) := by decide +kernel
theorem zd_LG_step_41 : decode zo_LG_step 41 = .ok (.aload_n 0, 1) := by decide +kernel
theorem zd_LG_step_42 : decode zo_LG_step 42 = .ok (.getfield 98, 3) := by decide +kernel
theorem zd_LG_step_45 : decode zo_LG_step 45 = .ok (.if_icmp .ge 39, 3) := by decide +kernel
theorem zd_LG_step_48 : decode zo_LG_step 48 = .ok (.aload_n 0, 1) := by decide +kernel
theorem zd_LG_step_49 : decode zo_LG_step 49 = .ok (.getfield 18, 3) := by decide +kernel
theorem zd_LG_step_52 : decode zo_LG_step 52 = .ok (.iload_n 3, 1) := by decide +kernel
theorem zd_LG_step_53 : decode zo_LG_step 53 = .ok (.aaload, 1) := by decide +kernel
theorem zd_LG_step_54 : decode zo_LG_step 54 = .ok (.getfield 101, 3) := by decide +kernel
theorem zd_LG_step_57 : decode zo_LG_step 57 = .ok (.ifCond .ne 21, 3) := by decide +kernel
theorem zd_LG_step_60 : decode zo_LG_step 60 = .ok (.aload_n 0, 1) := by decide +kernel
theorem zd_LG_step_61 : decode zo_LG_step 61 = .ok (.getfield 18, 3) := by decide +kernel
theorem zd_LG_step_64 : decode zo_LG_step 64 = .ok (.iload_n 3, 1) := by decide +kernel
theorem zd_LG_step_65 : decode zo_LG_step 65 = .ok (.aaload, 1) := by decide +kernel
theorem zd_LG_step_66 : decode zo_LG_step 66 = .ok (.aload_n 0, 1) := by decide +kernel
theorem zd_LG_step_67 : decode zo_LG_step 67 = .ok (.getfield 10, 3) := by decide +kernel
theorem zd_LG_step_70 : decode zo_LG_step 70 = .ok (.invokevirtual 105, 3) := by decide +kernel
theorem zd_LG_step_73 : decode zo_LG_step 73 = .ok (.aload_n 0, 1) := by decide +kernel
theorem zd_LG_step_74 : decode zo_LG_step 74 = .ok (.iload_n 3, 1) := by decide +kernel
theorem zd_LG_step_75 : decode zo_LG_step 75 = .ok (.invokevirtual 109, 3) := by decide +kernel
theorem zd_LG_step_78 : decode zo_LG_step 78 = .ok (.iinc 3 1, 3) := by decide +kernel
theorem zd_LG_step_81 : decode zo_LG_step 81 = .ok (.goto (-41), 3) := by decide +kernel
theorem zd_LG_step_84 : decode zo_LG_step 84 = .ok (.iinc 2 1, 3) := by decide +kernel
theorem zd_LG_step_87 : decode zo_LG_step 87 = .ok (.goto (-64), 3) := by decide +kernel
theorem zd_LG_step_90 : decode zo_LG_step 90 = .ok (.return_, 1) := by decide +kernel
abbrev zo_LG_curtain : ByteArray := prog_1_method_5_code
abbrev zy_LG_curtain : MethodName := ⟨"LiftGroup", "curtain", "(IZ)V"⟩
theorem zd_LG_curtain_0 : decode zo_LG_curtain 0 = .ok (.aload_n 0, 1) := by decide +kernel
theorem zd_LG_curtain_1 : decode zo_LG_curtain 1 = .ok (.iload_n 1, 1) := by decide +kernel
theorem zd_LG_curtain_2 : decode zo_LG_curtain 2 = .ok (.invokevirtual 112, 3) := by decide +kernel
theorem zd_LG_curtain_5 : decode zo_LG_curtain 5 = .ok (.iload_n 2, 1) := by decide +kernel
theorem zd_LG_curtain_6 : decode zo_LG_curtain 6 = .ok (.putfield 116, 3) := by decide +kernel
theorem zd_LG_curtain_9 : decode zo_LG_curtain 9 = .ok (.return_, 1) := by decide +kernel
abbrev zo_LG_lock : ByteArray := prog_1_method_6_code
abbrev zy_LG_lock : MethodName := ⟨"LiftGroup", "lock", "(IZ)V"⟩
theorem zd_LG_lock_0 : decode zo_LG_lock 0 = .ok (.aload_n 0, 1) := by decide +kernel
theorem zd_LG_lock_1 : decode zo_LG_lock 1 = .ok (.iload_n 1, 1) := by decide +kernel
theorem zd_LG_lock_2 : decode zo_LG_lock 2 = .ok (.invokevirtual 112, 3) := by decide +kernel
theorem zd_LG_lock_5 : decode zo_LG_lock 5 = .ok (.astore_n 3, 1) := by decide +kernel
theorem zd_LG_lock_6 : decode zo_LG_lock 6 = .ok (.aload_n 3, 1) := by decide +kernel
theorem zd_LG_lock_7 : decode zo_LG_lock 7 = .ok (.getfield 119, 3) := by decide +kernel
theorem zd_LG_lock_10 : decode zo_LG_lock 10 = .ok (.iload_n 2, 1) := by decide +kernel
theorem zd_LG_lock_11 : decode zo_LG_lock 11 = .ok (.if_icmp .eq 29, 3) := by decide +kernel
theorem zd_LG_lock_14 : decode zo_LG_lock 14 = .ok (.aload_n 3, 1) := by decide +kernel
theorem zd_LG_lock_15 : decode zo_LG_lock 15 = .ok (.iload_n 2, 1) := by decide +kernel
theorem zd_LG_lock_16 : decode zo_LG_lock 16 = .ok (.putfield 119, 3) := by decide +kernel
theorem zd_LG_lock_19 : decode zo_LG_lock 19 = .ok (.aload_n 0, 1) := by decide +kernel
theorem zd_LG_lock_20 : decode zo_LG_lock 20 = .ok (.iload_n 2, 1) := by decide +kernel
theorem zd_LG_lock_21 : decode zo_LG_lock 21 = .ok (.ifCond .eq 11, 3) := by decide +kernel
theorem zd_LG_lock_24 : decode zo_LG_lock 24 = .ok (.aload_n 0, 1) := by decide +kernel
theorem zd_LG_lock_25 : decode zo_LG_lock 25 = .ok (.aload_n 3, 1) := by decide +kernel
theorem zd_LG_lock_26 : decode zo_LG_lock 26 = .ok (.invokevirtual 122, 3) := by decide +kernel
theorem zd_LG_lock_29 : decode zo_LG_lock 29 = .ok (.goto 8, 3) := by decide +kernel
theorem zd_LG_lock_32 : decode zo_LG_lock 32 = .ok (.aload_n 0, 1) := by decide +kernel
theorem zd_LG_lock_33 : decode zo_LG_lock 33 = .ok (.aload_n 3, 1) := by decide +kernel
theorem zd_LG_lock_34 : decode zo_LG_lock 34 = .ok (.invokevirtual 126, 3) := by decide +kernel
theorem zd_LG_lock_37 : decode zo_LG_lock 37 = .ok (.invokevirtual 129, 3) := by decide +kernel
theorem zd_LG_lock_40 : decode zo_LG_lock 40 = .ok (.return_, 1) := by decide +kernel
abbrev zo_LG_fail : ByteArray := prog_1_method_7_code
abbrev zy_LG_fail : MethodName := ⟨"LiftGroup", "fail", "(IZ)V"⟩
theorem zd_LG_fail_0 : decode zo_LG_fail 0 = .ok (.aload_n 0, 1) := by decide +kernel
theorem zd_LG_fail_1 : decode zo_LG_fail 1 = .ok (.iload_n 1, 1) := by decide +kernel
theorem zd_LG_fail_2 : decode zo_LG_fail 2 = .ok (.invokevirtual 112, 3) := by decide +kernel
theorem zd_LG_fail_5 : decode zo_LG_fail 5 = .ok (.astore_n 3, 1) := by decide +kernel
theorem zd_LG_fail_6 : decode zo_LG_fail 6 = .ok (.aload_n 3, 1) := by decide +kernel
theorem zd_LG_fail_7 : decode zo_LG_fail 7 = .ok (.getfield 101, 3) := by decide +kernel
theorem zd_LG_fail_10 : decode zo_LG_fail 10 = .ok (.iload_n 2, 1) := by decide +kernel
theorem zd_LG_fail_11 : decode zo_LG_fail 11 = .ok (.if_icmp .eq 29, 3) := by decide +kernel
theorem zd_LG_fail_14 : decode zo_LG_fail 14 = .ok (.aload_n 3, 1) := by decide +kernel
theorem zd_LG_fail_15 : decode zo_LG_fail 15 = .ok (.iload_n 2, 1) := by decide +kernel
theorem zd_LG_fail_16 : decode zo_LG_fail 16 = .ok (.putfield 101, 3) := by decide +kernel
theorem zd_LG_fail_19 : decode zo_LG_fail 19 = .ok (.aload_n 0, 1) := by decide +kernel
theorem zd_LG_fail_20 : decode zo_LG_fail 20 = .ok (.iload_n 2, 1) := by decide +kernel
theorem zd_LG_fail_21 : decode zo_LG_fail 21 = .ok (.ifCond .eq 11, 3) := by decide +kernel
theorem zd_LG_fail_24 : decode zo_LG_fail 24 = .ok (.aload_n 0, 1) := by decide +kernel
theorem zd_LG_fail_25 : decode zo_LG_fail 25 = .ok (.aload_n 3, 1) := by decide +kernel
theorem zd_LG_fail_26 : decode zo_LG_fail 26 = .ok (.invokevirtual 122, 3) := by decide +kernel
theorem zd_LG_fail_29 : decode zo_LG_fail 29 = .ok (.goto 8, 3) := by decide +kernel
theorem zd_LG_fail_32 : decode zo_LG_fail 32 = .ok (.aload_n 0, 1) := by decide +kernel
theorem zd_LG_fail_33 : decode zo_LG_fail 33 = .ok (.aload_n 3, 1) := by decide +kernel
theorem zd_LG_fail_34 : decode zo_LG_fail 34 = .ok (.invokevirtual 126, 3) := by decide +kernel
theorem zd_LG_fail_37 : decode zo_LG_fail 37 = .ok (.invokevirtual 129, 3) := by decide +kernel
theorem zd_LG_fail_40 : decode zo_LG_fail 40 = .ok (.return_, 1) := by decide +kernel
abbrev zo_LG_car : ByteArray := prog_1_method_9_code
abbrev zy_LG_car : MethodName := ⟨"LiftGroup", "car", "(II)I"⟩
theorem zd_LG_car_0 : decode zo_LG_car 0 = .ok (.aload_n 0, 1) := by decide +kernel
theorem zd_LG_car_1 : decode zo_LG_car 1 = .ok (.iload_n 1, 1) := by decide +kernel
theorem zd_LG_car_2 : decode zo_LG_car 2 = .ok (.invokevirtual 112, 3) := by decide +kernel
theorem zd_LG_car_5 : decode zo_LG_car 5 = .ok (.astore_n 3, 1) := by decide +kernel
theorem zd_LG_car_6 : decode zo_LG_car 6 = .ok (.iload_n 2, 1) := by decide +kernel
theorem zd_LG_car_7 : decode zo_LG_car 7 = .ok (.tableswitch 104 0 5 #[37, 42, 47, 52, 57, 65], 37) := by decide +kernel
theorem zd_LG_car_44 : decode zo_LG_car 44 = .ok (.aload_n 3, 1) := by decide +kernel
theorem zd_LG_car_45 : decode zo_LG_car 45 = .ok (.getfield 142, 3) := by decide +kernel
theorem zd_LG_car_48 : decode zo_LG_car 48 = .ok (.ireturn, 1) := by decide +kernel
theorem zd_LG_car_49 : decode zo_LG_car 49 = .ok (.aload_n 3, 1) := by decide +kernel
theorem zd_LG_car_50 : decode zo_LG_car 50 = .ok (.getfield 145, 3) := by decide +kernel
theorem zd_LG_car_53 : decode zo_LG_car 53 = .ok (.ireturn, 1) := by decide +kernel
theorem zd_LG_car_54 : decode zo_LG_car 54 = .ok (.aload_n 3, 1) := by decide +kernel
theorem zd_LG_car_55 : decode zo_LG_car 55 = .ok (.getfield 148, 3) := by decide +kernel
theorem zd_LG_car_58 : decode zo_LG_car 58 = .ok (.ireturn, 1) := by decide +kernel
theorem zd_LG_car_59 : decode zo_LG_car 59 = .ok (.aload_n 3, 1) := by decide +kernel
theorem zd_LG_car_60 : decode zo_LG_car 60 = .ok (.getfield 151, 3) := by decide +kernel
theorem zd_LG_car_63 : decode zo_LG_car 63 = .ok (.ireturn, 1) := by decide +kernel
theorem zd_LG_car_64 : decode zo_LG_car 64 = .ok (.aload_n 3, 1) := by decide +kernel
theorem zd_LG_car_65 : decode zo_LG_car 65 = .ok (.getfield 154, 3) := by decide +kernel
theorem zd_LG_car_68 : decode zo_LG_car 68 = .ok (.invokestatic 157, 3) := by decide +kernel
theorem zd_LG_car_71 : decode zo_LG_car 71 = .ok (.ireturn, 1) := by decide +kernel
theorem zd_LG_car_72 : decode zo_LG_car 72 = .ok (.aload_n 3, 1) := by decide +kernel
theorem zd_LG_car_73 : decode zo_LG_car 73 = .ok (.getfield 119, 3) := by decide +kernel
theorem zd_LG_car_76 : decode zo_LG_car 76 = .ok (.ifCond .eq 7, 3) := by decide +kernel
theorem zd_LG_car_79 : decode zo_LG_car 79 = .ok (.iconst 1, 1) := by decide +kernel
theorem zd_LG_car_80 : decode zo_LG_car 80 = .ok (.goto 4, 3) := by decide +kernel
theorem zd_LG_car_83 : decode zo_LG_car 83 = .ok (.iconst 0, 1) := by decide +kernel
theorem zd_LG_car_84 : decode zo_LG_car 84 = .ok (.aload_n 3, 1) := by decide +kernel
theorem zd_LG_car_85 : decode zo_LG_car 85 = .ok (.getfield 101, 3) := by decide +kernel
theorem zd_LG_car_88 : decode zo_LG_car 88 = .ok (.ifCond .eq 7, 3) := by decide +kernel
theorem zd_LG_car_91 : decode zo_LG_car 91 = .ok (.iconst 2, 1) := by decide +kernel
theorem zd_LG_car_92 : decode zo_LG_car 92 = .ok (.goto 4, 3) := by decide +kernel
theorem zd_LG_car_95 : decode zo_LG_car 95 = .ok (.iconst 0, 1) := by decide +kernel
theorem zd_LG_car_96 : decode zo_LG_car 96 = .ok (.iadd, 1) := by decide +kernel
theorem zd_LG_car_97 : decode zo_LG_car 97 = .ok (.aload_n 3, 1) := by decide +kernel
theorem zd_LG_car_98 : decode zo_LG_car 98 = .ok (.getfield 116, 3) := by decide +kernel
theorem zd_LG_car_101 : decode zo_LG_car 101 = .ok (.ifCond .eq 7, 3) := by decide +kernel
theorem zd_LG_car_104 : decode zo_LG_car 104 = .ok (.iconst 4, 1) := by decide +kernel
theorem zd_LG_car_105 : decode zo_LG_car 105 = .ok (.goto 4, 3) := by decide +kernel
theorem zd_LG_car_108 : decode zo_LG_car 108 = .ok (.iconst 0, 1) := by decide +kernel
theorem zd_LG_car_109 : decode zo_LG_car 109 = .ok (.iadd, 1) := by decide +kernel
theorem zd_LG_car_110 : decode zo_LG_car 110 = .ok (.ireturn, 1) := by decide +kernel
theorem zd_LG_car_111 : decode zo_LG_car 111 = .ok (.new 45, 3) := by decide +kernel
theorem zd_LG_car_114 : decode zo_LG_car 114 = .ok (.dup, 1) := by decide +kernel
theorem zd_LG_car_115 : decode zo_LG_car 115 = .ok (.ldc 163, 2) := by decide +kernel
theorem zd_LG_car_117 : decode zo_LG_car 117 = .ok (.invokespecial 49, 3) := by decide +kernel
theorem zd_LG_car_120 : decode zo_LG_car 120 = .ok (.athrow, 1) := by decide +kernel
abbrev zo_LG_stop : ByteArray := prog_1_method_10_code
abbrev zy_LG_stop : MethodName := ⟨"LiftGroup", "stop", "(II)Z"⟩
theorem zd_LG_stop_0 : decode zo_LG_stop 0 = .ok (.aload_n 0, 1) := by decide +kernel
theorem zd_LG_stop_1 : decode zo_LG_stop 1 = .ok (.iload_n 1, 1) := by decide +kernel
theorem zd_LG_stop_2 : decode zo_LG_stop 2 = .ok (.invokevirtual 112, 3) := by decide +kernel
theorem zd_LG_stop_5 : decode zo_LG_stop 5 = .ok (.astore_n 3, 1) := by decide +kernel
theorem zd_LG_stop_6 : decode zo_LG_stop 6 = .ok (.aload_n 0, 1) := by decide +kernel
theorem zd_LG_stop_7 : decode zo_LG_stop 7 = .ok (.iload_n 2, 1) := by decide +kernel
theorem zd_LG_stop_8 : decode zo_LG_stop 8 = .ok (.invokevirtual 56, 3) := by decide +kernel
theorem zd_LG_stop_11 : decode zo_LG_stop 11 = .ok (.ifCond .ne 13, 3) := by decide +kernel
theorem zd_LG_stop_14 : decode zo_LG_stop 14 = .ok (.new 45, 3) := by decide +kernel
theorem zd_LG_stop_17 : decode zo_LG_stop 17 = .ok (.dup, 1) := by decide +kernel
theorem zd_LG_stop_18 : decode zo_LG_stop 18 = .ok (.ldc 165, 2) := by decide +kernel
theorem zd_LG_stop_20 : decode zo_LG_stop 20 = .ok (.invokespecial 49, 3) := by decide +kernel
theorem zd_LG_stop_23 : decode zo_LG_stop 23 = .ok (.athrow, 1) := by decide +kernel
theorem zd_LG_stop_24 : decode zo_LG_stop 24 = .ok (.aload_n 3, 1) := by decide +kernel
theorem zd_LG_stop_25 : decode zo_LG_stop 25 = .ok (.aload_n 0, 1) := by decide +kernel
theorem zd_LG_stop_26 : decode zo_LG_stop 26 = .ok (.getfield 10, 3) := by decide +kernel
theorem zd_LG_stop_29 : decode zo_LG_stop 29 = .ok (.invokevirtual 167, 3) := by decide +kernel
theorem zd_LG_stop_32 : decode zo_LG_stop 32 = .ok (.iconst 1, 1) := by decide +kernel
theorem zd_LG_stop_33 : decode zo_LG_stop 33 = .ok (.iconst 2, 1) := by decide +kernel
theorem zd_LG_stop_34 : decode zo_LG_stop 34 = .ok (.iload_n 2, 1) := by decide +kernel
theorem zd_LG_stop_35 : decode zo_LG_stop 35 = .ok (.imul, 1) := by decide +kernel
theorem zd_LG_stop_36 : decode zo_LG_stop 36 = .ok (.ishl, 1) := by decide +kernel
theorem zd_LG_stop_37 : decode zo_LG_stop 37 = .ok (.iand, 1) := by decide +kernel
theorem zd_LG_stop_38 : decode zo_LG_stop 38 = .ok (.ifCond .eq 7, 3) := by decide +kernel
theorem zd_LG_stop_41 : decode zo_LG_stop 41 = .ok (.iconst 1, 1) := by decide +kernel
theorem zd_LG_stop_42 : decode zo_LG_stop 42 = .ok (.goto 4, 3) := by decide +kernel
theorem zd_LG_stop_45 : decode zo_LG_stop 45 = .ok (.iconst 0, 1) := by decide +kernel
theorem zd_LG_stop_46 : decode zo_LG_stop 46 = .ok (.ireturn, 1) := by decide +kernel
abbrev zo_LG_worst : ByteArray := prog_1_method_11_code
abbrev zy_LG_worst : MethodName := ⟨"LiftGroup", "worst", "(I)I"⟩
theorem zd_LG_worst_0 : decode zo_LG_worst 0 = .ok (.aload_n 0, 1) := by decide +kernel
theorem zd_LG_worst_1 : decode zo_LG_worst 1 = .ok (.aload_n 0, 1) := by decide +kernel
theorem zd_LG_worst_2 : decode zo_LG_worst 2 = .ok (.iload_n 1, 1) := by decide +kernel
theorem zd_LG_worst_3 : decode zo_LG_worst 3 = .ok (.invokevirtual 112, 3) := by decide +kernel
theorem zd_LG_worst_6 : decode zo_LG_worst 6 = .ok (.iconst 0, 1) := by decide +kernel
theorem zd_LG_worst_7 : decode zo_LG_worst 7 = .ok (.invokevirtual 171, 3) := by decide +kernel
theorem zd_LG_worst_10 : decode zo_LG_worst 10 = .ok (.ireturn, 1) := by decide +kernel
abbrev zo_LG_rider : ByteArray := prog_1_method_12_code
abbrev zy_LG_rider : MethodName := ⟨"LiftGroup", "rider", "(II)I"⟩
theorem zd_LG_rider_0 : decode zo_LG_rider 0 = .ok (.aload_n 0, 1) := by decide +kernel
theorem zd_LG_rider_1 : decode zo_LG_rider 1 = .ok (.iload_n 1, 1) := by decide +kernel
theorem zd_LG_rider_2 : decode zo_LG_rider 2 = .ok (.invokevirtual 175, 3) := by decide +kernel
theorem zd_LG_rider_5 : decode zo_LG_rider 5 = .ok (.astore_n 3, 1) := by decide +kernel
theorem zd_LG_rider_6 : decode zo_LG_rider 6 = .ok (.iload_n 2, 1) := by decide +kernel
theorem zd_LG_rider_7 : decode zo_LG_rider 7 = .ok (.tableswitch 77 0 4 #[33, 38, 43, 48, 53], 33) := by decide +kernel
theorem zd_LG_rider_40 : decode zo_LG_rider 40 = .ok (.aload_n 3, 1) := by decide +kernel
theorem zd_LG_rider_41 : decode zo_LG_rider 41 = .ok (.getfield 179, 3) := by decide +kernel
theorem zd_LG_rider_44 : decode zo_LG_rider 44 = .ok (.ireturn, 1) := by decide +kernel
theorem zd_LG_rider_45 : decode zo_LG_rider 45 = .ok (.aload_n 3, 1) := by decide +kernel
theorem zd_LG_rider_46 : decode zo_LG_rider 46 = .ok (.getfield 93, 3) := by decide +kernel
theorem zd_LG_rider_49 : decode zo_LG_rider 49 = .ok (.ireturn, 1) := by decide +kernel
theorem zd_LG_rider_50 : decode zo_LG_rider 50 = .ok (.aload_n 3, 1) := by decide +kernel
theorem zd_LG_rider_51 : decode zo_LG_rider 51 = .ok (.getfield 182, 3) := by decide +kernel
theorem zd_LG_rider_54 : decode zo_LG_rider 54 = .ok (.ireturn, 1) := by decide +kernel
theorem zd_LG_rider_55 : decode zo_LG_rider 55 = .ok (.aload_n 3, 1) := by decide +kernel
theorem zd_LG_rider_56 : decode zo_LG_rider 56 = .ok (.getfield 185, 3) := by decide +kernel
theorem zd_LG_rider_59 : decode zo_LG_rider 59 = .ok (.ireturn, 1) := by decide +kernel
theorem zd_LG_rider_60 : decode zo_LG_rider 60 = .ok (.aload_n 3, 1) := by decide +kernel
theorem zd_LG_rider_61 : decode zo_LG_rider 61 = .ok (.invokevirtual 188, 3) := by decide +kernel
theorem zd_LG_rider_64 : decode zo_LG_rider 64 = .ok (.ifCond .eq 10, 3) := by decide +kernel
theorem zd_LG_rider_67 : decode zo_LG_rider 67 = .ok (.aload_n 3, 1) := by decide +kernel
theorem zd_LG_rider_68 : decode zo_LG_rider 68 = .ok (.getfield 191, 3) := by decide +kernel
theorem zd_LG_rider_71 : decode zo_LG_rider 71 = .ok (.goto 12, 3) := by decide +kernel
theorem zd_LG_rider_74 : decode zo_LG_rider 74 = .ok (.aload_n 0, 1) := by decide +kernel
theorem zd_LG_rider_75 : decode zo_LG_rider 75 = .ok (.getfield 80, 3) := by decide +kernel
theorem zd_LG_rider_78 : decode zo_LG_rider 78 = .ok (.aload_n 3, 1) := by decide +kernel
theorem zd_LG_rider_79 : decode zo_LG_rider 79 = .ok (.getfield 194, 3) := by decide +kernel
theorem zd_LG_rider_82 : decode zo_LG_rider 82 = .ok (.isub, 1) := by decide +kernel
theorem zd_LG_rider_83 : decode zo_LG_rider 83 = .ok (.ireturn, 1) := by decide +kernel
theorem zd_LG_rider_84 : decode zo_LG_rider 84 = .ok (.new 45, 3) := by decide +kernel
theorem zd_LG_rider_87 : decode zo_LG_rider 87 = .ok (.dup, 1) := by decide +kernel
theorem zd_LG_rider_88 : decode zo_LG_rider 88 = .ok (.ldc 197, 2) := by decide +kernel
theorem zd_LG_rider_90 : decode zo_LG_rider 90 = .ok (.invokespecial 49, 3) := by decide +kernel
theorem zd_LG_rider_93 : decode zo_LG_rider 93 = .ok (.athrow, 1) := by decide +kernel
abbrev zo_LG_promise : ByteArray := prog_1_method_13_code
abbrev zy_LG_promise : MethodName := ⟨"LiftGroup", "promise", "(I)I"⟩
theorem zd_LG_promise_0 : decode zo_LG_promise 0 = .ok (.aload_n 0, 1) := by decide +kernel
theorem zd_LG_promise_1 : decode zo_LG_promise 1 = .ok (.iload_n 1, 1) := by decide +kernel
theorem zd_LG_promise_2 : decode zo_LG_promise 2 = .ok (.invokevirtual 175, 3) := by decide +kernel
theorem zd_LG_promise_5 : decode zo_LG_promise 5 = .ok (.astore_n 2, 1) := by decide +kernel
theorem zd_LG_promise_6 : decode zo_LG_promise 6 = .ok (.aload_n 2, 1) := by decide +kernel
theorem zd_LG_promise_7 : decode zo_LG_promise 7 = .ok (.invokevirtual 188, 3) := by decide +kernel
theorem zd_LG_promise_10 : decode zo_LG_promise 10 = .ok (.ifCond .ne 26, 3) := by decide +kernel
theorem zd_LG_promise_13 : decode zo_LG_promise 13 = .ok (.aload_n 2, 1) := by decide +kernel
theorem zd_LG_promise_14 : decode zo_LG_promise 14 = .ok (.getfield 93, 3) := by decide +kernel
theorem zd_LG_promise_17 : decode zo_LG_promise 17 = .ok (.iconst (-1), 1) := by decide +kernel
theorem zd_LG_promise_18 : decode zo_LG_promise 18 = .ok (.if_icmp .eq 18, 3) := by decide +kernel
theorem zd_LG_promise_21 : decode zo_LG_promise 21 = .ok (.aload_n 0, 1) := by decide +kernel
theorem zd_LG_promise_22 : decode zo_LG_promise 22 = .ok (.getfield 18, 3) := by decide +kernel
theorem zd_LG_promise_25 : decode zo_LG_promise 25 = .ok (.aload_n 2, 1) := by decide +kernel
theorem zd_LG_promise_26 : decode zo_LG_promise 26 = .ok (.getfield 93, 3) := by decide +kernel
theorem zd_LG_promise_29 : decode zo_LG_promise 29 = .ok (.aaload, 1) := by decide +kernel
theorem zd_LG_promise_30 : decode zo_LG_promise 30 = .ok (.getfield 101, 3) := by decide +kernel
theorem zd_LG_promise_33 : decode zo_LG_promise 33 = .ok (.ifCond .eq 5, 3) := by decide +kernel
theorem zd_LG_promise_36 : decode zo_LG_promise 36 = .ok (.iconst (-1), 1) := by decide +kernel
theorem zd_LG_promise_37 : decode zo_LG_promise 37 = .ok (.ireturn, 1) := by decide +kernel
theorem zd_LG_promise_38 : decode zo_LG_promise 38 = .ok (.aload_n 0, 1) := by decide +kernel
theorem zd_LG_promise_39 : decode zo_LG_promise 39 = .ok (.getfield 23, 3) := by decide +kernel
theorem zd_LG_promise_42 : decode zo_LG_promise 42 = .ok (.aload_n 0, 1) := by decide +kernel
theorem zd_LG_promise_43 : decode zo_LG_promise 43 = .ok (.getfield 18, 3) := by decide +kernel
theorem zd_LG_promise_46 : decode zo_LG_promise 46 = .ok (.aload_n 2, 1) := by decide +kernel
theorem zd_LG_promise_47 : decode zo_LG_promise 47 = .ok (.getfield 93, 3) := by decide +kernel
theorem zd_LG_promise_50 : decode zo_LG_promise 50 = .ok (.aaload, 1) := by decide +kernel
theorem zd_LG_promise_51 : decode zo_LG_promise 51 = .ok (.invokevirtual 199, 3) := by decide +kernel
theorem zd_LG_promise_54 : decode zo_LG_promise 54 = .ok (.iconst 1, 1) := by decide +kernel
theorem zd_LG_promise_55 : decode zo_LG_promise 55 = .ok (.iload_n 1, 1) := by decide +kernel
theorem zd_LG_promise_56 : decode zo_LG_promise 56 = .ok (.ishl, 1) := by decide +kernel
theorem zd_LG_promise_57 : decode zo_LG_promise 57 = .ok (.istore_n 3, 1) := by decide +kernel
theorem zd_LG_promise_58 : decode zo_LG_promise 58 = .ok (.iconst 1, 1) := by decide +kernel
theorem zd_LG_promise_59 : decode zo_LG_promise 59 = .ok (.istore 4, 2) := by decide +kernel
theorem zd_LG_promise_61 : decode zo_LG_promise 61 = .ok (.iload 4, 2) := by decide +kernel
theorem zd_LG_promise_63 : decode zo_LG_promise 63 = .ok (.sipush 1000, 3) := by decide +kernel
theorem zd_LG_promise_66 : decode zo_LG_promise 66 = .ok (.if_icmp .gt 49, 3) := by decide +kernel
theorem zd_LG_promise_69 : decode zo_LG_promise 69 = .ok (.aload_n 0, 1) := by decide +kernel
theorem zd_LG_promise_70 : decode zo_LG_promise 70 = .ok (.getfield 23, 3) := by decide +kernel
theorem zd_LG_promise_73 : decode zo_LG_promise 73 = .ok (.aload_n 0, 1) := by decide +kernel
theorem zd_LG_promise_74 : decode zo_LG_promise 74 = .ok (.getfield 10, 3) := by decide +kernel
theorem zd_LG_promise_77 : decode zo_LG_promise 77 = .ok (.invokevirtual 105, 3) := by decide +kernel
theorem zd_LG_promise_80 : decode zo_LG_promise 80 = .ok (.aload_n 0, 1) := by decide +kernel
theorem zd_LG_promise_81 : decode zo_LG_promise 81 = .ok (.getfield 23, 3) := by decide +kernel
theorem zd_LG_promise_84 : decode zo_LG_promise 84 = .ok (.getfield 203, 3) := by decide +kernel
theorem zd_LG_promise_87 : decode zo_LG_promise 87 = .ok (.iload_n 3, 1) := by decide +kernel
theorem zd_LG_promise_88 : decode zo_LG_promise 88 = .ok (.iand, 1) := by decide +kernel
theorem zd_LG_promise_89 : decode zo_LG_promise 89 = .ok (.ifCond .eq 6, 3) := by decide +kernel
theorem zd_LG_promise_92 : decode zo_LG_promise 92 = .ok (.iload 4, 2) := by decide +kernel
theorem zd_LG_promise_94 : decode zo_LG_promise 94 = .ok (.ireturn, 1) := by decide +kernel
theorem zd_LG_promise_95 : decode zo_LG_promise 95 = .ok (.aload_n 0, 1) := by decide +kernel
theorem zd_LG_promise_96 : decode zo_LG_promise 96 = .ok (.getfield 23, 3) := by decide +kernel
theorem zd_LG_promise_99 : decode zo_LG_promise 99 = .ok (.getfield 206, 3) := by decide +kernel
theorem zd_LG_promise_102 : decode zo_LG_promise 102 = .ok (.iload_n 3, 1) := by decide +kernel
theorem zd_LG_promise_103 : decode zo_LG_promise 103 = .ok (.iand, 1) := by decide +kernel
theorem zd_LG_promise_104 : decode zo_LG_promise 104 = .ok (.ifCond .eq 5, 3) := by decide +kernel
theorem zd_LG_promise_107 : decode zo_LG_promise 107 = .ok (.iconst (-1), 1) := by decide +kernel
theorem zd_LG_promise_108 : decode zo_LG_promise 108 = .ok (.ireturn, 1) := by decide +kernel
theorem zd_LG_promise_109 : decode zo_LG_promise 109 = .ok (.iinc 4 1, 3) := by decide +kernel
theorem zd_LG_promise_112 : decode zo_LG_promise 112 = .ok (.goto (-51), 3) := by decide +kernel
theorem zd_LG_promise_115 : decode zo_LG_promise 115 = .ok (.iconst (-1), 1) := by decide +kernel
theorem zd_LG_promise_116 : decode zo_LG_promise 116 = .ok (.ireturn, 1) := by decide +kernel
abbrev zo_LG_event : ByteArray := prog_1_method_14_code
abbrev zy_LG_event : MethodName := ⟨"LiftGroup", "event", "(II)I"⟩
theorem zd_LG_event_0 : decode zo_LG_event 0 = .ok (.iload_n 1, 1) := by decide +kernel
theorem zd_LG_event_1 : decode zo_LG_event 1 = .ok (.ifCond .lt 14, 3) := by decide +kernel
theorem zd_LG_event_4 : decode zo_LG_event 4 = .ok (.iload_n 1, 1) := by decide +kernel
theorem zd_LG_event_5 : decode zo_LG_event 5 = .ok (.aload_n 0, 1) := by decide +kernel
theorem zd_LG_event_6 : decode zo_LG_event 6 = .ok (.getfield 37, 3) := by decide +kernel
theorem zd_LG_event_9 : decode zo_LG_event 9 = .ok (.invokevirtual 209, 3) := by decide +kernel
theorem zd_LG_event_12 : decode zo_LG_event 12 = .ok (.if_icmp .lt 13, 3) := by decide +kernel
theorem zd_LG_event_15 : decode zo_LG_event 15 = .ok (.new 212, 3) := by decide +kernel
theorem zd_LG_event_18 : decode zo_LG_event 18 = .ok (.dup, 1) := by decide +kernel
theorem zd_LG_event_19 : decode zo_LG_event 19 = .ok (.ldc 214, 2) := by decide +kernel
theorem zd_LG_event_21 : decode zo_LG_event 21 = .ok (.invokespecial 216, 3) := by decide +kernel
theorem zd_LG_event_24 : decode zo_LG_event 24 = .ok (.athrow, 1) := by decide +kernel
theorem zd_LG_event_25 : decode zo_LG_event 25 = .ok (.aload_n 0, 1) := by decide +kernel
theorem zd_LG_event_26 : decode zo_LG_event 26 = .ok (.getfield 37, 3) := by decide +kernel
theorem zd_LG_event_29 : decode zo_LG_event 29 = .ok (.iload_n 1, 1) := by decide +kernel
theorem zd_LG_event_30 : decode zo_LG_event 30 = .ok (.invokevirtual 217, 3) := by decide +kernel
theorem zd_LG_event_33 : decode zo_LG_event 33 = .ok (.istore_n 3, 1) := by decide +kernel
theorem zd_LG_event_34 : decode zo_LG_event 34 = .ok (.iload_n 2, 1) := by decide +kernel
theorem zd_LG_event_35 : decode zo_LG_event 35 = .ok (.tableswitch 69 0 3 #[29, 39, 49, 59], 29) := by decide +kernel
theorem zd_LG_event_64 : decode zo_LG_event 64 = .ok (.aload_n 0, 1) := by decide +kernel
theorem zd_LG_event_65 : decode zo_LG_event 65 = .ok (.getfield 37, 3) := by decide +kernel
theorem zd_LG_event_68 : decode zo_LG_event 68 = .ok (.getfield 220, 3) := by decide +kernel
theorem zd_LG_event_71 : decode zo_LG_event 71 = .ok (.iload_n 3, 1) := by decide +kernel
theorem zd_LG_event_72 : decode zo_LG_event 72 = .ok (.iaload, 1) := by decide +kernel
theorem zd_LG_event_73 : decode zo_LG_event 73 = .ok (.ireturn, 1) := by decide +kernel
theorem zd_LG_event_74 : decode zo_LG_event 74 = .ok (.aload_n 0, 1) := by decide +kernel
theorem zd_LG_event_75 : decode zo_LG_event 75 = .ok (.getfield 37, 3) := by decide +kernel
theorem zd_LG_event_78 : decode zo_LG_event 78 = .ok (.getfield 224, 3) := by decide +kernel
theorem zd_LG_event_81 : decode zo_LG_event 81 = .ok (.iload_n 3, 1) := by decide +kernel
theorem zd_LG_event_82 : decode zo_LG_event 82 = .ok (.iaload, 1) := by decide +kernel
theorem zd_LG_event_83 : decode zo_LG_event 83 = .ok (.ireturn, 1) := by decide +kernel
theorem zd_LG_event_84 : decode zo_LG_event 84 = .ok (.aload_n 0, 1) := by decide +kernel
theorem zd_LG_event_85 : decode zo_LG_event 85 = .ok (.getfield 37, 3) := by decide +kernel
theorem zd_LG_event_88 : decode zo_LG_event 88 = .ok (.getfield 227, 3) := by decide +kernel
theorem zd_LG_event_91 : decode zo_LG_event 91 = .ok (.iload_n 3, 1) := by decide +kernel
theorem zd_LG_event_92 : decode zo_LG_event 92 = .ok (.iaload, 1) := by decide +kernel
theorem zd_LG_event_93 : decode zo_LG_event 93 = .ok (.ireturn, 1) := by decide +kernel
theorem zd_LG_event_94 : decode zo_LG_event 94 = .ok (.aload_n 0, 1) := by decide +kernel
theorem zd_LG_event_95 : decode zo_LG_event 95 = .ok (.getfield 37, 3) := by decide +kernel
theorem zd_LG_event_98 : decode zo_LG_event 98 = .ok (.getfield 230, 3) := by decide +kernel
theorem zd_LG_event_101 : decode zo_LG_event 101 = .ok (.iload_n 3, 1) := by decide +kernel
theorem zd_LG_event_102 : decode zo_LG_event 102 = .ok (.iaload, 1) := by decide +kernel
theorem zd_LG_event_103 : decode zo_LG_event 103 = .ok (.ireturn, 1) := by decide +kernel
theorem zd_LG_event_104 : decode zo_LG_event 104 = .ok (.new 45, 3) := by decide +kernel
theorem zd_LG_event_107 : decode zo_LG_event 107 = .ok (.dup, 1) := by decide +kernel
theorem zd_LG_event_108 : decode zo_LG_event 108 = .ok (.ldc 233, 2) := by decide +kernel
theorem zd_LG_event_110 : decode zo_LG_event 110 = .ok (.invokespecial 49, 3) := by decide +kernel
theorem zd_LG_event_113 : decode zo_LG_event 113 = .ok (.athrow, 1) := by decide +kernel
section ZC10
variable {p : Program} {l : Launch} {e : Env} {s : State} {m : MethodId} {args : Array Value} {below : List Frame} {meth : Method} {c : Code} {E : zE} {A : Nat → Prop}
abbrev zrm_LG_carNumbered : Room := { frames := 0, cells := 0, slots := 0, locals := 0 }
def zf_LG_carNumbered_12 (N : Nat)   (st : zS) : Option (Nat × Nat × zS) := some (4, 0, st)
set_option maxHeartbeats 4000000 in
theorem zl_LG_carNumbered_12 (F : zw_X p m c zo_LG_carNumbered 2 s args zR0 E 10 A meth (some (.object "LiftGroup$Car"))) {N : Nat} {rv : Nat} {rst : zS}    (st : zS)  (h : zf_LG_carNumbered_12 N   st = some (0, rv, rst)) : zw_G p l e zrm_LG_carNumbered s m args below meth c (MQ below (zw_Q E (some (.ref rv)) rst A) args s 0 0 A) E A 2 0 12 [none, none] [] st := by
  unfold zf_LG_carNumbered_12 at h
  cases h
def zf_LG_carNumbered (N : Nat) (a1 : Int32) (st : zS) : Option (Nat × Nat × zS) := (if a1 < 0 then zf_LG_carNumbered_12 N st else (if a1 < (st 0 5) then (if a1 < 0 ∨ 4 ≤ a1.toNatClampNeg then none else some (0, (5 + a1.toNatClampNeg), st)) else zf_LG_carNumbered_12 N st))
set_option maxHeartbeats 4000000 in
theorem zl_LG_carNumbered_0 (F : zw_X p m c zo_LG_carNumbered 2 s args zR0 E 10 A meth (some (.object "LiftGroup$Car"))) {N : Nat} {rv : Nat} {rst : zS} (a1 : Int32) (st : zS)  (h : zf_LG_carNumbered N a1 st = some (0, rv, rst)) : zw_G p l e zrm_LG_carNumbered s m args below meth c (MQ below (zw_Q E (some (.ref rv)) rst A) args s 0 0 A) E A 2 0 0 [some (.ref 0), some (.int a1)] [] st := by
  unfold zf_LG_carNumbered at h
  refine zg_iload_n F.1 zd_LG_carNumbered_0 rfl rfl ?_
  refine zg_if_lt F.1 12 zd_LG_carNumbered_1 rfl (fun hc => ?_) (fun hc => ?_)
  · rw [if_pos hc] at h
    exact zg_le (zw_len (zw_len zw_le0)) (zl_LG_carNumbered_12 F st h)
  · rw [if_neg hc] at h
    refine zg_iload_n F.1 zd_LG_carNumbered_4 rfl rfl ?_
    refine zg_aload_n F.1 zd_LG_carNumbered_5 rfl rfl ?_
    refine zg_getI0 F.1 (by decide) rfl 5 (by decide) (st 0 5) rfl rfl zwf_LG_98 zd_LG_carNumbered_6 ?_
    refine zg_icmp_lt F.1 23 zd_LG_carNumbered_9 rfl (fun hc => ?_) (fun hc => ?_)
    · rw [if_pos hc] at h
      refine zg_aload_n F.1 zd_LG_carNumbered_23 rfl rfl ?_
      refine zg_getR0 F.1 (by decide) rfl 1 (by decide) 4 rfl zwf_LG_18 zd_LG_carNumbered_24 ?_
      refine zg_iload_n F.1 zd_LG_carNumbered_27 rfl rfl ?_
      by_cases hi28 : a1 < 0 ∨ 4 ≤ a1.toNatClampNeg
      case pos => rw [if_pos hi28] at h; cases h
      rw [if_neg hi28] at h
      refine zg_ald6 F.1 (by decide) rfl hi28 a1.toNatClampNeg rfl zd_LG_carNumbered_28 ?_
      cases h
      exact zg_aret F rfl zd_LG_carNumbered_29
    · rw [if_neg hc] at h
      exact zg_le (zw_len (zw_len zw_le0)) (zl_LG_carNumbered_12 F st h)
theorem zk_LG_carNumbered {E : zE} (hn : zw_n E 10) (N : Nat) (a1 : Int32) (st : zS)  {rv : Nat} {rst : zS} (h : zf_LG_carNumbered N a1 st = some (0, rv, rst)) : zw_M l zy_LG_carNumbered (Cond.code zy_LG_carNumbered zo_LG_carNumbered 2 (some (.object "LiftGroup$Car")) :: zwAll) zrm_LG_carNumbered E [.ref 0, .int a1] st (some (.ref rv)) rst :=
  zw_enter (by decide) rfl hn (Nat.le_of_ble_eq_true rfl) (by simp [Value.category]) 0 (fun p e s m args below meth c A F => zl_LG_carNumbered_0 F a1 st  h)
theorem zkd_LG_carNumbered {N : Nat} {a1 : Int32} {st : zS} {v : Nat} {t : zS} (h : zf_LG_carNumbered N a1 st = some (0, v, t)) : zw_kind v = 2 := by
  unfold zf_LG_carNumbered at h
  split at h
  · cases h
  · split at h
    · split at h
      · cases h
      · rename_i h9
        cases h
        exact zw_carI h9
    · cases h
abbrev zrx_LG_carNumbered : Room := { frames := 6, cells := 1, slots := 6, locals := 90 }
set_option maxHeartbeats 4000000 in
theorem zxl_LG_carNumbered_12 (F : zw_X p m c zo_LG_carNumbered 2 s args zR0 E 10 A meth (some (.object "LiftGroup$Car"))) (Y : zx_X zx_ss l s A c) {N : Nat} {xx : Nat} {rv : Nat} {rst : zS} (hxx : ¬ xx = 0)    (st : zS)  (h : zf_LG_carNumbered_12 N   st = some (xx, rv, rst)) : zw_G p l e zrx_LG_carNumbered s m args below meth c (zx_MQ below E xx rst A args s) E A 2 0 12 [none, none] [] st := by
  unfold zf_LG_carNumbered_12 at h
  cases h
  exact zx_throwW F Y 4 (is := 257) (text := "there is no such car") (by decide) rfl zxk_255 zxi_4 zxa_259 (by decide +kernel) (Nat.le_of_ble_eq_true rfl) (Nat.le_of_ble_eq_true rfl) (Nat.le_of_ble_eq_true rfl) (Nat.le_of_ble_eq_true rfl) zd_LG_carNumbered_12 zd_LG_carNumbered_15 zd_LG_carNumbered_16 zd_LG_carNumbered_19 zd_LG_carNumbered_22
set_option maxHeartbeats 4000000 in
theorem zxl_LG_carNumbered_0 (F : zw_X p m c zo_LG_carNumbered 2 s args zR0 E 10 A meth (some (.object "LiftGroup$Car"))) (Y : zx_X zx_ss l s A c) {N : Nat} {xx : Nat} {rv : Nat} {rst : zS} (hxx : ¬ xx = 0) (a1 : Int32) (st : zS)  (h : zf_LG_carNumbered N a1 st = some (xx, rv, rst)) : zw_G p l e zrx_LG_carNumbered s m args below meth c (zx_MQ below E xx rst A args s) E A 2 0 0 [some (.ref 0), some (.int a1)] [] st := by
  unfold zf_LG_carNumbered at h
  refine zg_iload_n F.1 zd_LG_carNumbered_0 rfl rfl ?_
  refine zg_if_lt F.1 12 zd_LG_carNumbered_1 rfl (fun hc => ?_) (fun hc => ?_)
  · rw [if_pos hc] at h
    exact zg_le (zw_len (zw_len zw_le0)) (zxl_LG_carNumbered_12 F Y hxx st h)
  · rw [if_neg hc] at h
    refine zg_iload_n F.1 zd_LG_carNumbered_4 rfl rfl ?_
    refine zg_aload_n F.1 zd_LG_carNumbered_5 rfl rfl ?_
    refine zg_getI0 F.1 (by decide) rfl 5 (by decide) (st 0 5) rfl rfl zwf_LG_98 zd_LG_carNumbered_6 ?_
    refine zg_icmp_lt F.1 23 zd_LG_carNumbered_9 rfl (fun hc => ?_) (fun hc => ?_)
    · rw [if_pos hc] at h
      refine zg_aload_n F.1 zd_LG_carNumbered_23 rfl rfl ?_
      refine zg_getR0 F.1 (by decide) rfl 1 (by decide) 4 rfl zwf_LG_18 zd_LG_carNumbered_24 ?_
      refine zg_iload_n F.1 zd_LG_carNumbered_27 rfl rfl ?_
      by_cases hi28 : a1 < 0 ∨ 4 ≤ a1.toNatClampNeg
      case pos => rw [if_pos hi28] at h; cases h
      rw [if_neg hi28] at h
      refine zg_ald6 F.1 (by decide) rfl hi28 a1.toNatClampNeg rfl zd_LG_carNumbered_28 ?_
      cases h
      exact absurd rfl hxx
    · rw [if_neg hc] at h
      exact zg_le (zw_len (zw_len zw_le0)) (zxl_LG_carNumbered_12 F Y hxx st h)
theorem zx_LG_carNumbered {E : zE} (hst : l.stackTraces = false) (hn : zw_n E 10) (N : Nat) (a1 : Int32) (st : zS)  {xx : Nat} {rv : Nat} {rst : zS} (hxx : ¬ xx = 0) (h : zf_LG_carNumbered N a1 st = some (xx, rv, rst)) : zx_M zx_ss l zy_LG_carNumbered (Cond.code zy_LG_carNumbered zo_LG_carNumbered 2 (some (.object "LiftGroup$Car")) :: zwAll) zrx_LG_carNumbered E [.ref 0, .int a1] st xx rst :=
  zx_enter hst (by decide) rfl hn (Nat.le_of_ble_eq_true rfl) (by simp [Value.category]) 0 (fun p e s m args below meth c A F Y => zxl_LG_carNumbered_0 F Y hxx a1 st  h)
abbrev zrm_LG_riderNumbered : Room := { frames := 0, cells := 0, slots := 0, locals := 0 }
def zf_LG_riderNumbered_12 (N : Nat)   (st : zS) : Option (Nat × Nat × zS) := some (4, 0, st)
set_option maxHeartbeats 4000000 in
theorem zl_LG_riderNumbered_12 (F : zw_X p m c zo_LG_riderNumbered 2 s args zR0 E 10 A meth (some (.object "LiftGroup$Rider"))) {N : Nat} {rv : Nat} {rst : zS}    (st : zS)  (h : zf_LG_riderNumbered_12 N   st = some (0, rv, rst)) : zw_G p l e zrm_LG_riderNumbered s m args below meth c (MQ below (zw_Q E (some (.ref rv)) rst A) args s 0 0 A) E A 2 0 12 [none, none] [] st := by
  unfold zf_LG_riderNumbered_12 at h
  cases h
def zf_LG_riderNumbered (N : Nat) (a1 : Int32) (st : zS) : Option (Nat × Nat × zS) := (if a1 < 0 then zf_LG_riderNumbered_12 N st else (if a1 < (st 0 6) then (if a1 < 0 ∨ 24 ≤ a1.toNatClampNeg then none else some (0, (11 + a1.toNatClampNeg), st)) else zf_LG_riderNumbered_12 N st))
set_option maxHeartbeats 4000000 in
theorem zl_LG_riderNumbered_0 (F : zw_X p m c zo_LG_riderNumbered 2 s args zR0 E 10 A meth (some (.object "LiftGroup$Rider"))) {N : Nat} {rv : Nat} {rst : zS} (a1 : Int32) (st : zS)  (h : zf_LG_riderNumbered N a1 st = some (0, rv, rst)) : zw_G p l e zrm_LG_riderNumbered s m args below meth c (MQ below (zw_Q E (some (.ref rv)) rst A) args s 0 0 A) E A 2 0 0 [some (.ref 0), some (.int a1)] [] st := by
  unfold zf_LG_riderNumbered at h
  refine zg_iload_n F.1 zd_LG_riderNumbered_0 rfl rfl ?_
  refine zg_if_lt F.1 12 zd_LG_riderNumbered_1 rfl (fun hc => ?_) (fun hc => ?_)
  · rw [if_pos hc] at h
    exact zg_le (zw_len (zw_len zw_le0)) (zl_LG_riderNumbered_12 F st h)
  · rw [if_neg hc] at h
    refine zg_iload_n F.1 zd_LG_riderNumbered_4 rfl rfl ?_
    refine zg_aload_n F.1 zd_LG_riderNumbered_5 rfl rfl ?_
    refine zg_getI0 F.1 (by decide) rfl 6 (by decide) (st 0 6) rfl rfl zwf_LG_71 zd_LG_riderNumbered_6 ?_
    refine zg_icmp_lt F.1 23 zd_LG_riderNumbered_9 rfl (fun hc => ?_) (fun hc => ?_)
    · rw [if_pos hc] at h
      refine zg_aload_n F.1 zd_LG_riderNumbered_23 rfl rfl ?_
      refine zg_getR0 F.1 (by decide) rfl 3 (by decide) 10 rfl zwf_LG_29 zd_LG_riderNumbered_24 ?_
      refine zg_iload_n F.1 zd_LG_riderNumbered_27 rfl rfl ?_
      by_cases hi28 : a1 < 0 ∨ 24 ≤ a1.toNatClampNeg
      case pos => rw [if_pos hi28] at h; cases h
      rw [if_neg hi28] at h
      refine zg_ald7 F.1 (by decide) rfl hi28 a1.toNatClampNeg rfl zd_LG_riderNumbered_28 ?_
      cases h
      exact zg_aret F rfl zd_LG_riderNumbered_29
    · rw [if_neg hc] at h
      exact zg_le (zw_len (zw_len zw_le0)) (zl_LG_riderNumbered_12 F st h)
theorem zk_LG_riderNumbered {E : zE} (hn : zw_n E 10) (N : Nat) (a1 : Int32) (st : zS)  {rv : Nat} {rst : zS} (h : zf_LG_riderNumbered N a1 st = some (0, rv, rst)) : zw_M l zy_LG_riderNumbered (Cond.code zy_LG_riderNumbered zo_LG_riderNumbered 2 (some (.object "LiftGroup$Rider")) :: zwAll) zrm_LG_riderNumbered E [.ref 0, .int a1] st (some (.ref rv)) rst :=
  zw_enter (by decide) rfl hn (Nat.le_of_ble_eq_true rfl) (by simp [Value.category]) 0 (fun p e s m args below meth c A F => zl_LG_riderNumbered_0 F a1 st  h)
theorem zkd_LG_riderNumbered {N : Nat} {a1 : Int32} {st : zS} {v : Nat} {t : zS} (h : zf_LG_riderNumbered N a1 st = some (0, v, t)) : zw_kind v = 3 := by
  unfold zf_LG_riderNumbered at h
  split at h
  · cases h
  · split at h
    · split at h
      · cases h
      · rename_i h9
        cases h
        exact zw_riderI h9
    · cases h
abbrev zrx_LG_riderNumbered : Room := { frames := 6, cells := 1, slots := 6, locals := 90 }
set_option maxHeartbeats 4000000 in
theorem zxl_LG_riderNumbered_12 (F : zw_X p m c zo_LG_riderNumbered 2 s args zR0 E 10 A meth (some (.object "LiftGroup$Rider"))) (Y : zx_X zx_ss l s A c) {N : Nat} {xx : Nat} {rv : Nat} {rst : zS} (hxx : ¬ xx = 0)    (st : zS)  (h : zf_LG_riderNumbered_12 N   st = some (xx, rv, rst)) : zw_G p l e zrx_LG_riderNumbered s m args below meth c (zx_MQ below E xx rst A args s) E A 2 0 12 [none, none] [] st := by
  unfold zf_LG_riderNumbered_12 at h
  cases h
  exact zx_throwW F Y 4 (is := 260) (text := "there is no such rider") (by decide) rfl zxk_255 zxi_4 zxa_259 (by decide +kernel) (Nat.le_of_ble_eq_true rfl) (Nat.le_of_ble_eq_true rfl) (Nat.le_of_ble_eq_true rfl) (Nat.le_of_ble_eq_true rfl) zd_LG_riderNumbered_12 zd_LG_riderNumbered_15 zd_LG_riderNumbered_16 zd_LG_riderNumbered_19 zd_LG_riderNumbered_22
set_option maxHeartbeats 4000000 in
theorem zxl_LG_riderNumbered_0 (F : zw_X p m c zo_LG_riderNumbered 2 s args zR0 E 10 A meth (some (.object "LiftGroup$Rider"))) (Y : zx_X zx_ss l s A c) {N : Nat} {xx : Nat} {rv : Nat} {rst : zS} (hxx : ¬ xx = 0) (a1 : Int32) (st : zS)  (h : zf_LG_riderNumbered N a1 st = some (xx, rv, rst)) : zw_G p l e zrx_LG_riderNumbered s m args below meth c (zx_MQ below E xx rst A args s) E A 2 0 0 [some (.ref 0), some (.int a1)] [] st := by
  unfold zf_LG_riderNumbered at h
  refine zg_iload_n F.1 zd_LG_riderNumbered_0 rfl rfl ?_
  refine zg_if_lt F.1 12 zd_LG_riderNumbered_1 rfl (fun hc => ?_) (fun hc => ?_)
  · rw [if_pos hc] at h
    exact zg_le (zw_len (zw_len zw_le0)) (zxl_LG_riderNumbered_12 F Y hxx st h)
  · rw [if_neg hc] at h
    refine zg_iload_n F.1 zd_LG_riderNumbered_4 rfl rfl ?_
    refine zg_aload_n F.1 zd_LG_riderNumbered_5 rfl rfl ?_
    refine zg_getI0 F.1 (by decide) rfl 6 (by decide) (st 0 6) rfl rfl zwf_LG_71 zd_LG_riderNumbered_6 ?_
    refine zg_icmp_lt F.1 23 zd_LG_riderNumbered_9 rfl (fun hc => ?_) (fun hc => ?_)
    · rw [if_pos hc] at h
      refine zg_aload_n F.1 zd_LG_riderNumbered_23 rfl rfl ?_
      refine zg_getR0 F.1 (by decide) rfl 3 (by decide) 10 rfl zwf_LG_29 zd_LG_riderNumbered_24 ?_
      refine zg_iload_n F.1 zd_LG_riderNumbered_27 rfl rfl ?_
      by_cases hi28 : a1 < 0 ∨ 24 ≤ a1.toNatClampNeg
      case pos => rw [if_pos hi28] at h; cases h
      rw [if_neg hi28] at h
      refine zg_ald7 F.1 (by decide) rfl hi28 a1.toNatClampNeg rfl zd_LG_riderNumbered_28 ?_
      cases h
      exact absurd rfl hxx
    · rw [if_neg hc] at h
      exact zg_le (zw_len (zw_len zw_le0)) (zxl_LG_riderNumbered_12 F Y hxx st h)
theorem zx_LG_riderNumbered {E : zE} (hst : l.stackTraces = false) (hn : zw_n E 10) (N : Nat) (a1 : Int32) (st : zS)  {xx : Nat} {rv : Nat} {rst : zS} (hxx : ¬ xx = 0) (h : zf_LG_riderNumbered N a1 st = some (xx, rv, rst)) : zx_M zx_ss l zy_LG_riderNumbered (Cond.code zy_LG_riderNumbered zo_LG_riderNumbered 2 (some (.object "LiftGroup$Rider")) :: zwAll) zrx_LG_riderNumbered E [.ref 0, .int a1] st xx rst :=
  zx_enter hst (by decide) rfl hn (Nat.le_of_ble_eq_true rfl) (by simp [Value.category]) 0 (fun p e s m args below meth c A F Y => zxl_LG_riderNumbered_0 F Y hxx a1 st  h)
set_option maxRecDepth 100000 in
theorem zcal_LG_startAnew : zw_cal zR0 zy_LG_startAnew zo_LG_startAnew 5 none 3 := ⟨zw_at 221 rfl rfl, zw_at 0 rfl rfl, zw_at 47 rfl rfl, zw_at 222 rfl rfl, rfl, by decide, by decide, by decide +kernel⟩
set_option maxRecDepth 100000 in
theorem zml_LG_41 : Cond.methodLink zR0 41 zy_LG_startAnew ∈ zwAll := zw_at 219 rfl rfl
abbrev zrm_LG_building : Room := { frames := 3, cells := 0, slots := 0, locals := 64 }
def zf_LG_building_11 (N : Nat)   (st : zS) : Option (Nat × zS) := some (1, st)
set_option maxHeartbeats 4000000 in
theorem zl_LG_building_11 (F : zw_X p m c zo_LG_building 4 s args zR0 E 10 A meth none) {N : Nat} {rst : zS}    (st : zS)  (h : zf_LG_building_11 N   st = some (0, rst)) : zw_G p l e zrm_LG_building s m args below meth c (MQ below (zw_Q E none rst A) args s 0 0 A) E A 4 0 11 [none, none, none, none] [] st := by
  unfold zf_LG_building_11 at h
  cases h
def zf_LG_building_31 (N : Nat)   (st : zS) : Option (Nat × zS) := some (1, st)
set_option maxHeartbeats 4000000 in
theorem zl_LG_building_31 (F : zw_X p m c zo_LG_building 4 s args zR0 E 10 A meth none) {N : Nat} {rst : zS}    (st : zS)  (h : zf_LG_building_31 N   st = some (0, rst)) : zw_G p l e zrm_LG_building s m args below meth c (MQ below (zw_Q E none rst A) args s 0 0 A) E A 4 0 31 [none, none, none, none] [] st := by
  unfold zf_LG_building_31 at h
  cases h
def zf_LG_building_51 (N : Nat)   (st : zS) : Option (Nat × zS) := some (1, st)
set_option maxHeartbeats 4000000 in
theorem zl_LG_building_51 (F : zw_X p m c zo_LG_building 4 s args zR0 E 10 A meth none) {N : Nat} {rst : zS}    (st : zS)  (h : zf_LG_building_51 N   st = some (0, rst)) : zw_G p l e zrm_LG_building s m args below meth c (MQ below (zw_Q E none rst A) args s 0 0 A) E A 4 0 51 [none, none, none, none] [] st := by
  unfold zf_LG_building_51 at h
  cases h
def zf_LG_building (N : Nat) (a1 : Int32) (a2 : Int32) (a3 : Int32) (st : zS) : Option (Nat × zS) := (if a1 < 2 then zf_LG_building_11 N st else (if a1 ≤ 10 then (if a2 < 1 then zf_LG_building_31 N st else (if a2 ≤ 4 then (if a3 < 1 then zf_LG_building_51 N st else (if a3 ≤ 5 then ((zf_LG_startAnew N a1 a2 a3 st).bind fun t65 => some (0, t65)) else zf_LG_building_51 N st)) else zf_LG_building_31 N st)) else zf_LG_building_11 N st))
set_option maxHeartbeats 4000000 in
theorem zl_LG_building_0 (F : zw_X p m c zo_LG_building 4 s args zR0 E 10 A meth none) {N : Nat} {rst : zS} (a1 : Int32) (a2 : Int32) (a3 : Int32) (st : zS)  (h : zf_LG_building N a1 a2 a3 st = some (0, rst)) : zw_G p l e zrm_LG_building s m args below meth c (MQ below (zw_Q E none rst A) args s 0 0 A) E A 4 0 0 [some (.ref 0), some (.int a1), some (.int a2), some (.int a3)] [] st := by
  unfold zf_LG_building at h
  refine zg_iload_n F.1 zd_LG_building_0 rfl rfl ?_
  refine zg_iconst F.1 2 2 (by decide) zd_LG_building_1 ?_
  refine zg_icmp_lt F.1 11 zd_LG_building_2 rfl (fun hc => ?_) (fun hc => ?_)
  · rw [if_pos hc] at h
    exact zg_le (zw_len (zw_len (zw_len (zw_len zw_le0)))) (zl_LG_building_11 F st h)
  · rw [if_neg hc] at h
    refine zg_iload_n F.1 zd_LG_building_5 rfl rfl ?_
    refine zg_bipush F.1 10 10 (by decide) zd_LG_building_6 ?_
    refine zg_icmp_le F.1 21 zd_LG_building_8 rfl (fun hc => ?_) (fun hc => ?_)
    · rw [if_pos hc] at h
      refine zg_iload_n F.1 zd_LG_building_21 rfl rfl ?_
      refine zg_iconst F.1 1 1 (by decide) zd_LG_building_22 ?_
      refine zg_icmp_lt F.1 31 zd_LG_building_23 rfl (fun hc => ?_) (fun hc => ?_)
      · rw [if_pos hc] at h
        exact zg_le (zw_len (zw_len (zw_len (zw_len zw_le0)))) (zl_LG_building_31 F st h)
      · rw [if_neg hc] at h
        refine zg_iload_n F.1 zd_LG_building_26 rfl rfl ?_
        refine zg_iconst F.1 4 4 (by decide) zd_LG_building_27 ?_
        refine zg_icmp_le F.1 41 zd_LG_building_28 rfl (fun hc => ?_) (fun hc => ?_)
        · rw [if_pos hc] at h
          refine zg_iload_n F.1 zd_LG_building_41 rfl rfl ?_
          refine zg_iconst F.1 1 1 (by decide) zd_LG_building_42 ?_
          refine zg_icmp_lt F.1 51 zd_LG_building_43 rfl (fun hc => ?_) (fun hc => ?_)
          · rw [if_pos hc] at h
            exact zg_le (zw_len (zw_len (zw_len (zw_len zw_le0)))) (zl_LG_building_51 F st h)
          · rw [if_neg hc] at h
            refine zg_iload_n F.1 zd_LG_building_46 rfl rfl ?_
            refine zg_iconst F.1 5 5 (by decide) zd_LG_building_47 ?_
            refine zg_icmp_le F.1 61 zd_LG_building_48 rfl (fun hc => ?_) (fun hc => ?_)
            · rw [if_pos hc] at h
              refine zg_aload_n F.1 zd_LG_building_61 rfl rfl ?_
              refine zg_iload_n F.1 zd_LG_building_62 rfl rfl ?_
              refine zg_iload_n F.1 zd_LG_building_63 rfl rfl ?_
              refine zg_iload_n F.1 zd_LG_building_64 rfl rfl ?_
              obtain ⟨t65, hc65, h⟩ := Option.bind_eq_some_iff.mp h
              refine zg_callV F (As := [.int a1, .int a2, .int a3]) (rest := []) (zk_LG_startAnew F.1.2.2 N a1 a2 a3 st hc65) rfl rfl zcal_LG_startAnew zml_LG_41 ⟨(Nat.le_of_ble_eq_true rfl), (Nat.le_of_ble_eq_true rfl)⟩ (zg_rec0 F.1 (by decide) rfl) rfl (Nat.le_of_ble_eq_true rfl) ⟨(Nat.le_of_ble_eq_true rfl), (Nat.le_of_ble_eq_true rfl)⟩ zd_LG_building_65 ?_
              cases h
              exact zg_vret F zd_LG_building_68
            · rw [if_neg hc] at h
              exact zg_le (zw_len (zw_len (zw_len (zw_len zw_le0)))) (zl_LG_building_51 F st h)
        · rw [if_neg hc] at h
          exact zg_le (zw_len (zw_len (zw_len (zw_len zw_le0)))) (zl_LG_building_31 F st h)
    · rw [if_neg hc] at h
      exact zg_le (zw_len (zw_len (zw_len (zw_len zw_le0)))) (zl_LG_building_11 F st h)
theorem zk_LG_building {E : zE} (hn : zw_n E 10) (N : Nat) (a1 : Int32) (a2 : Int32) (a3 : Int32) (st : zS)  {rst : zS} (h : zf_LG_building N a1 a2 a3 st = some (0, rst)) : zw_M l zy_LG_building (Cond.code zy_LG_building zo_LG_building 4 none :: zwAll) zrm_LG_building E [.ref 0, .int a1, .int a2, .int a3] st none rst :=
  zw_enter (by decide) rfl hn (Nat.le_of_ble_eq_true rfl) (by simp [Value.category]) 0 (fun p e s m args below meth c A F => zl_LG_building_0 F a1 a2 a3 st  h)
abbrev zrx_LG_building : Room := { frames := 6, cells := 1, slots := 6, locals := 90 }
set_option maxHeartbeats 4000000 in
theorem zxl_LG_building_11 (F : zw_X p m c zo_LG_building 4 s args zR0 E 10 A meth none) (Y : zx_X zx_ss l s A c) {N : Nat} {xx : Nat} {rst : zS} (hxx : ¬ xx = 0)    (st : zS)  (h : zf_LG_building_11 N   st = some (xx, rst)) : zw_G p l e zrx_LG_building s m args below meth c (zx_MQ below E xx rst A args s) E A 4 0 11 [none, none, none, none] [] st := by
  unfold zf_LG_building_11 at h
  cases h
  exact zx_throw F Y 1 (is := 47) (text := "there must be 2 to 10 floors") (by decide) rfl zxk_45 zxi_1 zxa_49 (by decide +kernel) (Nat.le_of_ble_eq_true rfl) (Nat.le_of_ble_eq_true rfl) (Nat.le_of_ble_eq_true rfl) (Nat.le_of_ble_eq_true rfl) zd_LG_building_11 zd_LG_building_14 zd_LG_building_15 zd_LG_building_17 zd_LG_building_20
set_option maxHeartbeats 4000000 in
theorem zxl_LG_building_31 (F : zw_X p m c zo_LG_building 4 s args zR0 E 10 A meth none) (Y : zx_X zx_ss l s A c) {N : Nat} {xx : Nat} {rst : zS} (hxx : ¬ xx = 0)    (st : zS)  (h : zf_LG_building_31 N   st = some (xx, rst)) : zw_G p l e zrx_LG_building s m args below meth c (zx_MQ below E xx rst A args s) E A 4 0 31 [none, none, none, none] [] st := by
  unfold zf_LG_building_31 at h
  cases h
  exact zx_throw F Y 1 (is := 52) (text := "there must be 1 to 4 cars") (by decide) rfl zxk_45 zxi_1 zxa_49 (by decide +kernel) (Nat.le_of_ble_eq_true rfl) (Nat.le_of_ble_eq_true rfl) (Nat.le_of_ble_eq_true rfl) (Nat.le_of_ble_eq_true rfl) zd_LG_building_31 zd_LG_building_34 zd_LG_building_35 zd_LG_building_37 zd_LG_building_40
set_option maxHeartbeats 4000000 in
theorem zxl_LG_building_51 (F : zw_X p m c zo_LG_building 4 s args zR0 E 10 A meth none) (Y : zx_X zx_ss l s A c) {N : Nat} {xx : Nat} {rst : zS} (hxx : ¬ xx = 0)    (st : zS)  (h : zf_LG_building_51 N   st = some (xx, rst)) : zw_G p l e zrx_LG_building s m args below meth c (zx_MQ below E xx rst A args s) E A 4 0 51 [none, none, none, none] [] st := by
  unfold zf_LG_building_51 at h
  cases h
  exact zx_throw F Y 1 (is := 54) (text := "there must be 1 to 5 places") (by decide) rfl zxk_45 zxi_1 zxa_49 (by decide +kernel) (Nat.le_of_ble_eq_true rfl) (Nat.le_of_ble_eq_true rfl) (Nat.le_of_ble_eq_true rfl) (Nat.le_of_ble_eq_true rfl) zd_LG_building_51 zd_LG_building_54 zd_LG_building_55 zd_LG_building_57 zd_LG_building_60
set_option maxHeartbeats 4000000 in
theorem zxl_LG_building_0 (F : zw_X p m c zo_LG_building 4 s args zR0 E 10 A meth none) (Y : zx_X zx_ss l s A c) {N : Nat} {xx : Nat} {rst : zS} (hxx : ¬ xx = 0) (a1 : Int32) (a2 : Int32) (a3 : Int32) (st : zS)  (h : zf_LG_building N a1 a2 a3 st = some (xx, rst)) : zw_G p l e zrx_LG_building s m args below meth c (zx_MQ below E xx rst A args s) E A 4 0 0 [some (.ref 0), some (.int a1), some (.int a2), some (.int a3)] [] st := by
  unfold zf_LG_building at h
  refine zg_iload_n F.1 zd_LG_building_0 rfl rfl ?_
  refine zg_iconst F.1 2 2 (by decide) zd_LG_building_1 ?_
  refine zg_icmp_lt F.1 11 zd_LG_building_2 rfl (fun hc => ?_) (fun hc => ?_)
  · rw [if_pos hc] at h
    exact zg_le (zw_len (zw_len (zw_len (zw_len zw_le0)))) (zxl_LG_building_11 F Y hxx st h)
  · rw [if_neg hc] at h
    refine zg_iload_n F.1 zd_LG_building_5 rfl rfl ?_
    refine zg_bipush F.1 10 10 (by decide) zd_LG_building_6 ?_
    refine zg_icmp_le F.1 21 zd_LG_building_8 rfl (fun hc => ?_) (fun hc => ?_)
    · rw [if_pos hc] at h
      refine zg_iload_n F.1 zd_LG_building_21 rfl rfl ?_
      refine zg_iconst F.1 1 1 (by decide) zd_LG_building_22 ?_
      refine zg_icmp_lt F.1 31 zd_LG_building_23 rfl (fun hc => ?_) (fun hc => ?_)
      · rw [if_pos hc] at h
        exact zg_le (zw_len (zw_len (zw_len (zw_len zw_le0)))) (zxl_LG_building_31 F Y hxx st h)
      · rw [if_neg hc] at h
        refine zg_iload_n F.1 zd_LG_building_26 rfl rfl ?_
        refine zg_iconst F.1 4 4 (by decide) zd_LG_building_27 ?_
        refine zg_icmp_le F.1 41 zd_LG_building_28 rfl (fun hc => ?_) (fun hc => ?_)
        · rw [if_pos hc] at h
          refine zg_iload_n F.1 zd_LG_building_41 rfl rfl ?_
          refine zg_iconst F.1 1 1 (by decide) zd_LG_building_42 ?_
          refine zg_icmp_lt F.1 51 zd_LG_building_43 rfl (fun hc => ?_) (fun hc => ?_)
          · rw [if_pos hc] at h
            exact zg_le (zw_len (zw_len (zw_len (zw_len zw_le0)))) (zxl_LG_building_51 F Y hxx st h)
          · rw [if_neg hc] at h
            refine zg_iload_n F.1 zd_LG_building_46 rfl rfl ?_
            refine zg_iconst F.1 5 5 (by decide) zd_LG_building_47 ?_
            refine zg_icmp_le F.1 61 zd_LG_building_48 rfl (fun hc => ?_) (fun hc => ?_)
            · rw [if_pos hc] at h
              refine zg_aload_n F.1 zd_LG_building_61 rfl rfl ?_
              refine zg_iload_n F.1 zd_LG_building_62 rfl rfl ?_
              refine zg_iload_n F.1 zd_LG_building_63 rfl rfl ?_
              refine zg_iload_n F.1 zd_LG_building_64 rfl rfl ?_
              obtain ⟨t65, hc65, h⟩ := Option.bind_eq_some_iff.mp h
              refine zg_callV F (As := [.int a1, .int a2, .int a3]) (rest := []) (zk_LG_startAnew F.1.2.2 N a1 a2 a3 st hc65) rfl rfl zcal_LG_startAnew zml_LG_41 ⟨(Nat.le_of_ble_eq_true rfl), (Nat.le_of_ble_eq_true rfl)⟩ (zg_rec0 F.1 (by decide) rfl) rfl (Nat.le_of_ble_eq_true rfl) ⟨(Nat.le_of_ble_eq_true rfl), (Nat.le_of_ble_eq_true rfl)⟩ zd_LG_building_65 ?_
              cases h
              exact absurd rfl hxx
            · rw [if_neg hc] at h
              exact zg_le (zw_len (zw_len (zw_len (zw_len zw_le0)))) (zxl_LG_building_51 F Y hxx st h)
        · rw [if_neg hc] at h
          exact zg_le (zw_len (zw_len (zw_len (zw_len zw_le0)))) (zxl_LG_building_31 F Y hxx st h)
    · rw [if_neg hc] at h
      exact zg_le (zw_len (zw_len (zw_len (zw_len zw_le0)))) (zxl_LG_building_11 F Y hxx st h)
theorem zx_LG_building {E : zE} (hst : l.stackTraces = false) (hn : zw_n E 10) (N : Nat) (a1 : Int32) (a2 : Int32) (a3 : Int32) (st : zS)  {xx : Nat} {rst : zS} (hxx : ¬ xx = 0) (h : zf_LG_building N a1 a2 a3 st = some (xx, rst)) : zx_M zx_ss l zy_LG_building (Cond.code zy_LG_building zo_LG_building 4 none :: zwAll) zrx_LG_building E [.ref 0, .int a1, .int a2, .int a3] st xx rst :=
  zx_enter hst (by decide) rfl hn (Nat.le_of_ble_eq_true rfl) (by simp [Value.category]) 0 (fun p e s m args below meth c A F Y => zxl_LG_building_0 F Y hxx a1 a2 a3 st  h)
set_option maxRecDepth 100000 in
theorem zcal_LG_isFloor : zw_cal zR0 zy_LG_isFloor zo_LG_isFloor 2 (some .boolean) 1 := ⟨zw_at 457 rfl rfl, zw_at 17 rfl rfl, zw_at 47 rfl rfl, zw_at 458 rfl rfl, rfl, by decide, by decide, by decide +kernel⟩
set_option maxRecDepth 100000 in
theorem zml_LG_56 : Cond.methodLink zR0 56 zy_LG_isFloor ∈ zwAll := zw_at 455 rfl rfl
set_option maxRecDepth 100000 in
theorem zcal_LG_anyUsable : zw_cal zR0 zy_LG_anyUsable zo_LG_anyUsable 2 (some .boolean) 0 := ⟨zw_at 462 rfl rfl, zw_at 18 rfl rfl, zw_at 47 rfl rfl, zw_at 463 rfl rfl, rfl, by decide, by decide, by decide +kernel⟩
set_option maxRecDepth 100000 in
theorem zml_LG_62 : Cond.methodLink zR0 62 zy_LG_anyUsable ∈ zwAll := zw_at 460 rfl rfl
set_option maxRecDepth 100000 in
theorem zcal_Ri_begin : zw_cal zR3 zy_Ri_begin zo_Ri_begin 4 none 3 := ⟨zw_at 497 rfl rfl, zw_at 498 rfl rfl, zw_at 50 rfl rfl, zw_at 499 rfl rfl, rfl, by decide, by decide, by decide +kernel⟩
set_option maxRecDepth 100000 in
theorem zml_LG_83 : Cond.methodLink zR0 83 zy_Ri_begin ∈ zwAll := zw_at 496 rfl rfl
set_option maxRecDepth 100000 in
theorem zcal_Ho_addRider : zw_cal zR1 zy_Ho_addRider zo_Ho_addRider 4 none 3 := ⟨zw_at 501 rfl rfl, zw_at 502 rfl rfl, zw_at 48 rfl rfl, zw_at 503 rfl rfl, rfl, by decide, by decide, by decide +kernel⟩
set_option maxRecDepth 100000 in
theorem zml_LG_86 : Cond.methodLink zR0 86 zy_Ho_addRider ∈ zwAll := zw_at 500 rfl rfl
abbrev zrm_LG_call : Room := { frames := 5, cells := 0, slots := 0, locals := 117 }
def zf_LG_call_21 (N : Nat)   (st : zS) : Option (Nat × Int32 × zS) := some (1, 0, st)
set_option maxHeartbeats 4000000 in
theorem zl_LG_call_21 (F : zw_X p m c zo_LG_call 4 s args zR0 E 10 A meth (some .int)) {N : Nat} {rv : Int32} {rst : zS}    (st : zS)  (h : zf_LG_call_21 N   st = some (0, rv, rst)) : zw_G p l e zrm_LG_call s m args below meth c (MQ below (zw_Q E (some (.int rv)) rst A) args s 0 0 A) E A 4 0 21 [none, none, none, none] [] st := by
  unfold zf_LG_call_21 at h
  cases h
def zf_LG_call (N : Nat) (a1 : Int32) (a2 : Int32) (st : zS) : Option (Nat × Int32 × zS) := ((zf_LG_isFloor N a1 st).bind fun y2 => (if y2.1 = 0 then zf_LG_call_21 N y2.2 else ((zf_LG_isFloor N a2 y2.2).bind fun y10 => (if y10.1 = 0 then zf_LG_call_21 N y10.2 else (if a1 = a2 then zf_LG_call_21 N y10.2 else ((zf_LG_anyUsable N y10.2).bind fun y32 => (if y32.1 = 0 then some (2, 0, y32.2) else (if (y32.2 0 6) < 24 then (if (y32.2 0 6) < 0 ∨ 24 ≤ (y32.2 0 6).toNatClampNeg then none else ((zf_Ri_begin N (11 + (y32.2 0 6).toNatClampNeg) a1 a2 (y32.2 0 8) (zp y32.2 0 6 ((y32.2 0 6) + 1))).bind fun t94 => ((zf_Ho_addRider N (1 <<< ((y32.2 0 6) &&& 31)) a1 a2 t94).bind fun t106 => ((zf_LG_chooseCar N (y32.2 0 6) t106).bind fun t111 => (if (y32.2 0 6) < 0 ∨ 24 ≤ (y32.2 0 6).toNatClampNeg then none else some (0, (t111 (11 + (y32.2 0 6).toNatClampNeg) 3), t111)))))) else some (3, 0, y32.2)))))))))
set_option maxHeartbeats 4000000 in
theorem zl_LG_call_0 (F : zw_X p m c zo_LG_call 4 s args zR0 E 10 A meth (some .int)) {N : Nat} {rv : Int32} {rst : zS} (a1 : Int32) (a2 : Int32) (st : zS)  (h : zf_LG_call N a1 a2 st = some (0, rv, rst)) : zw_G p l e zrm_LG_call s m args below meth c (MQ below (zw_Q E (some (.int rv)) rst A) args s 0 0 A) E A 4 0 0 [some (.ref 0), some (.int a1), some (.int a2), none] [] st := by
  unfold zf_LG_call at h
  refine zg_aload_n F.1 zd_LG_call_0 rfl rfl ?_
  refine zg_iload_n F.1 zd_LG_call_1 rfl rfl ?_
  obtain ⟨y2, hc2, h⟩ := Option.bind_eq_some_iff.mp h
  refine zg_callV F (As := [.int a1]) (rest := []) (zk_LG_isFloor F.1.2.2 N a1 st hc2) rfl rfl zcal_LG_isFloor zml_LG_56 ⟨(Nat.le_of_ble_eq_true rfl), (Nat.le_of_ble_eq_true rfl)⟩ (zg_rec0 F.1 (by decide) rfl) rfl (Nat.le_of_ble_eq_true rfl) ⟨(Nat.le_of_ble_eq_true rfl), (Nat.le_of_ble_eq_true rfl)⟩ zd_LG_call_2 ?_
  refine zg_if_eq F.1 21 zd_LG_call_5 rfl (fun hc => ?_) (fun hc => ?_)
  · rw [if_pos hc] at h
    exact zg_le (zw_len (zw_len (zw_len (zw_les zw_le0)))) (zl_LG_call_21 F y2.2 h)
  · rw [if_neg hc] at h
    refine zg_aload_n F.1 zd_LG_call_8 rfl rfl ?_
    refine zg_iload_n F.1 zd_LG_call_9 rfl rfl ?_
    obtain ⟨y10, hc10, h⟩ := Option.bind_eq_some_iff.mp h
    refine zg_callV F (As := [.int a2]) (rest := []) (zk_LG_isFloor F.1.2.2 N a2 y2.2 hc10) rfl rfl zcal_LG_isFloor zml_LG_56 ⟨(Nat.le_of_ble_eq_true rfl), (Nat.le_of_ble_eq_true rfl)⟩ (zg_rec0 F.1 (by decide) rfl) rfl (Nat.le_of_ble_eq_true rfl) ⟨(Nat.le_of_ble_eq_true rfl), (Nat.le_of_ble_eq_true rfl)⟩ zd_LG_call_10 ?_
    refine zg_if_eq F.1 21 zd_LG_call_13 rfl (fun hc => ?_) (fun hc => ?_)
    · rw [if_pos hc] at h
      exact zg_le (zw_len (zw_len (zw_len (zw_les zw_le0)))) (zl_LG_call_21 F y10.2 h)
    · rw [if_neg hc] at h
      refine zg_iload_n F.1 zd_LG_call_16 rfl rfl ?_
      refine zg_iload_n F.1 zd_LG_call_17 rfl rfl ?_
      refine zg_icmp_ne F.1 31 zd_LG_call_18 rfl (fun hc => ?_) (fun hc => ?_)
      · rw [if_neg hc] at h
        refine zg_aload_n F.1 zd_LG_call_31 rfl rfl ?_
        obtain ⟨y32, hc32, h⟩ := Option.bind_eq_some_iff.mp h
        refine zg_callV F (As := []) (rest := []) (zk_LG_anyUsable F.1.2.2 N y10.2 hc32) rfl rfl zcal_LG_anyUsable zml_LG_62 ⟨(Nat.le_of_ble_eq_true rfl), (Nat.le_of_ble_eq_true rfl)⟩ (zg_rec0 F.1 (by decide) rfl) rfl (Nat.le_of_ble_eq_true rfl) ⟨(Nat.le_of_ble_eq_true rfl), (Nat.le_of_ble_eq_true rfl)⟩ zd_LG_call_32 ?_
        refine zg_if_ne F.1 48 zd_LG_call_35 rfl (fun hc => ?_) (fun hc => ?_)
        · rw [if_neg hc] at h
          refine zg_aload_n F.1 zd_LG_call_48 rfl rfl ?_
          refine zg_getI0 F.1 (by decide) rfl 6 (by decide) (y32.2 0 6) rfl rfl zwf_LG_71 zd_LG_call_49 ?_
          refine zg_bipush F.1 24 24 (by decide) zd_LG_call_52 ?_
          refine zg_icmp_lt F.1 67 zd_LG_call_54 rfl (fun hc => ?_) (fun hc => ?_)
          · rw [if_pos hc] at h
            refine zg_aload_n F.1 zd_LG_call_67 rfl rfl ?_
            refine zg_getI0 F.1 (by decide) rfl 6 (by decide) (y32.2 0 6) rfl rfl zwf_LG_71 zd_LG_call_68 ?_
            refine zg_istore_n F.1 [some (.ref 0), some (.int a1), some (.int a2), some (.int (y32.2 0 6))] zd_LG_call_71 rfl (by decide) rfl ?_
            refine zg_aload_n F.1 zd_LG_call_72 rfl rfl ?_
            refine zg_dup F.1 zd_LG_call_73 rfl ?_
            refine zg_getI0 F.1 (by decide) rfl 6 (by decide) (y32.2 0 6) rfl rfl zwf_LG_71 zd_LG_call_74 ?_
            refine zg_iconst F.1 1 1 (by decide) zd_LG_call_77 ?_
            refine zg_iadd F.1 zd_LG_call_78 ?_
            refine zg_putI0 F.1 (by decide) rfl 6 (by decide) (Or.inr (Or.inl rfl)) .int (by decide) rfl rfl rfl zwf_LG_71 zd_LG_call_79 ?_
            refine zg_aload_n F.1 zd_LG_call_82 rfl rfl ?_
            refine zg_getR0 F.1 (by decide) rfl 3 (by decide) 10 rfl zwf_LG_29 zd_LG_call_83 ?_
            refine zg_iload_n F.1 zd_LG_call_86 rfl rfl ?_
            by_cases hi87 : (y32.2 0 6) < 0 ∨ 24 ≤ (y32.2 0 6).toNatClampNeg
            case pos => rw [if_pos hi87] at h; cases h
            rw [if_neg hi87] at h
            refine zg_ald7 F.1 (by decide) rfl hi87 ((y32.2 0 6).toNatClampNeg) rfl zd_LG_call_87 ?_
            refine zg_iload_n F.1 zd_LG_call_88 rfl rfl ?_
            refine zg_iload_n F.1 zd_LG_call_89 rfl rfl ?_
            refine zg_aload_n F.1 zd_LG_call_90 rfl rfl ?_
            refine zg_getI0 F.1 (by decide) rfl 8 (by decide) (y32.2 0 8) rfl (zp_o _ _ (by decide)) zwf_LG_80 zd_LG_call_91 ?_
            obtain ⟨t94, hc94, h⟩ := Option.bind_eq_some_iff.mp h
            refine zg_callV F (As := [.int a1, .int a2, .int (y32.2 0 8)]) (rest := []) (zk_Ri_begin F.1.2.2 N (11 + (y32.2 0 6).toNatClampNeg) a1 a2 (y32.2 0 8) (zp y32.2 0 6 ((y32.2 0 6) + 1)) (zw_riderI hi87) hc94) rfl rfl zcal_Ri_begin zml_LG_83 ⟨(Nat.le_of_ble_eq_true rfl), (Nat.le_of_ble_eq_true rfl)⟩ (zg_rec3 F.1 (by decide) (zw_riderI hi87)) rfl (Nat.le_of_ble_eq_true rfl) ⟨(Nat.le_of_ble_eq_true rfl), (Nat.le_of_ble_eq_true rfl)⟩ zd_LG_call_94 ?_
            refine zg_aload_n F.1 zd_LG_call_97 rfl rfl ?_
            refine zg_getR0 F.1 (by decide) rfl 0 (by decide) 1 rfl zwf_LG_10 zd_LG_call_98 ?_
            refine zg_iconst F.1 1 1 (by decide) zd_LG_call_101 ?_
            refine zg_iload_n F.1 zd_LG_call_102 rfl rfl ?_
            refine zg_ishl F.1 zd_LG_call_103 ?_
            refine zg_iload_n F.1 zd_LG_call_104 rfl rfl ?_
            refine zg_iload_n F.1 zd_LG_call_105 rfl rfl ?_
            obtain ⟨t106, hc106, h⟩ := Option.bind_eq_some_iff.mp h
            refine zg_callV F (As := [.int (1 <<< ((y32.2 0 6) &&& 31)), .int a1, .int a2]) (rest := []) (zk_Ho_addRider F.1.2.2 N (1 <<< ((y32.2 0 6) &&& 31)) a1 a2 t94 hc106) rfl rfl zcal_Ho_addRider zml_LG_86 ⟨(Nat.le_of_ble_eq_true rfl), (Nat.le_of_ble_eq_true rfl)⟩ (zg_rec1 F.1 (by decide) rfl) rfl (Nat.le_of_ble_eq_true rfl) ⟨(Nat.le_of_ble_eq_true rfl), (Nat.le_of_ble_eq_true rfl)⟩ zd_LG_call_106 ?_
            refine zg_aload_n F.1 zd_LG_call_109 rfl rfl ?_
            refine zg_iload_n F.1 zd_LG_call_110 rfl rfl ?_
            obtain ⟨t111, hc111, h⟩ := Option.bind_eq_some_iff.mp h
            refine zg_callV F (As := [.int (y32.2 0 6)]) (rest := []) (zk_LG_chooseCar F.1.2.2 N (y32.2 0 6) t106 hc111) rfl rfl zcal_LG_chooseCar zml_LG_89 ⟨(Nat.le_of_ble_eq_true rfl), (Nat.le_of_ble_eq_true rfl)⟩ (zg_rec0 F.1 (by decide) rfl) rfl (Nat.le_of_ble_eq_true rfl) ⟨(Nat.le_of_ble_eq_true rfl), (Nat.le_of_ble_eq_true rfl)⟩ zd_LG_call_111 ?_
            refine zg_aload_n F.1 zd_LG_call_114 rfl rfl ?_
            refine zg_getR0 F.1 (by decide) rfl 3 (by decide) 10 rfl zwf_LG_29 zd_LG_call_115 ?_
            refine zg_iload_n F.1 zd_LG_call_118 rfl rfl ?_
            by_cases hi119 : (y32.2 0 6) < 0 ∨ 24 ≤ (y32.2 0 6).toNatClampNeg
            case pos => rw [if_pos hi119] at h; cases h
            rw [if_neg hi119] at h
            refine zg_ald7 F.1 (by decide) rfl hi119 ((y32.2 0 6).toNatClampNeg) rfl zd_LG_call_119 ?_
            refine zg_getI3 F.1 (by decide) (zw_riderI hi119) 3 (by decide) (t111 (11 + (y32.2 0 6).toNatClampNeg) 3) rfl rfl zwf_LG_93 zd_LG_call_120 ?_
            cases h
            exact zg_iret F zd_LG_call_123
          · rw [if_neg hc] at h
            cases h
        · rw [if_pos hc] at h
          cases h
      · rw [if_pos hc] at h
        exact zg_le (zw_len (zw_len (zw_len (zw_les zw_le0)))) (zl_LG_call_21 F y10.2 h)
theorem zk_LG_call {E : zE} (hn : zw_n E 10) (N : Nat) (a1 : Int32) (a2 : Int32) (st : zS)  {rv : Int32} {rst : zS} (h : zf_LG_call N a1 a2 st = some (0, rv, rst)) : zw_M l zy_LG_call (Cond.code zy_LG_call zo_LG_call 4 (some .int) :: zwAll) zrm_LG_call E [.ref 0, .int a1, .int a2] st (some (.int rv)) rst :=
  zw_enter (by decide) rfl hn (Nat.le_of_ble_eq_true rfl) (by simp [Value.category]) 1 (fun p e s m args below meth c A F => zl_LG_call_0 F a1 a2 st  h)
abbrev zrx_LG_call : Room := { frames := 6, cells := 1, slots := 6, locals := 117 }
set_option maxHeartbeats 4000000 in
theorem zxl_LG_call_21 (F : zw_X p m c zo_LG_call 4 s args zR0 E 10 A meth (some .int)) (Y : zx_X zx_ss l s A c) {N : Nat} {xx : Nat} {rv : Int32} {rst : zS} (hxx : ¬ xx = 0)    (st : zS)  (h : zf_LG_call_21 N   st = some (xx, rv, rst)) : zw_G p l e zrx_LG_call s m args below meth c (zx_MQ below E xx rst A args s) E A 4 0 21 [none, none, none, none] [] st := by
  unfold zf_LG_call_21 at h
  cases h
  exact zx_throw F Y 1 (is := 60) (text := "a rider goes from one floor to another") (by decide) rfl zxk_45 zxi_1 zxa_49 (by decide +kernel) (Nat.le_of_ble_eq_true rfl) (Nat.le_of_ble_eq_true rfl) (Nat.le_of_ble_eq_true rfl) (Nat.le_of_ble_eq_true rfl) zd_LG_call_21 zd_LG_call_24 zd_LG_call_25 zd_LG_call_27 zd_LG_call_30
set_option maxHeartbeats 4000000 in
theorem zxl_LG_call_0 (F : zw_X p m c zo_LG_call 4 s args zR0 E 10 A meth (some .int)) (Y : zx_X zx_ss l s A c) {N : Nat} {xx : Nat} {rv : Int32} {rst : zS} (hxx : ¬ xx = 0) (a1 : Int32) (a2 : Int32) (st : zS)  (h : zf_LG_call N a1 a2 st = some (xx, rv, rst)) : zw_G p l e zrx_LG_call s m args below meth c (zx_MQ below E xx rst A args s) E A 4 0 0 [some (.ref 0), some (.int a1), some (.int a2), none] [] st := by
  unfold zf_LG_call at h
  refine zg_aload_n F.1 zd_LG_call_0 rfl rfl ?_
  refine zg_iload_n F.1 zd_LG_call_1 rfl rfl ?_
  obtain ⟨y2, hc2, h⟩ := Option.bind_eq_some_iff.mp h
  refine zg_callV F (As := [.int a1]) (rest := []) (zk_LG_isFloor F.1.2.2 N a1 st hc2) rfl rfl zcal_LG_isFloor zml_LG_56 ⟨(Nat.le_of_ble_eq_true rfl), (Nat.le_of_ble_eq_true rfl)⟩ (zg_rec0 F.1 (by decide) rfl) rfl (Nat.le_of_ble_eq_true rfl) ⟨(Nat.le_of_ble_eq_true rfl), (Nat.le_of_ble_eq_true rfl)⟩ zd_LG_call_2 ?_
  refine zg_if_eq F.1 21 zd_LG_call_5 rfl (fun hc => ?_) (fun hc => ?_)
  · rw [if_pos hc] at h
    exact zg_le (zw_len (zw_len (zw_len (zw_les zw_le0)))) (zxl_LG_call_21 F Y hxx y2.2 h)
  · rw [if_neg hc] at h
    refine zg_aload_n F.1 zd_LG_call_8 rfl rfl ?_
    refine zg_iload_n F.1 zd_LG_call_9 rfl rfl ?_
    obtain ⟨y10, hc10, h⟩ := Option.bind_eq_some_iff.mp h
    refine zg_callV F (As := [.int a2]) (rest := []) (zk_LG_isFloor F.1.2.2 N a2 y2.2 hc10) rfl rfl zcal_LG_isFloor zml_LG_56 ⟨(Nat.le_of_ble_eq_true rfl), (Nat.le_of_ble_eq_true rfl)⟩ (zg_rec0 F.1 (by decide) rfl) rfl (Nat.le_of_ble_eq_true rfl) ⟨(Nat.le_of_ble_eq_true rfl), (Nat.le_of_ble_eq_true rfl)⟩ zd_LG_call_10 ?_
    refine zg_if_eq F.1 21 zd_LG_call_13 rfl (fun hc => ?_) (fun hc => ?_)
    · rw [if_pos hc] at h
      exact zg_le (zw_len (zw_len (zw_len (zw_les zw_le0)))) (zxl_LG_call_21 F Y hxx y10.2 h)
    · rw [if_neg hc] at h
      refine zg_iload_n F.1 zd_LG_call_16 rfl rfl ?_
      refine zg_iload_n F.1 zd_LG_call_17 rfl rfl ?_
      refine zg_icmp_ne F.1 31 zd_LG_call_18 rfl (fun hc => ?_) (fun hc => ?_)
      · rw [if_neg hc] at h
        refine zg_aload_n F.1 zd_LG_call_31 rfl rfl ?_
        obtain ⟨y32, hc32, h⟩ := Option.bind_eq_some_iff.mp h
        refine zg_callV F (As := []) (rest := []) (zk_LG_anyUsable F.1.2.2 N y10.2 hc32) rfl rfl zcal_LG_anyUsable zml_LG_62 ⟨(Nat.le_of_ble_eq_true rfl), (Nat.le_of_ble_eq_true rfl)⟩ (zg_rec0 F.1 (by decide) rfl) rfl (Nat.le_of_ble_eq_true rfl) ⟨(Nat.le_of_ble_eq_true rfl), (Nat.le_of_ble_eq_true rfl)⟩ zd_LG_call_32 ?_
        refine zg_if_ne F.1 48 zd_LG_call_35 rfl (fun hc => ?_) (fun hc => ?_)
        · rw [if_neg hc] at h
          refine zg_aload_n F.1 zd_LG_call_48 rfl rfl ?_
          refine zg_getI0 F.1 (by decide) rfl 6 (by decide) (y32.2 0 6) rfl rfl zwf_LG_71 zd_LG_call_49 ?_
          refine zg_bipush F.1 24 24 (by decide) zd_LG_call_52 ?_
          refine zg_icmp_lt F.1 67 zd_LG_call_54 rfl (fun hc => ?_) (fun hc => ?_)
          · rw [if_pos hc] at h
            refine zg_aload_n F.1 zd_LG_call_67 rfl rfl ?_
            refine zg_getI0 F.1 (by decide) rfl 6 (by decide) (y32.2 0 6) rfl rfl zwf_LG_71 zd_LG_call_68 ?_
            refine zg_istore_n F.1 [some (.ref 0), some (.int a1), some (.int a2), some (.int (y32.2 0 6))] zd_LG_call_71 rfl (by decide) rfl ?_
            refine zg_aload_n F.1 zd_LG_call_72 rfl rfl ?_
            refine zg_dup F.1 zd_LG_call_73 rfl ?_
            refine zg_getI0 F.1 (by decide) rfl 6 (by decide) (y32.2 0 6) rfl rfl zwf_LG_71 zd_LG_call_74 ?_
            refine zg_iconst F.1 1 1 (by decide) zd_LG_call_77 ?_
            refine zg_iadd F.1 zd_LG_call_78 ?_
            refine zg_putI0 F.1 (by decide) rfl 6 (by decide) (Or.inr (Or.inl rfl)) .int (by decide) rfl rfl rfl zwf_LG_71 zd_LG_call_79 ?_
            refine zg_aload_n F.1 zd_LG_call_82 rfl rfl ?_
            refine zg_getR0 F.1 (by decide) rfl 3 (by decide) 10 rfl zwf_LG_29 zd_LG_call_83 ?_
            refine zg_iload_n F.1 zd_LG_call_86 rfl rfl ?_
            by_cases hi87 : (y32.2 0 6) < 0 ∨ 24 ≤ (y32.2 0 6).toNatClampNeg
            case pos => rw [if_pos hi87] at h; cases h
            rw [if_neg hi87] at h
            refine zg_ald7 F.1 (by decide) rfl hi87 ((y32.2 0 6).toNatClampNeg) rfl zd_LG_call_87 ?_
            refine zg_iload_n F.1 zd_LG_call_88 rfl rfl ?_
            refine zg_iload_n F.1 zd_LG_call_89 rfl rfl ?_
            refine zg_aload_n F.1 zd_LG_call_90 rfl rfl ?_
            refine zg_getI0 F.1 (by decide) rfl 8 (by decide) (y32.2 0 8) rfl (zp_o _ _ (by decide)) zwf_LG_80 zd_LG_call_91 ?_
            obtain ⟨t94, hc94, h⟩ := Option.bind_eq_some_iff.mp h
            refine zg_callV F (As := [.int a1, .int a2, .int (y32.2 0 8)]) (rest := []) (zk_Ri_begin F.1.2.2 N (11 + (y32.2 0 6).toNatClampNeg) a1 a2 (y32.2 0 8) (zp y32.2 0 6 ((y32.2 0 6) + 1)) (zw_riderI hi87) hc94) rfl rfl zcal_Ri_begin zml_LG_83 ⟨(Nat.le_of_ble_eq_true rfl), (Nat.le_of_ble_eq_true rfl)⟩ (zg_rec3 F.1 (by decide) (zw_riderI hi87)) rfl (Nat.le_of_ble_eq_true rfl) ⟨(Nat.le_of_ble_eq_true rfl), (Nat.le_of_ble_eq_true rfl)⟩ zd_LG_call_94 ?_
            refine zg_aload_n F.1 zd_LG_call_97 rfl rfl ?_
            refine zg_getR0 F.1 (by decide) rfl 0 (by decide) 1 rfl zwf_LG_10 zd_LG_call_98 ?_
            refine zg_iconst F.1 1 1 (by decide) zd_LG_call_101 ?_
            refine zg_iload_n F.1 zd_LG_call_102 rfl rfl ?_
            refine zg_ishl F.1 zd_LG_call_103 ?_
            refine zg_iload_n F.1 zd_LG_call_104 rfl rfl ?_
            refine zg_iload_n F.1 zd_LG_call_105 rfl rfl ?_
            obtain ⟨t106, hc106, h⟩ := Option.bind_eq_some_iff.mp h
            refine zg_callV F (As := [.int (1 <<< ((y32.2 0 6) &&& 31)), .int a1, .int a2]) (rest := []) (zk_Ho_addRider F.1.2.2 N (1 <<< ((y32.2 0 6) &&& 31)) a1 a2 t94 hc106) rfl rfl zcal_Ho_addRider zml_LG_86 ⟨(Nat.le_of_ble_eq_true rfl), (Nat.le_of_ble_eq_true rfl)⟩ (zg_rec1 F.1 (by decide) rfl) rfl (Nat.le_of_ble_eq_true rfl) ⟨(Nat.le_of_ble_eq_true rfl), (Nat.le_of_ble_eq_true rfl)⟩ zd_LG_call_106 ?_
            refine zg_aload_n F.1 zd_LG_call_109 rfl rfl ?_
            refine zg_iload_n F.1 zd_LG_call_110 rfl rfl ?_
            obtain ⟨t111, hc111, h⟩ := Option.bind_eq_some_iff.mp h
            refine zg_callV F (As := [.int (y32.2 0 6)]) (rest := []) (zk_LG_chooseCar F.1.2.2 N (y32.2 0 6) t106 hc111) rfl rfl zcal_LG_chooseCar zml_LG_89 ⟨(Nat.le_of_ble_eq_true rfl), (Nat.le_of_ble_eq_true rfl)⟩ (zg_rec0 F.1 (by decide) rfl) rfl (Nat.le_of_ble_eq_true rfl) ⟨(Nat.le_of_ble_eq_true rfl), (Nat.le_of_ble_eq_true rfl)⟩ zd_LG_call_111 ?_
            refine zg_aload_n F.1 zd_LG_call_114 rfl rfl ?_
            refine zg_getR0 F.1 (by decide) rfl 3 (by decide) 10 rfl zwf_LG_29 zd_LG_call_115 ?_
            refine zg_iload_n F.1 zd_LG_call_118 rfl rfl ?_
            by_cases hi119 : (y32.2 0 6) < 0 ∨ 24 ≤ (y32.2 0 6).toNatClampNeg
            case pos => rw [if_pos hi119] at h; cases h
            rw [if_neg hi119] at h
            refine zg_ald7 F.1 (by decide) rfl hi119 ((y32.2 0 6).toNatClampNeg) rfl zd_LG_call_119 ?_
            refine zg_getI3 F.1 (by decide) (zw_riderI hi119) 3 (by decide) (t111 (11 + (y32.2 0 6).toNatClampNeg) 3) rfl rfl zwf_LG_93 zd_LG_call_120 ?_
            cases h
            exact absurd rfl hxx
          · rw [if_neg hc] at h
            cases h
            exact zx_throw F Y 3 (is := 77) (text := "there were 24 riders") (by decide) rfl zxk_75 zxi_3 zxa_79 (by decide +kernel) (Nat.le_of_ble_eq_true rfl) (Nat.le_of_ble_eq_true rfl) (Nat.le_of_ble_eq_true rfl) (Nat.le_of_ble_eq_true rfl) zd_LG_call_57 zd_LG_call_60 zd_LG_call_61 zd_LG_call_63 zd_LG_call_66
        · rw [if_pos hc] at h
          cases h
          exact zx_throw F Y 2 (is := 68) (text := "no car is usable") (by decide) rfl zxk_66 zxi_2 zxa_70 (by decide +kernel) (Nat.le_of_ble_eq_true rfl) (Nat.le_of_ble_eq_true rfl) (Nat.le_of_ble_eq_true rfl) (Nat.le_of_ble_eq_true rfl) zd_LG_call_38 zd_LG_call_41 zd_LG_call_42 zd_LG_call_44 zd_LG_call_47
      · rw [if_pos hc] at h
        exact zg_le (zw_len (zw_len (zw_len (zw_les zw_le0)))) (zxl_LG_call_21 F Y hxx y10.2 h)
theorem zx_LG_call {E : zE} (hst : l.stackTraces = false) (hn : zw_n E 10) (N : Nat) (a1 : Int32) (a2 : Int32) (st : zS)  {xx : Nat} {rv : Int32} {rst : zS} (hxx : ¬ xx = 0) (h : zf_LG_call N a1 a2 st = some (xx, rv, rst)) : zx_M zx_ss l zy_LG_call (Cond.code zy_LG_call zo_LG_call 4 (some .int) :: zwAll) zrx_LG_call E [.ref 0, .int a1, .int a2] st xx rst :=
  zx_enter hst (by decide) rfl hn (Nat.le_of_ble_eq_true rfl) (by simp [Value.category]) 1 (fun p e s m args below meth c A F Y => zxl_LG_call_0 F Y hxx a1 a2 st  h)
set_option maxRecDepth 100000 in
theorem zcal_LG_noteExchange : zw_cal zR0 zy_LG_noteExchange zo_LG_noteExchange 3 none 1 := ⟨zw_at 514 rfl rfl, zw_at 19 rfl rfl, zw_at 47 rfl rfl, zw_at 515 rfl rfl, rfl, by decide, by decide, by decide +kernel⟩
set_option maxRecDepth 100000 in
theorem zml_LG_109 : Cond.methodLink zR0 109 zy_LG_noteExchange ∈ zwAll := zw_at 512 rfl rfl
abbrev zrm_LG_step : Room := { frames := 4, cells := 0, slots := 0, locals := 89 }
def zf_LG_step_11 (N : Nat)   (st : zS) : Option (Nat × zS) := some (1, st)
set_option maxHeartbeats 4000000 in
theorem zl_LG_step_11 (F : zw_X p m c zo_LG_step 4 s args zR0 E 10 A meth none) {N : Nat} {rst : zS}    (st : zS)  (h : zf_LG_step_11 N   st = some (0, rst)) : zw_G p l e zrm_LG_step s m args below meth c (MQ below (zw_Q E none rst A) args s 0 0 A) E A 4 0 11 [none, none, none, none] [] st := by
  unfold zf_LG_step_11 at h
  cases h
def zf_LG_step_78 (N : Nat) (r23 : Int32 → Int32 → zS → Option (Nat × zS)) (r40 : Int32 → Int32 → Int32 → zS → Option (Nat × zS)) (l1 : Int32) (l2 : Int32) (l3 : Int32) (st : zS) : Option (Nat × zS) := r40 l1 l2 (l3 + 1) st
set_option maxHeartbeats 4000000 in
theorem zl_LG_step_78 (F : zw_X p m c zo_LG_step 4 s args zR0 E 10 A meth none) {N : Nat} {rst : zS} {r23 : Int32 → Int32 → zS → Option (Nat × zS)} {r40 : Int32 → Int32 → Int32 → zS → Option (Nat × zS)} (hr23 : ∀ (l1 : Int32) (l2 : Int32) (st : zS) , r23 l1 l2 st = some (0, rst) → zw_G p l e zrm_LG_step s m args below meth c (MQ below (zw_Q E none rst A) args s 0 0 A) E A 4 0 23 [some (.ref 0), some (.int l1), some (.int l2), none] [] st) (hr40 : ∀ (l1 : Int32) (l2 : Int32) (l3 : Int32) (st : zS) , r40 l1 l2 l3 st = some (0, rst) → zw_G p l e zrm_LG_step s m args below meth c (MQ below (zw_Q E none rst A) args s 0 0 A) E A 4 0 40 [some (.ref 0), some (.int l1), some (.int l2), some (.int l3)] [] st) (l1 : Int32) (l2 : Int32) (l3 : Int32) (st : zS)  (h : zf_LG_step_78 N r23 r40 l1 l2 l3 st = some (0, rst)) : zw_G p l e zrm_LG_step s m args below meth c (MQ below (zw_Q E none rst A) args s 0 0 A) E A 4 0 78 [some (.ref 0), some (.int l1), some (.int l2), some (.int l3)] [] st := by
  unfold zf_LG_step_78 at h
  refine zg_iinc F.1 (l3 + 1) [some (.ref 0), some (.int l1), some (.int l2), some (.int (l3 + 1))] zd_LG_step_78 rfl (by rw [lit1]) (by decide) rfl ?_
  refine zg_goto F.1 40 zd_LG_step_81 rfl ?_
  exact hr40 l1 l2 (l3 + 1) st h
def zb_LG_step_40 (N : Nat) (r23 : Int32 → Int32 → zS → Option (Nat × zS)) (r40 : Int32 → Int32 → Int32 → zS → Option (Nat × zS)) (l1 : Int32) (l2 : Int32) (l3 : Int32) (st : zS) : Option (Nat × zS) := (if (st 0 5) ≤ l3 then r23 l1 (l2 + 1) st else (if l3 < 0 ∨ 4 ≤ l3.toNatClampNeg then none else (if (st (5 + l3.toNatClampNeg) 6) = 0 then (if l3 < 0 ∨ 4 ≤ l3.toNatClampNeg then none else ((zf_Ca_advance N (5 + l3.toNatClampNeg) st).bind fun t70 => ((zf_LG_noteExchange N l3 t70).bind fun t75 => zf_LG_step_78 N r23 r40 l1 l2 l3 t75))) else zf_LG_step_78 N r23 r40 l1 l2 l3 st)))
set_option maxHeartbeats 4000000 in
theorem zlb_LG_step_40 (F : zw_X p m c zo_LG_step 4 s args zR0 E 10 A meth none) {N : Nat} {rst : zS} {r23 : Int32 → Int32 → zS → Option (Nat × zS)} {r40 : Int32 → Int32 → Int32 → zS → Option (Nat × zS)} (hr23 : ∀ (l1 : Int32) (l2 : Int32) (st : zS) , r23 l1 l2 st = some (0, rst) → zw_G p l e zrm_LG_step s m args below meth c (MQ below (zw_Q E none rst A) args s 0 0 A) E A 4 0 23 [some (.ref 0), some (.int l1), some (.int l2), none] [] st) (hr40 : ∀ (l1 : Int32) (l2 : Int32) (l3 : Int32) (st : zS) , r40 l1 l2 l3 st = some (0, rst) → zw_G p l e zrm_LG_step s m args below meth c (MQ below (zw_Q E none rst A) args s 0 0 A) E A 4 0 40 [some (.ref 0), some (.int l1), some (.int l2), some (.int l3)] [] st) (l1 : Int32) (l2 : Int32) (l3 : Int32) (st : zS)  (h : zb_LG_step_40 N r23 r40 l1 l2 l3 st = some (0, rst)) : zw_G p l e zrm_LG_step s m args below meth c (MQ below (zw_Q E none rst A) args s 0 0 A) E A 4 0 40 [some (.ref 0), some (.int l1), some (.int l2), some (.int l3)] [] st := by
  unfold zb_LG_step_40 at h
  refine zg_iload_n F.1 zd_LG_step_40 rfl rfl ?_
  refine zg_aload_n F.1 zd_LG_step_41 rfl rfl ?_
  refine zg_getI0 F.1 (by decide) rfl 5 (by decide) (st 0 5) rfl rfl zwf_LG_98 zd_LG_step_42 ?_
  refine zg_icmp_ge F.1 84 zd_LG_step_45 rfl (fun hc => ?_) (fun hc => ?_)
  · rw [if_pos hc] at h
    refine zg_iinc F.1 (l2 + 1) [some (.ref 0), some (.int l1), some (.int (l2 + 1)), some (.int l3)] zd_LG_step_84 rfl (by rw [lit1]) (by decide) rfl ?_
    refine zg_goto F.1 23 zd_LG_step_87 rfl ?_
    exact zg_le (zw_les (zw_les (zw_les (zw_len zw_le0)))) (hr23 l1 (l2 + 1) st h)
  · rw [if_neg hc] at h
    refine zg_aload_n F.1 zd_LG_step_48 rfl rfl ?_
    refine zg_getR0 F.1 (by decide) rfl 1 (by decide) 4 rfl zwf_LG_18 zd_LG_step_49 ?_
    refine zg_iload_n F.1 zd_LG_step_52 rfl rfl ?_
    by_cases hi53 : l3 < 0 ∨ 4 ≤ l3.toNatClampNeg
    case pos => rw [if_pos hi53] at h; cases h
    rw [if_neg hi53] at h
    refine zg_ald6 F.1 (by decide) rfl hi53 l3.toNatClampNeg rfl zd_LG_step_53 ?_
    refine zg_getI2 F.1 (by decide) (zw_carI hi53) 6 (by decide) (st (5 + l3.toNatClampNeg) 6) rfl rfl zwf_LG_101 zd_LG_step_54 ?_
    refine zg_if_ne F.1 78 zd_LG_step_57 rfl (fun hc => ?_) (fun hc => ?_)
    · rw [if_neg hc] at h
      exact zl_LG_step_78 F hr23 hr40 l1 l2 l3 st h
    · rw [if_pos hc] at h
      refine zg_aload_n F.1 zd_LG_step_60 rfl rfl ?_
      refine zg_getR0 F.1 (by decide) rfl 1 (by decide) 4 rfl zwf_LG_18 zd_LG_step_61 ?_
      refine zg_iload_n F.1 zd_LG_step_64 rfl rfl ?_
      by_cases hi65 : l3 < 0 ∨ 4 ≤ l3.toNatClampNeg
      case pos => rw [if_pos hi65] at h; cases h
      rw [if_neg hi65] at h
      refine zg_ald6 F.1 (by decide) rfl hi65 l3.toNatClampNeg rfl zd_LG_step_65 ?_
      refine zg_aload_n F.1 zd_LG_step_66 rfl rfl ?_
      refine zg_getR0 F.1 (by decide) rfl 0 (by decide) 1 rfl zwf_LG_10 zd_LG_step_67 ?_
      obtain ⟨t70, hc70, h⟩ := Option.bind_eq_some_iff.mp h
      refine zg_callV F (As := [.ref 1]) (rest := []) (zk_Ca_advance F.1.2.2 N (5 + l3.toNatClampNeg) st (zw_carI hi65) hc70) rfl rfl zcal_Ca_advance zml_LG_105 ⟨(Nat.le_of_ble_eq_true rfl), (Nat.le_of_ble_eq_true rfl)⟩ (zg_rec2 F.1 (by decide) (zw_carI hi65)) rfl (Nat.le_of_ble_eq_true rfl) ⟨(Nat.le_of_ble_eq_true rfl), (Nat.le_of_ble_eq_true rfl)⟩ zd_LG_step_70 ?_
      refine zg_aload_n F.1 zd_LG_step_73 rfl rfl ?_
      refine zg_iload_n F.1 zd_LG_step_74 rfl rfl ?_
      obtain ⟨t75, hc75, h⟩ := Option.bind_eq_some_iff.mp h
      refine zg_callV F (As := [.int l3]) (rest := []) (zk_LG_noteExchange F.1.2.2 N l3 t70 hc75) rfl rfl zcal_LG_noteExchange zml_LG_109 ⟨(Nat.le_of_ble_eq_true rfl), (Nat.le_of_ble_eq_true rfl)⟩ (zg_rec0 F.1 (by decide) rfl) rfl (Nat.le_of_ble_eq_true rfl) ⟨(Nat.le_of_ble_eq_true rfl), (Nat.le_of_ble_eq_true rfl)⟩ zd_LG_step_75 ?_
      exact zl_LG_step_78 F hr23 hr40 l1 l2 l3 t75 h
def zf_LG_step_40 (N : Nat) (r23 : Int32 → Int32 → zS → Option (Nat × zS)) : Nat → Int32 → Int32 → Int32 → zS → Option (Nat × zS)
  | 0, _, _, _, _ => none
  | n + 1, l1, l2, l3, st => zb_LG_step_40 N r23 (zf_LG_step_40 N r23 n) l1 l2 l3 st
theorem zl_LG_step_40 (F : zw_X p m c zo_LG_step 4 s args zR0 E 10 A meth none) {N : Nat} {rst : zS} {r23 : Int32 → Int32 → zS → Option (Nat × zS)} (hr23 : ∀ (l1 : Int32) (l2 : Int32) (st : zS) , r23 l1 l2 st = some (0, rst) → zw_G p l e zrm_LG_step s m args below meth c (MQ below (zw_Q E none rst A) args s 0 0 A) E A 4 0 23 [some (.ref 0), some (.int l1), some (.int l2), none] [] st) : ∀ (n : Nat) (l1 : Int32) (l2 : Int32) (l3 : Int32) (st : zS)  (h : zf_LG_step_40 N r23 n l1 l2 l3 st = some (0, rst)), zw_G p l e zrm_LG_step s m args below meth c (MQ below (zw_Q E none rst A) args s 0 0 A) E A 4 0 40 [some (.ref 0), some (.int l1), some (.int l2), some (.int l3)] [] st := by
  intro n
  induction n with
  | zero => intro l1 l2 l3 st  h; cases h
  | succ n ih => intro l1 l2 l3 st  h; exact zlb_LG_step_40 F hr23 ih l1 l2 l3 st  h
def zb_LG_step_23 (N : Nat) (r23 : Int32 → Int32 → zS → Option (Nat × zS)) (l1 : Int32) (l2 : Int32) (st : zS) : Option (Nat × zS) := (if l1 ≤ l2 then some (0, st) else zf_LG_step_40 N r23 N l1 l2 0 (zp st 0 8 ((st 0 8) + 1)))
set_option maxHeartbeats 4000000 in
theorem zlb_LG_step_23 (F : zw_X p m c zo_LG_step 4 s args zR0 E 10 A meth none) {N : Nat} {rst : zS} {r23 : Int32 → Int32 → zS → Option (Nat × zS)} (hr23 : ∀ (l1 : Int32) (l2 : Int32) (st : zS) , r23 l1 l2 st = some (0, rst) → zw_G p l e zrm_LG_step s m args below meth c (MQ below (zw_Q E none rst A) args s 0 0 A) E A 4 0 23 [some (.ref 0), some (.int l1), some (.int l2), none] [] st) (l1 : Int32) (l2 : Int32) (st : zS)  (h : zb_LG_step_23 N r23 l1 l2 st = some (0, rst)) : zw_G p l e zrm_LG_step s m args below meth c (MQ below (zw_Q E none rst A) args s 0 0 A) E A 4 0 23 [some (.ref 0), some (.int l1), some (.int l2), none] [] st := by
  unfold zb_LG_step_23 at h
  refine zg_iload_n F.1 zd_LG_step_23 rfl rfl ?_
  refine zg_iload_n F.1 zd_LG_step_24 rfl rfl ?_
  refine zg_icmp_ge F.1 90 zd_LG_step_25 rfl (fun hc => ?_) (fun hc => ?_)
  · rw [if_pos hc] at h
    cases h
    exact zg_vret F zd_LG_step_90
  · rw [if_neg hc] at h
    refine zg_aload_n F.1 zd_LG_step_28 rfl rfl ?_
    refine zg_dup F.1 zd_LG_step_29 rfl ?_
    refine zg_getI0 F.1 (by decide) rfl 8 (by decide) (st 0 8) rfl rfl zwf_LG_80 zd_LG_step_30 ?_
    refine zg_iconst F.1 1 1 (by decide) zd_LG_step_33 ?_
    refine zg_iadd F.1 zd_LG_step_34 ?_
    refine zg_putI0 F.1 (by decide) rfl 8 (by decide) (Or.inr (Or.inr (Or.inr (Or.inl rfl)))) .int (by decide) rfl rfl rfl zwf_LG_80 zd_LG_step_35 ?_
    refine zg_iconst F.1 0 0 (by decide) zd_LG_step_38 ?_
    refine zg_istore_n F.1 [some (.ref 0), some (.int l1), some (.int l2), some (.int 0)] zd_LG_step_39 rfl (by decide) rfl ?_
    exact zl_LG_step_40 F hr23 N l1 l2 0 (zp st 0 8 ((st 0 8) + 1)) h
def zf_LG_step_23 (N : Nat)  : Nat → Int32 → Int32 → zS → Option (Nat × zS)
  | 0, _, _, _ => none
  | n + 1, l1, l2, st => zb_LG_step_23 N  (zf_LG_step_23 N  n) l1 l2 st
theorem zl_LG_step_23 (F : zw_X p m c zo_LG_step 4 s args zR0 E 10 A meth none) {N : Nat} {rst : zS}   : ∀ (n : Nat) (l1 : Int32) (l2 : Int32) (st : zS)  (h : zf_LG_step_23 N  n l1 l2 st = some (0, rst)), zw_G p l e zrm_LG_step s m args below meth c (MQ below (zw_Q E none rst A) args s 0 0 A) E A 4 0 23 [some (.ref 0), some (.int l1), some (.int l2), none] [] st := by
  intro n
  induction n with
  | zero => intro l1 l2 st  h; cases h
  | succ n ih => intro l1 l2 st  h; exact zlb_LG_step_23 F  ih l1 l2 st  h
def zf_LG_step (N : Nat) (a1 : Int32) (st : zS) : Option (Nat × zS) := (if a1 < 0 then zf_LG_step_11 N st else (if a1 ≤ 200 then zf_LG_step_23 N N a1 0 st else zf_LG_step_11 N st))
set_option maxHeartbeats 4000000 in
theorem zl_LG_step_0 (F : zw_X p m c zo_LG_step 4 s args zR0 E 10 A meth none) {N : Nat} {rst : zS} (a1 : Int32) (st : zS)  (h : zf_LG_step N a1 st = some (0, rst)) : zw_G p l e zrm_LG_step s m args below meth c (MQ below (zw_Q E none rst A) args s 0 0 A) E A 4 0 0 [some (.ref 0), some (.int a1), none, none] [] st := by
  unfold zf_LG_step at h
  refine zg_iload_n F.1 zd_LG_step_0 rfl rfl ?_
  refine zg_if_lt F.1 11 zd_LG_step_1 rfl (fun hc => ?_) (fun hc => ?_)
  · rw [if_pos hc] at h
    exact zg_le (zw_len (zw_len (zw_les (zw_les zw_le0)))) (zl_LG_step_11 F st h)
  · rw [if_neg hc] at h
    refine zg_iload_n F.1 zd_LG_step_4 rfl rfl ?_
    refine zg_sipush F.1 200 200 (by decide) zd_LG_step_5 ?_
    refine zg_icmp_le F.1 21 zd_LG_step_8 rfl (fun hc => ?_) (fun hc => ?_)
    · rw [if_pos hc] at h
      refine zg_iconst F.1 0 0 (by decide) zd_LG_step_21 ?_
      refine zg_istore_n F.1 [some (.ref 0), some (.int a1), some (.int 0), none] zd_LG_step_22 rfl (by decide) rfl ?_
      exact zl_LG_step_23 F N a1 0 st h
    · rw [if_neg hc] at h
      exact zg_le (zw_len (zw_len (zw_les (zw_les zw_le0)))) (zl_LG_step_11 F st h)
theorem zk_LG_step {E : zE} (hn : zw_n E 10) (N : Nat) (a1 : Int32) (st : zS)  {rst : zS} (h : zf_LG_step N a1 st = some (0, rst)) : zw_M l zy_LG_step (Cond.code zy_LG_step zo_LG_step 4 none :: zwAll) zrm_LG_step E [.ref 0, .int a1] st none rst :=
  zw_enter (by decide) rfl hn (Nat.le_of_ble_eq_true rfl) (by simp [Value.category]) 2 (fun p e s m args below meth c A F => zl_LG_step_0 F a1 st  h)
abbrev zrx_LG_step : Room := { frames := 6, cells := 1, slots := 6, locals := 90 }
set_option maxHeartbeats 4000000 in
theorem zxl_LG_step_11 (F : zw_X p m c zo_LG_step 4 s args zR0 E 10 A meth none) (Y : zx_X zx_ss l s A c) {N : Nat} {xx : Nat} {rst : zS} (hxx : ¬ xx = 0)    (st : zS)  (h : zf_LG_step_11 N   st = some (xx, rst)) : zw_G p l e zrx_LG_step s m args below meth c (zx_MQ below E xx rst A args s) E A 4 0 11 [none, none, none, none] [] st := by
  unfold zf_LG_step_11 at h
  cases h
  exact zx_throw F Y 1 (is := 96) (text := "there must be 0 to 200 steps") (by decide) rfl zxk_45 zxi_1 zxa_49 (by decide +kernel) (Nat.le_of_ble_eq_true rfl) (Nat.le_of_ble_eq_true rfl) (Nat.le_of_ble_eq_true rfl) (Nat.le_of_ble_eq_true rfl) zd_LG_step_11 zd_LG_step_14 zd_LG_step_15 zd_LG_step_17 zd_LG_step_20
set_option maxHeartbeats 4000000 in
theorem zxl_LG_step_78 (F : zw_X p m c zo_LG_step 4 s args zR0 E 10 A meth none) (Y : zx_X zx_ss l s A c) {N : Nat} {xx : Nat} {rst : zS} (hxx : ¬ xx = 0) {r23 : Int32 → Int32 → zS → Option (Nat × zS)} {r40 : Int32 → Int32 → Int32 → zS → Option (Nat × zS)} (hr23 : ∀ (l1 : Int32) (l2 : Int32) (st : zS) , r23 l1 l2 st = some (xx, rst) → zw_G p l e zrx_LG_step s m args below meth c (zx_MQ below E xx rst A args s) E A 4 0 23 [some (.ref 0), some (.int l1), some (.int l2), none] [] st) (hr40 : ∀ (l1 : Int32) (l2 : Int32) (l3 : Int32) (st : zS) , r40 l1 l2 l3 st = some (xx, rst) → zw_G p l e zrx_LG_step s m args below meth c (zx_MQ below E xx rst A args s) E A 4 0 40 [some (.ref 0), some (.int l1), some (.int l2), some (.int l3)] [] st) (l1 : Int32) (l2 : Int32) (l3 : Int32) (st : zS)  (h : zf_LG_step_78 N r23 r40 l1 l2 l3 st = some (xx, rst)) : zw_G p l e zrx_LG_step s m args below meth c (zx_MQ below E xx rst A args s) E A 4 0 78 [some (.ref 0), some (.int l1), some (.int l2), some (.int l3)] [] st := by
  unfold zf_LG_step_78 at h
  refine zg_iinc F.1 (l3 + 1) [some (.ref 0), some (.int l1), some (.int l2), some (.int (l3 + 1))] zd_LG_step_78 rfl (by rw [lit1]) (by decide) rfl ?_
  refine zg_goto F.1 40 zd_LG_step_81 rfl ?_
  exact hr40 l1 l2 (l3 + 1) st h
set_option maxHeartbeats 4000000 in
theorem zxlb_LG_step_40 (F : zw_X p m c zo_LG_step 4 s args zR0 E 10 A meth none) (Y : zx_X zx_ss l s A c) {N : Nat} {xx : Nat} {rst : zS} (hxx : ¬ xx = 0) {r23 : Int32 → Int32 → zS → Option (Nat × zS)} {r40 : Int32 → Int32 → Int32 → zS → Option (Nat × zS)} (hr23 : ∀ (l1 : Int32) (l2 : Int32) (st : zS) , r23 l1 l2 st = some (xx, rst) → zw_G p l e zrx_LG_step s m args below meth c (zx_MQ below E xx rst A args s) E A 4 0 23 [some (.ref 0), some (.int l1), some (.int l2), none] [] st) (hr40 : ∀ (l1 : Int32) (l2 : Int32) (l3 : Int32) (st : zS) , r40 l1 l2 l3 st = some (xx, rst) → zw_G p l e zrx_LG_step s m args below meth c (zx_MQ below E xx rst A args s) E A 4 0 40 [some (.ref 0), some (.int l1), some (.int l2), some (.int l3)] [] st) (l1 : Int32) (l2 : Int32) (l3 : Int32) (st : zS)  (h : zb_LG_step_40 N r23 r40 l1 l2 l3 st = some (xx, rst)) : zw_G p l e zrx_LG_step s m args below meth c (zx_MQ below E xx rst A args s) E A 4 0 40 [some (.ref 0), some (.int l1), some (.int l2), some (.int l3)] [] st := by
  unfold zb_LG_step_40 at h
  refine zg_iload_n F.1 zd_LG_step_40 rfl rfl ?_
  refine zg_aload_n F.1 zd_LG_step_41 rfl rfl ?_
  refine zg_getI0 F.1 (by decide) rfl 5 (by decide) (st 0 5) rfl rfl zwf_LG_98 zd_LG_step_42 ?_
  refine zg_icmp_ge F.1 84 zd_LG_step_45 rfl (fun hc => ?_) (fun hc => ?_)
  · rw [if_pos hc] at h
    refine zg_iinc F.1 (l2 + 1) [some (.ref 0), some (.int l1), some (.int (l2 + 1)), some (.int l3)] zd_LG_step_84 rfl (by rw [lit1]) (by decide) rfl ?_
    refine zg_goto F.1 23 zd_LG_step_87 rfl ?_
    exact zg_le (zw_les (zw_les (zw_les (zw_len zw_le0)))) (hr23 l1 (l2 + 1) st h)
  · rw [if_neg hc] at h
    refine zg_aload_n F.1 zd_LG_step_48 rfl rfl ?_
    refine zg_getR0 F.1 (by decide) rfl 1 (by decide) 4 rfl zwf_LG_18 zd_LG_step_49 ?_
    refine zg_iload_n F.1 zd_LG_step_52 rfl rfl ?_
    by_cases hi53 : l3 < 0 ∨ 4 ≤ l3.toNatClampNeg
    case pos => rw [if_pos hi53] at h; cases h
    rw [if_neg hi53] at h
    refine zg_ald6 F.1 (by decide) rfl hi53 l3.toNatClampNeg rfl zd_LG_step_53 ?_
    refine zg_getI2 F.1 (by decide) (zw_carI hi53) 6 (by decide) (st (5 + l3.toNatClampNeg) 6) rfl rfl zwf_LG_101 zd_LG_step_54 ?_
    refine zg_if_ne F.1 78 zd_LG_step_57 rfl (fun hc => ?_) (fun hc => ?_)
    · rw [if_neg hc] at h
      exact zxl_LG_step_78 F Y hxx hr23 hr40 l1 l2 l3 st h
    · rw [if_pos hc] at h
      refine zg_aload_n F.1 zd_LG_step_60 rfl rfl ?_
      refine zg_getR0 F.1 (by decide) rfl 1 (by decide) 4 rfl zwf_LG_18 zd_LG_step_61 ?_
      refine zg_iload_n F.1 zd_LG_step_64 rfl rfl ?_
      by_cases hi65 : l3 < 0 ∨ 4 ≤ l3.toNatClampNeg
      case pos => rw [if_pos hi65] at h; cases h
      rw [if_neg hi65] at h
      refine zg_ald6 F.1 (by decide) rfl hi65 l3.toNatClampNeg rfl zd_LG_step_65 ?_
      refine zg_aload_n F.1 zd_LG_step_66 rfl rfl ?_
      refine zg_getR0 F.1 (by decide) rfl 0 (by decide) 1 rfl zwf_LG_10 zd_LG_step_67 ?_
      obtain ⟨t70, hc70, h⟩ := Option.bind_eq_some_iff.mp h
      refine zg_callV F (As := [.ref 1]) (rest := []) (zk_Ca_advance F.1.2.2 N (5 + l3.toNatClampNeg) st (zw_carI hi65) hc70) rfl rfl zcal_Ca_advance zml_LG_105 ⟨(Nat.le_of_ble_eq_true rfl), (Nat.le_of_ble_eq_true rfl)⟩ (zg_rec2 F.1 (by decide) (zw_carI hi65)) rfl (Nat.le_of_ble_eq_true rfl) ⟨(Nat.le_of_ble_eq_true rfl), (Nat.le_of_ble_eq_true rfl)⟩ zd_LG_step_70 ?_
      refine zg_aload_n F.1 zd_LG_step_73 rfl rfl ?_
      refine zg_iload_n F.1 zd_LG_step_74 rfl rfl ?_
      obtain ⟨t75, hc75, h⟩ := Option.bind_eq_some_iff.mp h
      refine zg_callV F (As := [.int l3]) (rest := []) (zk_LG_noteExchange F.1.2.2 N l3 t70 hc75) rfl rfl zcal_LG_noteExchange zml_LG_109 ⟨(Nat.le_of_ble_eq_true rfl), (Nat.le_of_ble_eq_true rfl)⟩ (zg_rec0 F.1 (by decide) rfl) rfl (Nat.le_of_ble_eq_true rfl) ⟨(Nat.le_of_ble_eq_true rfl), (Nat.le_of_ble_eq_true rfl)⟩ zd_LG_step_75 ?_
      exact zxl_LG_step_78 F Y hxx hr23 hr40 l1 l2 l3 t75 h
theorem zxl_LG_step_40 (F : zw_X p m c zo_LG_step 4 s args zR0 E 10 A meth none) (Y : zx_X zx_ss l s A c) {N : Nat} {xx : Nat} {rst : zS} (hxx : ¬ xx = 0) {r23 : Int32 → Int32 → zS → Option (Nat × zS)} (hr23 : ∀ (l1 : Int32) (l2 : Int32) (st : zS) , r23 l1 l2 st = some (xx, rst) → zw_G p l e zrx_LG_step s m args below meth c (zx_MQ below E xx rst A args s) E A 4 0 23 [some (.ref 0), some (.int l1), some (.int l2), none] [] st) : ∀ (n : Nat) (l1 : Int32) (l2 : Int32) (l3 : Int32) (st : zS)  (h : zf_LG_step_40 N r23 n l1 l2 l3 st = some (xx, rst)), zw_G p l e zrx_LG_step s m args below meth c (zx_MQ below E xx rst A args s) E A 4 0 40 [some (.ref 0), some (.int l1), some (.int l2), some (.int l3)] [] st := by
  intro n
  induction n with
  | zero => intro l1 l2 l3 st  h; cases h
  | succ n ih => intro l1 l2 l3 st  h; exact zxlb_LG_step_40 F Y hxx hr23 ih l1 l2 l3 st  h
set_option maxHeartbeats 4000000 in
theorem zxlb_LG_step_23 (F : zw_X p m c zo_LG_step 4 s args zR0 E 10 A meth none) (Y : zx_X zx_ss l s A c) {N : Nat} {xx : Nat} {rst : zS} (hxx : ¬ xx = 0) {r23 : Int32 → Int32 → zS → Option (Nat × zS)} (hr23 : ∀ (l1 : Int32) (l2 : Int32) (st : zS) , r23 l1 l2 st = some (xx, rst) → zw_G p l e zrx_LG_step s m args below meth c (zx_MQ below E xx rst A args s) E A 4 0 23 [some (.ref 0), some (.int l1), some (.int l2), none] [] st) (l1 : Int32) (l2 : Int32) (st : zS)  (h : zb_LG_step_23 N r23 l1 l2 st = some (xx, rst)) : zw_G p l e zrx_LG_step s m args below meth c (zx_MQ below E xx rst A args s) E A 4 0 23 [some (.ref 0), some (.int l1), some (.int l2), none] [] st := by
  unfold zb_LG_step_23 at h
  refine zg_iload_n F.1 zd_LG_step_23 rfl rfl ?_
  refine zg_iload_n F.1 zd_LG_step_24 rfl rfl ?_
  refine zg_icmp_ge F.1 90 zd_LG_step_25 rfl (fun hc => ?_) (fun hc => ?_)
  · rw [if_pos hc] at h
    cases h
    exact absurd rfl hxx
  · rw [if_neg hc] at h
    refine zg_aload_n F.1 zd_LG_step_28 rfl rfl ?_
    refine zg_dup F.1 zd_LG_step_29 rfl ?_
    refine zg_getI0 F.1 (by decide) rfl 8 (by decide) (st 0 8) rfl rfl zwf_LG_80 zd_LG_step_30 ?_
    refine zg_iconst F.1 1 1 (by decide) zd_LG_step_33 ?_
    refine zg_iadd F.1 zd_LG_step_34 ?_
    refine zg_putI0 F.1 (by decide) rfl 8 (by decide) (Or.inr (Or.inr (Or.inr (Or.inl rfl)))) .int (by decide) rfl rfl rfl zwf_LG_80 zd_LG_step_35 ?_
    refine zg_iconst F.1 0 0 (by decide) zd_LG_step_38 ?_
    refine zg_istore_n F.1 [some (.ref 0), some (.int l1), some (.int l2), some (.int 0)] zd_LG_step_39 rfl (by decide) rfl ?_
    exact zxl_LG_step_40 F Y hxx hr23 N l1 l2 0 (zp st 0 8 ((st 0 8) + 1)) h
theorem zxl_LG_step_23 (F : zw_X p m c zo_LG_step 4 s args zR0 E 10 A meth none) (Y : zx_X zx_ss l s A c) {N : Nat} {xx : Nat} {rst : zS} (hxx : ¬ xx = 0)   : ∀ (n : Nat) (l1 : Int32) (l2 : Int32) (st : zS)  (h : zf_LG_step_23 N  n l1 l2 st = some (xx, rst)), zw_G p l e zrx_LG_step s m args below meth c (zx_MQ below E xx rst A args s) E A 4 0 23 [some (.ref 0), some (.int l1), some (.int l2), none] [] st := by
  intro n
  induction n with
  | zero => intro l1 l2 st  h; cases h
  | succ n ih => intro l1 l2 st  h; exact zxlb_LG_step_23 F Y hxx  ih l1 l2 st  h
set_option maxHeartbeats 4000000 in
theorem zxl_LG_step_0 (F : zw_X p m c zo_LG_step 4 s args zR0 E 10 A meth none) (Y : zx_X zx_ss l s A c) {N : Nat} {xx : Nat} {rst : zS} (hxx : ¬ xx = 0) (a1 : Int32) (st : zS)  (h : zf_LG_step N a1 st = some (xx, rst)) : zw_G p l e zrx_LG_step s m args below meth c (zx_MQ below E xx rst A args s) E A 4 0 0 [some (.ref 0), some (.int a1), none, none] [] st := by
  unfold zf_LG_step at h
  refine zg_iload_n F.1 zd_LG_step_0 rfl rfl ?_
  refine zg_if_lt F.1 11 zd_LG_step_1 rfl (fun hc => ?_) (fun hc => ?_)
  · rw [if_pos hc] at h
    exact zg_le (zw_len (zw_len (zw_les (zw_les zw_le0)))) (zxl_LG_step_11 F Y hxx st h)
  · rw [if_neg hc] at h
    refine zg_iload_n F.1 zd_LG_step_4 rfl rfl ?_
    refine zg_sipush F.1 200 200 (by decide) zd_LG_step_5 ?_
    refine zg_icmp_le F.1 21 zd_LG_step_8 rfl (fun hc => ?_) (fun hc => ?_)
    · rw [if_pos hc] at h
      refine zg_iconst F.1 0 0 (by decide) zd_LG_step_21 ?_
      refine zg_istore_n F.1 [some (.ref 0), some (.int a1), some (.int 0), none] zd_LG_step_22 rfl (by decide) rfl ?_
      exact zxl_LG_step_23 F Y hxx N a1 0 st h
    · rw [if_neg hc] at h
      exact zg_le (zw_len (zw_len (zw_les (zw_les zw_le0)))) (zxl_LG_step_11 F Y hxx st h)
theorem zx_LG_step {E : zE} (hst : l.stackTraces = false) (hn : zw_n E 10) (N : Nat) (a1 : Int32) (st : zS)  {xx : Nat} {rst : zS} (hxx : ¬ xx = 0) (h : zf_LG_step N a1 st = some (xx, rst)) : zx_M zx_ss l zy_LG_step (Cond.code zy_LG_step zo_LG_step 4 none :: zwAll) zrx_LG_step E [.ref 0, .int a1] st xx rst :=
  zx_enter hst (by decide) rfl hn (Nat.le_of_ble_eq_true rfl) (by simp [Value.category]) 2 (fun p e s m args below meth c A F Y => zxl_LG_step_0 F Y hxx a1 st  h)
set_option maxRecDepth 100000 in
theorem zcal_LG_carNumbered : zw_cal zR0 zy_LG_carNumbered zo_LG_carNumbered 2 (some (.object "LiftGroup$Car")) 1 := ⟨zw_at 537 rfl rfl, zw_at 22 rfl rfl, zw_at 47 rfl rfl, zw_at 538 rfl rfl, rfl, by decide, by decide, by decide +kernel⟩
set_option maxRecDepth 100000 in
theorem zml_LG_112 : Cond.methodLink zR0 112 zy_LG_carNumbered ∈ zwAll := zw_at 535 rfl rfl
set_option maxRecDepth 100000 in
theorem zwf_LG_116 : Cond.fieldLink zR0 116 (zT2 7).1 (zT2 7).2.1 (zT2 7).2.2.1 ∈ zwAll := zw_at 122 rfl rfl
abbrev zrm_LG_curtain : Room := { frames := 1, cells := 0, slots := 0, locals := 21 }
def zf_LG_curtain (N : Nat) (a1 : Int32) (a2 : Int32) (st : zS) : Option (Nat × zS) := ((zf_LG_carNumbered N a1 st).bind fun y2 => (if y2.1 = 0 then (if a2 = 0 ∨ a2 = 1 then some (0, (zp y2.2.2 y2.2.1 7 a2)) else none) else some (y2.1, y2.2.2)))
set_option maxHeartbeats 4000000 in
theorem zl_LG_curtain_0 (F : zw_X p m c zo_LG_curtain 3 s args zR0 E 10 A meth none) {N : Nat} {rst : zS} (a1 : Int32) (a2 : Int32) (st : zS)  (h : zf_LG_curtain N a1 a2 st = some (0, rst)) : zw_G p l e zrm_LG_curtain s m args below meth c (MQ below (zw_Q E none rst A) args s 0 0 A) E A 3 0 0 [some (.ref 0), some (.int a1), some (.int a2)] [] st := by
  unfold zf_LG_curtain at h
  refine zg_aload_n F.1 zd_LG_curtain_0 rfl rfl ?_
  refine zg_iload_n F.1 zd_LG_curtain_1 rfl rfl ?_
  obtain ⟨y2, hc2, h⟩ := Option.bind_eq_some_iff.mp h
  by_cases hz2 : y2.1 = 0
  case neg =>
    rw [if_neg hz2] at h
    exact absurd (congrArg (fun z => z.1) (Option.some.inj h)) hz2
  rw [if_pos hz2] at h
  have hk2 : zw_kind y2.2.1 = 2 := zkd_LG_carNumbered (hc2.trans (congrArg some (zw_y0 hz2)))
  refine zg_callV F (As := [.int a1]) (rest := []) (zk_LG_carNumbered F.1.2.2 N a1 st (hc2.trans (congrArg some (zw_y0 hz2)))) rfl rfl zcal_LG_carNumbered zml_LG_112 ⟨(Nat.le_of_ble_eq_true rfl), (Nat.le_of_ble_eq_true rfl)⟩ (zg_rec0 F.1 (by decide) rfl) rfl (Nat.le_of_ble_eq_true rfl) ⟨(Nat.le_of_ble_eq_true rfl), (Nat.le_of_ble_eq_true rfl)⟩ zd_LG_curtain_2 ?_
  refine zg_iload_n F.1 zd_LG_curtain_5 rfl rfl ?_
  by_cases hb6 : a2 = 0 ∨ a2 = 1
  case neg => rw [if_neg hb6] at h; cases h
  rw [if_pos hb6] at h
  refine zg_putI2 F.1 (by decide) hk2 7 (by decide) (Or.inr (Or.inr (Or.inr (Or.inr (Or.inr (Or.inr (Or.inr (Or.inl rfl)))))))) .boolean (by decide) rfl (zw_nb hb6) (zw_fb hb6) zwf_LG_116 zd_LG_curtain_6 ?_
  cases h
  exact zg_vret F zd_LG_curtain_9
theorem zk_LG_curtain {E : zE} (hn : zw_n E 10) (N : Nat) (a1 : Int32) (a2 : Int32) (st : zS)  {rst : zS} (h : zf_LG_curtain N a1 a2 st = some (0, rst)) : zw_M l zy_LG_curtain (Cond.code zy_LG_curtain zo_LG_curtain 3 none :: zwAll) zrm_LG_curtain E [.ref 0, .int a1, .int a2] st none rst :=
  zw_enter (by decide) rfl hn (Nat.le_of_ble_eq_true rfl) (by simp [Value.category]) 0 (fun p e s m args below meth c A F => zl_LG_curtain_0 F a1 a2 st  h)
abbrev zrx_LG_curtain : Room := { frames := 7, cells := 1, slots := 6, locals := 111 }
set_option maxHeartbeats 4000000 in
theorem zxl_LG_curtain_0 (F : zw_X p m c zo_LG_curtain 3 s args zR0 E 10 A meth none) (Y : zx_X zx_ss l s A c) {N : Nat} {xx : Nat} {rst : zS} (hxx : ¬ xx = 0) (a1 : Int32) (a2 : Int32) (st : zS)  (h : zf_LG_curtain N a1 a2 st = some (xx, rst)) : zw_G p l e zrx_LG_curtain s m args below meth c (zx_MQ below E xx rst A args s) E A 3 0 0 [some (.ref 0), some (.int a1), some (.int a2)] [] st := by
  unfold zf_LG_curtain at h
  refine zg_aload_n F.1 zd_LG_curtain_0 rfl rfl ?_
  refine zg_iload_n F.1 zd_LG_curtain_1 rfl rfl ?_
  obtain ⟨y2, hc2, h⟩ := Option.bind_eq_some_iff.mp h
  by_cases hz2 : y2.1 = 0
  case neg =>
    rw [if_neg hz2] at h
    have e9 := Option.some.inj h
    have e1 := congrArg (fun z => z.1) e9
    have e3 := congrArg (fun z => z.2) e9
    dsimp only at e1 e3
    subst e1; subst e3
    exact zx_callV F Y (As := [.int a1]) (rest := []) (zx_LG_carNumbered Y.1 F.1.2.2 N a1 st hz2 hc2) rfl rfl zcal_LG_carNumbered zml_LG_112 ⟨(Nat.le_of_ble_eq_true rfl), (Nat.le_of_ble_eq_true rfl)⟩ (zg_rec0 F.1 (by decide) rfl) rfl (Nat.le_of_ble_eq_true rfl) ⟨(Nat.le_of_ble_eq_true rfl), (Nat.le_of_ble_eq_true rfl)⟩ zd_LG_curtain_2
  rw [if_pos hz2] at h
  have hk2 : zw_kind y2.2.1 = 2 := zkd_LG_carNumbered (hc2.trans (congrArg some (zw_y0 hz2)))
  refine zg_callV F (As := [.int a1]) (rest := []) (zk_LG_carNumbered F.1.2.2 N a1 st (hc2.trans (congrArg some (zw_y0 hz2)))) rfl rfl zcal_LG_carNumbered zml_LG_112 ⟨(Nat.le_of_ble_eq_true rfl), (Nat.le_of_ble_eq_true rfl)⟩ (zg_rec0 F.1 (by decide) rfl) rfl (Nat.le_of_ble_eq_true rfl) ⟨(Nat.le_of_ble_eq_true rfl), (Nat.le_of_ble_eq_true rfl)⟩ zd_LG_curtain_2 ?_
  refine zg_iload_n F.1 zd_LG_curtain_5 rfl rfl ?_
  by_cases hb6 : a2 = 0 ∨ a2 = 1
  case neg => rw [if_neg hb6] at h; cases h
  rw [if_pos hb6] at h
  refine zg_putI2 F.1 (by decide) hk2 7 (by decide) (Or.inr (Or.inr (Or.inr (Or.inr (Or.inr (Or.inr (Or.inr (Or.inl rfl)))))))) .boolean (by decide) rfl (zw_nb hb6) (zw_fb hb6) zwf_LG_116 zd_LG_curtain_6 ?_
  cases h
  exact absurd rfl hxx
theorem zx_LG_curtain {E : zE} (hst : l.stackTraces = false) (hn : zw_n E 10) (N : Nat) (a1 : Int32) (a2 : Int32) (st : zS)  {xx : Nat} {rst : zS} (hxx : ¬ xx = 0) (h : zf_LG_curtain N a1 a2 st = some (xx, rst)) : zx_M zx_ss l zy_LG_curtain (Cond.code zy_LG_curtain zo_LG_curtain 3 none :: zwAll) zrx_LG_curtain E [.ref 0, .int a1, .int a2] st xx rst :=
  zx_enter hst (by decide) rfl hn (Nat.le_of_ble_eq_true rfl) (by simp [Value.category]) 0 (fun p e s m args below meth c A F Y => zxl_LG_curtain_0 F Y hxx a1 a2 st  h)
set_option maxRecDepth 100000 in
theorem zcal_LG_takeWaitingForNoneIfUsable : zw_cal zR0 zy_LG_takeWaitingForNoneIfUsable zo_LG_takeWaitingForNoneIfUsable 2 (some .int) 1 := ⟨zw_at 564 rfl rfl, zw_at 23 rfl rfl, zw_at 47 rfl rfl, zw_at 565 rfl rfl, rfl, by decide, by decide, by decide +kernel⟩
set_option maxRecDepth 100000 in
theorem zml_LG_126 : Cond.methodLink zR0 126 zy_LG_takeWaitingForNoneIfUsable ∈ zwAll := zw_at 562 rfl rfl
abbrev zrm_LG_lock : Room := { frames := 6, cells := 0, slots := 0, locals := 139 }
def zf_LG_lock_40 (N : Nat)   (st : zS) : Option (Nat × zS) := some (0, st)
set_option maxHeartbeats 4000000 in
theorem zl_LG_lock_40 (F : zw_X p m c zo_LG_lock 4 s args zR0 E 10 A meth none) {N : Nat} {rst : zS}    (st : zS)  (h : zf_LG_lock_40 N   st = some (0, rst)) : zw_G p l e zrm_LG_lock s m args below meth c (MQ below (zw_Q E none rst A) args s 0 0 A) E A 4 0 40 [none, none, none, none] [] st := by
  unfold zf_LG_lock_40 at h
  cases h
  exact zg_vret F zd_LG_lock_40
def zf_LG_lock_37 (N : Nat)  (s0 : Int32) (st : zS) : Option (Nat × zS) := ((zf_LG_chooseForAll N s0 st).bind fun t37 => zf_LG_lock_40 N t37)
set_option maxHeartbeats 4000000 in
theorem zl_LG_lock_37 (F : zw_X p m c zo_LG_lock 4 s args zR0 E 10 A meth none) {N : Nat} {rst : zS}   (s0 : Int32) (st : zS)  (h : zf_LG_lock_37 N  s0 st = some (0, rst)) : zw_G p l e zrm_LG_lock s m args below meth c (MQ below (zw_Q E none rst A) args s 0 0 A) E A 4 0 37 [none, none, none, none] [.int s0, .ref 0] st := by
  unfold zf_LG_lock_37 at h
  obtain ⟨t37, hc37, h⟩ := Option.bind_eq_some_iff.mp h
  refine zg_callV F (As := [.int s0]) (rest := []) (zk_LG_chooseForAll F.1.2.2 N s0 st hc37) rfl rfl zcal_LG_chooseForAll zml_LG_129 ⟨(Nat.le_of_ble_eq_true rfl), (Nat.le_of_ble_eq_true rfl)⟩ (zg_rec0 F.1 (by decide) rfl) rfl (Nat.le_of_ble_eq_true rfl) ⟨(Nat.le_of_ble_eq_true rfl), (Nat.le_of_ble_eq_true rfl)⟩ zd_LG_lock_37 ?_
  exact zl_LG_lock_40 F t37 h
def zf_LG_lock (N : Nat) (a1 : Int32) (a2 : Int32) (st : zS) : Option (Nat × zS) := ((zf_LG_carNumbered N a1 st).bind fun y2 => (if y2.1 = 0 then (if (y2.2.2 y2.2.1 5) = a2 then zf_LG_lock_40 N y2.2.2 else (if a2 = 0 ∨ a2 = 1 then (if a2 = 0 then ((zf_LG_takeWaitingForNoneIfUsable N y2.2.1 (zp y2.2.2 y2.2.1 5 a2)).bind fun y34 => zf_LG_lock_37 N y34.1 y34.2) else ((zf_LG_takeWaitingFor N y2.2.1 (zp y2.2.2 y2.2.1 5 a2)).bind fun y26 => zf_LG_lock_37 N y26.1 y26.2)) else none)) else some (y2.1, y2.2.2)))
set_option maxHeartbeats 4000000 in
theorem zl_LG_lock_0 (F : zw_X p m c zo_LG_lock 4 s args zR0 E 10 A meth none) {N : Nat} {rst : zS} (a1 : Int32) (a2 : Int32) (st : zS)  (h : zf_LG_lock N a1 a2 st = some (0, rst)) : zw_G p l e zrm_LG_lock s m args below meth c (MQ below (zw_Q E none rst A) args s 0 0 A) E A 4 0 0 [some (.ref 0), some (.int a1), some (.int a2), none] [] st := by
  unfold zf_LG_lock at h
  refine zg_aload_n F.1 zd_LG_lock_0 rfl rfl ?_
  refine zg_iload_n F.1 zd_LG_lock_1 rfl rfl ?_
  obtain ⟨y2, hc2, h⟩ := Option.bind_eq_some_iff.mp h
  by_cases hz2 : y2.1 = 0
  case neg =>
    rw [if_neg hz2] at h
    exact absurd (congrArg (fun z => z.1) (Option.some.inj h)) hz2
  rw [if_pos hz2] at h
  have hk2 : zw_kind y2.2.1 = 2 := zkd_LG_carNumbered (hc2.trans (congrArg some (zw_y0 hz2)))
  refine zg_callV F (As := [.int a1]) (rest := []) (zk_LG_carNumbered F.1.2.2 N a1 st (hc2.trans (congrArg some (zw_y0 hz2)))) rfl rfl zcal_LG_carNumbered zml_LG_112 ⟨(Nat.le_of_ble_eq_true rfl), (Nat.le_of_ble_eq_true rfl)⟩ (zg_rec0 F.1 (by decide) rfl) rfl (Nat.le_of_ble_eq_true rfl) ⟨(Nat.le_of_ble_eq_true rfl), (Nat.le_of_ble_eq_true rfl)⟩ zd_LG_lock_2 ?_
  refine zg_astore_n F.1 [some (.ref 0), some (.int a1), some (.int a2), some (.ref y2.2.1)] zd_LG_lock_5 rfl (by decide) rfl ?_
  refine zg_aload_n F.1 zd_LG_lock_6 rfl rfl ?_
  refine zg_getI2 F.1 (by decide) hk2 5 (by decide) (y2.2.2 y2.2.1 5) rfl rfl zwf_LG_119 zd_LG_lock_7 ?_
  refine zg_iload_n F.1 zd_LG_lock_10 rfl rfl ?_
  refine zg_icmp_eq F.1 40 zd_LG_lock_11 rfl (fun hc => ?_) (fun hc => ?_)
  · rw [if_pos hc] at h
    exact zg_le (zw_len (zw_len (zw_len (zw_len zw_le0)))) (zl_LG_lock_40 F y2.2.2 h)
  · rw [if_neg hc] at h
    refine zg_aload_n F.1 zd_LG_lock_14 rfl rfl ?_
    refine zg_iload_n F.1 zd_LG_lock_15 rfl rfl ?_
    by_cases hb16 : a2 = 0 ∨ a2 = 1
    case neg => rw [if_neg hb16] at h; cases h
    rw [if_pos hb16] at h
    refine zg_putI2 F.1 (by decide) hk2 5 (by decide) (Or.inr (Or.inr (Or.inr (Or.inr (Or.inr (Or.inl rfl)))))) .boolean (by decide) rfl (zw_nb hb16) (zw_fb hb16) zwf_LG_119 zd_LG_lock_16 ?_
    refine zg_aload_n F.1 zd_LG_lock_19 rfl rfl ?_
    refine zg_iload_n F.1 zd_LG_lock_20 rfl rfl ?_
    refine zg_if_eq F.1 32 zd_LG_lock_21 rfl (fun hc => ?_) (fun hc => ?_)
    · rw [if_pos hc] at h
      refine zg_aload_n F.1 zd_LG_lock_32 rfl rfl ?_
      refine zg_aload_n F.1 zd_LG_lock_33 rfl rfl ?_
      obtain ⟨y34, hc34, h⟩ := Option.bind_eq_some_iff.mp h
      refine zg_callV F (As := [.ref y2.2.1]) (rest := [.ref 0]) (zk_LG_takeWaitingForNoneIfUsable F.1.2.2 N y2.2.1 (zp y2.2.2 y2.2.1 5 a2) hk2 hc34) rfl rfl zcal_LG_takeWaitingForNoneIfUsable zml_LG_126 ⟨(Nat.le_of_ble_eq_true rfl), (Nat.le_of_ble_eq_true rfl)⟩ (zg_rec0 F.1 (by decide) rfl) rfl (Nat.le_of_ble_eq_true rfl) ⟨(Nat.le_of_ble_eq_true rfl), (Nat.le_of_ble_eq_true rfl)⟩ zd_LG_lock_34 ?_
      exact zg_le (zw_len (zw_len (zw_len (zw_len zw_le0)))) (zl_LG_lock_37 F y34.1 y34.2 h)
    · rw [if_neg hc] at h
      refine zg_aload_n F.1 zd_LG_lock_24 rfl rfl ?_
      refine zg_aload_n F.1 zd_LG_lock_25 rfl rfl ?_
      obtain ⟨y26, hc26, h⟩ := Option.bind_eq_some_iff.mp h
      refine zg_callV F (As := [.ref y2.2.1]) (rest := [.ref 0]) (zk_LG_takeWaitingFor F.1.2.2 N y2.2.1 (zp y2.2.2 y2.2.1 5 a2) hk2 hc26) rfl rfl zcal_LG_takeWaitingFor zml_LG_122 ⟨(Nat.le_of_ble_eq_true rfl), (Nat.le_of_ble_eq_true rfl)⟩ (zg_rec0 F.1 (by decide) rfl) rfl (Nat.le_of_ble_eq_true rfl) ⟨(Nat.le_of_ble_eq_true rfl), (Nat.le_of_ble_eq_true rfl)⟩ zd_LG_lock_26 ?_
      refine zg_goto F.1 37 zd_LG_lock_29 rfl ?_
      exact zg_le (zw_len (zw_len (zw_len (zw_len zw_le0)))) (zl_LG_lock_37 F y26.1 y26.2 h)
theorem zk_LG_lock {E : zE} (hn : zw_n E 10) (N : Nat) (a1 : Int32) (a2 : Int32) (st : zS)  {rst : zS} (h : zf_LG_lock N a1 a2 st = some (0, rst)) : zw_M l zy_LG_lock (Cond.code zy_LG_lock zo_LG_lock 4 none :: zwAll) zrm_LG_lock E [.ref 0, .int a1, .int a2] st none rst :=
  zw_enter (by decide) rfl hn (Nat.le_of_ble_eq_true rfl) (by simp [Value.category]) 1 (fun p e s m args below meth c A F => zl_LG_lock_0 F a1 a2 st  h)
abbrev zrx_LG_lock : Room := { frames := 7, cells := 1, slots := 6, locals := 139 }
set_option maxHeartbeats 4000000 in
theorem zxl_LG_lock_40 (F : zw_X p m c zo_LG_lock 4 s args zR0 E 10 A meth none) (Y : zx_X zx_ss l s A c) {N : Nat} {xx : Nat} {rst : zS} (hxx : ¬ xx = 0)    (st : zS)  (h : zf_LG_lock_40 N   st = some (xx, rst)) : zw_G p l e zrx_LG_lock s m args below meth c (zx_MQ below E xx rst A args s) E A 4 0 40 [none, none, none, none] [] st := by
  unfold zf_LG_lock_40 at h
  cases h
  exact absurd rfl hxx
set_option maxHeartbeats 4000000 in
theorem zxl_LG_lock_37 (F : zw_X p m c zo_LG_lock 4 s args zR0 E 10 A meth none) (Y : zx_X zx_ss l s A c) {N : Nat} {xx : Nat} {rst : zS} (hxx : ¬ xx = 0)   (s0 : Int32) (st : zS)  (h : zf_LG_lock_37 N  s0 st = some (xx, rst)) : zw_G p l e zrx_LG_lock s m args below meth c (zx_MQ below E xx rst A args s) E A 4 0 37 [none, none, none, none] [.int s0, .ref 0] st := by
  unfold zf_LG_lock_37 at h
  obtain ⟨t37, hc37, h⟩ := Option.bind_eq_some_iff.mp h
  refine zg_callV F (As := [.int s0]) (rest := []) (zk_LG_chooseForAll F.1.2.2 N s0 st hc37) rfl rfl zcal_LG_chooseForAll zml_LG_129 ⟨(Nat.le_of_ble_eq_true rfl), (Nat.le_of_ble_eq_true rfl)⟩ (zg_rec0 F.1 (by decide) rfl) rfl (Nat.le_of_ble_eq_true rfl) ⟨(Nat.le_of_ble_eq_true rfl), (Nat.le_of_ble_eq_true rfl)⟩ zd_LG_lock_37 ?_
  exact zxl_LG_lock_40 F Y hxx t37 h
set_option maxHeartbeats 4000000 in
theorem zxl_LG_lock_0 (F : zw_X p m c zo_LG_lock 4 s args zR0 E 10 A meth none) (Y : zx_X zx_ss l s A c) {N : Nat} {xx : Nat} {rst : zS} (hxx : ¬ xx = 0) (a1 : Int32) (a2 : Int32) (st : zS)  (h : zf_LG_lock N a1 a2 st = some (xx, rst)) : zw_G p l e zrx_LG_lock s m args below meth c (zx_MQ below E xx rst A args s) E A 4 0 0 [some (.ref 0), some (.int a1), some (.int a2), none] [] st := by
  unfold zf_LG_lock at h
  refine zg_aload_n F.1 zd_LG_lock_0 rfl rfl ?_
  refine zg_iload_n F.1 zd_LG_lock_1 rfl rfl ?_
  obtain ⟨y2, hc2, h⟩ := Option.bind_eq_some_iff.mp h
  by_cases hz2 : y2.1 = 0
  case neg =>
    rw [if_neg hz2] at h
    have e9 := Option.some.inj h
    have e1 := congrArg (fun z => z.1) e9
    have e3 := congrArg (fun z => z.2) e9
    dsimp only at e1 e3
    subst e1; subst e3
    exact zx_callV F Y (As := [.int a1]) (rest := []) (zx_LG_carNumbered Y.1 F.1.2.2 N a1 st hz2 hc2) rfl rfl zcal_LG_carNumbered zml_LG_112 ⟨(Nat.le_of_ble_eq_true rfl), (Nat.le_of_ble_eq_true rfl)⟩ (zg_rec0 F.1 (by decide) rfl) rfl (Nat.le_of_ble_eq_true rfl) ⟨(Nat.le_of_ble_eq_true rfl), (Nat.le_of_ble_eq_true rfl)⟩ zd_LG_lock_2
  rw [if_pos hz2] at h
  have hk2 : zw_kind y2.2.1 = 2 := zkd_LG_carNumbered (hc2.trans (congrArg some (zw_y0 hz2)))
  refine zg_callV F (As := [.int a1]) (rest := []) (zk_LG_carNumbered F.1.2.2 N a1 st (hc2.trans (congrArg some (zw_y0 hz2)))) rfl rfl zcal_LG_carNumbered zml_LG_112 ⟨(Nat.le_of_ble_eq_true rfl), (Nat.le_of_ble_eq_true rfl)⟩ (zg_rec0 F.1 (by decide) rfl) rfl (Nat.le_of_ble_eq_true rfl) ⟨(Nat.le_of_ble_eq_true rfl), (Nat.le_of_ble_eq_true rfl)⟩ zd_LG_lock_2 ?_
  refine zg_astore_n F.1 [some (.ref 0), some (.int a1), some (.int a2), some (.ref y2.2.1)] zd_LG_lock_5 rfl (by decide) rfl ?_
  refine zg_aload_n F.1 zd_LG_lock_6 rfl rfl ?_
  refine zg_getI2 F.1 (by decide) hk2 5 (by decide) (y2.2.2 y2.2.1 5) rfl rfl zwf_LG_119 zd_LG_lock_7 ?_
  refine zg_iload_n F.1 zd_LG_lock_10 rfl rfl ?_
  refine zg_icmp_eq F.1 40 zd_LG_lock_11 rfl (fun hc => ?_) (fun hc => ?_)
  · rw [if_pos hc] at h
    exact zg_le (zw_len (zw_len (zw_len (zw_len zw_le0)))) (zxl_LG_lock_40 F Y hxx y2.2.2 h)
  · rw [if_neg hc] at h
    refine zg_aload_n F.1 zd_LG_lock_14 rfl rfl ?_
    refine zg_iload_n F.1 zd_LG_lock_15 rfl rfl ?_
    by_cases hb16 : a2 = 0 ∨ a2 = 1
    case neg => rw [if_neg hb16] at h; cases h
    rw [if_pos hb16] at h
    refine zg_putI2 F.1 (by decide) hk2 5 (by decide) (Or.inr (Or.inr (Or.inr (Or.inr (Or.inr (Or.inl rfl)))))) .boolean (by decide) rfl (zw_nb hb16) (zw_fb hb16) zwf_LG_119 zd_LG_lock_16 ?_
    refine zg_aload_n F.1 zd_LG_lock_19 rfl rfl ?_
    refine zg_iload_n F.1 zd_LG_lock_20 rfl rfl ?_
    refine zg_if_eq F.1 32 zd_LG_lock_21 rfl (fun hc => ?_) (fun hc => ?_)
    · rw [if_pos hc] at h
      refine zg_aload_n F.1 zd_LG_lock_32 rfl rfl ?_
      refine zg_aload_n F.1 zd_LG_lock_33 rfl rfl ?_
      obtain ⟨y34, hc34, h⟩ := Option.bind_eq_some_iff.mp h
      refine zg_callV F (As := [.ref y2.2.1]) (rest := [.ref 0]) (zk_LG_takeWaitingForNoneIfUsable F.1.2.2 N y2.2.1 (zp y2.2.2 y2.2.1 5 a2) hk2 hc34) rfl rfl zcal_LG_takeWaitingForNoneIfUsable zml_LG_126 ⟨(Nat.le_of_ble_eq_true rfl), (Nat.le_of_ble_eq_true rfl)⟩ (zg_rec0 F.1 (by decide) rfl) rfl (Nat.le_of_ble_eq_true rfl) ⟨(Nat.le_of_ble_eq_true rfl), (Nat.le_of_ble_eq_true rfl)⟩ zd_LG_lock_34 ?_
      exact zg_le (zw_len (zw_len (zw_len (zw_len zw_le0)))) (zxl_LG_lock_37 F Y hxx y34.1 y34.2 h)
    · rw [if_neg hc] at h
      refine zg_aload_n F.1 zd_LG_lock_24 rfl rfl ?_
      refine zg_aload_n F.1 zd_LG_lock_25 rfl rfl ?_
      obtain ⟨y26, hc26, h⟩ := Option.bind_eq_some_iff.mp h
      refine zg_callV F (As := [.ref y2.2.1]) (rest := [.ref 0]) (zk_LG_takeWaitingFor F.1.2.2 N y2.2.1 (zp y2.2.2 y2.2.1 5 a2) hk2 hc26) rfl rfl zcal_LG_takeWaitingFor zml_LG_122 ⟨(Nat.le_of_ble_eq_true rfl), (Nat.le_of_ble_eq_true rfl)⟩ (zg_rec0 F.1 (by decide) rfl) rfl (Nat.le_of_ble_eq_true rfl) ⟨(Nat.le_of_ble_eq_true rfl), (Nat.le_of_ble_eq_true rfl)⟩ zd_LG_lock_26 ?_
      refine zg_goto F.1 37 zd_LG_lock_29 rfl ?_
      exact zg_le (zw_len (zw_len (zw_len (zw_len zw_le0)))) (zxl_LG_lock_37 F Y hxx y26.1 y26.2 h)
theorem zx_LG_lock {E : zE} (hst : l.stackTraces = false) (hn : zw_n E 10) (N : Nat) (a1 : Int32) (a2 : Int32) (st : zS)  {xx : Nat} {rst : zS} (hxx : ¬ xx = 0) (h : zf_LG_lock N a1 a2 st = some (xx, rst)) : zx_M zx_ss l zy_LG_lock (Cond.code zy_LG_lock zo_LG_lock 4 none :: zwAll) zrx_LG_lock E [.ref 0, .int a1, .int a2] st xx rst :=
  zx_enter hst (by decide) rfl hn (Nat.le_of_ble_eq_true rfl) (by simp [Value.category]) 1 (fun p e s m args below meth c A F Y => zxl_LG_lock_0 F Y hxx a1 a2 st  h)
abbrev zrm_LG_fail : Room := { frames := 6, cells := 0, slots := 0, locals := 139 }
def zf_LG_fail_40 (N : Nat)   (st : zS) : Option (Nat × zS) := some (0, st)
set_option maxHeartbeats 4000000 in
theorem zl_LG_fail_40 (F : zw_X p m c zo_LG_fail 4 s args zR0 E 10 A meth none) {N : Nat} {rst : zS}    (st : zS)  (h : zf_LG_fail_40 N   st = some (0, rst)) : zw_G p l e zrm_LG_fail s m args below meth c (MQ below (zw_Q E none rst A) args s 0 0 A) E A 4 0 40 [none, none, none, none] [] st := by
  unfold zf_LG_fail_40 at h
  cases h
  exact zg_vret F zd_LG_fail_40
def zf_LG_fail_37 (N : Nat)  (s0 : Int32) (st : zS) : Option (Nat × zS) := ((zf_LG_chooseForAll N s0 st).bind fun t37 => zf_LG_fail_40 N t37)
set_option maxHeartbeats 4000000 in
theorem zl_LG_fail_37 (F : zw_X p m c zo_LG_fail 4 s args zR0 E 10 A meth none) {N : Nat} {rst : zS}   (s0 : Int32) (st : zS)  (h : zf_LG_fail_37 N  s0 st = some (0, rst)) : zw_G p l e zrm_LG_fail s m args below meth c (MQ below (zw_Q E none rst A) args s 0 0 A) E A 4 0 37 [none, none, none, none] [.int s0, .ref 0] st := by
  unfold zf_LG_fail_37 at h
  obtain ⟨t37, hc37, h⟩ := Option.bind_eq_some_iff.mp h
  refine zg_callV F (As := [.int s0]) (rest := []) (zk_LG_chooseForAll F.1.2.2 N s0 st hc37) rfl rfl zcal_LG_chooseForAll zml_LG_129 ⟨(Nat.le_of_ble_eq_true rfl), (Nat.le_of_ble_eq_true rfl)⟩ (zg_rec0 F.1 (by decide) rfl) rfl (Nat.le_of_ble_eq_true rfl) ⟨(Nat.le_of_ble_eq_true rfl), (Nat.le_of_ble_eq_true rfl)⟩ zd_LG_fail_37 ?_
  exact zl_LG_fail_40 F t37 h
def zf_LG_fail (N : Nat) (a1 : Int32) (a2 : Int32) (st : zS) : Option (Nat × zS) := ((zf_LG_carNumbered N a1 st).bind fun y2 => (if y2.1 = 0 then (if (y2.2.2 y2.2.1 6) = a2 then zf_LG_fail_40 N y2.2.2 else (if a2 = 0 ∨ a2 = 1 then (if a2 = 0 then ((zf_LG_takeWaitingForNoneIfUsable N y2.2.1 (zp y2.2.2 y2.2.1 6 a2)).bind fun y34 => zf_LG_fail_37 N y34.1 y34.2) else ((zf_LG_takeWaitingFor N y2.2.1 (zp y2.2.2 y2.2.1 6 a2)).bind fun y26 => zf_LG_fail_37 N y26.1 y26.2)) else none)) else some (y2.1, y2.2.2)))
set_option maxHeartbeats 4000000 in
theorem zl_LG_fail_0 (F : zw_X p m c zo_LG_fail 4 s args zR0 E 10 A meth none) {N : Nat} {rst : zS} (a1 : Int32) (a2 : Int32) (st : zS)  (h : zf_LG_fail N a1 a2 st = some (0, rst)) : zw_G p l e zrm_LG_fail s m args below meth c (MQ below (zw_Q E none rst A) args s 0 0 A) E A 4 0 0 [some (.ref 0), some (.int a1), some (.int a2), none] [] st := by
  unfold zf_LG_fail at h
  refine zg_aload_n F.1 zd_LG_fail_0 rfl rfl ?_
  refine zg_iload_n F.1 zd_LG_fail_1 rfl rfl ?_
  obtain ⟨y2, hc2, h⟩ := Option.bind_eq_some_iff.mp h
  by_cases hz2 : y2.1 = 0
  case neg =>
    rw [if_neg hz2] at h
    exact absurd (congrArg (fun z => z.1) (Option.some.inj h)) hz2
  rw [if_pos hz2] at h
  have hk2 : zw_kind y2.2.1 = 2 := zkd_LG_carNumbered (hc2.trans (congrArg some (zw_y0 hz2)))
  refine zg_callV F (As := [.int a1]) (rest := []) (zk_LG_carNumbered F.1.2.2 N a1 st (hc2.trans (congrArg some (zw_y0 hz2)))) rfl rfl zcal_LG_carNumbered zml_LG_112 ⟨(Nat.le_of_ble_eq_true rfl), (Nat.le_of_ble_eq_true rfl)⟩ (zg_rec0 F.1 (by decide) rfl) rfl (Nat.le_of_ble_eq_true rfl) ⟨(Nat.le_of_ble_eq_true rfl), (Nat.le_of_ble_eq_true rfl)⟩ zd_LG_fail_2 ?_
  refine zg_astore_n F.1 [some (.ref 0), some (.int a1), some (.int a2), some (.ref y2.2.1)] zd_LG_fail_5 rfl (by decide) rfl ?_
  refine zg_aload_n F.1 zd_LG_fail_6 rfl rfl ?_
  refine zg_getI2 F.1 (by decide) hk2 6 (by decide) (y2.2.2 y2.2.1 6) rfl rfl zwf_LG_101 zd_LG_fail_7 ?_
  refine zg_iload_n F.1 zd_LG_fail_10 rfl rfl ?_
  refine zg_icmp_eq F.1 40 zd_LG_fail_11 rfl (fun hc => ?_) (fun hc => ?_)
  · rw [if_pos hc] at h
    exact zg_le (zw_len (zw_len (zw_len (zw_len zw_le0)))) (zl_LG_fail_40 F y2.2.2 h)
  · rw [if_neg hc] at h
    refine zg_aload_n F.1 zd_LG_fail_14 rfl rfl ?_
    refine zg_iload_n F.1 zd_LG_fail_15 rfl rfl ?_
    by_cases hb16 : a2 = 0 ∨ a2 = 1
    case neg => rw [if_neg hb16] at h; cases h
    rw [if_pos hb16] at h
    refine zg_putI2 F.1 (by decide) hk2 6 (by decide) (Or.inr (Or.inr (Or.inr (Or.inr (Or.inr (Or.inr (Or.inl rfl))))))) .boolean (by decide) rfl (zw_nb hb16) (zw_fb hb16) zwf_LG_101 zd_LG_fail_16 ?_
    refine zg_aload_n F.1 zd_LG_fail_19 rfl rfl ?_
    refine zg_iload_n F.1 zd_LG_fail_20 rfl rfl ?_
    refine zg_if_eq F.1 32 zd_LG_fail_21 rfl (fun hc => ?_) (fun hc => ?_)
    · rw [if_pos hc] at h
      refine zg_aload_n F.1 zd_LG_fail_32 rfl rfl ?_
      refine zg_aload_n F.1 zd_LG_fail_33 rfl rfl ?_
      obtain ⟨y34, hc34, h⟩ := Option.bind_eq_some_iff.mp h
      refine zg_callV F (As := [.ref y2.2.1]) (rest := [.ref 0]) (zk_LG_takeWaitingForNoneIfUsable F.1.2.2 N y2.2.1 (zp y2.2.2 y2.2.1 6 a2) hk2 hc34) rfl rfl zcal_LG_takeWaitingForNoneIfUsable zml_LG_126 ⟨(Nat.le_of_ble_eq_true rfl), (Nat.le_of_ble_eq_true rfl)⟩ (zg_rec0 F.1 (by decide) rfl) rfl (Nat.le_of_ble_eq_true rfl) ⟨(Nat.le_of_ble_eq_true rfl), (Nat.le_of_ble_eq_true rfl)⟩ zd_LG_fail_34 ?_
      exact zg_le (zw_len (zw_len (zw_len (zw_len zw_le0)))) (zl_LG_fail_37 F y34.1 y34.2 h)
    · rw [if_neg hc] at h
      refine zg_aload_n F.1 zd_LG_fail_24 rfl rfl ?_
      refine zg_aload_n F.1 zd_LG_fail_25 rfl rfl ?_
      obtain ⟨y26, hc26, h⟩ := Option.bind_eq_some_iff.mp h
      refine zg_callV F (As := [.ref y2.2.1]) (rest := [.ref 0]) (zk_LG_takeWaitingFor F.1.2.2 N y2.2.1 (zp y2.2.2 y2.2.1 6 a2) hk2 hc26) rfl rfl zcal_LG_takeWaitingFor zml_LG_122 ⟨(Nat.le_of_ble_eq_true rfl), (Nat.le_of_ble_eq_true rfl)⟩ (zg_rec0 F.1 (by decide) rfl) rfl (Nat.le_of_ble_eq_true rfl) ⟨(Nat.le_of_ble_eq_true rfl), (Nat.le_of_ble_eq_true rfl)⟩ zd_LG_fail_26 ?_
      refine zg_goto F.1 37 zd_LG_fail_29 rfl ?_
      exact zg_le (zw_len (zw_len (zw_len (zw_len zw_le0)))) (zl_LG_fail_37 F y26.1 y26.2 h)
theorem zk_LG_fail {E : zE} (hn : zw_n E 10) (N : Nat) (a1 : Int32) (a2 : Int32) (st : zS)  {rst : zS} (h : zf_LG_fail N a1 a2 st = some (0, rst)) : zw_M l zy_LG_fail (Cond.code zy_LG_fail zo_LG_fail 4 none :: zwAll) zrm_LG_fail E [.ref 0, .int a1, .int a2] st none rst :=
  zw_enter (by decide) rfl hn (Nat.le_of_ble_eq_true rfl) (by simp [Value.category]) 1 (fun p e s m args below meth c A F => zl_LG_fail_0 F a1 a2 st  h)
abbrev zrx_LG_fail : Room := { frames := 7, cells := 1, slots := 6, locals := 139 }
set_option maxHeartbeats 4000000 in
theorem zxl_LG_fail_40 (F : zw_X p m c zo_LG_fail 4 s args zR0 E 10 A meth none) (Y : zx_X zx_ss l s A c) {N : Nat} {xx : Nat} {rst : zS} (hxx : ¬ xx = 0)    (st : zS)  (h : zf_LG_fail_40 N   st = some (xx, rst)) : zw_G p l e zrx_LG_fail s m args below meth c (zx_MQ below E xx rst A args s) E A 4 0 40 [none, none, none, none] [] st := by
  unfold zf_LG_fail_40 at h
  cases h
  exact absurd rfl hxx
set_option maxHeartbeats 4000000 in
theorem zxl_LG_fail_37 (F : zw_X p m c zo_LG_fail 4 s args zR0 E 10 A meth none) (Y : zx_X zx_ss l s A c) {N : Nat} {xx : Nat} {rst : zS} (hxx : ¬ xx = 0)   (s0 : Int32) (st : zS)  (h : zf_LG_fail_37 N  s0 st = some (xx, rst)) : zw_G p l e zrx_LG_fail s m args below meth c (zx_MQ below E xx rst A args s) E A 4 0 37 [none, none, none, none] [.int s0, .ref 0] st := by
  unfold zf_LG_fail_37 at h
  obtain ⟨t37, hc37, h⟩ := Option.bind_eq_some_iff.mp h
  refine zg_callV F (As := [.int s0]) (rest := []) (zk_LG_chooseForAll F.1.2.2 N s0 st hc37) rfl rfl zcal_LG_chooseForAll zml_LG_129 ⟨(Nat.le_of_ble_eq_true rfl), (Nat.le_of_ble_eq_true rfl)⟩ (zg_rec0 F.1 (by decide) rfl) rfl (Nat.le_of_ble_eq_true rfl) ⟨(Nat.le_of_ble_eq_true rfl), (Nat.le_of_ble_eq_true rfl)⟩ zd_LG_fail_37 ?_
  exact zxl_LG_fail_40 F Y hxx t37 h
set_option maxHeartbeats 4000000 in
theorem zxl_LG_fail_0 (F : zw_X p m c zo_LG_fail 4 s args zR0 E 10 A meth none) (Y : zx_X zx_ss l s A c) {N : Nat} {xx : Nat} {rst : zS} (hxx : ¬ xx = 0) (a1 : Int32) (a2 : Int32) (st : zS)  (h : zf_LG_fail N a1 a2 st = some (xx, rst)) : zw_G p l e zrx_LG_fail s m args below meth c (zx_MQ below E xx rst A args s) E A 4 0 0 [some (.ref 0), some (.int a1), some (.int a2), none] [] st := by
  unfold zf_LG_fail at h
  refine zg_aload_n F.1 zd_LG_fail_0 rfl rfl ?_
  refine zg_iload_n F.1 zd_LG_fail_1 rfl rfl ?_
  obtain ⟨y2, hc2, h⟩ := Option.bind_eq_some_iff.mp h
  by_cases hz2 : y2.1 = 0
  case neg =>
    rw [if_neg hz2] at h
    have e9 := Option.some.inj h
    have e1 := congrArg (fun z => z.1) e9
    have e3 := congrArg (fun z => z.2) e9
    dsimp only at e1 e3
    subst e1; subst e3
    exact zx_callV F Y (As := [.int a1]) (rest := []) (zx_LG_carNumbered Y.1 F.1.2.2 N a1 st hz2 hc2) rfl rfl zcal_LG_carNumbered zml_LG_112 ⟨(Nat.le_of_ble_eq_true rfl), (Nat.le_of_ble_eq_true rfl)⟩ (zg_rec0 F.1 (by decide) rfl) rfl (Nat.le_of_ble_eq_true rfl) ⟨(Nat.le_of_ble_eq_true rfl), (Nat.le_of_ble_eq_true rfl)⟩ zd_LG_fail_2
  rw [if_pos hz2] at h
  have hk2 : zw_kind y2.2.1 = 2 := zkd_LG_carNumbered (hc2.trans (congrArg some (zw_y0 hz2)))
  refine zg_callV F (As := [.int a1]) (rest := []) (zk_LG_carNumbered F.1.2.2 N a1 st (hc2.trans (congrArg some (zw_y0 hz2)))) rfl rfl zcal_LG_carNumbered zml_LG_112 ⟨(Nat.le_of_ble_eq_true rfl), (Nat.le_of_ble_eq_true rfl)⟩ (zg_rec0 F.1 (by decide) rfl) rfl (Nat.le_of_ble_eq_true rfl) ⟨(Nat.le_of_ble_eq_true rfl), (Nat.le_of_ble_eq_true rfl)⟩ zd_LG_fail_2 ?_
  refine zg_astore_n F.1 [some (.ref 0), some (.int a1), some (.int a2), some (.ref y2.2.1)] zd_LG_fail_5 rfl (by decide) rfl ?_
  refine zg_aload_n F.1 zd_LG_fail_6 rfl rfl ?_
  refine zg_getI2 F.1 (by decide) hk2 6 (by decide) (y2.2.2 y2.2.1 6) rfl rfl zwf_LG_101 zd_LG_fail_7 ?_
  refine zg_iload_n F.1 zd_LG_fail_10 rfl rfl ?_
  refine zg_icmp_eq F.1 40 zd_LG_fail_11 rfl (fun hc => ?_) (fun hc => ?_)
  · rw [if_pos hc] at h
    exact zg_le (zw_len (zw_len (zw_len (zw_len zw_le0)))) (zxl_LG_fail_40 F Y hxx y2.2.2 h)
  · rw [if_neg hc] at h
    refine zg_aload_n F.1 zd_LG_fail_14 rfl rfl ?_
    refine zg_iload_n F.1 zd_LG_fail_15 rfl rfl ?_
    by_cases hb16 : a2 = 0 ∨ a2 = 1
    case neg => rw [if_neg hb16] at h; cases h
    rw [if_pos hb16] at h
    refine zg_putI2 F.1 (by decide) hk2 6 (by decide) (Or.inr (Or.inr (Or.inr (Or.inr (Or.inr (Or.inr (Or.inl rfl))))))) .boolean (by decide) rfl (zw_nb hb16) (zw_fb hb16) zwf_LG_101 zd_LG_fail_16 ?_
    refine zg_aload_n F.1 zd_LG_fail_19 rfl rfl ?_
    refine zg_iload_n F.1 zd_LG_fail_20 rfl rfl ?_
    refine zg_if_eq F.1 32 zd_LG_fail_21 rfl (fun hc => ?_) (fun hc => ?_)
    · rw [if_pos hc] at h
      refine zg_aload_n F.1 zd_LG_fail_32 rfl rfl ?_
      refine zg_aload_n F.1 zd_LG_fail_33 rfl rfl ?_
      obtain ⟨y34, hc34, h⟩ := Option.bind_eq_some_iff.mp h
      refine zg_callV F (As := [.ref y2.2.1]) (rest := [.ref 0]) (zk_LG_takeWaitingForNoneIfUsable F.1.2.2 N y2.2.1 (zp y2.2.2 y2.2.1 6 a2) hk2 hc34) rfl rfl zcal_LG_takeWaitingForNoneIfUsable zml_LG_126 ⟨(Nat.le_of_ble_eq_true rfl), (Nat.le_of_ble_eq_true rfl)⟩ (zg_rec0 F.1 (by decide) rfl) rfl (Nat.le_of_ble_eq_true rfl) ⟨(Nat.le_of_ble_eq_true rfl), (Nat.le_of_ble_eq_true rfl)⟩ zd_LG_fail_34 ?_
      exact zg_le (zw_len (zw_len (zw_len (zw_len zw_le0)))) (zxl_LG_fail_37 F Y hxx y34.1 y34.2 h)
    · rw [if_neg hc] at h
      refine zg_aload_n F.1 zd_LG_fail_24 rfl rfl ?_
      refine zg_aload_n F.1 zd_LG_fail_25 rfl rfl ?_
      obtain ⟨y26, hc26, h⟩ := Option.bind_eq_some_iff.mp h
      refine zg_callV F (As := [.ref y2.2.1]) (rest := [.ref 0]) (zk_LG_takeWaitingFor F.1.2.2 N y2.2.1 (zp y2.2.2 y2.2.1 6 a2) hk2 hc26) rfl rfl zcal_LG_takeWaitingFor zml_LG_122 ⟨(Nat.le_of_ble_eq_true rfl), (Nat.le_of_ble_eq_true rfl)⟩ (zg_rec0 F.1 (by decide) rfl) rfl (Nat.le_of_ble_eq_true rfl) ⟨(Nat.le_of_ble_eq_true rfl), (Nat.le_of_ble_eq_true rfl)⟩ zd_LG_fail_26 ?_
      refine zg_goto F.1 37 zd_LG_fail_29 rfl ?_
      exact zg_le (zw_len (zw_len (zw_len (zw_len zw_le0)))) (zxl_LG_fail_37 F Y hxx y26.1 y26.2 h)
theorem zx_LG_fail {E : zE} (hst : l.stackTraces = false) (hn : zw_n E 10) (N : Nat) (a1 : Int32) (a2 : Int32) (st : zS)  {xx : Nat} {rst : zS} (hxx : ¬ xx = 0) (h : zf_LG_fail N a1 a2 st = some (xx, rst)) : zx_M zx_ss l zy_LG_fail (Cond.code zy_LG_fail zo_LG_fail 4 none :: zwAll) zrx_LG_fail E [.ref 0, .int a1, .int a2] st xx rst :=
  zx_enter hst (by decide) rfl hn (Nat.le_of_ble_eq_true rfl) (by simp [Value.category]) 1 (fun p e s m args below meth c A F Y => zxl_LG_fail_0 F Y hxx a1 a2 st  h)
set_option maxRecDepth 100000 in
theorem zwf_LG_142 : Cond.fieldLink zR0 142 (zT2 0).1 (zT2 0).2.1 (zT2 0).2.2.1 ∈ zwAll := zw_at 109 rfl rfl
set_option maxRecDepth 100000 in
theorem zwf_LG_145 : Cond.fieldLink zR0 145 (zT2 1).1 (zT2 1).2.1 (zT2 1).2.2.1 ∈ zwAll := zw_at 111 rfl rfl
set_option maxRecDepth 100000 in
theorem zwf_LG_148 : Cond.fieldLink zR0 148 (zT2 2).1 (zT2 2).2.1 (zT2 2).2.2.1 ∈ zwAll := zw_at 113 rfl rfl
set_option maxRecDepth 100000 in
theorem zwf_LG_151 : Cond.fieldLink zR0 151 (zT2 3).1 (zT2 3).2.1 (zT2 3).2.2.1 ∈ zwAll := zw_at 115 rfl rfl
set_option maxRecDepth 100000 in
theorem zwf_LG_154 : Cond.fieldLink zR0 154 (zT2 8).1 (zT2 8).2.1 (zT2 8).2.2.1 ∈ zwAll := zw_at 124 rfl rfl
set_option maxRecDepth 100000 in
theorem zml_LG_157 : Cond.methodLink zR0 157 zy_In_bitCount ∈ zwAll := zw_at 580 rfl rfl
abbrev zrm_LG_car : Room := { frames := 1, cells := 0, slots := 0, locals := 21 }
def zf_LG_car_109 (N : Nat)  (s0 : Int32) (s1 : Int32) (st : zS) : Option (Nat × Int32 × zS) := some (0, (s1 + s0), st)
set_option maxHeartbeats 4000000 in
theorem zl_LG_car_109 (F : zw_X p m c zo_LG_car 4 s args zR0 E 10 A meth (some .int)) {N : Nat} {rv : Int32} {rst : zS}   (s0 : Int32) (s1 : Int32) (st : zS)  (h : zf_LG_car_109 N  s0 s1 st = some (0, rv, rst)) : zw_G p l e zrm_LG_car s m args below meth c (MQ below (zw_Q E (some (.int rv)) rst A) args s 0 0 A) E A 4 0 109 [none, none, none, none] [.int s0, .int s1] st := by
  unfold zf_LG_car_109 at h
  refine zg_iadd F.1 zd_LG_car_109 ?_
  cases h
  exact zg_iret F zd_LG_car_110
def zf_LG_car_96 (N : Nat)  (l3 : Nat) (s0 : Int32) (s1 : Int32) (st : zS) : Option (Nat × Int32 × zS) := (if (st l3 7) = 0 then zf_LG_car_109 N 0 (s1 + s0) st else zf_LG_car_109 N 4 (s1 + s0) st)
set_option maxHeartbeats 4000000 in
theorem zl_LG_car_96 (F : zw_X p m c zo_LG_car 4 s args zR0 E 10 A meth (some .int)) {N : Nat} {rv : Int32} {rst : zS}   (l3 : Nat) (s0 : Int32) (s1 : Int32) (st : zS) (k3 : zw_kind l3 = 2) (h : zf_LG_car_96 N  l3 s0 s1 st = some (0, rv, rst)) : zw_G p l e zrm_LG_car s m args below meth c (MQ below (zw_Q E (some (.int rv)) rst A) args s 0 0 A) E A 4 0 96 [none, none, none, some (.ref l3)] [.int s0, .int s1] st := by
  unfold zf_LG_car_96 at h
  refine zg_iadd F.1 zd_LG_car_96 ?_
  refine zg_aload_n F.1 zd_LG_car_97 rfl rfl ?_
  refine zg_getI2 F.1 (by decide) k3 7 (by decide) (st l3 7) rfl rfl zwf_LG_116 zd_LG_car_98 ?_
  refine zg_if_eq F.1 108 zd_LG_car_101 rfl (fun hc => ?_) (fun hc => ?_)
  · rw [if_pos hc] at h
    refine zg_iconst F.1 0 0 (by decide) zd_LG_car_108 ?_
    exact zg_le (zw_les (zw_les (zw_les (zw_len zw_le0)))) (zl_LG_car_109 F 0 (s1 + s0) st h)
  · rw [if_neg hc] at h
    refine zg_iconst F.1 4 4 (by decide) zd_LG_car_104 ?_
    refine zg_goto F.1 109 zd_LG_car_105 rfl ?_
    exact zg_le (zw_les (zw_les (zw_les (zw_len zw_le0)))) (zl_LG_car_109 F 4 (s1 + s0) st h)
def zf_LG_car_84 (N : Nat)  (l3 : Nat) (s0 : Int32) (st : zS) : Option (Nat × Int32 × zS) := (if (st l3 6) = 0 then zf_LG_car_96 N l3 0 s0 st else zf_LG_car_96 N l3 2 s0 st)
set_option maxHeartbeats 4000000 in
theorem zl_LG_car_84 (F : zw_X p m c zo_LG_car 4 s args zR0 E 10 A meth (some .int)) {N : Nat} {rv : Int32} {rst : zS}   (l3 : Nat) (s0 : Int32) (st : zS) (k3 : zw_kind l3 = 2) (h : zf_LG_car_84 N  l3 s0 st = some (0, rv, rst)) : zw_G p l e zrm_LG_car s m args below meth c (MQ below (zw_Q E (some (.int rv)) rst A) args s 0 0 A) E A 4 0 84 [none, none, none, some (.ref l3)] [.int s0] st := by
  unfold zf_LG_car_84 at h
  refine zg_aload_n F.1 zd_LG_car_84 rfl rfl ?_
  refine zg_getI2 F.1 (by decide) k3 6 (by decide) (st l3 6) rfl rfl zwf_LG_101 zd_LG_car_85 ?_
  refine zg_if_eq F.1 95 zd_LG_car_88 rfl (fun hc => ?_) (fun hc => ?_)
  · rw [if_pos hc] at h
    refine zg_iconst F.1 0 0 (by decide) zd_LG_car_95 ?_
    exact zl_LG_car_96 F l3 0 s0 st k3 h
  · rw [if_neg hc] at h
    refine zg_iconst F.1 2 2 (by decide) zd_LG_car_91 ?_
    refine zg_goto F.1 96 zd_LG_car_92 rfl ?_
    exact zl_LG_car_96 F l3 2 s0 st k3 h
def zf_LG_car (N : Nat) (a1 : Int32) (a2 : Int32) (st : zS) : Option (Nat × Int32 × zS) := ((zf_LG_carNumbered N a1 st).bind fun y2 => (if y2.1 = 0 then (if a2 = 0 then some (0, (y2.2.2 y2.2.1 0), y2.2.2) else (if a2 = 1 then some (0, (y2.2.2 y2.2.1 1), y2.2.2) else (if a2 = 2 then some (0, (y2.2.2 y2.2.1 2), y2.2.2) else (if a2 = 3 then some (0, (y2.2.2 y2.2.1 3), y2.2.2) else (if a2 = 4 then ((zf_In_bitCount N (y2.2.2 y2.2.1 8) y2.2.2).bind fun y68 => some (0, y68.1, y68.2)) else (if a2 = 5 then (if (y2.2.2 y2.2.1 5) = 0 then zf_LG_car_84 N y2.2.1 0 y2.2.2 else zf_LG_car_84 N y2.2.1 1 y2.2.2) else some (1, 0, y2.2.2))))))) else some (y2.1, 0, y2.2.2)))
set_option maxHeartbeats 4000000 in
theorem zl_LG_car_0 (F : zw_X p m c zo_LG_car 4 s args zR0 E 10 A meth (some .int)) {N : Nat} {rv : Int32} {rst : zS} (a1 : Int32) (a2 : Int32) (st : zS)  (h : zf_LG_car N a1 a2 st = some (0, rv, rst)) : zw_G p l e zrm_LG_car s m args below meth c (MQ below (zw_Q E (some (.int rv)) rst A) args s 0 0 A) E A 4 0 0 [some (.ref 0), some (.int a1), some (.int a2), none] [] st := by
  unfold zf_LG_car at h
  refine zg_aload_n F.1 zd_LG_car_0 rfl rfl ?_
  refine zg_iload_n F.1 zd_LG_car_1 rfl rfl ?_
  obtain ⟨y2, hc2, h⟩ := Option.bind_eq_some_iff.mp h
  by_cases hz2 : y2.1 = 0
  case neg =>
    rw [if_neg hz2] at h
    exact absurd (congrArg (fun z => z.1) (Option.some.inj h)) hz2
  rw [if_pos hz2] at h
  have hk2 : zw_kind y2.2.1 = 2 := zkd_LG_carNumbered (hc2.trans (congrArg some (zw_y0 hz2)))
  refine zg_callV F (As := [.int a1]) (rest := []) (zk_LG_carNumbered F.1.2.2 N a1 st (hc2.trans (congrArg some (zw_y0 hz2)))) rfl rfl zcal_LG_carNumbered zml_LG_112 ⟨(Nat.le_of_ble_eq_true rfl), (Nat.le_of_ble_eq_true rfl)⟩ (zg_rec0 F.1 (by decide) rfl) rfl (Nat.le_of_ble_eq_true rfl) ⟨(Nat.le_of_ble_eq_true rfl), (Nat.le_of_ble_eq_true rfl)⟩ zd_LG_car_2 ?_
  refine zg_astore_n F.1 [some (.ref 0), some (.int a1), some (.int a2), some (.ref y2.2.1)] zd_LG_car_5 rfl (by decide) rfl ?_
  refine zg_iload_n F.1 zd_LG_car_6 rfl rfl ?_
  by_cases hc0 : a2 = 0
  · rw [if_pos hc0] at h
    refine zg_tabIn F.1 44 zd_LG_car_7 (by rw [hc0]; decide) (by rw [hc0]; decide) (by rw [hc0]; rfl) rfl ?_
    refine zg_aload_n F.1 zd_LG_car_44 rfl rfl ?_
    refine zg_getI2 F.1 (by decide) hk2 0 (by decide) (y2.2.2 y2.2.1 0) rfl rfl zwf_LG_142 zd_LG_car_45 ?_
    cases h
    exact zg_iret F zd_LG_car_48
  · rw [if_neg hc0] at h
    by_cases hc1 : a2 = 1
    · rw [if_pos hc1] at h
      refine zg_tabIn F.1 49 zd_LG_car_7 (by rw [hc1]; decide) (by rw [hc1]; decide) (by rw [hc1]; rfl) rfl ?_
      refine zg_aload_n F.1 zd_LG_car_49 rfl rfl ?_
      refine zg_getI2 F.1 (by decide) hk2 1 (by decide) (y2.2.2 y2.2.1 1) rfl rfl zwf_LG_145 zd_LG_car_50 ?_
      cases h
      exact zg_iret F zd_LG_car_53
    · rw [if_neg hc1] at h
      by_cases hc2 : a2 = 2
      · rw [if_pos hc2] at h
        refine zg_tabIn F.1 54 zd_LG_car_7 (by rw [hc2]; decide) (by rw [hc2]; decide) (by rw [hc2]; rfl) rfl ?_
        refine zg_aload_n F.1 zd_LG_car_54 rfl rfl ?_
        refine zg_getI2 F.1 (by decide) hk2 2 (by decide) (y2.2.2 y2.2.1 2) rfl rfl zwf_LG_148 zd_LG_car_55 ?_
        cases h
        exact zg_iret F zd_LG_car_58
      · rw [if_neg hc2] at h
        by_cases hc3 : a2 = 3
        · rw [if_pos hc3] at h
          refine zg_tabIn F.1 59 zd_LG_car_7 (by rw [hc3]; decide) (by rw [hc3]; decide) (by rw [hc3]; rfl) rfl ?_
          refine zg_aload_n F.1 zd_LG_car_59 rfl rfl ?_
          refine zg_getI2 F.1 (by decide) hk2 3 (by decide) (y2.2.2 y2.2.1 3) rfl rfl zwf_LG_151 zd_LG_car_60 ?_
          cases h
          exact zg_iret F zd_LG_car_63
        · rw [if_neg hc3] at h
          by_cases hc4 : a2 = 4
          · rw [if_pos hc4] at h
            refine zg_tabIn F.1 64 zd_LG_car_7 (by rw [hc4]; decide) (by rw [hc4]; decide) (by rw [hc4]; rfl) rfl ?_
            refine zg_aload_n F.1 zd_LG_car_64 rfl rfl ?_
            refine zg_getI2 F.1 (by decide) hk2 8 (by decide) (y2.2.2 y2.2.1 8) rfl rfl zwf_LG_154 zd_LG_car_65 ?_
            obtain ⟨y68, hc68, h⟩ := Option.bind_eq_some_iff.mp h
            refine zg_callS F (As := [.int (y2.2.2 y2.2.1 8)]) (rest := []) (zk_In_bitCount F.1.2.2 N (y2.2.2 y2.2.1 8) y2.2.2 hc68) rfl rfl zcal_In_bitCount zml_LG_157 ⟨(Nat.le_of_ble_eq_true rfl), (Nat.le_of_ble_eq_true rfl)⟩ rfl (Nat.le_of_ble_eq_true rfl) ⟨(Nat.le_of_ble_eq_true rfl), (Nat.le_of_ble_eq_true rfl)⟩ zd_LG_car_68 ?_
            cases h
            exact zg_iret F zd_LG_car_71
          · rw [if_neg hc4] at h
            by_cases hc5 : a2 = 5
            · rw [if_pos hc5] at h
              refine zg_tabIn F.1 72 zd_LG_car_7 (by rw [hc5]; decide) (by rw [hc5]; decide) (by rw [hc5]; rfl) rfl ?_
              refine zg_aload_n F.1 zd_LG_car_72 rfl rfl ?_
              refine zg_getI2 F.1 (by decide) hk2 5 (by decide) (y2.2.2 y2.2.1 5) rfl rfl zwf_LG_119 zd_LG_car_73 ?_
              refine zg_if_eq F.1 83 zd_LG_car_76 rfl (fun hc => ?_) (fun hc => ?_)
              · rw [if_pos hc] at h
                refine zg_iconst F.1 0 0 (by decide) zd_LG_car_83 ?_
                exact zg_le (zw_len (zw_len (zw_len (zw_les zw_le0)))) (zl_LG_car_84 F y2.2.1 0 y2.2.2 hk2 h)
              · rw [if_neg hc] at h
                refine zg_iconst F.1 1 1 (by decide) zd_LG_car_79 ?_
                refine zg_goto F.1 84 zd_LG_car_80 rfl ?_
                exact zg_le (zw_len (zw_len (zw_len (zw_les zw_le0)))) (zl_LG_car_84 F y2.2.1 1 y2.2.2 hk2 h)
            · rw [if_neg hc5] at h
              refine zg_tabOut F.1 111 zd_LG_car_7 (zw_sw0_5 hc0 hc1 hc2 hc3 hc4 hc5) rfl ?_
              cases h
theorem zk_LG_car {E : zE} (hn : zw_n E 10) (N : Nat) (a1 : Int32) (a2 : Int32) (st : zS)  {rv : Int32} {rst : zS} (h : zf_LG_car N a1 a2 st = some (0, rv, rst)) : zw_M l zy_LG_car (Cond.code zy_LG_car zo_LG_car 4 (some .int) :: zwAll) zrm_LG_car E [.ref 0, .int a1, .int a2] st (some (.int rv)) rst :=
  zw_enter (by decide) rfl hn (Nat.le_of_ble_eq_true rfl) (by simp [Value.category]) 1 (fun p e s m args below meth c A F => zl_LG_car_0 F a1 a2 st  h)
abbrev zrx_LG_car : Room := { frames := 7, cells := 1, slots := 6, locals := 111 }
set_option maxHeartbeats 4000000 in
theorem zxl_LG_car_109 (F : zw_X p m c zo_LG_car 4 s args zR0 E 10 A meth (some .int)) (Y : zx_X zx_ss l s A c) {N : Nat} {xx : Nat} {rv : Int32} {rst : zS} (hxx : ¬ xx = 0)   (s0 : Int32) (s1 : Int32) (st : zS)  (h : zf_LG_car_109 N  s0 s1 st = some (xx, rv, rst)) : zw_G p l e zrx_LG_car s m args below meth c (zx_MQ below E xx rst A args s) E A 4 0 109 [none, none, none, none] [.int s0, .int s1] st := by
  unfold zf_LG_car_109 at h
  refine zg_iadd F.1 zd_LG_car_109 ?_
  cases h
  exact absurd rfl hxx
set_option maxHeartbeats 4000000 in
theorem zxl_LG_car_96 (F : zw_X p m c zo_LG_car 4 s args zR0 E 10 A meth (some .int)) (Y : zx_X zx_ss l s A c) {N : Nat} {xx : Nat} {rv : Int32} {rst : zS} (hxx : ¬ xx = 0)   (l3 : Nat) (s0 : Int32) (s1 : Int32) (st : zS) (k3 : zw_kind l3 = 2) (h : zf_LG_car_96 N  l3 s0 s1 st = some (xx, rv, rst)) : zw_G p l e zrx_LG_car s m args below meth c (zx_MQ below E xx rst A args s) E A 4 0 96 [none, none, none, some (.ref l3)] [.int s0, .int s1] st := by
  unfold zf_LG_car_96 at h
  refine zg_iadd F.1 zd_LG_car_96 ?_
  refine zg_aload_n F.1 zd_LG_car_97 rfl rfl ?_
  refine zg_getI2 F.1 (by decide) k3 7 (by decide) (st l3 7) rfl rfl zwf_LG_116 zd_LG_car_98 ?_
  refine zg_if_eq F.1 108 zd_LG_car_101 rfl (fun hc => ?_) (fun hc => ?_)
  · rw [if_pos hc] at h
    refine zg_iconst F.1 0 0 (by decide) zd_LG_car_108 ?_
    exact zg_le (zw_les (zw_les (zw_les (zw_len zw_le0)))) (zxl_LG_car_109 F Y hxx 0 (s1 + s0) st h)
  · rw [if_neg hc] at h
    refine zg_iconst F.1 4 4 (by decide) zd_LG_car_104 ?_
    refine zg_goto F.1 109 zd_LG_car_105 rfl ?_
    exact zg_le (zw_les (zw_les (zw_les (zw_len zw_le0)))) (zxl_LG_car_109 F Y hxx 4 (s1 + s0) st h)
set_option maxHeartbeats 4000000 in
theorem zxl_LG_car_84 (F : zw_X p m c zo_LG_car 4 s args zR0 E 10 A meth (some .int)) (Y : zx_X zx_ss l s A c) {N : Nat} {xx : Nat} {rv : Int32} {rst : zS} (hxx : ¬ xx = 0)   (l3 : Nat) (s0 : Int32) (st : zS) (k3 : zw_kind l3 = 2) (h : zf_LG_car_84 N  l3 s0 st = some (xx, rv, rst)) : zw_G p l e zrx_LG_car s m args below meth c (zx_MQ below E xx rst A args s) E A 4 0 84 [none, none, none, some (.ref l3)] [.int s0] st := by
  unfold zf_LG_car_84 at h
  refine zg_aload_n F.1 zd_LG_car_84 rfl rfl ?_
  refine zg_getI2 F.1 (by decide) k3 6 (by decide) (st l3 6) rfl rfl zwf_LG_101 zd_LG_car_85 ?_
  refine zg_if_eq F.1 95 zd_LG_car_88 rfl (fun hc => ?_) (fun hc => ?_)
  · rw [if_pos hc] at h
    refine zg_iconst F.1 0 0 (by decide) zd_LG_car_95 ?_
    exact zxl_LG_car_96 F Y hxx l3 0 s0 st k3 h
  · rw [if_neg hc] at h
    refine zg_iconst F.1 2 2 (by decide) zd_LG_car_91 ?_
    refine zg_goto F.1 96 zd_LG_car_92 rfl ?_
    exact zxl_LG_car_96 F Y hxx l3 2 s0 st k3 h
set_option maxHeartbeats 4000000 in
theorem zxl_LG_car_0 (F : zw_X p m c zo_LG_car 4 s args zR0 E 10 A meth (some .int)) (Y : zx_X zx_ss l s A c) {N : Nat} {xx : Nat} {rv : Int32} {rst : zS} (hxx : ¬ xx = 0) (a1 : Int32) (a2 : Int32) (st : zS)  (h : zf_LG_car N a1 a2 st = some (xx, rv, rst)) : zw_G p l e zrx_LG_car s m args below meth c (zx_MQ below E xx rst A args s) E A 4 0 0 [some (.ref 0), some (.int a1), some (.int a2), none] [] st := by
  unfold zf_LG_car at h
  refine zg_aload_n F.1 zd_LG_car_0 rfl rfl ?_
  refine zg_iload_n F.1 zd_LG_car_1 rfl rfl ?_
  obtain ⟨y2, hc2, h⟩ := Option.bind_eq_some_iff.mp h
  by_cases hz2 : y2.1 = 0
  case neg =>
    rw [if_neg hz2] at h
    have e9 := Option.some.inj h
    have e1 := congrArg (fun z => z.1) e9
    have e3 := congrArg (fun z => z.2.2) e9
    dsimp only at e1 e3
    subst e1; subst e3
    exact zx_callV F Y (As := [.int a1]) (rest := []) (zx_LG_carNumbered Y.1 F.1.2.2 N a1 st hz2 hc2) rfl rfl zcal_LG_carNumbered zml_LG_112 ⟨(Nat.le_of_ble_eq_true rfl), (Nat.le_of_ble_eq_true rfl)⟩ (zg_rec0 F.1 (by decide) rfl) rfl (Nat.le_of_ble_eq_true rfl) ⟨(Nat.le_of_ble_eq_true rfl), (Nat.le_of_ble_eq_true rfl)⟩ zd_LG_car_2
  rw [if_pos hz2] at h
  have hk2 : zw_kind y2.2.1 = 2 := zkd_LG_carNumbered (hc2.trans (congrArg some (zw_y0 hz2)))
  refine zg_callV F (As := [.int a1]) (rest := []) (zk_LG_carNumbered F.1.2.2 N a1 st (hc2.trans (congrArg some (zw_y0 hz2)))) rfl rfl zcal_LG_carNumbered zml_LG_112 ⟨(Nat.le_of_ble_eq_true rfl), (Nat.le_of_ble_eq_true rfl)⟩ (zg_rec0 F.1 (by decide) rfl) rfl (Nat.le_of_ble_eq_true rfl) ⟨(Nat.le_of_ble_eq_true rfl), (Nat.le_of_ble_eq_true rfl)⟩ zd_LG_car_2 ?_
  refine zg_astore_n F.1 [some (.ref 0), some (.int a1), some (.int a2), some (.ref y2.2.1)] zd_LG_car_5 rfl (by decide) rfl ?_
  refine zg_iload_n F.1 zd_LG_car_6 rfl rfl ?_
  by_cases hc0 : a2 = 0
  · rw [if_pos hc0] at h
    refine zg_tabIn F.1 44 zd_LG_car_7 (by rw [hc0]; decide) (by rw [hc0]; decide) (by rw [hc0]; rfl) rfl ?_
    refine zg_aload_n F.1 zd_LG_car_44 rfl rfl ?_
    refine zg_getI2 F.1 (by decide) hk2 0 (by decide) (y2.2.2 y2.2.1 0) rfl rfl zwf_LG_142 zd_LG_car_45 ?_
    cases h
    exact absurd rfl hxx
  · rw [if_neg hc0] at h
    by_cases hc1 : a2 = 1
    · rw [if_pos hc1] at h
      refine zg_tabIn F.1 49 zd_LG_car_7 (by rw [hc1]; decide) (by rw [hc1]; decide) (by rw [hc1]; rfl) rfl ?_
      refine zg_aload_n F.1 zd_LG_car_49 rfl rfl ?_
      refine zg_getI2 F.1 (by decide) hk2 1 (by decide) (y2.2.2 y2.2.1 1) rfl rfl zwf_LG_145 zd_LG_car_50 ?_
      cases h
      exact absurd rfl hxx
    · rw [if_neg hc1] at h
      by_cases hc2 : a2 = 2
      · rw [if_pos hc2] at h
        refine zg_tabIn F.1 54 zd_LG_car_7 (by rw [hc2]; decide) (by rw [hc2]; decide) (by rw [hc2]; rfl) rfl ?_
        refine zg_aload_n F.1 zd_LG_car_54 rfl rfl ?_
        refine zg_getI2 F.1 (by decide) hk2 2 (by decide) (y2.2.2 y2.2.1 2) rfl rfl zwf_LG_148 zd_LG_car_55 ?_
        cases h
        exact absurd rfl hxx
      · rw [if_neg hc2] at h
        by_cases hc3 : a2 = 3
        · rw [if_pos hc3] at h
          refine zg_tabIn F.1 59 zd_LG_car_7 (by rw [hc3]; decide) (by rw [hc3]; decide) (by rw [hc3]; rfl) rfl ?_
          refine zg_aload_n F.1 zd_LG_car_59 rfl rfl ?_
          refine zg_getI2 F.1 (by decide) hk2 3 (by decide) (y2.2.2 y2.2.1 3) rfl rfl zwf_LG_151 zd_LG_car_60 ?_
          cases h
          exact absurd rfl hxx
        · rw [if_neg hc3] at h
          by_cases hc4 : a2 = 4
          · rw [if_pos hc4] at h
            refine zg_tabIn F.1 64 zd_LG_car_7 (by rw [hc4]; decide) (by rw [hc4]; decide) (by rw [hc4]; rfl) rfl ?_
            refine zg_aload_n F.1 zd_LG_car_64 rfl rfl ?_
            refine zg_getI2 F.1 (by decide) hk2 8 (by decide) (y2.2.2 y2.2.1 8) rfl rfl zwf_LG_154 zd_LG_car_65 ?_
            obtain ⟨y68, hc68, h⟩ := Option.bind_eq_some_iff.mp h
            refine zg_callS F (As := [.int (y2.2.2 y2.2.1 8)]) (rest := []) (zk_In_bitCount F.1.2.2 N (y2.2.2 y2.2.1 8) y2.2.2 hc68) rfl rfl zcal_In_bitCount zml_LG_157 ⟨(Nat.le_of_ble_eq_true rfl), (Nat.le_of_ble_eq_true rfl)⟩ rfl (Nat.le_of_ble_eq_true rfl) ⟨(Nat.le_of_ble_eq_true rfl), (Nat.le_of_ble_eq_true rfl)⟩ zd_LG_car_68 ?_
            cases h
            exact absurd rfl hxx
          · rw [if_neg hc4] at h
            by_cases hc5 : a2 = 5
            · rw [if_pos hc5] at h
              refine zg_tabIn F.1 72 zd_LG_car_7 (by rw [hc5]; decide) (by rw [hc5]; decide) (by rw [hc5]; rfl) rfl ?_
              refine zg_aload_n F.1 zd_LG_car_72 rfl rfl ?_
              refine zg_getI2 F.1 (by decide) hk2 5 (by decide) (y2.2.2 y2.2.1 5) rfl rfl zwf_LG_119 zd_LG_car_73 ?_
              refine zg_if_eq F.1 83 zd_LG_car_76 rfl (fun hc => ?_) (fun hc => ?_)
              · rw [if_pos hc] at h
                refine zg_iconst F.1 0 0 (by decide) zd_LG_car_83 ?_
                exact zg_le (zw_len (zw_len (zw_len (zw_les zw_le0)))) (zxl_LG_car_84 F Y hxx y2.2.1 0 y2.2.2 hk2 h)
              · rw [if_neg hc] at h
                refine zg_iconst F.1 1 1 (by decide) zd_LG_car_79 ?_
                refine zg_goto F.1 84 zd_LG_car_80 rfl ?_
                exact zg_le (zw_len (zw_len (zw_len (zw_les zw_le0)))) (zxl_LG_car_84 F Y hxx y2.2.1 1 y2.2.2 hk2 h)
            · rw [if_neg hc5] at h
              refine zg_tabOut F.1 111 zd_LG_car_7 (zw_sw0_5 hc0 hc1 hc2 hc3 hc4 hc5) rfl ?_
              cases h
              exact zx_throw F Y 1 (is := 163) (text := "of a car only 0 to 5 can be asked") (by decide) rfl zxk_45 zxi_1 zxa_49 (by decide +kernel) (Nat.le_of_ble_eq_true rfl) (Nat.le_of_ble_eq_true rfl) (Nat.le_of_ble_eq_true rfl) (Nat.le_of_ble_eq_true rfl) zd_LG_car_111 zd_LG_car_114 zd_LG_car_115 zd_LG_car_117 zd_LG_car_120
theorem zx_LG_car {E : zE} (hst : l.stackTraces = false) (hn : zw_n E 10) (N : Nat) (a1 : Int32) (a2 : Int32) (st : zS)  {xx : Nat} {rv : Int32} {rst : zS} (hxx : ¬ xx = 0) (h : zf_LG_car N a1 a2 st = some (xx, rv, rst)) : zx_M zx_ss l zy_LG_car (Cond.code zy_LG_car zo_LG_car 4 (some .int) :: zwAll) zrx_LG_car E [.ref 0, .int a1, .int a2] st xx rst :=
  zx_enter hst (by decide) rfl hn (Nat.le_of_ble_eq_true rfl) (by simp [Value.category]) 1 (fun p e s m args below meth c A F Y => zxl_LG_car_0 F Y hxx a1 a2 st  h)
set_option maxRecDepth 100000 in
theorem zml_LG_167 : Cond.methodLink zR0 167 zy_Ca_stopSet ∈ zwAll := zw_at 590 rfl rfl
abbrev zrm_LG_stop : Room := { frames := 2, cells := 0, slots := 0, locals := 44 }
def zf_LG_stop_46 (N : Nat)  (s0 : Int32) (st : zS) : Option (Nat × Int32 × zS) := (if s0 = 0 ∨ s0 = 1 then some (0, s0, st) else none)
set_option maxHeartbeats 4000000 in
theorem zl_LG_stop_46 (F : zw_X p m c zo_LG_stop 4 s args zR0 E 10 A meth (some .boolean)) {N : Nat} {rv : Int32} {rst : zS}   (s0 : Int32) (st : zS)  (h : zf_LG_stop_46 N  s0 st = some (0, rv, rst)) : zw_G p l e zrm_LG_stop s m args below meth c (MQ below (zw_Q E (some (.int rv)) rst A) args s 0 0 A) E A 4 0 46 [none, none, none, none] [.int s0] st := by
  unfold zf_LG_stop_46 at h
  by_cases hb46 : s0 = 0 ∨ s0 = 1
  case neg => rw [if_neg hb46] at h; cases h
  rw [if_pos hb46] at h
  cases h
  exact zg_zret F hb46 zd_LG_stop_46
def zf_LG_stop (N : Nat) (a1 : Int32) (a2 : Int32) (st : zS) : Option (Nat × Int32 × zS) := ((zf_LG_carNumbered N a1 st).bind fun y2 => (if y2.1 = 0 then ((zf_LG_isFloor N a2 y2.2.2).bind fun y8 => (if y8.1 = 0 then some (1, 0, y8.2) else ((zf_Ca_stopSet N y2.2.1 y8.2).bind fun y29 => (if (y29.1 &&& (1 <<< ((2 * a2) &&& 31))) = 0 then zf_LG_stop_46 N 0 y29.2 else zf_LG_stop_46 N 1 y29.2)))) else some (y2.1, 0, y2.2.2)))
set_option maxHeartbeats 4000000 in
theorem zl_LG_stop_0 (F : zw_X p m c zo_LG_stop 4 s args zR0 E 10 A meth (some .boolean)) {N : Nat} {rv : Int32} {rst : zS} (a1 : Int32) (a2 : Int32) (st : zS)  (h : zf_LG_stop N a1 a2 st = some (0, rv, rst)) : zw_G p l e zrm_LG_stop s m args below meth c (MQ below (zw_Q E (some (.int rv)) rst A) args s 0 0 A) E A 4 0 0 [some (.ref 0), some (.int a1), some (.int a2), none] [] st := by
  unfold zf_LG_stop at h
  refine zg_aload_n F.1 zd_LG_stop_0 rfl rfl ?_
  refine zg_iload_n F.1 zd_LG_stop_1 rfl rfl ?_
  obtain ⟨y2, hc2, h⟩ := Option.bind_eq_some_iff.mp h
  by_cases hz2 : y2.1 = 0
  case neg =>
    rw [if_neg hz2] at h
    exact absurd (congrArg (fun z => z.1) (Option.some.inj h)) hz2
  rw [if_pos hz2] at h
  have hk2 : zw_kind y2.2.1 = 2 := zkd_LG_carNumbered (hc2.trans (congrArg some (zw_y0 hz2)))
  refine zg_callV F (As := [.int a1]) (rest := []) (zk_LG_carNumbered F.1.2.2 N a1 st (hc2.trans (congrArg some (zw_y0 hz2)))) rfl rfl zcal_LG_carNumbered zml_LG_112 ⟨(Nat.le_of_ble_eq_true rfl), (Nat.le_of_ble_eq_true rfl)⟩ (zg_rec0 F.1 (by decide) rfl) rfl (Nat.le_of_ble_eq_true rfl) ⟨(Nat.le_of_ble_eq_true rfl), (Nat.le_of_ble_eq_true rfl)⟩ zd_LG_stop_2 ?_
  refine zg_astore_n F.1 [some (.ref 0), some (.int a1), some (.int a2), some (.ref y2.2.1)] zd_LG_stop_5 rfl (by decide) rfl ?_
  refine zg_aload_n F.1 zd_LG_stop_6 rfl rfl ?_
  refine zg_iload_n F.1 zd_LG_stop_7 rfl rfl ?_
  obtain ⟨y8, hc8, h⟩ := Option.bind_eq_some_iff.mp h
  refine zg_callV F (As := [.int a2]) (rest := []) (zk_LG_isFloor F.1.2.2 N a2 y2.2.2 hc8) rfl rfl zcal_LG_isFloor zml_LG_56 ⟨(Nat.le_of_ble_eq_true rfl), (Nat.le_of_ble_eq_true rfl)⟩ (zg_rec0 F.1 (by decide) rfl) rfl (Nat.le_of_ble_eq_true rfl) ⟨(Nat.le_of_ble_eq_true rfl), (Nat.le_of_ble_eq_true rfl)⟩ zd_LG_stop_8 ?_
  refine zg_if_ne F.1 24 zd_LG_stop_11 rfl (fun hc => ?_) (fun hc => ?_)
  · rw [if_neg hc] at h
    refine zg_aload_n F.1 zd_LG_stop_24 rfl rfl ?_
    refine zg_aload_n F.1 zd_LG_stop_25 rfl rfl ?_
    refine zg_getR0 F.1 (by decide) rfl 0 (by decide) 1 rfl zwf_LG_10 zd_LG_stop_26 ?_
    obtain ⟨y29, hc29, h⟩ := Option.bind_eq_some_iff.mp h
    refine zg_callV F (As := [.ref 1]) (rest := []) (zk_Ca_stopSet F.1.2.2 N y2.2.1 y8.2 hk2 hc29) rfl rfl zcal_Ca_stopSet zml_LG_167 ⟨(Nat.le_of_ble_eq_true rfl), (Nat.le_of_ble_eq_true rfl)⟩ (zg_rec2 F.1 (by decide) hk2) rfl (Nat.le_of_ble_eq_true rfl) ⟨(Nat.le_of_ble_eq_true rfl), (Nat.le_of_ble_eq_true rfl)⟩ zd_LG_stop_29 ?_
    refine zg_iconst F.1 1 1 (by decide) zd_LG_stop_32 ?_
    refine zg_iconst F.1 2 2 (by decide) zd_LG_stop_33 ?_
    refine zg_iload_n F.1 zd_LG_stop_34 rfl rfl ?_
    refine zg_imul F.1 zd_LG_stop_35 ?_
    refine zg_ishl F.1 zd_LG_stop_36 ?_
    refine zg_iand F.1 zd_LG_stop_37 ?_
    refine zg_if_eq F.1 45 zd_LG_stop_38 rfl (fun hc => ?_) (fun hc => ?_)
    · rw [if_pos hc] at h
      refine zg_iconst F.1 0 0 (by decide) zd_LG_stop_45 ?_
      exact zg_le (zw_len (zw_len (zw_len (zw_len zw_le0)))) (zl_LG_stop_46 F 0 y29.2 h)
    · rw [if_neg hc] at h
      refine zg_iconst F.1 1 1 (by decide) zd_LG_stop_41 ?_
      refine zg_goto F.1 46 zd_LG_stop_42 rfl ?_
      exact zg_le (zw_len (zw_len (zw_len (zw_len zw_le0)))) (zl_LG_stop_46 F 1 y29.2 h)
  · rw [if_pos hc] at h
    cases h
theorem zk_LG_stop {E : zE} (hn : zw_n E 10) (N : Nat) (a1 : Int32) (a2 : Int32) (st : zS)  {rv : Int32} {rst : zS} (h : zf_LG_stop N a1 a2 st = some (0, rv, rst)) : zw_M l zy_LG_stop (Cond.code zy_LG_stop zo_LG_stop 4 (some .boolean) :: zwAll) zrm_LG_stop E [.ref 0, .int a1, .int a2] st (some (.int rv)) rst :=
  zw_enter (by decide) rfl hn (Nat.le_of_ble_eq_true rfl) (by simp [Value.category]) 1 (fun p e s m args below meth c A F => zl_LG_stop_0 F a1 a2 st  h)
abbrev zrx_LG_stop : Room := { frames := 7, cells := 1, slots := 6, locals := 111 }
set_option maxHeartbeats 4000000 in
theorem zxl_LG_stop_46 (F : zw_X p m c zo_LG_stop 4 s args zR0 E 10 A meth (some .boolean)) (Y : zx_X zx_ss l s A c) {N : Nat} {xx : Nat} {rv : Int32} {rst : zS} (hxx : ¬ xx = 0)   (s0 : Int32) (st : zS)  (h : zf_LG_stop_46 N  s0 st = some (xx, rv, rst)) : zw_G p l e zrx_LG_stop s m args below meth c (zx_MQ below E xx rst A args s) E A 4 0 46 [none, none, none, none] [.int s0] st := by
  unfold zf_LG_stop_46 at h
  by_cases hb46 : s0 = 0 ∨ s0 = 1
  case neg => rw [if_neg hb46] at h; cases h
  rw [if_pos hb46] at h
  cases h
  exact absurd rfl hxx
set_option maxHeartbeats 4000000 in
theorem zxl_LG_stop_0 (F : zw_X p m c zo_LG_stop 4 s args zR0 E 10 A meth (some .boolean)) (Y : zx_X zx_ss l s A c) {N : Nat} {xx : Nat} {rv : Int32} {rst : zS} (hxx : ¬ xx = 0) (a1 : Int32) (a2 : Int32) (st : zS)  (h : zf_LG_stop N a1 a2 st = some (xx, rv, rst)) : zw_G p l e zrx_LG_stop s m args below meth c (zx_MQ below E xx rst A args s) E A 4 0 0 [some (.ref 0), some (.int a1), some (.int a2), none] [] st := by
  unfold zf_LG_stop at h
  refine zg_aload_n F.1 zd_LG_stop_0 rfl rfl ?_
  refine zg_iload_n F.1 zd_LG_stop_1 rfl rfl ?_
  obtain ⟨y2, hc2, h⟩ := Option.bind_eq_some_iff.mp h
  by_cases hz2 : y2.1 = 0
  case neg =>
    rw [if_neg hz2] at h
    have e9 := Option.some.inj h
    have e1 := congrArg (fun z => z.1) e9
    have e3 := congrArg (fun z => z.2.2) e9
    dsimp only at e1 e3
    subst e1; subst e3
    exact zx_callV F Y (As := [.int a1]) (rest := []) (zx_LG_carNumbered Y.1 F.1.2.2 N a1 st hz2 hc2) rfl rfl zcal_LG_carNumbered zml_LG_112 ⟨(Nat.le_of_ble_eq_true rfl), (Nat.le_of_ble_eq_true rfl)⟩ (zg_rec0 F.1 (by decide) rfl) rfl (Nat.le_of_ble_eq_true rfl) ⟨(Nat.le_of_ble_eq_true rfl), (Nat.le_of_ble_eq_true rfl)⟩ zd_LG_stop_2
  rw [if_pos hz2] at h
  have hk2 : zw_kind y2.2.1 = 2 := zkd_LG_carNumbered (hc2.trans (congrArg some (zw_y0 hz2)))
  refine zg_callV F (As := [.int a1]) (rest := []) (zk_LG_carNumbered F.1.2.2 N a1 st (hc2.trans (congrArg some (zw_y0 hz2)))) rfl rfl zcal_LG_carNumbered zml_LG_112 ⟨(Nat.le_of_ble_eq_true rfl), (Nat.le_of_ble_eq_true rfl)⟩ (zg_rec0 F.1 (by decide) rfl) rfl (Nat.le_of_ble_eq_true rfl) ⟨(Nat.le_of_ble_eq_true rfl), (Nat.le_of_ble_eq_true rfl)⟩ zd_LG_stop_2 ?_
  refine zg_astore_n F.1 [some (.ref 0), some (.int a1), some (.int a2), some (.ref y2.2.1)] zd_LG_stop_5 rfl (by decide) rfl ?_
  refine zg_aload_n F.1 zd_LG_stop_6 rfl rfl ?_
  refine zg_iload_n F.1 zd_LG_stop_7 rfl rfl ?_
  obtain ⟨y8, hc8, h⟩ := Option.bind_eq_some_iff.mp h
  refine zg_callV F (As := [.int a2]) (rest := []) (zk_LG_isFloor F.1.2.2 N a2 y2.2.2 hc8) rfl rfl zcal_LG_isFloor zml_LG_56 ⟨(Nat.le_of_ble_eq_true rfl), (Nat.le_of_ble_eq_true rfl)⟩ (zg_rec0 F.1 (by decide) rfl) rfl (Nat.le_of_ble_eq_true rfl) ⟨(Nat.le_of_ble_eq_true rfl), (Nat.le_of_ble_eq_true rfl)⟩ zd_LG_stop_8 ?_
  refine zg_if_ne F.1 24 zd_LG_stop_11 rfl (fun hc => ?_) (fun hc => ?_)
  · rw [if_neg hc] at h
    refine zg_aload_n F.1 zd_LG_stop_24 rfl rfl ?_
    refine zg_aload_n F.1 zd_LG_stop_25 rfl rfl ?_
    refine zg_getR0 F.1 (by decide) rfl 0 (by decide) 1 rfl zwf_LG_10 zd_LG_stop_26 ?_
    obtain ⟨y29, hc29, h⟩ := Option.bind_eq_some_iff.mp h
    refine zg_callV F (As := [.ref 1]) (rest := []) (zk_Ca_stopSet F.1.2.2 N y2.2.1 y8.2 hk2 hc29) rfl rfl zcal_Ca_stopSet zml_LG_167 ⟨(Nat.le_of_ble_eq_true rfl), (Nat.le_of_ble_eq_true rfl)⟩ (zg_rec2 F.1 (by decide) hk2) rfl (Nat.le_of_ble_eq_true rfl) ⟨(Nat.le_of_ble_eq_true rfl), (Nat.le_of_ble_eq_true rfl)⟩ zd_LG_stop_29 ?_
    refine zg_iconst F.1 1 1 (by decide) zd_LG_stop_32 ?_
    refine zg_iconst F.1 2 2 (by decide) zd_LG_stop_33 ?_
    refine zg_iload_n F.1 zd_LG_stop_34 rfl rfl ?_
    refine zg_imul F.1 zd_LG_stop_35 ?_
    refine zg_ishl F.1 zd_LG_stop_36 ?_
    refine zg_iand F.1 zd_LG_stop_37 ?_
    refine zg_if_eq F.1 45 zd_LG_stop_38 rfl (fun hc => ?_) (fun hc => ?_)
    · rw [if_pos hc] at h
      refine zg_iconst F.1 0 0 (by decide) zd_LG_stop_45 ?_
      exact zg_le (zw_len (zw_len (zw_len (zw_len zw_le0)))) (zxl_LG_stop_46 F Y hxx 0 y29.2 h)
    · rw [if_neg hc] at h
      refine zg_iconst F.1 1 1 (by decide) zd_LG_stop_41 ?_
      refine zg_goto F.1 46 zd_LG_stop_42 rfl ?_
      exact zg_le (zw_len (zw_len (zw_len (zw_len zw_le0)))) (zxl_LG_stop_46 F Y hxx 1 y29.2 h)
  · rw [if_pos hc] at h
    cases h
    exact zx_throw F Y 1 (is := 165) (text := "there is no such floor") (by decide) rfl zxk_45 zxi_1 zxa_49 (by decide +kernel) (Nat.le_of_ble_eq_true rfl) (Nat.le_of_ble_eq_true rfl) (Nat.le_of_ble_eq_true rfl) (Nat.le_of_ble_eq_true rfl) zd_LG_stop_14 zd_LG_stop_17 zd_LG_stop_18 zd_LG_stop_20 zd_LG_stop_23
theorem zx_LG_stop {E : zE} (hst : l.stackTraces = false) (hn : zw_n E 10) (N : Nat) (a1 : Int32) (a2 : Int32) (st : zS)  {xx : Nat} {rv : Int32} {rst : zS} (hxx : ¬ xx = 0) (h : zf_LG_stop N a1 a2 st = some (xx, rv, rst)) : zx_M zx_ss l zy_LG_stop (Cond.code zy_LG_stop zo_LG_stop 4 (some .boolean) :: zwAll) zrx_LG_stop E [.ref 0, .int a1, .int a2] st xx rst :=
  zx_enter hst (by decide) rfl hn (Nat.le_of_ble_eq_true rfl) (by simp [Value.category]) 1 (fun p e s m args below meth c A F Y => zxl_LG_stop_0 F Y hxx a1 a2 st  h)
abbrev zrm_LG_worst : Room := { frames := 4, cells := 0, slots := 0, locals := 91 }
def zf_LG_worst (N : Nat) (a1 : Int32) (st : zS) : Option (Nat × Int32 × zS) := ((zf_LG_carNumbered N a1 st).bind fun y3 => (if y3.1 = 0 then ((zf_LG_worstWith N y3.2.1 0 y3.2.2).bind fun y7 => some (0, y7.1, y7.2)) else some (y3.1, 0, y3.2.2)))
set_option maxHeartbeats 4000000 in
theorem zl_LG_worst_0 (F : zw_X p m c zo_LG_worst 2 s args zR0 E 10 A meth (some .int)) {N : Nat} {rv : Int32} {rst : zS} (a1 : Int32) (st : zS)  (h : zf_LG_worst N a1 st = some (0, rv, rst)) : zw_G p l e zrm_LG_worst s m args below meth c (MQ below (zw_Q E (some (.int rv)) rst A) args s 0 0 A) E A 2 0 0 [some (.ref 0), some (.int a1)] [] st := by
  unfold zf_LG_worst at h
  refine zg_aload_n F.1 zd_LG_worst_0 rfl rfl ?_
  refine zg_aload_n F.1 zd_LG_worst_1 rfl rfl ?_
  refine zg_iload_n F.1 zd_LG_worst_2 rfl rfl ?_
  obtain ⟨y3, hc3, h⟩ := Option.bind_eq_some_iff.mp h
  by_cases hz3 : y3.1 = 0
  case neg =>
    rw [if_neg hz3] at h
    exact absurd (congrArg (fun z => z.1) (Option.some.inj h)) hz3
  rw [if_pos hz3] at h
  have hk3 : zw_kind y3.2.1 = 2 := zkd_LG_carNumbered (hc3.trans (congrArg some (zw_y0 hz3)))
  refine zg_callV F (As := [.int a1]) (rest := [.ref 0]) (zk_LG_carNumbered F.1.2.2 N a1 st (hc3.trans (congrArg some (zw_y0 hz3)))) rfl rfl zcal_LG_carNumbered zml_LG_112 ⟨(Nat.le_of_ble_eq_true rfl), (Nat.le_of_ble_eq_true rfl)⟩ (zg_rec0 F.1 (by decide) rfl) rfl (Nat.le_of_ble_eq_true rfl) ⟨(Nat.le_of_ble_eq_true rfl), (Nat.le_of_ble_eq_true rfl)⟩ zd_LG_worst_3 ?_
  refine zg_iconst F.1 0 0 (by decide) zd_LG_worst_6 ?_
  obtain ⟨y7, hc7, h⟩ := Option.bind_eq_some_iff.mp h
  refine zg_callV F (As := [.ref y3.2.1, .int 0]) (rest := []) (zk_LG_worstWith F.1.2.2 N y3.2.1 0 y3.2.2 hk3 hc7) rfl rfl zcal_LG_worstWith zml_LG_171 ⟨(Nat.le_of_ble_eq_true rfl), (Nat.le_of_ble_eq_true rfl)⟩ (zg_rec0 F.1 (by decide) rfl) rfl (Nat.le_of_ble_eq_true rfl) ⟨(Nat.le_of_ble_eq_true rfl), (Nat.le_of_ble_eq_true rfl)⟩ zd_LG_worst_7 ?_
  cases h
  exact zg_iret F zd_LG_worst_10
theorem zk_LG_worst {E : zE} (hn : zw_n E 10) (N : Nat) (a1 : Int32) (st : zS)  {rv : Int32} {rst : zS} (h : zf_LG_worst N a1 st = some (0, rv, rst)) : zw_M l zy_LG_worst (Cond.code zy_LG_worst zo_LG_worst 2 (some .int) :: zwAll) zrm_LG_worst E [.ref 0, .int a1] st (some (.int rv)) rst :=
  zw_enter (by decide) rfl hn (Nat.le_of_ble_eq_true rfl) (by simp [Value.category]) 0 (fun p e s m args below meth c A F => zl_LG_worst_0 F a1 st  h)
abbrev zrx_LG_worst : Room := { frames := 7, cells := 1, slots := 6, locals := 111 }
set_option maxHeartbeats 4000000 in
theorem zxl_LG_worst_0 (F : zw_X p m c zo_LG_worst 2 s args zR0 E 10 A meth (some .int)) (Y : zx_X zx_ss l s A c) {N : Nat} {xx : Nat} {rv : Int32} {rst : zS} (hxx : ¬ xx = 0) (a1 : Int32) (st : zS)  (h : zf_LG_worst N a1 st = some (xx, rv, rst)) : zw_G p l e zrx_LG_worst s m args below meth c (zx_MQ below E xx rst A args s) E A 2 0 0 [some (.ref 0), some (.int a1)] [] st := by
  unfold zf_LG_worst at h
  refine zg_aload_n F.1 zd_LG_worst_0 rfl rfl ?_
  refine zg_aload_n F.1 zd_LG_worst_1 rfl rfl ?_
  refine zg_iload_n F.1 zd_LG_worst_2 rfl rfl ?_
  obtain ⟨y3, hc3, h⟩ := Option.bind_eq_some_iff.mp h
  by_cases hz3 : y3.1 = 0
  case neg =>
    rw [if_neg hz3] at h
    have e9 := Option.some.inj h
    have e1 := congrArg (fun z => z.1) e9
    have e3 := congrArg (fun z => z.2.2) e9
    dsimp only at e1 e3
    subst e1; subst e3
    exact zx_callV F Y (As := [.int a1]) (rest := [.ref 0]) (zx_LG_carNumbered Y.1 F.1.2.2 N a1 st hz3 hc3) rfl rfl zcal_LG_carNumbered zml_LG_112 ⟨(Nat.le_of_ble_eq_true rfl), (Nat.le_of_ble_eq_true rfl)⟩ (zg_rec0 F.1 (by decide) rfl) rfl (Nat.le_of_ble_eq_true rfl) ⟨(Nat.le_of_ble_eq_true rfl), (Nat.le_of_ble_eq_true rfl)⟩ zd_LG_worst_3
  rw [if_pos hz3] at h
  have hk3 : zw_kind y3.2.1 = 2 := zkd_LG_carNumbered (hc3.trans (congrArg some (zw_y0 hz3)))
  refine zg_callV F (As := [.int a1]) (rest := [.ref 0]) (zk_LG_carNumbered F.1.2.2 N a1 st (hc3.trans (congrArg some (zw_y0 hz3)))) rfl rfl zcal_LG_carNumbered zml_LG_112 ⟨(Nat.le_of_ble_eq_true rfl), (Nat.le_of_ble_eq_true rfl)⟩ (zg_rec0 F.1 (by decide) rfl) rfl (Nat.le_of_ble_eq_true rfl) ⟨(Nat.le_of_ble_eq_true rfl), (Nat.le_of_ble_eq_true rfl)⟩ zd_LG_worst_3 ?_
  refine zg_iconst F.1 0 0 (by decide) zd_LG_worst_6 ?_
  obtain ⟨y7, hc7, h⟩ := Option.bind_eq_some_iff.mp h
  refine zg_callV F (As := [.ref y3.2.1, .int 0]) (rest := []) (zk_LG_worstWith F.1.2.2 N y3.2.1 0 y3.2.2 hk3 hc7) rfl rfl zcal_LG_worstWith zml_LG_171 ⟨(Nat.le_of_ble_eq_true rfl), (Nat.le_of_ble_eq_true rfl)⟩ (zg_rec0 F.1 (by decide) rfl) rfl (Nat.le_of_ble_eq_true rfl) ⟨(Nat.le_of_ble_eq_true rfl), (Nat.le_of_ble_eq_true rfl)⟩ zd_LG_worst_7 ?_
  cases h
  exact absurd rfl hxx
theorem zx_LG_worst {E : zE} (hst : l.stackTraces = false) (hn : zw_n E 10) (N : Nat) (a1 : Int32) (st : zS)  {xx : Nat} {rv : Int32} {rst : zS} (hxx : ¬ xx = 0) (h : zf_LG_worst N a1 st = some (xx, rv, rst)) : zx_M zx_ss l zy_LG_worst (Cond.code zy_LG_worst zo_LG_worst 2 (some .int) :: zwAll) zrx_LG_worst E [.ref 0, .int a1] st xx rst :=
  zx_enter hst (by decide) rfl hn (Nat.le_of_ble_eq_true rfl) (by simp [Value.category]) 0 (fun p e s m args below meth c A F Y => zxl_LG_worst_0 F Y hxx a1 st  h)
set_option maxRecDepth 100000 in
theorem zcal_LG_riderNumbered : zw_cal zR0 zy_LG_riderNumbered zo_LG_riderNumbered 2 (some (.object "LiftGroup$Rider")) 1 := ⟨zw_at 607 rfl rfl, zw_at 24 rfl rfl, zw_at 47 rfl rfl, zw_at 608 rfl rfl, rfl, by decide, by decide, by decide +kernel⟩
set_option maxRecDepth 100000 in
theorem zml_LG_175 : Cond.methodLink zR0 175 zy_LG_riderNumbered ∈ zwAll := zw_at 605 rfl rfl
set_option maxRecDepth 100000 in
theorem zwf_LG_182 : Cond.fieldLink zR0 182 (zT3 0).1 (zT3 0).2.1 (zT3 0).2.2.1 ∈ zwAll := zw_at 168 rfl rfl
set_option maxRecDepth 100000 in
theorem zwf_LG_185 : Cond.fieldLink zR0 185 (zT3 1).1 (zT3 1).2.1 (zT3 1).2.2.1 ∈ zwAll := zw_at 170 rfl rfl
set_option maxRecDepth 100000 in
theorem zcal_Ri_ended : zw_cal zR3 zy_Ri_ended zo_Ri_ended 1 (some .boolean) 0 := ⟨zw_at 611 rfl rfl, zw_at 612 rfl rfl, zw_at 50 rfl rfl, zw_at 613 rfl rfl, rfl, by decide, by decide, by decide +kernel⟩
set_option maxRecDepth 100000 in
theorem zml_LG_188 : Cond.methodLink zR0 188 zy_Ri_ended ∈ zwAll := zw_at 610 rfl rfl
abbrev zrm_LG_rider : Room := { frames := 1, cells := 0, slots := 0, locals := 21 }
def zf_LG_rider_83 (N : Nat)  (s0 : Int32) (st : zS) : Option (Nat × Int32 × zS) := some (0, s0, st)
set_option maxHeartbeats 4000000 in
theorem zl_LG_rider_83 (F : zw_X p m c zo_LG_rider 4 s args zR0 E 10 A meth (some .int)) {N : Nat} {rv : Int32} {rst : zS}   (s0 : Int32) (st : zS)  (h : zf_LG_rider_83 N  s0 st = some (0, rv, rst)) : zw_G p l e zrm_LG_rider s m args below meth c (MQ below (zw_Q E (some (.int rv)) rst A) args s 0 0 A) E A 4 0 83 [none, none, none, none] [.int s0] st := by
  unfold zf_LG_rider_83 at h
  cases h
  exact zg_iret F zd_LG_rider_83
def zf_LG_rider (N : Nat) (a1 : Int32) (a2 : Int32) (st : zS) : Option (Nat × Int32 × zS) := ((zf_LG_riderNumbered N a1 st).bind fun y2 => (if y2.1 = 0 then (if a2 = 0 then some (0, (y2.2.2 y2.2.1 2), y2.2.2) else (if a2 = 1 then some (0, (y2.2.2 y2.2.1 3), y2.2.2) else (if a2 = 2 then some (0, (y2.2.2 y2.2.1 0), y2.2.2) else (if a2 = 3 then some (0, (y2.2.2 y2.2.1 1), y2.2.2) else (if a2 = 4 then ((zf_Ri_ended N y2.2.1 y2.2.2).bind fun y61 => (if y61.1 = 0 then zf_LG_rider_83 N ((y61.2 0 8) - (y61.2 y2.2.1 4)) y61.2 else zf_LG_rider_83 N (y61.2 y2.2.1 5) y61.2)) else some (1, 0, y2.2.2)))))) else some (y2.1, 0, y2.2.2)))
set_option maxHeartbeats 4000000 in
theorem zl_LG_rider_0 (F : zw_X p m c zo_LG_rider 4 s args zR0 E 10 A meth (some .int)) {N : Nat} {rv : Int32} {rst : zS} (a1 : Int32) (a2 : Int32) (st : zS)  (h : zf_LG_rider N a1 a2 st = some (0, rv, rst)) : zw_G p l e zrm_LG_rider s m args below meth c (MQ below (zw_Q E (some (.int rv)) rst A) args s 0 0 A) E A 4 0 0 [some (.ref 0), some (.int a1), some (.int a2), none] [] st := by
  unfold zf_LG_rider at h
  refine zg_aload_n F.1 zd_LG_rider_0 rfl rfl ?_
  refine zg_iload_n F.1 zd_LG_rider_1 rfl rfl ?_
  obtain ⟨y2, hc2, h⟩ := Option.bind_eq_some_iff.mp h
  by_cases hz2 : y2.1 = 0
  case neg =>
    rw [if_neg hz2] at h
    exact absurd (congrArg (fun z => z.1) (Option.some.inj h)) hz2
  rw [if_pos hz2] at h
  have hk2 : zw_kind y2.2.1 = 3 := zkd_LG_riderNumbered (hc2.trans (congrArg some (zw_y0 hz2)))
  refine zg_callV F (As := [.int a1]) (rest := []) (zk_LG_riderNumbered F.1.2.2 N a1 st (hc2.trans (congrArg some (zw_y0 hz2)))) rfl rfl zcal_LG_riderNumbered zml_LG_175 ⟨(Nat.le_of_ble_eq_true rfl), (Nat.le_of_ble_eq_true rfl)⟩ (zg_rec0 F.1 (by decide) rfl) rfl (Nat.le_of_ble_eq_true rfl) ⟨(Nat.le_of_ble_eq_true rfl), (Nat.le_of_ble_eq_true rfl)⟩ zd_LG_rider_2 ?_
  refine zg_astore_n F.1 [some (.ref 0), some (.int a1), some (.int a2), some (.ref y2.2.1)] zd_LG_rider_5 rfl (by decide) rfl ?_
  refine zg_iload_n F.1 zd_LG_rider_6 rfl rfl ?_
  by_cases hc0 : a2 = 0
  · rw [if_pos hc0] at h
    refine zg_tabIn F.1 40 zd_LG_rider_7 (by rw [hc0]; decide) (by rw [hc0]; decide) (by rw [hc0]; rfl) rfl ?_
    refine zg_aload_n F.1 zd_LG_rider_40 rfl rfl ?_
    refine zg_getI3 F.1 (by decide) hk2 2 (by decide) (y2.2.2 y2.2.1 2) rfl rfl zwf_LG_179 zd_LG_rider_41 ?_
    cases h
    exact zg_iret F zd_LG_rider_44
  · rw [if_neg hc0] at h
    by_cases hc1 : a2 = 1
    · rw [if_pos hc1] at h
      refine zg_tabIn F.1 45 zd_LG_rider_7 (by rw [hc1]; decide) (by rw [hc1]; decide) (by rw [hc1]; rfl) rfl ?_
      refine zg_aload_n F.1 zd_LG_rider_45 rfl rfl ?_
      refine zg_getI3 F.1 (by decide) hk2 3 (by decide) (y2.2.2 y2.2.1 3) rfl rfl zwf_LG_93 zd_LG_rider_46 ?_
      cases h
      exact zg_iret F zd_LG_rider_49
    · rw [if_neg hc1] at h
      by_cases hc2 : a2 = 2
      · rw [if_pos hc2] at h
        refine zg_tabIn F.1 50 zd_LG_rider_7 (by rw [hc2]; decide) (by rw [hc2]; decide) (by rw [hc2]; rfl) rfl ?_
        refine zg_aload_n F.1 zd_LG_rider_50 rfl rfl ?_
        refine zg_getI3 F.1 (by decide) hk2 0 (by decide) (y2.2.2 y2.2.1 0) rfl rfl zwf_LG_182 zd_LG_rider_51 ?_
        cases h
        exact zg_iret F zd_LG_rider_54
      · rw [if_neg hc2] at h
        by_cases hc3 : a2 = 3
        · rw [if_pos hc3] at h
          refine zg_tabIn F.1 55 zd_LG_rider_7 (by rw [hc3]; decide) (by rw [hc3]; decide) (by rw [hc3]; rfl) rfl ?_
          refine zg_aload_n F.1 zd_LG_rider_55 rfl rfl ?_
          refine zg_getI3 F.1 (by decide) hk2 1 (by decide) (y2.2.2 y2.2.1 1) rfl rfl zwf_LG_185 zd_LG_rider_56 ?_
          cases h
          exact zg_iret F zd_LG_rider_59
        · rw [if_neg hc3] at h
          by_cases hc4 : a2 = 4
          · rw [if_pos hc4] at h
            refine zg_tabIn F.1 60 zd_LG_rider_7 (by rw [hc4]; decide) (by rw [hc4]; decide) (by rw [hc4]; rfl) rfl ?_
            refine zg_aload_n F.1 zd_LG_rider_60 rfl rfl ?_
            obtain ⟨y61, hc61, h⟩ := Option.bind_eq_some_iff.mp h
            refine zg_callV F (As := []) (rest := []) (zk_Ri_ended F.1.2.2 N y2.2.1 y2.2.2 hk2 hc61) rfl rfl zcal_Ri_ended zml_LG_188 ⟨(Nat.le_of_ble_eq_true rfl), (Nat.le_of_ble_eq_true rfl)⟩ (zg_rec3 F.1 (by decide) hk2) rfl (Nat.le_of_ble_eq_true rfl) ⟨(Nat.le_of_ble_eq_true rfl), (Nat.le_of_ble_eq_true rfl)⟩ zd_LG_rider_61 ?_
            refine zg_if_eq F.1 74 zd_LG_rider_64 rfl (fun hc => ?_) (fun hc => ?_)
            · rw [if_pos hc] at h
              refine zg_aload_n F.1 zd_LG_rider_74 rfl rfl ?_
              refine zg_getI0 F.1 (by decide) rfl 8 (by decide) (y61.2 0 8) rfl rfl zwf_LG_80 zd_LG_rider_75 ?_
              refine zg_aload_n F.1 zd_LG_rider_78 rfl rfl ?_
              refine zg_getI3 F.1 (by decide) hk2 4 (by decide) (y61.2 y2.2.1 4) rfl rfl zwf_LG_194 zd_LG_rider_79 ?_
              refine zg_isub F.1 zd_LG_rider_82 ?_
              exact zg_le (zw_len (zw_len (zw_len (zw_len zw_le0)))) (zl_LG_rider_83 F ((y61.2 0 8) - (y61.2 y2.2.1 4)) y61.2 h)
            · rw [if_neg hc] at h
              refine zg_aload_n F.1 zd_LG_rider_67 rfl rfl ?_
              refine zg_getI3 F.1 (by decide) hk2 5 (by decide) (y61.2 y2.2.1 5) rfl rfl zwf_LG_191 zd_LG_rider_68 ?_
              refine zg_goto F.1 83 zd_LG_rider_71 rfl ?_
              exact zg_le (zw_len (zw_len (zw_len (zw_len zw_le0)))) (zl_LG_rider_83 F (y61.2 y2.2.1 5) y61.2 h)
          · rw [if_neg hc4] at h
            refine zg_tabOut F.1 84 zd_LG_rider_7 (zw_sw0_4 hc0 hc1 hc2 hc3 hc4) rfl ?_
            cases h
theorem zk_LG_rider {E : zE} (hn : zw_n E 10) (N : Nat) (a1 : Int32) (a2 : Int32) (st : zS)  {rv : Int32} {rst : zS} (h : zf_LG_rider N a1 a2 st = some (0, rv, rst)) : zw_M l zy_LG_rider (Cond.code zy_LG_rider zo_LG_rider 4 (some .int) :: zwAll) zrm_LG_rider E [.ref 0, .int a1, .int a2] st (some (.int rv)) rst :=
  zw_enter (by decide) rfl hn (Nat.le_of_ble_eq_true rfl) (by simp [Value.category]) 1 (fun p e s m args below meth c A F => zl_LG_rider_0 F a1 a2 st  h)
abbrev zrx_LG_rider : Room := { frames := 7, cells := 1, slots := 6, locals := 111 }
set_option maxHeartbeats 4000000 in
theorem zxl_LG_rider_83 (F : zw_X p m c zo_LG_rider 4 s args zR0 E 10 A meth (some .int)) (Y : zx_X zx_ss l s A c) {N : Nat} {xx : Nat} {rv : Int32} {rst : zS} (hxx : ¬ xx = 0)   (s0 : Int32) (st : zS)  (h : zf_LG_rider_83 N  s0 st = some (xx, rv, rst)) : zw_G p l e zrx_LG_rider s m args below meth c (zx_MQ below E xx rst A args s) E A 4 0 83 [none, none, none, none] [.int s0] st := by
  unfold zf_LG_rider_83 at h
  cases h
  exact absurd rfl hxx
set_option maxHeartbeats 4000000 in
theorem zxl_LG_rider_0 (F : zw_X p m c zo_LG_rider 4 s args zR0 E 10 A meth (some .int)) (Y : zx_X zx_ss l s A c) {N : Nat} {xx : Nat} {rv : Int32} {rst : zS} (hxx : ¬ xx = 0) (a1 : Int32) (a2 : Int32) (st : zS)  (h : zf_LG_rider N a1 a2 st = some (xx, rv, rst)) : zw_G p l e zrx_LG_rider s m args below meth c (zx_MQ below E xx rst A args s) E A 4 0 0 [some (.ref 0), some (.int a1), some (.int a2), none] [] st := by
  unfold zf_LG_rider at h
  refine zg_aload_n F.1 zd_LG_rider_0 rfl rfl ?_
  refine zg_iload_n F.1 zd_LG_rider_1 rfl rfl ?_
  obtain ⟨y2, hc2, h⟩ := Option.bind_eq_some_iff.mp h
  by_cases hz2 : y2.1 = 0
  case neg =>
    rw [if_neg hz2] at h
    have e9 := Option.some.inj h
    have e1 := congrArg (fun z => z.1) e9
    have e3 := congrArg (fun z => z.2.2) e9
    dsimp only at e1 e3
    subst e1; subst e3
    exact zx_callV F Y (As := [.int a1]) (rest := []) (zx_LG_riderNumbered Y.1 F.1.2.2 N a1 st hz2 hc2) rfl rfl zcal_LG_riderNumbered zml_LG_175 ⟨(Nat.le_of_ble_eq_true rfl), (Nat.le_of_ble_eq_true rfl)⟩ (zg_rec0 F.1 (by decide) rfl) rfl (Nat.le_of_ble_eq_true rfl) ⟨(Nat.le_of_ble_eq_true rfl), (Nat.le_of_ble_eq_true rfl)⟩ zd_LG_rider_2
  rw [if_pos hz2] at h
  have hk2 : zw_kind y2.2.1 = 3 := zkd_LG_riderNumbered (hc2.trans (congrArg some (zw_y0 hz2)))
  refine zg_callV F (As := [.int a1]) (rest := []) (zk_LG_riderNumbered F.1.2.2 N a1 st (hc2.trans (congrArg some (zw_y0 hz2)))) rfl rfl zcal_LG_riderNumbered zml_LG_175 ⟨(Nat.le_of_ble_eq_true rfl), (Nat.le_of_ble_eq_true rfl)⟩ (zg_rec0 F.1 (by decide) rfl) rfl (Nat.le_of_ble_eq_true rfl) ⟨(Nat.le_of_ble_eq_true rfl), (Nat.le_of_ble_eq_true rfl)⟩ zd_LG_rider_2 ?_
  refine zg_astore_n F.1 [some (.ref 0), some (.int a1), some (.int a2), some (.ref y2.2.1)] zd_LG_rider_5 rfl (by decide) rfl ?_
  refine zg_iload_n F.1 zd_LG_rider_6 rfl rfl ?_
  by_cases hc0 : a2 = 0
  · rw [if_pos hc0] at h
    refine zg_tabIn F.1 40 zd_LG_rider_7 (by rw [hc0]; decide) (by rw [hc0]; decide) (by rw [hc0]; rfl) rfl ?_
    refine zg_aload_n F.1 zd_LG_rider_40 rfl rfl ?_
    refine zg_getI3 F.1 (by decide) hk2 2 (by decide) (y2.2.2 y2.2.1 2) rfl rfl zwf_LG_179 zd_LG_rider_41 ?_
    cases h
    exact absurd rfl hxx
  · rw [if_neg hc0] at h
    by_cases hc1 : a2 = 1
    · rw [if_pos hc1] at h
      refine zg_tabIn F.1 45 zd_LG_rider_7 (by rw [hc1]; decide) (by rw [hc1]; decide) (by rw [hc1]; rfl) rfl ?_
      refine zg_aload_n F.1 zd_LG_rider_45 rfl rfl ?_
      refine zg_getI3 F.1 (by decide) hk2 3 (by decide) (y2.2.2 y2.2.1 3) rfl rfl zwf_LG_93 zd_LG_rider_46 ?_
      cases h
      exact absurd rfl hxx
    · rw [if_neg hc1] at h
      by_cases hc2 : a2 = 2
      · rw [if_pos hc2] at h
        refine zg_tabIn F.1 50 zd_LG_rider_7 (by rw [hc2]; decide) (by rw [hc2]; decide) (by rw [hc2]; rfl) rfl ?_
        refine zg_aload_n F.1 zd_LG_rider_50 rfl rfl ?_
        refine zg_getI3 F.1 (by decide) hk2 0 (by decide) (y2.2.2 y2.2.1 0) rfl rfl zwf_LG_182 zd_LG_rider_51 ?_
        cases h
        exact absurd rfl hxx
      · rw [if_neg hc2] at h
        by_cases hc3 : a2 = 3
        · rw [if_pos hc3] at h
          refine zg_tabIn F.1 55 zd_LG_rider_7 (by rw [hc3]; decide) (by rw [hc3]; decide) (by rw [hc3]; rfl) rfl ?_
          refine zg_aload_n F.1 zd_LG_rider_55 rfl rfl ?_
          refine zg_getI3 F.1 (by decide) hk2 1 (by decide) (y2.2.2 y2.2.1 1) rfl rfl zwf_LG_185 zd_LG_rider_56 ?_
          cases h
          exact absurd rfl hxx
        · rw [if_neg hc3] at h
          by_cases hc4 : a2 = 4
          · rw [if_pos hc4] at h
            refine zg_tabIn F.1 60 zd_LG_rider_7 (by rw [hc4]; decide) (by rw [hc4]; decide) (by rw [hc4]; rfl) rfl ?_
            refine zg_aload_n F.1 zd_LG_rider_60 rfl rfl ?_
            obtain ⟨y61, hc61, h⟩ := Option.bind_eq_some_iff.mp h
            refine zg_callV F (As := []) (rest := []) (zk_Ri_ended F.1.2.2 N y2.2.1 y2.2.2 hk2 hc61) rfl rfl zcal_Ri_ended zml_LG_188 ⟨(Nat.le_of_ble_eq_true rfl), (Nat.le_of_ble_eq_true rfl)⟩ (zg_rec3 F.1 (by decide) hk2) rfl (Nat.le_of_ble_eq_true rfl) ⟨(Nat.le_of_ble_eq_true rfl), (Nat.le_of_ble_eq_true rfl)⟩ zd_LG_rider_61 ?_
            refine zg_if_eq F.1 74 zd_LG_rider_64 rfl (fun hc => ?_) (fun hc => ?_)
            · rw [if_pos hc] at h
              refine zg_aload_n F.1 zd_LG_rider_74 rfl rfl ?_
              refine zg_getI0 F.1 (by decide) rfl 8 (by decide) (y61.2 0 8) rfl rfl zwf_LG_80 zd_LG_rider_75 ?_
              refine zg_aload_n F.1 zd_LG_rider_78 rfl rfl ?_
              refine zg_getI3 F.1 (by decide) hk2 4 (by decide) (y61.2 y2.2.1 4) rfl rfl zwf_LG_194 zd_LG_rider_79 ?_
              refine zg_isub F.1 zd_LG_rider_82 ?_
              exact zg_le (zw_len (zw_len (zw_len (zw_len zw_le0)))) (zxl_LG_rider_83 F Y hxx ((y61.2 0 8) - (y61.2 y2.2.1 4)) y61.2 h)
            · rw [if_neg hc] at h
              refine zg_aload_n F.1 zd_LG_rider_67 rfl rfl ?_
              refine zg_getI3 F.1 (by decide) hk2 5 (by decide) (y61.2 y2.2.1 5) rfl rfl zwf_LG_191 zd_LG_rider_68 ?_
              refine zg_goto F.1 83 zd_LG_rider_71 rfl ?_
              exact zg_le (zw_len (zw_len (zw_len (zw_len zw_le0)))) (zxl_LG_rider_83 F Y hxx (y61.2 y2.2.1 5) y61.2 h)
          · rw [if_neg hc4] at h
            refine zg_tabOut F.1 84 zd_LG_rider_7 (zw_sw0_4 hc0 hc1 hc2 hc3 hc4) rfl ?_
            cases h
            exact zx_throw F Y 1 (is := 197) (text := "of a rider only 0 to 4 can be asked") (by decide) rfl zxk_45 zxi_1 zxa_49 (by decide +kernel) (Nat.le_of_ble_eq_true rfl) (Nat.le_of_ble_eq_true rfl) (Nat.le_of_ble_eq_true rfl) (Nat.le_of_ble_eq_true rfl) zd_LG_rider_84 zd_LG_rider_87 zd_LG_rider_88 zd_LG_rider_90 zd_LG_rider_93
theorem zx_LG_rider {E : zE} (hst : l.stackTraces = false) (hn : zw_n E 10) (N : Nat) (a1 : Int32) (a2 : Int32) (st : zS)  {xx : Nat} {rv : Int32} {rst : zS} (hxx : ¬ xx = 0) (h : zf_LG_rider N a1 a2 st = some (xx, rv, rst)) : zx_M zx_ss l zy_LG_rider (Cond.code zy_LG_rider zo_LG_rider 4 (some .int) :: zwAll) zrx_LG_rider E [.ref 0, .int a1, .int a2] st xx rst :=
  zx_enter hst (by decide) rfl hn (Nat.le_of_ble_eq_true rfl) (by simp [Value.category]) 1 (fun p e s m args below meth c A F Y => zxl_LG_rider_0 F Y hxx a1 a2 st  h)
abbrev zrm_LG_promise : Room := { frames := 3, cells := 0, slots := 0, locals := 68 }
def zf_LG_promise_36 (N : Nat)   (st : zS) : Option (Nat × Int32 × zS) := some (0, (-1), st)
set_option maxHeartbeats 4000000 in
theorem zl_LG_promise_36 (F : zw_X p m c zo_LG_promise 5 s args zR0 E 10 A meth (some .int)) {N : Nat} {rv : Int32} {rst : zS}    (st : zS)  (h : zf_LG_promise_36 N   st = some (0, rv, rst)) : zw_G p l e zrm_LG_promise s m args below meth c (MQ below (zw_Q E (some (.int rv)) rst A) args s 0 0 A) E A 5 0 36 [none, none, none, none, none] [] st := by
  unfold zf_LG_promise_36 at h
  refine zg_iconst F.1 (-1) (-1) (by decide) zd_LG_promise_36 ?_
  cases h
  exact zg_iret F zd_LG_promise_37
def zb_LG_promise_61 (N : Nat) (r61 : Int32 → Int32 → zS → Option (Nat × Int32 × zS)) (l3 : Int32) (l4 : Int32) (st : zS) : Option (Nat × Int32 × zS) := (if 1000 < l4 then some (0, (-1), st) else ((zf_Ca_advance N 9 st).bind fun t77 => (if ((t77 9 10) &&& l3) = 0 then (if ((t77 9 11) &&& l3) = 0 then r61 l3 (l4 + 1) t77 else some (0, (-1), t77)) else some (0, l4, t77))))
set_option maxHeartbeats 4000000 in
theorem zlb_LG_promise_61 (F : zw_X p m c zo_LG_promise 5 s args zR0 E 10 A meth (some .int)) {N : Nat} {rv : Int32} {rst : zS} {r61 : Int32 → Int32 → zS → Option (Nat × Int32 × zS)} (hr61 : ∀ (l3 : Int32) (l4 : Int32) (st : zS) , r61 l3 l4 st = some (0, rv, rst) → zw_G p l e zrm_LG_promise s m args below meth c (MQ below (zw_Q E (some (.int rv)) rst A) args s 0 0 A) E A 5 0 61 [some (.ref 0), none, none, some (.int l3), some (.int l4)] [] st) (l3 : Int32) (l4 : Int32) (st : zS)  (h : zb_LG_promise_61 N r61 l3 l4 st = some (0, rv, rst)) : zw_G p l e zrm_LG_promise s m args below meth c (MQ below (zw_Q E (some (.int rv)) rst A) args s 0 0 A) E A 5 0 61 [some (.ref 0), none, none, some (.int l3), some (.int l4)] [] st := by
  unfold zb_LG_promise_61 at h
  refine zg_iload F.1 zd_LG_promise_61 rfl ?_
  refine zg_sipush F.1 1000 1000 (by decide) zd_LG_promise_63 ?_
  refine zg_icmp_gt F.1 115 zd_LG_promise_66 rfl (fun hc => ?_) (fun hc => ?_)
  · rw [if_pos hc] at h
    refine zg_iconst F.1 (-1) (-1) (by decide) zd_LG_promise_115 ?_
    cases h
    exact zg_iret F zd_LG_promise_116
  · rw [if_neg hc] at h
    refine zg_aload_n F.1 zd_LG_promise_69 rfl rfl ?_
    refine zg_getR0 F.1 (by decide) rfl 2 (by decide) 9 rfl zwf_LG_23 zd_LG_promise_70 ?_
    refine zg_aload_n F.1 zd_LG_promise_73 rfl rfl ?_
    refine zg_getR0 F.1 (by decide) rfl 0 (by decide) 1 rfl zwf_LG_10 zd_LG_promise_74 ?_
    obtain ⟨t77, hc77, h⟩ := Option.bind_eq_some_iff.mp h
    refine zg_callV F (As := [.ref 1]) (rest := []) (zk_Ca_advance F.1.2.2 N 9 st rfl hc77) rfl rfl zcal_Ca_advance zml_LG_105 ⟨(Nat.le_of_ble_eq_true rfl), (Nat.le_of_ble_eq_true rfl)⟩ (zg_rec2 F.1 (by decide) rfl) rfl (Nat.le_of_ble_eq_true rfl) ⟨(Nat.le_of_ble_eq_true rfl), (Nat.le_of_ble_eq_true rfl)⟩ zd_LG_promise_77 ?_
    refine zg_aload_n F.1 zd_LG_promise_80 rfl rfl ?_
    refine zg_getR0 F.1 (by decide) rfl 2 (by decide) 9 rfl zwf_LG_23 zd_LG_promise_81 ?_
    refine zg_getI2 F.1 (by decide) rfl 10 (by decide) (t77 9 10) rfl rfl zwf_LG_203 zd_LG_promise_84 ?_
    refine zg_iload_n F.1 zd_LG_promise_87 rfl rfl ?_
    refine zg_iand F.1 zd_LG_promise_88 ?_
    refine zg_if_eq F.1 95 zd_LG_promise_89 rfl (fun hc => ?_) (fun hc => ?_)
    · rw [if_pos hc] at h
      refine zg_aload_n F.1 zd_LG_promise_95 rfl rfl ?_
      refine zg_getR0 F.1 (by decide) rfl 2 (by decide) 9 rfl zwf_LG_23 zd_LG_promise_96 ?_
      refine zg_getI2 F.1 (by decide) rfl 11 (by decide) (t77 9 11) rfl rfl zwf_LG_206 zd_LG_promise_99 ?_
      refine zg_iload_n F.1 zd_LG_promise_102 rfl rfl ?_
      refine zg_iand F.1 zd_LG_promise_103 ?_
      refine zg_if_eq F.1 109 zd_LG_promise_104 rfl (fun hc => ?_) (fun hc => ?_)
      · rw [if_pos hc] at h
        refine zg_iinc F.1 (l4 + 1) [some (.ref 0), none, none, some (.int l3), some (.int (l4 + 1))] zd_LG_promise_109 rfl (by rw [lit1]) (by decide) rfl ?_
        refine zg_goto F.1 61 zd_LG_promise_112 rfl ?_
        exact hr61 l3 (l4 + 1) t77 h
      · rw [if_neg hc] at h
        refine zg_iconst F.1 (-1) (-1) (by decide) zd_LG_promise_107 ?_
        cases h
        exact zg_iret F zd_LG_promise_108
    · rw [if_neg hc] at h
      refine zg_iload F.1 zd_LG_promise_92 rfl ?_
      cases h
      exact zg_iret F zd_LG_promise_94
def zf_LG_promise_61 (N : Nat)  : Nat → Int32 → Int32 → zS → Option (Nat × Int32 × zS)
  | 0, _, _, _ => none
  | n + 1, l3, l4, st => zb_LG_promise_61 N  (zf_LG_promise_61 N  n) l3 l4 st
theorem zl_LG_promise_61 (F : zw_X p m c zo_LG_promise 5 s args zR0 E 10 A meth (some .int)) {N : Nat} {rv : Int32} {rst : zS}   : ∀ (n : Nat) (l3 : Int32) (l4 : Int32) (st : zS)  (h : zf_LG_promise_61 N  n l3 l4 st = some (0, rv, rst)), zw_G p l e zrm_LG_promise s m args below meth c (MQ below (zw_Q E (some (.int rv)) rst A) args s 0 0 A) E A 5 0 61 [some (.ref 0), none, none, some (.int l3), some (.int l4)] [] st := by
  intro n
  induction n with
  | zero => intro l3 l4 st  h; cases h
  | succ n ih => intro l3 l4 st  h; exact zlb_LG_promise_61 F  ih l3 l4 st  h
def zf_LG_promise (N : Nat) (a1 : Int32) (st : zS) : Option (Nat × Int32 × zS) := ((zf_LG_riderNumbered N a1 st).bind fun y2 => (if y2.1 = 0 then ((zf_Ri_ended N y2.2.1 y2.2.2).bind fun y7 => (if y7.1 = 0 then (if (y7.2 y2.2.1 3) = (-1) then zf_LG_promise_36 N y7.2 else (if (y7.2 y2.2.1 3) < 0 ∨ 4 ≤ (y7.2 y2.2.1 3).toNatClampNeg then none else (if (y7.2 (5 + (y7.2 y2.2.1 3).toNatClampNeg) 6) = 0 then (if (y7.2 y2.2.1 3) < 0 ∨ 4 ≤ (y7.2 y2.2.1 3).toNatClampNeg then none else ((zf_Ca_becomeLike N 9 (5 + (y7.2 y2.2.1 3).toNatClampNeg) y7.2).bind fun t51 => zf_LG_promise_61 N N (1 <<< (a1 &&& 31)) 1 t51)) else zf_LG_promise_36 N y7.2))) else zf_LG_promise_36 N y7.2)) else some (y2.1, 0, y2.2.2)))
set_option maxHeartbeats 4000000 in
theorem zl_LG_promise_0 (F : zw_X p m c zo_LG_promise 5 s args zR0 E 10 A meth (some .int)) {N : Nat} {rv : Int32} {rst : zS} (a1 : Int32) (st : zS)  (h : zf_LG_promise N a1 st = some (0, rv, rst)) : zw_G p l e zrm_LG_promise s m args below meth c (MQ below (zw_Q E (some (.int rv)) rst A) args s 0 0 A) E A 5 0 0 [some (.ref 0), some (.int a1), none, none, none] [] st := by
  unfold zf_LG_promise at h
  refine zg_aload_n F.1 zd_LG_promise_0 rfl rfl ?_
  refine zg_iload_n F.1 zd_LG_promise_1 rfl rfl ?_
  obtain ⟨y2, hc2, h⟩ := Option.bind_eq_some_iff.mp h
  by_cases hz2 : y2.1 = 0
  case neg =>
    rw [if_neg hz2] at h
    exact absurd (congrArg (fun z => z.1) (Option.some.inj h)) hz2
  rw [if_pos hz2] at h
  have hk2 : zw_kind y2.2.1 = 3 := zkd_LG_riderNumbered (hc2.trans (congrArg some (zw_y0 hz2)))
  refine zg_callV F (As := [.int a1]) (rest := []) (zk_LG_riderNumbered F.1.2.2 N a1 st (hc2.trans (congrArg some (zw_y0 hz2)))) rfl rfl zcal_LG_riderNumbered zml_LG_175 ⟨(Nat.le_of_ble_eq_true rfl), (Nat.le_of_ble_eq_true rfl)⟩ (zg_rec0 F.1 (by decide) rfl) rfl (Nat.le_of_ble_eq_true rfl) ⟨(Nat.le_of_ble_eq_true rfl), (Nat.le_of_ble_eq_true rfl)⟩ zd_LG_promise_2 ?_
  refine zg_astore_n F.1 [some (.ref 0), some (.int a1), some (.ref y2.2.1), none, none] zd_LG_promise_5 rfl (by decide) rfl ?_
  refine zg_aload_n F.1 zd_LG_promise_6 rfl rfl ?_
  obtain ⟨y7, hc7, h⟩ := Option.bind_eq_some_iff.mp h
  refine zg_callV F (As := []) (rest := []) (zk_Ri_ended F.1.2.2 N y2.2.1 y2.2.2 hk2 hc7) rfl rfl zcal_Ri_ended zml_LG_188 ⟨(Nat.le_of_ble_eq_true rfl), (Nat.le_of_ble_eq_true rfl)⟩ (zg_rec3 F.1 (by decide) hk2) rfl (Nat.le_of_ble_eq_true rfl) ⟨(Nat.le_of_ble_eq_true rfl), (Nat.le_of_ble_eq_true rfl)⟩ zd_LG_promise_7 ?_
  refine zg_if_ne F.1 36 zd_LG_promise_10 rfl (fun hc => ?_) (fun hc => ?_)
  · rw [if_neg hc] at h
    exact zg_le (zw_len (zw_len (zw_len (zw_les (zw_les zw_le0))))) (zl_LG_promise_36 F y7.2 h)
  · rw [if_pos hc] at h
    refine zg_aload_n F.1 zd_LG_promise_13 rfl rfl ?_
    refine zg_getI3 F.1 (by decide) hk2 3 (by decide) (y7.2 y2.2.1 3) rfl rfl zwf_LG_93 zd_LG_promise_14 ?_
    refine zg_iconst F.1 (-1) (-1) (by decide) zd_LG_promise_17 ?_
    refine zg_icmp_eq F.1 36 zd_LG_promise_18 rfl (fun hc => ?_) (fun hc => ?_)
    · rw [if_pos hc] at h
      exact zg_le (zw_len (zw_len (zw_len (zw_les (zw_les zw_le0))))) (zl_LG_promise_36 F y7.2 h)
    · rw [if_neg hc] at h
      refine zg_aload_n F.1 zd_LG_promise_21 rfl rfl ?_
      refine zg_getR0 F.1 (by decide) rfl 1 (by decide) 4 rfl zwf_LG_18 zd_LG_promise_22 ?_
      refine zg_aload_n F.1 zd_LG_promise_25 rfl rfl ?_
      refine zg_getI3 F.1 (by decide) hk2 3 (by decide) (y7.2 y2.2.1 3) rfl rfl zwf_LG_93 zd_LG_promise_26 ?_
      by_cases hi29 : (y7.2 y2.2.1 3) < 0 ∨ 4 ≤ (y7.2 y2.2.1 3).toNatClampNeg
      case pos => rw [if_pos hi29] at h; cases h
      rw [if_neg hi29] at h
      refine zg_ald6 F.1 (by decide) rfl hi29 ((y7.2 y2.2.1 3).toNatClampNeg) rfl zd_LG_promise_29 ?_
      refine zg_getI2 F.1 (by decide) (zw_carI hi29) 6 (by decide) (y7.2 (5 + (y7.2 y2.2.1 3).toNatClampNeg) 6) rfl rfl zwf_LG_101 zd_LG_promise_30 ?_
      refine zg_if_eq F.1 38 zd_LG_promise_33 rfl (fun hc => ?_) (fun hc => ?_)
      · rw [if_pos hc] at h
        refine zg_aload_n F.1 zd_LG_promise_38 rfl rfl ?_
        refine zg_getR0 F.1 (by decide) rfl 2 (by decide) 9 rfl zwf_LG_23 zd_LG_promise_39 ?_
        refine zg_aload_n F.1 zd_LG_promise_42 rfl rfl ?_
        refine zg_getR0 F.1 (by decide) rfl 1 (by decide) 4 rfl zwf_LG_18 zd_LG_promise_43 ?_
        refine zg_aload_n F.1 zd_LG_promise_46 rfl rfl ?_
        refine zg_getI3 F.1 (by decide) hk2 3 (by decide) (y7.2 y2.2.1 3) rfl rfl zwf_LG_93 zd_LG_promise_47 ?_
        by_cases hi50 : (y7.2 y2.2.1 3) < 0 ∨ 4 ≤ (y7.2 y2.2.1 3).toNatClampNeg
        case pos => rw [if_pos hi50] at h; cases h
        rw [if_neg hi50] at h
        refine zg_ald6 F.1 (by decide) rfl hi50 ((y7.2 y2.2.1 3).toNatClampNeg) rfl zd_LG_promise_50 ?_
        obtain ⟨t51, hc51, h⟩ := Option.bind_eq_some_iff.mp h
        refine zg_callV F (As := [.ref (5 + (y7.2 y2.2.1 3).toNatClampNeg)]) (rest := []) (zk_Ca_becomeLike F.1.2.2 N 9 (5 + (y7.2 y2.2.1 3).toNatClampNeg) y7.2 rfl (zw_carI hi50) hc51) rfl rfl zcal_Ca_becomeLike zml_LG_199 ⟨(Nat.le_of_ble_eq_true rfl), (Nat.le_of_ble_eq_true rfl)⟩ (zg_rec2 F.1 (by decide) rfl) rfl (Nat.le_of_ble_eq_true rfl) ⟨(Nat.le_of_ble_eq_true rfl), (Nat.le_of_ble_eq_true rfl)⟩ zd_LG_promise_51 ?_
        refine zg_iconst F.1 1 1 (by decide) zd_LG_promise_54 ?_
        refine zg_iload_n F.1 zd_LG_promise_55 rfl rfl ?_
        refine zg_ishl F.1 zd_LG_promise_56 ?_
        refine zg_istore_n F.1 [some (.ref 0), some (.int a1), some (.ref y2.2.1), some (.int (1 <<< (a1 &&& 31))), none] zd_LG_promise_57 rfl (by decide) rfl ?_
        refine zg_iconst F.1 1 1 (by decide) zd_LG_promise_58 ?_
        refine zg_istore F.1 [some (.ref 0), some (.int a1), some (.ref y2.2.1), some (.int (1 <<< (a1 &&& 31))), some (.int 1)] zd_LG_promise_59 (by decide) rfl ?_
        exact zg_le (zw_les (zw_len (zw_len (zw_les (zw_les zw_le0))))) (zl_LG_promise_61 F N (1 <<< (a1 &&& 31)) 1 t51 h)
      · rw [if_neg hc] at h
        exact zg_le (zw_len (zw_len (zw_len (zw_les (zw_les zw_le0))))) (zl_LG_promise_36 F y7.2 h)
theorem zk_LG_promise {E : zE} (hn : zw_n E 10) (N : Nat) (a1 : Int32) (st : zS)  {rv : Int32} {rst : zS} (h : zf_LG_promise N a1 st = some (0, rv, rst)) : zw_M l zy_LG_promise (Cond.code zy_LG_promise zo_LG_promise 5 (some .int) :: zwAll) zrm_LG_promise E [.ref 0, .int a1] st (some (.int rv)) rst :=
  zw_enter (by decide) rfl hn (Nat.le_of_ble_eq_true rfl) (by simp [Value.category]) 3 (fun p e s m args below meth c A F => zl_LG_promise_0 F a1 st  h)
abbrev zrx_LG_promise : Room := { frames := 7, cells := 1, slots := 6, locals := 111 }
set_option maxHeartbeats 4000000 in
theorem zxl_LG_promise_36 (F : zw_X p m c zo_LG_promise 5 s args zR0 E 10 A meth (some .int)) (Y : zx_X zx_ss l s A c) {N : Nat} {xx : Nat} {rv : Int32} {rst : zS} (hxx : ¬ xx = 0)    (st : zS)  (h : zf_LG_promise_36 N   st = some (xx, rv, rst)) : zw_G p l e zrx_LG_promise s m args below meth c (zx_MQ below E xx rst A args s) E A 5 0 36 [none, none, none, none, none] [] st := by
  unfold zf_LG_promise_36 at h
  refine zg_iconst F.1 (-1) (-1) (by decide) zd_LG_promise_36 ?_
  cases h
  exact absurd rfl hxx
set_option maxHeartbeats 4000000 in
theorem zxlb_LG_promise_61 (F : zw_X p m c zo_LG_promise 5 s args zR0 E 10 A meth (some .int)) (Y : zx_X zx_ss l s A c) {N : Nat} {xx : Nat} {rv : Int32} {rst : zS} (hxx : ¬ xx = 0) {r61 : Int32 → Int32 → zS → Option (Nat × Int32 × zS)} (hr61 : ∀ (l3 : Int32) (l4 : Int32) (st : zS) , r61 l3 l4 st = some (xx, rv, rst) → zw_G p l e zrx_LG_promise s m args below meth c (zx_MQ below E xx rst A args s) E A 5 0 61 [some (.ref 0), none, none, some (.int l3), some (.int l4)] [] st) (l3 : Int32) (l4 : Int32) (st : zS)  (h : zb_LG_promise_61 N r61 l3 l4 st = some (xx, rv, rst)) : zw_G p l e zrx_LG_promise s m args below meth c (zx_MQ below E xx rst A args s) E A 5 0 61 [some (.ref 0), none, none, some (.int l3), some (.int l4)] [] st := by
  unfold zb_LG_promise_61 at h
  refine zg_iload F.1 zd_LG_promise_61 rfl ?_
  refine zg_sipush F.1 1000 1000 (by decide) zd_LG_promise_63 ?_
  refine zg_icmp_gt F.1 115 zd_LG_promise_66 rfl (fun hc => ?_) (fun hc => ?_)
  · rw [if_pos hc] at h
    refine zg_iconst F.1 (-1) (-1) (by decide) zd_LG_promise_115 ?_
    cases h
    exact absurd rfl hxx
  · rw [if_neg hc] at h
    refine zg_aload_n F.1 zd_LG_promise_69 rfl rfl ?_
    refine zg_getR0 F.1 (by decide) rfl 2 (by decide) 9 rfl zwf_LG_23 zd_LG_promise_70 ?_
    refine zg_aload_n F.1 zd_LG_promise_73 rfl rfl ?_
    refine zg_getR0 F.1 (by decide) rfl 0 (by decide) 1 rfl zwf_LG_10 zd_LG_promise_74 ?_
    obtain ⟨t77, hc77, h⟩ := Option.bind_eq_some_iff.mp h
    refine zg_callV F (As := [.ref 1]) (rest := []) (zk_Ca_advance F.1.2.2 N 9 st rfl hc77) rfl rfl zcal_Ca_advance zml_LG_105 ⟨(Nat.le_of_ble_eq_true rfl), (Nat.le_of_ble_eq_true rfl)⟩ (zg_rec2 F.1 (by decide) rfl) rfl (Nat.le_of_ble_eq_true rfl) ⟨(Nat.le_of_ble_eq_true rfl), (Nat.le_of_ble_eq_true rfl)⟩ zd_LG_promise_77 ?_
    refine zg_aload_n F.1 zd_LG_promise_80 rfl rfl ?_
    refine zg_getR0 F.1 (by decide) rfl 2 (by decide) 9 rfl zwf_LG_23 zd_LG_promise_81 ?_
    refine zg_getI2 F.1 (by decide) rfl 10 (by decide) (t77 9 10) rfl rfl zwf_LG_203 zd_LG_promise_84 ?_
    refine zg_iload_n F.1 zd_LG_promise_87 rfl rfl ?_
    refine zg_iand F.1 zd_LG_promise_88 ?_
    refine zg_if_eq F.1 95 zd_LG_promise_89 rfl (fun hc => ?_) (fun hc => ?_)
    · rw [if_pos hc] at h
      refine zg_aload_n F.1 zd_LG_promise_95 rfl rfl ?_
      refine zg_getR0 F.1 (by decide) rfl 2 (by decide) 9 rfl zwf_LG_23 zd_LG_promise_96 ?_
      refine zg_getI2 F.1 (by decide) rfl 11 (by decide) (t77 9 11) rfl rfl zwf_LG_206 zd_LG_promise_99 ?_
      refine zg_iload_n F.1 zd_LG_promise_102 rfl rfl ?_
      refine zg_iand F.1 zd_LG_promise_103 ?_
      refine zg_if_eq F.1 109 zd_LG_promise_104 rfl (fun hc => ?_) (fun hc => ?_)
      · rw [if_pos hc] at h
        refine zg_iinc F.1 (l4 + 1) [some (.ref 0), none, none, some (.int l3), some (.int (l4 + 1))] zd_LG_promise_109 rfl (by rw [lit1]) (by decide) rfl ?_
        refine zg_goto F.1 61 zd_LG_promise_112 rfl ?_
        exact hr61 l3 (l4 + 1) t77 h
      · rw [if_neg hc] at h
        refine zg_iconst F.1 (-1) (-1) (by decide) zd_LG_promise_107 ?_
        cases h
        exact absurd rfl hxx
    · rw [if_neg hc] at h
      refine zg_iload F.1 zd_LG_promise_92 rfl ?_
      cases h
      exact absurd rfl hxx
theorem zxl_LG_promise_61 (F : zw_X p m c zo_LG_promise 5 s args zR0 E 10 A meth (some .int)) (Y : zx_X zx_ss l s A c) {N : Nat} {xx : Nat} {rv : Int32} {rst : zS} (hxx : ¬ xx = 0)   : ∀ (n : Nat) (l3 : Int32) (l4 : Int32) (st : zS)  (h : zf_LG_promise_61 N  n l3 l4 st = some (xx, rv, rst)), zw_G p l e zrx_LG_promise s m args below meth c (zx_MQ below E xx rst A args s) E A 5 0 61 [some (.ref 0), none, none, some (.int l3), some (.int l4)] [] st := by
  intro n
  induction n with
  | zero => intro l3 l4 st  h; cases h
  | succ n ih => intro l3 l4 st  h; exact zxlb_LG_promise_61 F Y hxx  ih l3 l4 st  h
set_option maxHeartbeats 4000000 in
theorem zxl_LG_promise_0 (F : zw_X p m c zo_LG_promise 5 s args zR0 E 10 A meth (some .int)) (Y : zx_X zx_ss l s A c) {N : Nat} {xx : Nat} {rv : Int32} {rst : zS} (hxx : ¬ xx = 0) (a1 : Int32) (st : zS)  (h : zf_LG_promise N a1 st = some (xx, rv, rst)) : zw_G p l e zrx_LG_promise s m args below meth c (zx_MQ below E xx rst A args s) E A 5 0 0 [some (.ref 0), some (.int a1), none, none, none] [] st := by
  unfold zf_LG_promise at h
  refine zg_aload_n F.1 zd_LG_promise_0 rfl rfl ?_
  refine zg_iload_n F.1 zd_LG_promise_1 rfl rfl ?_
  obtain ⟨y2, hc2, h⟩ := Option.bind_eq_some_iff.mp h
  by_cases hz2 : y2.1 = 0
  case neg =>
    rw [if_neg hz2] at h
    have e9 := Option.some.inj h
    have e1 := congrArg (fun z => z.1) e9
    have e3 := congrArg (fun z => z.2.2) e9
    dsimp only at e1 e3
    subst e1; subst e3
    exact zx_callV F Y (As := [.int a1]) (rest := []) (zx_LG_riderNumbered Y.1 F.1.2.2 N a1 st hz2 hc2) rfl rfl zcal_LG_riderNumbered zml_LG_175 ⟨(Nat.le_of_ble_eq_true rfl), (Nat.le_of_ble_eq_true rfl)⟩ (zg_rec0 F.1 (by decide) rfl) rfl (Nat.le_of_ble_eq_true rfl) ⟨(Nat.le_of_ble_eq_true rfl), (Nat.le_of_ble_eq_true rfl)⟩ zd_LG_promise_2
  rw [if_pos hz2] at h
  have hk2 : zw_kind y2.2.1 = 3 := zkd_LG_riderNumbered (hc2.trans (congrArg some (zw_y0 hz2)))
  refine zg_callV F (As := [.int a1]) (rest := []) (zk_LG_riderNumbered F.1.2.2 N a1 st (hc2.trans (congrArg some (zw_y0 hz2)))) rfl rfl zcal_LG_riderNumbered zml_LG_175 ⟨(Nat.le_of_ble_eq_true rfl), (Nat.le_of_ble_eq_true rfl)⟩ (zg_rec0 F.1 (by decide) rfl) rfl (Nat.le_of_ble_eq_true rfl) ⟨(Nat.le_of_ble_eq_true rfl), (Nat.le_of_ble_eq_true rfl)⟩ zd_LG_promise_2 ?_
  refine zg_astore_n F.1 [some (.ref 0), some (.int a1), some (.ref y2.2.1), none, none] zd_LG_promise_5 rfl (by decide) rfl ?_
  refine zg_aload_n F.1 zd_LG_promise_6 rfl rfl ?_
  obtain ⟨y7, hc7, h⟩ := Option.bind_eq_some_iff.mp h
  refine zg_callV F (As := []) (rest := []) (zk_Ri_ended F.1.2.2 N y2.2.1 y2.2.2 hk2 hc7) rfl rfl zcal_Ri_ended zml_LG_188 ⟨(Nat.le_of_ble_eq_true rfl), (Nat.le_of_ble_eq_true rfl)⟩ (zg_rec3 F.1 (by decide) hk2) rfl (Nat.le_of_ble_eq_true rfl) ⟨(Nat.le_of_ble_eq_true rfl), (Nat.le_of_ble_eq_true rfl)⟩ zd_LG_promise_7 ?_
  refine zg_if_ne F.1 36 zd_LG_promise_10 rfl (fun hc => ?_) (fun hc => ?_)
  · rw [if_neg hc] at h
    exact zg_le (zw_len (zw_len (zw_len (zw_les (zw_les zw_le0))))) (zxl_LG_promise_36 F Y hxx y7.2 h)
  · rw [if_pos hc] at h
    refine zg_aload_n F.1 zd_LG_promise_13 rfl rfl ?_
    refine zg_getI3 F.1 (by decide) hk2 3 (by decide) (y7.2 y2.2.1 3) rfl rfl zwf_LG_93 zd_LG_promise_14 ?_
    refine zg_iconst F.1 (-1) (-1) (by decide) zd_LG_promise_17 ?_
    refine zg_icmp_eq F.1 36 zd_LG_promise_18 rfl (fun hc => ?_) (fun hc => ?_)
    · rw [if_pos hc] at h
      exact zg_le (zw_len (zw_len (zw_len (zw_les (zw_les zw_le0))))) (zxl_LG_promise_36 F Y hxx y7.2 h)
    · rw [if_neg hc] at h
      refine zg_aload_n F.1 zd_LG_promise_21 rfl rfl ?_
      refine zg_getR0 F.1 (by decide) rfl 1 (by decide) 4 rfl zwf_LG_18 zd_LG_promise_22 ?_
      refine zg_aload_n F.1 zd_LG_promise_25 rfl rfl ?_
      refine zg_getI3 F.1 (by decide) hk2 3 (by decide) (y7.2 y2.2.1 3) rfl rfl zwf_LG_93 zd_LG_promise_26 ?_
      by_cases hi29 : (y7.2 y2.2.1 3) < 0 ∨ 4 ≤ (y7.2 y2.2.1 3).toNatClampNeg
      case pos => rw [if_pos hi29] at h; cases h
      rw [if_neg hi29] at h
      refine zg_ald6 F.1 (by decide) rfl hi29 ((y7.2 y2.2.1 3).toNatClampNeg) rfl zd_LG_promise_29 ?_
      refine zg_getI2 F.1 (by decide) (zw_carI hi29) 6 (by decide) (y7.2 (5 + (y7.2 y2.2.1 3).toNatClampNeg) 6) rfl rfl zwf_LG_101 zd_LG_promise_30 ?_
      refine zg_if_eq F.1 38 zd_LG_promise_33 rfl (fun hc => ?_) (fun hc => ?_)
      · rw [if_pos hc] at h
        refine zg_aload_n F.1 zd_LG_promise_38 rfl rfl ?_
        refine zg_getR0 F.1 (by decide) rfl 2 (by decide) 9 rfl zwf_LG_23 zd_LG_promise_39 ?_
        refine zg_aload_n F.1 zd_LG_promise_42 rfl rfl ?_
        refine zg_getR0 F.1 (by decide) rfl 1 (by decide) 4 rfl zwf_LG_18 zd_LG_promise_43 ?_
        refine zg_aload_n F.1 zd_LG_promise_46 rfl rfl ?_
        refine zg_getI3 F.1 (by decide) hk2 3 (by decide) (y7.2 y2.2.1 3) rfl rfl zwf_LG_93 zd_LG_promise_47 ?_
        by_cases hi50 : (y7.2 y2.2.1 3) < 0 ∨ 4 ≤ (y7.2 y2.2.1 3).toNatClampNeg
        case pos => rw [if_pos hi50] at h; cases h
        rw [if_neg hi50] at h
        refine zg_ald6 F.1 (by decide) rfl hi50 ((y7.2 y2.2.1 3).toNatClampNeg) rfl zd_LG_promise_50 ?_
        obtain ⟨t51, hc51, h⟩ := Option.bind_eq_some_iff.mp h
        refine zg_callV F (As := [.ref (5 + (y7.2 y2.2.1 3).toNatClampNeg)]) (rest := []) (zk_Ca_becomeLike F.1.2.2 N 9 (5 + (y7.2 y2.2.1 3).toNatClampNeg) y7.2 rfl (zw_carI hi50) hc51) rfl rfl zcal_Ca_becomeLike zml_LG_199 ⟨(Nat.le_of_ble_eq_true rfl), (Nat.le_of_ble_eq_true rfl)⟩ (zg_rec2 F.1 (by decide) rfl) rfl (Nat.le_of_ble_eq_true rfl) ⟨(Nat.le_of_ble_eq_true rfl), (Nat.le_of_ble_eq_true rfl)⟩ zd_LG_promise_51 ?_
        refine zg_iconst F.1 1 1 (by decide) zd_LG_promise_54 ?_
        refine zg_iload_n F.1 zd_LG_promise_55 rfl rfl ?_
        refine zg_ishl F.1 zd_LG_promise_56 ?_
        refine zg_istore_n F.1 [some (.ref 0), some (.int a1), some (.ref y2.2.1), some (.int (1 <<< (a1 &&& 31))), none] zd_LG_promise_57 rfl (by decide) rfl ?_
        refine zg_iconst F.1 1 1 (by decide) zd_LG_promise_58 ?_
        refine zg_istore F.1 [some (.ref 0), some (.int a1), some (.ref y2.2.1), some (.int (1 <<< (a1 &&& 31))), some (.int 1)] zd_LG_promise_59 (by decide) rfl ?_
        exact zg_le (zw_les (zw_len (zw_len (zw_les (zw_les zw_le0))))) (zxl_LG_promise_61 F Y hxx N (1 <<< (a1 &&& 31)) 1 t51 h)
      · rw [if_neg hc] at h
        exact zg_le (zw_len (zw_len (zw_len (zw_les (zw_les zw_le0))))) (zxl_LG_promise_36 F Y hxx y7.2 h)
theorem zx_LG_promise {E : zE} (hst : l.stackTraces = false) (hn : zw_n E 10) (N : Nat) (a1 : Int32) (st : zS)  {xx : Nat} {rv : Int32} {rst : zS} (hxx : ¬ xx = 0) (h : zf_LG_promise N a1 st = some (xx, rv, rst)) : zx_M zx_ss l zy_LG_promise (Cond.code zy_LG_promise zo_LG_promise 5 (some .int) :: zwAll) zrx_LG_promise E [.ref 0, .int a1] st xx rst :=
  zx_enter hst (by decide) rfl hn (Nat.le_of_ble_eq_true rfl) (by simp [Value.category]) 3 (fun p e s m args below meth c A F Y => zxl_LG_promise_0 F Y hxx a1 st  h)
set_option maxRecDepth 100000 in
theorem zml_LG_209 : Cond.methodLink zR0 209 zy_Lo_keptCount ∈ zwAll := zw_at 630 rfl rfl
set_option maxRecDepth 100000 in
theorem zcal_Lo_placeOf : zw_cal zR4 zy_Lo_placeOf zo_Lo_placeOf 2 (some .int) 1 := ⟨zw_at 654 rfl rfl, zw_at 655 rfl rfl, zw_at 51 rfl rfl, zw_at 656 rfl rfl, rfl, by decide, by decide, by decide +kernel⟩
set_option maxRecDepth 100000 in
theorem zml_LG_217 : Cond.methodLink zR0 217 zy_Lo_placeOf ∈ zwAll := zw_at 653 rfl rfl
set_option maxRecDepth 100000 in
theorem zwf_LG_220 : Cond.fieldLink zR0 220 (zT4 0).1 (zT4 0).2.1 (zT4 0).2.2.1 ∈ zwAll := zw_at 199 rfl rfl
set_option maxRecDepth 100000 in
theorem zwf_LG_224 : Cond.fieldLink zR0 224 (zT4 1).1 (zT4 1).2.1 (zT4 1).2.2.1 ∈ zwAll := zw_at 201 rfl rfl
set_option maxRecDepth 100000 in
theorem zwf_LG_227 : Cond.fieldLink zR0 227 (zT4 2).1 (zT4 2).2.1 (zT4 2).2.2.1 ∈ zwAll := zw_at 203 rfl rfl
set_option maxRecDepth 100000 in
theorem zwf_LG_230 : Cond.fieldLink zR0 230 (zT4 3).1 (zT4 3).2.1 (zT4 3).2.2.1 ∈ zwAll := zw_at 205 rfl rfl
abbrev zrm_LG_event : Room := { frames := 3, cells := 0, slots := 0, locals := 62 }
def zf_LG_event_15 (N : Nat)   (st : zS) : Option (Nat × Int32 × zS) := some (5, 0, st)
set_option maxHeartbeats 4000000 in
theorem zl_LG_event_15 (F : zw_X p m c zo_LG_event 4 s args zR0 E 10 A meth (some .int)) {N : Nat} {rv : Int32} {rst : zS}    (st : zS)  (h : zf_LG_event_15 N   st = some (0, rv, rst)) : zw_G p l e zrm_LG_event s m args below meth c (MQ below (zw_Q E (some (.int rv)) rst A) args s 0 0 A) E A 4 0 15 [none, none, none, none] [] st := by
  unfold zf_LG_event_15 at h
  cases h
def zf_LG_event (N : Nat) (a1 : Int32) (a2 : Int32) (st : zS) : Option (Nat × Int32 × zS) := (if a1 < 0 then zf_LG_event_15 N st else ((zf_Lo_keptCount N st).bind fun y9 => (if a1 < y9.1 then ((zf_Lo_placeOf N a1 y9.2).bind fun y30 => (if a2 = 0 then (if y30.1 < 0 ∨ 30 ≤ y30.1.toNatClampNeg then none else some (0, (y30.2 36 y30.1.toNatClampNeg), y30.2)) else (if a2 = 1 then (if y30.1 < 0 ∨ 30 ≤ y30.1.toNatClampNeg then none else some (0, (y30.2 37 y30.1.toNatClampNeg), y30.2)) else (if a2 = 2 then (if y30.1 < 0 ∨ 30 ≤ y30.1.toNatClampNeg then none else some (0, (y30.2 38 y30.1.toNatClampNeg), y30.2)) else (if a2 = 3 then (if y30.1 < 0 ∨ 30 ≤ y30.1.toNatClampNeg then none else some (0, (y30.2 39 y30.1.toNatClampNeg), y30.2)) else some (1, 0, y30.2)))))) else zf_LG_event_15 N y9.2)))
set_option maxHeartbeats 4000000 in
theorem zl_LG_event_0 (F : zw_X p m c zo_LG_event 4 s args zR0 E 10 A meth (some .int)) {N : Nat} {rv : Int32} {rst : zS} (a1 : Int32) (a2 : Int32) (st : zS)  (h : zf_LG_event N a1 a2 st = some (0, rv, rst)) : zw_G p l e zrm_LG_event s m args below meth c (MQ below (zw_Q E (some (.int rv)) rst A) args s 0 0 A) E A 4 0 0 [some (.ref 0), some (.int a1), some (.int a2), none] [] st := by
  unfold zf_LG_event at h
  refine zg_iload_n F.1 zd_LG_event_0 rfl rfl ?_
  refine zg_if_lt F.1 15 zd_LG_event_1 rfl (fun hc => ?_) (fun hc => ?_)
  · rw [if_pos hc] at h
    exact zg_le (zw_len (zw_len (zw_len (zw_les zw_le0)))) (zl_LG_event_15 F st h)
  · rw [if_neg hc] at h
    refine zg_iload_n F.1 zd_LG_event_4 rfl rfl ?_
    refine zg_aload_n F.1 zd_LG_event_5 rfl rfl ?_
    refine zg_getR0 F.1 (by decide) rfl 4 (by decide) 35 rfl zwf_LG_37 zd_LG_event_6 ?_
    obtain ⟨y9, hc9, h⟩ := Option.bind_eq_some_iff.mp h
    refine zg_callV F (As := []) (rest := [.int a1]) (zk_Lo_keptCount F.1.2.2 N st hc9) rfl rfl zcal_Lo_keptCount zml_LG_209 ⟨(Nat.le_of_ble_eq_true rfl), (Nat.le_of_ble_eq_true rfl)⟩ (zg_rec4 F.1 (by decide) rfl) rfl (Nat.le_of_ble_eq_true rfl) ⟨(Nat.le_of_ble_eq_true rfl), (Nat.le_of_ble_eq_true rfl)⟩ zd_LG_event_9 ?_
    refine zg_icmp_lt F.1 25 zd_LG_event_12 rfl (fun hc => ?_) (fun hc => ?_)
    · rw [if_pos hc] at h
      refine zg_aload_n F.1 zd_LG_event_25 rfl rfl ?_
      refine zg_getR0 F.1 (by decide) rfl 4 (by decide) 35 rfl zwf_LG_37 zd_LG_event_26 ?_
      refine zg_iload_n F.1 zd_LG_event_29 rfl rfl ?_
      obtain ⟨y30, hc30, h⟩ := Option.bind_eq_some_iff.mp h
      refine zg_callV F (As := [.int a1]) (rest := []) (zk_Lo_placeOf F.1.2.2 N a1 y9.2 hc30) rfl rfl zcal_Lo_placeOf zml_LG_217 ⟨(Nat.le_of_ble_eq_true rfl), (Nat.le_of_ble_eq_true rfl)⟩ (zg_rec4 F.1 (by decide) rfl) rfl (Nat.le_of_ble_eq_true rfl) ⟨(Nat.le_of_ble_eq_true rfl), (Nat.le_of_ble_eq_true rfl)⟩ zd_LG_event_30 ?_
      refine zg_istore_n F.1 [some (.ref 0), some (.int a1), some (.int a2), some (.int y30.1)] zd_LG_event_33 rfl (by decide) rfl ?_
      refine zg_iload_n F.1 zd_LG_event_34 rfl rfl ?_
      by_cases hc0 : a2 = 0
      · rw [if_pos hc0] at h
        refine zg_tabIn F.1 64 zd_LG_event_35 (by rw [hc0]; decide) (by rw [hc0]; decide) (by rw [hc0]; rfl) rfl ?_
        refine zg_aload_n F.1 zd_LG_event_64 rfl rfl ?_
        refine zg_getR0 F.1 (by decide) rfl 4 (by decide) 35 rfl zwf_LG_37 zd_LG_event_65 ?_
        refine zg_getR4 F.1 (by decide) rfl 0 (by decide) 36 rfl zwf_LG_220 zd_LG_event_68 ?_
        refine zg_iload_n F.1 zd_LG_event_71 rfl rfl ?_
        by_cases hi72 : y30.1 < 0 ∨ 30 ≤ y30.1.toNatClampNeg
        case pos => rw [if_pos hi72] at h; cases h
        rw [if_neg hi72] at h
        refine zg_ald8 F.1 (by decide) rfl hi72 y30.1.toNatClampNeg rfl (y30.2 36 y30.1.toNatClampNeg) rfl zd_LG_event_72 ?_
        cases h
        exact zg_iret F zd_LG_event_73
      · rw [if_neg hc0] at h
        by_cases hc1 : a2 = 1
        · rw [if_pos hc1] at h
          refine zg_tabIn F.1 74 zd_LG_event_35 (by rw [hc1]; decide) (by rw [hc1]; decide) (by rw [hc1]; rfl) rfl ?_
          refine zg_aload_n F.1 zd_LG_event_74 rfl rfl ?_
          refine zg_getR0 F.1 (by decide) rfl 4 (by decide) 35 rfl zwf_LG_37 zd_LG_event_75 ?_
          refine zg_getR4 F.1 (by decide) rfl 1 (by decide) 37 rfl zwf_LG_224 zd_LG_event_78 ?_
          refine zg_iload_n F.1 zd_LG_event_81 rfl rfl ?_
          by_cases hi82 : y30.1 < 0 ∨ 30 ≤ y30.1.toNatClampNeg
          case pos => rw [if_pos hi82] at h; cases h
          rw [if_neg hi82] at h
          refine zg_ald8 F.1 (by decide) rfl hi82 y30.1.toNatClampNeg rfl (y30.2 37 y30.1.toNatClampNeg) rfl zd_LG_event_82 ?_
          cases h
          exact zg_iret F zd_LG_event_83
        · rw [if_neg hc1] at h
          by_cases hc2 : a2 = 2
          · rw [if_pos hc2] at h
            refine zg_tabIn F.1 84 zd_LG_event_35 (by rw [hc2]; decide) (by rw [hc2]; decide) (by rw [hc2]; rfl) rfl ?_
            refine zg_aload_n F.1 zd_LG_event_84 rfl rfl ?_
            refine zg_getR0 F.1 (by decide) rfl 4 (by decide) 35 rfl zwf_LG_37 zd_LG_event_85 ?_
            refine zg_getR4 F.1 (by decide) rfl 2 (by decide) 38 rfl zwf_LG_227 zd_LG_event_88 ?_
            refine zg_iload_n F.1 zd_LG_event_91 rfl rfl ?_
            by_cases hi92 : y30.1 < 0 ∨ 30 ≤ y30.1.toNatClampNeg
            case pos => rw [if_pos hi92] at h; cases h
            rw [if_neg hi92] at h
            refine zg_ald8 F.1 (by decide) rfl hi92 y30.1.toNatClampNeg rfl (y30.2 38 y30.1.toNatClampNeg) rfl zd_LG_event_92 ?_
            cases h
            exact zg_iret F zd_LG_event_93
          · rw [if_neg hc2] at h
            by_cases hc3 : a2 = 3
            · rw [if_pos hc3] at h
              refine zg_tabIn F.1 94 zd_LG_event_35 (by rw [hc3]; decide) (by rw [hc3]; decide) (by rw [hc3]; rfl) rfl ?_
              refine zg_aload_n F.1 zd_LG_event_94 rfl rfl ?_
              refine zg_getR0 F.1 (by decide) rfl 4 (by decide) 35 rfl zwf_LG_37 zd_LG_event_95 ?_
              refine zg_getR4 F.1 (by decide) rfl 3 (by decide) 39 rfl zwf_LG_230 zd_LG_event_98 ?_
              refine zg_iload_n F.1 zd_LG_event_101 rfl rfl ?_
              by_cases hi102 : y30.1 < 0 ∨ 30 ≤ y30.1.toNatClampNeg
              case pos => rw [if_pos hi102] at h; cases h
              rw [if_neg hi102] at h
              refine zg_ald8 F.1 (by decide) rfl hi102 y30.1.toNatClampNeg rfl (y30.2 39 y30.1.toNatClampNeg) rfl zd_LG_event_102 ?_
              cases h
              exact zg_iret F zd_LG_event_103
            · rw [if_neg hc3] at h
              refine zg_tabOut F.1 104 zd_LG_event_35 (zw_sw0_3 hc0 hc1 hc2 hc3) rfl ?_
              cases h
    · rw [if_neg hc] at h
      exact zg_le (zw_len (zw_len (zw_len (zw_les zw_le0)))) (zl_LG_event_15 F y9.2 h)
theorem zk_LG_event {E : zE} (hn : zw_n E 10) (N : Nat) (a1 : Int32) (a2 : Int32) (st : zS)  {rv : Int32} {rst : zS} (h : zf_LG_event N a1 a2 st = some (0, rv, rst)) : zw_M l zy_LG_event (Cond.code zy_LG_event zo_LG_event 4 (some .int) :: zwAll) zrm_LG_event E [.ref 0, .int a1, .int a2] st (some (.int rv)) rst :=
  zw_enter (by decide) rfl hn (Nat.le_of_ble_eq_true rfl) (by simp [Value.category]) 1 (fun p e s m args below meth c A F => zl_LG_event_0 F a1 a2 st  h)
abbrev zrx_LG_event : Room := { frames := 6, cells := 1, slots := 6, locals := 90 }
set_option maxHeartbeats 4000000 in
theorem zxl_LG_event_15 (F : zw_X p m c zo_LG_event 4 s args zR0 E 10 A meth (some .int)) (Y : zx_X zx_ss l s A c) {N : Nat} {xx : Nat} {rv : Int32} {rst : zS} (hxx : ¬ xx = 0)    (st : zS)  (h : zf_LG_event_15 N   st = some (xx, rv, rst)) : zw_G p l e zrx_LG_event s m args below meth c (zx_MQ below E xx rst A args s) E A 4 0 15 [none, none, none, none] [] st := by
  unfold zf_LG_event_15 at h
  cases h
  exact zx_throw F Y 5 (is := 214) (text := "no such event is kept") (by decide) rfl zxk_212 zxi_5 zxa_216 (by decide +kernel) (Nat.le_of_ble_eq_true rfl) (Nat.le_of_ble_eq_true rfl) (Nat.le_of_ble_eq_true rfl) (Nat.le_of_ble_eq_true rfl) zd_LG_event_15 zd_LG_event_18 zd_LG_event_19 zd_LG_event_21 zd_LG_event_24
set_option maxHeartbeats 4000000 in
theorem zxl_LG_event_0 (F : zw_X p m c zo_LG_event 4 s args zR0 E 10 A meth (some .int)) (Y : zx_X zx_ss l s A c) {N : Nat} {xx : Nat} {rv : Int32} {rst : zS} (hxx : ¬ xx = 0) (a1 : Int32) (a2 : Int32) (st : zS)  (h : zf_LG_event N a1 a2 st = some (xx, rv, rst)) : zw_G p l e zrx_LG_event s m args below meth c (zx_MQ below E xx rst A args s) E A 4 0 0 [some (.ref 0), some (.int a1), some (.int a2), none] [] st := by
  unfold zf_LG_event at h
  refine zg_iload_n F.1 zd_LG_event_0 rfl rfl ?_
  refine zg_if_lt F.1 15 zd_LG_event_1 rfl (fun hc => ?_) (fun hc => ?_)
  · rw [if_pos hc] at h
    exact zg_le (zw_len (zw_len (zw_len (zw_les zw_le0)))) (zxl_LG_event_15 F Y hxx st h)
  · rw [if_neg hc] at h
    refine zg_iload_n F.1 zd_LG_event_4 rfl rfl ?_
    refine zg_aload_n F.1 zd_LG_event_5 rfl rfl ?_
    refine zg_getR0 F.1 (by decide) rfl 4 (by decide) 35 rfl zwf_LG_37 zd_LG_event_6 ?_
    obtain ⟨y9, hc9, h⟩ := Option.bind_eq_some_iff.mp h
    refine zg_callV F (As := []) (rest := [.int a1]) (zk_Lo_keptCount F.1.2.2 N st hc9) rfl rfl zcal_Lo_keptCount zml_LG_209 ⟨(Nat.le_of_ble_eq_true rfl), (Nat.le_of_ble_eq_true rfl)⟩ (zg_rec4 F.1 (by decide) rfl) rfl (Nat.le_of_ble_eq_true rfl) ⟨(Nat.le_of_ble_eq_true rfl), (Nat.le_of_ble_eq_true rfl)⟩ zd_LG_event_9 ?_
    refine zg_icmp_lt F.1 25 zd_LG_event_12 rfl (fun hc => ?_) (fun hc => ?_)
    · rw [if_pos hc] at h
      refine zg_aload_n F.1 zd_LG_event_25 rfl rfl ?_
      refine zg_getR0 F.1 (by decide) rfl 4 (by decide) 35 rfl zwf_LG_37 zd_LG_event_26 ?_
      refine zg_iload_n F.1 zd_LG_event_29 rfl rfl ?_
      obtain ⟨y30, hc30, h⟩ := Option.bind_eq_some_iff.mp h
      refine zg_callV F (As := [.int a1]) (rest := []) (zk_Lo_placeOf F.1.2.2 N a1 y9.2 hc30) rfl rfl zcal_Lo_placeOf zml_LG_217 ⟨(Nat.le_of_ble_eq_true rfl), (Nat.le_of_ble_eq_true rfl)⟩ (zg_rec4 F.1 (by decide) rfl) rfl (Nat.le_of_ble_eq_true rfl) ⟨(Nat.le_of_ble_eq_true rfl), (Nat.le_of_ble_eq_true rfl)⟩ zd_LG_event_30 ?_
      refine zg_istore_n F.1 [some (.ref 0), some (.int a1), some (.int a2), some (.int y30.1)] zd_LG_event_33 rfl (by decide) rfl ?_
      refine zg_iload_n F.1 zd_LG_event_34 rfl rfl ?_
      by_cases hc0 : a2 = 0
      · rw [if_pos hc0] at h
        refine zg_tabIn F.1 64 zd_LG_event_35 (by rw [hc0]; decide) (by rw [hc0]; decide) (by rw [hc0]; rfl) rfl ?_
        refine zg_aload_n F.1 zd_LG_event_64 rfl rfl ?_
        refine zg_getR0 F.1 (by decide) rfl 4 (by decide) 35 rfl zwf_LG_37 zd_LG_event_65 ?_
        refine zg_getR4 F.1 (by decide) rfl 0 (by decide) 36 rfl zwf_LG_220 zd_LG_event_68 ?_
        refine zg_iload_n F.1 zd_LG_event_71 rfl rfl ?_
        by_cases hi72 : y30.1 < 0 ∨ 30 ≤ y30.1.toNatClampNeg
        case pos => rw [if_pos hi72] at h; cases h
        rw [if_neg hi72] at h
        refine zg_ald8 F.1 (by decide) rfl hi72 y30.1.toNatClampNeg rfl (y30.2 36 y30.1.toNatClampNeg) rfl zd_LG_event_72 ?_
        cases h
        exact absurd rfl hxx
      · rw [if_neg hc0] at h
        by_cases hc1 : a2 = 1
        · rw [if_pos hc1] at h
          refine zg_tabIn F.1 74 zd_LG_event_35 (by rw [hc1]; decide) (by rw [hc1]; decide) (by rw [hc1]; rfl) rfl ?_
          refine zg_aload_n F.1 zd_LG_event_74 rfl rfl ?_
          refine zg_getR0 F.1 (by decide) rfl 4 (by decide) 35 rfl zwf_LG_37 zd_LG_event_75 ?_
          refine zg_getR4 F.1 (by decide) rfl 1 (by decide) 37 rfl zwf_LG_224 zd_LG_event_78 ?_
          refine zg_iload_n F.1 zd_LG_event_81 rfl rfl ?_
          by_cases hi82 : y30.1 < 0 ∨ 30 ≤ y30.1.toNatClampNeg
          case pos => rw [if_pos hi82] at h; cases h
          rw [if_neg hi82] at h
          refine zg_ald8 F.1 (by decide) rfl hi82 y30.1.toNatClampNeg rfl (y30.2 37 y30.1.toNatClampNeg) rfl zd_LG_event_82 ?_
          cases h
          exact absurd rfl hxx
        · rw [if_neg hc1] at h
          by_cases hc2 : a2 = 2
          · rw [if_pos hc2] at h
            refine zg_tabIn F.1 84 zd_LG_event_35 (by rw [hc2]; decide) (by rw [hc2]; decide) (by rw [hc2]; rfl) rfl ?_
            refine zg_aload_n F.1 zd_LG_event_84 rfl rfl ?_
            refine zg_getR0 F.1 (by decide) rfl 4 (by decide) 35 rfl zwf_LG_37 zd_LG_event_85 ?_
            refine zg_getR4 F.1 (by decide) rfl 2 (by decide) 38 rfl zwf_LG_227 zd_LG_event_88 ?_
            refine zg_iload_n F.1 zd_LG_event_91 rfl rfl ?_
            by_cases hi92 : y30.1 < 0 ∨ 30 ≤ y30.1.toNatClampNeg
            case pos => rw [if_pos hi92] at h; cases h
            rw [if_neg hi92] at h
            refine zg_ald8 F.1 (by decide) rfl hi92 y30.1.toNatClampNeg rfl (y30.2 38 y30.1.toNatClampNeg) rfl zd_LG_event_92 ?_
            cases h
            exact absurd rfl hxx
          · rw [if_neg hc2] at h
            by_cases hc3 : a2 = 3
            · rw [if_pos hc3] at h
              refine zg_tabIn F.1 94 zd_LG_event_35 (by rw [hc3]; decide) (by rw [hc3]; decide) (by rw [hc3]; rfl) rfl ?_
              refine zg_aload_n F.1 zd_LG_event_94 rfl rfl ?_
              refine zg_getR0 F.1 (by decide) rfl 4 (by decide) 35 rfl zwf_LG_37 zd_LG_event_95 ?_
              refine zg_getR4 F.1 (by decide) rfl 3 (by decide) 39 rfl zwf_LG_230 zd_LG_event_98 ?_
              refine zg_iload_n F.1 zd_LG_event_101 rfl rfl ?_
              by_cases hi102 : y30.1 < 0 ∨ 30 ≤ y30.1.toNatClampNeg
              case pos => rw [if_pos hi102] at h; cases h
              rw [if_neg hi102] at h
              refine zg_ald8 F.1 (by decide) rfl hi102 y30.1.toNatClampNeg rfl (y30.2 39 y30.1.toNatClampNeg) rfl zd_LG_event_102 ?_
              cases h
              exact absurd rfl hxx
            · rw [if_neg hc3] at h
              refine zg_tabOut F.1 104 zd_LG_event_35 (zw_sw0_3 hc0 hc1 hc2 hc3) rfl ?_
              cases h
              exact zx_throw F Y 1 (is := 233) (text := "of an event only 0 to 3 can be asked") (by decide) rfl zxk_45 zxi_1 zxa_49 (by decide +kernel) (Nat.le_of_ble_eq_true rfl) (Nat.le_of_ble_eq_true rfl) (Nat.le_of_ble_eq_true rfl) (Nat.le_of_ble_eq_true rfl) zd_LG_event_104 zd_LG_event_107 zd_LG_event_108 zd_LG_event_110 zd_LG_event_113
    · rw [if_neg hc] at h
      exact zg_le (zw_len (zw_len (zw_len (zw_les zw_le0)))) (zxl_LG_event_15 F Y hxx y9.2 h)
theorem zx_LG_event {E : zE} (hst : l.stackTraces = false) (hn : zw_n E 10) (N : Nat) (a1 : Int32) (a2 : Int32) (st : zS)  {xx : Nat} {rv : Int32} {rst : zS} (hxx : ¬ xx = 0) (h : zf_LG_event N a1 a2 st = some (xx, rv, rst)) : zx_M zx_ss l zy_LG_event (Cond.code zy_LG_event zo_LG_event 4 (some .int) :: zwAll) zrx_LG_event E [.ref 0, .int a1, .int a2] st xx rst :=
  zx_enter hst (by decide) rfl hn (Nat.le_of_ble_eq_true rfl) (by simp [Value.category]) 1 (fun p e s m args below meth c A F Y => zxl_LG_event_0 F Y hxx a1 a2 st  h)
end ZC10
