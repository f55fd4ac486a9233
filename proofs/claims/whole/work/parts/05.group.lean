abbrev zo_LG_startAnew : ByteArray := prog_1_method_16_code
abbrev zy_LG_startAnew : MethodName := ⟨"LiftGroup", "startAnew", "(III)V"⟩
theorem zd_LG_startAnew_0 : decode zo_LG_startAnew 0 = .ok (.aload_n 0, 1) := by decide +kernel
theorem zd_LG_startAnew_1 : decode zo_LG_startAnew 1 = .ok (.getfield 10, 3) := by decide +kernel
theorem zd_LG_startAnew_4 : decode zo_LG_startAnew 4 = .ok (.iload_n 1, 1) := by decide +kernel
theorem zd_LG_startAnew_5 : decode zo_LG_startAnew 5 = .ok (.iload_n 3, 1) := by decide +kernel
theorem zd_LG_startAnew_6 : decode zo_LG_startAnew 6 = .ok (.invokevirtual 247, 3) := by decide +kernel
theorem zd_LG_startAnew_9 : decode zo_LG_startAnew 9 = .ok (.iconst 0, 1) := by decide +kernel
theorem zd_LG_startAnew_10 : decode zo_LG_startAnew 10 = .ok (.istore 4, 2) := by decide +kernel
theorem zd_LG_startAnew_12 : decode zo_LG_startAnew 12 = .ok (.iload 4, 2) := by decide +kernel
theorem zd_LG_startAnew_14 : decode zo_LG_startAnew 14 = .ok (.iconst 4, 1) := by decide +kernel
theorem zd_LG_startAnew_15 : decode zo_LG_startAnew 15 = .ok (.if_icmp .ge 19, 3) := by decide +kernel
theorem zd_LG_startAnew_18 : decode zo_LG_startAnew 18 = .ok (.aload_n 0, 1) := by decide +kernel
theorem zd_LG_startAnew_19 : decode zo_LG_startAnew 19 = .ok (.getfield 18, 3) := by decide +kernel
theorem zd_LG_startAnew_22 : decode zo_LG_startAnew 22 = .ok (.iload 4, 2) := by decide +kernel
theorem zd_LG_startAnew_24 : decode zo_LG_startAnew 24 = .ok (.aaload, 1) := by decide +kernel
theorem zd_LG_startAnew_25 : decode zo_LG_startAnew 25 = .ok (.invokevirtual 250, 3) := by decide +kernel
theorem zd_LG_startAnew_28 : decode zo_LG_startAnew 28 = .ok (.iinc 4 1, 3) := by decide +kernel
theorem zd_LG_startAnew_31 : decode zo_LG_startAnew 31 = .ok (.goto (-19), 3) := by decide +kernel
theorem zd_LG_startAnew_34 : decode zo_LG_startAnew 34 = .ok (.aload_n 0, 1) := by decide +kernel
theorem zd_LG_startAnew_35 : decode zo_LG_startAnew 35 = .ok (.getfield 37, 3) := by decide +kernel
theorem zd_LG_startAnew_38 : decode zo_LG_startAnew 38 = .ok (.iconst 0, 1) := by decide +kernel
theorem zd_LG_startAnew_39 : decode zo_LG_startAnew 39 = .ok (.putfield 235, 3) := by decide +kernel
theorem zd_LG_startAnew_42 : decode zo_LG_startAnew 42 = .ok (.aload_n 0, 1) := by decide +kernel
theorem zd_LG_startAnew_43 : decode zo_LG_startAnew 43 = .ok (.iload_n 2, 1) := by decide +kernel
theorem zd_LG_startAnew_44 : decode zo_LG_startAnew 44 = .ok (.putfield 98, 3) := by decide +kernel
theorem zd_LG_startAnew_47 : decode zo_LG_startAnew 47 = .ok (.aload_n 0, 1) := by decide +kernel
theorem zd_LG_startAnew_48 : decode zo_LG_startAnew 48 = .ok (.iconst 0, 1) := by decide +kernel
theorem zd_LG_startAnew_49 : decode zo_LG_startAnew 49 = .ok (.putfield 71, 3) := by decide +kernel
theorem zd_LG_startAnew_52 : decode zo_LG_startAnew 52 = .ok (.aload_n 0, 1) := by decide +kernel
theorem zd_LG_startAnew_53 : decode zo_LG_startAnew 53 = .ok (.iconst 0, 1) := by decide +kernel
theorem zd_LG_startAnew_54 : decode zo_LG_startAnew 54 = .ok (.putfield 252, 3) := by decide +kernel
theorem zd_LG_startAnew_57 : decode zo_LG_startAnew 57 = .ok (.aload_n 0, 1) := by decide +kernel
theorem zd_LG_startAnew_58 : decode zo_LG_startAnew 58 = .ok (.iconst 0, 1) := by decide +kernel
theorem zd_LG_startAnew_59 : decode zo_LG_startAnew 59 = .ok (.putfield 80, 3) := by decide +kernel
theorem zd_LG_startAnew_62 : decode zo_LG_startAnew 62 = .ok (.aload_n 0, 1) := by decide +kernel
theorem zd_LG_startAnew_63 : decode zo_LG_startAnew 63 = .ok (.iconst 0, 1) := by decide +kernel
theorem zd_LG_startAnew_64 : decode zo_LG_startAnew 64 = .ok (.putfield 238, 3) := by decide +kernel
theorem zd_LG_startAnew_67 : decode zo_LG_startAnew 67 = .ok (.aload_n 0, 1) := by decide +kernel
theorem zd_LG_startAnew_68 : decode zo_LG_startAnew 68 = .ok (.iconst 0, 1) := by decide +kernel
theorem zd_LG_startAnew_69 : decode zo_LG_startAnew 69 = .ok (.putfield 241, 3) := by decide +kernel
theorem zd_LG_startAnew_72 : decode zo_LG_startAnew 72 = .ok (.aload_n 0, 1) := by decide +kernel
theorem zd_LG_startAnew_73 : decode zo_LG_startAnew 73 = .ok (.iconst 0, 1) := by decide +kernel
theorem zd_LG_startAnew_74 : decode zo_LG_startAnew 74 = .ok (.putfield 244, 3) := by decide +kernel
theorem zd_LG_startAnew_77 : decode zo_LG_startAnew 77 = .ok (.return_, 1) := by decide +kernel
abbrev zo_LG_isFloor : ByteArray := prog_1_method_19_code
abbrev zy_LG_isFloor : MethodName := ⟨"LiftGroup", "isFloor", "(I)Z"⟩
theorem zd_LG_isFloor_0 : decode zo_LG_isFloor 0 = .ok (.iload_n 1, 1) := by decide +kernel
theorem zd_LG_isFloor_1 : decode zo_LG_isFloor 1 = .ok (.ifCond .lt 18, 3) := by decide +kernel
theorem zd_LG_isFloor_4 : decode zo_LG_isFloor 4 = .ok (.iload_n 1, 1) := by decide +kernel
theorem zd_LG_isFloor_5 : decode zo_LG_isFloor 5 = .ok (.aload_n 0, 1) := by decide +kernel
theorem zd_LG_isFloor_6 : decode zo_LG_isFloor 6 = .ok (.getfield 10, 3) := by decide +kernel
theorem zd_LG_isFloor_9 : decode zo_LG_isFloor 9 = .ok (.getfield 262, 3) := by decide +kernel
theorem zd_LG_isFloor_12 : decode zo_LG_isFloor 12 = .ok (.if_icmp .ge 7, 3) := by decide +kernel
theorem zd_LG_isFloor_15 : decode zo_LG_isFloor 15 = .ok (.iconst 1, 1) := by decide +kernel
theorem zd_LG_isFloor_16 : decode zo_LG_isFloor 16 = .ok (.goto 4, 3) := by decide +kernel
theorem zd_LG_isFloor_19 : decode zo_LG_isFloor 19 = .ok (.iconst 0, 1) := by decide +kernel
theorem zd_LG_isFloor_20 : decode zo_LG_isFloor 20 = .ok (.ireturn, 1) := by decide +kernel
abbrev zo_LG_isUsable : ByteArray := prog_1_method_20_code
abbrev zy_LG_isUsable : MethodName := ⟨"LiftGroup", "isUsable", "(LLiftGroup$Car;)Z"⟩
theorem zd_LG_isUsable_0 : decode zo_LG_isUsable 0 = .ok (.aload_n 1, 1) := by decide +kernel
theorem zd_LG_isUsable_1 : decode zo_LG_isUsable 1 = .ok (.getfield 119, 3) := by decide +kernel
theorem zd_LG_isUsable_4 : decode zo_LG_isUsable 4 = .ok (.ifCond .ne 24, 3) := by decide +kernel
theorem zd_LG_isUsable_7 : decode zo_LG_isUsable 7 = .ok (.aload_n 1, 1) := by decide +kernel
theorem zd_LG_isUsable_8 : decode zo_LG_isUsable 8 = .ok (.getfield 101, 3) := by decide +kernel
theorem zd_LG_isUsable_11 : decode zo_LG_isUsable 11 = .ok (.ifCond .ne 17, 3) := by decide +kernel
theorem zd_LG_isUsable_14 : decode zo_LG_isUsable 14 = .ok (.aload_n 0, 1) := by decide +kernel
theorem zd_LG_isUsable_15 : decode zo_LG_isUsable 15 = .ok (.getfield 10, 3) := by decide +kernel
theorem zd_LG_isUsable_18 : decode zo_LG_isUsable 18 = .ok (.getfield 132, 3) := by decide +kernel
theorem zd_LG_isUsable_21 : decode zo_LG_isUsable 21 = .ok (.ifCond .ne 7, 3) := by decide +kernel
theorem zd_LG_isUsable_24 : decode zo_LG_isUsable 24 = .ok (.iconst 1, 1) := by decide +kernel
theorem zd_LG_isUsable_25 : decode zo_LG_isUsable 25 = .ok (.goto 4, 3) := by decide +kernel
theorem zd_LG_isUsable_28 : decode zo_LG_isUsable 28 = .ok (.iconst 0, 1) := by decide +kernel
theorem zd_LG_isUsable_29 : decode zo_LG_isUsable 29 = .ok (.ireturn, 1) := by decide +kernel
abbrev zo_LG_anyUsable : ByteArray := prog_1_method_21_code
abbrev zy_LG_anyUsable : MethodName := ⟨"LiftGroup", "anyUsable", "()Z"⟩
theorem zd_LG_anyUsable_0 : decode zo_LG_anyUsable 0 = .ok (.iconst 0, 1) := by decide +kernel
theorem zd_LG_anyUsable_1 : decode zo_LG_anyUsable 1 = .ok (.istore_n 1, 1) := by decide +kernel
theorem zd_LG_anyUsable_2 : decode zo_LG_anyUsable 2 = .ok (.iload_n 1, 1) := by decide +kernel
theorem zd_LG_anyUsable_3 : decode zo_LG_anyUsable 3 = .ok (.aload_n 0, 1) := by decide +kernel
theorem zd_LG_anyUsable_4 : decode zo_LG_anyUsable 4 = .ok (.getfield 98, 3) := by decide +kernel
theorem zd_LG_anyUsable_7 : decode zo_LG_anyUsable 7 = .ok (.if_icmp .ge 24, 3) := by decide +kernel
theorem zd_LG_anyUsable_10 : decode zo_LG_anyUsable 10 = .ok (.aload_n 0, 1) := by decide +kernel
theorem zd_LG_anyUsable_11 : decode zo_LG_anyUsable 11 = .ok (.aload_n 0, 1) := by decide +kernel
theorem zd_LG_anyUsable_12 : decode zo_LG_anyUsable 12 = .ok (.getfield 18, 3) := by decide +kernel
theorem zd_LG_anyUsable_15 : decode zo_LG_anyUsable 15 = .ok (.iload_n 1, 1) := by decide +kernel
theorem zd_LG_anyUsable_16 : decode zo_LG_anyUsable 16 = .ok (.aaload, 1) := by decide +kernel
theorem zd_LG_anyUsable_17 : decode zo_LG_anyUsable 17 = .ok (.invokevirtual 265, 3) := by decide +kernel
theorem zd_LG_anyUsable_20 : decode zo_LG_anyUsable 20 = .ok (.ifCond .eq 5, 3) := by decide +kernel
theorem zd_LG_anyUsable_23 : decode zo_LG_anyUsable 23 = .ok (.iconst 1, 1) := by decide +kernel
theorem zd_LG_anyUsable_24 : decode zo_LG_anyUsable 24 = .ok (.ireturn, 1) := by decide +kernel
theorem zd_LG_anyUsable_25 : decode zo_LG_anyUsable 25 = .ok (.iinc 1 1, 3) := by decide +kernel
theorem zd_LG_anyUsable_28 : decode zo_LG_anyUsable 28 = .ok (.goto (-26), 3) := by decide +kernel
theorem zd_LG_anyUsable_31 : decode zo_LG_anyUsable 31 = .ok (.iconst 0, 1) := by decide +kernel
theorem zd_LG_anyUsable_32 : decode zo_LG_anyUsable 32 = .ok (.ireturn, 1) := by decide +kernel
abbrev zo_LG_takeWaitingFor : ByteArray := prog_1_method_22_code
abbrev zy_LG_takeWaitingFor : MethodName := ⟨"LiftGroup", "takeWaitingFor", "(LLiftGroup$Car;)I"⟩
theorem zd_LG_takeWaitingFor_0 : decode zo_LG_takeWaitingFor 0 = .ok (.aload_n 1, 1) := by decide +kernel
theorem zd_LG_takeWaitingFor_1 : decode zo_LG_takeWaitingFor 1 = .ok (.getfield 269, 3) := by decide +kernel
theorem zd_LG_takeWaitingFor_4 : decode zo_LG_takeWaitingFor 4 = .ok (.istore_n 2, 1) := by decide +kernel
theorem zd_LG_takeWaitingFor_5 : decode zo_LG_takeWaitingFor 5 = .ok (.aload_n 1, 1) := by decide +kernel
theorem zd_LG_takeWaitingFor_6 : decode zo_LG_takeWaitingFor 6 = .ok (.iconst 0, 1) := by decide +kernel
theorem zd_LG_takeWaitingFor_7 : decode zo_LG_takeWaitingFor 7 = .ok (.putfield 269, 3) := by decide +kernel
theorem zd_LG_takeWaitingFor_10 : decode zo_LG_takeWaitingFor 10 = .ok (.iload_n 2, 1) := by decide +kernel
theorem zd_LG_takeWaitingFor_11 : decode zo_LG_takeWaitingFor 11 = .ok (.ireturn, 1) := by decide +kernel
abbrev zo_LG_takeWaitingForNone : ByteArray := prog_1_method_24_code
abbrev zy_LG_takeWaitingForNone : MethodName := ⟨"LiftGroup", "takeWaitingForNone", "()I"⟩
theorem zd_LG_takeWaitingForNone_0 : decode zo_LG_takeWaitingForNone 0 = .ok (.aload_n 0, 1) := by decide +kernel
theorem zd_LG_takeWaitingForNone_1 : decode zo_LG_takeWaitingForNone 1 = .ok (.getfield 252, 3) := by decide +kernel
theorem zd_LG_takeWaitingForNone_4 : decode zo_LG_takeWaitingForNone 4 = .ok (.istore_n 1, 1) := by decide +kernel
theorem zd_LG_takeWaitingForNone_5 : decode zo_LG_takeWaitingForNone 5 = .ok (.aload_n 0, 1) := by decide +kernel
theorem zd_LG_takeWaitingForNone_6 : decode zo_LG_takeWaitingForNone 6 = .ok (.iconst 0, 1) := by decide +kernel
theorem zd_LG_takeWaitingForNone_7 : decode zo_LG_takeWaitingForNone 7 = .ok (.putfield 252, 3) := by decide +kernel
theorem zd_LG_takeWaitingForNone_10 : decode zo_LG_takeWaitingForNone 10 = .ok (.iload_n 1, 1) := by decide +kernel
theorem zd_LG_takeWaitingForNone_11 : decode zo_LG_takeWaitingForNone 11 = .ok (.ireturn, 1) := by decide +kernel
abbrev zo_LG_takeWaitingForNoneIfUsable : ByteArray := prog_1_method_23_code
abbrev zy_LG_takeWaitingForNoneIfUsable : MethodName := ⟨"LiftGroup", "takeWaitingForNoneIfUsable", "(LLiftGroup$Car;)I"⟩
theorem zd_LG_takeWaitingForNoneIfUsable_0 : decode zo_LG_takeWaitingForNoneIfUsable 0 = .ok (.aload_n 0, 1) := by decide +kernel
theorem zd_LG_takeWaitingForNoneIfUsable_1 : decode zo_LG_takeWaitingForNoneIfUsable 1 = .ok (.aload_n 1, 1) := by decide +kernel
theorem zd_LG_takeWaitingForNoneIfUsable_2 : decode zo_LG_takeWaitingForNoneIfUsable 2 = .ok (.invokevirtual 265, 3) := by decide +kernel
theorem zd_LG_takeWaitingForNoneIfUsable_5 : decode zo_LG_takeWaitingForNoneIfUsable 5 = .ok (.ifCond .eq 10, 3) := by decide +kernel
theorem zd_LG_takeWaitingForNoneIfUsable_8 : decode zo_LG_takeWaitingForNoneIfUsable 8 = .ok (.aload_n 0, 1) := by decide +kernel
theorem zd_LG_takeWaitingForNoneIfUsable_9 : decode zo_LG_takeWaitingForNoneIfUsable 9 = .ok (.invokevirtual 138, 3) := by decide +kernel
theorem zd_LG_takeWaitingForNoneIfUsable_12 : decode zo_LG_takeWaitingForNoneIfUsable 12 = .ok (.goto 4, 3) := by decide +kernel
theorem zd_LG_takeWaitingForNoneIfUsable_15 : decode zo_LG_takeWaitingForNoneIfUsable 15 = .ok (.iconst 0, 1) := by decide +kernel
theorem zd_LG_takeWaitingForNoneIfUsable_16 : decode zo_LG_takeWaitingForNoneIfUsable 16 = .ok (.ireturn, 1) := by decide +kernel
abbrev zo_LG_takeCarsFromWaiting : ByteArray := prog_1_method_25_code
abbrev zy_LG_takeCarsFromWaiting : MethodName := ⟨"LiftGroup", "takeCarsFromWaiting", "()V"⟩
theorem zd_LG_takeCarsFromWaiting_0 : decode zo_LG_takeCarsFromWaiting 0 = .ok (.iconst 0, 1) := by decide +kernel
theorem zd_LG_takeCarsFromWaiting_1 : decode zo_LG_takeCarsFromWaiting 1 = .ok (.istore_n 1, 1) := by decide +kernel
theorem zd_LG_takeCarsFromWaiting_2 : decode zo_LG_takeCarsFromWaiting 2 = .ok (.iload_n 1, 1) := by decide +kernel
theorem zd_LG_takeCarsFromWaiting_3 : decode zo_LG_takeCarsFromWaiting 3 = .ok (.aload_n 0, 1) := by decide +kernel
theorem zd_LG_takeCarsFromWaiting_4 : decode zo_LG_takeCarsFromWaiting 4 = .ok (.getfield 98, 3) := by decide +kernel
theorem zd_LG_takeCarsFromWaiting_7 : decode zo_LG_takeCarsFromWaiting 7 = .ok (.if_icmp .ge 28, 3) := by decide +kernel
theorem zd_LG_takeCarsFromWaiting_10 : decode zo_LG_takeCarsFromWaiting 10 = .ok (.aload_n 0, 1) := by decide +kernel
theorem zd_LG_takeCarsFromWaiting_11 : decode zo_LG_takeCarsFromWaiting 11 = .ok (.dup, 1) := by decide +kernel
theorem zd_LG_takeCarsFromWaiting_12 : decode zo_LG_takeCarsFromWaiting 12 = .ok (.getfield 252, 3) := by decide +kernel
theorem zd_LG_takeCarsFromWaiting_15 : decode zo_LG_takeCarsFromWaiting 15 = .ok (.aload_n 0, 1) := by decide +kernel
theorem zd_LG_takeCarsFromWaiting_16 : decode zo_LG_takeCarsFromWaiting 16 = .ok (.aload_n 0, 1) := by decide +kernel
theorem zd_LG_takeCarsFromWaiting_17 : decode zo_LG_takeCarsFromWaiting 17 = .ok (.getfield 18, 3) := by decide +kernel
theorem zd_LG_takeCarsFromWaiting_20 : decode zo_LG_takeCarsFromWaiting 20 = .ok (.iload_n 1, 1) := by decide +kernel
theorem zd_LG_takeCarsFromWaiting_21 : decode zo_LG_takeCarsFromWaiting 21 = .ok (.aaload, 1) := by decide +kernel
theorem zd_LG_takeCarsFromWaiting_22 : decode zo_LG_takeCarsFromWaiting 22 = .ok (.invokevirtual 122, 3) := by decide +kernel
theorem zd_LG_takeCarsFromWaiting_25 : decode zo_LG_takeCarsFromWaiting 25 = .ok (.ior, 1) := by decide +kernel
theorem zd_LG_takeCarsFromWaiting_26 : decode zo_LG_takeCarsFromWaiting 26 = .ok (.putfield 252, 3) := by decide +kernel
theorem zd_LG_takeCarsFromWaiting_29 : decode zo_LG_takeCarsFromWaiting 29 = .ok (.iinc 1 1, 3) := by decide +kernel
theorem zd_LG_takeCarsFromWaiting_32 : decode zo_LG_takeCarsFromWaiting 32 = .ok (.goto (-30), 3) := by decide +kernel
theorem zd_LG_takeCarsFromWaiting_35 : decode zo_LG_takeCarsFromWaiting 35 = .ok (.iconst 0, 1) := by decide +kernel
theorem zd_LG_takeCarsFromWaiting_36 : decode zo_LG_takeCarsFromWaiting 36 = .ok (.istore_n 1, 1) := by decide +kernel
theorem zd_LG_takeCarsFromWaiting_37 : decode zo_LG_takeCarsFromWaiting 37 = .ok (.iload_n 1, 1) := by decide +kernel
theorem zd_LG_takeCarsFromWaiting_38 : decode zo_LG_takeCarsFromWaiting 38 = .ok (.aload_n 0, 1) := by decide +kernel
theorem zd_LG_takeCarsFromWaiting_39 : decode zo_LG_takeCarsFromWaiting 39 = .ok (.getfield 71, 3) := by decide +kernel
theorem zd_LG_takeCarsFromWaiting_42 : decode zo_LG_takeCarsFromWaiting 42 = .ok (.if_icmp .ge 31, 3) := by decide +kernel
theorem zd_LG_takeCarsFromWaiting_45 : decode zo_LG_takeCarsFromWaiting 45 = .ok (.aload_n 0, 1) := by decide +kernel
theorem zd_LG_takeCarsFromWaiting_46 : decode zo_LG_takeCarsFromWaiting 46 = .ok (.getfield 29, 3) := by decide +kernel
theorem zd_LG_takeCarsFromWaiting_49 : decode zo_LG_takeCarsFromWaiting 49 = .ok (.iload_n 1, 1) := by decide +kernel
theorem zd_LG_takeCarsFromWaiting_50 : decode zo_LG_takeCarsFromWaiting 50 = .ok (.aaload, 1) := by decide +kernel
theorem zd_LG_takeCarsFromWaiting_51 : decode zo_LG_takeCarsFromWaiting 51 = .ok (.getfield 179, 3) := by decide +kernel
theorem zd_LG_takeCarsFromWaiting_54 : decode zo_LG_takeCarsFromWaiting 54 = .ok (.ifCond .ne 13, 3) := by decide +kernel
theorem zd_LG_takeCarsFromWaiting_57 : decode zo_LG_takeCarsFromWaiting 57 = .ok (.aload_n 0, 1) := by decide +kernel
theorem zd_LG_takeCarsFromWaiting_58 : decode zo_LG_takeCarsFromWaiting 58 = .ok (.getfield 29, 3) := by decide +kernel
theorem zd_LG_takeCarsFromWaiting_61 : decode zo_LG_takeCarsFromWaiting 61 = .ok (.iload_n 1, 1) := by decide +kernel
theorem zd_LG_takeCarsFromWaiting_62 : decode zo_LG_takeCarsFromWaiting 62 = .ok (.aaload, 1) := by decide +kernel
theorem zd_LG_takeCarsFromWaiting_63 : decode zo_LG_takeCarsFromWaiting 63 = .ok (.iconst (-1), 1) := by decide +kernel
theorem zd_LG_takeCarsFromWaiting_64 : decode zo_LG_takeCarsFromWaiting 64 = .ok (.putfield 93, 3) := by decide +kernel
theorem zd_LG_takeCarsFromWaiting_67 : decode zo_LG_takeCarsFromWaiting 67 = .ok (.iinc 1 1, 3) := by decide +kernel
theorem zd_LG_takeCarsFromWaiting_70 : decode zo_LG_takeCarsFromWaiting 70 = .ok (.goto (-33), 3) := by decide +kernel
theorem zd_LG_takeCarsFromWaiting_73 : decode zo_LG_takeCarsFromWaiting 73 = .ok (.return_, 1) := by decide +kernel
abbrev zo_LG_worstWith : ByteArray := prog_1_method_28_code
abbrev zy_LG_worstWith : MethodName := ⟨"LiftGroup", "worstWith", "(LLiftGroup$Car;I)I"⟩
theorem zd_LG_worstWith_0 : decode zo_LG_worstWith 0 = .ok (.aload_n 0, 1) := by decide +kernel
theorem zd_LG_worstWith_1 : decode zo_LG_worstWith 1 = .ok (.getfield 23, 3) := by decide +kernel
theorem zd_LG_worstWith_4 : decode zo_LG_worstWith 4 = .ok (.aload_n 1, 1) := by decide +kernel
theorem zd_LG_worstWith_5 : decode zo_LG_worstWith 5 = .ok (.invokevirtual 199, 3) := by decide +kernel
theorem zd_LG_worstWith_8 : decode zo_LG_worstWith 8 = .ok (.aload_n 0, 1) := by decide +kernel
theorem zd_LG_worstWith_9 : decode zo_LG_worstWith 9 = .ok (.getfield 23, 3) := by decide +kernel
theorem zd_LG_worstWith_12 : decode zo_LG_worstWith 12 = .ok (.dup, 1) := by decide +kernel
theorem zd_LG_worstWith_13 : decode zo_LG_worstWith 13 = .ok (.getfield 269, 3) := by decide +kernel
theorem zd_LG_worstWith_16 : decode zo_LG_worstWith 16 = .ok (.iload_n 2, 1) := by decide +kernel
theorem zd_LG_worstWith_17 : decode zo_LG_worstWith 17 = .ok (.ior, 1) := by decide +kernel
theorem zd_LG_worstWith_18 : decode zo_LG_worstWith 18 = .ok (.putfield 269, 3) := by decide +kernel
theorem zd_LG_worstWith_21 : decode zo_LG_worstWith 21 = .ok (.aload_n 0, 1) := by decide +kernel
theorem zd_LG_worstWith_22 : decode zo_LG_worstWith 22 = .ok (.getfield 23, 3) := by decide +kernel
theorem zd_LG_worstWith_25 : decode zo_LG_worstWith 25 = .ok (.invokevirtual 276, 3) := by decide +kernel
theorem zd_LG_worstWith_28 : decode zo_LG_worstWith 28 = .ok (.ifCond .ne 5, 3) := by decide +kernel
theorem zd_LG_worstWith_31 : decode zo_LG_worstWith 31 = .ok (.iconst 0, 1) := by decide +kernel
theorem zd_LG_worstWith_32 : decode zo_LG_worstWith 32 = .ok (.ireturn, 1) := by decide +kernel
theorem zd_LG_worstWith_33 : decode zo_LG_worstWith 33 = .ok (.aload_n 1, 1) := by decide +kernel
theorem zd_LG_worstWith_34 : decode zo_LG_worstWith 34 = .ok (.getfield 101, 3) := by decide +kernel
theorem zd_LG_worstWith_37 : decode zo_LG_worstWith 37 = .ok (.ifCond .eq 7, 3) := by decide +kernel
theorem zd_LG_worstWith_40 : decode zo_LG_worstWith 40 = .ok (.sipush 1000, 3) := by decide +kernel
theorem zd_LG_worstWith_43 : decode zo_LG_worstWith 43 = .ok (.ireturn, 1) := by decide +kernel
theorem zd_LG_worstWith_44 : decode zo_LG_worstWith 44 = .ok (.iconst 1, 1) := by decide +kernel
theorem zd_LG_worstWith_45 : decode zo_LG_worstWith 45 = .ok (.istore_n 3, 1) := by decide +kernel
theorem zd_LG_worstWith_46 : decode zo_LG_worstWith 46 = .ok (.iload_n 3, 1) := by decide +kernel
theorem zd_LG_worstWith_47 : decode zo_LG_worstWith 47 = .ok (.sipush 1000, 3) := by decide +kernel
theorem zd_LG_worstWith_50 : decode zo_LG_worstWith 50 = .ok (.if_icmp .gt 46, 3) := by decide +kernel
theorem zd_LG_worstWith_53 : decode zo_LG_worstWith 53 = .ok (.aload_n 0, 1) := by decide +kernel
theorem zd_LG_worstWith_54 : decode zo_LG_worstWith 54 = .ok (.getfield 23, 3) := by decide +kernel
theorem zd_LG_worstWith_57 : decode zo_LG_worstWith 57 = .ok (.aload_n 0, 1) := by decide +kernel
theorem zd_LG_worstWith_58 : decode zo_LG_worstWith 58 = .ok (.getfield 10, 3) := by decide +kernel
theorem zd_LG_worstWith_61 : decode zo_LG_worstWith 61 = .ok (.invokevirtual 105, 3) := by decide +kernel
theorem zd_LG_worstWith_64 : decode zo_LG_worstWith 64 = .ok (.aload_n 0, 1) := by decide +kernel
theorem zd_LG_worstWith_65 : decode zo_LG_worstWith 65 = .ok (.getfield 23, 3) := by decide +kernel
theorem zd_LG_worstWith_68 : decode zo_LG_worstWith 68 = .ok (.getfield 206, 3) := by decide +kernel
theorem zd_LG_worstWith_71 : decode zo_LG_worstWith 71 = .ok (.ifCond .eq 7, 3) := by decide +kernel
theorem zd_LG_worstWith_74 : decode zo_LG_worstWith 74 = .ok (.sipush 1000, 3) := by decide +kernel
theorem zd_LG_worstWith_77 : decode zo_LG_worstWith 77 = .ok (.ireturn, 1) := by decide +kernel
theorem zd_LG_worstWith_78 : decode zo_LG_worstWith 78 = .ok (.aload_n 0, 1) := by decide +kernel
theorem zd_LG_worstWith_79 : decode zo_LG_worstWith 79 = .ok (.getfield 23, 3) := by decide +kernel
theorem zd_LG_worstWith_82 : decode zo_LG_worstWith 82 = .ok (.invokevirtual 276, 3) := by decide +kernel
theorem zd_LG_worstWith_85 : decode zo_LG_worstWith 85 = .ok (.ifCond .ne 5, 3) := by decide +kernel
theorem zd_LG_worstWith_88 : decode zo_LG_worstWith 88 = .ok (.iload_n 3, 1) := by decide +kernel
theorem zd_LG_worstWith_89 : decode zo_LG_worstWith 89 = .ok (.ireturn, 1) := by decide +kernel
theorem zd_LG_worstWith_90 : decode zo_LG_worstWith 90 = .ok (.iinc 3 1, 3) := by decide +kernel
theorem zd_LG_worstWith_93 : decode zo_LG_worstWith 93 = .ok (.goto (-47), 3) := by decide +kernel
theorem zd_LG_worstWith_96 : decode zo_LG_worstWith 96 = .ok (.sipush 1000, 3) := by decide +kernel
theorem zd_LG_worstWith_99 : decode zo_LG_worstWith 99 = .ok (.ireturn, 1) := by decide +kernel
abbrev zo_LG_chooseCar : ByteArray := prog_1_method_27_code
abbrev zy_LG_chooseCar : MethodName := ⟨"LiftGroup", "chooseCar", "(I)V"⟩
theorem zd_LG_chooseCar_0 : decode zo_LG_chooseCar 0 = .ok (.iconst 1, 1) := by decide +kernel
theorem zd_LG_chooseCar_1 : decode zo_LG_chooseCar 1 = .ok (.iload_n 1, 1) := by decide +kernel
theorem zd_LG_chooseCar_2 : decode zo_LG_chooseCar 2 = .ok (.ishl, 1) := by decide +kernel
theorem zd_LG_chooseCar_3 : decode zo_LG_chooseCar 3 = .ok (.istore_n 2, 1) := by decide +kernel
theorem zd_LG_chooseCar_4 : decode zo_LG_chooseCar 4 = .ok (.iconst (-1), 1) := by decide +kernel
theorem zd_LG_chooseCar_5 : decode zo_LG_chooseCar 5 = .ok (.istore_n 3, 1) := by decide +kernel
theorem zd_LG_chooseCar_6 : decode zo_LG_chooseCar 6 = .ok (.iconst 0, 1) := by decide +kernel
theorem zd_LG_chooseCar_7 : decode zo_LG_chooseCar 7 = .ok (.istore 4, 2) := by decide +kernel
theorem zd_LG_chooseCar_9 : decode zo_LG_chooseCar 9 = .ok (.iconst 0, 1) := by decide +kernel
theorem zd_LG_chooseCar_10 : decode zo_LG_chooseCar 10 = .ok (.istore 5, 2) := by decide +kernel
theorem zd_LG_chooseCar_12 : decode zo_LG_chooseCar 12 = .ok (.iload 5, 2) := by decide +kernel
theorem zd_LG_chooseCar_14 : decode zo_LG_chooseCar 14 = .ok (.aload_n 0, 1) := by decide +kernel
theorem zd_LG_chooseCar_15 : decode zo_LG_chooseCar 15 = .ok (.getfield 98, 3) := by decide +kernel
theorem zd_LG_chooseCar_18 : decode zo_LG_chooseCar 18 = .ok (.if_icmp .ge 69, 3) := by decide +kernel
theorem zd_LG_chooseCar_21 : decode zo_LG_chooseCar 21 = .ok (.aload_n 0, 1) := by decide +kernel
theorem zd_LG_chooseCar_22 : decode zo_LG_chooseCar 22 = .ok (.aload_n 0, 1) := by decide +kernel
theorem zd_LG_chooseCar_23 : decode zo_LG_chooseCar 23 = .ok (.getfield 18, 3) := by decide +kernel
theorem zd_LG_chooseCar_26 : decode zo_LG_chooseCar 26 = .ok (.iload 5, 2) := by decide +kernel
theorem zd_LG_chooseCar_28 : decode zo_LG_chooseCar 28 = .ok (.aaload, 1) := by decide +kernel
theorem zd_LG_chooseCar_29 : decode zo_LG_chooseCar 29 = .ok (.invokevirtual 265, 3) := by decide +kernel
theorem zd_LG_chooseCar_32 : decode zo_LG_chooseCar 32 = .ok (.ifCond .eq 49, 3) := by decide +kernel
theorem zd_LG_chooseCar_35 : decode zo_LG_chooseCar 35 = .ok (.aload_n 0, 1) := by decide +kernel
theorem zd_LG_chooseCar_36 : decode zo_LG_chooseCar 36 = .ok (.aload_n 0, 1) := by decide +kernel
theorem zd_LG_chooseCar_37 : decode zo_LG_chooseCar 37 = .ok (.getfield 18, 3) := by decide +kernel
theorem zd_LG_chooseCar_40 : decode zo_LG_chooseCar 40 = .ok (.iload 5, 2) := by decide +kernel
theorem zd_LG_chooseCar_42 : decode zo_LG_chooseCar 42 = .ok (.aaload, 1) := by decide +kernel
theorem zd_LG_chooseCar_43 : decode zo_LG_chooseCar 43 = .ok (.iload_n 2, 1) := by decide +kernel
theorem zd_LG_chooseCar_44 : decode zo_LG_chooseCar 44 = .ok (.invokevirtual 171, 3) := by decide +kernel
theorem zd_LG_chooseCar_47 : decode zo_LG_chooseCar 47 = .ok (.aload_n 0, 1) := by decide +kernel
theorem zd_LG_chooseCar_48 : decode zo_LG_chooseCar 48 = .ok (.aload_n 0, 1) := by decide +kernel
theorem zd_LG_chooseCar_49 : decode zo_LG_chooseCar 49 = .ok (.getfield 18, 3) := by decide +kernel
theorem zd_LG_chooseCar_52 : decode zo_LG_chooseCar 52 = .ok (.iload 5, 2) := by decide +kernel
theorem zd_LG_chooseCar_54 : decode zo_LG_chooseCar 54 = .ok (.aaload, 1) := by decide +kernel
theorem zd_LG_chooseCar_55 : decode zo_LG_chooseCar 55 = .ok (.iconst 0, 1) := by decide +kernel
theorem zd_LG_chooseCar_56 : decode zo_LG_chooseCar 56 = .ok (.invokevirtual 171, 3) := by decide +kernel
theorem zd_LG_chooseCar_59 : decode zo_LG_chooseCar 59 = .ok (.isub, 1) := by decide +kernel
theorem zd_LG_chooseCar_60 : decode zo_LG_chooseCar 60 = .ok (.istore 6, 2) := by decide +kernel
theorem zd_LG_chooseCar_62 : decode zo_LG_chooseCar 62 = .ok (.iload_n 3, 1) := by decide +kernel
theorem zd_LG_chooseCar_63 : decode zo_LG_chooseCar 63 = .ok (.iconst (-1), 1) := by decide +kernel
theorem zd_LG_chooseCar_64 : decode zo_LG_chooseCar 64 = .ok (.if_icmp .eq 10, 3) := by decide +kernel
theorem zd_LG_chooseCar_67 : decode zo_LG_chooseCar 67 = .ok (.iload 6, 2) := by decide +kernel
theorem zd_LG_chooseCar_69 : decode zo_LG_chooseCar 69 = .ok (.iload 4, 2) := by decide +kernel
theorem zd_LG_chooseCar_71 : decode zo_LG_chooseCar 71 = .ok (.if_icmp .ge 10, 3) := by decide +kernel
theorem zd_LG_chooseCar_74 : decode zo_LG_chooseCar 74 = .ok (.iload 5, 2) := by decide +kernel
theorem zd_LG_chooseCar_76 : decode zo_LG_chooseCar 76 = .ok (.istore_n 3, 1) := by decide +kernel
theorem zd_LG_chooseCar_77 : decode zo_LG_chooseCar 77 = .ok (.iload 6, 2) := by decide +kernel
theorem zd_LG_chooseCar_79 : decode zo_LG_chooseCar 79 = .ok (.istore 4, 2) := by decide +kernel
theorem zd_LG_chooseCar_81 : decode zo_LG_chooseCar 81 = .ok (.iinc 5 1, 3) := by decide +kernel
theorem zd_LG_chooseCar_84 : decode zo_LG_chooseCar 84 = .ok (.goto (-72), 3) := by decide +kernel
theorem zd_LG_chooseCar_87 : decode zo_LG_chooseCar 87 = .ok (.aload_n 0, 1) := by decide +kernel
theorem zd_LG_chooseCar_88 : decode zo_LG_chooseCar 88 = .ok (.getfield 29, 3) := by decide +kernel
theorem zd_LG_chooseCar_91 : decode zo_LG_chooseCar 91 = .ok (.iload_n 1, 1) := by decide +kernel
theorem zd_LG_chooseCar_92 : decode zo_LG_chooseCar 92 = .ok (.aaload, 1) := by decide +kernel
theorem zd_LG_chooseCar_93 : decode zo_LG_chooseCar 93 = .ok (.iload_n 3, 1) := by decide +kernel
theorem zd_LG_chooseCar_94 : decode zo_LG_chooseCar 94 = .ok (.putfield 93, 3) := by decide +kernel
theorem zd_LG_chooseCar_97 : decode zo_LG_chooseCar 97 = .ok (.iload_n 3, 1) := by decide +kernel
theorem zd_LG_chooseCar_98 : decode zo_LG_chooseCar 98 = .ok (.iconst (-1), 1) := by decide +kernel
theorem zd_LG_chooseCar_99 : decode zo_LG_chooseCar 99 = .ok (.if_icmp .ne 30, 3) := by decide +kernel
theorem zd_LG_chooseCar_102 : decode zo_LG_chooseCar 102 = .ok (.aload_n 0, 1) := by decide +kernel
theorem zd_LG_chooseCar_103 : decode zo_LG_chooseCar 103 = .ok (.dup, 1) := by decide +kernel
theorem zd_LG_chooseCar_104 : decode zo_LG_chooseCar 104 = .ok (.getfield 252, 3) := by decide +kernel
theorem zd_LG_chooseCar_107 : decode zo_LG_chooseCar 107 = .ok (.iload_n 2, 1) := by decide +kernel
theorem zd_LG_chooseCar_108 : decode zo_LG_chooseCar 108 = .ok (.ior, 1) := by decide +kernel
theorem zd_LG_chooseCar_109 : decode zo_LG_chooseCar 109 = .ok (.putfield 252, 3) := by decide +kernel
theorem zd_LG_chooseCar_112 : decode zo_LG_chooseCar 112 = .ok (.aload_n 0, 1) := by decide +kernel
theorem zd_LG_chooseCar_113 : decode zo_LG_chooseCar 113 = .ok (.getfield 37, 3) := by decide +kernel
theorem zd_LG_chooseCar_116 : decode zo_LG_chooseCar 116 = .ok (.aload_n 0, 1) := by decide +kernel
theorem zd_LG_chooseCar_117 : decode zo_LG_chooseCar 117 = .ok (.getfield 80, 3) := by decide +kernel
theorem zd_LG_chooseCar_120 : decode zo_LG_chooseCar 120 = .ok (.iconst 5, 1) := by decide +kernel
theorem zd_LG_chooseCar_121 : decode zo_LG_chooseCar 121 = .ok (.iload_n 1, 1) := by decide +kernel
theorem zd_LG_chooseCar_122 : decode zo_LG_chooseCar 122 = .ok (.iconst (-1), 1) := by decide +kernel
theorem zd_LG_chooseCar_123 : decode zo_LG_chooseCar 123 = .ok (.invokevirtual 272, 3) := by decide +kernel
theorem zd_LG_chooseCar_126 : decode zo_LG_chooseCar 126 = .ok (.goto 32, 3) := by decide +kernel
theorem zd_LG_chooseCar_129 : decode zo_LG_chooseCar 129 = .ok (.aload_n 0, 1) := by decide +kernel
theorem zd_LG_chooseCar_130 : decode zo_LG_chooseCar 130 = .ok (.getfield 18, 3) := by decide +kernel
theorem zd_LG_chooseCar_133 : decode zo_LG_chooseCar 133 = .ok (.iload_n 3, 1) := by decide +kernel
theorem zd_LG_chooseCar_134 : decode zo_LG_chooseCar 134 = .ok (.aaload, 1) := by decide +kernel
theorem zd_LG_chooseCar_135 : decode zo_LG_chooseCar 135 = .ok (.dup, 1) := by decide +kernel
theorem zd_LG_chooseCar_136 : decode zo_LG_chooseCar 136 = .ok (.getfield 269, 3) := by decide +kernel
theorem zd_LG_chooseCar_139 : decode zo_LG_chooseCar 139 = .ok (.iload_n 2, 1) := by decide +kernel
theorem zd_LG_chooseCar_140 : decode zo_LG_chooseCar 140 = .ok (.ior, 1) := by decide +kernel
theorem zd_LG_chooseCar_141 : decode zo_LG_chooseCar 141 = .ok (.putfield 269, 3) := by decide +kernel
theorem zd_LG_chooseCar_144 : decode zo_LG_chooseCar 144 = .ok (.aload_n 0, 1) := by decide +kernel
theorem zd_LG_chooseCar_145 : decode zo_LG_chooseCar 145 = .ok (.getfield 37, 3) := by decide +kernel
theorem zd_LG_chooseCar_148 : decode zo_LG_chooseCar 148 = .ok (.aload_n 0, 1) := by decide +kernel
theorem zd_LG_chooseCar_149 : decode zo_LG_chooseCar 149 = .ok (.getfield 80, 3) := by decide +kernel
theorem zd_LG_chooseCar_152 : decode zo_LG_chooseCar 152 = .ok (.iconst 1, 1) := by decide +kernel
theorem zd_LG_chooseCar_153 : decode zo_LG_chooseCar 153 = .ok (.iload_n 1, 1) := by decide +kernel
theorem zd_LG_chooseCar_154 : decode zo_LG_chooseCar 154 = .ok (.iload_n 3, 1) := by decide +kernel
theorem zd_LG_chooseCar_155 : decode zo_LG_chooseCar 155 = .ok (.invokevirtual 272, 3) := by decide +kernel
theorem zd_LG_chooseCar_158 : decode zo_LG_chooseCar 158 = .ok (.return_, 1) := by decide +kernel
abbrev zo_LG_chooseForAll : ByteArray := prog_1_method_26_code
abbrev zy_LG_chooseForAll : MethodName := ⟨"LiftGroup", "chooseForAll", "(I)V"⟩
theorem zd_LG_chooseForAll_0 : decode zo_LG_chooseForAll 0 = .ok (.iconst 0, 1) := by decide +kernel
theorem zd_LG_chooseForAll_1 : decode zo_LG_chooseForAll 1 = .ok (.istore_n 2, 1) := by decide +kernel
theorem zd_LG_chooseForAll_2 : decode zo_LG_chooseForAll 2 = .ok (.iload_n 2, 1) := by decide +kernel
theorem zd_LG_chooseForAll_3 : decode zo_LG_chooseForAll 3 = .ok (.aload_n 0, 1) := by decide +kernel
theorem zd_LG_chooseForAll_4 : decode zo_LG_chooseForAll 4 = .ok (.getfield 71, 3) := by decide +kernel
theorem zd_LG_chooseForAll_7 : decode zo_LG_chooseForAll 7 = .ok (.if_icmp .ge 22, 3) := by decide +kernel
theorem zd_LG_chooseForAll_10 : decode zo_LG_chooseForAll 10 = .ok (.iload_n 1, 1) := by decide +kernel
theorem zd_LG_chooseForAll_11 : decode zo_LG_chooseForAll 11 = .ok (.iconst 1, 1) := by decide +kernel
theorem zd_LG_chooseForAll_12 : decode zo_LG_chooseForAll 12 = .ok (.iload_n 2, 1) := by decide +kernel
theorem zd_LG_chooseForAll_13 : decode zo_LG_chooseForAll 13 = .ok (.ishl, 1) := by decide +kernel
theorem zd_LG_chooseForAll_14 : decode zo_LG_chooseForAll 14 = .ok (.iand, 1) := by decide +kernel
theorem zd_LG_chooseForAll_15 : decode zo_LG_chooseForAll 15 = .ok (.ifCond .eq 8, 3) := by decide +kernel
theorem zd_LG_chooseForAll_18 : decode zo_LG_chooseForAll 18 = .ok (.aload_n 0, 1) := by decide +kernel
theorem zd_LG_chooseForAll_19 : decode zo_LG_chooseForAll 19 = .ok (.iload_n 2, 1) := by decide +kernel
theorem zd_LG_chooseForAll_20 : decode zo_LG_chooseForAll 20 = .ok (.invokevirtual 89, 3) := by decide +kernel
theorem zd_LG_chooseForAll_23 : decode zo_LG_chooseForAll 23 = .ok (.iinc 2 1, 3) := by decide +kernel
theorem zd_LG_chooseForAll_26 : decode zo_LG_chooseForAll 26 = .ok (.goto (-24), 3) := by decide +kernel
theorem zd_LG_chooseForAll_29 : decode zo_LG_chooseForAll 29 = .ok (.return_, 1) := by decide +kernel
abbrev zo_LG_changeRider : ByteArray := prog_1_method_31_code
abbrev zy_LG_changeRider : MethodName := ⟨"LiftGroup", "changeRider", "(LLiftGroup$Rider;I)V"⟩
theorem zd_LG_changeRider_0 : decode zo_LG_changeRider 0 = .ok (.iload_n 2, 1) := by decide +kernel
theorem zd_LG_changeRider_1 : decode zo_LG_changeRider 1 = .ok (.iconst 2, 1) := by decide +kernel
theorem zd_LG_changeRider_2 : decode zo_LG_changeRider 2 = .ok (.if_icmp .ne 9, 3) := by decide +kernel
theorem zd_LG_changeRider_5 : decode zo_LG_changeRider 5 = .ok (.aload_n 1, 1) := by decide +kernel
theorem zd_LG_changeRider_6 : decode zo_LG_changeRider 6 = .ok (.iconst 1, 1) := by decide +kernel
theorem zd_LG_changeRider_7 : decode zo_LG_changeRider 7 = .ok (.putfield 179, 3) := by decide +kernel
theorem zd_LG_changeRider_10 : decode zo_LG_changeRider 10 = .ok (.return_, 1) := by decide +kernel
theorem zd_LG_changeRider_11 : decode zo_LG_changeRider 11 = .ok (.aload_n 1, 1) := by decide +kernel
theorem zd_LG_changeRider_12 : decode zo_LG_changeRider 12 = .ok (.iload_n 2, 1) := by decide +kernel
theorem zd_LG_changeRider_13 : decode zo_LG_changeRider 13 = .ok (.iconst 3, 1) := by decide +kernel
theorem zd_LG_changeRider_14 : decode zo_LG_changeRider 14 = .ok (.if_icmp .ne 7, 3) := by decide +kernel
theorem zd_LG_changeRider_17 : decode zo_LG_changeRider 17 = .ok (.iconst 2, 1) := by decide +kernel
theorem zd_LG_changeRider_18 : decode zo_LG_changeRider 18 = .ok (.goto 4, 3) := by decide +kernel
theorem zd_LG_changeRider_21 : decode zo_LG_changeRider 21 = .ok (.iconst 3, 1) := by decide +kernel
theorem zd_LG_changeRider_22 : decode zo_LG_changeRider 22 = .ok (.putfield 179, 3) := by decide +kernel
theorem zd_LG_changeRider_25 : decode zo_LG_changeRider 25 = .ok (.aload_n 1, 1) := by decide +kernel
theorem zd_LG_changeRider_26 : decode zo_LG_changeRider 26 = .ok (.aload_n 0, 1) := by decide +kernel
theorem zd_LG_changeRider_27 : decode zo_LG_changeRider 27 = .ok (.getfield 80, 3) := by decide +kernel
theorem zd_LG_changeRider_30 : decode zo_LG_changeRider 30 = .ok (.aload_n 1, 1) := by decide +kernel
theorem zd_LG_changeRider_31 : decode zo_LG_changeRider 31 = .ok (.getfield 194, 3) := by decide +kernel
theorem zd_LG_changeRider_34 : decode zo_LG_changeRider 34 = .ok (.isub, 1) := by decide +kernel
theorem zd_LG_changeRider_35 : decode zo_LG_changeRider 35 = .ok (.putfield 191, 3) := by decide +kernel
theorem zd_LG_changeRider_38 : decode zo_LG_changeRider 38 = .ok (.iload_n 2, 1) := by decide +kernel
theorem zd_LG_changeRider_39 : decode zo_LG_changeRider 39 = .ok (.iconst 3, 1) := by decide +kernel
theorem zd_LG_changeRider_40 : decode zo_LG_changeRider 40 = .ok (.if_icmp .ne 41, 3) := by decide +kernel
theorem zd_LG_changeRider_43 : decode zo_LG_changeRider 43 = .ok (.aload_n 0, 1) := by decide +kernel
theorem zd_LG_changeRider_44 : decode zo_LG_changeRider 44 = .ok (.dup, 1) := by decide +kernel
theorem zd_LG_changeRider_45 : decode zo_LG_changeRider 45 = .ok (.getfield 238, 3) := by decide +kernel
theorem zd_LG_changeRider_48 : decode zo_LG_changeRider 48 = .ok (.iconst 1, 1) := by decide +kernel
theorem zd_LG_changeRider_49 : decode zo_LG_changeRider 49 = .ok (.iadd, 1) := by decide +kernel
theorem zd_LG_changeRider_50 : decode zo_LG_changeRider 50 = .ok (.putfield 238, 3) := by decide +kernel
theorem zd_LG_changeRider_53 : decode zo_LG_changeRider 53 = .ok (.aload_n 0, 1) := by decide +kernel
theorem zd_LG_changeRider_54 : decode zo_LG_changeRider 54 = .ok (.aload_n 0, 1) := by decide +kernel
theorem zd_LG_changeRider_55 : decode zo_LG_changeRider 55 = .ok (.getfield 241, 3) := by decide +kernel
theorem zd_LG_changeRider_58 : decode zo_LG_changeRider 58 = .ok (.aload_n 1, 1) := by decide +kernel
theorem zd_LG_changeRider_59 : decode zo_LG_changeRider 59 = .ok (.getfield 191, 3) := by decide +kernel
theorem zd_LG_changeRider_62 : decode zo_LG_changeRider 62 = .ok (.invokestatic 289, 3) := by decide +kernel
theorem zd_LG_changeRider_65 : decode zo_LG_changeRider 65 = .ok (.putfield 241, 3) := by decide +kernel
theorem zd_LG_changeRider_68 : decode zo_LG_changeRider 68 = .ok (.aload_n 0, 1) := by decide +kernel
theorem zd_LG_changeRider_69 : decode zo_LG_changeRider 69 = .ok (.dup, 1) := by decide +kernel
theorem zd_LG_changeRider_70 : decode zo_LG_changeRider 70 = .ok (.getfield 244, 3) := by decide +kernel
theorem zd_LG_changeRider_73 : decode zo_LG_changeRider 73 = .ok (.aload_n 1, 1) := by decide +kernel
theorem zd_LG_changeRider_74 : decode zo_LG_changeRider 74 = .ok (.getfield 191, 3) := by decide +kernel
theorem zd_LG_changeRider_77 : decode zo_LG_changeRider 77 = .ok (.iadd, 1) := by decide +kernel
theorem zd_LG_changeRider_78 : decode zo_LG_changeRider 78 = .ok (.putfield 244, 3) := by decide +kernel
theorem zd_LG_changeRider_81 : decode zo_LG_changeRider 81 = .ok (.return_, 1) := by decide +kernel
abbrev zo_LG_noteAll : ByteArray := prog_1_method_30_code
abbrev zy_LG_noteAll : MethodName := ⟨"LiftGroup", "noteAll", "(III)V"⟩
theorem zd_LG_noteAll_0 : decode zo_LG_noteAll 0 = .ok (.iconst 0, 1) := by decide +kernel
theorem zd_LG_noteAll_1 : decode zo_LG_noteAll 1 = .ok (.istore 4, 2) := by decide +kernel
theorem zd_LG_noteAll_3 : decode zo_LG_noteAll 3 = .ok (.iload 4, 2) := by decide +kernel
theorem zd_LG_noteAll_5 : decode zo_LG_noteAll 5 = .ok (.aload_n 0, 1) := by decide +kernel
theorem zd_LG_noteAll_6 : decode zo_LG_noteAll 6 = .ok (.getfield 71, 3) := by decide +kernel
theorem zd_LG_noteAll_9 : decode zo_LG_noteAll 9 = .ok (.if_icmp .ge 45, 3) := by decide +kernel
theorem zd_LG_noteAll_12 : decode zo_LG_noteAll 12 = .ok (.iload_n 1, 1) := by decide +kernel
theorem zd_LG_noteAll_13 : decode zo_LG_noteAll 13 = .ok (.iconst 1, 1) := by decide +kernel
theorem zd_LG_noteAll_14 : decode zo_LG_noteAll 14 = .ok (.iload 4, 2) := by decide +kernel
theorem zd_LG_noteAll_16 : decode zo_LG_noteAll 16 = .ok (.ishl, 1) := by decide +kernel
theorem zd_LG_noteAll_17 : decode zo_LG_noteAll 17 = .ok (.iand, 1) := by decide +kernel
theorem zd_LG_noteAll_18 : decode zo_LG_noteAll 18 = .ok (.ifCond .eq 30, 3) := by decide +kernel
theorem zd_LG_noteAll_21 : decode zo_LG_noteAll 21 = .ok (.aload_n 0, 1) := by decide +kernel
theorem zd_LG_noteAll_22 : decode zo_LG_noteAll 22 = .ok (.aload_n 0, 1) := by decide +kernel
theorem zd_LG_noteAll_23 : decode zo_LG_noteAll 23 = .ok (.getfield 29, 3) := by decide +kernel
theorem zd_LG_noteAll_26 : decode zo_LG_noteAll 26 = .ok (.iload 4, 2) := by decide +kernel
theorem zd_LG_noteAll_28 : decode zo_LG_noteAll 28 = .ok (.aaload, 1) := by decide +kernel
theorem zd_LG_noteAll_29 : decode zo_LG_noteAll 29 = .ok (.iload_n 2, 1) := by decide +kernel
theorem zd_LG_noteAll_30 : decode zo_LG_noteAll 30 = .ok (.invokevirtual 285, 3) := by decide +kernel
theorem zd_LG_noteAll_33 : decode zo_LG_noteAll 33 = .ok (.aload_n 0, 1) := by decide +kernel
theorem zd_LG_noteAll_34 : decode zo_LG_noteAll 34 = .ok (.getfield 37, 3) := by decide +kernel
theorem zd_LG_noteAll_37 : decode zo_LG_noteAll 37 = .ok (.aload_n 0, 1) := by decide +kernel
theorem zd_LG_noteAll_38 : decode zo_LG_noteAll 38 = .ok (.getfield 80, 3) := by decide +kernel
theorem zd_LG_noteAll_41 : decode zo_LG_noteAll 41 = .ok (.iload_n 2, 1) := by decide +kernel
theorem zd_LG_noteAll_42 : decode zo_LG_noteAll 42 = .ok (.iload 4, 2) := by decide +kernel
theorem zd_LG_noteAll_44 : decode zo_LG_noteAll 44 = .ok (.iload_n 3, 1) := by decide +kernel
theorem zd_LG_noteAll_45 : decode zo_LG_noteAll 45 = .ok (.invokevirtual 272, 3) := by decide +kernel
theorem zd_LG_noteAll_48 : decode zo_LG_noteAll 48 = .ok (.iinc 4 1, 3) := by decide +kernel
theorem zd_LG_noteAll_51 : decode zo_LG_noteAll 51 = .ok (.goto (-48), 3) := by decide +kernel
theorem zd_LG_noteAll_54 : decode zo_LG_noteAll 54 = .ok (.return_, 1) := by decide +kernel
abbrev zo_LG_noteExchange : ByteArray := prog_1_method_29_code
abbrev zy_LG_noteExchange : MethodName := ⟨"LiftGroup", "noteExchange", "(I)V"⟩
theorem zd_LG_noteExchange_0 : decode zo_LG_noteExchange 0 = .ok (.aload_n 0, 1) := by decide +kernel
theorem zd_LG_noteExchange_1 : decode zo_LG_noteExchange 1 = .ok (.getfield 18, 3) := by decide +kernel
theorem zd_LG_noteExchange_4 : decode zo_LG_noteExchange 4 = .ok (.iload_n 1, 1) := by decide +kernel
theorem zd_LG_noteExchange_5 : decode zo_LG_noteExchange 5 = .ok (.aaload, 1) := by decide +kernel
theorem zd_LG_noteExchange_6 : decode zo_LG_noteExchange 6 = .ok (.astore_n 2, 1) := by decide +kernel
theorem zd_LG_noteExchange_7 : decode zo_LG_noteExchange 7 = .ok (.aload_n 2, 1) := by decide +kernel
theorem zd_LG_noteExchange_8 : decode zo_LG_noteExchange 8 = .ok (.getfield 203, 3) := by decide +kernel
theorem zd_LG_noteExchange_11 : decode zo_LG_noteExchange 11 = .ok (.ifCond .eq 13, 3) := by decide +kernel
theorem zd_LG_noteExchange_14 : decode zo_LG_noteExchange 14 = .ok (.aload_n 0, 1) := by decide +kernel
theorem zd_LG_noteExchange_15 : decode zo_LG_noteExchange 15 = .ok (.aload_n 2, 1) := by decide +kernel
theorem zd_LG_noteExchange_16 : decode zo_LG_noteExchange 16 = .ok (.getfield 203, 3) := by decide +kernel
theorem zd_LG_noteExchange_19 : decode zo_LG_noteExchange 19 = .ok (.iconst 3, 1) := by decide +kernel
theorem zd_LG_noteExchange_20 : decode zo_LG_noteExchange 20 = .ok (.iload_n 1, 1) := by decide +kernel
theorem zd_LG_noteExchange_21 : decode zo_LG_noteExchange 21 = .ok (.invokevirtual 279, 3) := by decide +kernel
theorem zd_LG_noteExchange_24 : decode zo_LG_noteExchange 24 = .ok (.aload_n 2, 1) := by decide +kernel
theorem zd_LG_noteExchange_25 : decode zo_LG_noteExchange 25 = .ok (.getfield 206, 3) := by decide +kernel
theorem zd_LG_noteExchange_28 : decode zo_LG_noteExchange 28 = .ok (.ifCond .eq 13, 3) := by decide +kernel
theorem zd_LG_noteExchange_31 : decode zo_LG_noteExchange 31 = .ok (.aload_n 0, 1) := by decide +kernel
theorem zd_LG_noteExchange_32 : decode zo_LG_noteExchange 32 = .ok (.aload_n 2, 1) := by decide +kernel
theorem zd_LG_noteExchange_33 : decode zo_LG_noteExchange 33 = .ok (.getfield 206, 3) := by decide +kernel
theorem zd_LG_noteExchange_36 : decode zo_LG_noteExchange 36 = .ok (.iconst 4, 1) := by decide +kernel
theorem zd_LG_noteExchange_37 : decode zo_LG_noteExchange 37 = .ok (.iload_n 1, 1) := by decide +kernel
theorem zd_LG_noteExchange_38 : decode zo_LG_noteExchange 38 = .ok (.invokevirtual 279, 3) := by decide +kernel
theorem zd_LG_noteExchange_41 : decode zo_LG_noteExchange 41 = .ok (.aload_n 2, 1) := by decide +kernel
theorem zd_LG_noteExchange_42 : decode zo_LG_noteExchange 42 = .ok (.getfield 282, 3) := by decide +kernel
theorem zd_LG_noteExchange_45 : decode zo_LG_noteExchange 45 = .ok (.ifCond .eq 13, 3) := by decide +kernel
theorem zd_LG_noteExchange_48 : decode zo_LG_noteExchange 48 = .ok (.aload_n 0, 1) := by decide +kernel
theorem zd_LG_noteExchange_49 : decode zo_LG_noteExchange 49 = .ok (.aload_n 2, 1) := by decide +kernel
theorem zd_LG_noteExchange_50 : decode zo_LG_noteExchange 50 = .ok (.getfield 282, 3) := by decide +kernel
theorem zd_LG_noteExchange_53 : decode zo_LG_noteExchange 53 = .ok (.iconst 2, 1) := by decide +kernel
theorem zd_LG_noteExchange_54 : decode zo_LG_noteExchange 54 = .ok (.iload_n 1, 1) := by decide +kernel
theorem zd_LG_noteExchange_55 : decode zo_LG_noteExchange 55 = .ok (.invokevirtual 279, 3) := by decide +kernel
theorem zd_LG_noteExchange_58 : decode zo_LG_noteExchange 58 = .ok (.return_, 1) := by decide +kernel
abbrev zo_LG_recall : ByteArray := prog_1_method_8_code
abbrev zy_LG_recall : MethodName := ⟨"LiftGroup", "recall", "(Z)V"⟩
theorem zd_LG_recall_0 : decode zo_LG_recall 0 = .ok (.aload_n 0, 1) := by decide +kernel
theorem zd_LG_recall_1 : decode zo_LG_recall 1 = .ok (.getfield 10, 3) := by decide +kernel
theorem zd_LG_recall_4 : decode zo_LG_recall 4 = .ok (.getfield 132, 3) := by decide +kernel
theorem zd_LG_recall_7 : decode zo_LG_recall 7 = .ok (.iload_n 1, 1) := by decide +kernel
theorem zd_LG_recall_8 : decode zo_LG_recall 8 = .ok (.if_icmp .ne 4, 3) := by decide +kernel
theorem zd_LG_recall_11 : decode zo_LG_recall 11 = .ok (.return_, 1) := by decide +kernel
theorem zd_LG_recall_12 : decode zo_LG_recall 12 = .ok (.aload_n 0, 1) := by decide +kernel
theorem zd_LG_recall_13 : decode zo_LG_recall 13 = .ok (.getfield 10, 3) := by decide +kernel
theorem zd_LG_recall_16 : decode zo_LG_recall 16 = .ok (.iload_n 1, 1) := by decide +kernel
theorem zd_LG_recall_17 : decode zo_LG_recall 17 = .ok (.putfield 132, 3) := by decide +kernel
theorem zd_LG_recall_20 : decode zo_LG_recall 20 = .ok (.iload_n 1, 1) := by decide +kernel
theorem zd_LG_recall_21 : decode zo_LG_recall 21 = .ok (.ifCond .eq 10, 3) := by decide +kernel
theorem zd_LG_recall_24 : decode zo_LG_recall 24 = .ok (.aload_n 0, 1) := by decide +kernel
theorem zd_LG_recall_25 : decode zo_LG_recall 25 = .ok (.invokevirtual 135, 3) := by decide +kernel
theorem zd_LG_recall_28 : decode zo_LG_recall 28 = .ok (.goto 11, 3) := by decide +kernel
theorem zd_LG_recall_31 : decode zo_LG_recall 31 = .ok (.aload_n 0, 1) := by decide +kernel
theorem zd_LG_recall_32 : decode zo_LG_recall 32 = .ok (.aload_n 0, 1) := by decide +kernel
theorem zd_LG_recall_33 : decode zo_LG_recall 33 = .ok (.invokevirtual 138, 3) := by decide +kernel
theorem zd_LG_recall_36 : decode zo_LG_recall 36 = .ok (.invokevirtual 129, 3) := by decide +kernel
theorem zd_LG_recall_39 : decode zo_LG_recall 39 = .ok (.return_, 1) := by decide +kernel
abbrev zo_LG_about : ByteArray := prog_1_method_15_code
abbrev zy_LG_about : MethodName := ⟨"LiftGroup", "about", "(I)I"⟩
theorem zd_LG_about_0 : decode zo_LG_about 0 = .ok (.iload_n 1, 1) := by decide +kernel
theorem zd_LG_about_1 : decode zo_LG_about 1 = .ok (.tableswitch 72 0 5 #[39, 44, 49, 57, 62, 67], 39) := by decide +kernel
theorem zd_LG_about_40 : decode zo_LG_about 40 = .ok (.aload_n 0, 1) := by decide +kernel
theorem zd_LG_about_41 : decode zo_LG_about 41 = .ok (.getfield 80, 3) := by decide +kernel
theorem zd_LG_about_44 : decode zo_LG_about 44 = .ok (.ireturn, 1) := by decide +kernel
theorem zd_LG_about_45 : decode zo_LG_about 45 = .ok (.aload_n 0, 1) := by decide +kernel
theorem zd_LG_about_46 : decode zo_LG_about 46 = .ok (.getfield 71, 3) := by decide +kernel
theorem zd_LG_about_49 : decode zo_LG_about 49 = .ok (.ireturn, 1) := by decide +kernel
theorem zd_LG_about_50 : decode zo_LG_about 50 = .ok (.aload_n 0, 1) := by decide +kernel
theorem zd_LG_about_51 : decode zo_LG_about 51 = .ok (.getfield 37, 3) := by decide +kernel
theorem zd_LG_about_54 : decode zo_LG_about 54 = .ok (.getfield 235, 3) := by decide +kernel
theorem zd_LG_about_57 : decode zo_LG_about 57 = .ok (.ireturn, 1) := by decide +kernel
theorem zd_LG_about_58 : decode zo_LG_about 58 = .ok (.aload_n 0, 1) := by decide +kernel
theorem zd_LG_about_59 : decode zo_LG_about 59 = .ok (.getfield 238, 3) := by decide +kernel
theorem zd_LG_about_62 : decode zo_LG_about 62 = .ok (.ireturn, 1) := by decide +kernel
theorem zd_LG_about_63 : decode zo_LG_about 63 = .ok (.aload_n 0, 1) := by decide +kernel
theorem zd_LG_about_64 : decode zo_LG_about 64 = .ok (.getfield 241, 3) := by decide +kernel
theorem zd_LG_about_67 : decode zo_LG_about 67 = .ok (.ireturn, 1) := by decide +kernel
theorem zd_LG_about_68 : decode zo_LG_about 68 = .ok (.aload_n 0, 1) := by decide +kernel
theorem zd_LG_about_69 : decode zo_LG_about 69 = .ok (.getfield 244, 3) := by decide +kernel
theorem zd_LG_about_72 : decode zo_LG_about 72 = .ok (.ireturn, 1) := by decide +kernel
theorem zd_LG_about_73 : decode zo_LG_about 73 = .ok (.iconst (-1), 1) := by decide +kernel
theorem zd_LG_about_74 : decode zo_LG_about 74 = .ok (.ireturn, 1) := by decide +kernel
section ZC5
variable {p : Program} {l : Launch} {e : Env} {s : State} {m : MethodId} {args : Array Value} {below : List Frame} {meth : Method} {c : Code} {E : zE} {A : Nat → Prop}
set_option maxRecDepth 100000 in
theorem zwf_LG_10 : Cond.fieldLink zR0 10 (zT0 0).1 (zT0 0).2.1 (zT0 0).2.2.1 ∈ zwAll := zw_at 235 rfl rfl
set_option maxRecDepth 100000 in
theorem zcal_Ho_startAnew : zw_cal zR1 zy_Ho_startAnew zo_Ho_startAnew 4 none 2 := ⟨zw_at 224 rfl rfl, zw_at 225 rfl rfl, zw_at 48 rfl rfl, zw_at 226 rfl rfl, rfl, by decide, by decide, by decide +kernel⟩
set_option maxRecDepth 100000 in
theorem zml_LG_247 : Cond.methodLink zR0 247 zy_Ho_startAnew ∈ zwAll := zw_at 223 rfl rfl
set_option maxRecDepth 100000 in
theorem zwf_LG_18 : Cond.fieldLink zR0 18 (zT0 1).1 (zT0 1).2.1 (zT0 1).2.2.1 ∈ zwAll := zw_at 236 rfl rfl
set_option maxRecDepth 100000 in
theorem zcal_Ca_startAnew : zw_cal zR2 zy_Ca_startAnew zo_Ca_startAnew 1 none 0 := ⟨zw_at 228 rfl rfl, zw_at 229 rfl rfl, zw_at 49 rfl rfl, zw_at 230 rfl rfl, rfl, by decide, by decide, by decide +kernel⟩
set_option maxRecDepth 100000 in
theorem zml_LG_250 : Cond.methodLink zR0 250 zy_Ca_startAnew ∈ zwAll := zw_at 227 rfl rfl
set_option maxRecDepth 100000 in
theorem zwf_LG_37 : Cond.fieldLink zR0 37 (zT0 4).1 (zT0 4).2.1 (zT0 4).2.2.1 ∈ zwAll := zw_at 239 rfl rfl
set_option maxRecDepth 100000 in
theorem zwf_LG_235 : Cond.fieldLink zR0 235 (zT4 4).1 (zT4 4).2.1 (zT4 4).2.2.1 ∈ zwAll := zw_at 207 rfl rfl
set_option maxRecDepth 100000 in
theorem zwf_LG_98 : Cond.fieldLink zR0 98 (zT0 5).1 (zT0 5).2.1 (zT0 5).2.2.1 ∈ zwAll := zw_at 240 rfl rfl
set_option maxRecDepth 100000 in
theorem zwf_LG_71 : Cond.fieldLink zR0 71 (zT0 6).1 (zT0 6).2.1 (zT0 6).2.2.1 ∈ zwAll := zw_at 241 rfl rfl
set_option maxRecDepth 100000 in
theorem zwf_LG_252 : Cond.fieldLink zR0 252 (zT0 7).1 (zT0 7).2.1 (zT0 7).2.2.1 ∈ zwAll := zw_at 242 rfl rfl
set_option maxRecDepth 100000 in
theorem zwf_LG_80 : Cond.fieldLink zR0 80 (zT0 8).1 (zT0 8).2.1 (zT0 8).2.2.1 ∈ zwAll := zw_at 243 rfl rfl
set_option maxRecDepth 100000 in
theorem zwf_LG_238 : Cond.fieldLink zR0 238 (zT0 9).1 (zT0 9).2.1 (zT0 9).2.2.1 ∈ zwAll := zw_at 244 rfl rfl
set_option maxRecDepth 100000 in
theorem zwf_LG_241 : Cond.fieldLink zR0 241 (zT0 10).1 (zT0 10).2.1 (zT0 10).2.2.1 ∈ zwAll := zw_at 245 rfl rfl
set_option maxRecDepth 100000 in
theorem zwf_LG_244 : Cond.fieldLink zR0 244 (zT0 11).1 (zT0 11).2.1 (zT0 11).2.2.1 ∈ zwAll := zw_at 246 rfl rfl
abbrev zrm_LG_startAnew : Room := { frames := 2, cells := 0, slots := 0, locals := 40 }
def zb_LG_startAnew_12 (N : Nat) (r12 : Int32 → Int32 → zS → Option zS) (l2 : Int32) (l4 : Int32) (st : zS) : Option zS := (if 4 ≤ l4 then some (zp (zp (zp (zp (zp (zp (zp (zp st 35 4 0) 0 5 l2) 0 6 0) 0 7 0) 0 8 0) 0 9 0) 0 10 0) 0 11 0) else (if l4 < 0 ∨ 4 ≤ l4.toNatClampNeg then none else ((zf_Ca_startAnew N (5 + l4.toNatClampNeg) st).bind fun t25 => r12 l2 (l4 + 1) t25)))
set_option maxHeartbeats 4000000 in
theorem zlb_LG_startAnew_12 (F : zw_X p m c zo_LG_startAnew 5 s args zR0 E 10 A meth none) {N : Nat} {rst : zS} {r12 : Int32 → Int32 → zS → Option zS} (hr12 : ∀ (l2 : Int32) (l4 : Int32) (st : zS) , r12 l2 l4 st = some rst → zw_G p l e zrm_LG_startAnew s m args below meth c (MQ below (zw_Q E none rst A) args s 0 0 A) E A 5 0 12 [some (.ref 0), none, some (.int l2), none, some (.int l4)] [] st) (l2 : Int32) (l4 : Int32) (st : zS)  (h : zb_LG_startAnew_12 N r12 l2 l4 st = some rst) : zw_G p l e zrm_LG_startAnew s m args below meth c (MQ below (zw_Q E none rst A) args s 0 0 A) E A 5 0 12 [some (.ref 0), none, some (.int l2), none, some (.int l4)] [] st := by
  unfold zb_LG_startAnew_12 at h
  refine zg_iload F.1 zd_LG_startAnew_12 rfl ?_
  refine zg_iconst F.1 4 4 (by decide) zd_LG_startAnew_14 ?_
  refine zg_icmp_ge F.1 34 zd_LG_startAnew_15 rfl (fun hc => ?_) (fun hc => ?_)
  · rw [if_pos hc] at h
    refine zg_aload_n F.1 zd_LG_startAnew_34 rfl rfl ?_
    refine zg_getR0 F.1 (by decide) rfl 4 (by decide) 35 rfl zwf_LG_37 zd_LG_startAnew_35 ?_
    refine zg_iconst F.1 0 0 (by decide) zd_LG_startAnew_38 ?_
    refine zg_putI4 F.1 (by decide) rfl 4 (by decide) rfl .int (by decide) rfl rfl rfl zwf_LG_235 zd_LG_startAnew_39 ?_
    refine zg_aload_n F.1 zd_LG_startAnew_42 rfl rfl ?_
    refine zg_iload_n F.1 zd_LG_startAnew_43 rfl rfl ?_
    refine zg_putI0 F.1 (by decide) rfl 5 (by decide) (Or.inl rfl) .int (by decide) rfl rfl rfl zwf_LG_98 zd_LG_startAnew_44 ?_
    refine zg_aload_n F.1 zd_LG_startAnew_47 rfl rfl ?_
    refine zg_iconst F.1 0 0 (by decide) zd_LG_startAnew_48 ?_
    refine zg_putI0 F.1 (by decide) rfl 6 (by decide) (Or.inr (Or.inl rfl)) .int (by decide) rfl rfl rfl zwf_LG_71 zd_LG_startAnew_49 ?_
    refine zg_aload_n F.1 zd_LG_startAnew_52 rfl rfl ?_
    refine zg_iconst F.1 0 0 (by decide) zd_LG_startAnew_53 ?_
    refine zg_putI0 F.1 (by decide) rfl 7 (by decide) (Or.inr (Or.inr (Or.inl rfl))) .int (by decide) rfl rfl rfl zwf_LG_252 zd_LG_startAnew_54 ?_
    refine zg_aload_n F.1 zd_LG_startAnew_57 rfl rfl ?_
    refine zg_iconst F.1 0 0 (by decide) zd_LG_startAnew_58 ?_
    refine zg_putI0 F.1 (by decide) rfl 8 (by decide) (Or.inr (Or.inr (Or.inr (Or.inl rfl)))) .int (by decide) rfl rfl rfl zwf_LG_80 zd_LG_startAnew_59 ?_
    refine zg_aload_n F.1 zd_LG_startAnew_62 rfl rfl ?_
    refine zg_iconst F.1 0 0 (by decide) zd_LG_startAnew_63 ?_
    refine zg_putI0 F.1 (by decide) rfl 9 (by decide) (Or.inr (Or.inr (Or.inr (Or.inr (Or.inl rfl))))) .int (by decide) rfl rfl rfl zwf_LG_238 zd_LG_startAnew_64 ?_
    refine zg_aload_n F.1 zd_LG_startAnew_67 rfl rfl ?_
    refine zg_iconst F.1 0 0 (by decide) zd_LG_startAnew_68 ?_
    refine zg_putI0 F.1 (by decide) rfl 10 (by decide) (Or.inr (Or.inr (Or.inr (Or.inr (Or.inr (Or.inl rfl)))))) .int (by decide) rfl rfl rfl zwf_LG_241 zd_LG_startAnew_69 ?_
    refine zg_aload_n F.1 zd_LG_startAnew_72 rfl rfl ?_
    refine zg_iconst F.1 0 0 (by decide) zd_LG_startAnew_73 ?_
    refine zg_putI0 F.1 (by decide) rfl 11 (by decide) (Or.inr (Or.inr (Or.inr (Or.inr (Or.inr (Or.inr rfl)))))) .int (by decide) rfl rfl rfl zwf_LG_244 zd_LG_startAnew_74 ?_
    cases h
    exact zg_vret F zd_LG_startAnew_77
  · rw [if_neg hc] at h
    refine zg_aload_n F.1 zd_LG_startAnew_18 rfl rfl ?_
    refine zg_getR0 F.1 (by decide) rfl 1 (by decide) 4 rfl zwf_LG_18 zd_LG_startAnew_19 ?_
    refine zg_iload F.1 zd_LG_startAnew_22 rfl ?_
    by_cases hi24 : l4 < 0 ∨ 4 ≤ l4.toNatClampNeg
    case pos => rw [if_pos hi24] at h; cases h
    rw [if_neg hi24] at h
    refine zg_ald6 F.1 (by decide) rfl hi24 l4.toNatClampNeg rfl zd_LG_startAnew_24 ?_
    obtain ⟨t25, hc25, h⟩ := Option.bind_eq_some_iff.mp h
    refine zg_callV F (As := []) (rest := []) (zk_Ca_startAnew F.1.2.2 N (5 + l4.toNatClampNeg) st (zw_carI hi24) hc25) rfl rfl zcal_Ca_startAnew zml_LG_250 ⟨(Nat.le_of_ble_eq_true rfl), (Nat.le_of_ble_eq_true rfl)⟩ (zg_rec2 F.1 (by decide) (zw_carI hi24)) rfl (Nat.le_of_ble_eq_true rfl) ⟨(Nat.le_of_ble_eq_true rfl), (Nat.le_of_ble_eq_true rfl)⟩ zd_LG_startAnew_25 ?_
    refine zg_iinc F.1 (l4 + 1) [some (.ref 0), none, some (.int l2), none, some (.int (l4 + 1))] zd_LG_startAnew_28 rfl (by rw [lit1]) (by decide) rfl ?_
    refine zg_goto F.1 12 zd_LG_startAnew_31 rfl ?_
    exact hr12 l2 (l4 + 1) t25 h
def zf_LG_startAnew_12 (N : Nat)  : Nat → Int32 → Int32 → zS → Option zS
  | 0, _, _, _ => none
  | n + 1, l2, l4, st => zb_LG_startAnew_12 N  (zf_LG_startAnew_12 N  n) l2 l4 st
theorem zl_LG_startAnew_12 (F : zw_X p m c zo_LG_startAnew 5 s args zR0 E 10 A meth none) {N : Nat} {rst : zS}   : ∀ (n : Nat) (l2 : Int32) (l4 : Int32) (st : zS)  (h : zf_LG_startAnew_12 N  n l2 l4 st = some rst), zw_G p l e zrm_LG_startAnew s m args below meth c (MQ below (zw_Q E none rst A) args s 0 0 A) E A 5 0 12 [some (.ref 0), none, some (.int l2), none, some (.int l4)] [] st := by
  intro n
  induction n with
  | zero => intro l2 l4 st  h; cases h
  | succ n ih => intro l2 l4 st  h; exact zlb_LG_startAnew_12 F  ih l2 l4 st  h
def zf_LG_startAnew (N : Nat) (a1 : Int32) (a2 : Int32) (a3 : Int32) (st : zS) : Option zS := ((zf_Ho_startAnew N a1 a3 st).bind fun t6 => zf_LG_startAnew_12 N N a2 0 t6)
set_option maxHeartbeats 4000000 in
theorem zl_LG_startAnew_0 (F : zw_X p m c zo_LG_startAnew 5 s args zR0 E 10 A meth none) {N : Nat} {rst : zS} (a1 : Int32) (a2 : Int32) (a3 : Int32) (st : zS)  (h : zf_LG_startAnew N a1 a2 a3 st = some rst) : zw_G p l e zrm_LG_startAnew s m args below meth c (MQ below (zw_Q E none rst A) args s 0 0 A) E A 5 0 0 [some (.ref 0), some (.int a1), some (.int a2), some (.int a3), none] [] st := by
  unfold zf_LG_startAnew at h
  refine zg_aload_n F.1 zd_LG_startAnew_0 rfl rfl ?_
  refine zg_getR0 F.1 (by decide) rfl 0 (by decide) 1 rfl zwf_LG_10 zd_LG_startAnew_1 ?_
  refine zg_iload_n F.1 zd_LG_startAnew_4 rfl rfl ?_
  refine zg_iload_n F.1 zd_LG_startAnew_5 rfl rfl ?_
  obtain ⟨t6, hc6, h⟩ := Option.bind_eq_some_iff.mp h
  refine zg_callV F (As := [.int a1, .int a3]) (rest := []) (zk_Ho_startAnew F.1.2.2 N a1 a3 st hc6) rfl rfl zcal_Ho_startAnew zml_LG_247 ⟨(Nat.le_of_ble_eq_true rfl), (Nat.le_of_ble_eq_true rfl)⟩ (zg_rec1 F.1 (by decide) rfl) rfl (Nat.le_of_ble_eq_true rfl) ⟨(Nat.le_of_ble_eq_true rfl), (Nat.le_of_ble_eq_true rfl)⟩ zd_LG_startAnew_6 ?_
  refine zg_iconst F.1 0 0 (by decide) zd_LG_startAnew_9 ?_
  refine zg_istore F.1 [some (.ref 0), some (.int a1), some (.int a2), some (.int a3), some (.int 0)] zd_LG_startAnew_10 (by decide) rfl ?_
  exact zg_le (zw_les (zw_len (zw_les (zw_len (zw_les zw_le0))))) (zl_LG_startAnew_12 F N a2 0 t6 h)
theorem zk_LG_startAnew {E : zE} (hn : zw_n E 10) (N : Nat) (a1 : Int32) (a2 : Int32) (a3 : Int32) (st : zS)  {rst : zS} (h : zf_LG_startAnew N a1 a2 a3 st = some rst) : zw_M l zy_LG_startAnew (Cond.code zy_LG_startAnew zo_LG_startAnew 5 none :: zwAll) zrm_LG_startAnew E [.ref 0, .int a1, .int a2, .int a3] st none rst :=
  zw_enter (by decide) rfl hn (Nat.le_of_ble_eq_true rfl) (by simp [Value.category]) 1 (fun p e s m args below meth c A F => zl_LG_startAnew_0 F a1 a2 a3 st  h)
set_option maxRecDepth 100000 in
theorem zwf_LG_262 : Cond.fieldLink zR0 262 (zT1 2).1 (zT1 2).2.1 (zT1 2).2.2.1 ∈ zwAll := zw_at 83 rfl rfl
abbrev zrm_LG_isFloor : Room := { frames := 0, cells := 0, slots := 0, locals := 0 }
def zf_LG_isFloor_20 (N : Nat)  (s0 : Int32) (st : zS) : Option (Int32 × zS) := (if s0 = 0 ∨ s0 = 1 then some (s0, st) else none)
set_option maxHeartbeats 4000000 in
theorem zl_LG_isFloor_20 (F : zw_X p m c zo_LG_isFloor 2 s args zR0 E 10 A meth (some .boolean)) {N : Nat} {rv : Int32} {rst : zS}   (s0 : Int32) (st : zS)  (h : zf_LG_isFloor_20 N  s0 st = some (rv, rst)) : zw_G p l e zrm_LG_isFloor s m args below meth c (MQ below (zw_Q E (some (.int rv)) rst A) args s 0 0 A) E A 2 0 20 [none, none] [.int s0] st := by
  unfold zf_LG_isFloor_20 at h
  by_cases hb20 : s0 = 0 ∨ s0 = 1
  case neg => rw [if_neg hb20] at h; cases h
  rw [if_pos hb20] at h
  cases h
  exact zg_zret F hb20 zd_LG_isFloor_20
def zf_LG_isFloor_19 (N : Nat)   (st : zS) : Option (Int32 × zS) := zf_LG_isFloor_20 N 0 st
set_option maxHeartbeats 4000000 in
theorem zl_LG_isFloor_19 (F : zw_X p m c zo_LG_isFloor 2 s args zR0 E 10 A meth (some .boolean)) {N : Nat} {rv : Int32} {rst : zS}    (st : zS)  (h : zf_LG_isFloor_19 N   st = some (rv, rst)) : zw_G p l e zrm_LG_isFloor s m args below meth c (MQ below (zw_Q E (some (.int rv)) rst A) args s 0 0 A) E A 2 0 19 [none, none] [] st := by
  unfold zf_LG_isFloor_19 at h
  refine zg_iconst F.1 0 0 (by decide) zd_LG_isFloor_19 ?_
  exact zl_LG_isFloor_20 F 0 st h
def zf_LG_isFloor (N : Nat) (a1 : Int32) (st : zS) : Option (Int32 × zS) := (if a1 < 0 then zf_LG_isFloor_19 N st else (if (st 1 2) ≤ a1 then zf_LG_isFloor_19 N st else zf_LG_isFloor_20 N 1 st))
set_option maxHeartbeats 4000000 in
theorem zl_LG_isFloor_0 (F : zw_X p m c zo_LG_isFloor 2 s args zR0 E 10 A meth (some .boolean)) {N : Nat} {rv : Int32} {rst : zS} (a1 : Int32) (st : zS)  (h : zf_LG_isFloor N a1 st = some (rv, rst)) : zw_G p l e zrm_LG_isFloor s m args below meth c (MQ below (zw_Q E (some (.int rv)) rst A) args s 0 0 A) E A 2 0 0 [some (.ref 0), some (.int a1)] [] st := by
  unfold zf_LG_isFloor at h
  refine zg_iload_n F.1 zd_LG_isFloor_0 rfl rfl ?_
  refine zg_if_lt F.1 19 zd_LG_isFloor_1 rfl (fun hc => ?_) (fun hc => ?_)
  · rw [if_pos hc] at h
    exact zg_le (zw_len (zw_len zw_le0)) (zl_LG_isFloor_19 F st h)
  · rw [if_neg hc] at h
    refine zg_iload_n F.1 zd_LG_isFloor_4 rfl rfl ?_
    refine zg_aload_n F.1 zd_LG_isFloor_5 rfl rfl ?_
    refine zg_getR0 F.1 (by decide) rfl 0 (by decide) 1 rfl zwf_LG_10 zd_LG_isFloor_6 ?_
    refine zg_getI1 F.1 (by decide) rfl 2 (by decide) (st 1 2) rfl rfl zwf_LG_262 zd_LG_isFloor_9 ?_
    refine zg_icmp_ge F.1 19 zd_LG_isFloor_12 rfl (fun hc => ?_) (fun hc => ?_)
    · rw [if_pos hc] at h
      exact zg_le (zw_len (zw_len zw_le0)) (zl_LG_isFloor_19 F st h)
    · rw [if_neg hc] at h
      refine zg_iconst F.1 1 1 (by decide) zd_LG_isFloor_15 ?_
      refine zg_goto F.1 20 zd_LG_isFloor_16 rfl ?_
      exact zg_le (zw_len (zw_len zw_le0)) (zl_LG_isFloor_20 F 1 st h)
theorem zk_LG_isFloor {E : zE} (hn : zw_n E 10) (N : Nat) (a1 : Int32) (st : zS)  {rv : Int32} {rst : zS} (h : zf_LG_isFloor N a1 st = some (rv, rst)) : zw_M l zy_LG_isFloor (Cond.code zy_LG_isFloor zo_LG_isFloor 2 (some .boolean) :: zwAll) zrm_LG_isFloor E [.ref 0, .int a1] st (some (.int rv)) rst :=
  zw_enter (by decide) rfl hn (Nat.le_of_ble_eq_true rfl) (by simp [Value.category]) 0 (fun p e s m args below meth c A F => zl_LG_isFloor_0 F a1 st  h)
set_option maxRecDepth 100000 in
theorem zwf_LG_119 : Cond.fieldLink zR0 119 (zT2 5).1 (zT2 5).2.1 (zT2 5).2.2.1 ∈ zwAll := zw_at 118 rfl rfl
set_option maxRecDepth 100000 in
theorem zwf_LG_101 : Cond.fieldLink zR0 101 (zT2 6).1 (zT2 6).2.1 (zT2 6).2.2.1 ∈ zwAll := zw_at 120 rfl rfl
set_option maxRecDepth 100000 in
theorem zwf_LG_132 : Cond.fieldLink zR0 132 (zT1 4).1 (zT1 4).2.1 (zT1 4).2.2.1 ∈ zwAll := zw_at 88 rfl rfl
abbrev zrm_LG_isUsable : Room := { frames := 0, cells := 0, slots := 0, locals := 0 }
def zf_LG_isUsable_29 (N : Nat)  (s0 : Int32) (st : zS) : Option (Int32 × zS) := (if s0 = 0 ∨ s0 = 1 then some (s0, st) else none)
set_option maxHeartbeats 4000000 in
theorem zl_LG_isUsable_29 (F : zw_X p m c zo_LG_isUsable 2 s args zR0 E 10 A meth (some .boolean)) {N : Nat} {rv : Int32} {rst : zS}   (s0 : Int32) (st : zS)  (h : zf_LG_isUsable_29 N  s0 st = some (rv, rst)) : zw_G p l e zrm_LG_isUsable s m args below meth c (MQ below (zw_Q E (some (.int rv)) rst A) args s 0 0 A) E A 2 0 29 [none, none] [.int s0] st := by
  unfold zf_LG_isUsable_29 at h
  by_cases hb29 : s0 = 0 ∨ s0 = 1
  case neg => rw [if_neg hb29] at h; cases h
  rw [if_pos hb29] at h
  cases h
  exact zg_zret F hb29 zd_LG_isUsable_29
def zf_LG_isUsable_28 (N : Nat)   (st : zS) : Option (Int32 × zS) := zf_LG_isUsable_29 N 0 st
set_option maxHeartbeats 4000000 in
theorem zl_LG_isUsable_28 (F : zw_X p m c zo_LG_isUsable 2 s args zR0 E 10 A meth (some .boolean)) {N : Nat} {rv : Int32} {rst : zS}    (st : zS)  (h : zf_LG_isUsable_28 N   st = some (rv, rst)) : zw_G p l e zrm_LG_isUsable s m args below meth c (MQ below (zw_Q E (some (.int rv)) rst A) args s 0 0 A) E A 2 0 28 [none, none] [] st := by
  unfold zf_LG_isUsable_28 at h
  refine zg_iconst F.1 0 0 (by decide) zd_LG_isUsable_28 ?_
  exact zl_LG_isUsable_29 F 0 st h
def zf_LG_isUsable (N : Nat) (a1 : Nat) (st : zS) : Option (Int32 × zS) := (if (st a1 5) = 0 then (if (st a1 6) = 0 then (if (st 1 4) = 0 then zf_LG_isUsable_29 N 1 st else zf_LG_isUsable_28 N st) else zf_LG_isUsable_28 N st) else zf_LG_isUsable_28 N st)
set_option maxHeartbeats 4000000 in
theorem zl_LG_isUsable_0 (F : zw_X p m c zo_LG_isUsable 2 s args zR0 E 10 A meth (some .boolean)) {N : Nat} {rv : Int32} {rst : zS} (a1 : Nat) (st : zS) (k1 : zw_kind a1 = 2) (h : zf_LG_isUsable N a1 st = some (rv, rst)) : zw_G p l e zrm_LG_isUsable s m args below meth c (MQ below (zw_Q E (some (.int rv)) rst A) args s 0 0 A) E A 2 0 0 [some (.ref 0), some (.ref a1)] [] st := by
  unfold zf_LG_isUsable at h
  refine zg_aload_n F.1 zd_LG_isUsable_0 rfl rfl ?_
  refine zg_getI2 F.1 (by decide) k1 5 (by decide) (st a1 5) rfl rfl zwf_LG_119 zd_LG_isUsable_1 ?_
  refine zg_if_ne F.1 28 zd_LG_isUsable_4 rfl (fun hc => ?_) (fun hc => ?_)
  · rw [if_neg hc] at h
    exact zg_le (zw_len (zw_len zw_le0)) (zl_LG_isUsable_28 F st h)
  · rw [if_pos hc] at h
    refine zg_aload_n F.1 zd_LG_isUsable_7 rfl rfl ?_
    refine zg_getI2 F.1 (by decide) k1 6 (by decide) (st a1 6) rfl rfl zwf_LG_101 zd_LG_isUsable_8 ?_
    refine zg_if_ne F.1 28 zd_LG_isUsable_11 rfl (fun hc => ?_) (fun hc => ?_)
    · rw [if_neg hc] at h
      exact zg_le (zw_len (zw_len zw_le0)) (zl_LG_isUsable_28 F st h)
    · rw [if_pos hc] at h
      refine zg_aload_n F.1 zd_LG_isUsable_14 rfl rfl ?_
      refine zg_getR0 F.1 (by decide) rfl 0 (by decide) 1 rfl zwf_LG_10 zd_LG_isUsable_15 ?_
      refine zg_getI1 F.1 (by decide) rfl 4 (by decide) (st 1 4) rfl rfl zwf_LG_132 zd_LG_isUsable_18 ?_
      refine zg_if_ne F.1 28 zd_LG_isUsable_21 rfl (fun hc => ?_) (fun hc => ?_)
      · rw [if_neg hc] at h
        exact zg_le (zw_len (zw_len zw_le0)) (zl_LG_isUsable_28 F st h)
      · rw [if_pos hc] at h
        refine zg_iconst F.1 1 1 (by decide) zd_LG_isUsable_24 ?_
        refine zg_goto F.1 29 zd_LG_isUsable_25 rfl ?_
        exact zg_le (zw_len (zw_len zw_le0)) (zl_LG_isUsable_29 F 1 st h)
theorem zk_LG_isUsable {E : zE} (hn : zw_n E 10) (N : Nat) (a1 : Nat) (st : zS) (k1 : zw_kind a1 = 2) {rv : Int32} {rst : zS} (h : zf_LG_isUsable N a1 st = some (rv, rst)) : zw_M l zy_LG_isUsable (Cond.code zy_LG_isUsable zo_LG_isUsable 2 (some .boolean) :: zwAll) zrm_LG_isUsable E [.ref 0, .ref a1] st (some (.int rv)) rst :=
  zw_enter (by decide) rfl hn (Nat.le_of_ble_eq_true rfl) (by simp [Value.category]) 0 (fun p e s m args below meth c A F => zl_LG_isUsable_0 F a1 st k1 h)
set_option maxRecDepth 100000 in
theorem zcal_LG_isUsable : zw_cal zR0 zy_LG_isUsable zo_LG_isUsable 2 (some .boolean) 1 := ⟨zw_at 298 rfl rfl, zw_at 7 rfl rfl, zw_at 47 rfl rfl, zw_at 299 rfl rfl, rfl, by decide, by decide, by decide +kernel⟩
set_option maxRecDepth 100000 in
theorem zml_LG_265 : Cond.methodLink zR0 265 zy_LG_isUsable ∈ zwAll := zw_at 296 rfl rfl
abbrev zrm_LG_anyUsable : Room := { frames := 1, cells := 0, slots := 0, locals := 21 }
def zb_LG_anyUsable_2 (N : Nat) (r2 : Int32 → zS → Option (Int32 × zS)) (l1 : Int32) (st : zS) : Option (Int32 × zS) := (if (st 0 5) ≤ l1 then some (0, st) else (if l1 < 0 ∨ 4 ≤ l1.toNatClampNeg then none else ((zf_LG_isUsable N (5 + l1.toNatClampNeg) st).bind fun y17 => (if y17.1 = 0 then r2 (l1 + 1) y17.2 else some (1, y17.2)))))
set_option maxHeartbeats 4000000 in
theorem zlb_LG_anyUsable_2 (F : zw_X p m c zo_LG_anyUsable 2 s args zR0 E 10 A meth (some .boolean)) {N : Nat} {rv : Int32} {rst : zS} {r2 : Int32 → zS → Option (Int32 × zS)} (hr2 : ∀ (l1 : Int32) (st : zS) , r2 l1 st = some (rv, rst) → zw_G p l e zrm_LG_anyUsable s m args below meth c (MQ below (zw_Q E (some (.int rv)) rst A) args s 0 0 A) E A 2 0 2 [some (.ref 0), some (.int l1)] [] st) (l1 : Int32) (st : zS)  (h : zb_LG_anyUsable_2 N r2 l1 st = some (rv, rst)) : zw_G p l e zrm_LG_anyUsable s m args below meth c (MQ below (zw_Q E (some (.int rv)) rst A) args s 0 0 A) E A 2 0 2 [some (.ref 0), some (.int l1)] [] st := by
  unfold zb_LG_anyUsable_2 at h
  refine zg_iload_n F.1 zd_LG_anyUsable_2 rfl rfl ?_
  refine zg_aload_n F.1 zd_LG_anyUsable_3 rfl rfl ?_
  refine zg_getI0 F.1 (by decide) rfl 5 (by decide) (st 0 5) rfl rfl zwf_LG_98 zd_LG_anyUsable_4 ?_
  refine zg_icmp_ge F.1 31 zd_LG_anyUsable_7 rfl (fun hc => ?_) (fun hc => ?_)
  · rw [if_pos hc] at h
    refine zg_iconst F.1 0 0 (by decide) zd_LG_anyUsable_31 ?_
    cases h
    exact zg_zret F (by decide) zd_LG_anyUsable_32
  · rw [if_neg hc] at h
    refine zg_aload_n F.1 zd_LG_anyUsable_10 rfl rfl ?_
    refine zg_aload_n F.1 zd_LG_anyUsable_11 rfl rfl ?_
    refine zg_getR0 F.1 (by decide) rfl 1 (by decide) 4 rfl zwf_LG_18 zd_LG_anyUsable_12 ?_
    refine zg_iload_n F.1 zd_LG_anyUsable_15 rfl rfl ?_
    by_cases hi16 : l1 < 0 ∨ 4 ≤ l1.toNatClampNeg
    case pos => rw [if_pos hi16] at h; cases h
    rw [if_neg hi16] at h
    refine zg_ald6 F.1 (by decide) rfl hi16 l1.toNatClampNeg rfl zd_LG_anyUsable_16 ?_
    obtain ⟨y17, hc17, h⟩ := Option.bind_eq_some_iff.mp h
    refine zg_callV F (As := [.ref (5 + l1.toNatClampNeg)]) (rest := []) (zk_LG_isUsable F.1.2.2 N (5 + l1.toNatClampNeg) st (zw_carI hi16) hc17) rfl rfl zcal_LG_isUsable zml_LG_265 ⟨(Nat.le_of_ble_eq_true rfl), (Nat.le_of_ble_eq_true rfl)⟩ (zg_rec0 F.1 (by decide) rfl) rfl (Nat.le_of_ble_eq_true rfl) ⟨(Nat.le_of_ble_eq_true rfl), (Nat.le_of_ble_eq_true rfl)⟩ zd_LG_anyUsable_17 ?_
    refine zg_if_eq F.1 25 zd_LG_anyUsable_20 rfl (fun hc => ?_) (fun hc => ?_)
    · rw [if_pos hc] at h
      refine zg_iinc F.1 (l1 + 1) [some (.ref 0), some (.int (l1 + 1))] zd_LG_anyUsable_25 rfl (by rw [lit1]) (by decide) rfl ?_
      refine zg_goto F.1 2 zd_LG_anyUsable_28 rfl ?_
      exact hr2 (l1 + 1) y17.2 h
    · rw [if_neg hc] at h
      refine zg_iconst F.1 1 1 (by decide) zd_LG_anyUsable_23 ?_
      cases h
      exact zg_zret F (by decide) zd_LG_anyUsable_24
def zf_LG_anyUsable_2 (N : Nat)  : Nat → Int32 → zS → Option (Int32 × zS)
  | 0, _, _ => none
  | n + 1, l1, st => zb_LG_anyUsable_2 N  (zf_LG_anyUsable_2 N  n) l1 st
theorem zl_LG_anyUsable_2 (F : zw_X p m c zo_LG_anyUsable 2 s args zR0 E 10 A meth (some .boolean)) {N : Nat} {rv : Int32} {rst : zS}   : ∀ (n : Nat) (l1 : Int32) (st : zS)  (h : zf_LG_anyUsable_2 N  n l1 st = some (rv, rst)), zw_G p l e zrm_LG_anyUsable s m args below meth c (MQ below (zw_Q E (some (.int rv)) rst A) args s 0 0 A) E A 2 0 2 [some (.ref 0), some (.int l1)] [] st := by
  intro n
  induction n with
  | zero => intro l1 st  h; cases h
  | succ n ih => intro l1 st  h; exact zlb_LG_anyUsable_2 F  ih l1 st  h
def zf_LG_anyUsable (N : Nat)  (st : zS) : Option (Int32 × zS) := zf_LG_anyUsable_2 N N 0 st
set_option maxHeartbeats 4000000 in
theorem zl_LG_anyUsable_0 (F : zw_X p m c zo_LG_anyUsable 2 s args zR0 E 10 A meth (some .boolean)) {N : Nat} {rv : Int32} {rst : zS}  (st : zS)  (h : zf_LG_anyUsable N  st = some (rv, rst)) : zw_G p l e zrm_LG_anyUsable s m args below meth c (MQ below (zw_Q E (some (.int rv)) rst A) args s 0 0 A) E A 2 0 0 [some (.ref 0), none] [] st := by
  unfold zf_LG_anyUsable at h
  refine zg_iconst F.1 0 0 (by decide) zd_LG_anyUsable_0 ?_
  refine zg_istore_n F.1 [some (.ref 0), some (.int 0)] zd_LG_anyUsable_1 rfl (by decide) rfl ?_
  exact zl_LG_anyUsable_2 F N 0 st h
theorem zk_LG_anyUsable {E : zE} (hn : zw_n E 10) (N : Nat)  (st : zS)  {rv : Int32} {rst : zS} (h : zf_LG_anyUsable N  st = some (rv, rst)) : zw_M l zy_LG_anyUsable (Cond.code zy_LG_anyUsable zo_LG_anyUsable 2 (some .boolean) :: zwAll) zrm_LG_anyUsable E [.ref 0] st (some (.int rv)) rst :=
  zw_enter (by decide) rfl hn (Nat.le_of_ble_eq_true rfl) (by simp [Value.category]) 1 (fun p e s m args below meth c A F => zl_LG_anyUsable_0 F  st  h)
set_option maxRecDepth 100000 in
theorem zwf_LG_269 : Cond.fieldLink zR0 269 (zT2 9).1 (zT2 9).2.1 (zT2 9).2.2.1 ∈ zwAll := zw_at 126 rfl rfl
abbrev zrm_LG_takeWaitingFor : Room := { frames := 0, cells := 0, slots := 0, locals := 0 }
def zf_LG_takeWaitingFor (N : Nat) (a1 : Nat) (st : zS) : Option (Int32 × zS) := some ((st a1 9), (zp st a1 9 0))
set_option maxHeartbeats 4000000 in
theorem zl_LG_takeWaitingFor_0 (F : zw_X p m c zo_LG_takeWaitingFor 3 s args zR0 E 10 A meth (some .int)) {N : Nat} {rv : Int32} {rst : zS} (a1 : Nat) (st : zS) (k1 : zw_kind a1 = 2) (h : zf_LG_takeWaitingFor N a1 st = some (rv, rst)) : zw_G p l e zrm_LG_takeWaitingFor s m args below meth c (MQ below (zw_Q E (some (.int rv)) rst A) args s 0 0 A) E A 3 0 0 [some (.ref 0), some (.ref a1), none] [] st := by
  unfold zf_LG_takeWaitingFor at h
  refine zg_aload_n F.1 zd_LG_takeWaitingFor_0 rfl rfl ?_
  refine zg_getI2 F.1 (by decide) k1 9 (by decide) (st a1 9) rfl rfl zwf_LG_269 zd_LG_takeWaitingFor_1 ?_
  refine zg_istore_n F.1 [some (.ref 0), some (.ref a1), some (.int (st a1 9))] zd_LG_takeWaitingFor_4 rfl (by decide) rfl ?_
  refine zg_aload_n F.1 zd_LG_takeWaitingFor_5 rfl rfl ?_
  refine zg_iconst F.1 0 0 (by decide) zd_LG_takeWaitingFor_6 ?_
  refine zg_putI2 F.1 (by decide) k1 9 (by decide) (Or.inr (Or.inr (Or.inr (Or.inr (Or.inr (Or.inr (Or.inr (Or.inr (Or.inr (Or.inl rfl)))))))))) .int (by decide) rfl rfl rfl zwf_LG_269 zd_LG_takeWaitingFor_7 ?_
  refine zg_iload_n F.1 zd_LG_takeWaitingFor_10 rfl rfl ?_
  cases h
  exact zg_iret F zd_LG_takeWaitingFor_11
theorem zk_LG_takeWaitingFor {E : zE} (hn : zw_n E 10) (N : Nat) (a1 : Nat) (st : zS) (k1 : zw_kind a1 = 2) {rv : Int32} {rst : zS} (h : zf_LG_takeWaitingFor N a1 st = some (rv, rst)) : zw_M l zy_LG_takeWaitingFor (Cond.code zy_LG_takeWaitingFor zo_LG_takeWaitingFor 3 (some .int) :: zwAll) zrm_LG_takeWaitingFor E [.ref 0, .ref a1] st (some (.int rv)) rst :=
  zw_enter (by decide) rfl hn (Nat.le_of_ble_eq_true rfl) (by simp [Value.category]) 1 (fun p e s m args below meth c A F => zl_LG_takeWaitingFor_0 F a1 st k1 h)
abbrev zrm_LG_takeWaitingForNone : Room := { frames := 0, cells := 0, slots := 0, locals := 0 }
def zf_LG_takeWaitingForNone (N : Nat)  (st : zS) : Option (Int32 × zS) := some ((st 0 7), (zp st 0 7 0))
set_option maxHeartbeats 4000000 in
theorem zl_LG_takeWaitingForNone_0 (F : zw_X p m c zo_LG_takeWaitingForNone 2 s args zR0 E 10 A meth (some .int)) {N : Nat} {rv : Int32} {rst : zS}  (st : zS)  (h : zf_LG_takeWaitingForNone N  st = some (rv, rst)) : zw_G p l e zrm_LG_takeWaitingForNone s m args below meth c (MQ below (zw_Q E (some (.int rv)) rst A) args s 0 0 A) E A 2 0 0 [some (.ref 0), none] [] st := by
  unfold zf_LG_takeWaitingForNone at h
  refine zg_aload_n F.1 zd_LG_takeWaitingForNone_0 rfl rfl ?_
  refine zg_getI0 F.1 (by decide) rfl 7 (by decide) (st 0 7) rfl rfl zwf_LG_252 zd_LG_takeWaitingForNone_1 ?_
  refine zg_istore_n F.1 [some (.ref 0), some (.int (st 0 7))] zd_LG_takeWaitingForNone_4 rfl (by decide) rfl ?_
  refine zg_aload_n F.1 zd_LG_takeWaitingForNone_5 rfl rfl ?_
  refine zg_iconst F.1 0 0 (by decide) zd_LG_takeWaitingForNone_6 ?_
  refine zg_putI0 F.1 (by decide) rfl 7 (by decide) (Or.inr (Or.inr (Or.inl rfl))) .int (by decide) rfl rfl rfl zwf_LG_252 zd_LG_takeWaitingForNone_7 ?_
  refine zg_iload_n F.1 zd_LG_takeWaitingForNone_10 rfl rfl ?_
  cases h
  exact zg_iret F zd_LG_takeWaitingForNone_11
theorem zk_LG_takeWaitingForNone {E : zE} (hn : zw_n E 10) (N : Nat)  (st : zS)  {rv : Int32} {rst : zS} (h : zf_LG_takeWaitingForNone N  st = some (rv, rst)) : zw_M l zy_LG_takeWaitingForNone (Cond.code zy_LG_takeWaitingForNone zo_LG_takeWaitingForNone 2 (some .int) :: zwAll) zrm_LG_takeWaitingForNone E [.ref 0] st (some (.int rv)) rst :=
  zw_enter (by decide) rfl hn (Nat.le_of_ble_eq_true rfl) (by simp [Value.category]) 1 (fun p e s m args below meth c A F => zl_LG_takeWaitingForNone_0 F  st  h)
set_option maxRecDepth 100000 in
theorem zcal_LG_takeWaitingForNone : zw_cal zR0 zy_LG_takeWaitingForNone zo_LG_takeWaitingForNone 2 (some .int) 0 := ⟨zw_at 286 rfl rfl, zw_at 4 rfl rfl, zw_at 47 rfl rfl, zw_at 287 rfl rfl, rfl, by decide, by decide, by decide +kernel⟩
set_option maxRecDepth 100000 in
theorem zml_LG_138 : Cond.methodLink zR0 138 zy_LG_takeWaitingForNone ∈ zwAll := zw_at 284 rfl rfl
abbrev zrm_LG_takeWaitingForNoneIfUsable : Room := { frames := 1, cells := 0, slots := 0, locals := 21 }
def zf_LG_takeWaitingForNoneIfUsable_16 (N : Nat)  (s0 : Int32) (st : zS) : Option (Int32 × zS) := some (s0, st)
set_option maxHeartbeats 4000000 in
theorem zl_LG_takeWaitingForNoneIfUsable_16 (F : zw_X p m c zo_LG_takeWaitingForNoneIfUsable 2 s args zR0 E 10 A meth (some .int)) {N : Nat} {rv : Int32} {rst : zS}   (s0 : Int32) (st : zS)  (h : zf_LG_takeWaitingForNoneIfUsable_16 N  s0 st = some (rv, rst)) : zw_G p l e zrm_LG_takeWaitingForNoneIfUsable s m args below meth c (MQ below (zw_Q E (some (.int rv)) rst A) args s 0 0 A) E A 2 0 16 [none, none] [.int s0] st := by
  unfold zf_LG_takeWaitingForNoneIfUsable_16 at h
  cases h
  exact zg_iret F zd_LG_takeWaitingForNoneIfUsable_16
def zf_LG_takeWaitingForNoneIfUsable (N : Nat) (a1 : Nat) (st : zS) : Option (Int32 × zS) := ((zf_LG_isUsable N a1 st).bind fun y2 => (if y2.1 = 0 then zf_LG_takeWaitingForNoneIfUsable_16 N 0 y2.2 else ((zf_LG_takeWaitingForNone N y2.2).bind fun y9 => zf_LG_takeWaitingForNoneIfUsable_16 N y9.1 y9.2)))
set_option maxHeartbeats 4000000 in
theorem zl_LG_takeWaitingForNoneIfUsable_0 (F : zw_X p m c zo_LG_takeWaitingForNoneIfUsable 2 s args zR0 E 10 A meth (some .int)) {N : Nat} {rv : Int32} {rst : zS} (a1 : Nat) (st : zS) (k1 : zw_kind a1 = 2) (h : zf_LG_takeWaitingForNoneIfUsable N a1 st = some (rv, rst)) : zw_G p l e zrm_LG_takeWaitingForNoneIfUsable s m args below meth c (MQ below (zw_Q E (some (.int rv)) rst A) args s 0 0 A) E A 2 0 0 [some (.ref 0), some (.ref a1)] [] st := by
  unfold zf_LG_takeWaitingForNoneIfUsable at h
  refine zg_aload_n F.1 zd_LG_takeWaitingForNoneIfUsable_0 rfl rfl ?_
  refine zg_aload_n F.1 zd_LG_takeWaitingForNoneIfUsable_1 rfl rfl ?_
  obtain ⟨y2, hc2, h⟩ := Option.bind_eq_some_iff.mp h
  refine zg_callV F (As := [.ref a1]) (rest := []) (zk_LG_isUsable F.1.2.2 N a1 st k1 hc2) rfl rfl zcal_LG_isUsable zml_LG_265 ⟨(Nat.le_of_ble_eq_true rfl), (Nat.le_of_ble_eq_true rfl)⟩ (zg_rec0 F.1 (by decide) rfl) rfl (Nat.le_of_ble_eq_true rfl) ⟨(Nat.le_of_ble_eq_true rfl), (Nat.le_of_ble_eq_true rfl)⟩ zd_LG_takeWaitingForNoneIfUsable_2 ?_
  refine zg_if_eq F.1 15 zd_LG_takeWaitingForNoneIfUsable_5 rfl (fun hc => ?_) (fun hc => ?_)
  · rw [if_pos hc] at h
    refine zg_iconst F.1 0 0 (by decide) zd_LG_takeWaitingForNoneIfUsable_15 ?_
    exact zg_le (zw_len (zw_len zw_le0)) (zl_LG_takeWaitingForNoneIfUsable_16 F 0 y2.2 h)
  · rw [if_neg hc] at h
    refine zg_aload_n F.1 zd_LG_takeWaitingForNoneIfUsable_8 rfl rfl ?_
    obtain ⟨y9, hc9, h⟩ := Option.bind_eq_some_iff.mp h
    refine zg_callV F (As := []) (rest := []) (zk_LG_takeWaitingForNone F.1.2.2 N y2.2 hc9) rfl rfl zcal_LG_takeWaitingForNone zml_LG_138 ⟨(Nat.le_of_ble_eq_true rfl), (Nat.le_of_ble_eq_true rfl)⟩ (zg_rec0 F.1 (by decide) rfl) rfl (Nat.le_of_ble_eq_true rfl) ⟨(Nat.le_of_ble_eq_true rfl), (Nat.le_of_ble_eq_true rfl)⟩ zd_LG_takeWaitingForNoneIfUsable_9 ?_
    refine zg_goto F.1 16 zd_LG_takeWaitingForNoneIfUsable_12 rfl ?_
    exact zg_le (zw_len (zw_len zw_le0)) (zl_LG_takeWaitingForNoneIfUsable_16 F y9.1 y9.2 h)
theorem zk_LG_takeWaitingForNoneIfUsable {E : zE} (hn : zw_n E 10) (N : Nat) (a1 : Nat) (st : zS) (k1 : zw_kind a1 = 2) {rv : Int32} {rst : zS} (h : zf_LG_takeWaitingForNoneIfUsable N a1 st = some (rv, rst)) : zw_M l zy_LG_takeWaitingForNoneIfUsable (Cond.code zy_LG_takeWaitingForNoneIfUsable zo_LG_takeWaitingForNoneIfUsable 2 (some .int) :: zwAll) zrm_LG_takeWaitingForNoneIfUsable E [.ref 0, .ref a1] st (some (.int rv)) rst :=
  zw_enter (by decide) rfl hn (Nat.le_of_ble_eq_true rfl) (by simp [Value.category]) 0 (fun p e s m args below meth c A F => zl_LG_takeWaitingForNoneIfUsable_0 F a1 st k1 h)
set_option maxRecDepth 100000 in
theorem zcal_LG_takeWaitingFor : zw_cal zR0 zy_LG_takeWaitingFor zo_LG_takeWaitingFor 3 (some .int) 1 := ⟨zw_at 282 rfl rfl, zw_at 3 rfl rfl, zw_at 47 rfl rfl, zw_at 283 rfl rfl, rfl, by decide, by decide, by decide +kernel⟩
set_option maxRecDepth 100000 in
theorem zml_LG_122 : Cond.methodLink zR0 122 zy_LG_takeWaitingFor ∈ zwAll := zw_at 280 rfl rfl
set_option maxRecDepth 100000 in
theorem zwf_LG_29 : Cond.fieldLink zR0 29 (zT0 3).1 (zT0 3).2.1 (zT0 3).2.2.1 ∈ zwAll := zw_at 238 rfl rfl
set_option maxRecDepth 100000 in
theorem zwf_LG_179 : Cond.fieldLink zR0 179 (zT3 2).1 (zT3 2).2.1 (zT3 2).2.2.1 ∈ zwAll := zw_at 172 rfl rfl
set_option maxRecDepth 100000 in
theorem zwf_LG_93 : Cond.fieldLink zR0 93 (zT3 3).1 (zT3 3).2.1 (zT3 3).2.2.1 ∈ zwAll := zw_at 174 rfl rfl
abbrev zrm_LG_takeCarsFromWaiting : Room := { frames := 1, cells := 0, slots := 0, locals := 22 }
def zf_LG_takeCarsFromWaiting_67 (N : Nat) (r37 : Int32 → zS → Option zS) (l1 : Int32) (st : zS) : Option zS := r37 (l1 + 1) st
set_option maxHeartbeats 4000000 in
theorem zl_LG_takeCarsFromWaiting_67 (F : zw_X p m c zo_LG_takeCarsFromWaiting 2 s args zR0 E 10 A meth none) {N : Nat} {rst : zS} {r37 : Int32 → zS → Option zS} (hr37 : ∀ (l1 : Int32) (st : zS) , r37 l1 st = some rst → zw_G p l e zrm_LG_takeCarsFromWaiting s m args below meth c (MQ below (zw_Q E none rst A) args s 0 0 A) E A 2 0 37 [some (.ref 0), some (.int l1)] [] st) (l1 : Int32) (st : zS)  (h : zf_LG_takeCarsFromWaiting_67 N r37 l1 st = some rst) : zw_G p l e zrm_LG_takeCarsFromWaiting s m args below meth c (MQ below (zw_Q E none rst A) args s 0 0 A) E A 2 0 67 [some (.ref 0), some (.int l1)] [] st := by
  unfold zf_LG_takeCarsFromWaiting_67 at h
  refine zg_iinc F.1 (l1 + 1) [some (.ref 0), some (.int (l1 + 1))] zd_LG_takeCarsFromWaiting_67 rfl (by rw [lit1]) (by decide) rfl ?_
  refine zg_goto F.1 37 zd_LG_takeCarsFromWaiting_70 rfl ?_
  exact hr37 (l1 + 1) st h
def zb_LG_takeCarsFromWaiting_37 (N : Nat) (r37 : Int32 → zS → Option zS) (l1 : Int32) (st : zS) : Option zS := (if (st 0 6) ≤ l1 then some st else (if l1 < 0 ∨ 24 ≤ l1.toNatClampNeg then none else (if (st (11 + l1.toNatClampNeg) 2) = 0 then (if l1 < 0 ∨ 24 ≤ l1.toNatClampNeg then none else zf_LG_takeCarsFromWaiting_67 N r37 l1 (zp st (11 + l1.toNatClampNeg) 3 (-1))) else zf_LG_takeCarsFromWaiting_67 N r37 l1 st)))
set_option maxHeartbeats 4000000 in
theorem zlb_LG_takeCarsFromWaiting_37 (F : zw_X p m c zo_LG_takeCarsFromWaiting 2 s args zR0 E 10 A meth none) {N : Nat} {rst : zS} {r37 : Int32 → zS → Option zS} (hr37 : ∀ (l1 : Int32) (st : zS) , r37 l1 st = some rst → zw_G p l e zrm_LG_takeCarsFromWaiting s m args below meth c (MQ below (zw_Q E none rst A) args s 0 0 A) E A 2 0 37 [some (.ref 0), some (.int l1)] [] st) (l1 : Int32) (st : zS)  (h : zb_LG_takeCarsFromWaiting_37 N r37 l1 st = some rst) : zw_G p l e zrm_LG_takeCarsFromWaiting s m args below meth c (MQ below (zw_Q E none rst A) args s 0 0 A) E A 2 0 37 [some (.ref 0), some (.int l1)] [] st := by
  unfold zb_LG_takeCarsFromWaiting_37 at h
  refine zg_iload_n F.1 zd_LG_takeCarsFromWaiting_37 rfl rfl ?_
  refine zg_aload_n F.1 zd_LG_takeCarsFromWaiting_38 rfl rfl ?_
  refine zg_getI0 F.1 (by decide) rfl 6 (by decide) (st 0 6) rfl rfl zwf_LG_71 zd_LG_takeCarsFromWaiting_39 ?_
  refine zg_icmp_ge F.1 73 zd_LG_takeCarsFromWaiting_42 rfl (fun hc => ?_) (fun hc => ?_)
  · rw [if_pos hc] at h
    cases h
    exact zg_vret F zd_LG_takeCarsFromWaiting_73
  · rw [if_neg hc] at h
    refine zg_aload_n F.1 zd_LG_takeCarsFromWaiting_45 rfl rfl ?_
    refine zg_getR0 F.1 (by decide) rfl 3 (by decide) 10 rfl zwf_LG_29 zd_LG_takeCarsFromWaiting_46 ?_
    refine zg_iload_n F.1 zd_LG_takeCarsFromWaiting_49 rfl rfl ?_
    by_cases hi50 : l1 < 0 ∨ 24 ≤ l1.toNatClampNeg
    case pos => rw [if_pos hi50] at h; cases h
    rw [if_neg hi50] at h
    refine zg_ald7 F.1 (by decide) rfl hi50 l1.toNatClampNeg rfl zd_LG_takeCarsFromWaiting_50 ?_
    refine zg_getI3 F.1 (by decide) (zw_riderI hi50) 2 (by decide) (st (11 + l1.toNatClampNeg) 2) rfl rfl zwf_LG_179 zd_LG_takeCarsFromWaiting_51 ?_
    refine zg_if_ne F.1 67 zd_LG_takeCarsFromWaiting_54 rfl (fun hc => ?_) (fun hc => ?_)
    · rw [if_neg hc] at h
      exact zl_LG_takeCarsFromWaiting_67 F hr37 l1 st h
    · rw [if_pos hc] at h
      refine zg_aload_n F.1 zd_LG_takeCarsFromWaiting_57 rfl rfl ?_
      refine zg_getR0 F.1 (by decide) rfl 3 (by decide) 10 rfl zwf_LG_29 zd_LG_takeCarsFromWaiting_58 ?_
      refine zg_iload_n F.1 zd_LG_takeCarsFromWaiting_61 rfl rfl ?_
      by_cases hi62 : l1 < 0 ∨ 24 ≤ l1.toNatClampNeg
      case pos => rw [if_pos hi62] at h; cases h
      rw [if_neg hi62] at h
      refine zg_ald7 F.1 (by decide) rfl hi62 l1.toNatClampNeg rfl zd_LG_takeCarsFromWaiting_62 ?_
      refine zg_iconst F.1 (-1) (-1) (by decide) zd_LG_takeCarsFromWaiting_63 ?_
      refine zg_putI3 F.1 (by decide) (zw_riderI hi62) 3 (by decide) (Or.inr (Or.inr (Or.inr (Or.inl rfl)))) .int (by decide) rfl rfl rfl zwf_LG_93 zd_LG_takeCarsFromWaiting_64 ?_
      exact zl_LG_takeCarsFromWaiting_67 F hr37 l1 (zp st (11 + l1.toNatClampNeg) 3 (-1)) h
def zf_LG_takeCarsFromWaiting_37 (N : Nat)  : Nat → Int32 → zS → Option zS
  | 0, _, _ => none
  | n + 1, l1, st => zb_LG_takeCarsFromWaiting_37 N  (zf_LG_takeCarsFromWaiting_37 N  n) l1 st
theorem zl_LG_takeCarsFromWaiting_37 (F : zw_X p m c zo_LG_takeCarsFromWaiting 2 s args zR0 E 10 A meth none) {N : Nat} {rst : zS}   : ∀ (n : Nat) (l1 : Int32) (st : zS)  (h : zf_LG_takeCarsFromWaiting_37 N  n l1 st = some rst), zw_G p l e zrm_LG_takeCarsFromWaiting s m args below meth c (MQ below (zw_Q E none rst A) args s 0 0 A) E A 2 0 37 [some (.ref 0), some (.int l1)] [] st := by
  intro n
  induction n with
  | zero => intro l1 st  h; cases h
  | succ n ih => intro l1 st  h; exact zlb_LG_takeCarsFromWaiting_37 F  ih l1 st  h
def zb_LG_takeCarsFromWaiting_2 (N : Nat) (r2 : Int32 → zS → Option zS) (l1 : Int32) (st : zS) : Option zS := (if (st 0 5) ≤ l1 then zf_LG_takeCarsFromWaiting_37 N N 0 st else (if l1 < 0 ∨ 4 ≤ l1.toNatClampNeg then none else ((zf_LG_takeWaitingFor N (5 + l1.toNatClampNeg) st).bind fun y22 => r2 (l1 + 1) (zp y22.2 0 7 ((st 0 7) ||| y22.1)))))
set_option maxHeartbeats 4000000 in
theorem zlb_LG_takeCarsFromWaiting_2 (F : zw_X p m c zo_LG_takeCarsFromWaiting 2 s args zR0 E 10 A meth none) {N : Nat} {rst : zS} {r2 : Int32 → zS → Option zS} (hr2 : ∀ (l1 : Int32) (st : zS) , r2 l1 st = some rst → zw_G p l e zrm_LG_takeCarsFromWaiting s m args below meth c (MQ below (zw_Q E none rst A) args s 0 0 A) E A 2 0 2 [some (.ref 0), some (.int l1)] [] st) (l1 : Int32) (st : zS)  (h : zb_LG_takeCarsFromWaiting_2 N r2 l1 st = some rst) : zw_G p l e zrm_LG_takeCarsFromWaiting s m args below meth c (MQ below (zw_Q E none rst A) args s 0 0 A) E A 2 0 2 [some (.ref 0), some (.int l1)] [] st := by
  unfold zb_LG_takeCarsFromWaiting_2 at h
  refine zg_iload_n F.1 zd_LG_takeCarsFromWaiting_2 rfl rfl ?_
  refine zg_aload_n F.1 zd_LG_takeCarsFromWaiting_3 rfl rfl ?_
  refine zg_getI0 F.1 (by decide) rfl 5 (by decide) (st 0 5) rfl rfl zwf_LG_98 zd_LG_takeCarsFromWaiting_4 ?_
  refine zg_icmp_ge F.1 35 zd_LG_takeCarsFromWaiting_7 rfl (fun hc => ?_) (fun hc => ?_)
  · rw [if_pos hc] at h
    refine zg_iconst F.1 0 0 (by decide) zd_LG_takeCarsFromWaiting_35 ?_
    refine zg_istore_n F.1 [some (.ref 0), some (.int 0)] zd_LG_takeCarsFromWaiting_36 rfl (by decide) rfl ?_
    exact zl_LG_takeCarsFromWaiting_37 F N 0 st h
  · rw [if_neg hc] at h
    refine zg_aload_n F.1 zd_LG_takeCarsFromWaiting_10 rfl rfl ?_
    refine zg_dup F.1 zd_LG_takeCarsFromWaiting_11 rfl ?_
    refine zg_getI0 F.1 (by decide) rfl 7 (by decide) (st 0 7) rfl rfl zwf_LG_252 zd_LG_takeCarsFromWaiting_12 ?_
    refine zg_aload_n F.1 zd_LG_takeCarsFromWaiting_15 rfl rfl ?_
    refine zg_aload_n F.1 zd_LG_takeCarsFromWaiting_16 rfl rfl ?_
    refine zg_getR0 F.1 (by decide) rfl 1 (by decide) 4 rfl zwf_LG_18 zd_LG_takeCarsFromWaiting_17 ?_
    refine zg_iload_n F.1 zd_LG_takeCarsFromWaiting_20 rfl rfl ?_
    by_cases hi21 : l1 < 0 ∨ 4 ≤ l1.toNatClampNeg
    case pos => rw [if_pos hi21] at h; cases h
    rw [if_neg hi21] at h
    refine zg_ald6 F.1 (by decide) rfl hi21 l1.toNatClampNeg rfl zd_LG_takeCarsFromWaiting_21 ?_
    obtain ⟨y22, hc22, h⟩ := Option.bind_eq_some_iff.mp h
    refine zg_callV F (As := [.ref (5 + l1.toNatClampNeg)]) (rest := [.int (st 0 7), .ref 0]) (zk_LG_takeWaitingFor F.1.2.2 N (5 + l1.toNatClampNeg) st (zw_carI hi21) hc22) rfl rfl zcal_LG_takeWaitingFor zml_LG_122 ⟨(Nat.le_of_ble_eq_true rfl), (Nat.le_of_ble_eq_true rfl)⟩ (zg_rec0 F.1 (by decide) rfl) rfl (Nat.le_of_ble_eq_true rfl) ⟨(Nat.le_of_ble_eq_true rfl), (Nat.le_of_ble_eq_true rfl)⟩ zd_LG_takeCarsFromWaiting_22 ?_
    refine zg_ior F.1 zd_LG_takeCarsFromWaiting_25 ?_
    refine zg_putI0 F.1 (by decide) rfl 7 (by decide) (Or.inr (Or.inr (Or.inl rfl))) .int (by decide) rfl rfl rfl zwf_LG_252 zd_LG_takeCarsFromWaiting_26 ?_
    refine zg_iinc F.1 (l1 + 1) [some (.ref 0), some (.int (l1 + 1))] zd_LG_takeCarsFromWaiting_29 rfl (by rw [lit1]) (by decide) rfl ?_
    refine zg_goto F.1 2 zd_LG_takeCarsFromWaiting_32 rfl ?_
    exact hr2 (l1 + 1) (zp y22.2 0 7 ((st 0 7) ||| y22.1)) h
def zf_LG_takeCarsFromWaiting_2 (N : Nat)  : Nat → Int32 → zS → Option zS
  | 0, _, _ => none
  | n + 1, l1, st => zb_LG_takeCarsFromWaiting_2 N  (zf_LG_takeCarsFromWaiting_2 N  n) l1 st
theorem zl_LG_takeCarsFromWaiting_2 (F : zw_X p m c zo_LG_takeCarsFromWaiting 2 s args zR0 E 10 A meth none) {N : Nat} {rst : zS}   : ∀ (n : Nat) (l1 : Int32) (st : zS)  (h : zf_LG_takeCarsFromWaiting_2 N  n l1 st = some rst), zw_G p l e zrm_LG_takeCarsFromWaiting s m args below meth c (MQ below (zw_Q E none rst A) args s 0 0 A) E A 2 0 2 [some (.ref 0), some (.int l1)] [] st := by
  intro n
  induction n with
  | zero => intro l1 st  h; cases h
  | succ n ih => intro l1 st  h; exact zlb_LG_takeCarsFromWaiting_2 F  ih l1 st  h
def zf_LG_takeCarsFromWaiting (N : Nat)  (st : zS) : Option zS := zf_LG_takeCarsFromWaiting_2 N N 0 st
set_option maxHeartbeats 4000000 in
theorem zl_LG_takeCarsFromWaiting_0 (F : zw_X p m c zo_LG_takeCarsFromWaiting 2 s args zR0 E 10 A meth none) {N : Nat} {rst : zS}  (st : zS)  (h : zf_LG_takeCarsFromWaiting N  st = some rst) : zw_G p l e zrm_LG_takeCarsFromWaiting s m args below meth c (MQ below (zw_Q E none rst A) args s 0 0 A) E A 2 0 0 [some (.ref 0), none] [] st := by
  unfold zf_LG_takeCarsFromWaiting at h
  refine zg_iconst F.1 0 0 (by decide) zd_LG_takeCarsFromWaiting_0 ?_
  refine zg_istore_n F.1 [some (.ref 0), some (.int 0)] zd_LG_takeCarsFromWaiting_1 rfl (by decide) rfl ?_
  exact zl_LG_takeCarsFromWaiting_2 F N 0 st h
theorem zk_LG_takeCarsFromWaiting {E : zE} (hn : zw_n E 10) (N : Nat)  (st : zS)  {rst : zS} (h : zf_LG_takeCarsFromWaiting N  st = some rst) : zw_M l zy_LG_takeCarsFromWaiting (Cond.code zy_LG_takeCarsFromWaiting zo_LG_takeCarsFromWaiting 2 none :: zwAll) zrm_LG_takeCarsFromWaiting E [.ref 0] st none rst :=
  zw_enter (by decide) rfl hn (Nat.le_of_ble_eq_true rfl) (by simp [Value.category]) 1 (fun p e s m args below meth c A F => zl_LG_takeCarsFromWaiting_0 F  st  h)
set_option maxRecDepth 100000 in
theorem zwf_LG_23 : Cond.fieldLink zR0 23 (zT0 2).1 (zT0 2).2.1 (zT0 2).2.2.1 ∈ zwAll := zw_at 237 rfl rfl
set_option maxRecDepth 100000 in
theorem zcal_Ca_becomeLike : zw_cal zR2 zy_Ca_becomeLike zo_Ca_becomeLike 2 none 1 := ⟨zw_at 305 rfl rfl, zw_at 306 rfl rfl, zw_at 49 rfl rfl, zw_at 307 rfl rfl, rfl, by decide, by decide, by decide +kernel⟩
set_option maxRecDepth 100000 in
theorem zml_LG_199 : Cond.methodLink zR0 199 zy_Ca_becomeLike ∈ zwAll := zw_at 304 rfl rfl
set_option maxRecDepth 100000 in
theorem zml_LG_276 : Cond.methodLink zR0 276 zy_Ca_hasRiders ∈ zwAll := zw_at 308 rfl rfl
set_option maxRecDepth 100000 in
theorem zcal_Ca_advance : zw_cal zR2 zy_Ca_advance zo_Ca_advance 2 none 1 := ⟨zw_at 313 rfl rfl, zw_at 314 rfl rfl, zw_at 49 rfl rfl, zw_at 315 rfl rfl, rfl, by decide, by decide, by decide +kernel⟩
set_option maxRecDepth 100000 in
theorem zml_LG_105 : Cond.methodLink zR0 105 zy_Ca_advance ∈ zwAll := zw_at 312 rfl rfl
set_option maxRecDepth 100000 in
theorem zwf_LG_206 : Cond.fieldLink zR0 206 (zT2 11).1 (zT2 11).2.1 (zT2 11).2.2.1 ∈ zwAll := zw_at 130 rfl rfl
abbrev zrm_LG_worstWith : Room := { frames := 3, cells := 0, slots := 0, locals := 68 }
def zb_LG_worstWith_46 (N : Nat) (r46 : Int32 → zS → Option (Int32 × zS)) (l3 : Int32) (st : zS) : Option (Int32 × zS) := (if 1000 < l3 then some (1000, st) else ((zf_Ca_advance N 9 st).bind fun t61 => (if (t61 9 11) = 0 then ((zf_Ca_hasRiders N 9 t61).bind fun y82 => (if y82.1 = 0 then some (l3, y82.2) else r46 (l3 + 1) y82.2)) else some (1000, t61))))
set_option maxHeartbeats 4000000 in
theorem zlb_LG_worstWith_46 (F : zw_X p m c zo_LG_worstWith 4 s args zR0 E 10 A meth (some .int)) {N : Nat} {rv : Int32} {rst : zS} {r46 : Int32 → zS → Option (Int32 × zS)} (hr46 : ∀ (l3 : Int32) (st : zS) , r46 l3 st = some (rv, rst) → zw_G p l e zrm_LG_worstWith s m args below meth c (MQ below (zw_Q E (some (.int rv)) rst A) args s 0 0 A) E A 4 0 46 [some (.ref 0), none, none, some (.int l3)] [] st) (l3 : Int32) (st : zS)  (h : zb_LG_worstWith_46 N r46 l3 st = some (rv, rst)) : zw_G p l e zrm_LG_worstWith s m args below meth c (MQ below (zw_Q E (some (.int rv)) rst A) args s 0 0 A) E A 4 0 46 [some (.ref 0), none, none, some (.int l3)] [] st := by
  unfold zb_LG_worstWith_46 at h
  refine zg_iload_n F.1 zd_LG_worstWith_46 rfl rfl ?_
  refine zg_sipush F.1 1000 1000 (by decide) zd_LG_worstWith_47 ?_
  refine zg_icmp_gt F.1 96 zd_LG_worstWith_50 rfl (fun hc => ?_) (fun hc => ?_)
  · rw [if_pos hc] at h
    refine zg_sipush F.1 1000 1000 (by decide) zd_LG_worstWith_96 ?_
    cases h
    exact zg_iret F zd_LG_worstWith_99
  · rw [if_neg hc] at h
    refine zg_aload_n F.1 zd_LG_worstWith_53 rfl rfl ?_
    refine zg_getR0 F.1 (by decide) rfl 2 (by decide) 9 rfl zwf_LG_23 zd_LG_worstWith_54 ?_
    refine zg_aload_n F.1 zd_LG_worstWith_57 rfl rfl ?_
    refine zg_getR0 F.1 (by decide) rfl 0 (by decide) 1 rfl zwf_LG_10 zd_LG_worstWith_58 ?_
    obtain ⟨t61, hc61, h⟩ := Option.bind_eq_some_iff.mp h
    refine zg_callV F (As := [.ref 1]) (rest := []) (zk_Ca_advance F.1.2.2 N 9 st rfl hc61) rfl rfl zcal_Ca_advance zml_LG_105 ⟨(Nat.le_of_ble_eq_true rfl), (Nat.le_of_ble_eq_true rfl)⟩ (zg_rec2 F.1 (by decide) rfl) rfl (Nat.le_of_ble_eq_true rfl) ⟨(Nat.le_of_ble_eq_true rfl), (Nat.le_of_ble_eq_true rfl)⟩ zd_LG_worstWith_61 ?_
    refine zg_aload_n F.1 zd_LG_worstWith_64 rfl rfl ?_
    refine zg_getR0 F.1 (by decide) rfl 2 (by decide) 9 rfl zwf_LG_23 zd_LG_worstWith_65 ?_
    refine zg_getI2 F.1 (by decide) rfl 11 (by decide) (t61 9 11) rfl rfl zwf_LG_206 zd_LG_worstWith_68 ?_
    refine zg_if_eq F.1 78 zd_LG_worstWith_71 rfl (fun hc => ?_) (fun hc => ?_)
    · rw [if_pos hc] at h
      refine zg_aload_n F.1 zd_LG_worstWith_78 rfl rfl ?_
      refine zg_getR0 F.1 (by decide) rfl 2 (by decide) 9 rfl zwf_LG_23 zd_LG_worstWith_79 ?_
      obtain ⟨y82, hc82, h⟩ := Option.bind_eq_some_iff.mp h
      refine zg_callV F (As := []) (rest := []) (zk_Ca_hasRiders F.1.2.2 N 9 t61 rfl hc82) rfl rfl zcal_Ca_hasRiders zml_LG_276 ⟨(Nat.le_of_ble_eq_true rfl), (Nat.le_of_ble_eq_true rfl)⟩ (zg_rec2 F.1 (by decide) rfl) rfl (Nat.le_of_ble_eq_true rfl) ⟨(Nat.le_of_ble_eq_true rfl), (Nat.le_of_ble_eq_true rfl)⟩ zd_LG_worstWith_82 ?_
      refine zg_if_ne F.1 90 zd_LG_worstWith_85 rfl (fun hc => ?_) (fun hc => ?_)
      · rw [if_neg hc] at h
        refine zg_iinc F.1 (l3 + 1) [some (.ref 0), none, none, some (.int (l3 + 1))] zd_LG_worstWith_90 rfl (by rw [lit1]) (by decide) rfl ?_
        refine zg_goto F.1 46 zd_LG_worstWith_93 rfl ?_
        exact hr46 (l3 + 1) y82.2 h
      · rw [if_pos hc] at h
        refine zg_iload_n F.1 zd_LG_worstWith_88 rfl rfl ?_
        cases h
        exact zg_iret F zd_LG_worstWith_89
    · rw [if_neg hc] at h
      refine zg_sipush F.1 1000 1000 (by decide) zd_LG_worstWith_74 ?_
      cases h
      exact zg_iret F zd_LG_worstWith_77
def zf_LG_worstWith_46 (N : Nat)  : Nat → Int32 → zS → Option (Int32 × zS)
  | 0, _, _ => none
  | n + 1, l3, st => zb_LG_worstWith_46 N  (zf_LG_worstWith_46 N  n) l3 st
theorem zl_LG_worstWith_46 (F : zw_X p m c zo_LG_worstWith 4 s args zR0 E 10 A meth (some .int)) {N : Nat} {rv : Int32} {rst : zS}   : ∀ (n : Nat) (l3 : Int32) (st : zS)  (h : zf_LG_worstWith_46 N  n l3 st = some (rv, rst)), zw_G p l e zrm_LG_worstWith s m args below meth c (MQ below (zw_Q E (some (.int rv)) rst A) args s 0 0 A) E A 4 0 46 [some (.ref 0), none, none, some (.int l3)] [] st := by
  intro n
  induction n with
  | zero => intro l3 st  h; cases h
  | succ n ih => intro l3 st  h; exact zlb_LG_worstWith_46 F  ih l3 st  h
def zf_LG_worstWith (N : Nat) (a1 : Nat) (a2 : Int32) (st : zS) : Option (Int32 × zS) := ((zf_Ca_becomeLike N 9 a1 st).bind fun t5 => ((zf_Ca_hasRiders N 9 (zp t5 9 9 ((t5 9 9) ||| a2))).bind fun y25 => (if y25.1 = 0 then some (0, y25.2) else (if (y25.2 a1 6) = 0 then zf_LG_worstWith_46 N N 1 y25.2 else some (1000, y25.2)))))
set_option maxHeartbeats 4000000 in
theorem zl_LG_worstWith_0 (F : zw_X p m c zo_LG_worstWith 4 s args zR0 E 10 A meth (some .int)) {N : Nat} {rv : Int32} {rst : zS} (a1 : Nat) (a2 : Int32) (st : zS) (k1 : zw_kind a1 = 2) (h : zf_LG_worstWith N a1 a2 st = some (rv, rst)) : zw_G p l e zrm_LG_worstWith s m args below meth c (MQ below (zw_Q E (some (.int rv)) rst A) args s 0 0 A) E A 4 0 0 [some (.ref 0), some (.ref a1), some (.int a2), none] [] st := by
  unfold zf_LG_worstWith at h
  refine zg_aload_n F.1 zd_LG_worstWith_0 rfl rfl ?_
  refine zg_getR0 F.1 (by decide) rfl 2 (by decide) 9 rfl zwf_LG_23 zd_LG_worstWith_1 ?_
  refine zg_aload_n F.1 zd_LG_worstWith_4 rfl rfl ?_
  obtain ⟨t5, hc5, h⟩ := Option.bind_eq_some_iff.mp h
  refine zg_callV F (As := [.ref a1]) (rest := []) (zk_Ca_becomeLike F.1.2.2 N 9 a1 st rfl k1 hc5) rfl rfl zcal_Ca_becomeLike zml_LG_199 ⟨(Nat.le_of_ble_eq_true rfl), (Nat.le_of_ble_eq_true rfl)⟩ (zg_rec2 F.1 (by decide) rfl) rfl (Nat.le_of_ble_eq_true rfl) ⟨(Nat.le_of_ble_eq_true rfl), (Nat.le_of_ble_eq_true rfl)⟩ zd_LG_worstWith_5 ?_
  refine zg_aload_n F.1 zd_LG_worstWith_8 rfl rfl ?_
  refine zg_getR0 F.1 (by decide) rfl 2 (by decide) 9 rfl zwf_LG_23 zd_LG_worstWith_9 ?_
  refine zg_dup F.1 zd_LG_worstWith_12 rfl ?_
  refine zg_getI2 F.1 (by decide) rfl 9 (by decide) (t5 9 9) rfl rfl zwf_LG_269 zd_LG_worstWith_13 ?_
  refine zg_iload_n F.1 zd_LG_worstWith_16 rfl rfl ?_
  refine zg_ior F.1 zd_LG_worstWith_17 ?_
  refine zg_putI2 F.1 (by decide) rfl 9 (by decide) (Or.inr (Or.inr (Or.inr (Or.inr (Or.inr (Or.inr (Or.inr (Or.inr (Or.inr (Or.inl rfl)))))))))) .int (by decide) rfl rfl rfl zwf_LG_269 zd_LG_worstWith_18 ?_
  refine zg_aload_n F.1 zd_LG_worstWith_21 rfl rfl ?_
  refine zg_getR0 F.1 (by decide) rfl 2 (by decide) 9 rfl zwf_LG_23 zd_LG_worstWith_22 ?_
  obtain ⟨y25, hc25, h⟩ := Option.bind_eq_some_iff.mp h
  refine zg_callV F (As := []) (rest := []) (zk_Ca_hasRiders F.1.2.2 N 9 (zp t5 9 9 ((t5 9 9) ||| a2)) rfl hc25) rfl rfl zcal_Ca_hasRiders zml_LG_276 ⟨(Nat.le_of_ble_eq_true rfl), (Nat.le_of_ble_eq_true rfl)⟩ (zg_rec2 F.1 (by decide) rfl) rfl (Nat.le_of_ble_eq_true rfl) ⟨(Nat.le_of_ble_eq_true rfl), (Nat.le_of_ble_eq_true rfl)⟩ zd_LG_worstWith_25 ?_
  refine zg_if_ne F.1 33 zd_LG_worstWith_28 rfl (fun hc => ?_) (fun hc => ?_)
  · rw [if_neg hc] at h
    refine zg_aload_n F.1 zd_LG_worstWith_33 rfl rfl ?_
    refine zg_getI2 F.1 (by decide) k1 6 (by decide) (y25.2 a1 6) rfl rfl zwf_LG_101 zd_LG_worstWith_34 ?_
    refine zg_if_eq F.1 44 zd_LG_worstWith_37 rfl (fun hc => ?_) (fun hc => ?_)
    · rw [if_pos hc] at h
      refine zg_iconst F.1 1 1 (by decide) zd_LG_worstWith_44 ?_
      refine zg_istore_n F.1 [some (.ref 0), some (.ref a1), some (.int a2), some (.int 1)] zd_LG_worstWith_45 rfl (by decide) rfl ?_
      exact zg_le (zw_les (zw_len (zw_len (zw_les zw_le0)))) (zl_LG_worstWith_46 F N 1 y25.2 h)
    · rw [if_neg hc] at h
      refine zg_sipush F.1 1000 1000 (by decide) zd_LG_worstWith_40 ?_
      cases h
      exact zg_iret F zd_LG_worstWith_43
  · rw [if_pos hc] at h
    refine zg_iconst F.1 0 0 (by decide) zd_LG_worstWith_31 ?_
    cases h
    exact zg_iret F zd_LG_worstWith_32
theorem zk_LG_worstWith {E : zE} (hn : zw_n E 10) (N : Nat) (a1 : Nat) (a2 : Int32) (st : zS) (k1 : zw_kind a1 = 2) {rv : Int32} {rst : zS} (h : zf_LG_worstWith N a1 a2 st = some (rv, rst)) : zw_M l zy_LG_worstWith (Cond.code zy_LG_worstWith zo_LG_worstWith 4 (some .int) :: zwAll) zrm_LG_worstWith E [.ref 0, .ref a1, .int a2] st (some (.int rv)) rst :=
  zw_enter (by decide) rfl hn (Nat.le_of_ble_eq_true rfl) (by simp [Value.category]) 1 (fun p e s m args below meth c A F => zl_LG_worstWith_0 F a1 a2 st k1 h)
set_option maxRecDepth 100000 in
theorem zcal_LG_worstWith : zw_cal zR0 zy_LG_worstWith zo_LG_worstWith 4 (some .int) 2 := ⟨zw_at 302 rfl rfl, zw_at 8 rfl rfl, zw_at 47 rfl rfl, zw_at 303 rfl rfl, rfl, by decide, by decide, by decide +kernel⟩
set_option maxRecDepth 100000 in
theorem zml_LG_171 : Cond.methodLink zR0 171 zy_LG_worstWith ∈ zwAll := zw_at 300 rfl rfl
set_option maxRecDepth 100000 in
theorem zcal_Lo_note : zw_cal zR4 zy_Lo_note zo_Lo_note 6 none 4 := ⟨zw_at 359 rfl rfl, zw_at 360 rfl rfl, zw_at 51 rfl rfl, zw_at 361 rfl rfl, rfl, by decide, by decide, by decide +kernel⟩
set_option maxRecDepth 100000 in
theorem zml_LG_272 : Cond.methodLink zR0 272 zy_Lo_note ∈ zwAll := zw_at 358 rfl rfl
abbrev zrm_LG_chooseCar : Room := { frames := 4, cells := 0, slots := 0, locals := 91 }
def zf_LG_chooseCar_81 (N : Nat) (r12 : Int32 → Int32 → Int32 → Int32 → Int32 → zS → Option zS) (l1 : Int32) (l2 : Int32) (l3 : Int32) (l4 : Int32) (l5 : Int32) (st : zS) : Option zS := r12 l1 l2 l3 l4 (l5 + 1) st
set_option maxHeartbeats 4000000 in
theorem zl_LG_chooseCar_81 (F : zw_X p m c zo_LG_chooseCar 7 s args zR0 E 10 A meth none) {N : Nat} {rst : zS} {r12 : Int32 → Int32 → Int32 → Int32 → Int32 → zS → Option zS} (hr12 : ∀ (l1 : Int32) (l2 : Int32) (l3 : Int32) (l4 : Int32) (l5 : Int32) (st : zS) , r12 l1 l2 l3 l4 l5 st = some rst → zw_G p l e zrm_LG_chooseCar s m args below meth c (MQ below (zw_Q E none rst A) args s 0 0 A) E A 7 0 12 [some (.ref 0), some (.int l1), some (.int l2), some (.int l3), some (.int l4), some (.int l5), none] [] st) (l1 : Int32) (l2 : Int32) (l3 : Int32) (l4 : Int32) (l5 : Int32) (st : zS)  (h : zf_LG_chooseCar_81 N r12 l1 l2 l3 l4 l5 st = some rst) : zw_G p l e zrm_LG_chooseCar s m args below meth c (MQ below (zw_Q E none rst A) args s 0 0 A) E A 7 0 81 [some (.ref 0), some (.int l1), some (.int l2), some (.int l3), some (.int l4), some (.int l5), none] [] st := by
  unfold zf_LG_chooseCar_81 at h
  refine zg_iinc F.1 (l5 + 1) [some (.ref 0), some (.int l1), some (.int l2), some (.int l3), some (.int l4), some (.int (l5 + 1)), none] zd_LG_chooseCar_81 rfl (by rw [lit1]) (by decide) rfl ?_
  refine zg_goto F.1 12 zd_LG_chooseCar_84 rfl ?_
  exact hr12 l1 l2 l3 l4 (l5 + 1) st h
def zf_LG_chooseCar_74 (N : Nat) (r12 : Int32 → Int32 → Int32 → Int32 → Int32 → zS → Option zS) (l1 : Int32) (l2 : Int32) (l5 : Int32) (l6 : Int32) (st : zS) : Option zS := zf_LG_chooseCar_81 N r12 l1 l2 l5 l6 l5 st
set_option maxHeartbeats 4000000 in
theorem zl_LG_chooseCar_74 (F : zw_X p m c zo_LG_chooseCar 7 s args zR0 E 10 A meth none) {N : Nat} {rst : zS} {r12 : Int32 → Int32 → Int32 → Int32 → Int32 → zS → Option zS} (hr12 : ∀ (l1 : Int32) (l2 : Int32) (l3 : Int32) (l4 : Int32) (l5 : Int32) (st : zS) , r12 l1 l2 l3 l4 l5 st = some rst → zw_G p l e zrm_LG_chooseCar s m args below meth c (MQ below (zw_Q E none rst A) args s 0 0 A) E A 7 0 12 [some (.ref 0), some (.int l1), some (.int l2), some (.int l3), some (.int l4), some (.int l5), none] [] st) (l1 : Int32) (l2 : Int32) (l5 : Int32) (l6 : Int32) (st : zS)  (h : zf_LG_chooseCar_74 N r12 l1 l2 l5 l6 st = some rst) : zw_G p l e zrm_LG_chooseCar s m args below meth c (MQ below (zw_Q E none rst A) args s 0 0 A) E A 7 0 74 [some (.ref 0), some (.int l1), some (.int l2), none, none, some (.int l5), some (.int l6)] [] st := by
  unfold zf_LG_chooseCar_74 at h
  refine zg_iload F.1 zd_LG_chooseCar_74 rfl ?_
  refine zg_istore_n F.1 [some (.ref 0), some (.int l1), some (.int l2), some (.int l5), none, some (.int l5), some (.int l6)] zd_LG_chooseCar_76 rfl (by decide) rfl ?_
  refine zg_iload F.1 zd_LG_chooseCar_77 rfl ?_
  refine zg_istore F.1 [some (.ref 0), some (.int l1), some (.int l2), some (.int l5), some (.int l6), some (.int l5), some (.int l6)] zd_LG_chooseCar_79 (by decide) rfl ?_
  exact zg_le (zw_les (zw_les (zw_les (zw_les (zw_les (zw_les (zw_len zw_le0))))))) (zl_LG_chooseCar_81 F hr12 l1 l2 l5 l6 l5 st h)
def zf_LG_chooseCar_158 (N : Nat)   (st : zS) : Option zS := some st
set_option maxHeartbeats 4000000 in
theorem zl_LG_chooseCar_158 (F : zw_X p m c zo_LG_chooseCar 7 s args zR0 E 10 A meth none) {N : Nat} {rst : zS}    (st : zS)  (h : zf_LG_chooseCar_158 N   st = some rst) : zw_G p l e zrm_LG_chooseCar s m args below meth c (MQ below (zw_Q E none rst A) args s 0 0 A) E A 7 0 158 [none, none, none, none, none, none, none] [] st := by
  unfold zf_LG_chooseCar_158 at h
  cases h
  exact zg_vret F zd_LG_chooseCar_158
def zb_LG_chooseCar_12 (N : Nat) (r12 : Int32 → Int32 → Int32 → Int32 → Int32 → zS → Option zS) (l1 : Int32) (l2 : Int32) (l3 : Int32) (l4 : Int32) (l5 : Int32) (st : zS) : Option zS := (if (st 0 5) ≤ l5 then (if l1 < 0 ∨ 24 ≤ l1.toNatClampNeg then none else (if l3 = (-1) then ((zf_Lo_note N (st 0 8) 5 l1 (-1) (zp (zp st (11 + l1.toNatClampNeg) 3 l3) 0 7 ((st 0 7) ||| l2))).bind fun t123 => zf_LG_chooseCar_158 N t123) else (if l3 < 0 ∨ 4 ≤ l3.toNatClampNeg then none else ((zf_Lo_note N (st 0 8) 1 l1 l3 (zp (zp st (11 + l1.toNatClampNeg) 3 l3) (5 + l3.toNatClampNeg) 9 ((st (5 + l3.toNatClampNeg) 9) ||| l2))).bind fun t155 => zf_LG_chooseCar_158 N t155)))) else (if l5 < 0 ∨ 4 ≤ l5.toNatClampNeg then none else ((zf_LG_isUsable N (5 + l5.toNatClampNeg) st).bind fun y29 => (if y29.1 = 0 then zf_LG_chooseCar_81 N r12 l1 l2 l3 l4 l5 y29.2 else (if l5 < 0 ∨ 4 ≤ l5.toNatClampNeg then none else ((zf_LG_worstWith N (5 + l5.toNatClampNeg) l2 y29.2).bind fun y44 => (if l5 < 0 ∨ 4 ≤ l5.toNatClampNeg then none else ((zf_LG_worstWith N (5 + l5.toNatClampNeg) 0 y44.2).bind fun y56 => (if l3 = (-1) then zf_LG_chooseCar_74 N r12 l1 l2 l5 (y44.1 - y56.1) y56.2 else (if l4 ≤ (y44.1 - y56.1) then zf_LG_chooseCar_81 N r12 l1 l2 l3 l4 l5 y56.2 else zf_LG_chooseCar_74 N r12 l1 l2 l5 (y44.1 - y56.1) y56.2))))))))))
set_option maxHeartbeats 4000000 in
theorem zlb_LG_chooseCar_12 (F : zw_X p m c zo_LG_chooseCar 7 s args zR0 E 10 A meth none) {N : Nat} {rst : zS} {r12 : Int32 → Int32 → Int32 → Int32 → Int32 → zS → Option zS} (hr12 : ∀ (l1 : Int32) (l2 : Int32) (l3 : Int32) (l4 : Int32) (l5 : Int32) (st : zS) , r12 l1 l2 l3 l4 l5 st = some rst → zw_G p l e zrm_LG_chooseCar s m args below meth c (MQ below (zw_Q E none rst A) args s 0 0 A) E A 7 0 12 [some (.ref 0), some (.int l1), some (.int l2), some (.int l3), some (.int l4), some (.int l5), none] [] st) (l1 : Int32) (l2 : Int32) (l3 : Int32) (l4 : Int32) (l5 : Int32) (st : zS)  (h : zb_LG_chooseCar_12 N r12 l1 l2 l3 l4 l5 st = some rst) : zw_G p l e zrm_LG_chooseCar s m args below meth c (MQ below (zw_Q E none rst A) args s 0 0 A) E A 7 0 12 [some (.ref 0), some (.int l1), some (.int l2), some (.int l3), some (.int l4), some (.int l5), none] [] st := by
  unfold zb_LG_chooseCar_12 at h
  refine zg_iload F.1 zd_LG_chooseCar_12 rfl ?_
  refine zg_aload_n F.1 zd_LG_chooseCar_14 rfl rfl ?_
  refine zg_getI0 F.1 (by decide) rfl 5 (by decide) (st 0 5) rfl rfl zwf_LG_98 zd_LG_chooseCar_15 ?_
  refine zg_icmp_ge F.1 87 zd_LG_chooseCar_18 rfl (fun hc => ?_) (fun hc => ?_)
  · rw [if_pos hc] at h
    refine zg_aload_n F.1 zd_LG_chooseCar_87 rfl rfl ?_
    refine zg_getR0 F.1 (by decide) rfl 3 (by decide) 10 rfl zwf_LG_29 zd_LG_chooseCar_88 ?_
    refine zg_iload_n F.1 zd_LG_chooseCar_91 rfl rfl ?_
    by_cases hi92 : l1 < 0 ∨ 24 ≤ l1.toNatClampNeg
    case pos => rw [if_pos hi92] at h; cases h
    rw [if_neg hi92] at h
    refine zg_ald7 F.1 (by decide) rfl hi92 l1.toNatClampNeg rfl zd_LG_chooseCar_92 ?_
    refine zg_iload_n F.1 zd_LG_chooseCar_93 rfl rfl ?_
    refine zg_putI3 F.1 (by decide) (zw_riderI hi92) 3 (by decide) (Or.inr (Or.inr (Or.inr (Or.inl rfl)))) .int (by decide) rfl rfl rfl zwf_LG_93 zd_LG_chooseCar_94 ?_
    refine zg_iload_n F.1 zd_LG_chooseCar_97 rfl rfl ?_
    refine zg_iconst F.1 (-1) (-1) (by decide) zd_LG_chooseCar_98 ?_
    refine zg_icmp_ne F.1 129 zd_LG_chooseCar_99 rfl (fun hc => ?_) (fun hc => ?_)
    · rw [if_neg hc] at h
      refine zg_aload_n F.1 zd_LG_chooseCar_129 rfl rfl ?_
      refine zg_getR0 F.1 (by decide) rfl 1 (by decide) 4 rfl zwf_LG_18 zd_LG_chooseCar_130 ?_
      refine zg_iload_n F.1 zd_LG_chooseCar_133 rfl rfl ?_
      by_cases hi134 : l3 < 0 ∨ 4 ≤ l3.toNatClampNeg
      case pos => rw [if_pos hi134] at h; cases h
      rw [if_neg hi134] at h
      refine zg_ald6 F.1 (by decide) rfl hi134 l3.toNatClampNeg rfl zd_LG_chooseCar_134 ?_
      refine zg_dup F.1 zd_LG_chooseCar_135 rfl ?_
      refine zg_getI2 F.1 (by decide) (zw_carI hi134) 9 (by decide) (st (5 + l3.toNatClampNeg) 9) rfl (zp_q _ _ (zw_kk (zw_carI hi134) (zw_riderI hi92) (by decide))) zwf_LG_269 zd_LG_chooseCar_136 ?_
      refine zg_iload_n F.1 zd_LG_chooseCar_139 rfl rfl ?_
      refine zg_ior F.1 zd_LG_chooseCar_140 ?_
      refine zg_putI2 F.1 (by decide) (zw_carI hi134) 9 (by decide) (Or.inr (Or.inr (Or.inr (Or.inr (Or.inr (Or.inr (Or.inr (Or.inr (Or.inr (Or.inl rfl)))))))))) .int (by decide) rfl rfl rfl zwf_LG_269 zd_LG_chooseCar_141 ?_
      refine zg_aload_n F.1 zd_LG_chooseCar_144 rfl rfl ?_
      refine zg_getR0 F.1 (by decide) rfl 4 (by decide) 35 rfl zwf_LG_37 zd_LG_chooseCar_145 ?_
      refine zg_aload_n F.1 zd_LG_chooseCar_148 rfl rfl ?_
      refine zg_getI0 F.1 (by decide) rfl 8 (by decide) (st 0 8) rfl ((zp_q _ _ (zw_kne (zw_carI hi134) (by decide))).trans (zp_q _ _ (zw_kne (zw_riderI hi92) (by decide)))) zwf_LG_80 zd_LG_chooseCar_149 ?_
      refine zg_iconst F.1 1 1 (by decide) zd_LG_chooseCar_152 ?_
      refine zg_iload_n F.1 zd_LG_chooseCar_153 rfl rfl ?_
      refine zg_iload_n F.1 zd_LG_chooseCar_154 rfl rfl ?_
      obtain ⟨t155, hc155, h⟩ := Option.bind_eq_some_iff.mp h
      refine zg_callV F (As := [.int (st 0 8), .int 1, .int l1, .int l3]) (rest := []) (zk_Lo_note F.1.2.2 N (st 0 8) 1 l1 l3 (zp (zp st (11 + l1.toNatClampNeg) 3 l3) (5 + l3.toNatClampNeg) 9 ((st (5 + l3.toNatClampNeg) 9) ||| l2)) hc155) rfl rfl zcal_Lo_note zml_LG_272 ⟨(Nat.le_of_ble_eq_true rfl), (Nat.le_of_ble_eq_true rfl)⟩ (zg_rec4 F.1 (by decide) rfl) rfl (Nat.le_of_ble_eq_true rfl) ⟨(Nat.le_of_ble_eq_true rfl), (Nat.le_of_ble_eq_true rfl)⟩ zd_LG_chooseCar_155 ?_
      exact zg_le (zw_len (zw_len (zw_len (zw_len (zw_len (zw_len (zw_les zw_le0))))))) (zl_LG_chooseCar_158 F t155 h)
    · rw [if_pos hc] at h
      refine zg_aload_n F.1 zd_LG_chooseCar_102 rfl rfl ?_
      refine zg_dup F.1 zd_LG_chooseCar_103 rfl ?_
      refine zg_getI0 F.1 (by decide) rfl 7 (by decide) (st 0 7) rfl (zp_q _ _ (zw_kne (zw_riderI hi92) (by decide))) zwf_LG_252 zd_LG_chooseCar_104 ?_
      refine zg_iload_n F.1 zd_LG_chooseCar_107 rfl rfl ?_
      refine zg_ior F.1 zd_LG_chooseCar_108 ?_
      refine zg_putI0 F.1 (by decide) rfl 7 (by decide) (Or.inr (Or.inr (Or.inl rfl))) .int (by decide) rfl rfl rfl zwf_LG_252 zd_LG_chooseCar_109 ?_
      refine zg_aload_n F.1 zd_LG_chooseCar_112 rfl rfl ?_
      refine zg_getR0 F.1 (by decide) rfl 4 (by decide) 35 rfl zwf_LG_37 zd_LG_chooseCar_113 ?_
      refine zg_aload_n F.1 zd_LG_chooseCar_116 rfl rfl ?_
      refine zg_getI0 F.1 (by decide) rfl 8 (by decide) (st 0 8) rfl ((zp_o _ _ (by decide)).trans (zp_q _ _ (zw_kne (zw_riderI hi92) (by decide)))) zwf_LG_80 zd_LG_chooseCar_117 ?_
      refine zg_iconst F.1 5 5 (by decide) zd_LG_chooseCar_120 ?_
      refine zg_iload_n F.1 zd_LG_chooseCar_121 rfl rfl ?_
      refine zg_iconst F.1 (-1) (-1) (by decide) zd_LG_chooseCar_122 ?_
      obtain ⟨t123, hc123, h⟩ := Option.bind_eq_some_iff.mp h
      refine zg_callV F (As := [.int (st 0 8), .int 5, .int l1, .int (-1)]) (rest := []) (zk_Lo_note F.1.2.2 N (st 0 8) 5 l1 (-1) (zp (zp st (11 + l1.toNatClampNeg) 3 l3) 0 7 ((st 0 7) ||| l2)) hc123) rfl rfl zcal_Lo_note zml_LG_272 ⟨(Nat.le_of_ble_eq_true rfl), (Nat.le_of_ble_eq_true rfl)⟩ (zg_rec4 F.1 (by decide) rfl) rfl (Nat.le_of_ble_eq_true rfl) ⟨(Nat.le_of_ble_eq_true rfl), (Nat.le_of_ble_eq_true rfl)⟩ zd_LG_chooseCar_123 ?_
      refine zg_goto F.1 158 zd_LG_chooseCar_126 rfl ?_
      exact zg_le (zw_len (zw_len (zw_len (zw_len (zw_len (zw_len (zw_les zw_le0))))))) (zl_LG_chooseCar_158 F t123 h)
  · rw [if_neg hc] at h
    refine zg_aload_n F.1 zd_LG_chooseCar_21 rfl rfl ?_
    refine zg_aload_n F.1 zd_LG_chooseCar_22 rfl rfl ?_
    refine zg_getR0 F.1 (by decide) rfl 1 (by decide) 4 rfl zwf_LG_18 zd_LG_chooseCar_23 ?_
    refine zg_iload F.1 zd_LG_chooseCar_26 rfl ?_
    by_cases hi28 : l5 < 0 ∨ 4 ≤ l5.toNatClampNeg
    case pos => rw [if_pos hi28] at h; cases h
    rw [if_neg hi28] at h
    refine zg_ald6 F.1 (by decide) rfl hi28 l5.toNatClampNeg rfl zd_LG_chooseCar_28 ?_
    obtain ⟨y29, hc29, h⟩ := Option.bind_eq_some_iff.mp h
    refine zg_callV F (As := [.ref (5 + l5.toNatClampNeg)]) (rest := []) (zk_LG_isUsable F.1.2.2 N (5 + l5.toNatClampNeg) st (zw_carI hi28) hc29) rfl rfl zcal_LG_isUsable zml_LG_265 ⟨(Nat.le_of_ble_eq_true rfl), (Nat.le_of_ble_eq_true rfl)⟩ (zg_rec0 F.1 (by decide) rfl) rfl (Nat.le_of_ble_eq_true rfl) ⟨(Nat.le_of_ble_eq_true rfl), (Nat.le_of_ble_eq_true rfl)⟩ zd_LG_chooseCar_29 ?_
    refine zg_if_eq F.1 81 zd_LG_chooseCar_32 rfl (fun hc => ?_) (fun hc => ?_)
    · rw [if_pos hc] at h
      exact zl_LG_chooseCar_81 F hr12 l1 l2 l3 l4 l5 y29.2 h
    · rw [if_neg hc] at h
      refine zg_aload_n F.1 zd_LG_chooseCar_35 rfl rfl ?_
      refine zg_aload_n F.1 zd_LG_chooseCar_36 rfl rfl ?_
      refine zg_getR0 F.1 (by decide) rfl 1 (by decide) 4 rfl zwf_LG_18 zd_LG_chooseCar_37 ?_
      refine zg_iload F.1 zd_LG_chooseCar_40 rfl ?_
      by_cases hi42 : l5 < 0 ∨ 4 ≤ l5.toNatClampNeg
      case pos => rw [if_pos hi42] at h; cases h
      rw [if_neg hi42] at h
      refine zg_ald6 F.1 (by decide) rfl hi42 l5.toNatClampNeg rfl zd_LG_chooseCar_42 ?_
      refine zg_iload_n F.1 zd_LG_chooseCar_43 rfl rfl ?_
      obtain ⟨y44, hc44, h⟩ := Option.bind_eq_some_iff.mp h
      refine zg_callV F (As := [.ref (5 + l5.toNatClampNeg), .int l2]) (rest := []) (zk_LG_worstWith F.1.2.2 N (5 + l5.toNatClampNeg) l2 y29.2 (zw_carI hi42) hc44) rfl rfl zcal_LG_worstWith zml_LG_171 ⟨(Nat.le_of_ble_eq_true rfl), (Nat.le_of_ble_eq_true rfl)⟩ (zg_rec0 F.1 (by decide) rfl) rfl (Nat.le_of_ble_eq_true rfl) ⟨(Nat.le_of_ble_eq_true rfl), (Nat.le_of_ble_eq_true rfl)⟩ zd_LG_chooseCar_44 ?_
      refine zg_aload_n F.1 zd_LG_chooseCar_47 rfl rfl ?_
      refine zg_aload_n F.1 zd_LG_chooseCar_48 rfl rfl ?_
      refine zg_getR0 F.1 (by decide) rfl 1 (by decide) 4 rfl zwf_LG_18 zd_LG_chooseCar_49 ?_
      refine zg_iload F.1 zd_LG_chooseCar_52 rfl ?_
      by_cases hi54 : l5 < 0 ∨ 4 ≤ l5.toNatClampNeg
      case pos => rw [if_pos hi54] at h; cases h
      rw [if_neg hi54] at h
      refine zg_ald6 F.1 (by decide) rfl hi54 l5.toNatClampNeg rfl zd_LG_chooseCar_54 ?_
      refine zg_iconst F.1 0 0 (by decide) zd_LG_chooseCar_55 ?_
      obtain ⟨y56, hc56, h⟩ := Option.bind_eq_some_iff.mp h
      refine zg_callV F (As := [.ref (5 + l5.toNatClampNeg), .int 0]) (rest := [.int y44.1]) (zk_LG_worstWith F.1.2.2 N (5 + l5.toNatClampNeg) 0 y44.2 (zw_carI hi54) hc56) rfl rfl zcal_LG_worstWith zml_LG_171 ⟨(Nat.le_of_ble_eq_true rfl), (Nat.le_of_ble_eq_true rfl)⟩ (zg_rec0 F.1 (by decide) rfl) rfl (Nat.le_of_ble_eq_true rfl) ⟨(Nat.le_of_ble_eq_true rfl), (Nat.le_of_ble_eq_true rfl)⟩ zd_LG_chooseCar_56 ?_
      refine zg_isub F.1 zd_LG_chooseCar_59 ?_
      refine zg_istore F.1 [some (.ref 0), some (.int l1), some (.int l2), some (.int l3), some (.int l4), some (.int l5), some (.int (y44.1 - y56.1))] zd_LG_chooseCar_60 (by decide) rfl ?_
      refine zg_iload_n F.1 zd_LG_chooseCar_62 rfl rfl ?_
      refine zg_iconst F.1 (-1) (-1) (by decide) zd_LG_chooseCar_63 ?_
      refine zg_icmp_eq F.1 74 zd_LG_chooseCar_64 rfl (fun hc => ?_) (fun hc => ?_)
      · rw [if_pos hc] at h
        exact zg_le (zw_les (zw_les (zw_les (zw_len (zw_len (zw_les (zw_les zw_le0))))))) (zl_LG_chooseCar_74 F hr12 l1 l2 l5 (y44.1 - y56.1) y56.2 h)
      · rw [if_neg hc] at h
        refine zg_iload F.1 zd_LG_chooseCar_67 rfl ?_
        refine zg_iload F.1 zd_LG_chooseCar_69 rfl ?_
        refine zg_icmp_ge F.1 81 zd_LG_chooseCar_71 rfl (fun hc => ?_) (fun hc => ?_)
        · rw [if_pos hc] at h
          exact zg_le (zw_les (zw_les (zw_les (zw_les (zw_les (zw_les (zw_len zw_le0))))))) (zl_LG_chooseCar_81 F hr12 l1 l2 l3 l4 l5 y56.2 h)
        · rw [if_neg hc] at h
          exact zg_le (zw_les (zw_les (zw_les (zw_len (zw_len (zw_les (zw_les zw_le0))))))) (zl_LG_chooseCar_74 F hr12 l1 l2 l5 (y44.1 - y56.1) y56.2 h)
def zf_LG_chooseCar_12 (N : Nat)  : Nat → Int32 → Int32 → Int32 → Int32 → Int32 → zS → Option zS
  | 0, _, _, _, _, _, _ => none
  | n + 1, l1, l2, l3, l4, l5, st => zb_LG_chooseCar_12 N  (zf_LG_chooseCar_12 N  n) l1 l2 l3 l4 l5 st
theorem zl_LG_chooseCar_12 (F : zw_X p m c zo_LG_chooseCar 7 s args zR0 E 10 A meth none) {N : Nat} {rst : zS}   : ∀ (n : Nat) (l1 : Int32) (l2 : Int32) (l3 : Int32) (l4 : Int32) (l5 : Int32) (st : zS)  (h : zf_LG_chooseCar_12 N  n l1 l2 l3 l4 l5 st = some rst), zw_G p l e zrm_LG_chooseCar s m args below meth c (MQ below (zw_Q E none rst A) args s 0 0 A) E A 7 0 12 [some (.ref 0), some (.int l1), some (.int l2), some (.int l3), some (.int l4), some (.int l5), none] [] st := by
  intro n
  induction n with
  | zero => intro l1 l2 l3 l4 l5 st  h; cases h
  | succ n ih => intro l1 l2 l3 l4 l5 st  h; exact zlb_LG_chooseCar_12 F  ih l1 l2 l3 l4 l5 st  h
def zf_LG_chooseCar (N : Nat) (a1 : Int32) (st : zS) : Option zS := zf_LG_chooseCar_12 N N a1 (1 <<< (a1 &&& 31)) (-1) 0 0 st
set_option maxHeartbeats 4000000 in
theorem zl_LG_chooseCar_0 (F : zw_X p m c zo_LG_chooseCar 7 s args zR0 E 10 A meth none) {N : Nat} {rst : zS} (a1 : Int32) (st : zS)  (h : zf_LG_chooseCar N a1 st = some rst) : zw_G p l e zrm_LG_chooseCar s m args below meth c (MQ below (zw_Q E none rst A) args s 0 0 A) E A 7 0 0 [some (.ref 0), some (.int a1), none, none, none, none, none] [] st := by
  unfold zf_LG_chooseCar at h
  refine zg_iconst F.1 1 1 (by decide) zd_LG_chooseCar_0 ?_
  refine zg_iload_n F.1 zd_LG_chooseCar_1 rfl rfl ?_
  refine zg_ishl F.1 zd_LG_chooseCar_2 ?_
  refine zg_istore_n F.1 [some (.ref 0), some (.int a1), some (.int (1 <<< (a1 &&& 31))), none, none, none, none] zd_LG_chooseCar_3 rfl (by decide) rfl ?_
  refine zg_iconst F.1 (-1) (-1) (by decide) zd_LG_chooseCar_4 ?_
  refine zg_istore_n F.1 [some (.ref 0), some (.int a1), some (.int (1 <<< (a1 &&& 31))), some (.int (-1)), none, none, none] zd_LG_chooseCar_5 rfl (by decide) rfl ?_
  refine zg_iconst F.1 0 0 (by decide) zd_LG_chooseCar_6 ?_
  refine zg_istore F.1 [some (.ref 0), some (.int a1), some (.int (1 <<< (a1 &&& 31))), some (.int (-1)), some (.int 0), none, none] zd_LG_chooseCar_7 (by decide) rfl ?_
  refine zg_iconst F.1 0 0 (by decide) zd_LG_chooseCar_9 ?_
  refine zg_istore F.1 [some (.ref 0), some (.int a1), some (.int (1 <<< (a1 &&& 31))), some (.int (-1)), some (.int 0), some (.int 0), none] zd_LG_chooseCar_10 (by decide) rfl ?_
  exact zl_LG_chooseCar_12 F N a1 (1 <<< (a1 &&& 31)) (-1) 0 0 st h
theorem zk_LG_chooseCar {E : zE} (hn : zw_n E 10) (N : Nat) (a1 : Int32) (st : zS)  {rst : zS} (h : zf_LG_chooseCar N a1 st = some rst) : zw_M l zy_LG_chooseCar (Cond.code zy_LG_chooseCar zo_LG_chooseCar 7 none :: zwAll) zrm_LG_chooseCar E [.ref 0, .int a1] st none rst :=
  zw_enter (by decide) rfl hn (Nat.le_of_ble_eq_true rfl) (by simp [Value.category]) 5 (fun p e s m args below meth c A F => zl_LG_chooseCar_0 F a1 st  h)
set_option maxRecDepth 100000 in
theorem zcal_LG_chooseCar : zw_cal zR0 zy_LG_chooseCar zo_LG_chooseCar 7 none 1 := ⟨zw_at 294 rfl rfl, zw_at 6 rfl rfl, zw_at 47 rfl rfl, zw_at 295 rfl rfl, rfl, by decide, by decide, by decide +kernel⟩
set_option maxRecDepth 100000 in
theorem zml_LG_89 : Cond.methodLink zR0 89 zy_LG_chooseCar ∈ zwAll := zw_at 292 rfl rfl
abbrev zrm_LG_chooseForAll : Room := { frames := 5, cells := 0, slots := 0, locals := 117 }
def zf_LG_chooseForAll_23 (N : Nat) (r2 : Int32 → Int32 → zS → Option zS) (l1 : Int32) (l2 : Int32) (st : zS) : Option zS := r2 l1 (l2 + 1) st
set_option maxHeartbeats 4000000 in
theorem zl_LG_chooseForAll_23 (F : zw_X p m c zo_LG_chooseForAll 3 s args zR0 E 10 A meth none) {N : Nat} {rst : zS} {r2 : Int32 → Int32 → zS → Option zS} (hr2 : ∀ (l1 : Int32) (l2 : Int32) (st : zS) , r2 l1 l2 st = some rst → zw_G p l e zrm_LG_chooseForAll s m args below meth c (MQ below (zw_Q E none rst A) args s 0 0 A) E A 3 0 2 [some (.ref 0), some (.int l1), some (.int l2)] [] st) (l1 : Int32) (l2 : Int32) (st : zS)  (h : zf_LG_chooseForAll_23 N r2 l1 l2 st = some rst) : zw_G p l e zrm_LG_chooseForAll s m args below meth c (MQ below (zw_Q E none rst A) args s 0 0 A) E A 3 0 23 [some (.ref 0), some (.int l1), some (.int l2)] [] st := by
  unfold zf_LG_chooseForAll_23 at h
  refine zg_iinc F.1 (l2 + 1) [some (.ref 0), some (.int l1), some (.int (l2 + 1))] zd_LG_chooseForAll_23 rfl (by rw [lit1]) (by decide) rfl ?_
  refine zg_goto F.1 2 zd_LG_chooseForAll_26 rfl ?_
  exact hr2 l1 (l2 + 1) st h
def zb_LG_chooseForAll_2 (N : Nat) (r2 : Int32 → Int32 → zS → Option zS) (l1 : Int32) (l2 : Int32) (st : zS) : Option zS := (if (st 0 6) ≤ l2 then some st else (if (l1 &&& (1 <<< (l2 &&& 31))) = 0 then zf_LG_chooseForAll_23 N r2 l1 l2 st else ((zf_LG_chooseCar N l2 st).bind fun t20 => zf_LG_chooseForAll_23 N r2 l1 l2 t20)))
set_option maxHeartbeats 4000000 in
theorem zlb_LG_chooseForAll_2 (F : zw_X p m c zo_LG_chooseForAll 3 s args zR0 E 10 A meth none) {N : Nat} {rst : zS} {r2 : Int32 → Int32 → zS → Option zS} (hr2 : ∀ (l1 : Int32) (l2 : Int32) (st : zS) , r2 l1 l2 st = some rst → zw_G p l e zrm_LG_chooseForAll s m args below meth c (MQ below (zw_Q E none rst A) args s 0 0 A) E A 3 0 2 [some (.ref 0), some (.int l1), some (.int l2)] [] st) (l1 : Int32) (l2 : Int32) (st : zS)  (h : zb_LG_chooseForAll_2 N r2 l1 l2 st = some rst) : zw_G p l e zrm_LG_chooseForAll s m args below meth c (MQ below (zw_Q E none rst A) args s 0 0 A) E A 3 0 2 [some (.ref 0), some (.int l1), some (.int l2)] [] st := by
  unfold zb_LG_chooseForAll_2 at h
  refine zg_iload_n F.1 zd_LG_chooseForAll_2 rfl rfl ?_
  refine zg_aload_n F.1 zd_LG_chooseForAll_3 rfl rfl ?_
  refine zg_getI0 F.1 (by decide) rfl 6 (by decide) (st 0 6) rfl rfl zwf_LG_71 zd_LG_chooseForAll_4 ?_
  refine zg_icmp_ge F.1 29 zd_LG_chooseForAll_7 rfl (fun hc => ?_) (fun hc => ?_)
  · rw [if_pos hc] at h
    cases h
    exact zg_vret F zd_LG_chooseForAll_29
  · rw [if_neg hc] at h
    refine zg_iload_n F.1 zd_LG_chooseForAll_10 rfl rfl ?_
    refine zg_iconst F.1 1 1 (by decide) zd_LG_chooseForAll_11 ?_
    refine zg_iload_n F.1 zd_LG_chooseForAll_12 rfl rfl ?_
    refine zg_ishl F.1 zd_LG_chooseForAll_13 ?_
    refine zg_iand F.1 zd_LG_chooseForAll_14 ?_
    refine zg_if_eq F.1 23 zd_LG_chooseForAll_15 rfl (fun hc => ?_) (fun hc => ?_)
    · rw [if_pos hc] at h
      exact zl_LG_chooseForAll_23 F hr2 l1 l2 st h
    · rw [if_neg hc] at h
      refine zg_aload_n F.1 zd_LG_chooseForAll_18 rfl rfl ?_
      refine zg_iload_n F.1 zd_LG_chooseForAll_19 rfl rfl ?_
      obtain ⟨t20, hc20, h⟩ := Option.bind_eq_some_iff.mp h
      refine zg_callV F (As := [.int l2]) (rest := []) (zk_LG_chooseCar F.1.2.2 N l2 st hc20) rfl rfl zcal_LG_chooseCar zml_LG_89 ⟨(Nat.le_of_ble_eq_true rfl), (Nat.le_of_ble_eq_true rfl)⟩ (zg_rec0 F.1 (by decide) rfl) rfl (Nat.le_of_ble_eq_true rfl) ⟨(Nat.le_of_ble_eq_true rfl), (Nat.le_of_ble_eq_true rfl)⟩ zd_LG_chooseForAll_20 ?_
      exact zl_LG_chooseForAll_23 F hr2 l1 l2 t20 h
def zf_LG_chooseForAll_2 (N : Nat)  : Nat → Int32 → Int32 → zS → Option zS
  | 0, _, _, _ => none
  | n + 1, l1, l2, st => zb_LG_chooseForAll_2 N  (zf_LG_chooseForAll_2 N  n) l1 l2 st
theorem zl_LG_chooseForAll_2 (F : zw_X p m c zo_LG_chooseForAll 3 s args zR0 E 10 A meth none) {N : Nat} {rst : zS}   : ∀ (n : Nat) (l1 : Int32) (l2 : Int32) (st : zS)  (h : zf_LG_chooseForAll_2 N  n l1 l2 st = some rst), zw_G p l e zrm_LG_chooseForAll s m args below meth c (MQ below (zw_Q E none rst A) args s 0 0 A) E A 3 0 2 [some (.ref 0), some (.int l1), some (.int l2)] [] st := by
  intro n
  induction n with
  | zero => intro l1 l2 st  h; cases h
  | succ n ih => intro l1 l2 st  h; exact zlb_LG_chooseForAll_2 F  ih l1 l2 st  h
def zf_LG_chooseForAll (N : Nat) (a1 : Int32) (st : zS) : Option zS := zf_LG_chooseForAll_2 N N a1 0 st
set_option maxHeartbeats 4000000 in
theorem zl_LG_chooseForAll_0 (F : zw_X p m c zo_LG_chooseForAll 3 s args zR0 E 10 A meth none) {N : Nat} {rst : zS} (a1 : Int32) (st : zS)  (h : zf_LG_chooseForAll N a1 st = some rst) : zw_G p l e zrm_LG_chooseForAll s m args below meth c (MQ below (zw_Q E none rst A) args s 0 0 A) E A 3 0 0 [some (.ref 0), some (.int a1), none] [] st := by
  unfold zf_LG_chooseForAll at h
  refine zg_iconst F.1 0 0 (by decide) zd_LG_chooseForAll_0 ?_
  refine zg_istore_n F.1 [some (.ref 0), some (.int a1), some (.int 0)] zd_LG_chooseForAll_1 rfl (by decide) rfl ?_
  exact zl_LG_chooseForAll_2 F N a1 0 st h
theorem zk_LG_chooseForAll {E : zE} (hn : zw_n E 10) (N : Nat) (a1 : Int32) (st : zS)  {rst : zS} (h : zf_LG_chooseForAll N a1 st = some rst) : zw_M l zy_LG_chooseForAll (Cond.code zy_LG_chooseForAll zo_LG_chooseForAll 3 none :: zwAll) zrm_LG_chooseForAll E [.ref 0, .int a1] st none rst :=
  zw_enter (by decide) rfl hn (Nat.le_of_ble_eq_true rfl) (by simp [Value.category]) 1 (fun p e s m args below meth c A F => zl_LG_chooseForAll_0 F a1 st  h)
set_option maxRecDepth 100000 in
theorem zwf_LG_194 : Cond.fieldLink zR0 194 (zT3 4).1 (zT3 4).2.1 (zT3 4).2.2.1 ∈ zwAll := zw_at 176 rfl rfl
set_option maxRecDepth 100000 in
theorem zwf_LG_191 : Cond.fieldLink zR0 191 (zT3 5).1 (zT3 5).2.1 (zT3 5).2.2.1 ∈ zwAll := zw_at 178 rfl rfl
set_option maxRecDepth 100000 in
theorem zml_LG_289 : Cond.methodLink zR0 289 Lib.Math.max.name ∈ zwAll := zw_at 524 rfl rfl
set_option maxRecDepth 100000 in
theorem zwm_max_1 : Cond.static Lib.Math.max.name ∈ zwAll := zw_at 525 rfl rfl
set_option maxRecDepth 100000 in
theorem zwm_max_2 : Cond.initialized "java/lang/Math" ∈ zwAll := zw_at 60 rfl rfl
set_option maxRecDepth 100000 in
theorem zwm_max_3 : Cond.code Lib.Math.max.name Lib.Math.max.code 2 (some .int) ∈ zwAll := zw_at 526 rfl rfl
abbrev zrm_LG_changeRider : Room := { frames := 1, cells := 0, slots := 0, locals := 21 }
def zf_LG_changeRider_81 (N : Nat)   (st : zS) : Option zS := some st
set_option maxHeartbeats 4000000 in
theorem zl_LG_changeRider_81 (F : zw_X p m c zo_LG_changeRider 3 s args zR0 E 10 A meth none) {N : Nat} {rst : zS}    (st : zS)  (h : zf_LG_changeRider_81 N   st = some rst) : zw_G p l e zrm_LG_changeRider s m args below meth c (MQ below (zw_Q E none rst A) args s 0 0 A) E A 3 0 81 [none, none, none] [] st := by
  unfold zf_LG_changeRider_81 at h
  cases h
  exact zg_vret F zd_LG_changeRider_81
def zf_LG_changeRider_22 (N : Nat)  (l1 : Nat) (l2 : Int32) (s0 : Int32) (s1 : Nat) (st : zS) : Option zS := (if l2 = 3 then zf_LG_changeRider_81 N (zp (zp (zp (zp (zp st s1 2 s0) l1 5 ((st 0 8) - ((zp st s1 2 s0) l1 4))) 0 9 ((st 0 9) + 1)) 0 10 (if (st 0 10) < ((st 0 8) - ((zp st s1 2 s0) l1 4)) then ((st 0 8) - ((zp st s1 2 s0) l1 4)) else (st 0 10))) 0 11 ((st 0 11) + ((st 0 8) - ((zp st s1 2 s0) l1 4)))) else zf_LG_changeRider_81 N (zp (zp st s1 2 s0) l1 5 ((st 0 8) - ((zp st s1 2 s0) l1 4))))
set_option maxHeartbeats 4000000 in
theorem zl_LG_changeRider_22 (F : zw_X p m c zo_LG_changeRider 3 s args zR0 E 10 A meth none) {N : Nat} {rst : zS}   (l1 : Nat) (l2 : Int32) (s0 : Int32) (s1 : Nat) (st : zS) (k1 : zw_kind l1 = 3) (h1 : zw_kind s1 = 3) (h : zf_LG_changeRider_22 N  l1 l2 s0 s1 st = some rst) : zw_G p l e zrm_LG_changeRider s m args below meth c (MQ below (zw_Q E none rst A) args s 0 0 A) E A 3 0 22 [some (.ref 0), some (.ref l1), some (.int l2)] [.int s0, .ref s1] st := by
  unfold zf_LG_changeRider_22 at h
  refine zg_putI3 F.1 (by decide) h1 2 (by decide) (Or.inr (Or.inr (Or.inl rfl))) .int (by decide) rfl rfl rfl zwf_LG_179 zd_LG_changeRider_22 ?_
  refine zg_aload_n F.1 zd_LG_changeRider_25 rfl rfl ?_
  refine zg_aload_n F.1 zd_LG_changeRider_26 rfl rfl ?_
  refine zg_getI0 F.1 (by decide) rfl 8 (by decide) (st 0 8) rfl (zp_q _ _ (zw_kne h1 (by decide))) zwf_LG_80 zd_LG_changeRider_27 ?_
  refine zg_aload_n F.1 zd_LG_changeRider_30 rfl rfl ?_
  refine zg_getI3 F.1 (by decide) k1 4 (by decide) ((zp st s1 2 s0) l1 4) rfl rfl zwf_LG_194 zd_LG_changeRider_31 ?_
  refine zg_isub F.1 zd_LG_changeRider_34 ?_
  refine zg_putI3 F.1 (by decide) k1 5 (by decide) (Or.inr (Or.inr (Or.inr (Or.inr (Or.inr rfl))))) .int (by decide) rfl rfl rfl zwf_LG_191 zd_LG_changeRider_35 ?_
  refine zg_iload_n F.1 zd_LG_changeRider_38 rfl rfl ?_
  refine zg_iconst F.1 3 3 (by decide) zd_LG_changeRider_39 ?_
  refine zg_icmp_ne F.1 81 zd_LG_changeRider_40 rfl (fun hc => ?_) (fun hc => ?_)
  · rw [if_neg hc] at h
    exact zg_le (zw_len (zw_len (zw_len zw_le0))) (zl_LG_changeRider_81 F (zp (zp st s1 2 s0) l1 5 ((st 0 8) - ((zp st s1 2 s0) l1 4))) h)
  · rw [if_pos hc] at h
    refine zg_aload_n F.1 zd_LG_changeRider_43 rfl rfl ?_
    refine zg_dup F.1 zd_LG_changeRider_44 rfl ?_
    refine zg_getI0 F.1 (by decide) rfl 9 (by decide) (st 0 9) rfl ((zp_q _ _ (zw_kne k1 (by decide))).trans (zp_q _ _ (zw_kne h1 (by decide)))) zwf_LG_238 zd_LG_changeRider_45 ?_
    refine zg_iconst F.1 1 1 (by decide) zd_LG_changeRider_48 ?_
    refine zg_iadd F.1 zd_LG_changeRider_49 ?_
    refine zg_putI0 F.1 (by decide) rfl 9 (by decide) (Or.inr (Or.inr (Or.inr (Or.inr (Or.inl rfl))))) .int (by decide) rfl rfl rfl zwf_LG_238 zd_LG_changeRider_50 ?_
    refine zg_aload_n F.1 zd_LG_changeRider_53 rfl rfl ?_
    refine zg_aload_n F.1 zd_LG_changeRider_54 rfl rfl ?_
    refine zg_getI0 F.1 (by decide) rfl 10 (by decide) (st 0 10) rfl ((zp_o _ _ (by decide)).trans ((zp_q _ _ (zw_kne k1 (by decide))).trans (zp_q _ _ (zw_kne h1 (by decide))))) zwf_LG_241 zd_LG_changeRider_55 ?_
    refine zg_aload_n F.1 zd_LG_changeRider_58 rfl rfl ?_
    refine zg_getI3 F.1 (by decide) k1 5 (by decide) ((st 0 8) - ((zp st s1 2 s0) l1 4)) rfl ((zp_q _ _ (zw_kne' k1 (by decide))).trans (zp_s _ _ _ _)) zwf_LG_191 zd_LG_changeRider_59 ?_
    refine zg_mmax F.1 zml_LG_289 zwm_max_1 zwm_max_2 zwm_max_3 (Nat.le_of_ble_eq_true rfl) (Nat.le_of_ble_eq_true rfl) (Nat.le_of_ble_eq_true rfl) (Nat.le_of_ble_eq_true rfl) zd_LG_changeRider_62 ?_
    refine zg_putI0 F.1 (by decide) rfl 10 (by decide) (Or.inr (Or.inr (Or.inr (Or.inr (Or.inr (Or.inl rfl)))))) .int (by decide) rfl rfl rfl zwf_LG_241 zd_LG_changeRider_65 ?_
    refine zg_aload_n F.1 zd_LG_changeRider_68 rfl rfl ?_
    refine zg_dup F.1 zd_LG_changeRider_69 rfl ?_
    refine zg_getI0 F.1 (by decide) rfl 11 (by decide) (st 0 11) rfl ((zp_o _ _ (by decide)).trans ((zp_o _ _ (by decide)).trans ((zp_q _ _ (zw_kne k1 (by decide))).trans (zp_q _ _ (zw_kne h1 (by decide)))))) zwf_LG_244 zd_LG_changeRider_70 ?_
    refine zg_aload_n F.1 zd_LG_changeRider_73 rfl rfl ?_
    refine zg_getI3 F.1 (by decide) k1 5 (by decide) ((st 0 8) - ((zp st s1 2 s0) l1 4)) rfl ((zp_q _ _ (zw_kne' k1 (by decide))).trans ((zp_q _ _ (zw_kne' k1 (by decide))).trans (zp_s _ _ _ _))) zwf_LG_191 zd_LG_changeRider_74 ?_
    refine zg_iadd F.1 zd_LG_changeRider_77 ?_
    refine zg_putI0 F.1 (by decide) rfl 11 (by decide) (Or.inr (Or.inr (Or.inr (Or.inr (Or.inr (Or.inr rfl)))))) .int (by decide) rfl rfl rfl zwf_LG_244 zd_LG_changeRider_78 ?_
    exact zg_le (zw_len (zw_len (zw_len zw_le0))) (zl_LG_changeRider_81 F (zp (zp (zp (zp (zp st s1 2 s0) l1 5 ((st 0 8) - ((zp st s1 2 s0) l1 4))) 0 9 ((st 0 9) + 1)) 0 10 (if (st 0 10) < ((st 0 8) - ((zp st s1 2 s0) l1 4)) then ((st 0 8) - ((zp st s1 2 s0) l1 4)) else (st 0 10))) 0 11 ((st 0 11) + ((st 0 8) - ((zp st s1 2 s0) l1 4)))) h)
def zf_LG_changeRider (N : Nat) (a1 : Nat) (a2 : Int32) (st : zS) : Option zS := (if a2 = 2 then some (zp st a1 2 1) else (if a2 = 3 then zf_LG_changeRider_22 N a1 a2 2 a1 st else zf_LG_changeRider_22 N a1 a2 3 a1 st))
set_option maxHeartbeats 4000000 in
theorem zl_LG_changeRider_0 (F : zw_X p m c zo_LG_changeRider 3 s args zR0 E 10 A meth none) {N : Nat} {rst : zS} (a1 : Nat) (a2 : Int32) (st : zS) (k1 : zw_kind a1 = 3) (h : zf_LG_changeRider N a1 a2 st = some rst) : zw_G p l e zrm_LG_changeRider s m args below meth c (MQ below (zw_Q E none rst A) args s 0 0 A) E A 3 0 0 [some (.ref 0), some (.ref a1), some (.int a2)] [] st := by
  unfold zf_LG_changeRider at h
  refine zg_iload_n F.1 zd_LG_changeRider_0 rfl rfl ?_
  refine zg_iconst F.1 2 2 (by decide) zd_LG_changeRider_1 ?_
  refine zg_icmp_ne F.1 11 zd_LG_changeRider_2 rfl (fun hc => ?_) (fun hc => ?_)
  · rw [if_neg hc] at h
    refine zg_aload_n F.1 zd_LG_changeRider_11 rfl rfl ?_
    refine zg_iload_n F.1 zd_LG_changeRider_12 rfl rfl ?_
    refine zg_iconst F.1 3 3 (by decide) zd_LG_changeRider_13 ?_
    refine zg_icmp_ne F.1 21 zd_LG_changeRider_14 rfl (fun hc => ?_) (fun hc => ?_)
    · rw [if_neg hc] at h
      refine zg_iconst F.1 3 3 (by decide) zd_LG_changeRider_21 ?_
      exact zl_LG_changeRider_22 F a1 a2 3 a1 st k1 k1 h
    · rw [if_pos hc] at h
      refine zg_iconst F.1 2 2 (by decide) zd_LG_changeRider_17 ?_
      refine zg_goto F.1 22 zd_LG_changeRider_18 rfl ?_
      exact zl_LG_changeRider_22 F a1 a2 2 a1 st k1 k1 h
  · rw [if_pos hc] at h
    refine zg_aload_n F.1 zd_LG_changeRider_5 rfl rfl ?_
    refine zg_iconst F.1 1 1 (by decide) zd_LG_changeRider_6 ?_
    refine zg_putI3 F.1 (by decide) k1 2 (by decide) (Or.inr (Or.inr (Or.inl rfl))) .int (by decide) rfl rfl rfl zwf_LG_179 zd_LG_changeRider_7 ?_
    cases h
    exact zg_vret F zd_LG_changeRider_10
theorem zk_LG_changeRider {E : zE} (hn : zw_n E 10) (N : Nat) (a1 : Nat) (a2 : Int32) (st : zS) (k1 : zw_kind a1 = 3) {rst : zS} (h : zf_LG_changeRider N a1 a2 st = some rst) : zw_M l zy_LG_changeRider (Cond.code zy_LG_changeRider zo_LG_changeRider 3 none :: zwAll) zrm_LG_changeRider E [.ref 0, .ref a1, .int a2] st none rst :=
  zw_enter (by decide) rfl hn (Nat.le_of_ble_eq_true rfl) (by simp [Value.category]) 0 (fun p e s m args below meth c A F => zl_LG_changeRider_0 F a1 a2 st k1 h)
set_option maxRecDepth 100000 in
theorem zcal_LG_changeRider : zw_cal zR0 zy_LG_changeRider zo_LG_changeRider 3 none 2 := ⟨zw_at 522 rfl rfl, zw_at 21 rfl rfl, zw_at 47 rfl rfl, zw_at 523 rfl rfl, rfl, by decide, by decide, by decide +kernel⟩
set_option maxRecDepth 100000 in
theorem zml_LG_285 : Cond.methodLink zR0 285 zy_LG_changeRider ∈ zwAll := zw_at 520 rfl rfl
abbrev zrm_LG_noteAll : Room := { frames := 2, cells := 0, slots := 0, locals := 43 }
def zf_LG_noteAll_48 (N : Nat) (r3 : Int32 → Int32 → Int32 → Int32 → zS → Option zS) (l1 : Int32) (l2 : Int32) (l3 : Int32) (l4 : Int32) (st : zS) : Option zS := r3 l1 l2 l3 (l4 + 1) st
set_option maxHeartbeats 4000000 in
theorem zl_LG_noteAll_48 (F : zw_X p m c zo_LG_noteAll 5 s args zR0 E 10 A meth none) {N : Nat} {rst : zS} {r3 : Int32 → Int32 → Int32 → Int32 → zS → Option zS} (hr3 : ∀ (l1 : Int32) (l2 : Int32) (l3 : Int32) (l4 : Int32) (st : zS) , r3 l1 l2 l3 l4 st = some rst → zw_G p l e zrm_LG_noteAll s m args below meth c (MQ below (zw_Q E none rst A) args s 0 0 A) E A 5 0 3 [some (.ref 0), some (.int l1), some (.int l2), some (.int l3), some (.int l4)] [] st) (l1 : Int32) (l2 : Int32) (l3 : Int32) (l4 : Int32) (st : zS)  (h : zf_LG_noteAll_48 N r3 l1 l2 l3 l4 st = some rst) : zw_G p l e zrm_LG_noteAll s m args below meth c (MQ below (zw_Q E none rst A) args s 0 0 A) E A 5 0 48 [some (.ref 0), some (.int l1), some (.int l2), some (.int l3), some (.int l4)] [] st := by
  unfold zf_LG_noteAll_48 at h
  refine zg_iinc F.1 (l4 + 1) [some (.ref 0), some (.int l1), some (.int l2), some (.int l3), some (.int (l4 + 1))] zd_LG_noteAll_48 rfl (by rw [lit1]) (by decide) rfl ?_
  refine zg_goto F.1 3 zd_LG_noteAll_51 rfl ?_
  exact hr3 l1 l2 l3 (l4 + 1) st h
def zb_LG_noteAll_3 (N : Nat) (r3 : Int32 → Int32 → Int32 → Int32 → zS → Option zS) (l1 : Int32) (l2 : Int32) (l3 : Int32) (l4 : Int32) (st : zS) : Option zS := (if (st 0 6) ≤ l4 then some st else (if (l1 &&& (1 <<< (l4 &&& 31))) = 0 then zf_LG_noteAll_48 N r3 l1 l2 l3 l4 st else (if l4 < 0 ∨ 24 ≤ l4.toNatClampNeg then none else ((zf_LG_changeRider N (11 + l4.toNatClampNeg) l2 st).bind fun t30 => ((zf_Lo_note N (t30 0 8) l2 l4 l3 t30).bind fun t45 => zf_LG_noteAll_48 N r3 l1 l2 l3 l4 t45)))))
set_option maxHeartbeats 4000000 in
theorem zlb_LG_noteAll_3 (F : zw_X p m c zo_LG_noteAll 5 s args zR0 E 10 A meth none) {N : Nat} {rst : zS} {r3 : Int32 → Int32 → Int32 → Int32 → zS → Option zS} (hr3 : ∀ (l1 : Int32) (l2 : Int32) (l3 : Int32) (l4 : Int32) (st : zS) , r3 l1 l2 l3 l4 st = some rst → zw_G p l e zrm_LG_noteAll s m args below meth c (MQ below (zw_Q E none rst A) args s 0 0 A) E A 5 0 3 [some (.ref 0), some (.int l1), some (.int l2), some (.int l3), some (.int l4)] [] st) (l1 : Int32) (l2 : Int32) (l3 : Int32) (l4 : Int32) (st : zS)  (h : zb_LG_noteAll_3 N r3 l1 l2 l3 l4 st = some rst) : zw_G p l e zrm_LG_noteAll s m args below meth c (MQ below (zw_Q E none rst A) args s 0 0 A) E A 5 0 3 [some (.ref 0), some (.int l1), some (.int l2), some (.int l3), some (.int l4)] [] st := by
  unfold zb_LG_noteAll_3 at h
  refine zg_iload F.1 zd_LG_noteAll_3 rfl ?_
  refine zg_aload_n F.1 zd_LG_noteAll_5 rfl rfl ?_
  refine zg_getI0 F.1 (by decide) rfl 6 (by decide) (st 0 6) rfl rfl zwf_LG_71 zd_LG_noteAll_6 ?_
  refine zg_icmp_ge F.1 54 zd_LG_noteAll_9 rfl (fun hc => ?_) (fun hc => ?_)
  · rw [if_pos hc] at h
    cases h
    exact zg_vret F zd_LG_noteAll_54
  · rw [if_neg hc] at h
    refine zg_iload_n F.1 zd_LG_noteAll_12 rfl rfl ?_
    refine zg_iconst F.1 1 1 (by decide) zd_LG_noteAll_13 ?_
    refine zg_iload F.1 zd_LG_noteAll_14 rfl ?_
    refine zg_ishl F.1 zd_LG_noteAll_16 ?_
    refine zg_iand F.1 zd_LG_noteAll_17 ?_
    refine zg_if_eq F.1 48 zd_LG_noteAll_18 rfl (fun hc => ?_) (fun hc => ?_)
    · rw [if_pos hc] at h
      exact zl_LG_noteAll_48 F hr3 l1 l2 l3 l4 st h
    · rw [if_neg hc] at h
      refine zg_aload_n F.1 zd_LG_noteAll_21 rfl rfl ?_
      refine zg_aload_n F.1 zd_LG_noteAll_22 rfl rfl ?_
      refine zg_getR0 F.1 (by decide) rfl 3 (by decide) 10 rfl zwf_LG_29 zd_LG_noteAll_23 ?_
      refine zg_iload F.1 zd_LG_noteAll_26 rfl ?_
      by_cases hi28 : l4 < 0 ∨ 24 ≤ l4.toNatClampNeg
      case pos => rw [if_pos hi28] at h; cases h
      rw [if_neg hi28] at h
      refine zg_ald7 F.1 (by decide) rfl hi28 l4.toNatClampNeg rfl zd_LG_noteAll_28 ?_
      refine zg_iload_n F.1 zd_LG_noteAll_29 rfl rfl ?_
      obtain ⟨t30, hc30, h⟩ := Option.bind_eq_some_iff.mp h
      refine zg_callV F (As := [.ref (11 + l4.toNatClampNeg), .int l2]) (rest := []) (zk_LG_changeRider F.1.2.2 N (11 + l4.toNatClampNeg) l2 st (zw_riderI hi28) hc30) rfl rfl zcal_LG_changeRider zml_LG_285 ⟨(Nat.le_of_ble_eq_true rfl), (Nat.le_of_ble_eq_true rfl)⟩ (zg_rec0 F.1 (by decide) rfl) rfl (Nat.le_of_ble_eq_true rfl) ⟨(Nat.le_of_ble_eq_true rfl), (Nat.le_of_ble_eq_true rfl)⟩ zd_LG_noteAll_30 ?_
      refine zg_aload_n F.1 zd_LG_noteAll_33 rfl rfl ?_
      refine zg_getR0 F.1 (by decide) rfl 4 (by decide) 35 rfl zwf_LG_37 zd_LG_noteAll_34 ?_
      refine zg_aload_n F.1 zd_LG_noteAll_37 rfl rfl ?_
      refine zg_getI0 F.1 (by decide) rfl 8 (by decide) (t30 0 8) rfl rfl zwf_LG_80 zd_LG_noteAll_38 ?_
      refine zg_iload_n F.1 zd_LG_noteAll_41 rfl rfl ?_
      refine zg_iload F.1 zd_LG_noteAll_42 rfl ?_
      refine zg_iload_n F.1 zd_LG_noteAll_44 rfl rfl ?_
      obtain ⟨t45, hc45, h⟩ := Option.bind_eq_some_iff.mp h
      refine zg_callV F (As := [.int (t30 0 8), .int l2, .int l4, .int l3]) (rest := []) (zk_Lo_note F.1.2.2 N (t30 0 8) l2 l4 l3 t30 hc45) rfl rfl zcal_Lo_note zml_LG_272 ⟨(Nat.le_of_ble_eq_true rfl), (Nat.le_of_ble_eq_true rfl)⟩ (zg_rec4 F.1 (by decide) rfl) rfl (Nat.le_of_ble_eq_true rfl) ⟨(Nat.le_of_ble_eq_true rfl), (Nat.le_of_ble_eq_true rfl)⟩ zd_LG_noteAll_45 ?_
      exact zl_LG_noteAll_48 F hr3 l1 l2 l3 l4 t45 h
def zf_LG_noteAll_3 (N : Nat)  : Nat → Int32 → Int32 → Int32 → Int32 → zS → Option zS
  | 0, _, _, _, _, _ => none
  | n + 1, l1, l2, l3, l4, st => zb_LG_noteAll_3 N  (zf_LG_noteAll_3 N  n) l1 l2 l3 l4 st
theorem zl_LG_noteAll_3 (F : zw_X p m c zo_LG_noteAll 5 s args zR0 E 10 A meth none) {N : Nat} {rst : zS}   : ∀ (n : Nat) (l1 : Int32) (l2 : Int32) (l3 : Int32) (l4 : Int32) (st : zS)  (h : zf_LG_noteAll_3 N  n l1 l2 l3 l4 st = some rst), zw_G p l e zrm_LG_noteAll s m args below meth c (MQ below (zw_Q E none rst A) args s 0 0 A) E A 5 0 3 [some (.ref 0), some (.int l1), some (.int l2), some (.int l3), some (.int l4)] [] st := by
  intro n
  induction n with
  | zero => intro l1 l2 l3 l4 st  h; cases h
  | succ n ih => intro l1 l2 l3 l4 st  h; exact zlb_LG_noteAll_3 F  ih l1 l2 l3 l4 st  h
def zf_LG_noteAll (N : Nat) (a1 : Int32) (a2 : Int32) (a3 : Int32) (st : zS) : Option zS := zf_LG_noteAll_3 N N a1 a2 a3 0 st
set_option maxHeartbeats 4000000 in
theorem zl_LG_noteAll_0 (F : zw_X p m c zo_LG_noteAll 5 s args zR0 E 10 A meth none) {N : Nat} {rst : zS} (a1 : Int32) (a2 : Int32) (a3 : Int32) (st : zS)  (h : zf_LG_noteAll N a1 a2 a3 st = some rst) : zw_G p l e zrm_LG_noteAll s m args below meth c (MQ below (zw_Q E none rst A) args s 0 0 A) E A 5 0 0 [some (.ref 0), some (.int a1), some (.int a2), some (.int a3), none] [] st := by
  unfold zf_LG_noteAll at h
  refine zg_iconst F.1 0 0 (by decide) zd_LG_noteAll_0 ?_
  refine zg_istore F.1 [some (.ref 0), some (.int a1), some (.int a2), some (.int a3), some (.int 0)] zd_LG_noteAll_1 (by decide) rfl ?_
  exact zl_LG_noteAll_3 F N a1 a2 a3 0 st h
theorem zk_LG_noteAll {E : zE} (hn : zw_n E 10) (N : Nat) (a1 : Int32) (a2 : Int32) (a3 : Int32) (st : zS)  {rst : zS} (h : zf_LG_noteAll N a1 a2 a3 st = some rst) : zw_M l zy_LG_noteAll (Cond.code zy_LG_noteAll zo_LG_noteAll 5 none :: zwAll) zrm_LG_noteAll E [.ref 0, .int a1, .int a2, .int a3] st none rst :=
  zw_enter (by decide) rfl hn (Nat.le_of_ble_eq_true rfl) (by simp [Value.category]) 1 (fun p e s m args below meth c A F => zl_LG_noteAll_0 F a1 a2 a3 st  h)
set_option maxRecDepth 100000 in
theorem zwf_LG_203 : Cond.fieldLink zR0 203 (zT2 10).1 (zT2 10).2.1 (zT2 10).2.2.1 ∈ zwAll := zw_at 128 rfl rfl
set_option maxRecDepth 100000 in
theorem zcal_LG_noteAll : zw_cal zR0 zy_LG_noteAll zo_LG_noteAll 5 none 3 := ⟨zw_at 518 rfl rfl, zw_at 20 rfl rfl, zw_at 47 rfl rfl, zw_at 519 rfl rfl, rfl, by decide, by decide, by decide +kernel⟩
set_option maxRecDepth 100000 in
theorem zml_LG_279 : Cond.methodLink zR0 279 zy_LG_noteAll ∈ zwAll := zw_at 516 rfl rfl
set_option maxRecDepth 100000 in
theorem zwf_LG_282 : Cond.fieldLink zR0 282 (zT2 12).1 (zT2 12).2.1 (zT2 12).2.2.1 ∈ zwAll := zw_at 132 rfl rfl
abbrev zrm_LG_noteExchange : Room := { frames := 3, cells := 0, slots := 0, locals := 67 }
def zf_LG_noteExchange_58 (N : Nat)   (st : zS) : Option zS := some st
set_option maxHeartbeats 4000000 in
theorem zl_LG_noteExchange_58 (F : zw_X p m c zo_LG_noteExchange 3 s args zR0 E 10 A meth none) {N : Nat} {rst : zS}    (st : zS)  (h : zf_LG_noteExchange_58 N   st = some rst) : zw_G p l e zrm_LG_noteExchange s m args below meth c (MQ below (zw_Q E none rst A) args s 0 0 A) E A 3 0 58 [none, none, none] [] st := by
  unfold zf_LG_noteExchange_58 at h
  cases h
  exact zg_vret F zd_LG_noteExchange_58
def zf_LG_noteExchange_41 (N : Nat)  (l1 : Int32) (l2 : Nat) (st : zS) : Option zS := (if (st l2 12) = 0 then zf_LG_noteExchange_58 N st else ((zf_LG_noteAll N (st l2 12) 2 l1 st).bind fun t55 => zf_LG_noteExchange_58 N t55))
set_option maxHeartbeats 4000000 in
theorem zl_LG_noteExchange_41 (F : zw_X p m c zo_LG_noteExchange 3 s args zR0 E 10 A meth none) {N : Nat} {rst : zS}   (l1 : Int32) (l2 : Nat) (st : zS) (k2 : zw_kind l2 = 2) (h : zf_LG_noteExchange_41 N  l1 l2 st = some rst) : zw_G p l e zrm_LG_noteExchange s m args below meth c (MQ below (zw_Q E none rst A) args s 0 0 A) E A 3 0 41 [some (.ref 0), some (.int l1), some (.ref l2)] [] st := by
  unfold zf_LG_noteExchange_41 at h
  refine zg_aload_n F.1 zd_LG_noteExchange_41 rfl rfl ?_
  refine zg_getI2 F.1 (by decide) k2 12 (by decide) (st l2 12) rfl rfl zwf_LG_282 zd_LG_noteExchange_42 ?_
  refine zg_if_eq F.1 58 zd_LG_noteExchange_45 rfl (fun hc => ?_) (fun hc => ?_)
  · rw [if_pos hc] at h
    exact zg_le (zw_len (zw_len (zw_len zw_le0))) (zl_LG_noteExchange_58 F st h)
  · rw [if_neg hc] at h
    refine zg_aload_n F.1 zd_LG_noteExchange_48 rfl rfl ?_
    refine zg_aload_n F.1 zd_LG_noteExchange_49 rfl rfl ?_
    refine zg_getI2 F.1 (by decide) k2 12 (by decide) (st l2 12) rfl rfl zwf_LG_282 zd_LG_noteExchange_50 ?_
    refine zg_iconst F.1 2 2 (by decide) zd_LG_noteExchange_53 ?_
    refine zg_iload_n F.1 zd_LG_noteExchange_54 rfl rfl ?_
    obtain ⟨t55, hc55, h⟩ := Option.bind_eq_some_iff.mp h
    refine zg_callV F (As := [.int (st l2 12), .int 2, .int l1]) (rest := []) (zk_LG_noteAll F.1.2.2 N (st l2 12) 2 l1 st hc55) rfl rfl zcal_LG_noteAll zml_LG_279 ⟨(Nat.le_of_ble_eq_true rfl), (Nat.le_of_ble_eq_true rfl)⟩ (zg_rec0 F.1 (by decide) rfl) rfl (Nat.le_of_ble_eq_true rfl) ⟨(Nat.le_of_ble_eq_true rfl), (Nat.le_of_ble_eq_true rfl)⟩ zd_LG_noteExchange_55 ?_
    exact zg_le (zw_len (zw_len (zw_len zw_le0))) (zl_LG_noteExchange_58 F t55 h)
def zf_LG_noteExchange_24 (N : Nat)  (l1 : Int32) (l2 : Nat) (st : zS) : Option zS := (if (st l2 11) = 0 then zf_LG_noteExchange_41 N l1 l2 st else ((zf_LG_noteAll N (st l2 11) 4 l1 st).bind fun t38 => zf_LG_noteExchange_41 N l1 l2 t38))
set_option maxHeartbeats 4000000 in
theorem zl_LG_noteExchange_24 (F : zw_X p m c zo_LG_noteExchange 3 s args zR0 E 10 A meth none) {N : Nat} {rst : zS}   (l1 : Int32) (l2 : Nat) (st : zS) (k2 : zw_kind l2 = 2) (h : zf_LG_noteExchange_24 N  l1 l2 st = some rst) : zw_G p l e zrm_LG_noteExchange s m args below meth c (MQ below (zw_Q E none rst A) args s 0 0 A) E A 3 0 24 [some (.ref 0), some (.int l1), some (.ref l2)] [] st := by
  unfold zf_LG_noteExchange_24 at h
  refine zg_aload_n F.1 zd_LG_noteExchange_24 rfl rfl ?_
  refine zg_getI2 F.1 (by decide) k2 11 (by decide) (st l2 11) rfl rfl zwf_LG_206 zd_LG_noteExchange_25 ?_
  refine zg_if_eq F.1 41 zd_LG_noteExchange_28 rfl (fun hc => ?_) (fun hc => ?_)
  · rw [if_pos hc] at h
    exact zl_LG_noteExchange_41 F l1 l2 st k2 h
  · rw [if_neg hc] at h
    refine zg_aload_n F.1 zd_LG_noteExchange_31 rfl rfl ?_
    refine zg_aload_n F.1 zd_LG_noteExchange_32 rfl rfl ?_
    refine zg_getI2 F.1 (by decide) k2 11 (by decide) (st l2 11) rfl rfl zwf_LG_206 zd_LG_noteExchange_33 ?_
    refine zg_iconst F.1 4 4 (by decide) zd_LG_noteExchange_36 ?_
    refine zg_iload_n F.1 zd_LG_noteExchange_37 rfl rfl ?_
    obtain ⟨t38, hc38, h⟩ := Option.bind_eq_some_iff.mp h
    refine zg_callV F (As := [.int (st l2 11), .int 4, .int l1]) (rest := []) (zk_LG_noteAll F.1.2.2 N (st l2 11) 4 l1 st hc38) rfl rfl zcal_LG_noteAll zml_LG_279 ⟨(Nat.le_of_ble_eq_true rfl), (Nat.le_of_ble_eq_true rfl)⟩ (zg_rec0 F.1 (by decide) rfl) rfl (Nat.le_of_ble_eq_true rfl) ⟨(Nat.le_of_ble_eq_true rfl), (Nat.le_of_ble_eq_true rfl)⟩ zd_LG_noteExchange_38 ?_
    exact zl_LG_noteExchange_41 F l1 l2 t38 k2 h
def zf_LG_noteExchange (N : Nat) (a1 : Int32) (st : zS) : Option zS := (if a1 < 0 ∨ 4 ≤ a1.toNatClampNeg then none else (if (st (5 + a1.toNatClampNeg) 10) = 0 then zf_LG_noteExchange_24 N a1 (5 + a1.toNatClampNeg) st else ((zf_LG_noteAll N (st (5 + a1.toNatClampNeg) 10) 3 a1 st).bind fun t21 => zf_LG_noteExchange_24 N a1 (5 + a1.toNatClampNeg) t21)))
set_option maxHeartbeats 4000000 in
theorem zl_LG_noteExchange_0 (F : zw_X p m c zo_LG_noteExchange 3 s args zR0 E 10 A meth none) {N : Nat} {rst : zS} (a1 : Int32) (st : zS)  (h : zf_LG_noteExchange N a1 st = some rst) : zw_G p l e zrm_LG_noteExchange s m args below meth c (MQ below (zw_Q E none rst A) args s 0 0 A) E A 3 0 0 [some (.ref 0), some (.int a1), none] [] st := by
  unfold zf_LG_noteExchange at h
  refine zg_aload_n F.1 zd_LG_noteExchange_0 rfl rfl ?_
  refine zg_getR0 F.1 (by decide) rfl 1 (by decide) 4 rfl zwf_LG_18 zd_LG_noteExchange_1 ?_
  refine zg_iload_n F.1 zd_LG_noteExchange_4 rfl rfl ?_
  by_cases hi5 : a1 < 0 ∨ 4 ≤ a1.toNatClampNeg
  case pos => rw [if_pos hi5] at h; cases h
  rw [if_neg hi5] at h
  refine zg_ald6 F.1 (by decide) rfl hi5 a1.toNatClampNeg rfl zd_LG_noteExchange_5 ?_
  refine zg_astore_n F.1 [some (.ref 0), some (.int a1), some (.ref (5 + a1.toNatClampNeg))] zd_LG_noteExchange_6 rfl (by decide) rfl ?_
  refine zg_aload_n F.1 zd_LG_noteExchange_7 rfl rfl ?_
  refine zg_getI2 F.1 (by decide) (zw_carI hi5) 10 (by decide) (st (5 + a1.toNatClampNeg) 10) rfl rfl zwf_LG_203 zd_LG_noteExchange_8 ?_
  refine zg_if_eq F.1 24 zd_LG_noteExchange_11 rfl (fun hc => ?_) (fun hc => ?_)
  · rw [if_pos hc] at h
    exact zl_LG_noteExchange_24 F a1 (5 + a1.toNatClampNeg) st (zw_carI hi5) h
  · rw [if_neg hc] at h
    refine zg_aload_n F.1 zd_LG_noteExchange_14 rfl rfl ?_
    refine zg_aload_n F.1 zd_LG_noteExchange_15 rfl rfl ?_
    refine zg_getI2 F.1 (by decide) (zw_carI hi5) 10 (by decide) (st (5 + a1.toNatClampNeg) 10) rfl rfl zwf_LG_203 zd_LG_noteExchange_16 ?_
    refine zg_iconst F.1 3 3 (by decide) zd_LG_noteExchange_19 ?_
    refine zg_iload_n F.1 zd_LG_noteExchange_20 rfl rfl ?_
    obtain ⟨t21, hc21, h⟩ := Option.bind_eq_some_iff.mp h
    refine zg_callV F (As := [.int (st (5 + a1.toNatClampNeg) 10), .int 3, .int a1]) (rest := []) (zk_LG_noteAll F.1.2.2 N (st (5 + a1.toNatClampNeg) 10) 3 a1 st hc21) rfl rfl zcal_LG_noteAll zml_LG_279 ⟨(Nat.le_of_ble_eq_true rfl), (Nat.le_of_ble_eq_true rfl)⟩ (zg_rec0 F.1 (by decide) rfl) rfl (Nat.le_of_ble_eq_true rfl) ⟨(Nat.le_of_ble_eq_true rfl), (Nat.le_of_ble_eq_true rfl)⟩ zd_LG_noteExchange_21 ?_
    exact zl_LG_noteExchange_24 F a1 (5 + a1.toNatClampNeg) t21 (zw_carI hi5) h
theorem zk_LG_noteExchange {E : zE} (hn : zw_n E 10) (N : Nat) (a1 : Int32) (st : zS)  {rst : zS} (h : zf_LG_noteExchange N a1 st = some rst) : zw_M l zy_LG_noteExchange (Cond.code zy_LG_noteExchange zo_LG_noteExchange 3 none :: zwAll) zrm_LG_noteExchange E [.ref 0, .int a1] st none rst :=
  zw_enter (by decide) rfl hn (Nat.le_of_ble_eq_true rfl) (by simp [Value.category]) 1 (fun p e s m args below meth c A F => zl_LG_noteExchange_0 F a1 st  h)
set_option maxRecDepth 100000 in
theorem zcal_LG_takeCarsFromWaiting : zw_cal zR0 zy_LG_takeCarsFromWaiting zo_LG_takeCarsFromWaiting 2 none 0 := ⟨zw_at 278 rfl rfl, zw_at 2 rfl rfl, zw_at 47 rfl rfl, zw_at 279 rfl rfl, rfl, by decide, by decide, by decide +kernel⟩
set_option maxRecDepth 100000 in
theorem zml_LG_135 : Cond.methodLink zR0 135 zy_LG_takeCarsFromWaiting ∈ zwAll := zw_at 276 rfl rfl
set_option maxRecDepth 100000 in
theorem zcal_LG_chooseForAll : zw_cal zR0 zy_LG_chooseForAll zo_LG_chooseForAll 3 none 1 := ⟨zw_at 290 rfl rfl, zw_at 5 rfl rfl, zw_at 47 rfl rfl, zw_at 291 rfl rfl, rfl, by decide, by decide, by decide +kernel⟩
set_option maxRecDepth 100000 in
theorem zml_LG_129 : Cond.methodLink zR0 129 zy_LG_chooseForAll ∈ zwAll := zw_at 288 rfl rfl
abbrev zrm_LG_recall : Room := { frames := 6, cells := 0, slots := 0, locals := 139 }
def zf_LG_recall_39 (N : Nat)   (st : zS) : Option zS := some st
set_option maxHeartbeats 4000000 in
theorem zl_LG_recall_39 (F : zw_X p m c zo_LG_recall 2 s args zR0 E 10 A meth none) {N : Nat} {rst : zS}    (st : zS)  (h : zf_LG_recall_39 N   st = some rst) : zw_G p l e zrm_LG_recall s m args below meth c (MQ below (zw_Q E none rst A) args s 0 0 A) E A 2 0 39 [none, none] [] st := by
  unfold zf_LG_recall_39 at h
  cases h
  exact zg_vret F zd_LG_recall_39
def zf_LG_recall (N : Nat) (a1 : Int32) (st : zS) : Option zS := (if (st 1 4) = a1 then some st else (if a1 = 0 ∨ a1 = 1 then (if a1 = 0 then ((zf_LG_takeWaitingForNone N (zp st 1 4 a1)).bind fun y33 => ((zf_LG_chooseForAll N y33.1 y33.2).bind fun t36 => zf_LG_recall_39 N t36)) else ((zf_LG_takeCarsFromWaiting N (zp st 1 4 a1)).bind fun t25 => zf_LG_recall_39 N t25)) else none))
set_option maxHeartbeats 4000000 in
theorem zl_LG_recall_0 (F : zw_X p m c zo_LG_recall 2 s args zR0 E 10 A meth none) {N : Nat} {rst : zS} (a1 : Int32) (st : zS)  (h : zf_LG_recall N a1 st = some rst) : zw_G p l e zrm_LG_recall s m args below meth c (MQ below (zw_Q E none rst A) args s 0 0 A) E A 2 0 0 [some (.ref 0), some (.int a1)] [] st := by
  unfold zf_LG_recall at h
  refine zg_aload_n F.1 zd_LG_recall_0 rfl rfl ?_
  refine zg_getR0 F.1 (by decide) rfl 0 (by decide) 1 rfl zwf_LG_10 zd_LG_recall_1 ?_
  refine zg_getI1 F.1 (by decide) rfl 4 (by decide) (st 1 4) rfl rfl zwf_LG_132 zd_LG_recall_4 ?_
  refine zg_iload_n F.1 zd_LG_recall_7 rfl rfl ?_
  refine zg_icmp_ne F.1 12 zd_LG_recall_8 rfl (fun hc => ?_) (fun hc => ?_)
  · rw [if_neg hc] at h
    refine zg_aload_n F.1 zd_LG_recall_12 rfl rfl ?_
    refine zg_getR0 F.1 (by decide) rfl 0 (by decide) 1 rfl zwf_LG_10 zd_LG_recall_13 ?_
    refine zg_iload_n F.1 zd_LG_recall_16 rfl rfl ?_
    by_cases hb17 : a1 = 0 ∨ a1 = 1
    case neg => rw [if_neg hb17] at h; cases h
    rw [if_pos hb17] at h
    refine zg_putI1 F.1 (by decide) rfl 4 (by decide) (Or.inr (Or.inr rfl)) .boolean (by decide) rfl (zw_nb hb17) (zw_fb hb17) zwf_LG_132 zd_LG_recall_17 ?_
    refine zg_iload_n F.1 zd_LG_recall_20 rfl rfl ?_
    refine zg_if_eq F.1 31 zd_LG_recall_21 rfl (fun hc => ?_) (fun hc => ?_)
    · rw [if_pos hc] at h
      refine zg_aload_n F.1 zd_LG_recall_31 rfl rfl ?_
      refine zg_aload_n F.1 zd_LG_recall_32 rfl rfl ?_
      obtain ⟨y33, hc33, h⟩ := Option.bind_eq_some_iff.mp h
      refine zg_callV F (As := []) (rest := [.ref 0]) (zk_LG_takeWaitingForNone F.1.2.2 N (zp st 1 4 a1) hc33) rfl rfl zcal_LG_takeWaitingForNone zml_LG_138 ⟨(Nat.le_of_ble_eq_true rfl), (Nat.le_of_ble_eq_true rfl)⟩ (zg_rec0 F.1 (by decide) rfl) rfl (Nat.le_of_ble_eq_true rfl) ⟨(Nat.le_of_ble_eq_true rfl), (Nat.le_of_ble_eq_true rfl)⟩ zd_LG_recall_33 ?_
      obtain ⟨t36, hc36, h⟩ := Option.bind_eq_some_iff.mp h
      refine zg_callV F (As := [.int y33.1]) (rest := []) (zk_LG_chooseForAll F.1.2.2 N y33.1 y33.2 hc36) rfl rfl zcal_LG_chooseForAll zml_LG_129 ⟨(Nat.le_of_ble_eq_true rfl), (Nat.le_of_ble_eq_true rfl)⟩ (zg_rec0 F.1 (by decide) rfl) rfl (Nat.le_of_ble_eq_true rfl) ⟨(Nat.le_of_ble_eq_true rfl), (Nat.le_of_ble_eq_true rfl)⟩ zd_LG_recall_36 ?_
      exact zg_le (zw_len (zw_len zw_le0)) (zl_LG_recall_39 F t36 h)
    · rw [if_neg hc] at h
      refine zg_aload_n F.1 zd_LG_recall_24 rfl rfl ?_
      obtain ⟨t25, hc25, h⟩ := Option.bind_eq_some_iff.mp h
      refine zg_callV F (As := []) (rest := []) (zk_LG_takeCarsFromWaiting F.1.2.2 N (zp st 1 4 a1) hc25) rfl rfl zcal_LG_takeCarsFromWaiting zml_LG_135 ⟨(Nat.le_of_ble_eq_true rfl), (Nat.le_of_ble_eq_true rfl)⟩ (zg_rec0 F.1 (by decide) rfl) rfl (Nat.le_of_ble_eq_true rfl) ⟨(Nat.le_of_ble_eq_true rfl), (Nat.le_of_ble_eq_true rfl)⟩ zd_LG_recall_25 ?_
      refine zg_goto F.1 39 zd_LG_recall_28 rfl ?_
      exact zg_le (zw_len (zw_len zw_le0)) (zl_LG_recall_39 F t25 h)
  · rw [if_pos hc] at h
    cases h
    exact zg_vret F zd_LG_recall_11
theorem zk_LG_recall {E : zE} (hn : zw_n E 10) (N : Nat) (a1 : Int32) (st : zS)  {rst : zS} (h : zf_LG_recall N a1 st = some rst) : zw_M l zy_LG_recall (Cond.code zy_LG_recall zo_LG_recall 2 none :: zwAll) zrm_LG_recall E [.ref 0, .int a1] st none rst :=
  zw_enter (by decide) rfl hn (Nat.le_of_ble_eq_true rfl) (by simp [Value.category]) 0 (fun p e s m args below meth c A F => zl_LG_recall_0 F a1 st  h)
abbrev zrm_LG_about : Room := { frames := 0, cells := 0, slots := 0, locals := 0 }
def zf_LG_about (N : Nat) (a1 : Int32) (st : zS) : Option (Int32 × zS) := (if a1 = 0 then some ((st 0 8), st) else (if a1 = 1 then some ((st 0 6), st) else (if a1 = 2 then some ((st 35 4), st) else (if a1 = 3 then some ((st 0 9), st) else (if a1 = 4 then some ((st 0 10), st) else (if a1 = 5 then some ((st 0 11), st) else some ((-1), st)))))))
set_option maxHeartbeats 4000000 in
theorem zl_LG_about_0 (F : zw_X p m c zo_LG_about 2 s args zR0 E 10 A meth (some .int)) {N : Nat} {rv : Int32} {rst : zS} (a1 : Int32) (st : zS)  (h : zf_LG_about N a1 st = some (rv, rst)) : zw_G p l e zrm_LG_about s m args below meth c (MQ below (zw_Q E (some (.int rv)) rst A) args s 0 0 A) E A 2 0 0 [some (.ref 0), some (.int a1)] [] st := by
  unfold zf_LG_about at h
  refine zg_iload_n F.1 zd_LG_about_0 rfl rfl ?_
  by_cases hc0 : a1 = 0
  · rw [if_pos hc0] at h
    refine zg_tabIn F.1 40 zd_LG_about_1 (by rw [hc0]; decide) (by rw [hc0]; decide) (by rw [hc0]; rfl) rfl ?_
    refine zg_aload_n F.1 zd_LG_about_40 rfl rfl ?_
    refine zg_getI0 F.1 (by decide) rfl 8 (by decide) (st 0 8) rfl rfl zwf_LG_80 zd_LG_about_41 ?_
    cases h
    exact zg_iret F zd_LG_about_44
  · rw [if_neg hc0] at h
    by_cases hc1 : a1 = 1
    · rw [if_pos hc1] at h
      refine zg_tabIn F.1 45 zd_LG_about_1 (by rw [hc1]; decide) (by rw [hc1]; decide) (by rw [hc1]; rfl) rfl ?_
      refine zg_aload_n F.1 zd_LG_about_45 rfl rfl ?_
      refine zg_getI0 F.1 (by decide) rfl 6 (by decide) (st 0 6) rfl rfl zwf_LG_71 zd_LG_about_46 ?_
      cases h
      exact zg_iret F zd_LG_about_49
    · rw [if_neg hc1] at h
      by_cases hc2 : a1 = 2
      · rw [if_pos hc2] at h
        refine zg_tabIn F.1 50 zd_LG_about_1 (by rw [hc2]; decide) (by rw [hc2]; decide) (by rw [hc2]; rfl) rfl ?_
        refine zg_aload_n F.1 zd_LG_about_50 rfl rfl ?_
        refine zg_getR0 F.1 (by decide) rfl 4 (by decide) 35 rfl zwf_LG_37 zd_LG_about_51 ?_
        refine zg_getI4 F.1 (by decide) rfl 4 (by decide) (st 35 4) rfl rfl zwf_LG_235 zd_LG_about_54 ?_
        cases h
        exact zg_iret F zd_LG_about_57
      · rw [if_neg hc2] at h
        by_cases hc3 : a1 = 3
        · rw [if_pos hc3] at h
          refine zg_tabIn F.1 58 zd_LG_about_1 (by rw [hc3]; decide) (by rw [hc3]; decide) (by rw [hc3]; rfl) rfl ?_
          refine zg_aload_n F.1 zd_LG_about_58 rfl rfl ?_
          refine zg_getI0 F.1 (by decide) rfl 9 (by decide) (st 0 9) rfl rfl zwf_LG_238 zd_LG_about_59 ?_
          cases h
          exact zg_iret F zd_LG_about_62
        · rw [if_neg hc3] at h
          by_cases hc4 : a1 = 4
          · rw [if_pos hc4] at h
            refine zg_tabIn F.1 63 zd_LG_about_1 (by rw [hc4]; decide) (by rw [hc4]; decide) (by rw [hc4]; rfl) rfl ?_
            refine zg_aload_n F.1 zd_LG_about_63 rfl rfl ?_
            refine zg_getI0 F.1 (by decide) rfl 10 (by decide) (st 0 10) rfl rfl zwf_LG_241 zd_LG_about_64 ?_
            cases h
            exact zg_iret F zd_LG_about_67
          · rw [if_neg hc4] at h
            by_cases hc5 : a1 = 5
            · rw [if_pos hc5] at h
              refine zg_tabIn F.1 68 zd_LG_about_1 (by rw [hc5]; decide) (by rw [hc5]; decide) (by rw [hc5]; rfl) rfl ?_
              refine zg_aload_n F.1 zd_LG_about_68 rfl rfl ?_
              refine zg_getI0 F.1 (by decide) rfl 11 (by decide) (st 0 11) rfl rfl zwf_LG_244 zd_LG_about_69 ?_
              cases h
              exact zg_iret F zd_LG_about_72
            · rw [if_neg hc5] at h
              refine zg_tabOut F.1 73 zd_LG_about_1 (zw_sw0_5 hc0 hc1 hc2 hc3 hc4 hc5) rfl ?_
              refine zg_iconst F.1 (-1) (-1) (by decide) zd_LG_about_73 ?_
              cases h
              exact zg_iret F zd_LG_about_74
theorem zk_LG_about {E : zE} (hn : zw_n E 10) (N : Nat) (a1 : Int32) (st : zS)  {rv : Int32} {rst : zS} (h : zf_LG_about N a1 st = some (rv, rst)) : zw_M l zy_LG_about (Cond.code zy_LG_about zo_LG_about 2 (some .int) :: zwAll) zrm_LG_about E [.ref 0, .int a1] st (some (.int rv)) rst :=
  zw_enter (by decide) rfl hn (Nat.le_of_ble_eq_true rfl) (by simp [Value.category]) 0 (fun p e s m args below meth c A F => zl_LG_about_0 F a1 st  h)
end ZC5
