abbrev zo_In_bitCount : ByteArray := prog_12_method_49_code
abbrev zy_In_bitCount : MethodName := ⟨"java/lang/Integer", "bitCount", "(I)I"⟩
theorem zd_In_bitCount_0 : decode zo_In_bitCount 0 = .ok (.iload_n 0, 1) := by decide +kernel
theorem zd_In_bitCount_1 : decode zo_In_bitCount 1 = .ok (.iload_n 0, 1) := by decide +kernel
theorem zd_In_bitCount_2 : decode zo_In_bitCount 2 = .ok (.iconst 1, 1) := by decide +kernel
theorem zd_In_bitCount_3 : decode zo_In_bitCount 3 = .ok (.iushr, 1) := by decide +kernel
theorem zd_In_bitCount_4 : decode zo_In_bitCount 4 = .ok (.ldc_w 265, 3) := by decide +kernel
theorem zd_In_bitCount_7 : decode zo_In_bitCount 7 = .ok (.iand, 1) := by decide +kernel
theorem zd_In_bitCount_8 : decode zo_In_bitCount 8 = .ok (.isub, 1) := by decide +kernel
theorem zd_In_bitCount_9 : decode zo_In_bitCount 9 = .ok (.istore_n 0, 1) := by decide +kernel
theorem zd_In_bitCount_10 : decode zo_In_bitCount 10 = .ok (.iload_n 0, 1) := by decide +kernel
theorem zd_In_bitCount_11 : decode zo_In_bitCount 11 = .ok (.ldc_w 266, 3) := by decide +kernel
theorem zd_In_bitCount_14 : decode zo_In_bitCount 14 = .ok (.iand, 1) := by decide +kernel
theorem zd_In_bitCount_15 : decode zo_In_bitCount 15 = .ok (.iload_n 0, 1) := by decide +kernel
theorem zd_In_bitCount_16 : decode zo_In_bitCount 16 = .ok (.iconst 2, 1) := by decide +kernel
theorem zd_In_bitCount_17 : decode zo_In_bitCount 17 = .ok (.iushr, 1) := by decide +kernel
theorem zd_In_bitCount_18 : decode zo_In_bitCount 18 = .ok (.ldc_w 266, 3) := by decide +kernel
theorem zd_In_bitCount_21 : decode zo_In_bitCount 21 = .ok (.iand, 1) := by decide +kernel
theorem zd_In_bitCount_22 : decode zo_In_bitCount 22 = .ok (.iadd, 1) := by decide +kernel
theorem zd_In_bitCount_23 : decode zo_In_bitCount 23 = .ok (.istore_n 0, 1) := by decide +kernel
theorem zd_In_bitCount_24 : decode zo_In_bitCount 24 = .ok (.iload_n 0, 1) := by decide +kernel
theorem zd_In_bitCount_25 : decode zo_In_bitCount 25 = .ok (.iload_n 0, 1) := by decide +kernel
theorem zd_In_bitCount_26 : decode zo_In_bitCount 26 = .ok (.iconst 4, 1) := by decide +kernel
theorem zd_In_bitCount_27 : decode zo_In_bitCount 27 = .ok (.iushr, 1) := by decide +kernel
theorem zd_In_bitCount_28 : decode zo_In_bitCount 28 = .ok (.iadd, 1) := by decide +kernel
theorem zd_In_bitCount_29 : decode zo_In_bitCount 29 = .ok (.ldc_w 267, 3) := by decide +kernel
theorem zd_In_bitCount_32 : decode zo_In_bitCount 32 = .ok (.iand, 1) := by decide +kernel
theorem zd_In_bitCount_33 : decode zo_In_bitCount 33 = .ok (.istore_n 0, 1) := by decide +kernel
theorem zd_In_bitCount_34 : decode zo_In_bitCount 34 = .ok (.iload_n 0, 1) := by decide +kernel
theorem zd_In_bitCount_35 : decode zo_In_bitCount 35 = .ok (.iload_n 0, 1) := by decide +kernel
theorem zd_In_bitCount_36 : decode zo_In_bitCount 36 = .ok (.bipush 8, 2) := by decide +kernel
theorem zd_In_bitCount_38 : decode zo_In_bitCount 38 = .ok (.iushr, 1) := by decide +kernel
theorem zd_In_bitCount_39 : decode zo_In_bitCount 39 = .ok (.iadd, 1) := by decide +kernel
theorem zd_In_bitCount_40 : decode zo_In_bitCount 40 = .ok (.istore_n 0, 1) := by decide +kernel
theorem zd_In_bitCount_41 : decode zo_In_bitCount 41 = .ok (.iload_n 0, 1) := by decide +kernel
theorem zd_In_bitCount_42 : decode zo_In_bitCount 42 = .ok (.iload_n 0, 1) := by decide +kernel
theorem zd_In_bitCount_43 : decode zo_In_bitCount 43 = .ok (.bipush 16, 2) := by decide +kernel
theorem zd_In_bitCount_45 : decode zo_In_bitCount 45 = .ok (.iushr, 1) := by decide +kernel
theorem zd_In_bitCount_46 : decode zo_In_bitCount 46 = .ok (.iadd, 1) := by decide +kernel
theorem zd_In_bitCount_47 : decode zo_In_bitCount 47 = .ok (.istore_n 0, 1) := by decide +kernel
theorem zd_In_bitCount_48 : decode zo_In_bitCount 48 = .ok (.iload_n 0, 1) := by decide +kernel
theorem zd_In_bitCount_49 : decode zo_In_bitCount 49 = .ok (.bipush 63, 2) := by decide +kernel
theorem zd_In_bitCount_51 : decode zo_In_bitCount 51 = .ok (.iand, 1) := by decide +kernel
theorem zd_In_bitCount_52 : decode zo_In_bitCount 52 = .ok (.ireturn, 1) := by decide +kernel
abbrev zo_Ca_forgetMoved : ByteArray := prog_2_method_7_code
abbrev zy_Ca_forgetMoved : MethodName := ⟨"LiftGroup$Car", "forgetMoved", "()V"⟩
theorem zd_Ca_forgetMoved_0 : decode zo_Ca_forgetMoved 0 = .ok (.aload_n 0, 1) := by decide +kernel
theorem zd_Ca_forgetMoved_1 : decode zo_Ca_forgetMoved 1 = .ok (.iconst 0, 1) := by decide +kernel
theorem zd_Ca_forgetMoved_2 : decode zo_Ca_forgetMoved 2 = .ok (.putfield 97, 3) := by decide +kernel
theorem zd_Ca_forgetMoved_5 : decode zo_Ca_forgetMoved 5 = .ok (.aload_n 0, 1) := by decide +kernel
theorem zd_Ca_forgetMoved_6 : decode zo_Ca_forgetMoved 6 = .ok (.iconst 0, 1) := by decide +kernel
theorem zd_Ca_forgetMoved_7 : decode zo_Ca_forgetMoved 7 = .ok (.putfield 100, 3) := by decide +kernel
theorem zd_Ca_forgetMoved_10 : decode zo_Ca_forgetMoved 10 = .ok (.aload_n 0, 1) := by decide +kernel
theorem zd_Ca_forgetMoved_11 : decode zo_Ca_forgetMoved 11 = .ok (.iconst 0, 1) := by decide +kernel
theorem zd_Ca_forgetMoved_12 : decode zo_Ca_forgetMoved 12 = .ok (.putfield 103, 3) := by decide +kernel
theorem zd_Ca_forgetMoved_15 : decode zo_Ca_forgetMoved 15 = .ok (.return_, 1) := by decide +kernel
abbrev zo_Ca_startAnew : ByteArray := prog_2_method_2_code
abbrev zy_Ca_startAnew : MethodName := ⟨"LiftGroup$Car", "startAnew", "()V"⟩
theorem zd_Ca_startAnew_0 : decode zo_Ca_startAnew 0 = .ok (.aload_n 0, 1) := by decide +kernel
theorem zd_Ca_startAnew_1 : decode zo_Ca_startAnew 1 = .ok (.iconst 0, 1) := by decide +kernel
theorem zd_Ca_startAnew_2 : decode zo_Ca_startAnew 2 = .ok (.putfield 9, 3) := by decide +kernel
theorem zd_Ca_startAnew_5 : decode zo_Ca_startAnew 5 = .ok (.aload_n 0, 1) := by decide +kernel
theorem zd_Ca_startAnew_6 : decode zo_Ca_startAnew 6 = .ok (.iconst 0, 1) := by decide +kernel
theorem zd_Ca_startAnew_7 : decode zo_Ca_startAnew 7 = .ok (.putfield 15, 3) := by decide +kernel
theorem zd_Ca_startAnew_10 : decode zo_Ca_startAnew 10 = .ok (.aload_n 0, 1) := by decide +kernel
theorem zd_Ca_startAnew_11 : decode zo_Ca_startAnew 11 = .ok (.iconst 0, 1) := by decide +kernel
theorem zd_Ca_startAnew_12 : decode zo_Ca_startAnew 12 = .ok (.putfield 18, 3) := by decide +kernel
theorem zd_Ca_startAnew_15 : decode zo_Ca_startAnew 15 = .ok (.aload_n 0, 1) := by decide +kernel
theorem zd_Ca_startAnew_16 : decode zo_Ca_startAnew 16 = .ok (.iconst 0, 1) := by decide +kernel
theorem zd_Ca_startAnew_17 : decode zo_Ca_startAnew 17 = .ok (.putfield 21, 3) := by decide +kernel
theorem zd_Ca_startAnew_20 : decode zo_Ca_startAnew 20 = .ok (.aload_n 0, 1) := by decide +kernel
theorem zd_Ca_startAnew_21 : decode zo_Ca_startAnew 21 = .ok (.iconst 0, 1) := by decide +kernel
theorem zd_Ca_startAnew_22 : decode zo_Ca_startAnew 22 = .ok (.putfield 24, 3) := by decide +kernel
theorem zd_Ca_startAnew_25 : decode zo_Ca_startAnew 25 = .ok (.aload_n 0, 1) := by decide +kernel
theorem zd_Ca_startAnew_26 : decode zo_Ca_startAnew 26 = .ok (.iconst 0, 1) := by decide +kernel
theorem zd_Ca_startAnew_27 : decode zo_Ca_startAnew 27 = .ok (.putfield 27, 3) := by decide +kernel
theorem zd_Ca_startAnew_30 : decode zo_Ca_startAnew 30 = .ok (.aload_n 0, 1) := by decide +kernel
theorem zd_Ca_startAnew_31 : decode zo_Ca_startAnew 31 = .ok (.iconst 0, 1) := by decide +kernel
theorem zd_Ca_startAnew_32 : decode zo_Ca_startAnew 32 = .ok (.putfield 31, 3) := by decide +kernel
theorem zd_Ca_startAnew_35 : decode zo_Ca_startAnew 35 = .ok (.aload_n 0, 1) := by decide +kernel
theorem zd_Ca_startAnew_36 : decode zo_Ca_startAnew 36 = .ok (.iconst 0, 1) := by decide +kernel
theorem zd_Ca_startAnew_37 : decode zo_Ca_startAnew 37 = .ok (.putfield 34, 3) := by decide +kernel
theorem zd_Ca_startAnew_40 : decode zo_Ca_startAnew 40 = .ok (.aload_n 0, 1) := by decide +kernel
theorem zd_Ca_startAnew_41 : decode zo_Ca_startAnew 41 = .ok (.iconst 0, 1) := by decide +kernel
theorem zd_Ca_startAnew_42 : decode zo_Ca_startAnew 42 = .ok (.putfield 37, 3) := by decide +kernel
theorem zd_Ca_startAnew_45 : decode zo_Ca_startAnew 45 = .ok (.aload_n 0, 1) := by decide +kernel
theorem zd_Ca_startAnew_46 : decode zo_Ca_startAnew 46 = .ok (.iconst 0, 1) := by decide +kernel
theorem zd_Ca_startAnew_47 : decode zo_Ca_startAnew 47 = .ok (.putfield 40, 3) := by decide +kernel
theorem zd_Ca_startAnew_50 : decode zo_Ca_startAnew 50 = .ok (.aload_n 0, 1) := by decide +kernel
theorem zd_Ca_startAnew_51 : decode zo_Ca_startAnew 51 = .ok (.invokevirtual 43, 3) := by decide +kernel
theorem zd_Ca_startAnew_54 : decode zo_Ca_startAnew 54 = .ok (.return_, 1) := by decide +kernel
abbrev zo_Ca_becomeLike : ByteArray := prog_2_method_3_code
abbrev zy_Ca_becomeLike : MethodName := ⟨"LiftGroup$Car", "becomeLike", "(LLiftGroup$Car;)V"⟩
theorem zd_Ca_becomeLike_0 : decode zo_Ca_becomeLike 0 = .ok (.aload_n 0, 1) := by decide +kernel
theorem zd_Ca_becomeLike_1 : decode zo_Ca_becomeLike 1 = .ok (.aload_n 1, 1) := by decide +kernel
theorem zd_Ca_becomeLike_2 : decode zo_Ca_becomeLike 2 = .ok (.getfield 9, 3) := by decide +kernel
theorem zd_Ca_becomeLike_5 : decode zo_Ca_becomeLike 5 = .ok (.putfield 9, 3) := by decide +kernel
theorem zd_Ca_becomeLike_8 : decode zo_Ca_becomeLike 8 = .ok (.aload_n 0, 1) := by decide +kernel
theorem zd_Ca_becomeLike_9 : decode zo_Ca_becomeLike 9 = .ok (.aload_n 1, 1) := by decide +kernel
theorem zd_Ca_becomeLike_10 : decode zo_Ca_becomeLike 10 = .ok (.getfield 15, 3) := by decide +kernel
theorem zd_Ca_becomeLike_13 : decode zo_Ca_becomeLike 13 = .ok (.putfield 15, 3) := by decide +kernel
theorem zd_Ca_becomeLike_16 : decode zo_Ca_becomeLike 16 = .ok (.aload_n 0, 1) := by decide +kernel
theorem zd_Ca_becomeLike_17 : decode zo_Ca_becomeLike 17 = .ok (.aload_n 1, 1) := by decide +kernel
theorem zd_Ca_becomeLike_18 : decode zo_Ca_becomeLike 18 = .ok (.getfield 18, 3) := by decide +kernel
theorem zd_Ca_becomeLike_21 : decode zo_Ca_becomeLike 21 = .ok (.putfield 18, 3) := by decide +kernel
theorem zd_Ca_becomeLike_24 : decode zo_Ca_becomeLike 24 = .ok (.aload_n 0, 1) := by decide +kernel
theorem zd_Ca_becomeLike_25 : decode zo_Ca_becomeLike 25 = .ok (.aload_n 1, 1) := by decide +kernel
theorem zd_Ca_becomeLike_26 : decode zo_Ca_becomeLike 26 = .ok (.getfield 21, 3) := by decide +kernel
theorem zd_Ca_becomeLike_29 : decode zo_Ca_becomeLike 29 = .ok (.putfield 21, 3) := by decide +kernel
theorem zd_Ca_becomeLike_32 : decode zo_Ca_becomeLike 32 = .ok (.aload_n 0, 1) := by decide +kernel
theorem zd_Ca_becomeLike_33 : decode zo_Ca_becomeLike 33 = .ok (.aload_n 1, 1) := by decide +kernel
theorem zd_Ca_becomeLike_34 : decode zo_Ca_becomeLike 34 = .ok (.getfield 24, 3) := by decide +kernel
theorem zd_Ca_becomeLike_37 : decode zo_Ca_becomeLike 37 = .ok (.putfield 24, 3) := by decide +kernel
theorem zd_Ca_becomeLike_40 : decode zo_Ca_becomeLike 40 = .ok (.aload_n 0, 1) := by decide +kernel
theorem zd_Ca_becomeLike_41 : decode zo_Ca_becomeLike 41 = .ok (.aload_n 1, 1) := by decide +kernel
theorem zd_Ca_becomeLike_42 : decode zo_Ca_becomeLike 42 = .ok (.getfield 34, 3) := by decide +kernel
theorem zd_Ca_becomeLike_45 : decode zo_Ca_becomeLike 45 = .ok (.putfield 34, 3) := by decide +kernel
theorem zd_Ca_becomeLike_48 : decode zo_Ca_becomeLike 48 = .ok (.aload_n 0, 1) := by decide +kernel
theorem zd_Ca_becomeLike_49 : decode zo_Ca_becomeLike 49 = .ok (.aload_n 1, 1) := by decide +kernel
theorem zd_Ca_becomeLike_50 : decode zo_Ca_becomeLike 50 = .ok (.getfield 37, 3) := by decide +kernel
theorem zd_Ca_becomeLike_53 : decode zo_Ca_becomeLike 53 = .ok (.putfield 37, 3) := by decide +kernel
theorem zd_Ca_becomeLike_56 : decode zo_Ca_becomeLike 56 = .ok (.aload_n 0, 1) := by decide +kernel
theorem zd_Ca_becomeLike_57 : decode zo_Ca_becomeLike 57 = .ok (.aload_n 1, 1) := by decide +kernel
theorem zd_Ca_becomeLike_58 : decode zo_Ca_becomeLike 58 = .ok (.getfield 40, 3) := by decide +kernel
theorem zd_Ca_becomeLike_61 : decode zo_Ca_becomeLike 61 = .ok (.putfield 40, 3) := by decide +kernel
theorem zd_Ca_becomeLike_64 : decode zo_Ca_becomeLike 64 = .ok (.return_, 1) := by decide +kernel
abbrev zo_Ca_hasRiders : ByteArray := prog_2_method_4_code
abbrev zy_Ca_hasRiders : MethodName := ⟨"LiftGroup$Car", "hasRiders", "()Z"⟩
theorem zd_Ca_hasRiders_0 : decode zo_Ca_hasRiders 0 = .ok (.aload_n 0, 1) := by decide +kernel
theorem zd_Ca_hasRiders_1 : decode zo_Ca_hasRiders 1 = .ok (.getfield 37, 3) := by decide +kernel
theorem zd_Ca_hasRiders_4 : decode zo_Ca_hasRiders 4 = .ok (.aload_n 0, 1) := by decide +kernel
theorem zd_Ca_hasRiders_5 : decode zo_Ca_hasRiders 5 = .ok (.getfield 40, 3) := by decide +kernel
theorem zd_Ca_hasRiders_8 : decode zo_Ca_hasRiders 8 = .ok (.ior, 1) := by decide +kernel
theorem zd_Ca_hasRiders_9 : decode zo_Ca_hasRiders 9 = .ok (.ifCond .eq 7, 3) := by decide +kernel
theorem zd_Ca_hasRiders_12 : decode zo_Ca_hasRiders 12 = .ok (.iconst 1, 1) := by decide +kernel
theorem zd_Ca_hasRiders_13 : decode zo_Ca_hasRiders 13 = .ok (.goto 4, 3) := by decide +kernel
theorem zd_Ca_hasRiders_16 : decode zo_Ca_hasRiders 16 = .ok (.iconst 0, 1) := by decide +kernel
theorem zd_Ca_hasRiders_17 : decode zo_Ca_hasRiders 17 = .ok (.ireturn, 1) := by decide +kernel
abbrev zo_Ca_turnDoor : ByteArray := prog_2_method_8_code
abbrev zy_Ca_turnDoor : MethodName := ⟨"LiftGroup$Car", "turnDoor", "(II)V"⟩
theorem zd_Ca_turnDoor_0 : decode zo_Ca_turnDoor 0 = .ok (.aload_n 0, 1) := by decide +kernel
theorem zd_Ca_turnDoor_1 : decode zo_Ca_turnDoor 1 = .ok (.iload_n 1, 1) := by decide +kernel
theorem zd_Ca_turnDoor_2 : decode zo_Ca_turnDoor 2 = .ok (.putfield 18, 3) := by decide +kernel
theorem zd_Ca_turnDoor_5 : decode zo_Ca_turnDoor 5 = .ok (.aload_n 0, 1) := by decide +kernel
theorem zd_Ca_turnDoor_6 : decode zo_Ca_turnDoor 6 = .ok (.iload_n 2, 1) := by decide +kernel
theorem zd_Ca_turnDoor_7 : decode zo_Ca_turnDoor 7 = .ok (.putfield 21, 3) := by decide +kernel
theorem zd_Ca_turnDoor_10 : decode zo_Ca_turnDoor 10 = .ok (.return_, 1) := by decide +kernel
abbrev zo_Ca_shutFurther : ByteArray := prog_2_method_9_code
abbrev zy_Ca_shutFurther : MethodName := ⟨"LiftGroup$Car", "shutFurther", "()V"⟩
theorem zd_Ca_shutFurther_0 : decode zo_Ca_shutFurther 0 = .ok (.aload_n 0, 1) := by decide +kernel
theorem zd_Ca_shutFurther_1 : decode zo_Ca_shutFurther 1 = .ok (.dup, 1) := by decide +kernel
theorem zd_Ca_shutFurther_2 : decode zo_Ca_shutFurther 2 = .ok (.getfield 21, 3) := by decide +kernel
theorem zd_Ca_shutFurther_5 : decode zo_Ca_shutFurther 5 = .ok (.iconst 1, 1) := by decide +kernel
theorem zd_Ca_shutFurther_6 : decode zo_Ca_shutFurther 6 = .ok (.isub, 1) := by decide +kernel
theorem zd_Ca_shutFurther_7 : decode zo_Ca_shutFurther 7 = .ok (.putfield 21, 3) := by decide +kernel
theorem zd_Ca_shutFurther_10 : decode zo_Ca_shutFurther 10 = .ok (.aload_n 0, 1) := by decide +kernel
theorem zd_Ca_shutFurther_11 : decode zo_Ca_shutFurther 11 = .ok (.getfield 21, 3) := by decide +kernel
theorem zd_Ca_shutFurther_14 : decode zo_Ca_shutFurther 14 = .ok (.ifCond .ne 8, 3) := by decide +kernel
theorem zd_Ca_shutFurther_17 : decode zo_Ca_shutFurther 17 = .ok (.aload_n 0, 1) := by decide +kernel
theorem zd_Ca_shutFurther_18 : decode zo_Ca_shutFurther 18 = .ok (.iconst 0, 1) := by decide +kernel
theorem zd_Ca_shutFurther_19 : decode zo_Ca_shutFurther 19 = .ok (.putfield 18, 3) := by decide +kernel
theorem zd_Ca_shutFurther_22 : decode zo_Ca_shutFurther 22 = .ok (.return_, 1) := by decide +kernel
abbrev zo_Ca_towardsNearest : ByteArray := prog_2_method_11_code
abbrev zy_Ca_towardsNearest : MethodName := ⟨"LiftGroup$Car", "towardsNearest", "(I)I"⟩
theorem zd_Ca_towardsNearest_0 : decode zo_Ca_towardsNearest 0 = .ok (.iconst 1, 1) := by decide +kernel
theorem zd_Ca_towardsNearest_1 : decode zo_Ca_towardsNearest 1 = .ok (.istore_n 2, 1) := by decide +kernel
theorem zd_Ca_towardsNearest_2 : decode zo_Ca_towardsNearest 2 = .ok (.iload_n 2, 1) := by decide +kernel
theorem zd_Ca_towardsNearest_3 : decode zo_Ca_towardsNearest 3 = .ok (.bipush 18, 2) := by decide +kernel
theorem zd_Ca_towardsNearest_5 : decode zo_Ca_towardsNearest 5 = .ok (.if_icmp .gt 58, 3) := by decide +kernel
theorem zd_Ca_towardsNearest_8 : decode zo_Ca_towardsNearest 8 = .ok (.iload_n 2, 1) := by decide +kernel
theorem zd_Ca_towardsNearest_9 : decode zo_Ca_towardsNearest 9 = .ok (.aload_n 0, 1) := by decide +kernel
theorem zd_Ca_towardsNearest_10 : decode zo_Ca_towardsNearest 10 = .ok (.getfield 9, 3) := by decide +kernel
theorem zd_Ca_towardsNearest_13 : decode zo_Ca_towardsNearest 13 = .ok (.if_icmp .gt 18, 3) := by decide +kernel
theorem zd_Ca_towardsNearest_16 : decode zo_Ca_towardsNearest 16 = .ok (.iload_n 1, 1) := by decide +kernel
theorem zd_Ca_towardsNearest_17 : decode zo_Ca_towardsNearest 17 = .ok (.iconst 1, 1) := by decide +kernel
theorem zd_Ca_towardsNearest_18 : decode zo_Ca_towardsNearest 18 = .ok (.aload_n 0, 1) := by decide +kernel
theorem zd_Ca_towardsNearest_19 : decode zo_Ca_towardsNearest 19 = .ok (.getfield 9, 3) := by decide +kernel
theorem zd_Ca_towardsNearest_22 : decode zo_Ca_towardsNearest 22 = .ok (.iload_n 2, 1) := by decide +kernel
theorem zd_Ca_towardsNearest_23 : decode zo_Ca_towardsNearest 23 = .ok (.isub, 1) := by decide +kernel
theorem zd_Ca_towardsNearest_24 : decode zo_Ca_towardsNearest 24 = .ok (.ishl, 1) := by decide +kernel
theorem zd_Ca_towardsNearest_25 : decode zo_Ca_towardsNearest 25 = .ok (.iand, 1) := by decide +kernel
theorem zd_Ca_towardsNearest_26 : decode zo_Ca_towardsNearest 26 = .ok (.ifCond .eq 5, 3) := by decide +kernel
theorem zd_Ca_towardsNearest_29 : decode zo_Ca_towardsNearest 29 = .ok (.iconst (-1), 1) := by decide +kernel
theorem zd_Ca_towardsNearest_30 : decode zo_Ca_towardsNearest 30 = .ok (.ireturn, 1) := by decide +kernel
theorem zd_Ca_towardsNearest_31 : decode zo_Ca_towardsNearest 31 = .ok (.iload_n 2, 1) := by decide +kernel
theorem zd_Ca_towardsNearest_32 : decode zo_Ca_towardsNearest 32 = .ok (.bipush 18, 2) := by decide +kernel
theorem zd_Ca_towardsNearest_34 : decode zo_Ca_towardsNearest 34 = .ok (.aload_n 0, 1) := by decide +kernel
theorem zd_Ca_towardsNearest_35 : decode zo_Ca_towardsNearest 35 = .ok (.getfield 9, 3) := by decide +kernel
theorem zd_Ca_towardsNearest_38 : decode zo_Ca_towardsNearest 38 = .ok (.isub, 1) := by decide +kernel
theorem zd_Ca_towardsNearest_39 : decode zo_Ca_towardsNearest 39 = .ok (.if_icmp .gt 18, 3) := by decide +kernel
theorem zd_Ca_towardsNearest_42 : decode zo_Ca_towardsNearest 42 = .ok (.iload_n 1, 1) := by decide +kernel
theorem zd_Ca_towardsNearest_43 : decode zo_Ca_towardsNearest 43 = .ok (.iconst 1, 1) := by decide +kernel
theorem zd_Ca_towardsNearest_44 : decode zo_Ca_towardsNearest 44 = .ok (.aload_n 0, 1) := by decide +kernel
theorem zd_Ca_towardsNearest_45 : decode zo_Ca_towardsNearest 45 = .ok (.getfield 9, 3) := by decide +kernel
theorem zd_Ca_towardsNearest_48 : decode zo_Ca_towardsNearest 48 = .ok (.iload_n 2, 1) := by decide +kernel
theorem zd_Ca_towardsNearest_49 : decode zo_Ca_towardsNearest 49 = .ok (.iadd, 1) := by decide +kernel
theorem zd_Ca_towardsNearest_50 : decode zo_Ca_towardsNearest 50 = .ok (.ishl, 1) := by decide +kernel
theorem zd_Ca_towardsNearest_51 : decode zo_Ca_towardsNearest 51 = .ok (.iand, 1) := by decide +kernel
theorem zd_Ca_towardsNearest_52 : decode zo_Ca_towardsNearest 52 = .ok (.ifCond .eq 5, 3) := by decide +kernel
theorem zd_Ca_towardsNearest_55 : decode zo_Ca_towardsNearest 55 = .ok (.iconst 1, 1) := by decide +kernel
theorem zd_Ca_towardsNearest_56 : decode zo_Ca_towardsNearest 56 = .ok (.ireturn, 1) := by decide +kernel
theorem zd_Ca_towardsNearest_57 : decode zo_Ca_towardsNearest 57 = .ok (.iinc 2 1, 3) := by decide +kernel
theorem zd_Ca_towardsNearest_60 : decode zo_Ca_towardsNearest 60 = .ok (.goto (-58), 3) := by decide +kernel
theorem zd_Ca_towardsNearest_63 : decode zo_Ca_towardsNearest 63 = .ok (.iconst 0, 1) := by decide +kernel
theorem zd_Ca_towardsNearest_64 : decode zo_Ca_towardsNearest 64 = .ok (.ireturn, 1) := by decide +kernel
abbrev zo_Ca_liesAhead : ByteArray := prog_2_method_12_code
abbrev zy_Ca_liesAhead : MethodName := ⟨"LiftGroup$Car", "liesAhead", "(I)Z"⟩
theorem zd_Ca_liesAhead_0 : decode zo_Ca_liesAhead 0 = .ok (.iload_n 1, 1) := by decide +kernel
theorem zd_Ca_liesAhead_1 : decode zo_Ca_liesAhead 1 = .ok (.iconst 1, 1) := by decide +kernel
theorem zd_Ca_liesAhead_2 : decode zo_Ca_liesAhead 2 = .ok (.aload_n 0, 1) := by decide +kernel
theorem zd_Ca_liesAhead_3 : decode zo_Ca_liesAhead 3 = .ok (.getfield 9, 3) := by decide +kernel
theorem zd_Ca_liesAhead_6 : decode zo_Ca_liesAhead 6 = .ok (.ishl, 1) := by decide +kernel
theorem zd_Ca_liesAhead_7 : decode zo_Ca_liesAhead 7 = .ok (.iconst 1, 1) := by decide +kernel
theorem zd_Ca_liesAhead_8 : decode zo_Ca_liesAhead 8 = .ok (.isub, 1) := by decide +kernel
theorem zd_Ca_liesAhead_9 : decode zo_Ca_liesAhead 9 = .ok (.iand, 1) := by decide +kernel
theorem zd_Ca_liesAhead_10 : decode zo_Ca_liesAhead 10 = .ok (.istore_n 2, 1) := by decide +kernel
theorem zd_Ca_liesAhead_11 : decode zo_Ca_liesAhead 11 = .ok (.aload_n 0, 1) := by decide +kernel
theorem zd_Ca_liesAhead_12 : decode zo_Ca_liesAhead 12 = .ok (.getfield 15, 3) := by decide +kernel
theorem zd_Ca_liesAhead_15 : decode zo_Ca_liesAhead 15 = .ok (.ifCond .ge 15, 3) := by decide +kernel
theorem zd_Ca_liesAhead_18 : decode zo_Ca_liesAhead 18 = .ok (.iload_n 2, 1) := by decide +kernel
theorem zd_Ca_liesAhead_19 : decode zo_Ca_liesAhead 19 = .ok (.ifCond .eq 7, 3) := by decide +kernel
theorem zd_Ca_liesAhead_22 : decode zo_Ca_liesAhead 22 = .ok (.iconst 1, 1) := by decide +kernel
theorem zd_Ca_liesAhead_23 : decode zo_Ca_liesAhead 23 = .ok (.goto 17, 3) := by decide +kernel
theorem zd_Ca_liesAhead_26 : decode zo_Ca_liesAhead 26 = .ok (.iconst 0, 1) := by decide +kernel
theorem zd_Ca_liesAhead_27 : decode zo_Ca_liesAhead 27 = .ok (.goto 13, 3) := by decide +kernel
theorem zd_Ca_liesAhead_30 : decode zo_Ca_liesAhead 30 = .ok (.iload_n 2, 1) := by decide +kernel
theorem zd_Ca_liesAhead_31 : decode zo_Ca_liesAhead 31 = .ok (.iload_n 1, 1) := by decide +kernel
theorem zd_Ca_liesAhead_32 : decode zo_Ca_liesAhead 32 = .ok (.if_icmp .eq 7, 3) := by decide +kernel
theorem zd_Ca_liesAhead_35 : decode zo_Ca_liesAhead 35 = .ok (.iconst 1, 1) := by decide +kernel
theorem zd_Ca_liesAhead_36 : decode zo_Ca_liesAhead 36 = .ok (.goto 4, 3) := by decide +kernel
theorem zd_Ca_liesAhead_39 : decode zo_Ca_liesAhead 39 = .ok (.iconst 0, 1) := by decide +kernel
theorem zd_Ca_liesAhead_40 : decode zo_Ca_liesAhead 40 = .ok (.ireturn, 1) := by decide +kernel
abbrev zo_Ca_openOrMove : ByteArray := prog_2_method_10_code
abbrev zy_Ca_openOrMove : MethodName := ⟨"LiftGroup$Car", "openOrMove", "(I)V"⟩
theorem zd_Ca_openOrMove_0 : decode zo_Ca_openOrMove 0 = .ok (.iload_n 1, 1) := by decide +kernel
theorem zd_Ca_openOrMove_1 : decode zo_Ca_openOrMove 1 = .ok (.ifCond .ne 9, 3) := by decide +kernel
theorem zd_Ca_openOrMove_4 : decode zo_Ca_openOrMove 4 = .ok (.aload_n 0, 1) := by decide +kernel
theorem zd_Ca_openOrMove_5 : decode zo_Ca_openOrMove 5 = .ok (.iconst 0, 1) := by decide +kernel
theorem zd_Ca_openOrMove_6 : decode zo_Ca_openOrMove 6 = .ok (.putfield 15, 3) := by decide +kernel
theorem zd_Ca_openOrMove_9 : decode zo_Ca_openOrMove 9 = .ok (.return_, 1) := by decide +kernel
theorem zd_Ca_openOrMove_10 : decode zo_Ca_openOrMove 10 = .ok (.iload_n 1, 1) := by decide +kernel
theorem zd_Ca_openOrMove_11 : decode zo_Ca_openOrMove 11 = .ok (.iconst 1, 1) := by decide +kernel
theorem zd_Ca_openOrMove_12 : decode zo_Ca_openOrMove 12 = .ok (.aload_n 0, 1) := by decide +kernel
theorem zd_Ca_openOrMove_13 : decode zo_Ca_openOrMove 13 = .ok (.getfield 9, 3) := by decide +kernel
theorem zd_Ca_openOrMove_16 : decode zo_Ca_openOrMove 16 = .ok (.ishl, 1) := by decide +kernel
theorem zd_Ca_openOrMove_17 : decode zo_Ca_openOrMove 17 = .ok (.iand, 1) := by decide +kernel
theorem zd_Ca_openOrMove_18 : decode zo_Ca_openOrMove 18 = .ok (.ifCond .eq 10, 3) := by decide +kernel
theorem zd_Ca_openOrMove_21 : decode zo_Ca_openOrMove 21 = .ok (.aload_n 0, 1) := by decide +kernel
theorem zd_Ca_openOrMove_22 : decode zo_Ca_openOrMove 22 = .ok (.iconst 1, 1) := by decide +kernel
theorem zd_Ca_openOrMove_23 : decode zo_Ca_openOrMove 23 = .ok (.iconst 3, 1) := by decide +kernel
theorem zd_Ca_openOrMove_24 : decode zo_Ca_openOrMove 24 = .ok (.invokevirtual 82, 3) := by decide +kernel
theorem zd_Ca_openOrMove_27 : decode zo_Ca_openOrMove 27 = .ok (.return_, 1) := by decide +kernel
theorem zd_Ca_openOrMove_28 : decode zo_Ca_openOrMove 28 = .ok (.aload_n 0, 1) := by decide +kernel
theorem zd_Ca_openOrMove_29 : decode zo_Ca_openOrMove 29 = .ok (.getfield 15, 3) := by decide +kernel
theorem zd_Ca_openOrMove_32 : decode zo_Ca_openOrMove 32 = .ok (.ifCond .ne 15, 3) := by decide +kernel
theorem zd_Ca_openOrMove_35 : decode zo_Ca_openOrMove 35 = .ok (.aload_n 0, 1) := by decide +kernel
theorem zd_Ca_openOrMove_36 : decode zo_Ca_openOrMove 36 = .ok (.aload_n 0, 1) := by decide +kernel
theorem zd_Ca_openOrMove_37 : decode zo_Ca_openOrMove 37 = .ok (.iload_n 1, 1) := by decide +kernel
theorem zd_Ca_openOrMove_38 : decode zo_Ca_openOrMove 38 = .ok (.invokevirtual 106, 3) := by decide +kernel
theorem zd_Ca_openOrMove_41 : decode zo_Ca_openOrMove 41 = .ok (.putfield 15, 3) := by decide +kernel
theorem zd_Ca_openOrMove_44 : decode zo_Ca_openOrMove 44 = .ok (.goto 20, 3) := by decide +kernel
theorem zd_Ca_openOrMove_47 : decode zo_Ca_openOrMove 47 = .ok (.aload_n 0, 1) := by decide +kernel
theorem zd_Ca_openOrMove_48 : decode zo_Ca_openOrMove 48 = .ok (.iload_n 1, 1) := by decide +kernel
theorem zd_Ca_openOrMove_49 : decode zo_Ca_openOrMove 49 = .ok (.invokevirtual 109, 3) := by decide +kernel
theorem zd_Ca_openOrMove_52 : decode zo_Ca_openOrMove 52 = .ok (.ifCond .ne 12, 3) := by decide +kernel
theorem zd_Ca_openOrMove_55 : decode zo_Ca_openOrMove 55 = .ok (.aload_n 0, 1) := by decide +kernel
theorem zd_Ca_openOrMove_56 : decode zo_Ca_openOrMove 56 = .ok (.aload_n 0, 1) := by decide +kernel
theorem zd_Ca_openOrMove_57 : decode zo_Ca_openOrMove 57 = .ok (.getfield 15, 3) := by decide +kernel
theorem zd_Ca_openOrMove_60 : decode zo_Ca_openOrMove 60 = .ok (.ineg, 1) := by decide +kernel
theorem zd_Ca_openOrMove_61 : decode zo_Ca_openOrMove 61 = .ok (.putfield 15, 3) := by decide +kernel
theorem zd_Ca_openOrMove_64 : decode zo_Ca_openOrMove 64 = .ok (.aload_n 0, 1) := by decide +kernel
theorem zd_Ca_openOrMove_65 : decode zo_Ca_openOrMove 65 = .ok (.dup, 1) := by decide +kernel
theorem zd_Ca_openOrMove_66 : decode zo_Ca_openOrMove 66 = .ok (.getfield 9, 3) := by decide +kernel
theorem zd_Ca_openOrMove_69 : decode zo_Ca_openOrMove 69 = .ok (.aload_n 0, 1) := by decide +kernel
theorem zd_Ca_openOrMove_70 : decode zo_Ca_openOrMove 70 = .ok (.getfield 15, 3) := by decide +kernel
theorem zd_Ca_openOrMove_73 : decode zo_Ca_openOrMove 73 = .ok (.iadd, 1) := by decide +kernel
theorem zd_Ca_openOrMove_74 : decode zo_Ca_openOrMove 74 = .ok (.putfield 9, 3) := by decide +kernel
theorem zd_Ca_openOrMove_77 : decode zo_Ca_openOrMove 77 = .ok (.return_, 1) := by decide +kernel
abbrev zo_Ca_stayOpen : ByteArray := prog_2_method_13_code
abbrev zy_Ca_stayOpen : MethodName := ⟨"LiftGroup$Car", "stayOpen", "(Z)V"⟩
theorem zd_Ca_stayOpen_0 : decode zo_Ca_stayOpen 0 = .ok (.aload_n 0, 1) := by decide +kernel
theorem zd_Ca_stayOpen_1 : decode zo_Ca_stayOpen 1 = .ok (.getfield 34, 3) := by decide +kernel
theorem zd_Ca_stayOpen_4 : decode zo_Ca_stayOpen 4 = .ok (.ifCond .eq 16, 3) := by decide +kernel
theorem zd_Ca_stayOpen_7 : decode zo_Ca_stayOpen 7 = .ok (.aload_n 0, 1) := by decide +kernel
theorem zd_Ca_stayOpen_8 : decode zo_Ca_stayOpen 8 = .ok (.getfield 24, 3) := by decide +kernel
theorem zd_Ca_stayOpen_11 : decode zo_Ca_stayOpen 11 = .ok (.bipush 20, 2) := by decide +kernel
theorem zd_Ca_stayOpen_13 : decode zo_Ca_stayOpen 13 = .ok (.if_icmp .ge 7, 3) := by decide +kernel
theorem zd_Ca_stayOpen_16 : decode zo_Ca_stayOpen 16 = .ok (.iconst 1, 1) := by decide +kernel
theorem zd_Ca_stayOpen_17 : decode zo_Ca_stayOpen 17 = .ok (.goto 4, 3) := by decide +kernel
theorem zd_Ca_stayOpen_20 : decode zo_Ca_stayOpen 20 = .ok (.iconst 0, 1) := by decide +kernel
theorem zd_Ca_stayOpen_21 : decode zo_Ca_stayOpen 21 = .ok (.istore_n 2, 1) := by decide +kernel
theorem zd_Ca_stayOpen_22 : decode zo_Ca_stayOpen 22 = .ok (.aload_n 0, 1) := by decide +kernel
theorem zd_Ca_stayOpen_23 : decode zo_Ca_stayOpen 23 = .ok (.dup, 1) := by decide +kernel
theorem zd_Ca_stayOpen_24 : decode zo_Ca_stayOpen 24 = .ok (.getfield 24, 3) := by decide +kernel
theorem zd_Ca_stayOpen_27 : decode zo_Ca_stayOpen 27 = .ok (.iconst 1, 1) := by decide +kernel
theorem zd_Ca_stayOpen_28 : decode zo_Ca_stayOpen 28 = .ok (.iadd, 1) := by decide +kernel
theorem zd_Ca_stayOpen_29 : decode zo_Ca_stayOpen 29 = .ok (.putfield 24, 3) := by decide +kernel
theorem zd_Ca_stayOpen_32 : decode zo_Ca_stayOpen 32 = .ok (.iload_n 1, 1) := by decide +kernel
theorem zd_Ca_stayOpen_33 : decode zo_Ca_stayOpen 33 = .ok (.ifCond .ne 7, 3) := by decide +kernel
theorem zd_Ca_stayOpen_36 : decode zo_Ca_stayOpen 36 = .ok (.iload_n 2, 1) := by decide +kernel
theorem zd_Ca_stayOpen_37 : decode zo_Ca_stayOpen 37 = .ok (.ifCond .eq 4, 3) := by decide +kernel
theorem zd_Ca_stayOpen_40 : decode zo_Ca_stayOpen 40 = .ok (.return_, 1) := by decide +kernel
theorem zd_Ca_stayOpen_41 : decode zo_Ca_stayOpen 41 = .ok (.aload_n 0, 1) := by decide +kernel
theorem zd_Ca_stayOpen_42 : decode zo_Ca_stayOpen 42 = .ok (.dup, 1) := by decide +kernel
theorem zd_Ca_stayOpen_43 : decode zo_Ca_stayOpen 43 = .ok (.getfield 21, 3) := by decide +kernel
theorem zd_Ca_stayOpen_46 : decode zo_Ca_stayOpen 46 = .ok (.iconst 1, 1) := by decide +kernel
theorem zd_Ca_stayOpen_47 : decode zo_Ca_stayOpen 47 = .ok (.isub, 1) := by decide +kernel
theorem zd_Ca_stayOpen_48 : decode zo_Ca_stayOpen 48 = .ok (.putfield 21, 3) := by decide +kernel
theorem zd_Ca_stayOpen_51 : decode zo_Ca_stayOpen 51 = .ok (.aload_n 0, 1) := by decide +kernel
theorem zd_Ca_stayOpen_52 : decode zo_Ca_stayOpen 52 = .ok (.getfield 21, 3) := by decide +kernel
theorem zd_Ca_stayOpen_55 : decode zo_Ca_stayOpen 55 = .ok (.ifCond .ne 26, 3) := by decide +kernel
theorem zd_Ca_stayOpen_58 : decode zo_Ca_stayOpen 58 = .ok (.aload_n 0, 1) := by decide +kernel
theorem zd_Ca_stayOpen_59 : decode zo_Ca_stayOpen 59 = .ok (.getfield 34, 3) := by decide +kernel
theorem zd_Ca_stayOpen_62 : decode zo_Ca_stayOpen 62 = .ok (.ifCond .eq 13, 3) := by decide +kernel
theorem zd_Ca_stayOpen_65 : decode zo_Ca_stayOpen 65 = .ok (.aload_n 0, 1) := by decide +kernel
theorem zd_Ca_stayOpen_66 : decode zo_Ca_stayOpen 66 = .ok (.iconst 4, 1) := by decide +kernel
theorem zd_Ca_stayOpen_67 : decode zo_Ca_stayOpen 67 = .ok (.bipush 6, 2) := by decide +kernel
theorem zd_Ca_stayOpen_69 : decode zo_Ca_stayOpen 69 = .ok (.invokevirtual 82, 3) := by decide +kernel
theorem zd_Ca_stayOpen_72 : decode zo_Ca_stayOpen 72 = .ok (.goto 9, 3) := by decide +kernel
theorem zd_Ca_stayOpen_75 : decode zo_Ca_stayOpen 75 = .ok (.aload_n 0, 1) := by decide +kernel
theorem zd_Ca_stayOpen_76 : decode zo_Ca_stayOpen 76 = .ok (.iconst 3, 1) := by decide +kernel
theorem zd_Ca_stayOpen_77 : decode zo_Ca_stayOpen 77 = .ok (.iconst 3, 1) := by decide +kernel
theorem zd_Ca_stayOpen_78 : decode zo_Ca_stayOpen 78 = .ok (.invokevirtual 82, 3) := by decide +kernel
theorem zd_Ca_stayOpen_81 : decode zo_Ca_stayOpen 81 = .ok (.return_, 1) := by decide +kernel
abbrev zo_Ca_firstOf : ByteArray := prog_2_method_15_code
abbrev zy_Ca_firstOf : MethodName := ⟨"LiftGroup$Car", "firstOf", "(II)I"⟩
theorem zd_Ca_firstOf_0 : decode zo_Ca_firstOf 0 = .ok (.iconst 0, 1) := by decide +kernel
theorem zd_Ca_firstOf_1 : decode zo_Ca_firstOf 1 = .ok (.istore_n 2, 1) := by decide +kernel
theorem zd_Ca_firstOf_2 : decode zo_Ca_firstOf 2 = .ok (.iconst 0, 1) := by decide +kernel
theorem zd_Ca_firstOf_3 : decode zo_Ca_firstOf 3 = .ok (.istore_n 3, 1) := by decide +kernel
theorem zd_Ca_firstOf_4 : decode zo_Ca_firstOf 4 = .ok (.iload_n 3, 1) := by decide +kernel
theorem zd_Ca_firstOf_5 : decode zo_Ca_firstOf 5 = .ok (.bipush 24, 2) := by decide +kernel
theorem zd_Ca_firstOf_7 : decode zo_Ca_firstOf 7 = .ok (.if_icmp .ge 33, 3) := by decide +kernel
theorem zd_Ca_firstOf_10 : decode zo_Ca_firstOf 10 = .ok (.iload_n 1, 1) := by decide +kernel
theorem zd_Ca_firstOf_11 : decode zo_Ca_firstOf 11 = .ok (.ifCond .le 29, 3) := by decide +kernel
theorem zd_Ca_firstOf_14 : decode zo_Ca_firstOf 14 = .ok (.iload_n 0, 1) := by decide +kernel
theorem zd_Ca_firstOf_15 : decode zo_Ca_firstOf 15 = .ok (.iconst 1, 1) := by decide +kernel
theorem zd_Ca_firstOf_16 : decode zo_Ca_firstOf 16 = .ok (.iload_n 3, 1) := by decide +kernel
theorem zd_Ca_firstOf_17 : decode zo_Ca_firstOf 17 = .ok (.ishl, 1) := by decide +kernel
theorem zd_Ca_firstOf_18 : decode zo_Ca_firstOf 18 = .ok (.iand, 1) := by decide +kernel
theorem zd_Ca_firstOf_19 : decode zo_Ca_firstOf 19 = .ok (.istore 4, 2) := by decide +kernel
theorem zd_Ca_firstOf_21 : decode zo_Ca_firstOf 21 = .ok (.iload 4, 2) := by decide +kernel
theorem zd_Ca_firstOf_23 : decode zo_Ca_firstOf 23 = .ok (.ifCond .eq 11, 3) := by decide +kernel
theorem zd_Ca_firstOf_26 : decode zo_Ca_firstOf 26 = .ok (.iload_n 2, 1) := by decide +kernel
theorem zd_Ca_firstOf_27 : decode zo_Ca_firstOf 27 = .ok (.iload 4, 2) := by decide +kernel
theorem zd_Ca_firstOf_29 : decode zo_Ca_firstOf 29 = .ok (.ior, 1) := by decide +kernel
theorem zd_Ca_firstOf_30 : decode zo_Ca_firstOf 30 = .ok (.istore_n 2, 1) := by decide +kernel
theorem zd_Ca_firstOf_31 : decode zo_Ca_firstOf 31 = .ok (.iinc 1 (-1), 3) := by decide +kernel
theorem zd_Ca_firstOf_34 : decode zo_Ca_firstOf 34 = .ok (.iinc 3 1, 3) := by decide +kernel
theorem zd_Ca_firstOf_37 : decode zo_Ca_firstOf 37 = .ok (.goto (-33), 3) := by decide +kernel
theorem zd_Ca_firstOf_40 : decode zo_Ca_firstOf 40 = .ok (.iload_n 2, 1) := by decide +kernel
theorem zd_Ca_firstOf_41 : decode zo_Ca_firstOf 41 = .ok (.ireturn, 1) := by decide +kernel
abbrev zo_Ca_stopSet : ByteArray := prog_2_method_5_code
abbrev zy_Ca_stopSet : MethodName := ⟨"LiftGroup$Car", "stopSet", "(LLiftGroup$House;)I"⟩
theorem zd_Ca_stopSet_0 : decode zo_Ca_stopSet 0 = .ok (.aload_n 1, 1) := by decide +kernel
theorem zd_Ca_stopSet_1 : decode zo_Ca_stopSet 1 = .ok (.getfield 46, 3) := by decide +kernel
theorem zd_Ca_stopSet_4 : decode zo_Ca_stopSet 4 = .ok (.ifCond .eq 5, 3) := by decide +kernel
theorem zd_Ca_stopSet_7 : decode zo_Ca_stopSet 7 = .ok (.iconst 1, 1) := by decide +kernel
theorem zd_Ca_stopSet_8 : decode zo_Ca_stopSet 8 = .ok (.ireturn, 1) := by decide +kernel
theorem zd_Ca_stopSet_9 : decode zo_Ca_stopSet 9 = .ok (.aload_n 0, 1) := by decide +kernel
theorem zd_Ca_stopSet_10 : decode zo_Ca_stopSet 10 = .ok (.invokevirtual 51, 3) := by decide +kernel
theorem zd_Ca_stopSet_13 : decode zo_Ca_stopSet 13 = .ok (.ifCond .ne 5, 3) := by decide +kernel
theorem zd_Ca_stopSet_16 : decode zo_Ca_stopSet 16 = .ok (.iconst 0, 1) := by decide +kernel
theorem zd_Ca_stopSet_17 : decode zo_Ca_stopSet 17 = .ok (.ireturn, 1) := by decide +kernel
theorem zd_Ca_stopSet_18 : decode zo_Ca_stopSet 18 = .ok (.aload_n 0, 1) := by decide +kernel
theorem zd_Ca_stopSet_19 : decode zo_Ca_stopSet 19 = .ok (.getfield 37, 3) := by decide +kernel
theorem zd_Ca_stopSet_22 : decode zo_Ca_stopSet 22 = .ok (.invokestatic 55, 3) := by decide +kernel
theorem zd_Ca_stopSet_25 : decode zo_Ca_stopSet 25 = .ok (.aload_n 1, 1) := by decide +kernel
theorem zd_Ca_stopSet_26 : decode zo_Ca_stopSet 26 = .ok (.getfield 61, 3) := by decide +kernel
theorem zd_Ca_stopSet_29 : decode zo_Ca_stopSet 29 = .ok (.if_icmp .ge 10, 3) := by decide +kernel
theorem zd_Ca_stopSet_32 : decode zo_Ca_stopSet 32 = .ok (.aload_n 0, 1) := by decide +kernel
theorem zd_Ca_stopSet_33 : decode zo_Ca_stopSet 33 = .ok (.getfield 40, 3) := by decide +kernel
theorem zd_Ca_stopSet_36 : decode zo_Ca_stopSet 36 = .ok (.goto 4, 3) := by decide +kernel
theorem zd_Ca_stopSet_39 : decode zo_Ca_stopSet 39 = .ok (.iconst 0, 1) := by decide +kernel
theorem zd_Ca_stopSet_40 : decode zo_Ca_stopSet 40 = .ok (.istore_n 2, 1) := by decide +kernel
theorem zd_Ca_stopSet_41 : decode zo_Ca_stopSet 41 = .ok (.iconst 0, 1) := by decide +kernel
theorem zd_Ca_stopSet_42 : decode zo_Ca_stopSet 42 = .ok (.istore_n 3, 1) := by decide +kernel
theorem zd_Ca_stopSet_43 : decode zo_Ca_stopSet 43 = .ok (.iconst 0, 1) := by decide +kernel
theorem zd_Ca_stopSet_44 : decode zo_Ca_stopSet 44 = .ok (.istore 4, 2) := by decide +kernel
theorem zd_Ca_stopSet_46 : decode zo_Ca_stopSet 46 = .ok (.iload 4, 2) := by decide +kernel
theorem zd_Ca_stopSet_48 : decode zo_Ca_stopSet 48 = .ok (.aload_n 1, 1) := by decide +kernel
theorem zd_Ca_stopSet_49 : decode zo_Ca_stopSet 49 = .ok (.getfield 64, 3) := by decide +kernel
theorem zd_Ca_stopSet_52 : decode zo_Ca_stopSet 52 = .ok (.if_icmp .ge 45, 3) := by decide +kernel
theorem zd_Ca_stopSet_55 : decode zo_Ca_stopSet 55 = .ok (.aload_n 0, 1) := by decide +kernel
theorem zd_Ca_stopSet_56 : decode zo_Ca_stopSet 56 = .ok (.getfield 37, 3) := by decide +kernel
theorem zd_Ca_stopSet_59 : decode zo_Ca_stopSet 59 = .ok (.aload_n 1, 1) := by decide +kernel
theorem zd_Ca_stopSet_60 : decode zo_Ca_stopSet 60 = .ok (.getfield 67, 3) := by decide +kernel
theorem zd_Ca_stopSet_63 : decode zo_Ca_stopSet 63 = .ok (.iload 4, 2) := by decide +kernel
theorem zd_Ca_stopSet_65 : decode zo_Ca_stopSet 65 = .ok (.iaload, 1) := by decide +kernel
theorem zd_Ca_stopSet_66 : decode zo_Ca_stopSet 66 = .ok (.iand, 1) := by decide +kernel
theorem zd_Ca_stopSet_67 : decode zo_Ca_stopSet 67 = .ok (.ifCond .ne 15, 3) := by decide +kernel
theorem zd_Ca_stopSet_70 : decode zo_Ca_stopSet 70 = .ok (.iload_n 2, 1) := by decide +kernel
theorem zd_Ca_stopSet_71 : decode zo_Ca_stopSet 71 = .ok (.aload_n 1, 1) := by decide +kernel
theorem zd_Ca_stopSet_72 : decode zo_Ca_stopSet 72 = .ok (.getfield 71, 3) := by decide +kernel
theorem zd_Ca_stopSet_75 : decode zo_Ca_stopSet 75 = .ok (.iload 4, 2) := by decide +kernel
theorem zd_Ca_stopSet_77 : decode zo_Ca_stopSet 77 = .ok (.iaload, 1) := by decide +kernel
theorem zd_Ca_stopSet_78 : decode zo_Ca_stopSet 78 = .ok (.iand, 1) := by decide +kernel
theorem zd_Ca_stopSet_79 : decode zo_Ca_stopSet 79 = .ok (.ifCond .eq 12, 3) := by decide +kernel
theorem zd_Ca_stopSet_82 : decode zo_Ca_stopSet 82 = .ok (.iload_n 3, 1) := by decide +kernel
theorem zd_Ca_stopSet_83 : decode zo_Ca_stopSet 83 = .ok (.iconst 1, 1) := by decide +kernel
theorem zd_Ca_stopSet_84 : decode zo_Ca_stopSet 84 = .ok (.iconst 2, 1) := by decide +kernel
theorem zd_Ca_stopSet_85 : decode zo_Ca_stopSet 85 = .ok (.iload 4, 2) := by decide +kernel
theorem zd_Ca_stopSet_87 : decode zo_Ca_stopSet 87 = .ok (.imul, 1) := by decide +kernel
theorem zd_Ca_stopSet_88 : decode zo_Ca_stopSet 88 = .ok (.ishl, 1) := by decide +kernel
theorem zd_Ca_stopSet_89 : decode zo_Ca_stopSet 89 = .ok (.ior, 1) := by decide +kernel
theorem zd_Ca_stopSet_90 : decode zo_Ca_stopSet 90 = .ok (.istore_n 3, 1) := by decide +kernel
theorem zd_Ca_stopSet_91 : decode zo_Ca_stopSet 91 = .ok (.iinc 4 1, 3) := by decide +kernel
theorem zd_Ca_stopSet_94 : decode zo_Ca_stopSet 94 = .ok (.goto (-48), 3) := by decide +kernel
theorem zd_Ca_stopSet_97 : decode zo_Ca_stopSet 97 = .ok (.iload_n 3, 1) := by decide +kernel
theorem zd_Ca_stopSet_98 : decode zo_Ca_stopSet 98 = .ok (.ireturn, 1) := by decide +kernel
abbrev zo_Ca_exchange : ByteArray := prog_2_method_14_code
abbrev zy_Ca_exchange : MethodName := ⟨"LiftGroup$Car", "exchange", "(LLiftGroup$House;)V"⟩
theorem zd_Ca_exchange_0 : decode zo_Ca_exchange 0 = .ok (.aload_n 0, 1) := by decide +kernel
theorem zd_Ca_exchange_1 : decode zo_Ca_exchange 1 = .ok (.getfield 9, 3) := by decide +kernel
theorem zd_Ca_exchange_4 : decode zo_Ca_exchange 4 = .ok (.iconst 2, 1) := by decide +kernel
theorem zd_Ca_exchange_5 : decode zo_Ca_exchange 5 = .ok (.idiv, 1) := by decide +kernel
theorem zd_Ca_exchange_6 : decode zo_Ca_exchange 6 = .ok (.istore_n 2, 1) := by decide +kernel
theorem zd_Ca_exchange_7 : decode zo_Ca_exchange 7 = .ok (.aload_n 0, 1) := by decide +kernel
theorem zd_Ca_exchange_8 : decode zo_Ca_exchange 8 = .ok (.aload_n 0, 1) := by decide +kernel
theorem zd_Ca_exchange_9 : decode zo_Ca_exchange 9 = .ok (.getfield 37, 3) := by decide +kernel
theorem zd_Ca_exchange_12 : decode zo_Ca_exchange 12 = .ok (.aload_n 1, 1) := by decide +kernel
theorem zd_Ca_exchange_13 : decode zo_Ca_exchange 13 = .ok (.getfield 67, 3) := by decide +kernel
theorem zd_Ca_exchange_16 : decode zo_Ca_exchange 16 = .ok (.iload_n 2, 1) := by decide +kernel
theorem zd_Ca_exchange_17 : decode zo_Ca_exchange 17 = .ok (.iaload, 1) := by decide +kernel
theorem zd_Ca_exchange_18 : decode zo_Ca_exchange 18 = .ok (.iand, 1) := by decide +kernel
theorem zd_Ca_exchange_19 : decode zo_Ca_exchange 19 = .ok (.putfield 97, 3) := by decide +kernel
theorem zd_Ca_exchange_22 : decode zo_Ca_exchange 22 = .ok (.aload_n 0, 1) := by decide +kernel
theorem zd_Ca_exchange_23 : decode zo_Ca_exchange 23 = .ok (.dup, 1) := by decide +kernel
theorem zd_Ca_exchange_24 : decode zo_Ca_exchange 24 = .ok (.getfield 37, 3) := by decide +kernel
theorem zd_Ca_exchange_27 : decode zo_Ca_exchange 27 = .ok (.aload_n 0, 1) := by decide +kernel
theorem zd_Ca_exchange_28 : decode zo_Ca_exchange 28 = .ok (.getfield 97, 3) := by decide +kernel
theorem zd_Ca_exchange_31 : decode zo_Ca_exchange 31 = .ok (.iconst (-1), 1) := by decide +kernel
theorem zd_Ca_exchange_32 : decode zo_Ca_exchange 32 = .ok (.ixor, 1) := by decide +kernel
theorem zd_Ca_exchange_33 : decode zo_Ca_exchange 33 = .ok (.iand, 1) := by decide +kernel
theorem zd_Ca_exchange_34 : decode zo_Ca_exchange 34 = .ok (.putfield 37, 3) := by decide +kernel
theorem zd_Ca_exchange_37 : decode zo_Ca_exchange 37 = .ok (.aload_n 1, 1) := by decide +kernel
theorem zd_Ca_exchange_38 : decode zo_Ca_exchange 38 = .ok (.getfield 46, 3) := by decide +kernel
theorem zd_Ca_exchange_41 : decode zo_Ca_exchange 41 = .ok (.ifCond .ne 66, 3) := by decide +kernel
theorem zd_Ca_exchange_44 : decode zo_Ca_exchange 44 = .ok (.aload_n 1, 1) := by decide +kernel
theorem zd_Ca_exchange_45 : decode zo_Ca_exchange 45 = .ok (.getfield 61, 3) := by decide +kernel
theorem zd_Ca_exchange_48 : decode zo_Ca_exchange 48 = .ok (.aload_n 0, 1) := by decide +kernel
theorem zd_Ca_exchange_49 : decode zo_Ca_exchange 49 = .ok (.getfield 37, 3) := by decide +kernel
theorem zd_Ca_exchange_52 : decode zo_Ca_exchange 52 = .ok (.invokestatic 55, 3) := by decide +kernel
theorem zd_Ca_exchange_55 : decode zo_Ca_exchange 55 = .ok (.isub, 1) := by decide +kernel
theorem zd_Ca_exchange_56 : decode zo_Ca_exchange 56 = .ok (.istore_n 3, 1) := by decide +kernel
theorem zd_Ca_exchange_57 : decode zo_Ca_exchange 57 = .ok (.aload_n 0, 1) := by decide +kernel
theorem zd_Ca_exchange_58 : decode zo_Ca_exchange 58 = .ok (.aload_n 0, 1) := by decide +kernel
theorem zd_Ca_exchange_59 : decode zo_Ca_exchange 59 = .ok (.getfield 40, 3) := by decide +kernel
theorem zd_Ca_exchange_62 : decode zo_Ca_exchange 62 = .ok (.aload_n 1, 1) := by decide +kernel
theorem zd_Ca_exchange_63 : decode zo_Ca_exchange 63 = .ok (.getfield 71, 3) := by decide +kernel
theorem zd_Ca_exchange_66 : decode zo_Ca_exchange 66 = .ok (.iload_n 2, 1) := by decide +kernel
theorem zd_Ca_exchange_67 : decode zo_Ca_exchange 67 = .ok (.iaload, 1) := by decide +kernel
theorem zd_Ca_exchange_68 : decode zo_Ca_exchange 68 = .ok (.iand, 1) := by decide +kernel
theorem zd_Ca_exchange_69 : decode zo_Ca_exchange 69 = .ok (.iload_n 3, 1) := by decide +kernel
theorem zd_Ca_exchange_70 : decode zo_Ca_exchange 70 = .ok (.invokestatic 113, 3) := by decide +kernel
theorem zd_Ca_exchange_73 : decode zo_Ca_exchange 73 = .ok (.putfield 103, 3) := by decide +kernel
theorem zd_Ca_exchange_76 : decode zo_Ca_exchange 76 = .ok (.aload_n 0, 1) := by decide +kernel
theorem zd_Ca_exchange_77 : decode zo_Ca_exchange 77 = .ok (.dup, 1) := by decide +kernel
theorem zd_Ca_exchange_78 : decode zo_Ca_exchange 78 = .ok (.getfield 37, 3) := by decide +kernel
theorem zd_Ca_exchange_81 : decode zo_Ca_exchange 81 = .ok (.aload_n 0, 1) := by decide +kernel
theorem zd_Ca_exchange_82 : decode zo_Ca_exchange 82 = .ok (.getfield 103, 3) := by decide +kernel
theorem zd_Ca_exchange_85 : decode zo_Ca_exchange 85 = .ok (.ior, 1) := by decide +kernel
theorem zd_Ca_exchange_86 : decode zo_Ca_exchange 86 = .ok (.putfield 37, 3) := by decide +kernel
theorem zd_Ca_exchange_89 : decode zo_Ca_exchange 89 = .ok (.aload_n 0, 1) := by decide +kernel
theorem zd_Ca_exchange_90 : decode zo_Ca_exchange 90 = .ok (.dup, 1) := by decide +kernel
theorem zd_Ca_exchange_91 : decode zo_Ca_exchange 91 = .ok (.getfield 40, 3) := by decide +kernel
theorem zd_Ca_exchange_94 : decode zo_Ca_exchange 94 = .ok (.aload_n 0, 1) := by decide +kernel
theorem zd_Ca_exchange_95 : decode zo_Ca_exchange 95 = .ok (.getfield 103, 3) := by decide +kernel
theorem zd_Ca_exchange_98 : decode zo_Ca_exchange 98 = .ok (.iconst (-1), 1) := by decide +kernel
theorem zd_Ca_exchange_99 : decode zo_Ca_exchange 99 = .ok (.ixor, 1) := by decide +kernel
theorem zd_Ca_exchange_100 : decode zo_Ca_exchange 100 = .ok (.iand, 1) := by decide +kernel
theorem zd_Ca_exchange_101 : decode zo_Ca_exchange 101 = .ok (.putfield 40, 3) := by decide +kernel
theorem zd_Ca_exchange_104 : decode zo_Ca_exchange 104 = .ok (.goto 20, 3) := by decide +kernel
theorem zd_Ca_exchange_107 : decode zo_Ca_exchange 107 = .ok (.iload_n 2, 1) := by decide +kernel
theorem zd_Ca_exchange_108 : decode zo_Ca_exchange 108 = .ok (.ifCond .ne 16, 3) := by decide +kernel
theorem zd_Ca_exchange_111 : decode zo_Ca_exchange 111 = .ok (.aload_n 0, 1) := by decide +kernel
theorem zd_Ca_exchange_112 : decode zo_Ca_exchange 112 = .ok (.aload_n 0, 1) := by decide +kernel
theorem zd_Ca_exchange_113 : decode zo_Ca_exchange 113 = .ok (.getfield 37, 3) := by decide +kernel
theorem zd_Ca_exchange_116 : decode zo_Ca_exchange 116 = .ok (.putfield 100, 3) := by decide +kernel
theorem zd_Ca_exchange_119 : decode zo_Ca_exchange 119 = .ok (.aload_n 0, 1) := by decide +kernel
theorem zd_Ca_exchange_120 : decode zo_Ca_exchange 120 = .ok (.iconst 0, 1) := by decide +kernel
theorem zd_Ca_exchange_121 : decode zo_Ca_exchange 121 = .ok (.putfield 37, 3) := by decide +kernel
theorem zd_Ca_exchange_124 : decode zo_Ca_exchange 124 = .ok (.return_, 1) := by decide +kernel
abbrev zo_Ca_advance : ByteArray := prog_2_method_6_code
abbrev zy_Ca_advance : MethodName := ⟨"LiftGroup$Car", "advance", "(LLiftGroup$House;)V"⟩
theorem zd_Ca_advance_0 : decode zo_Ca_advance 0 = .ok (.aload_n 0, 1) := by decide +kernel
theorem zd_Ca_advance_1 : decode zo_Ca_advance 1 = .ok (.invokevirtual 43, 3) := by decide +kernel
theorem zd_Ca_advance_4 : decode zo_Ca_advance 4 = .ok (.aload_n 0, 1) := by decide +kernel
theorem zd_Ca_advance_5 : decode zo_Ca_advance 5 = .ok (.getfield 18, 3) := by decide +kernel
theorem zd_Ca_advance_8 : decode zo_Ca_advance 8 = .ok (.tableswitch 134 0 3 #[32, 44, 80, 111], 32) := by decide +kernel
theorem zd_Ca_advance_40 : decode zo_Ca_advance 40 = .ok (.aload_n 0, 1) := by decide +kernel
theorem zd_Ca_advance_41 : decode zo_Ca_advance 41 = .ok (.aload_n 0, 1) := by decide +kernel
theorem zd_Ca_advance_42 : decode zo_Ca_advance 42 = .ok (.aload_n 1, 1) := by decide +kernel
theorem zd_Ca_advance_43 : decode zo_Ca_advance 43 = .ok (.invokevirtual 74, 3) := by decide +kernel
theorem zd_Ca_advance_46 : decode zo_Ca_advance 46 = .ok (.invokevirtual 78, 3) := by decide +kernel
theorem zd_Ca_advance_49 : decode zo_Ca_advance 49 = .ok (.goto 97, 3) := by decide +kernel
theorem zd_Ca_advance_52 : decode zo_Ca_advance 52 = .ok (.aload_n 0, 1) := by decide +kernel
theorem zd_Ca_advance_53 : decode zo_Ca_advance 53 = .ok (.dup, 1) := by decide +kernel
theorem zd_Ca_advance_54 : decode zo_Ca_advance 54 = .ok (.getfield 21, 3) := by decide +kernel
theorem zd_Ca_advance_57 : decode zo_Ca_advance 57 = .ok (.iconst 1, 1) := by decide +kernel
theorem zd_Ca_advance_58 : decode zo_Ca_advance 58 = .ok (.isub, 1) := by decide +kernel
theorem zd_Ca_advance_59 : decode zo_Ca_advance 59 = .ok (.putfield 21, 3) := by decide +kernel
theorem zd_Ca_advance_62 : decode zo_Ca_advance 62 = .ok (.aload_n 0, 1) := by decide +kernel
theorem zd_Ca_advance_63 : decode zo_Ca_advance 63 = .ok (.getfield 21, 3) := by decide +kernel
theorem zd_Ca_advance_66 : decode zo_Ca_advance 66 = .ok (.ifCond .ne 80, 3) := by decide +kernel
theorem zd_Ca_advance_69 : decode zo_Ca_advance 69 = .ok (.aload_n 0, 1) := by decide +kernel
theorem zd_Ca_advance_70 : decode zo_Ca_advance 70 = .ok (.iconst 2, 1) := by decide +kernel
theorem zd_Ca_advance_71 : decode zo_Ca_advance 71 = .ok (.iconst 4, 1) := by decide +kernel
theorem zd_Ca_advance_72 : decode zo_Ca_advance 72 = .ok (.invokevirtual 82, 3) := by decide +kernel
theorem zd_Ca_advance_75 : decode zo_Ca_advance 75 = .ok (.aload_n 0, 1) := by decide +kernel
theorem zd_Ca_advance_76 : decode zo_Ca_advance 76 = .ok (.iconst 0, 1) := by decide +kernel
theorem zd_Ca_advance_77 : decode zo_Ca_advance 77 = .ok (.putfield 24, 3) := by decide +kernel
theorem zd_Ca_advance_80 : decode zo_Ca_advance 80 = .ok (.aload_n 0, 1) := by decide +kernel
theorem zd_Ca_advance_81 : decode zo_Ca_advance 81 = .ok (.aload_n 1, 1) := by decide +kernel
theorem zd_Ca_advance_82 : decode zo_Ca_advance 82 = .ok (.invokevirtual 86, 3) := by decide +kernel
theorem zd_Ca_advance_85 : decode zo_Ca_advance 85 = .ok (.goto 61, 3) := by decide +kernel
theorem zd_Ca_advance_88 : decode zo_Ca_advance 88 = .ok (.aload_n 0, 1) := by decide +kernel
theorem zd_Ca_advance_89 : decode zo_Ca_advance 89 = .ok (.aload_n 1, 1) := by decide +kernel
theorem zd_Ca_advance_90 : decode zo_Ca_advance 90 = .ok (.invokevirtual 86, 3) := by decide +kernel
theorem zd_Ca_advance_93 : decode zo_Ca_advance 93 = .ok (.aload_n 0, 1) := by decide +kernel
theorem zd_Ca_advance_94 : decode zo_Ca_advance 94 = .ok (.aload_n 1, 1) := by decide +kernel
theorem zd_Ca_advance_95 : decode zo_Ca_advance 95 = .ok (.getfield 46, 3) := by decide +kernel
theorem zd_Ca_advance_98 : decode zo_Ca_advance 98 = .ok (.ifCond .eq 14, 3) := by decide +kernel
theorem zd_Ca_advance_101 : decode zo_Ca_advance 101 = .ok (.aload_n 0, 1) := by decide +kernel
theorem zd_Ca_advance_102 : decode zo_Ca_advance 102 = .ok (.getfield 9, 3) := by decide +kernel
theorem zd_Ca_advance_105 : decode zo_Ca_advance 105 = .ok (.ifCond .ne 7, 3) := by decide +kernel
theorem zd_Ca_advance_108 : decode zo_Ca_advance 108 = .ok (.iconst 1, 1) := by decide +kernel
theorem zd_Ca_advance_109 : decode zo_Ca_advance 109 = .ok (.goto 4, 3) := by decide +kernel
theorem zd_Ca_advance_112 : decode zo_Ca_advance 112 = .ok (.iconst 0, 1) := by decide +kernel
theorem zd_Ca_advance_113 : decode zo_Ca_advance 113 = .ok (.invokevirtual 90, 3) := by decide +kernel
theorem zd_Ca_advance_116 : decode zo_Ca_advance 116 = .ok (.goto 30, 3) := by decide +kernel
theorem zd_Ca_advance_119 : decode zo_Ca_advance 119 = .ok (.aload_n 0, 1) := by decide +kernel
theorem zd_Ca_advance_120 : decode zo_Ca_advance 120 = .ok (.getfield 34, 3) := by decide +kernel
theorem zd_Ca_advance_123 : decode zo_Ca_advance 123 = .ok (.ifCond .eq 12, 3) := by decide +kernel
theorem zd_Ca_advance_126 : decode zo_Ca_advance 126 = .ok (.aload_n 0, 1) := by decide +kernel
theorem zd_Ca_advance_127 : decode zo_Ca_advance 127 = .ok (.iconst 1, 1) := by decide +kernel
theorem zd_Ca_advance_128 : decode zo_Ca_advance 128 = .ok (.iconst 3, 1) := by decide +kernel
theorem zd_Ca_advance_129 : decode zo_Ca_advance 129 = .ok (.invokevirtual 82, 3) := by decide +kernel
theorem zd_Ca_advance_132 : decode zo_Ca_advance 132 = .ok (.goto 14, 3) := by decide +kernel
theorem zd_Ca_advance_135 : decode zo_Ca_advance 135 = .ok (.aload_n 0, 1) := by decide +kernel
theorem zd_Ca_advance_136 : decode zo_Ca_advance 136 = .ok (.invokevirtual 94, 3) := by decide +kernel
theorem zd_Ca_advance_139 : decode zo_Ca_advance 139 = .ok (.goto 7, 3) := by decide +kernel
theorem zd_Ca_advance_142 : decode zo_Ca_advance 142 = .ok (.aload_n 0, 1) := by decide +kernel
theorem zd_Ca_advance_143 : decode zo_Ca_advance 143 = .ok (.invokevirtual 94, 3) := by decide +kernel
theorem zd_Ca_advance_146 : decode zo_Ca_advance 146 = .ok (.return_, 1) := by decide +kernel
section ZC3
variable {p : Program} {l : Launch} {e : Env} {s : State} {m : MethodId} {args : Array Value} {below : List Frame} {meth : Method} {c : Code} {E : zE} {A : Nat → Prop}
abbrev zrm_In_bitCount : Room := { frames := 0, cells := 0, slots := 0, locals := 0 }
def zf_In_bitCount (N : Nat) (a0 : Int32) (st : zS) : Option (Int32 × zS) := some (((((((((a0 - ((((a0).toUInt32 >>> ((1 : Int32).toUInt32 &&& Int32.toUInt32 31)).toInt32) &&& 1431655765)) &&& 858993459) + (((((a0 - ((((a0).toUInt32 >>> ((1 : Int32).toUInt32 &&& Int32.toUInt32 31)).toInt32) &&& 1431655765))).toUInt32 >>> ((2 : Int32).toUInt32 &&& Int32.toUInt32 31)).toInt32) &&& 858993459)) + ((((((a0 - ((((a0).toUInt32 >>> ((1 : Int32).toUInt32 &&& Int32.toUInt32 31)).toInt32) &&& 1431655765)) &&& 858993459) + (((((a0 - ((((a0).toUInt32 >>> ((1 : Int32).toUInt32 &&& Int32.toUInt32 31)).toInt32) &&& 1431655765))).toUInt32 >>> ((2 : Int32).toUInt32 &&& Int32.toUInt32 31)).toInt32) &&& 858993459))).toUInt32 >>> ((4 : Int32).toUInt32 &&& Int32.toUInt32 31)).toInt32)) &&& 252645135) + ((((((((a0 - ((((a0).toUInt32 >>> ((1 : Int32).toUInt32 &&& Int32.toUInt32 31)).toInt32) &&& 1431655765)) &&& 858993459) + (((((a0 - ((((a0).toUInt32 >>> ((1 : Int32).toUInt32 &&& Int32.toUInt32 31)).toInt32) &&& 1431655765))).toUInt32 >>> ((2 : Int32).toUInt32 &&& Int32.toUInt32 31)).toInt32) &&& 858993459)) + ((((((a0 - ((((a0).toUInt32 >>> ((1 : Int32).toUInt32 &&& Int32.toUInt32 31)).toInt32) &&& 1431655765)) &&& 858993459) + (((((a0 - ((((a0).toUInt32 >>> ((1 : Int32).toUInt32 &&& Int32.toUInt32 31)).toInt32) &&& 1431655765))).toUInt32 >>> ((2 : Int32).toUInt32 &&& Int32.toUInt32 31)).toInt32) &&& 858993459))).toUInt32 >>> ((4 : Int32).toUInt32 &&& Int32.toUInt32 31)).toInt32)) &&& 252645135)).toUInt32 >>> ((8 : Int32).toUInt32 &&& Int32.toUInt32 31)).toInt32)) + (((((((((a0 - ((((a0).toUInt32 >>> ((1 : Int32).toUInt32 &&& Int32.toUInt32 31)).toInt32) &&& 1431655765)) &&& 858993459) + (((((a0 - ((((a0).toUInt32 >>> ((1 : Int32).toUInt32 &&& Int32.toUInt32 31)).toInt32) &&& 1431655765))).toUInt32 >>> ((2 : Int32).toUInt32 &&& Int32.toUInt32 31)).toInt32) &&& 858993459)) + ((((((a0 - ((((a0).toUInt32 >>> ((1 : Int32).toUInt32 &&& Int32.toUInt32 31)).toInt32) &&& 1431655765)) &&& 858993459) + (((((a0 - ((((a0).toUInt32 >>> ((1 : Int32).toUInt32 &&& Int32.toUInt32 31)).toInt32) &&& 1431655765))).toUInt32 >>> ((2 : Int32).toUInt32 &&& Int32.toUInt32 31)).toInt32) &&& 858993459))).toUInt32 >>> ((4 : Int32).toUInt32 &&& Int32.toUInt32 31)).toInt32)) &&& 252645135) + ((((((((a0 - ((((a0).toUInt32 >>> ((1 : Int32).toUInt32 &&& Int32.toUInt32 31)).toInt32) &&& 1431655765)) &&& 858993459) + (((((a0 - ((((a0).toUInt32 >>> ((1 : Int32).toUInt32 &&& Int32.toUInt32 31)).toInt32) &&& 1431655765))).toUInt32 >>> ((2 : Int32).toUInt32 &&& Int32.toUInt32 31)).toInt32) &&& 858993459)) + ((((((a0 - ((((a0).toUInt32 >>> ((1 : Int32).toUInt32 &&& Int32.toUInt32 31)).toInt32) &&& 1431655765)) &&& 858993459) + (((((a0 - ((((a0).toUInt32 >>> ((1 : Int32).toUInt32 &&& Int32.toUInt32 31)).toInt32) &&& 1431655765))).toUInt32 >>> ((2 : Int32).toUInt32 &&& Int32.toUInt32 31)).toInt32) &&& 858993459))).toUInt32 >>> ((4 : Int32).toUInt32 &&& Int32.toUInt32 31)).toInt32)) &&& 252645135)).toUInt32 >>> ((8 : Int32).toUInt32 &&& Int32.toUInt32 31)).toInt32))).toUInt32 >>> ((16 : Int32).toUInt32 &&& Int32.toUInt32 31)).toInt32)) &&& 63), st)
set_option maxHeartbeats 4000000 in
theorem zl_In_bitCount_0 (F : zw_X p m c zo_In_bitCount 1 s args "java/lang/Integer" E 10 A meth (some .int)) {N : Nat} {rv : Int32} {rst : zS} (a0 : Int32) (st : zS)  (h : zf_In_bitCount N a0 st = some (rv, rst)) : zw_G p l e zrm_In_bitCount s m args below meth c (MQ below (zw_Q E (some (.int rv)) rst A) args s 0 0 A) E A 1 0 0 [some (.int a0)] [] st := by
  unfold zf_In_bitCount at h
  refine zg_iload_n F.1 zd_In_bitCount_0 rfl rfl ?_
  refine zg_iload_n F.1 zd_In_bitCount_1 rfl rfl ?_
  refine zg_iconst F.1 1 1 (by decide) zd_In_bitCount_2 ?_
  refine zg_iushr F.1 zd_In_bitCount_3 ?_
  refine zg_ldcw F.1 1431655765 (zw_at 324 rfl rfl) zd_In_bitCount_4 ?_
  refine zg_iand F.1 zd_In_bitCount_7 ?_
  refine zg_isub F.1 zd_In_bitCount_8 ?_
  refine zg_istore_n F.1 [some (.int (a0 - ((((a0).toUInt32 >>> ((1 : Int32).toUInt32 &&& Int32.toUInt32 31)).toInt32) &&& 1431655765)))] zd_In_bitCount_9 rfl (by decide) rfl ?_
  refine zg_iload_n F.1 zd_In_bitCount_10 rfl rfl ?_
  refine zg_ldcw F.1 858993459 (zw_at 325 rfl rfl) zd_In_bitCount_11 ?_
  refine zg_iand F.1 zd_In_bitCount_14 ?_
  refine zg_iload_n F.1 zd_In_bitCount_15 rfl rfl ?_
  refine zg_iconst F.1 2 2 (by decide) zd_In_bitCount_16 ?_
  refine zg_iushr F.1 zd_In_bitCount_17 ?_
  refine zg_ldcw F.1 858993459 (zw_at 325 rfl rfl) zd_In_bitCount_18 ?_
  refine zg_iand F.1 zd_In_bitCount_21 ?_
  refine zg_iadd F.1 zd_In_bitCount_22 ?_
  refine zg_istore_n F.1 [some (.int (((a0 - ((((a0).toUInt32 >>> ((1 : Int32).toUInt32 &&& Int32.toUInt32 31)).toInt32) &&& 1431655765)) &&& 858993459) + (((((a0 - ((((a0).toUInt32 >>> ((1 : Int32).toUInt32 &&& Int32.toUInt32 31)).toInt32) &&& 1431655765))).toUInt32 >>> ((2 : Int32).toUInt32 &&& Int32.toUInt32 31)).toInt32) &&& 858993459)))] zd_In_bitCount_23 rfl (by decide) rfl ?_
  refine zg_iload_n F.1 zd_In_bitCount_24 rfl rfl ?_
  refine zg_iload_n F.1 zd_In_bitCount_25 rfl rfl ?_
  refine zg_iconst F.1 4 4 (by decide) zd_In_bitCount_26 ?_
  refine zg_iushr F.1 zd_In_bitCount_27 ?_
  refine zg_iadd F.1 zd_In_bitCount_28 ?_
  refine zg_ldcw F.1 252645135 (zw_at 326 rfl rfl) zd_In_bitCount_29 ?_
  refine zg_iand F.1 zd_In_bitCount_32 ?_
  refine zg_istore_n F.1 [some (.int (((((a0 - ((((a0).toUInt32 >>> ((1 : Int32).toUInt32 &&& Int32.toUInt32 31)).toInt32) &&& 1431655765)) &&& 858993459) + (((((a0 - ((((a0).toUInt32 >>> ((1 : Int32).toUInt32 &&& Int32.toUInt32 31)).toInt32) &&& 1431655765))).toUInt32 >>> ((2 : Int32).toUInt32 &&& Int32.toUInt32 31)).toInt32) &&& 858993459)) + ((((((a0 - ((((a0).toUInt32 >>> ((1 : Int32).toUInt32 &&& Int32.toUInt32 31)).toInt32) &&& 1431655765)) &&& 858993459) + (((((a0 - ((((a0).toUInt32 >>> ((1 : Int32).toUInt32 &&& Int32.toUInt32 31)).toInt32) &&& 1431655765))).toUInt32 >>> ((2 : Int32).toUInt32 &&& Int32.toUInt32 31)).toInt32) &&& 858993459))).toUInt32 >>> ((4 : Int32).toUInt32 &&& Int32.toUInt32 31)).toInt32)) &&& 252645135))] zd_In_bitCount_33 rfl (by decide) rfl ?_
  refine zg_iload_n F.1 zd_In_bitCount_34 rfl rfl ?_
  refine zg_iload_n F.1 zd_In_bitCount_35 rfl rfl ?_
  refine zg_bipush F.1 8 8 (by decide) zd_In_bitCount_36 ?_
  refine zg_iushr F.1 zd_In_bitCount_38 ?_
  refine zg_iadd F.1 zd_In_bitCount_39 ?_
  refine zg_istore_n F.1 [some (.int ((((((a0 - ((((a0).toUInt32 >>> ((1 : Int32).toUInt32 &&& Int32.toUInt32 31)).toInt32) &&& 1431655765)) &&& 858993459) + (((((a0 - ((((a0).toUInt32 >>> ((1 : Int32).toUInt32 &&& Int32.toUInt32 31)).toInt32) &&& 1431655765))).toUInt32 >>> ((2 : Int32).toUInt32 &&& Int32.toUInt32 31)).toInt32) &&& 858993459)) + ((((((a0 - ((((a0).toUInt32 >>> ((1 : Int32).toUInt32 &&& Int32.toUInt32 31)).toInt32) &&& 1431655765)) &&& 858993459) + (((((a0 - ((((a0).toUInt32 >>> ((1 : Int32).toUInt32 &&& Int32.toUInt32 31)).toInt32) &&& 1431655765))).toUInt32 >>> ((2 : Int32).toUInt32 &&& Int32.toUInt32 31)).toInt32) &&& 858993459))).toUInt32 >>> ((4 : Int32).toUInt32 &&& Int32.toUInt32 31)).toInt32)) &&& 252645135) + ((((((((a0 - ((((a0).toUInt32 >>> ((1 : Int32).toUInt32 &&& Int32.toUInt32 31)).toInt32) &&& 1431655765)) &&& 858993459) + (((((a0 - ((((a0).toUInt32 >>> ((1 : Int32).toUInt32 &&& Int32.toUInt32 31)).toInt32) &&& 1431655765))).toUInt32 >>> ((2 : Int32).toUInt32 &&& Int32.toUInt32 31)).toInt32) &&& 858993459)) + ((((((a0 - ((((a0).toUInt32 >>> ((1 : Int32).toUInt32 &&& Int32.toUInt32 31)).toInt32) &&& 1431655765)) &&& 858993459) + (((((a0 - ((((a0).toUInt32 >>> ((1 : Int32).toUInt32 &&& Int32.toUInt32 31)).toInt32) &&& 1431655765))).toUInt32 >>> ((2 : Int32).toUInt32 &&& Int32.toUInt32 31)).toInt32) &&& 858993459))).toUInt32 >>> ((4 : Int32).toUInt32 &&& Int32.toUInt32 31)).toInt32)) &&& 252645135)).toUInt32 >>> ((8 : Int32).toUInt32 &&& Int32.toUInt32 31)).toInt32)))] zd_In_bitCount_40 rfl (by decide) rfl ?_
  refine zg_iload_n F.1 zd_In_bitCount_41 rfl rfl ?_
  refine zg_iload_n F.1 zd_In_bitCount_42 rfl rfl ?_
  refine zg_bipush F.1 16 16 (by decide) zd_In_bitCount_43 ?_
  refine zg_iushr F.1 zd_In_bitCount_45 ?_
  refine zg_iadd F.1 zd_In_bitCount_46 ?_
  refine zg_istore_n F.1 [some (.int (((((((a0 - ((((a0).toUInt32 >>> ((1 : Int32).toUInt32 &&& Int32.toUInt32 31)).toInt32) &&& 1431655765)) &&& 858993459) + (((((a0 - ((((a0).toUInt32 >>> ((1 : Int32).toUInt32 &&& Int32.toUInt32 31)).toInt32) &&& 1431655765))).toUInt32 >>> ((2 : Int32).toUInt32 &&& Int32.toUInt32 31)).toInt32) &&& 858993459)) + ((((((a0 - ((((a0).toUInt32 >>> ((1 : Int32).toUInt32 &&& Int32.toUInt32 31)).toInt32) &&& 1431655765)) &&& 858993459) + (((((a0 - ((((a0).toUInt32 >>> ((1 : Int32).toUInt32 &&& Int32.toUInt32 31)).toInt32) &&& 1431655765))).toUInt32 >>> ((2 : Int32).toUInt32 &&& Int32.toUInt32 31)).toInt32) &&& 858993459))).toUInt32 >>> ((4 : Int32).toUInt32 &&& Int32.toUInt32 31)).toInt32)) &&& 252645135) + ((((((((a0 - ((((a0).toUInt32 >>> ((1 : Int32).toUInt32 &&& Int32.toUInt32 31)).toInt32) &&& 1431655765)) &&& 858993459) + (((((a0 - ((((a0).toUInt32 >>> ((1 : Int32).toUInt32 &&& Int32.toUInt32 31)).toInt32) &&& 1431655765))).toUInt32 >>> ((2 : Int32).toUInt32 &&& Int32.toUInt32 31)).toInt32) &&& 858993459)) + ((((((a0 - ((((a0).toUInt32 >>> ((1 : Int32).toUInt32 &&& Int32.toUInt32 31)).toInt32) &&& 1431655765)) &&& 858993459) + (((((a0 - ((((a0).toUInt32 >>> ((1 : Int32).toUInt32 &&& Int32.toUInt32 31)).toInt32) &&& 1431655765))).toUInt32 >>> ((2 : Int32).toUInt32 &&& Int32.toUInt32 31)).toInt32) &&& 858993459))).toUInt32 >>> ((4 : Int32).toUInt32 &&& Int32.toUInt32 31)).toInt32)) &&& 252645135)).toUInt32 >>> ((8 : Int32).toUInt32 &&& Int32.toUInt32 31)).toInt32)) + (((((((((a0 - ((((a0).toUInt32 >>> ((1 : Int32).toUInt32 &&& Int32.toUInt32 31)).toInt32) &&& 1431655765)) &&& 858993459) + (((((a0 - ((((a0).toUInt32 >>> ((1 : Int32).toUInt32 &&& Int32.toUInt32 31)).toInt32) &&& 1431655765))).toUInt32 >>> ((2 : Int32).toUInt32 &&& Int32.toUInt32 31)).toInt32) &&& 858993459)) + ((((((a0 - ((((a0).toUInt32 >>> ((1 : Int32).toUInt32 &&& Int32.toUInt32 31)).toInt32) &&& 1431655765)) &&& 858993459) + (((((a0 - ((((a0).toUInt32 >>> ((1 : Int32).toUInt32 &&& Int32.toUInt32 31)).toInt32) &&& 1431655765))).toUInt32 >>> ((2 : Int32).toUInt32 &&& Int32.toUInt32 31)).toInt32) &&& 858993459))).toUInt32 >>> ((4 : Int32).toUInt32 &&& Int32.toUInt32 31)).toInt32)) &&& 252645135) + ((((((((a0 - ((((a0).toUInt32 >>> ((1 : Int32).toUInt32 &&& Int32.toUInt32 31)).toInt32) &&& 1431655765)) &&& 858993459) + (((((a0 - ((((a0).toUInt32 >>> ((1 : Int32).toUInt32 &&& Int32.toUInt32 31)).toInt32) &&& 1431655765))).toUInt32 >>> ((2 : Int32).toUInt32 &&& Int32.toUInt32 31)).toInt32) &&& 858993459)) + ((((((a0 - ((((a0).toUInt32 >>> ((1 : Int32).toUInt32 &&& Int32.toUInt32 31)).toInt32) &&& 1431655765)) &&& 858993459) + (((((a0 - ((((a0).toUInt32 >>> ((1 : Int32).toUInt32 &&& Int32.toUInt32 31)).toInt32) &&& 1431655765))).toUInt32 >>> ((2 : Int32).toUInt32 &&& Int32.toUInt32 31)).toInt32) &&& 858993459))).toUInt32 >>> ((4 : Int32).toUInt32 &&& Int32.toUInt32 31)).toInt32)) &&& 252645135)).toUInt32 >>> ((8 : Int32).toUInt32 &&& Int32.toUInt32 31)).toInt32))).toUInt32 >>> ((16 : Int32).toUInt32 &&& Int32.toUInt32 31)).toInt32)))] zd_In_bitCount_47 rfl (by decide) rfl ?_
  refine zg_iload_n F.1 zd_In_bitCount_48 rfl rfl ?_
  refine zg_bipush F.1 63 63 (by decide) zd_In_bitCount_49 ?_
  refine zg_iand F.1 zd_In_bitCount_51 ?_
  cases h
  exact zg_iret F zd_In_bitCount_52
theorem zk_In_bitCount {E : zE} (hn : zw_n E 10) (N : Nat) (a0 : Int32) (st : zS)  {rv : Int32} {rst : zS} (h : zf_In_bitCount N a0 st = some (rv, rst)) : zw_M l zy_In_bitCount (Cond.code zy_In_bitCount zo_In_bitCount 1 (some .int) :: zwAll) zrm_In_bitCount E [.int a0] st (some (.int rv)) rst :=
  zw_enter (by decide) rfl hn (Nat.le_of_ble_eq_true rfl) (by simp [Value.category]) 0 (fun p e s m args below meth c A F => zl_In_bitCount_0 F a0 st  h)
set_option maxRecDepth 100000 in
theorem zwf_Ca_97 : Cond.fieldLink zR2 97 (zT2 10).1 (zT2 10).2.1 (zT2 10).2.2.1 ∈ zwAll := zw_at 127 rfl rfl
set_option maxRecDepth 100000 in
theorem zwf_Ca_100 : Cond.fieldLink zR2 100 (zT2 11).1 (zT2 11).2.1 (zT2 11).2.2.1 ∈ zwAll := zw_at 129 rfl rfl
set_option maxRecDepth 100000 in
theorem zwf_Ca_103 : Cond.fieldLink zR2 103 (zT2 12).1 (zT2 12).2.1 (zT2 12).2.2.1 ∈ zwAll := zw_at 131 rfl rfl
abbrev zrm_Ca_forgetMoved : Room := { frames := 0, cells := 0, slots := 0, locals := 0 }
def zf_Ca_forgetMoved (N : Nat) (a0 : Nat) (st : zS) : Option zS := some (zp (zp (zp st a0 10 0) a0 11 0) a0 12 0)
set_option maxHeartbeats 4000000 in
theorem zl_Ca_forgetMoved_0 (F : zw_X p m c zo_Ca_forgetMoved 1 s args zR2 E 10 A meth none) {N : Nat} {rst : zS} (a0 : Nat) (st : zS) (k0 : zw_kind a0 = 2) (h : zf_Ca_forgetMoved N a0 st = some rst) : zw_G p l e zrm_Ca_forgetMoved s m args below meth c (MQ below (zw_Q E none rst A) args s 0 0 A) E A 1 0 0 [some (.ref a0)] [] st := by
  unfold zf_Ca_forgetMoved at h
  refine zg_aload_n F.1 zd_Ca_forgetMoved_0 rfl rfl ?_
  refine zg_iconst F.1 0 0 (by decide) zd_Ca_forgetMoved_1 ?_
  refine zg_putI2 F.1 (by decide) k0 10 (by decide) (Or.inr (Or.inr (Or.inr (Or.inr (Or.inr (Or.inr (Or.inr (Or.inr (Or.inr (Or.inr (Or.inl rfl))))))))))) .int (by decide) rfl rfl rfl zwf_Ca_97 zd_Ca_forgetMoved_2 ?_
  refine zg_aload_n F.1 zd_Ca_forgetMoved_5 rfl rfl ?_
  refine zg_iconst F.1 0 0 (by decide) zd_Ca_forgetMoved_6 ?_
  refine zg_putI2 F.1 (by decide) k0 11 (by decide) (Or.inr (Or.inr (Or.inr (Or.inr (Or.inr (Or.inr (Or.inr (Or.inr (Or.inr (Or.inr (Or.inr (Or.inl rfl)))))))))))) .int (by decide) rfl rfl rfl zwf_Ca_100 zd_Ca_forgetMoved_7 ?_
  refine zg_aload_n F.1 zd_Ca_forgetMoved_10 rfl rfl ?_
  refine zg_iconst F.1 0 0 (by decide) zd_Ca_forgetMoved_11 ?_
  refine zg_putI2 F.1 (by decide) k0 12 (by decide) (Or.inr (Or.inr (Or.inr (Or.inr (Or.inr (Or.inr (Or.inr (Or.inr (Or.inr (Or.inr (Or.inr (Or.inr rfl)))))))))))) .int (by decide) rfl rfl rfl zwf_Ca_103 zd_Ca_forgetMoved_12 ?_
  cases h
  exact zg_vret F zd_Ca_forgetMoved_15
theorem zk_Ca_forgetMoved {E : zE} (hn : zw_n E 10) (N : Nat) (a0 : Nat) (st : zS) (k0 : zw_kind a0 = 2) {rst : zS} (h : zf_Ca_forgetMoved N a0 st = some rst) : zw_M l zy_Ca_forgetMoved (Cond.code zy_Ca_forgetMoved zo_Ca_forgetMoved 1 none :: zwAll) zrm_Ca_forgetMoved E [.ref a0] st none rst :=
  zw_enter (by decide) rfl hn (Nat.le_of_ble_eq_true rfl) (by simp [Value.category]) 0 (fun p e s m args below meth c A F => zl_Ca_forgetMoved_0 F a0 st k0 h)
set_option maxRecDepth 100000 in
theorem zwf_Ca_9 : Cond.fieldLink zR2 9 (zT2 0).1 (zT2 0).2.1 (zT2 0).2.2.1 ∈ zwAll := zw_at 108 rfl rfl
set_option maxRecDepth 100000 in
theorem zwf_Ca_15 : Cond.fieldLink zR2 15 (zT2 1).1 (zT2 1).2.1 (zT2 1).2.2.1 ∈ zwAll := zw_at 110 rfl rfl
set_option maxRecDepth 100000 in
theorem zwf_Ca_18 : Cond.fieldLink zR2 18 (zT2 2).1 (zT2 2).2.1 (zT2 2).2.2.1 ∈ zwAll := zw_at 112 rfl rfl
set_option maxRecDepth 100000 in
theorem zwf_Ca_21 : Cond.fieldLink zR2 21 (zT2 3).1 (zT2 3).2.1 (zT2 3).2.2.1 ∈ zwAll := zw_at 114 rfl rfl
set_option maxRecDepth 100000 in
theorem zwf_Ca_24 : Cond.fieldLink zR2 24 (zT2 4).1 (zT2 4).2.1 (zT2 4).2.2.1 ∈ zwAll := zw_at 116 rfl rfl
set_option maxRecDepth 100000 in
theorem zwf_Ca_27 : Cond.fieldLink zR2 27 (zT2 5).1 (zT2 5).2.1 (zT2 5).2.2.1 ∈ zwAll := zw_at 117 rfl rfl
set_option maxRecDepth 100000 in
theorem zwf_Ca_31 : Cond.fieldLink zR2 31 (zT2 6).1 (zT2 6).2.1 (zT2 6).2.2.1 ∈ zwAll := zw_at 119 rfl rfl
set_option maxRecDepth 100000 in
theorem zwf_Ca_34 : Cond.fieldLink zR2 34 (zT2 7).1 (zT2 7).2.1 (zT2 7).2.2.1 ∈ zwAll := zw_at 121 rfl rfl
set_option maxRecDepth 100000 in
theorem zwf_Ca_37 : Cond.fieldLink zR2 37 (zT2 8).1 (zT2 8).2.1 (zT2 8).2.2.1 ∈ zwAll := zw_at 123 rfl rfl
set_option maxRecDepth 100000 in
theorem zwf_Ca_40 : Cond.fieldLink zR2 40 (zT2 9).1 (zT2 9).2.1 (zT2 9).2.2.1 ∈ zwAll := zw_at 125 rfl rfl
set_option maxRecDepth 100000 in
theorem zcal_Ca_forgetMoved : zw_cal zR2 zy_Ca_forgetMoved zo_Ca_forgetMoved 1 none 0 := ⟨zw_at 233 rfl rfl, zw_at 1 rfl rfl, zw_at 49 rfl rfl, zw_at 234 rfl rfl, rfl, by decide, by decide, by decide +kernel⟩
set_option maxRecDepth 100000 in
theorem zml_Ca_43 : Cond.methodLink zR2 43 zy_Ca_forgetMoved ∈ zwAll := zw_at 231 rfl rfl
abbrev zrm_Ca_startAnew : Room := { frames := 1, cells := 0, slots := 0, locals := 20 }
def zf_Ca_startAnew (N : Nat) (a0 : Nat) (st : zS) : Option zS := ((zf_Ca_forgetMoved N a0 (zp (zp (zp (zp (zp (zp (zp (zp (zp (zp st a0 0 0) a0 1 0) a0 2 0) a0 3 0) a0 4 0) a0 5 0) a0 6 0) a0 7 0) a0 8 0) a0 9 0)).bind fun t51 => some t51)
set_option maxHeartbeats 4000000 in
theorem zl_Ca_startAnew_0 (F : zw_X p m c zo_Ca_startAnew 1 s args zR2 E 10 A meth none) {N : Nat} {rst : zS} (a0 : Nat) (st : zS) (k0 : zw_kind a0 = 2) (h : zf_Ca_startAnew N a0 st = some rst) : zw_G p l e zrm_Ca_startAnew s m args below meth c (MQ below (zw_Q E none rst A) args s 0 0 A) E A 1 0 0 [some (.ref a0)] [] st := by
  unfold zf_Ca_startAnew at h
  refine zg_aload_n F.1 zd_Ca_startAnew_0 rfl rfl ?_
  refine zg_iconst F.1 0 0 (by decide) zd_Ca_startAnew_1 ?_
  refine zg_putI2 F.1 (by decide) k0 0 (by decide) (Or.inl rfl) .int (by decide) rfl rfl rfl zwf_Ca_9 zd_Ca_startAnew_2 ?_
  refine zg_aload_n F.1 zd_Ca_startAnew_5 rfl rfl ?_
  refine zg_iconst F.1 0 0 (by decide) zd_Ca_startAnew_6 ?_
  refine zg_putI2 F.1 (by decide) k0 1 (by decide) (Or.inr (Or.inl rfl)) .int (by decide) rfl rfl rfl zwf_Ca_15 zd_Ca_startAnew_7 ?_
  refine zg_aload_n F.1 zd_Ca_startAnew_10 rfl rfl ?_
  refine zg_iconst F.1 0 0 (by decide) zd_Ca_startAnew_11 ?_
  refine zg_putI2 F.1 (by decide) k0 2 (by decide) (Or.inr (Or.inr (Or.inl rfl))) .int (by decide) rfl rfl rfl zwf_Ca_18 zd_Ca_startAnew_12 ?_
  refine zg_aload_n F.1 zd_Ca_startAnew_15 rfl rfl ?_
  refine zg_iconst F.1 0 0 (by decide) zd_Ca_startAnew_16 ?_
  refine zg_putI2 F.1 (by decide) k0 3 (by decide) (Or.inr (Or.inr (Or.inr (Or.inl rfl)))) .int (by decide) rfl rfl rfl zwf_Ca_21 zd_Ca_startAnew_17 ?_
  refine zg_aload_n F.1 zd_Ca_startAnew_20 rfl rfl ?_
  refine zg_iconst F.1 0 0 (by decide) zd_Ca_startAnew_21 ?_
  refine zg_putI2 F.1 (by decide) k0 4 (by decide) (Or.inr (Or.inr (Or.inr (Or.inr (Or.inl rfl))))) .int (by decide) rfl rfl rfl zwf_Ca_24 zd_Ca_startAnew_22 ?_
  refine zg_aload_n F.1 zd_Ca_startAnew_25 rfl rfl ?_
  refine zg_iconst F.1 0 0 (by decide) zd_Ca_startAnew_26 ?_
  refine zg_putI2 F.1 (by decide) k0 5 (by decide) (Or.inr (Or.inr (Or.inr (Or.inr (Or.inr (Or.inl rfl)))))) .boolean (by decide) rfl rfl rfl zwf_Ca_27 zd_Ca_startAnew_27 ?_
  refine zg_aload_n F.1 zd_Ca_startAnew_30 rfl rfl ?_
  refine zg_iconst F.1 0 0 (by decide) zd_Ca_startAnew_31 ?_
  refine zg_putI2 F.1 (by decide) k0 6 (by decide) (Or.inr (Or.inr (Or.inr (Or.inr (Or.inr (Or.inr (Or.inl rfl))))))) .boolean (by decide) rfl rfl rfl zwf_Ca_31 zd_Ca_startAnew_32 ?_
  refine zg_aload_n F.1 zd_Ca_startAnew_35 rfl rfl ?_
  refine zg_iconst F.1 0 0 (by decide) zd_Ca_startAnew_36 ?_
  refine zg_putI2 F.1 (by decide) k0 7 (by decide) (Or.inr (Or.inr (Or.inr (Or.inr (Or.inr (Or.inr (Or.inr (Or.inl rfl)))))))) .boolean (by decide) rfl rfl rfl zwf_Ca_34 zd_Ca_startAnew_37 ?_
  refine zg_aload_n F.1 zd_Ca_startAnew_40 rfl rfl ?_
  refine zg_iconst F.1 0 0 (by decide) zd_Ca_startAnew_41 ?_
  refine zg_putI2 F.1 (by decide) k0 8 (by decide) (Or.inr (Or.inr (Or.inr (Or.inr (Or.inr (Or.inr (Or.inr (Or.inr (Or.inl rfl))))))))) .int (by decide) rfl rfl rfl zwf_Ca_37 zd_Ca_startAnew_42 ?_
  refine zg_aload_n F.1 zd_Ca_startAnew_45 rfl rfl ?_
  refine zg_iconst F.1 0 0 (by decide) zd_Ca_startAnew_46 ?_
  refine zg_putI2 F.1 (by decide) k0 9 (by decide) (Or.inr (Or.inr (Or.inr (Or.inr (Or.inr (Or.inr (Or.inr (Or.inr (Or.inr (Or.inl rfl)))))))))) .int (by decide) rfl rfl rfl zwf_Ca_40 zd_Ca_startAnew_47 ?_
  refine zg_aload_n F.1 zd_Ca_startAnew_50 rfl rfl ?_
  obtain ⟨t51, hc51, h⟩ := Option.bind_eq_some_iff.mp h
  refine zg_callV F (As := []) (rest := []) (zk_Ca_forgetMoved F.1.2.2 N a0 (zp (zp (zp (zp (zp (zp (zp (zp (zp (zp st a0 0 0) a0 1 0) a0 2 0) a0 3 0) a0 4 0) a0 5 0) a0 6 0) a0 7 0) a0 8 0) a0 9 0) k0 hc51) rfl rfl zcal_Ca_forgetMoved zml_Ca_43 ⟨(Nat.le_of_ble_eq_true rfl), (Nat.le_of_ble_eq_true rfl)⟩ (zg_rec2 F.1 (by decide) k0) rfl (Nat.le_of_ble_eq_true rfl) ⟨(Nat.le_of_ble_eq_true rfl), (Nat.le_of_ble_eq_true rfl)⟩ zd_Ca_startAnew_51 ?_
  cases h
  exact zg_vret F zd_Ca_startAnew_54
theorem zk_Ca_startAnew {E : zE} (hn : zw_n E 10) (N : Nat) (a0 : Nat) (st : zS) (k0 : zw_kind a0 = 2) {rst : zS} (h : zf_Ca_startAnew N a0 st = some rst) : zw_M l zy_Ca_startAnew (Cond.code zy_Ca_startAnew zo_Ca_startAnew 1 none :: zwAll) zrm_Ca_startAnew E [.ref a0] st none rst :=
  zw_enter (by decide) rfl hn (Nat.le_of_ble_eq_true rfl) (by simp [Value.category]) 0 (fun p e s m args below meth c A F => zl_Ca_startAnew_0 F a0 st k0 h)
abbrev zrm_Ca_becomeLike : Room := { frames := 0, cells := 0, slots := 0, locals := 0 }
def zf_Ca_becomeLike (N : Nat) (a0 : Nat) (a1 : Nat) (st : zS) : Option zS := (if a0 = a1 then none else (if (st a1 7) = 0 ∨ (st a1 7) = 1 then some (zp (zp (zp (zp (zp (zp (zp (zp st a0 0 (st a1 0)) a0 1 (st a1 1)) a0 2 (st a1 2)) a0 3 (st a1 3)) a0 4 (st a1 4)) a0 7 (st a1 7)) a0 8 (st a1 8)) a0 9 (st a1 9)) else none))
set_option maxHeartbeats 4000000 in
theorem zl_Ca_becomeLike_0 (F : zw_X p m c zo_Ca_becomeLike 2 s args zR2 E 10 A meth none) {N : Nat} {rst : zS} (a0 : Nat) (a1 : Nat) (st : zS) (k0 : zw_kind a0 = 2) (k1 : zw_kind a1 = 2) (h : zf_Ca_becomeLike N a0 a1 st = some rst) : zw_G p l e zrm_Ca_becomeLike s m args below meth c (MQ below (zw_Q E none rst A) args s 0 0 A) E A 2 0 0 [some (.ref a0), some (.ref a1)] [] st := by
  unfold zf_Ca_becomeLike at h
  by_cases hne : a0 = a1
  case pos => rw [if_pos hne] at h; cases h
  rw [if_neg hne] at h
  refine zg_aload_n F.1 zd_Ca_becomeLike_0 rfl rfl ?_
  refine zg_aload_n F.1 zd_Ca_becomeLike_1 rfl rfl ?_
  refine zg_getI2 F.1 (by decide) k1 0 (by decide) (st a1 0) rfl rfl zwf_Ca_9 zd_Ca_becomeLike_2 ?_
  refine zg_putI2 F.1 (by decide) k0 0 (by decide) (Or.inl rfl) .int (by decide) rfl rfl rfl zwf_Ca_9 zd_Ca_becomeLike_5 ?_
  refine zg_aload_n F.1 zd_Ca_becomeLike_8 rfl rfl ?_
  refine zg_aload_n F.1 zd_Ca_becomeLike_9 rfl rfl ?_
  refine zg_getI2 F.1 (by decide) k1 1 (by decide) (st a1 1) rfl (zp_q _ _ (Ne.symm hne)) zwf_Ca_15 zd_Ca_becomeLike_10 ?_
  refine zg_putI2 F.1 (by decide) k0 1 (by decide) (Or.inr (Or.inl rfl)) .int (by decide) rfl rfl rfl zwf_Ca_15 zd_Ca_becomeLike_13 ?_
  refine zg_aload_n F.1 zd_Ca_becomeLike_16 rfl rfl ?_
  refine zg_aload_n F.1 zd_Ca_becomeLike_17 rfl rfl ?_
  refine zg_getI2 F.1 (by decide) k1 2 (by decide) (st a1 2) rfl ((zp_q _ _ (Ne.symm hne)).trans (zp_q _ _ (Ne.symm hne))) zwf_Ca_18 zd_Ca_becomeLike_18 ?_
  refine zg_putI2 F.1 (by decide) k0 2 (by decide) (Or.inr (Or.inr (Or.inl rfl))) .int (by decide) rfl rfl rfl zwf_Ca_18 zd_Ca_becomeLike_21 ?_
  refine zg_aload_n F.1 zd_Ca_becomeLike_24 rfl rfl ?_
  refine zg_aload_n F.1 zd_Ca_becomeLike_25 rfl rfl ?_
  refine zg_getI2 F.1 (by decide) k1 3 (by decide) (st a1 3) rfl ((zp_q _ _ (Ne.symm hne)).trans ((zp_q _ _ (Ne.symm hne)).trans (zp_q _ _ (Ne.symm hne)))) zwf_Ca_21 zd_Ca_becomeLike_26 ?_
  refine zg_putI2 F.1 (by decide) k0 3 (by decide) (Or.inr (Or.inr (Or.inr (Or.inl rfl)))) .int (by decide) rfl rfl rfl zwf_Ca_21 zd_Ca_becomeLike_29 ?_
  refine zg_aload_n F.1 zd_Ca_becomeLike_32 rfl rfl ?_
  refine zg_aload_n F.1 zd_Ca_becomeLike_33 rfl rfl ?_
  refine zg_getI2 F.1 (by decide) k1 4 (by decide) (st a1 4) rfl ((zp_q _ _ (Ne.symm hne)).trans ((zp_q _ _ (Ne.symm hne)).trans ((zp_q _ _ (Ne.symm hne)).trans (zp_q _ _ (Ne.symm hne))))) zwf_Ca_24 zd_Ca_becomeLike_34 ?_
  refine zg_putI2 F.1 (by decide) k0 4 (by decide) (Or.inr (Or.inr (Or.inr (Or.inr (Or.inl rfl))))) .int (by decide) rfl rfl rfl zwf_Ca_24 zd_Ca_becomeLike_37 ?_
  refine zg_aload_n F.1 zd_Ca_becomeLike_40 rfl rfl ?_
  refine zg_aload_n F.1 zd_Ca_becomeLike_41 rfl rfl ?_
  refine zg_getI2 F.1 (by decide) k1 7 (by decide) (st a1 7) rfl ((zp_q _ _ (Ne.symm hne)).trans ((zp_q _ _ (Ne.symm hne)).trans ((zp_q _ _ (Ne.symm hne)).trans ((zp_q _ _ (Ne.symm hne)).trans (zp_q _ _ (Ne.symm hne)))))) zwf_Ca_34 zd_Ca_becomeLike_42 ?_
  by_cases hb45 : (st a1 7) = 0 ∨ (st a1 7) = 1
  case neg => rw [if_neg hb45] at h; cases h
  rw [if_pos hb45] at h
  refine zg_putI2 F.1 (by decide) k0 7 (by decide) (Or.inr (Or.inr (Or.inr (Or.inr (Or.inr (Or.inr (Or.inr (Or.inl rfl)))))))) .boolean (by decide) rfl (zw_nb hb45) (zw_fb hb45) zwf_Ca_34 zd_Ca_becomeLike_45 ?_
  refine zg_aload_n F.1 zd_Ca_becomeLike_48 rfl rfl ?_
  refine zg_aload_n F.1 zd_Ca_becomeLike_49 rfl rfl ?_
  refine zg_getI2 F.1 (by decide) k1 8 (by decide) (st a1 8) rfl ((zp_q _ _ (Ne.symm hne)).trans ((zp_q _ _ (Ne.symm hne)).trans ((zp_q _ _ (Ne.symm hne)).trans ((zp_q _ _ (Ne.symm hne)).trans ((zp_q _ _ (Ne.symm hne)).trans (zp_q _ _ (Ne.symm hne))))))) zwf_Ca_37 zd_Ca_becomeLike_50 ?_
  refine zg_putI2 F.1 (by decide) k0 8 (by decide) (Or.inr (Or.inr (Or.inr (Or.inr (Or.inr (Or.inr (Or.inr (Or.inr (Or.inl rfl))))))))) .int (by decide) rfl rfl rfl zwf_Ca_37 zd_Ca_becomeLike_53 ?_
  refine zg_aload_n F.1 zd_Ca_becomeLike_56 rfl rfl ?_
  refine zg_aload_n F.1 zd_Ca_becomeLike_57 rfl rfl ?_
  refine zg_getI2 F.1 (by decide) k1 9 (by decide) (st a1 9) rfl ((zp_q _ _ (Ne.symm hne)).trans ((zp_q _ _ (Ne.symm hne)).trans ((zp_q _ _ (Ne.symm hne)).trans ((zp_q _ _ (Ne.symm hne)).trans ((zp_q _ _ (Ne.symm hne)).trans ((zp_q _ _ (Ne.symm hne)).trans (zp_q _ _ (Ne.symm hne)))))))) zwf_Ca_40 zd_Ca_becomeLike_58 ?_
  refine zg_putI2 F.1 (by decide) k0 9 (by decide) (Or.inr (Or.inr (Or.inr (Or.inr (Or.inr (Or.inr (Or.inr (Or.inr (Or.inr (Or.inl rfl)))))))))) .int (by decide) rfl rfl rfl zwf_Ca_40 zd_Ca_becomeLike_61 ?_
  cases h
  exact zg_vret F zd_Ca_becomeLike_64
theorem zk_Ca_becomeLike {E : zE} (hn : zw_n E 10) (N : Nat) (a0 : Nat) (a1 : Nat) (st : zS) (k0 : zw_kind a0 = 2) (k1 : zw_kind a1 = 2) {rst : zS} (h : zf_Ca_becomeLike N a0 a1 st = some rst) : zw_M l zy_Ca_becomeLike (Cond.code zy_Ca_becomeLike zo_Ca_becomeLike 2 none :: zwAll) zrm_Ca_becomeLike E [.ref a0, .ref a1] st none rst :=
  zw_enter (by decide) rfl hn (Nat.le_of_ble_eq_true rfl) (by simp [Value.category]) 0 (fun p e s m args below meth c A F => zl_Ca_becomeLike_0 F a0 a1 st k0 k1 h)
abbrev zrm_Ca_hasRiders : Room := { frames := 0, cells := 0, slots := 0, locals := 0 }
def zf_Ca_hasRiders_17 (N : Nat)  (s0 : Int32) (st : zS) : Option (Int32 × zS) := (if s0 = 0 ∨ s0 = 1 then some (s0, st) else none)
set_option maxHeartbeats 4000000 in
theorem zl_Ca_hasRiders_17 (F : zw_X p m c zo_Ca_hasRiders 1 s args zR2 E 10 A meth (some .boolean)) {N : Nat} {rv : Int32} {rst : zS}   (s0 : Int32) (st : zS)  (h : zf_Ca_hasRiders_17 N  s0 st = some (rv, rst)) : zw_G p l e zrm_Ca_hasRiders s m args below meth c (MQ below (zw_Q E (some (.int rv)) rst A) args s 0 0 A) E A 1 0 17 [none] [.int s0] st := by
  unfold zf_Ca_hasRiders_17 at h
  by_cases hb17 : s0 = 0 ∨ s0 = 1
  case neg => rw [if_neg hb17] at h; cases h
  rw [if_pos hb17] at h
  cases h
  exact zg_zret F hb17 zd_Ca_hasRiders_17
def zf_Ca_hasRiders (N : Nat) (a0 : Nat) (st : zS) : Option (Int32 × zS) := (if ((st a0 8) ||| (st a0 9)) = 0 then zf_Ca_hasRiders_17 N 0 st else zf_Ca_hasRiders_17 N 1 st)
set_option maxHeartbeats 4000000 in
theorem zl_Ca_hasRiders_0 (F : zw_X p m c zo_Ca_hasRiders 1 s args zR2 E 10 A meth (some .boolean)) {N : Nat} {rv : Int32} {rst : zS} (a0 : Nat) (st : zS) (k0 : zw_kind a0 = 2) (h : zf_Ca_hasRiders N a0 st = some (rv, rst)) : zw_G p l e zrm_Ca_hasRiders s m args below meth c (MQ below (zw_Q E (some (.int rv)) rst A) args s 0 0 A) E A 1 0 0 [some (.ref a0)] [] st := by
  unfold zf_Ca_hasRiders at h
  refine zg_aload_n F.1 zd_Ca_hasRiders_0 rfl rfl ?_
  refine zg_getI2 F.1 (by decide) k0 8 (by decide) (st a0 8) rfl rfl zwf_Ca_37 zd_Ca_hasRiders_1 ?_
  refine zg_aload_n F.1 zd_Ca_hasRiders_4 rfl rfl ?_
  refine zg_getI2 F.1 (by decide) k0 9 (by decide) (st a0 9) rfl rfl zwf_Ca_40 zd_Ca_hasRiders_5 ?_
  refine zg_ior F.1 zd_Ca_hasRiders_8 ?_
  refine zg_if_eq F.1 16 zd_Ca_hasRiders_9 rfl (fun hc => ?_) (fun hc => ?_)
  · rw [if_pos hc] at h
    refine zg_iconst F.1 0 0 (by decide) zd_Ca_hasRiders_16 ?_
    exact zg_le (zw_len zw_le0) (zl_Ca_hasRiders_17 F 0 st h)
  · rw [if_neg hc] at h
    refine zg_iconst F.1 1 1 (by decide) zd_Ca_hasRiders_12 ?_
    refine zg_goto F.1 17 zd_Ca_hasRiders_13 rfl ?_
    exact zg_le (zw_len zw_le0) (zl_Ca_hasRiders_17 F 1 st h)
theorem zk_Ca_hasRiders {E : zE} (hn : zw_n E 10) (N : Nat) (a0 : Nat) (st : zS) (k0 : zw_kind a0 = 2) {rv : Int32} {rst : zS} (h : zf_Ca_hasRiders N a0 st = some (rv, rst)) : zw_M l zy_Ca_hasRiders (Cond.code zy_Ca_hasRiders zo_Ca_hasRiders 1 (some .boolean) :: zwAll) zrm_Ca_hasRiders E [.ref a0] st (some (.int rv)) rst :=
  zw_enter (by decide) rfl hn (Nat.le_of_ble_eq_true rfl) (by simp [Value.category]) 0 (fun p e s m args below meth c A F => zl_Ca_hasRiders_0 F a0 st k0 h)
abbrev zrm_Ca_turnDoor : Room := { frames := 0, cells := 0, slots := 0, locals := 0 }
def zf_Ca_turnDoor (N : Nat) (a0 : Nat) (a1 : Int32) (a2 : Int32) (st : zS) : Option zS := some (zp (zp st a0 2 a1) a0 3 a2)
set_option maxHeartbeats 4000000 in
theorem zl_Ca_turnDoor_0 (F : zw_X p m c zo_Ca_turnDoor 3 s args zR2 E 10 A meth none) {N : Nat} {rst : zS} (a0 : Nat) (a1 : Int32) (a2 : Int32) (st : zS) (k0 : zw_kind a0 = 2) (h : zf_Ca_turnDoor N a0 a1 a2 st = some rst) : zw_G p l e zrm_Ca_turnDoor s m args below meth c (MQ below (zw_Q E none rst A) args s 0 0 A) E A 3 0 0 [some (.ref a0), some (.int a1), some (.int a2)] [] st := by
  unfold zf_Ca_turnDoor at h
  refine zg_aload_n F.1 zd_Ca_turnDoor_0 rfl rfl ?_
  refine zg_iload_n F.1 zd_Ca_turnDoor_1 rfl rfl ?_
  refine zg_putI2 F.1 (by decide) k0 2 (by decide) (Or.inr (Or.inr (Or.inl rfl))) .int (by decide) rfl rfl rfl zwf_Ca_18 zd_Ca_turnDoor_2 ?_
  refine zg_aload_n F.1 zd_Ca_turnDoor_5 rfl rfl ?_
  refine zg_iload_n F.1 zd_Ca_turnDoor_6 rfl rfl ?_
  refine zg_putI2 F.1 (by decide) k0 3 (by decide) (Or.inr (Or.inr (Or.inr (Or.inl rfl)))) .int (by decide) rfl rfl rfl zwf_Ca_21 zd_Ca_turnDoor_7 ?_
  cases h
  exact zg_vret F zd_Ca_turnDoor_10
theorem zk_Ca_turnDoor {E : zE} (hn : zw_n E 10) (N : Nat) (a0 : Nat) (a1 : Int32) (a2 : Int32) (st : zS) (k0 : zw_kind a0 = 2) {rst : zS} (h : zf_Ca_turnDoor N a0 a1 a2 st = some rst) : zw_M l zy_Ca_turnDoor (Cond.code zy_Ca_turnDoor zo_Ca_turnDoor 3 none :: zwAll) zrm_Ca_turnDoor E [.ref a0, .int a1, .int a2] st none rst :=
  zw_enter (by decide) rfl hn (Nat.le_of_ble_eq_true rfl) (by simp [Value.category]) 0 (fun p e s m args below meth c A F => zl_Ca_turnDoor_0 F a0 a1 a2 st k0 h)
abbrev zrm_Ca_shutFurther : Room := { frames := 0, cells := 0, slots := 0, locals := 0 }
def zf_Ca_shutFurther_22 (N : Nat)   (st : zS) : Option zS := some st
set_option maxHeartbeats 4000000 in
theorem zl_Ca_shutFurther_22 (F : zw_X p m c zo_Ca_shutFurther 1 s args zR2 E 10 A meth none) {N : Nat} {rst : zS}    (st : zS)  (h : zf_Ca_shutFurther_22 N   st = some rst) : zw_G p l e zrm_Ca_shutFurther s m args below meth c (MQ below (zw_Q E none rst A) args s 0 0 A) E A 1 0 22 [none] [] st := by
  unfold zf_Ca_shutFurther_22 at h
  cases h
  exact zg_vret F zd_Ca_shutFurther_22
def zf_Ca_shutFurther (N : Nat) (a0 : Nat) (st : zS) : Option zS := (if ((st a0 3) - 1) = 0 then zf_Ca_shutFurther_22 N (zp (zp st a0 3 ((st a0 3) - 1)) a0 2 0) else zf_Ca_shutFurther_22 N (zp st a0 3 ((st a0 3) - 1)))
set_option maxHeartbeats 4000000 in
theorem zl_Ca_shutFurther_0 (F : zw_X p m c zo_Ca_shutFurther 1 s args zR2 E 10 A meth none) {N : Nat} {rst : zS} (a0 : Nat) (st : zS) (k0 : zw_kind a0 = 2) (h : zf_Ca_shutFurther N a0 st = some rst) : zw_G p l e zrm_Ca_shutFurther s m args below meth c (MQ below (zw_Q E none rst A) args s 0 0 A) E A 1 0 0 [some (.ref a0)] [] st := by
  unfold zf_Ca_shutFurther at h
  refine zg_aload_n F.1 zd_Ca_shutFurther_0 rfl rfl ?_
  refine zg_dup F.1 zd_Ca_shutFurther_1 rfl ?_
  refine zg_getI2 F.1 (by decide) k0 3 (by decide) (st a0 3) rfl rfl zwf_Ca_21 zd_Ca_shutFurther_2 ?_
  refine zg_iconst F.1 1 1 (by decide) zd_Ca_shutFurther_5 ?_
  refine zg_isub F.1 zd_Ca_shutFurther_6 ?_
  refine zg_putI2 F.1 (by decide) k0 3 (by decide) (Or.inr (Or.inr (Or.inr (Or.inl rfl)))) .int (by decide) rfl rfl rfl zwf_Ca_21 zd_Ca_shutFurther_7 ?_
  refine zg_aload_n F.1 zd_Ca_shutFurther_10 rfl rfl ?_
  refine zg_getI2 F.1 (by decide) k0 3 (by decide) ((st a0 3) - 1) rfl (zp_s _ _ _ _) zwf_Ca_21 zd_Ca_shutFurther_11 ?_
  refine zg_if_ne F.1 22 zd_Ca_shutFurther_14 rfl (fun hc => ?_) (fun hc => ?_)
  · rw [if_neg hc] at h
    exact zg_le (zw_len zw_le0) (zl_Ca_shutFurther_22 F (zp st a0 3 ((st a0 3) - 1)) h)
  · rw [if_pos hc] at h
    refine zg_aload_n F.1 zd_Ca_shutFurther_17 rfl rfl ?_
    refine zg_iconst F.1 0 0 (by decide) zd_Ca_shutFurther_18 ?_
    refine zg_putI2 F.1 (by decide) k0 2 (by decide) (Or.inr (Or.inr (Or.inl rfl))) .int (by decide) rfl rfl rfl zwf_Ca_18 zd_Ca_shutFurther_19 ?_
    exact zg_le (zw_len zw_le0) (zl_Ca_shutFurther_22 F (zp (zp st a0 3 ((st a0 3) - 1)) a0 2 0) h)
theorem zk_Ca_shutFurther {E : zE} (hn : zw_n E 10) (N : Nat) (a0 : Nat) (st : zS) (k0 : zw_kind a0 = 2) {rst : zS} (h : zf_Ca_shutFurther N a0 st = some rst) : zw_M l zy_Ca_shutFurther (Cond.code zy_Ca_shutFurther zo_Ca_shutFurther 1 none :: zwAll) zrm_Ca_shutFurther E [.ref a0] st none rst :=
  zw_enter (by decide) rfl hn (Nat.le_of_ble_eq_true rfl) (by simp [Value.category]) 0 (fun p e s m args below meth c A F => zl_Ca_shutFurther_0 F a0 st k0 h)
abbrev zrm_Ca_towardsNearest : Room := { frames := 0, cells := 0, slots := 0, locals := 0 }
def zf_Ca_towardsNearest_57 (N : Nat) (r2 : Nat → Int32 → Int32 → zS → Option (Int32 × zS)) (l0 : Nat) (l1 : Int32) (l2 : Int32) (st : zS) : Option (Int32 × zS) := r2 l0 l1 (l2 + 1) st
set_option maxHeartbeats 4000000 in
theorem zl_Ca_towardsNearest_57 (F : zw_X p m c zo_Ca_towardsNearest 3 s args zR2 E 10 A meth (some .int)) {N : Nat} {rv : Int32} {rst : zS} {r2 : Nat → Int32 → Int32 → zS → Option (Int32 × zS)} (hr2 : ∀ (l0 : Nat) (l1 : Int32) (l2 : Int32) (st : zS) (k0 : zw_kind l0 = 2), r2 l0 l1 l2 st = some (rv, rst) → zw_G p l e zrm_Ca_towardsNearest s m args below meth c (MQ below (zw_Q E (some (.int rv)) rst A) args s 0 0 A) E A 3 0 2 [some (.ref l0), some (.int l1), some (.int l2)] [] st) (l0 : Nat) (l1 : Int32) (l2 : Int32) (st : zS) (k0 : zw_kind l0 = 2) (h : zf_Ca_towardsNearest_57 N r2 l0 l1 l2 st = some (rv, rst)) : zw_G p l e zrm_Ca_towardsNearest s m args below meth c (MQ below (zw_Q E (some (.int rv)) rst A) args s 0 0 A) E A 3 0 57 [some (.ref l0), some (.int l1), some (.int l2)] [] st := by
  unfold zf_Ca_towardsNearest_57 at h
  refine zg_iinc F.1 (l2 + 1) [some (.ref l0), some (.int l1), some (.int (l2 + 1))] zd_Ca_towardsNearest_57 rfl (by rw [lit1]) (by decide) rfl ?_
  refine zg_goto F.1 2 zd_Ca_towardsNearest_60 rfl ?_
  exact hr2 l0 l1 (l2 + 1) st k0 h
def zf_Ca_towardsNearest_31 (N : Nat) (r2 : Nat → Int32 → Int32 → zS → Option (Int32 × zS)) (l0 : Nat) (l1 : Int32) (l2 : Int32) (st : zS) : Option (Int32 × zS) := (if (18 - (st l0 0)) < l2 then zf_Ca_towardsNearest_57 N r2 l0 l1 l2 st else (if (l1 &&& (1 <<< (((st l0 0) + l2) &&& 31))) = 0 then zf_Ca_towardsNearest_57 N r2 l0 l1 l2 st else some (1, st)))
set_option maxHeartbeats 4000000 in
theorem zl_Ca_towardsNearest_31 (F : zw_X p m c zo_Ca_towardsNearest 3 s args zR2 E 10 A meth (some .int)) {N : Nat} {rv : Int32} {rst : zS} {r2 : Nat → Int32 → Int32 → zS → Option (Int32 × zS)} (hr2 : ∀ (l0 : Nat) (l1 : Int32) (l2 : Int32) (st : zS) (k0 : zw_kind l0 = 2), r2 l0 l1 l2 st = some (rv, rst) → zw_G p l e zrm_Ca_towardsNearest s m args below meth c (MQ below (zw_Q E (some (.int rv)) rst A) args s 0 0 A) E A 3 0 2 [some (.ref l0), some (.int l1), some (.int l2)] [] st) (l0 : Nat) (l1 : Int32) (l2 : Int32) (st : zS) (k0 : zw_kind l0 = 2) (h : zf_Ca_towardsNearest_31 N r2 l0 l1 l2 st = some (rv, rst)) : zw_G p l e zrm_Ca_towardsNearest s m args below meth c (MQ below (zw_Q E (some (.int rv)) rst A) args s 0 0 A) E A 3 0 31 [some (.ref l0), some (.int l1), some (.int l2)] [] st := by
  unfold zf_Ca_towardsNearest_31 at h
  refine zg_iload_n F.1 zd_Ca_towardsNearest_31 rfl rfl ?_
  refine zg_bipush F.1 18 18 (by decide) zd_Ca_towardsNearest_32 ?_
  refine zg_aload_n F.1 zd_Ca_towardsNearest_34 rfl rfl ?_
  refine zg_getI2 F.1 (by decide) k0 0 (by decide) (st l0 0) rfl rfl zwf_Ca_9 zd_Ca_towardsNearest_35 ?_
  refine zg_isub F.1 zd_Ca_towardsNearest_38 ?_
  refine zg_icmp_gt F.1 57 zd_Ca_towardsNearest_39 rfl (fun hc => ?_) (fun hc => ?_)
  · rw [if_pos hc] at h
    exact zl_Ca_towardsNearest_57 F hr2 l0 l1 l2 st k0 h
  · rw [if_neg hc] at h
    refine zg_iload_n F.1 zd_Ca_towardsNearest_42 rfl rfl ?_
    refine zg_iconst F.1 1 1 (by decide) zd_Ca_towardsNearest_43 ?_
    refine zg_aload_n F.1 zd_Ca_towardsNearest_44 rfl rfl ?_
    refine zg_getI2 F.1 (by decide) k0 0 (by decide) (st l0 0) rfl rfl zwf_Ca_9 zd_Ca_towardsNearest_45 ?_
    refine zg_iload_n F.1 zd_Ca_towardsNearest_48 rfl rfl ?_
    refine zg_iadd F.1 zd_Ca_towardsNearest_49 ?_
    refine zg_ishl F.1 zd_Ca_towardsNearest_50 ?_
    refine zg_iand F.1 zd_Ca_towardsNearest_51 ?_
    refine zg_if_eq F.1 57 zd_Ca_towardsNearest_52 rfl (fun hc => ?_) (fun hc => ?_)
    · rw [if_pos hc] at h
      exact zl_Ca_towardsNearest_57 F hr2 l0 l1 l2 st k0 h
    · rw [if_neg hc] at h
      refine zg_iconst F.1 1 1 (by decide) zd_Ca_towardsNearest_55 ?_
      cases h
      exact zg_iret F zd_Ca_towardsNearest_56
def zb_Ca_towardsNearest_2 (N : Nat) (r2 : Nat → Int32 → Int32 → zS → Option (Int32 × zS)) (l0 : Nat) (l1 : Int32) (l2 : Int32) (st : zS) : Option (Int32 × zS) := (if 18 < l2 then some (0, st) else (if (st l0 0) < l2 then zf_Ca_towardsNearest_31 N r2 l0 l1 l2 st else (if (l1 &&& (1 <<< (((st l0 0) - l2) &&& 31))) = 0 then zf_Ca_towardsNearest_31 N r2 l0 l1 l2 st else some ((-1), st))))
set_option maxHeartbeats 4000000 in
theorem zlb_Ca_towardsNearest_2 (F : zw_X p m c zo_Ca_towardsNearest 3 s args zR2 E 10 A meth (some .int)) {N : Nat} {rv : Int32} {rst : zS} {r2 : Nat → Int32 → Int32 → zS → Option (Int32 × zS)} (hr2 : ∀ (l0 : Nat) (l1 : Int32) (l2 : Int32) (st : zS) (k0 : zw_kind l0 = 2), r2 l0 l1 l2 st = some (rv, rst) → zw_G p l e zrm_Ca_towardsNearest s m args below meth c (MQ below (zw_Q E (some (.int rv)) rst A) args s 0 0 A) E A 3 0 2 [some (.ref l0), some (.int l1), some (.int l2)] [] st) (l0 : Nat) (l1 : Int32) (l2 : Int32) (st : zS) (k0 : zw_kind l0 = 2) (h : zb_Ca_towardsNearest_2 N r2 l0 l1 l2 st = some (rv, rst)) : zw_G p l e zrm_Ca_towardsNearest s m args below meth c (MQ below (zw_Q E (some (.int rv)) rst A) args s 0 0 A) E A 3 0 2 [some (.ref l0), some (.int l1), some (.int l2)] [] st := by
  unfold zb_Ca_towardsNearest_2 at h
  refine zg_iload_n F.1 zd_Ca_towardsNearest_2 rfl rfl ?_
  refine zg_bipush F.1 18 18 (by decide) zd_Ca_towardsNearest_3 ?_
  refine zg_icmp_gt F.1 63 zd_Ca_towardsNearest_5 rfl (fun hc => ?_) (fun hc => ?_)
  · rw [if_pos hc] at h
    refine zg_iconst F.1 0 0 (by decide) zd_Ca_towardsNearest_63 ?_
    cases h
    exact zg_iret F zd_Ca_towardsNearest_64
  · rw [if_neg hc] at h
    refine zg_iload_n F.1 zd_Ca_towardsNearest_8 rfl rfl ?_
    refine zg_aload_n F.1 zd_Ca_towardsNearest_9 rfl rfl ?_
    refine zg_getI2 F.1 (by decide) k0 0 (by decide) (st l0 0) rfl rfl zwf_Ca_9 zd_Ca_towardsNearest_10 ?_
    refine zg_icmp_gt F.1 31 zd_Ca_towardsNearest_13 rfl (fun hc => ?_) (fun hc => ?_)
    · rw [if_pos hc] at h
      exact zl_Ca_towardsNearest_31 F hr2 l0 l1 l2 st k0 h
    · rw [if_neg hc] at h
      refine zg_iload_n F.1 zd_Ca_towardsNearest_16 rfl rfl ?_
      refine zg_iconst F.1 1 1 (by decide) zd_Ca_towardsNearest_17 ?_
      refine zg_aload_n F.1 zd_Ca_towardsNearest_18 rfl rfl ?_
      refine zg_getI2 F.1 (by decide) k0 0 (by decide) (st l0 0) rfl rfl zwf_Ca_9 zd_Ca_towardsNearest_19 ?_
      refine zg_iload_n F.1 zd_Ca_towardsNearest_22 rfl rfl ?_
      refine zg_isub F.1 zd_Ca_towardsNearest_23 ?_
      refine zg_ishl F.1 zd_Ca_towardsNearest_24 ?_
      refine zg_iand F.1 zd_Ca_towardsNearest_25 ?_
      refine zg_if_eq F.1 31 zd_Ca_towardsNearest_26 rfl (fun hc => ?_) (fun hc => ?_)
      · rw [if_pos hc] at h
        exact zl_Ca_towardsNearest_31 F hr2 l0 l1 l2 st k0 h
      · rw [if_neg hc] at h
        refine zg_iconst F.1 (-1) (-1) (by decide) zd_Ca_towardsNearest_29 ?_
        cases h
        exact zg_iret F zd_Ca_towardsNearest_30
def zf_Ca_towardsNearest_2 (N : Nat)  : Nat → Nat → Int32 → Int32 → zS → Option (Int32 × zS)
  | 0, _, _, _, _ => none
  | n + 1, l0, l1, l2, st => zb_Ca_towardsNearest_2 N  (zf_Ca_towardsNearest_2 N  n) l0 l1 l2 st
theorem zl_Ca_towardsNearest_2 (F : zw_X p m c zo_Ca_towardsNearest 3 s args zR2 E 10 A meth (some .int)) {N : Nat} {rv : Int32} {rst : zS}   : ∀ (n : Nat) (l0 : Nat) (l1 : Int32) (l2 : Int32) (st : zS) (k0 : zw_kind l0 = 2) (h : zf_Ca_towardsNearest_2 N  n l0 l1 l2 st = some (rv, rst)), zw_G p l e zrm_Ca_towardsNearest s m args below meth c (MQ below (zw_Q E (some (.int rv)) rst A) args s 0 0 A) E A 3 0 2 [some (.ref l0), some (.int l1), some (.int l2)] [] st := by
  intro n
  induction n with
  | zero => intro l0 l1 l2 st k0 h; cases h
  | succ n ih => intro l0 l1 l2 st k0 h; exact zlb_Ca_towardsNearest_2 F  ih l0 l1 l2 st k0 h
def zf_Ca_towardsNearest (N : Nat) (a0 : Nat) (a1 : Int32) (st : zS) : Option (Int32 × zS) := zf_Ca_towardsNearest_2 N N a0 a1 1 st
set_option maxHeartbeats 4000000 in
theorem zl_Ca_towardsNearest_0 (F : zw_X p m c zo_Ca_towardsNearest 3 s args zR2 E 10 A meth (some .int)) {N : Nat} {rv : Int32} {rst : zS} (a0 : Nat) (a1 : Int32) (st : zS) (k0 : zw_kind a0 = 2) (h : zf_Ca_towardsNearest N a0 a1 st = some (rv, rst)) : zw_G p l e zrm_Ca_towardsNearest s m args below meth c (MQ below (zw_Q E (some (.int rv)) rst A) args s 0 0 A) E A 3 0 0 [some (.ref a0), some (.int a1), none] [] st := by
  unfold zf_Ca_towardsNearest at h
  refine zg_iconst F.1 1 1 (by decide) zd_Ca_towardsNearest_0 ?_
  refine zg_istore_n F.1 [some (.ref a0), some (.int a1), some (.int 1)] zd_Ca_towardsNearest_1 rfl (by decide) rfl ?_
  exact zl_Ca_towardsNearest_2 F N a0 a1 1 st k0 h
theorem zk_Ca_towardsNearest {E : zE} (hn : zw_n E 10) (N : Nat) (a0 : Nat) (a1 : Int32) (st : zS) (k0 : zw_kind a0 = 2) {rv : Int32} {rst : zS} (h : zf_Ca_towardsNearest N a0 a1 st = some (rv, rst)) : zw_M l zy_Ca_towardsNearest (Cond.code zy_Ca_towardsNearest zo_Ca_towardsNearest 3 (some .int) :: zwAll) zrm_Ca_towardsNearest E [.ref a0, .int a1] st (some (.int rv)) rst :=
  zw_enter (by decide) rfl hn (Nat.le_of_ble_eq_true rfl) (by simp [Value.category]) 1 (fun p e s m args below meth c A F => zl_Ca_towardsNearest_0 F a0 a1 st k0 h)
abbrev zrm_Ca_liesAhead : Room := { frames := 0, cells := 0, slots := 0, locals := 0 }
def zf_Ca_liesAhead_40 (N : Nat)  (s0 : Int32) (st : zS) : Option (Int32 × zS) := (if s0 = 0 ∨ s0 = 1 then some (s0, st) else none)
set_option maxHeartbeats 4000000 in
theorem zl_Ca_liesAhead_40 (F : zw_X p m c zo_Ca_liesAhead 3 s args zR2 E 10 A meth (some .boolean)) {N : Nat} {rv : Int32} {rst : zS}   (s0 : Int32) (st : zS)  (h : zf_Ca_liesAhead_40 N  s0 st = some (rv, rst)) : zw_G p l e zrm_Ca_liesAhead s m args below meth c (MQ below (zw_Q E (some (.int rv)) rst A) args s 0 0 A) E A 3 0 40 [none, none, none] [.int s0] st := by
  unfold zf_Ca_liesAhead_40 at h
  by_cases hb40 : s0 = 0 ∨ s0 = 1
  case neg => rw [if_neg hb40] at h; cases h
  rw [if_pos hb40] at h
  cases h
  exact zg_zret F hb40 zd_Ca_liesAhead_40
def zf_Ca_liesAhead (N : Nat) (a0 : Nat) (a1 : Int32) (st : zS) : Option (Int32 × zS) := (if 0 ≤ (st a0 1) then (if (a1 &&& ((1 <<< ((st a0 0) &&& 31)) - 1)) = a1 then zf_Ca_liesAhead_40 N 0 st else zf_Ca_liesAhead_40 N 1 st) else (if (a1 &&& ((1 <<< ((st a0 0) &&& 31)) - 1)) = 0 then zf_Ca_liesAhead_40 N 0 st else zf_Ca_liesAhead_40 N 1 st))
set_option maxHeartbeats 4000000 in
theorem zl_Ca_liesAhead_0 (F : zw_X p m c zo_Ca_liesAhead 3 s args zR2 E 10 A meth (some .boolean)) {N : Nat} {rv : Int32} {rst : zS} (a0 : Nat) (a1 : Int32) (st : zS) (k0 : zw_kind a0 = 2) (h : zf_Ca_liesAhead N a0 a1 st = some (rv, rst)) : zw_G p l e zrm_Ca_liesAhead s m args below meth c (MQ below (zw_Q E (some (.int rv)) rst A) args s 0 0 A) E A 3 0 0 [some (.ref a0), some (.int a1), none] [] st := by
  unfold zf_Ca_liesAhead at h
  refine zg_iload_n F.1 zd_Ca_liesAhead_0 rfl rfl ?_
  refine zg_iconst F.1 1 1 (by decide) zd_Ca_liesAhead_1 ?_
  refine zg_aload_n F.1 zd_Ca_liesAhead_2 rfl rfl ?_
  refine zg_getI2 F.1 (by decide) k0 0 (by decide) (st a0 0) rfl rfl zwf_Ca_9 zd_Ca_liesAhead_3 ?_
  refine zg_ishl F.1 zd_Ca_liesAhead_6 ?_
  refine zg_iconst F.1 1 1 (by decide) zd_Ca_liesAhead_7 ?_
  refine zg_isub F.1 zd_Ca_liesAhead_8 ?_
  refine zg_iand F.1 zd_Ca_liesAhead_9 ?_
  refine zg_istore_n F.1 [some (.ref a0), some (.int a1), some (.int (a1 &&& ((1 <<< ((st a0 0) &&& 31)) - 1)))] zd_Ca_liesAhead_10 rfl (by decide) rfl ?_
  refine zg_aload_n F.1 zd_Ca_liesAhead_11 rfl rfl ?_
  refine zg_getI2 F.1 (by decide) k0 1 (by decide) (st a0 1) rfl rfl zwf_Ca_15 zd_Ca_liesAhead_12 ?_
  refine zg_if_ge F.1 30 zd_Ca_liesAhead_15 rfl (fun hc => ?_) (fun hc => ?_)
  · rw [if_pos hc] at h
    refine zg_iload_n F.1 zd_Ca_liesAhead_30 rfl rfl ?_
    refine zg_iload_n F.1 zd_Ca_liesAhead_31 rfl rfl ?_
    refine zg_icmp_eq F.1 39 zd_Ca_liesAhead_32 rfl (fun hc => ?_) (fun hc => ?_)
    · rw [if_pos hc] at h
      refine zg_iconst F.1 0 0 (by decide) zd_Ca_liesAhead_39 ?_
      exact zg_le (zw_len (zw_len (zw_len zw_le0))) (zl_Ca_liesAhead_40 F 0 st h)
    · rw [if_neg hc] at h
      refine zg_iconst F.1 1 1 (by decide) zd_Ca_liesAhead_35 ?_
      refine zg_goto F.1 40 zd_Ca_liesAhead_36 rfl ?_
      exact zg_le (zw_len (zw_len (zw_len zw_le0))) (zl_Ca_liesAhead_40 F 1 st h)
  · rw [if_neg hc] at h
    refine zg_iload_n F.1 zd_Ca_liesAhead_18 rfl rfl ?_
    refine zg_if_eq F.1 26 zd_Ca_liesAhead_19 rfl (fun hc => ?_) (fun hc => ?_)
    · rw [if_pos hc] at h
      refine zg_iconst F.1 0 0 (by decide) zd_Ca_liesAhead_26 ?_
      refine zg_goto F.1 40 zd_Ca_liesAhead_27 rfl ?_
      exact zg_le (zw_len (zw_len (zw_len zw_le0))) (zl_Ca_liesAhead_40 F 0 st h)
    · rw [if_neg hc] at h
      refine zg_iconst F.1 1 1 (by decide) zd_Ca_liesAhead_22 ?_
      refine zg_goto F.1 40 zd_Ca_liesAhead_23 rfl ?_
      exact zg_le (zw_len (zw_len (zw_len zw_le0))) (zl_Ca_liesAhead_40 F 1 st h)
theorem zk_Ca_liesAhead {E : zE} (hn : zw_n E 10) (N : Nat) (a0 : Nat) (a1 : Int32) (st : zS) (k0 : zw_kind a0 = 2) {rv : Int32} {rst : zS} (h : zf_Ca_liesAhead N a0 a1 st = some (rv, rst)) : zw_M l zy_Ca_liesAhead (Cond.code zy_Ca_liesAhead zo_Ca_liesAhead 3 (some .boolean) :: zwAll) zrm_Ca_liesAhead E [.ref a0, .int a1] st (some (.int rv)) rst :=
  zw_enter (by decide) rfl hn (Nat.le_of_ble_eq_true rfl) (by simp [Value.category]) 1 (fun p e s m args below meth c A F => zl_Ca_liesAhead_0 F a0 a1 st k0 h)
set_option maxRecDepth 100000 in
theorem zcal_Ca_turnDoor : zw_cal zR2 zy_Ca_turnDoor zo_Ca_turnDoor 3 none 2 := ⟨zw_at 333 rfl rfl, zw_at 10 rfl rfl, zw_at 49 rfl rfl, zw_at 334 rfl rfl, rfl, by decide, by decide, by decide +kernel⟩
set_option maxRecDepth 100000 in
theorem zml_Ca_82 : Cond.methodLink zR2 82 zy_Ca_turnDoor ∈ zwAll := zw_at 331 rfl rfl
set_option maxRecDepth 100000 in
theorem zcal_Ca_towardsNearest : zw_cal zR2 zy_Ca_towardsNearest zo_Ca_towardsNearest 3 (some .int) 1 := ⟨zw_at 337 rfl rfl, zw_at 11 rfl rfl, zw_at 49 rfl rfl, zw_at 338 rfl rfl, rfl, by decide, by decide, by decide +kernel⟩
set_option maxRecDepth 100000 in
theorem zml_Ca_106 : Cond.methodLink zR2 106 zy_Ca_towardsNearest ∈ zwAll := zw_at 335 rfl rfl
set_option maxRecDepth 100000 in
theorem zcal_Ca_liesAhead : zw_cal zR2 zy_Ca_liesAhead zo_Ca_liesAhead 3 (some .boolean) 1 := ⟨zw_at 341 rfl rfl, zw_at 12 rfl rfl, zw_at 49 rfl rfl, zw_at 342 rfl rfl, rfl, by decide, by decide, by decide +kernel⟩
set_option maxRecDepth 100000 in
theorem zml_Ca_109 : Cond.methodLink zR2 109 zy_Ca_liesAhead ∈ zwAll := zw_at 339 rfl rfl
abbrev zrm_Ca_openOrMove : Room := { frames := 1, cells := 0, slots := 0, locals := 22 }
def zf_Ca_openOrMove_64 (N : Nat)  (l0 : Nat) (st : zS) : Option zS := some (zp st l0 0 ((st l0 0) + (st l0 1)))
set_option maxHeartbeats 4000000 in
theorem zl_Ca_openOrMove_64 (F : zw_X p m c zo_Ca_openOrMove 2 s args zR2 E 10 A meth none) {N : Nat} {rst : zS}   (l0 : Nat) (st : zS) (k0 : zw_kind l0 = 2) (h : zf_Ca_openOrMove_64 N  l0 st = some rst) : zw_G p l e zrm_Ca_openOrMove s m args below meth c (MQ below (zw_Q E none rst A) args s 0 0 A) E A 2 0 64 [some (.ref l0), none] [] st := by
  unfold zf_Ca_openOrMove_64 at h
  refine zg_aload_n F.1 zd_Ca_openOrMove_64 rfl rfl ?_
  refine zg_dup F.1 zd_Ca_openOrMove_65 rfl ?_
  refine zg_getI2 F.1 (by decide) k0 0 (by decide) (st l0 0) rfl rfl zwf_Ca_9 zd_Ca_openOrMove_66 ?_
  refine zg_aload_n F.1 zd_Ca_openOrMove_69 rfl rfl ?_
  refine zg_getI2 F.1 (by decide) k0 1 (by decide) (st l0 1) rfl rfl zwf_Ca_15 zd_Ca_openOrMove_70 ?_
  refine zg_iadd F.1 zd_Ca_openOrMove_73 ?_
  refine zg_putI2 F.1 (by decide) k0 0 (by decide) (Or.inl rfl) .int (by decide) rfl rfl rfl zwf_Ca_9 zd_Ca_openOrMove_74 ?_
  cases h
  exact zg_vret F zd_Ca_openOrMove_77
def zf_Ca_openOrMove (N : Nat) (a0 : Nat) (a1 : Int32) (st : zS) : Option zS := (if a1 = 0 then some (zp st a0 1 0) else (if (a1 &&& (1 <<< ((st a0 0) &&& 31))) = 0 then (if (st a0 1) = 0 then ((zf_Ca_towardsNearest N a0 a1 st).bind fun y38 => zf_Ca_openOrMove_64 N a0 (zp y38.2 a0 1 y38.1)) else ((zf_Ca_liesAhead N a0 a1 st).bind fun y49 => (if y49.1 = 0 then zf_Ca_openOrMove_64 N a0 (zp y49.2 a0 1 (-(y49.2 a0 1))) else zf_Ca_openOrMove_64 N a0 y49.2))) else ((zf_Ca_turnDoor N a0 1 3 st).bind fun t24 => some t24)))
set_option maxHeartbeats 4000000 in
theorem zl_Ca_openOrMove_0 (F : zw_X p m c zo_Ca_openOrMove 2 s args zR2 E 10 A meth none) {N : Nat} {rst : zS} (a0 : Nat) (a1 : Int32) (st : zS) (k0 : zw_kind a0 = 2) (h : zf_Ca_openOrMove N a0 a1 st = some rst) : zw_G p l e zrm_Ca_openOrMove s m args below meth c (MQ below (zw_Q E none rst A) args s 0 0 A) E A 2 0 0 [some (.ref a0), some (.int a1)] [] st := by
  unfold zf_Ca_openOrMove at h
  refine zg_iload_n F.1 zd_Ca_openOrMove_0 rfl rfl ?_
  refine zg_if_ne F.1 10 zd_Ca_openOrMove_1 rfl (fun hc => ?_) (fun hc => ?_)
  · rw [if_neg hc] at h
    refine zg_iload_n F.1 zd_Ca_openOrMove_10 rfl rfl ?_
    refine zg_iconst F.1 1 1 (by decide) zd_Ca_openOrMove_11 ?_
    refine zg_aload_n F.1 zd_Ca_openOrMove_12 rfl rfl ?_
    refine zg_getI2 F.1 (by decide) k0 0 (by decide) (st a0 0) rfl rfl zwf_Ca_9 zd_Ca_openOrMove_13 ?_
    refine zg_ishl F.1 zd_Ca_openOrMove_16 ?_
    refine zg_iand F.1 zd_Ca_openOrMove_17 ?_
    refine zg_if_eq F.1 28 zd_Ca_openOrMove_18 rfl (fun hc => ?_) (fun hc => ?_)
    · rw [if_pos hc] at h
      refine zg_aload_n F.1 zd_Ca_openOrMove_28 rfl rfl ?_
      refine zg_getI2 F.1 (by decide) k0 1 (by decide) (st a0 1) rfl rfl zwf_Ca_15 zd_Ca_openOrMove_29 ?_
      refine zg_if_ne F.1 47 zd_Ca_openOrMove_32 rfl (fun hc => ?_) (fun hc => ?_)
      · rw [if_neg hc] at h
        refine zg_aload_n F.1 zd_Ca_openOrMove_47 rfl rfl ?_
        refine zg_iload_n F.1 zd_Ca_openOrMove_48 rfl rfl ?_
        obtain ⟨y49, hc49, h⟩ := Option.bind_eq_some_iff.mp h
        refine zg_callV F (As := [.int a1]) (rest := []) (zk_Ca_liesAhead F.1.2.2 N a0 a1 st k0 hc49) rfl rfl zcal_Ca_liesAhead zml_Ca_109 ⟨(Nat.le_of_ble_eq_true rfl), (Nat.le_of_ble_eq_true rfl)⟩ (zg_rec2 F.1 (by decide) k0) rfl (Nat.le_of_ble_eq_true rfl) ⟨(Nat.le_of_ble_eq_true rfl), (Nat.le_of_ble_eq_true rfl)⟩ zd_Ca_openOrMove_49 ?_
        refine zg_if_ne F.1 64 zd_Ca_openOrMove_52 rfl (fun hc => ?_) (fun hc => ?_)
        · rw [if_neg hc] at h
          exact zg_le (zw_les (zw_len zw_le0)) (zl_Ca_openOrMove_64 F a0 y49.2 k0 h)
        · rw [if_pos hc] at h
          refine zg_aload_n F.1 zd_Ca_openOrMove_55 rfl rfl ?_
          refine zg_aload_n F.1 zd_Ca_openOrMove_56 rfl rfl ?_
          refine zg_getI2 F.1 (by decide) k0 1 (by decide) (y49.2 a0 1) rfl rfl zwf_Ca_15 zd_Ca_openOrMove_57 ?_
          refine zg_ineg F.1 zd_Ca_openOrMove_60 ?_
          refine zg_putI2 F.1 (by decide) k0 1 (by decide) (Or.inr (Or.inl rfl)) .int (by decide) rfl rfl rfl zwf_Ca_15 zd_Ca_openOrMove_61 ?_
          exact zg_le (zw_les (zw_len zw_le0)) (zl_Ca_openOrMove_64 F a0 (zp y49.2 a0 1 (-(y49.2 a0 1))) k0 h)
      · rw [if_pos hc] at h
        refine zg_aload_n F.1 zd_Ca_openOrMove_35 rfl rfl ?_
        refine zg_aload_n F.1 zd_Ca_openOrMove_36 rfl rfl ?_
        refine zg_iload_n F.1 zd_Ca_openOrMove_37 rfl rfl ?_
        obtain ⟨y38, hc38, h⟩ := Option.bind_eq_some_iff.mp h
        refine zg_callV F (As := [.int a1]) (rest := [.ref a0]) (zk_Ca_towardsNearest F.1.2.2 N a0 a1 st k0 hc38) rfl rfl zcal_Ca_towardsNearest zml_Ca_106 ⟨(Nat.le_of_ble_eq_true rfl), (Nat.le_of_ble_eq_true rfl)⟩ (zg_rec2 F.1 (by decide) k0) rfl (Nat.le_of_ble_eq_true rfl) ⟨(Nat.le_of_ble_eq_true rfl), (Nat.le_of_ble_eq_true rfl)⟩ zd_Ca_openOrMove_38 ?_
        refine zg_putI2 F.1 (by decide) k0 1 (by decide) (Or.inr (Or.inl rfl)) .int (by decide) rfl rfl rfl zwf_Ca_15 zd_Ca_openOrMove_41 ?_
        refine zg_goto F.1 64 zd_Ca_openOrMove_44 rfl ?_
        exact zg_le (zw_les (zw_len zw_le0)) (zl_Ca_openOrMove_64 F a0 (zp y38.2 a0 1 y38.1) k0 h)
    · rw [if_neg hc] at h
      refine zg_aload_n F.1 zd_Ca_openOrMove_21 rfl rfl ?_
      refine zg_iconst F.1 1 1 (by decide) zd_Ca_openOrMove_22 ?_
      refine zg_iconst F.1 3 3 (by decide) zd_Ca_openOrMove_23 ?_
      obtain ⟨t24, hc24, h⟩ := Option.bind_eq_some_iff.mp h
      refine zg_callV F (As := [.int 1, .int 3]) (rest := []) (zk_Ca_turnDoor F.1.2.2 N a0 1 3 st k0 hc24) rfl rfl zcal_Ca_turnDoor zml_Ca_82 ⟨(Nat.le_of_ble_eq_true rfl), (Nat.le_of_ble_eq_true rfl)⟩ (zg_rec2 F.1 (by decide) k0) rfl (Nat.le_of_ble_eq_true rfl) ⟨(Nat.le_of_ble_eq_true rfl), (Nat.le_of_ble_eq_true rfl)⟩ zd_Ca_openOrMove_24 ?_
      cases h
      exact zg_vret F zd_Ca_openOrMove_27
  · rw [if_pos hc] at h
    refine zg_aload_n F.1 zd_Ca_openOrMove_4 rfl rfl ?_
    refine zg_iconst F.1 0 0 (by decide) zd_Ca_openOrMove_5 ?_
    refine zg_putI2 F.1 (by decide) k0 1 (by decide) (Or.inr (Or.inl rfl)) .int (by decide) rfl rfl rfl zwf_Ca_15 zd_Ca_openOrMove_6 ?_
    cases h
    exact zg_vret F zd_Ca_openOrMove_9
theorem zk_Ca_openOrMove {E : zE} (hn : zw_n E 10) (N : Nat) (a0 : Nat) (a1 : Int32) (st : zS) (k0 : zw_kind a0 = 2) {rst : zS} (h : zf_Ca_openOrMove N a0 a1 st = some rst) : zw_M l zy_Ca_openOrMove (Cond.code zy_Ca_openOrMove zo_Ca_openOrMove 2 none :: zwAll) zrm_Ca_openOrMove E [.ref a0, .int a1] st none rst :=
  zw_enter (by decide) rfl hn (Nat.le_of_ble_eq_true rfl) (by simp [Value.category]) 0 (fun p e s m args below meth c A F => zl_Ca_openOrMove_0 F a0 a1 st k0 h)
abbrev zrm_Ca_stayOpen : Room := { frames := 1, cells := 0, slots := 0, locals := 22 }
def zf_Ca_stayOpen_40 (N : Nat)   (st : zS) : Option zS := some st
set_option maxHeartbeats 4000000 in
theorem zl_Ca_stayOpen_40 (F : zw_X p m c zo_Ca_stayOpen 3 s args zR2 E 10 A meth none) {N : Nat} {rst : zS}    (st : zS)  (h : zf_Ca_stayOpen_40 N   st = some rst) : zw_G p l e zrm_Ca_stayOpen s m args below meth c (MQ below (zw_Q E none rst A) args s 0 0 A) E A 3 0 40 [none, none, none] [] st := by
  unfold zf_Ca_stayOpen_40 at h
  cases h
  exact zg_vret F zd_Ca_stayOpen_40
def zf_Ca_stayOpen_81 (N : Nat)   (st : zS) : Option zS := some st
set_option maxHeartbeats 4000000 in
theorem zl_Ca_stayOpen_81 (F : zw_X p m c zo_Ca_stayOpen 3 s args zR2 E 10 A meth none) {N : Nat} {rst : zS}    (st : zS)  (h : zf_Ca_stayOpen_81 N   st = some rst) : zw_G p l e zrm_Ca_stayOpen s m args below meth c (MQ below (zw_Q E none rst A) args s 0 0 A) E A 3 0 81 [none, none, none] [] st := by
  unfold zf_Ca_stayOpen_81 at h
  cases h
  exact zg_vret F zd_Ca_stayOpen_81
def zf_Ca_stayOpen_21 (N : Nat)  (l0 : Nat) (l1 : Int32) (s0 : Int32) (st : zS) : Option zS := (if l1 = 0 then (if s0 = 0 then (if ((st l0 3) - 1) = 0 then (if (st l0 7) = 0 then ((zf_Ca_turnDoor N l0 3 3 (zp (zp st l0 4 ((st l0 4) + 1)) l0 3 ((st l0 3) - 1))).bind fun t78 => zf_Ca_stayOpen_81 N t78) else ((zf_Ca_turnDoor N l0 4 6 (zp (zp st l0 4 ((st l0 4) + 1)) l0 3 ((st l0 3) - 1))).bind fun t69 => zf_Ca_stayOpen_81 N t69)) else zf_Ca_stayOpen_81 N (zp (zp st l0 4 ((st l0 4) + 1)) l0 3 ((st l0 3) - 1))) else zf_Ca_stayOpen_40 N (zp st l0 4 ((st l0 4) + 1))) else zf_Ca_stayOpen_40 N (zp st l0 4 ((st l0 4) + 1)))
set_option maxHeartbeats 4000000 in
theorem zl_Ca_stayOpen_21 (F : zw_X p m c zo_Ca_stayOpen 3 s args zR2 E 10 A meth none) {N : Nat} {rst : zS}   (l0 : Nat) (l1 : Int32) (s0 : Int32) (st : zS) (k0 : zw_kind l0 = 2) (h : zf_Ca_stayOpen_21 N  l0 l1 s0 st = some rst) : zw_G p l e zrm_Ca_stayOpen s m args below meth c (MQ below (zw_Q E none rst A) args s 0 0 A) E A 3 0 21 [some (.ref l0), some (.int l1), none] [.int s0] st := by
  unfold zf_Ca_stayOpen_21 at h
  refine zg_istore_n F.1 [some (.ref l0), some (.int l1), some (.int s0)] zd_Ca_stayOpen_21 rfl (by decide) rfl ?_
  refine zg_aload_n F.1 zd_Ca_stayOpen_22 rfl rfl ?_
  refine zg_dup F.1 zd_Ca_stayOpen_23 rfl ?_
  refine zg_getI2 F.1 (by decide) k0 4 (by decide) (st l0 4) rfl rfl zwf_Ca_24 zd_Ca_stayOpen_24 ?_
  refine zg_iconst F.1 1 1 (by decide) zd_Ca_stayOpen_27 ?_
  refine zg_iadd F.1 zd_Ca_stayOpen_28 ?_
  refine zg_putI2 F.1 (by decide) k0 4 (by decide) (Or.inr (Or.inr (Or.inr (Or.inr (Or.inl rfl))))) .int (by decide) rfl rfl rfl zwf_Ca_24 zd_Ca_stayOpen_29 ?_
  refine zg_iload_n F.1 zd_Ca_stayOpen_32 rfl rfl ?_
  refine zg_if_ne F.1 40 zd_Ca_stayOpen_33 rfl (fun hc => ?_) (fun hc => ?_)
  · rw [if_neg hc] at h
    exact zg_le (zw_len (zw_len (zw_len zw_le0))) (zl_Ca_stayOpen_40 F (zp st l0 4 ((st l0 4) + 1)) h)
  · rw [if_pos hc] at h
    refine zg_iload_n F.1 zd_Ca_stayOpen_36 rfl rfl ?_
    refine zg_if_eq F.1 41 zd_Ca_stayOpen_37 rfl (fun hc => ?_) (fun hc => ?_)
    · rw [if_pos hc] at h
      refine zg_aload_n F.1 zd_Ca_stayOpen_41 rfl rfl ?_
      refine zg_dup F.1 zd_Ca_stayOpen_42 rfl ?_
      refine zg_getI2 F.1 (by decide) k0 3 (by decide) (st l0 3) rfl (zp_o _ _ (by decide)) zwf_Ca_21 zd_Ca_stayOpen_43 ?_
      refine zg_iconst F.1 1 1 (by decide) zd_Ca_stayOpen_46 ?_
      refine zg_isub F.1 zd_Ca_stayOpen_47 ?_
      refine zg_putI2 F.1 (by decide) k0 3 (by decide) (Or.inr (Or.inr (Or.inr (Or.inl rfl)))) .int (by decide) rfl rfl rfl zwf_Ca_21 zd_Ca_stayOpen_48 ?_
      refine zg_aload_n F.1 zd_Ca_stayOpen_51 rfl rfl ?_
      refine zg_getI2 F.1 (by decide) k0 3 (by decide) ((st l0 3) - 1) rfl (zp_s _ _ _ _) zwf_Ca_21 zd_Ca_stayOpen_52 ?_
      refine zg_if_ne F.1 81 zd_Ca_stayOpen_55 rfl (fun hc => ?_) (fun hc => ?_)
      · rw [if_neg hc] at h
        exact zg_le (zw_len (zw_len (zw_len zw_le0))) (zl_Ca_stayOpen_81 F (zp (zp st l0 4 ((st l0 4) + 1)) l0 3 ((st l0 3) - 1)) h)
      · rw [if_pos hc] at h
        refine zg_aload_n F.1 zd_Ca_stayOpen_58 rfl rfl ?_
        refine zg_getI2 F.1 (by decide) k0 7 (by decide) (st l0 7) rfl ((zp_o _ _ (by decide)).trans (zp_o _ _ (by decide))) zwf_Ca_34 zd_Ca_stayOpen_59 ?_
        refine zg_if_eq F.1 75 zd_Ca_stayOpen_62 rfl (fun hc => ?_) (fun hc => ?_)
        · rw [if_pos hc] at h
          refine zg_aload_n F.1 zd_Ca_stayOpen_75 rfl rfl ?_
          refine zg_iconst F.1 3 3 (by decide) zd_Ca_stayOpen_76 ?_
          refine zg_iconst F.1 3 3 (by decide) zd_Ca_stayOpen_77 ?_
          obtain ⟨t78, hc78, h⟩ := Option.bind_eq_some_iff.mp h
          refine zg_callV F (As := [.int 3, .int 3]) (rest := []) (zk_Ca_turnDoor F.1.2.2 N l0 3 3 (zp (zp st l0 4 ((st l0 4) + 1)) l0 3 ((st l0 3) - 1)) k0 hc78) rfl rfl zcal_Ca_turnDoor zml_Ca_82 ⟨(Nat.le_of_ble_eq_true rfl), (Nat.le_of_ble_eq_true rfl)⟩ (zg_rec2 F.1 (by decide) k0) rfl (Nat.le_of_ble_eq_true rfl) ⟨(Nat.le_of_ble_eq_true rfl), (Nat.le_of_ble_eq_true rfl)⟩ zd_Ca_stayOpen_78 ?_
          exact zg_le (zw_len (zw_len (zw_len zw_le0))) (zl_Ca_stayOpen_81 F t78 h)
        · rw [if_neg hc] at h
          refine zg_aload_n F.1 zd_Ca_stayOpen_65 rfl rfl ?_
          refine zg_iconst F.1 4 4 (by decide) zd_Ca_stayOpen_66 ?_
          refine zg_bipush F.1 6 6 (by decide) zd_Ca_stayOpen_67 ?_
          obtain ⟨t69, hc69, h⟩ := Option.bind_eq_some_iff.mp h
          refine zg_callV F (As := [.int 4, .int 6]) (rest := []) (zk_Ca_turnDoor F.1.2.2 N l0 4 6 (zp (zp st l0 4 ((st l0 4) + 1)) l0 3 ((st l0 3) - 1)) k0 hc69) rfl rfl zcal_Ca_turnDoor zml_Ca_82 ⟨(Nat.le_of_ble_eq_true rfl), (Nat.le_of_ble_eq_true rfl)⟩ (zg_rec2 F.1 (by decide) k0) rfl (Nat.le_of_ble_eq_true rfl) ⟨(Nat.le_of_ble_eq_true rfl), (Nat.le_of_ble_eq_true rfl)⟩ zd_Ca_stayOpen_69 ?_
          refine zg_goto F.1 81 zd_Ca_stayOpen_72 rfl ?_
          exact zg_le (zw_len (zw_len (zw_len zw_le0))) (zl_Ca_stayOpen_81 F t69 h)
    · rw [if_neg hc] at h
      exact zg_le (zw_len (zw_len (zw_len zw_le0))) (zl_Ca_stayOpen_40 F (zp st l0 4 ((st l0 4) + 1)) h)
def zf_Ca_stayOpen_20 (N : Nat)  (l0 : Nat) (l1 : Int32) (st : zS) : Option zS := zf_Ca_stayOpen_21 N l0 l1 0 st
set_option maxHeartbeats 4000000 in
theorem zl_Ca_stayOpen_20 (F : zw_X p m c zo_Ca_stayOpen 3 s args zR2 E 10 A meth none) {N : Nat} {rst : zS}   (l0 : Nat) (l1 : Int32) (st : zS) (k0 : zw_kind l0 = 2) (h : zf_Ca_stayOpen_20 N  l0 l1 st = some rst) : zw_G p l e zrm_Ca_stayOpen s m args below meth c (MQ below (zw_Q E none rst A) args s 0 0 A) E A 3 0 20 [some (.ref l0), some (.int l1), none] [] st := by
  unfold zf_Ca_stayOpen_20 at h
  refine zg_iconst F.1 0 0 (by decide) zd_Ca_stayOpen_20 ?_
  exact zl_Ca_stayOpen_21 F l0 l1 0 st k0 h
def zf_Ca_stayOpen (N : Nat) (a0 : Nat) (a1 : Int32) (st : zS) : Option zS := (if (st a0 7) = 0 then zf_Ca_stayOpen_20 N a0 a1 st else (if 20 ≤ (st a0 4) then zf_Ca_stayOpen_20 N a0 a1 st else zf_Ca_stayOpen_21 N a0 a1 1 st))
set_option maxHeartbeats 4000000 in
theorem zl_Ca_stayOpen_0 (F : zw_X p m c zo_Ca_stayOpen 3 s args zR2 E 10 A meth none) {N : Nat} {rst : zS} (a0 : Nat) (a1 : Int32) (st : zS) (k0 : zw_kind a0 = 2) (h : zf_Ca_stayOpen N a0 a1 st = some rst) : zw_G p l e zrm_Ca_stayOpen s m args below meth c (MQ below (zw_Q E none rst A) args s 0 0 A) E A 3 0 0 [some (.ref a0), some (.int a1), none] [] st := by
  unfold zf_Ca_stayOpen at h
  refine zg_aload_n F.1 zd_Ca_stayOpen_0 rfl rfl ?_
  refine zg_getI2 F.1 (by decide) k0 7 (by decide) (st a0 7) rfl rfl zwf_Ca_34 zd_Ca_stayOpen_1 ?_
  refine zg_if_eq F.1 20 zd_Ca_stayOpen_4 rfl (fun hc => ?_) (fun hc => ?_)
  · rw [if_pos hc] at h
    exact zl_Ca_stayOpen_20 F a0 a1 st k0 h
  · rw [if_neg hc] at h
    refine zg_aload_n F.1 zd_Ca_stayOpen_7 rfl rfl ?_
    refine zg_getI2 F.1 (by decide) k0 4 (by decide) (st a0 4) rfl rfl zwf_Ca_24 zd_Ca_stayOpen_8 ?_
    refine zg_bipush F.1 20 20 (by decide) zd_Ca_stayOpen_11 ?_
    refine zg_icmp_ge F.1 20 zd_Ca_stayOpen_13 rfl (fun hc => ?_) (fun hc => ?_)
    · rw [if_pos hc] at h
      exact zl_Ca_stayOpen_20 F a0 a1 st k0 h
    · rw [if_neg hc] at h
      refine zg_iconst F.1 1 1 (by decide) zd_Ca_stayOpen_16 ?_
      refine zg_goto F.1 21 zd_Ca_stayOpen_17 rfl ?_
      exact zl_Ca_stayOpen_21 F a0 a1 1 st k0 h
theorem zk_Ca_stayOpen {E : zE} (hn : zw_n E 10) (N : Nat) (a0 : Nat) (a1 : Int32) (st : zS) (k0 : zw_kind a0 = 2) {rst : zS} (h : zf_Ca_stayOpen N a0 a1 st = some rst) : zw_M l zy_Ca_stayOpen (Cond.code zy_Ca_stayOpen zo_Ca_stayOpen 3 none :: zwAll) zrm_Ca_stayOpen E [.ref a0, .int a1] st none rst :=
  zw_enter (by decide) rfl hn (Nat.le_of_ble_eq_true rfl) (by simp [Value.category]) 1 (fun p e s m args below meth c A F => zl_Ca_stayOpen_0 F a0 a1 st k0 h)
abbrev zrm_Ca_firstOf : Room := { frames := 0, cells := 0, slots := 0, locals := 0 }
def zf_Ca_firstOf_34 (N : Nat) (r4 : Int32 → Int32 → Int32 → Int32 → zS → Option (Int32 × zS)) (l0 : Int32) (l1 : Int32) (l2 : Int32) (l3 : Int32) (st : zS) : Option (Int32 × zS) := r4 l0 l1 l2 (l3 + 1) st
set_option maxHeartbeats 4000000 in
theorem zl_Ca_firstOf_34 (F : zw_X p m c zo_Ca_firstOf 5 s args zR2 E 10 A meth (some .int)) {N : Nat} {rv : Int32} {rst : zS} {r4 : Int32 → Int32 → Int32 → Int32 → zS → Option (Int32 × zS)} (hr4 : ∀ (l0 : Int32) (l1 : Int32) (l2 : Int32) (l3 : Int32) (st : zS) , r4 l0 l1 l2 l3 st = some (rv, rst) → zw_G p l e zrm_Ca_firstOf s m args below meth c (MQ below (zw_Q E (some (.int rv)) rst A) args s 0 0 A) E A 5 0 4 [some (.int l0), some (.int l1), some (.int l2), some (.int l3), none] [] st) (l0 : Int32) (l1 : Int32) (l2 : Int32) (l3 : Int32) (st : zS)  (h : zf_Ca_firstOf_34 N r4 l0 l1 l2 l3 st = some (rv, rst)) : zw_G p l e zrm_Ca_firstOf s m args below meth c (MQ below (zw_Q E (some (.int rv)) rst A) args s 0 0 A) E A 5 0 34 [some (.int l0), some (.int l1), some (.int l2), some (.int l3), none] [] st := by
  unfold zf_Ca_firstOf_34 at h
  refine zg_iinc F.1 (l3 + 1) [some (.int l0), some (.int l1), some (.int l2), some (.int (l3 + 1)), none] zd_Ca_firstOf_34 rfl (by rw [lit1]) (by decide) rfl ?_
  refine zg_goto F.1 4 zd_Ca_firstOf_37 rfl ?_
  exact hr4 l0 l1 l2 (l3 + 1) st h
def zf_Ca_firstOf_40 (N : Nat)  (l2 : Int32) (st : zS) : Option (Int32 × zS) := some (l2, st)
set_option maxHeartbeats 4000000 in
theorem zl_Ca_firstOf_40 (F : zw_X p m c zo_Ca_firstOf 5 s args zR2 E 10 A meth (some .int)) {N : Nat} {rv : Int32} {rst : zS}   (l2 : Int32) (st : zS)  (h : zf_Ca_firstOf_40 N  l2 st = some (rv, rst)) : zw_G p l e zrm_Ca_firstOf s m args below meth c (MQ below (zw_Q E (some (.int rv)) rst A) args s 0 0 A) E A 5 0 40 [none, none, some (.int l2), none, none] [] st := by
  unfold zf_Ca_firstOf_40 at h
  refine zg_iload_n F.1 zd_Ca_firstOf_40 rfl rfl ?_
  cases h
  exact zg_iret F zd_Ca_firstOf_41
def zb_Ca_firstOf_4 (N : Nat) (r4 : Int32 → Int32 → Int32 → Int32 → zS → Option (Int32 × zS)) (l0 : Int32) (l1 : Int32) (l2 : Int32) (l3 : Int32) (st : zS) : Option (Int32 × zS) := (if 24 ≤ l3 then zf_Ca_firstOf_40 N l2 st else (if l1 ≤ 0 then zf_Ca_firstOf_40 N l2 st else (if (l0 &&& (1 <<< (l3 &&& 31))) = 0 then zf_Ca_firstOf_34 N r4 l0 l1 l2 l3 st else zf_Ca_firstOf_34 N r4 l0 (l1 + (-1)) (l2 ||| (l0 &&& (1 <<< (l3 &&& 31)))) l3 st)))
set_option maxHeartbeats 4000000 in
theorem zlb_Ca_firstOf_4 (F : zw_X p m c zo_Ca_firstOf 5 s args zR2 E 10 A meth (some .int)) {N : Nat} {rv : Int32} {rst : zS} {r4 : Int32 → Int32 → Int32 → Int32 → zS → Option (Int32 × zS)} (hr4 : ∀ (l0 : Int32) (l1 : Int32) (l2 : Int32) (l3 : Int32) (st : zS) , r4 l0 l1 l2 l3 st = some (rv, rst) → zw_G p l e zrm_Ca_firstOf s m args below meth c (MQ below (zw_Q E (some (.int rv)) rst A) args s 0 0 A) E A 5 0 4 [some (.int l0), some (.int l1), some (.int l2), some (.int l3), none] [] st) (l0 : Int32) (l1 : Int32) (l2 : Int32) (l3 : Int32) (st : zS)  (h : zb_Ca_firstOf_4 N r4 l0 l1 l2 l3 st = some (rv, rst)) : zw_G p l e zrm_Ca_firstOf s m args below meth c (MQ below (zw_Q E (some (.int rv)) rst A) args s 0 0 A) E A 5 0 4 [some (.int l0), some (.int l1), some (.int l2), some (.int l3), none] [] st := by
  unfold zb_Ca_firstOf_4 at h
  refine zg_iload_n F.1 zd_Ca_firstOf_4 rfl rfl ?_
  refine zg_bipush F.1 24 24 (by decide) zd_Ca_firstOf_5 ?_
  refine zg_icmp_ge F.1 40 zd_Ca_firstOf_7 rfl (fun hc => ?_) (fun hc => ?_)
  · rw [if_pos hc] at h
    exact zg_le (zw_len (zw_len (zw_les (zw_len (zw_les zw_le0))))) (zl_Ca_firstOf_40 F l2 st h)
  · rw [if_neg hc] at h
    refine zg_iload_n F.1 zd_Ca_firstOf_10 rfl rfl ?_
    refine zg_if_le F.1 40 zd_Ca_firstOf_11 rfl (fun hc => ?_) (fun hc => ?_)
    · rw [if_pos hc] at h
      exact zg_le (zw_len (zw_len (zw_les (zw_len (zw_les zw_le0))))) (zl_Ca_firstOf_40 F l2 st h)
    · rw [if_neg hc] at h
      refine zg_iload_n F.1 zd_Ca_firstOf_14 rfl rfl ?_
      refine zg_iconst F.1 1 1 (by decide) zd_Ca_firstOf_15 ?_
      refine zg_iload_n F.1 zd_Ca_firstOf_16 rfl rfl ?_
      refine zg_ishl F.1 zd_Ca_firstOf_17 ?_
      refine zg_iand F.1 zd_Ca_firstOf_18 ?_
      refine zg_istore F.1 [some (.int l0), some (.int l1), some (.int l2), some (.int l3), some (.int (l0 &&& (1 <<< (l3 &&& 31))))] zd_Ca_firstOf_19 (by decide) rfl ?_
      refine zg_iload F.1 zd_Ca_firstOf_21 rfl ?_
      refine zg_if_eq F.1 34 zd_Ca_firstOf_23 rfl (fun hc => ?_) (fun hc => ?_)
      · rw [if_pos hc] at h
        exact zg_le (zw_les (zw_les (zw_les (zw_les (zw_len zw_le0))))) (zl_Ca_firstOf_34 F hr4 l0 l1 l2 l3 st h)
      · rw [if_neg hc] at h
        refine zg_iload_n F.1 zd_Ca_firstOf_26 rfl rfl ?_
        refine zg_iload F.1 zd_Ca_firstOf_27 rfl ?_
        refine zg_ior F.1 zd_Ca_firstOf_29 ?_
        refine zg_istore_n F.1 [some (.int l0), some (.int l1), some (.int (l2 ||| (l0 &&& (1 <<< (l3 &&& 31))))), some (.int l3), some (.int (l0 &&& (1 <<< (l3 &&& 31))))] zd_Ca_firstOf_30 rfl (by decide) rfl ?_
        refine zg_iinc F.1 (l1 + (-1)) [some (.int l0), some (.int (l1 + (-1))), some (.int (l2 ||| (l0 &&& (1 <<< (l3 &&& 31))))), some (.int l3), some (.int (l0 &&& (1 <<< (l3 &&& 31))))] zd_Ca_firstOf_31 rfl (by rw [litm1]) (by decide) rfl ?_
        exact zg_le (zw_les (zw_les (zw_les (zw_les (zw_len zw_le0))))) (zl_Ca_firstOf_34 F hr4 l0 (l1 + (-1)) (l2 ||| (l0 &&& (1 <<< (l3 &&& 31)))) l3 st h)
def zf_Ca_firstOf_4 (N : Nat)  : Nat → Int32 → Int32 → Int32 → Int32 → zS → Option (Int32 × zS)
  | 0, _, _, _, _, _ => none
  | n + 1, l0, l1, l2, l3, st => zb_Ca_firstOf_4 N  (zf_Ca_firstOf_4 N  n) l0 l1 l2 l3 st
theorem zl_Ca_firstOf_4 (F : zw_X p m c zo_Ca_firstOf 5 s args zR2 E 10 A meth (some .int)) {N : Nat} {rv : Int32} {rst : zS}   : ∀ (n : Nat) (l0 : Int32) (l1 : Int32) (l2 : Int32) (l3 : Int32) (st : zS)  (h : zf_Ca_firstOf_4 N  n l0 l1 l2 l3 st = some (rv, rst)), zw_G p l e zrm_Ca_firstOf s m args below meth c (MQ below (zw_Q E (some (.int rv)) rst A) args s 0 0 A) E A 5 0 4 [some (.int l0), some (.int l1), some (.int l2), some (.int l3), none] [] st := by
  intro n
  induction n with
  | zero => intro l0 l1 l2 l3 st  h; cases h
  | succ n ih => intro l0 l1 l2 l3 st  h; exact zlb_Ca_firstOf_4 F  ih l0 l1 l2 l3 st  h
def zf_Ca_firstOf (N : Nat) (a0 : Int32) (a1 : Int32) (st : zS) : Option (Int32 × zS) := zf_Ca_firstOf_4 N N a0 a1 0 0 st
set_option maxHeartbeats 4000000 in
theorem zl_Ca_firstOf_0 (F : zw_X p m c zo_Ca_firstOf 5 s args zR2 E 10 A meth (some .int)) {N : Nat} {rv : Int32} {rst : zS} (a0 : Int32) (a1 : Int32) (st : zS)  (h : zf_Ca_firstOf N a0 a1 st = some (rv, rst)) : zw_G p l e zrm_Ca_firstOf s m args below meth c (MQ below (zw_Q E (some (.int rv)) rst A) args s 0 0 A) E A 5 0 0 [some (.int a0), some (.int a1), none, none, none] [] st := by
  unfold zf_Ca_firstOf at h
  refine zg_iconst F.1 0 0 (by decide) zd_Ca_firstOf_0 ?_
  refine zg_istore_n F.1 [some (.int a0), some (.int a1), some (.int 0), none, none] zd_Ca_firstOf_1 rfl (by decide) rfl ?_
  refine zg_iconst F.1 0 0 (by decide) zd_Ca_firstOf_2 ?_
  refine zg_istore_n F.1 [some (.int a0), some (.int a1), some (.int 0), some (.int 0), none] zd_Ca_firstOf_3 rfl (by decide) rfl ?_
  exact zl_Ca_firstOf_4 F N a0 a1 0 0 st h
theorem zk_Ca_firstOf {E : zE} (hn : zw_n E 10) (N : Nat) (a0 : Int32) (a1 : Int32) (st : zS)  {rv : Int32} {rst : zS} (h : zf_Ca_firstOf N a0 a1 st = some (rv, rst)) : zw_M l zy_Ca_firstOf (Cond.code zy_Ca_firstOf zo_Ca_firstOf 5 (some .int) :: zwAll) zrm_Ca_firstOf E [.int a0, .int a1] st (some (.int rv)) rst :=
  zw_enter (by decide) rfl hn (Nat.le_of_ble_eq_true rfl) (by simp [Value.category]) 3 (fun p e s m args below meth c A F => zl_Ca_firstOf_0 F a0 a1 st  h)
set_option maxRecDepth 100000 in
theorem zwf_Ca_46 : Cond.fieldLink zR2 46 (zT1 4).1 (zT1 4).2.1 (zT1 4).2.2.1 ∈ zwAll := zw_at 87 rfl rfl
set_option maxRecDepth 100000 in
theorem zcal_Ca_hasRiders : zw_cal zR2 zy_Ca_hasRiders zo_Ca_hasRiders 1 (some .boolean) 0 := ⟨zw_at 309 rfl rfl, zw_at 310 rfl rfl, zw_at 49 rfl rfl, zw_at 311 rfl rfl, rfl, by decide, by decide, by decide +kernel⟩
set_option maxRecDepth 100000 in
theorem zml_Ca_51 : Cond.methodLink zR2 51 zy_Ca_hasRiders ∈ zwAll := zw_at 320 rfl rfl
set_option maxRecDepth 100000 in
theorem zcal_In_bitCount : zw_calS zy_In_bitCount zo_In_bitCount 1 (some .int) 1 := ⟨zw_at 322 rfl rfl, zw_at 59 rfl rfl, zw_at 323 rfl rfl, by decide, by decide, by decide +kernel⟩
set_option maxRecDepth 100000 in
theorem zml_Ca_55 : Cond.methodLink zR2 55 zy_In_bitCount ∈ zwAll := zw_at 321 rfl rfl
set_option maxRecDepth 100000 in
theorem zwf_Ca_61 : Cond.fieldLink zR2 61 (zT1 3).1 (zT1 3).2.1 (zT1 3).2.2.1 ∈ zwAll := zw_at 85 rfl rfl
set_option maxRecDepth 100000 in
theorem zwf_Ca_64 : Cond.fieldLink zR2 64 (zT1 2).1 (zT1 2).2.1 (zT1 2).2.2.1 ∈ zwAll := zw_at 82 rfl rfl
set_option maxRecDepth 100000 in
theorem zwf_Ca_67 : Cond.fieldLink zR2 67 (zT1 1).1 (zT1 1).2.1 (zT1 1).2.2.1 ∈ zwAll := zw_at 80 rfl rfl
set_option maxRecDepth 100000 in
theorem zwf_Ca_71 : Cond.fieldLink zR2 71 (zT1 0).1 (zT1 0).2.1 (zT1 0).2.2.1 ∈ zwAll := zw_at 78 rfl rfl
abbrev zrm_Ca_stopSet : Room := { frames := 1, cells := 0, slots := 0, locals := 20 }
def zf_Ca_stopSet_91 (N : Nat) (r46 : Nat → Int32 → Int32 → Int32 → zS → Option (Int32 × zS)) (l0 : Nat) (l2 : Int32) (l3 : Int32) (l4 : Int32) (st : zS) : Option (Int32 × zS) := r46 l0 l2 l3 (l4 + 1) st
set_option maxHeartbeats 4000000 in
theorem zl_Ca_stopSet_91 (F : zw_X p m c zo_Ca_stopSet 5 s args zR2 E 10 A meth (some .int)) {N : Nat} {rv : Int32} {rst : zS} {r46 : Nat → Int32 → Int32 → Int32 → zS → Option (Int32 × zS)} (hr46 : ∀ (l0 : Nat) (l2 : Int32) (l3 : Int32) (l4 : Int32) (st : zS) (k0 : zw_kind l0 = 2), r46 l0 l2 l3 l4 st = some (rv, rst) → zw_G p l e zrm_Ca_stopSet s m args below meth c (MQ below (zw_Q E (some (.int rv)) rst A) args s 0 0 A) E A 5 0 46 [some (.ref l0), some (.ref 1), some (.int l2), some (.int l3), some (.int l4)] [] st) (l0 : Nat) (l2 : Int32) (l3 : Int32) (l4 : Int32) (st : zS) (k0 : zw_kind l0 = 2) (h : zf_Ca_stopSet_91 N r46 l0 l2 l3 l4 st = some (rv, rst)) : zw_G p l e zrm_Ca_stopSet s m args below meth c (MQ below (zw_Q E (some (.int rv)) rst A) args s 0 0 A) E A 5 0 91 [some (.ref l0), some (.ref 1), some (.int l2), some (.int l3), some (.int l4)] [] st := by
  unfold zf_Ca_stopSet_91 at h
  refine zg_iinc F.1 (l4 + 1) [some (.ref l0), some (.ref 1), some (.int l2), some (.int l3), some (.int (l4 + 1))] zd_Ca_stopSet_91 rfl (by rw [lit1]) (by decide) rfl ?_
  refine zg_goto F.1 46 zd_Ca_stopSet_94 rfl ?_
  exact hr46 l0 l2 l3 (l4 + 1) st k0 h
def zf_Ca_stopSet_82 (N : Nat) (r46 : Nat → Int32 → Int32 → Int32 → zS → Option (Int32 × zS)) (l0 : Nat) (l2 : Int32) (l3 : Int32) (l4 : Int32) (st : zS) : Option (Int32 × zS) := zf_Ca_stopSet_91 N r46 l0 l2 (l3 ||| (1 <<< ((2 * l4) &&& 31))) l4 st
set_option maxHeartbeats 4000000 in
theorem zl_Ca_stopSet_82 (F : zw_X p m c zo_Ca_stopSet 5 s args zR2 E 10 A meth (some .int)) {N : Nat} {rv : Int32} {rst : zS} {r46 : Nat → Int32 → Int32 → Int32 → zS → Option (Int32 × zS)} (hr46 : ∀ (l0 : Nat) (l2 : Int32) (l3 : Int32) (l4 : Int32) (st : zS) (k0 : zw_kind l0 = 2), r46 l0 l2 l3 l4 st = some (rv, rst) → zw_G p l e zrm_Ca_stopSet s m args below meth c (MQ below (zw_Q E (some (.int rv)) rst A) args s 0 0 A) E A 5 0 46 [some (.ref l0), some (.ref 1), some (.int l2), some (.int l3), some (.int l4)] [] st) (l0 : Nat) (l2 : Int32) (l3 : Int32) (l4 : Int32) (st : zS) (k0 : zw_kind l0 = 2) (h : zf_Ca_stopSet_82 N r46 l0 l2 l3 l4 st = some (rv, rst)) : zw_G p l e zrm_Ca_stopSet s m args below meth c (MQ below (zw_Q E (some (.int rv)) rst A) args s 0 0 A) E A 5 0 82 [some (.ref l0), some (.ref 1), some (.int l2), some (.int l3), some (.int l4)] [] st := by
  unfold zf_Ca_stopSet_82 at h
  refine zg_iload_n F.1 zd_Ca_stopSet_82 rfl rfl ?_
  refine zg_iconst F.1 1 1 (by decide) zd_Ca_stopSet_83 ?_
  refine zg_iconst F.1 2 2 (by decide) zd_Ca_stopSet_84 ?_
  refine zg_iload F.1 zd_Ca_stopSet_85 rfl ?_
  refine zg_imul F.1 zd_Ca_stopSet_87 ?_
  refine zg_ishl F.1 zd_Ca_stopSet_88 ?_
  refine zg_ior F.1 zd_Ca_stopSet_89 ?_
  refine zg_istore_n F.1 [some (.ref l0), some (.ref 1), some (.int l2), some (.int (l3 ||| (1 <<< ((2 * l4) &&& 31)))), some (.int l4)] zd_Ca_stopSet_90 rfl (by decide) rfl ?_
  exact zl_Ca_stopSet_91 F hr46 l0 l2 (l3 ||| (1 <<< ((2 * l4) &&& 31))) l4 st k0 h
def zb_Ca_stopSet_46 (N : Nat) (r46 : Nat → Int32 → Int32 → Int32 → zS → Option (Int32 × zS)) (l0 : Nat) (l2 : Int32) (l3 : Int32) (l4 : Int32) (st : zS) : Option (Int32 × zS) := (if (st 1 2) ≤ l4 then some (l3, st) else (if l4 < 0 ∨ 10 ≤ l4.toNatClampNeg then none else (if ((st l0 8) &&& (st 3 l4.toNatClampNeg)) = 0 then (if l4 < 0 ∨ 10 ≤ l4.toNatClampNeg then none else (if (l2 &&& (st 2 l4.toNatClampNeg)) = 0 then zf_Ca_stopSet_91 N r46 l0 l2 l3 l4 st else zf_Ca_stopSet_82 N r46 l0 l2 l3 l4 st)) else zf_Ca_stopSet_82 N r46 l0 l2 l3 l4 st)))
set_option maxHeartbeats 4000000 in
theorem zlb_Ca_stopSet_46 (F : zw_X p m c zo_Ca_stopSet 5 s args zR2 E 10 A meth (some .int)) {N : Nat} {rv : Int32} {rst : zS} {r46 : Nat → Int32 → Int32 → Int32 → zS → Option (Int32 × zS)} (hr46 : ∀ (l0 : Nat) (l2 : Int32) (l3 : Int32) (l4 : Int32) (st : zS) (k0 : zw_kind l0 = 2), r46 l0 l2 l3 l4 st = some (rv, rst) → zw_G p l e zrm_Ca_stopSet s m args below meth c (MQ below (zw_Q E (some (.int rv)) rst A) args s 0 0 A) E A 5 0 46 [some (.ref l0), some (.ref 1), some (.int l2), some (.int l3), some (.int l4)] [] st) (l0 : Nat) (l2 : Int32) (l3 : Int32) (l4 : Int32) (st : zS) (k0 : zw_kind l0 = 2) (h : zb_Ca_stopSet_46 N r46 l0 l2 l3 l4 st = some (rv, rst)) : zw_G p l e zrm_Ca_stopSet s m args below meth c (MQ below (zw_Q E (some (.int rv)) rst A) args s 0 0 A) E A 5 0 46 [some (.ref l0), some (.ref 1), some (.int l2), some (.int l3), some (.int l4)] [] st := by
  unfold zb_Ca_stopSet_46 at h
  refine zg_iload F.1 zd_Ca_stopSet_46 rfl ?_
  refine zg_aload_n F.1 zd_Ca_stopSet_48 rfl rfl ?_
  refine zg_getI1 F.1 (by decide) rfl 2 (by decide) (st 1 2) rfl rfl zwf_Ca_64 zd_Ca_stopSet_49 ?_
  refine zg_icmp_ge F.1 97 zd_Ca_stopSet_52 rfl (fun hc => ?_) (fun hc => ?_)
  · rw [if_pos hc] at h
    refine zg_iload_n F.1 zd_Ca_stopSet_97 rfl rfl ?_
    cases h
    exact zg_iret F zd_Ca_stopSet_98
  · rw [if_neg hc] at h
    refine zg_aload_n F.1 zd_Ca_stopSet_55 rfl rfl ?_
    refine zg_getI2 F.1 (by decide) k0 8 (by decide) (st l0 8) rfl rfl zwf_Ca_37 zd_Ca_stopSet_56 ?_
    refine zg_aload_n F.1 zd_Ca_stopSet_59 rfl rfl ?_
    refine zg_getR1 F.1 (by decide) rfl 1 (by decide) 3 rfl zwf_Ca_67 zd_Ca_stopSet_60 ?_
    refine zg_iload F.1 zd_Ca_stopSet_63 rfl ?_
    by_cases hi65 : l4 < 0 ∨ 10 ≤ l4.toNatClampNeg
    case pos => rw [if_pos hi65] at h; cases h
    rw [if_neg hi65] at h
    refine zg_ald5 F.1 (by decide) rfl hi65 l4.toNatClampNeg rfl (st 3 l4.toNatClampNeg) rfl zd_Ca_stopSet_65 ?_
    refine zg_iand F.1 zd_Ca_stopSet_66 ?_
    refine zg_if_ne F.1 82 zd_Ca_stopSet_67 rfl (fun hc => ?_) (fun hc => ?_)
    · rw [if_neg hc] at h
      exact zl_Ca_stopSet_82 F hr46 l0 l2 l3 l4 st k0 h
    · rw [if_pos hc] at h
      refine zg_iload_n F.1 zd_Ca_stopSet_70 rfl rfl ?_
      refine zg_aload_n F.1 zd_Ca_stopSet_71 rfl rfl ?_
      refine zg_getR1 F.1 (by decide) rfl 0 (by decide) 2 rfl zwf_Ca_71 zd_Ca_stopSet_72 ?_
      refine zg_iload F.1 zd_Ca_stopSet_75 rfl ?_
      by_cases hi77 : l4 < 0 ∨ 10 ≤ l4.toNatClampNeg
      case pos => rw [if_pos hi77] at h; cases h
      rw [if_neg hi77] at h
      refine zg_ald5 F.1 (by decide) rfl hi77 l4.toNatClampNeg rfl (st 2 l4.toNatClampNeg) rfl zd_Ca_stopSet_77 ?_
      refine zg_iand F.1 zd_Ca_stopSet_78 ?_
      refine zg_if_eq F.1 91 zd_Ca_stopSet_79 rfl (fun hc => ?_) (fun hc => ?_)
      · rw [if_pos hc] at h
        exact zl_Ca_stopSet_91 F hr46 l0 l2 l3 l4 st k0 h
      · rw [if_neg hc] at h
        exact zl_Ca_stopSet_82 F hr46 l0 l2 l3 l4 st k0 h
def zf_Ca_stopSet_46 (N : Nat)  : Nat → Nat → Int32 → Int32 → Int32 → zS → Option (Int32 × zS)
  | 0, _, _, _, _, _ => none
  | n + 1, l0, l2, l3, l4, st => zb_Ca_stopSet_46 N  (zf_Ca_stopSet_46 N  n) l0 l2 l3 l4 st
theorem zl_Ca_stopSet_46 (F : zw_X p m c zo_Ca_stopSet 5 s args zR2 E 10 A meth (some .int)) {N : Nat} {rv : Int32} {rst : zS}   : ∀ (n : Nat) (l0 : Nat) (l2 : Int32) (l3 : Int32) (l4 : Int32) (st : zS) (k0 : zw_kind l0 = 2) (h : zf_Ca_stopSet_46 N  n l0 l2 l3 l4 st = some (rv, rst)), zw_G p l e zrm_Ca_stopSet s m args below meth c (MQ below (zw_Q E (some (.int rv)) rst A) args s 0 0 A) E A 5 0 46 [some (.ref l0), some (.ref 1), some (.int l2), some (.int l3), some (.int l4)] [] st := by
  intro n
  induction n with
  | zero => intro l0 l2 l3 l4 st k0 h; cases h
  | succ n ih => intro l0 l2 l3 l4 st k0 h; exact zlb_Ca_stopSet_46 F  ih l0 l2 l3 l4 st k0 h
def zf_Ca_stopSet_40 (N : Nat)  (l0 : Nat) (s0 : Int32) (st : zS) : Option (Int32 × zS) := zf_Ca_stopSet_46 N N l0 s0 0 0 st
set_option maxHeartbeats 4000000 in
theorem zl_Ca_stopSet_40 (F : zw_X p m c zo_Ca_stopSet 5 s args zR2 E 10 A meth (some .int)) {N : Nat} {rv : Int32} {rst : zS}   (l0 : Nat) (s0 : Int32) (st : zS) (k0 : zw_kind l0 = 2) (h : zf_Ca_stopSet_40 N  l0 s0 st = some (rv, rst)) : zw_G p l e zrm_Ca_stopSet s m args below meth c (MQ below (zw_Q E (some (.int rv)) rst A) args s 0 0 A) E A 5 0 40 [some (.ref l0), some (.ref 1), none, none, none] [.int s0] st := by
  unfold zf_Ca_stopSet_40 at h
  refine zg_istore_n F.1 [some (.ref l0), some (.ref 1), some (.int s0), none, none] zd_Ca_stopSet_40 rfl (by decide) rfl ?_
  refine zg_iconst F.1 0 0 (by decide) zd_Ca_stopSet_41 ?_
  refine zg_istore_n F.1 [some (.ref l0), some (.ref 1), some (.int s0), some (.int 0), none] zd_Ca_stopSet_42 rfl (by decide) rfl ?_
  refine zg_iconst F.1 0 0 (by decide) zd_Ca_stopSet_43 ?_
  refine zg_istore F.1 [some (.ref l0), some (.ref 1), some (.int s0), some (.int 0), some (.int 0)] zd_Ca_stopSet_44 (by decide) rfl ?_
  exact zl_Ca_stopSet_46 F N l0 s0 0 0 st k0 h
def zf_Ca_stopSet (N : Nat) (a0 : Nat) (st : zS) : Option (Int32 × zS) := (if (st 1 4) = 0 then ((zf_Ca_hasRiders N a0 st).bind fun y10 => (if y10.1 = 0 then some (0, y10.2) else ((zf_In_bitCount N (y10.2 a0 8) y10.2).bind fun y22 => (if (y22.2 1 3) ≤ y22.1 then zf_Ca_stopSet_40 N a0 0 y22.2 else zf_Ca_stopSet_40 N a0 (y22.2 a0 9) y22.2)))) else some (1, st))
set_option maxHeartbeats 4000000 in
theorem zl_Ca_stopSet_0 (F : zw_X p m c zo_Ca_stopSet 5 s args zR2 E 10 A meth (some .int)) {N : Nat} {rv : Int32} {rst : zS} (a0 : Nat) (st : zS) (k0 : zw_kind a0 = 2) (h : zf_Ca_stopSet N a0 st = some (rv, rst)) : zw_G p l e zrm_Ca_stopSet s m args below meth c (MQ below (zw_Q E (some (.int rv)) rst A) args s 0 0 A) E A 5 0 0 [some (.ref a0), some (.ref 1), none, none, none] [] st := by
  unfold zf_Ca_stopSet at h
  refine zg_aload_n F.1 zd_Ca_stopSet_0 rfl rfl ?_
  refine zg_getI1 F.1 (by decide) rfl 4 (by decide) (st 1 4) rfl rfl zwf_Ca_46 zd_Ca_stopSet_1 ?_
  refine zg_if_eq F.1 9 zd_Ca_stopSet_4 rfl (fun hc => ?_) (fun hc => ?_)
  · rw [if_pos hc] at h
    refine zg_aload_n F.1 zd_Ca_stopSet_9 rfl rfl ?_
    obtain ⟨y10, hc10, h⟩ := Option.bind_eq_some_iff.mp h
    refine zg_callV F (As := []) (rest := []) (zk_Ca_hasRiders F.1.2.2 N a0 st k0 hc10) rfl rfl zcal_Ca_hasRiders zml_Ca_51 ⟨(Nat.le_of_ble_eq_true rfl), (Nat.le_of_ble_eq_true rfl)⟩ (zg_rec2 F.1 (by decide) k0) rfl (Nat.le_of_ble_eq_true rfl) ⟨(Nat.le_of_ble_eq_true rfl), (Nat.le_of_ble_eq_true rfl)⟩ zd_Ca_stopSet_10 ?_
    refine zg_if_ne F.1 18 zd_Ca_stopSet_13 rfl (fun hc => ?_) (fun hc => ?_)
    · rw [if_neg hc] at h
      refine zg_aload_n F.1 zd_Ca_stopSet_18 rfl rfl ?_
      refine zg_getI2 F.1 (by decide) k0 8 (by decide) (y10.2 a0 8) rfl rfl zwf_Ca_37 zd_Ca_stopSet_19 ?_
      obtain ⟨y22, hc22, h⟩ := Option.bind_eq_some_iff.mp h
      refine zg_callS F (As := [.int (y10.2 a0 8)]) (rest := []) (zk_In_bitCount F.1.2.2 N (y10.2 a0 8) y10.2 hc22) rfl rfl zcal_In_bitCount zml_Ca_55 ⟨(Nat.le_of_ble_eq_true rfl), (Nat.le_of_ble_eq_true rfl)⟩ rfl (Nat.le_of_ble_eq_true rfl) ⟨(Nat.le_of_ble_eq_true rfl), (Nat.le_of_ble_eq_true rfl)⟩ zd_Ca_stopSet_22 ?_
      refine zg_aload_n F.1 zd_Ca_stopSet_25 rfl rfl ?_
      refine zg_getI1 F.1 (by decide) rfl 3 (by decide) (y22.2 1 3) rfl rfl zwf_Ca_61 zd_Ca_stopSet_26 ?_
      refine zg_icmp_ge F.1 39 zd_Ca_stopSet_29 rfl (fun hc => ?_) (fun hc => ?_)
      · rw [if_pos hc] at h
        refine zg_iconst F.1 0 0 (by decide) zd_Ca_stopSet_39 ?_
        exact zl_Ca_stopSet_40 F a0 0 y22.2 k0 h
      · rw [if_neg hc] at h
        refine zg_aload_n F.1 zd_Ca_stopSet_32 rfl rfl ?_
        refine zg_getI2 F.1 (by decide) k0 9 (by decide) (y22.2 a0 9) rfl rfl zwf_Ca_40 zd_Ca_stopSet_33 ?_
        refine zg_goto F.1 40 zd_Ca_stopSet_36 rfl ?_
        exact zl_Ca_stopSet_40 F a0 (y22.2 a0 9) y22.2 k0 h
    · rw [if_pos hc] at h
      refine zg_iconst F.1 0 0 (by decide) zd_Ca_stopSet_16 ?_
      cases h
      exact zg_iret F zd_Ca_stopSet_17
  · rw [if_neg hc] at h
    refine zg_iconst F.1 1 1 (by decide) zd_Ca_stopSet_7 ?_
    cases h
    exact zg_iret F zd_Ca_stopSet_8
theorem zk_Ca_stopSet {E : zE} (hn : zw_n E 10) (N : Nat) (a0 : Nat) (st : zS) (k0 : zw_kind a0 = 2) {rv : Int32} {rst : zS} (h : zf_Ca_stopSet N a0 st = some (rv, rst)) : zw_M l zy_Ca_stopSet (Cond.code zy_Ca_stopSet zo_Ca_stopSet 5 (some .int) :: zwAll) zrm_Ca_stopSet E [.ref a0, .ref 1] st (some (.int rv)) rst :=
  zw_enter (by decide) rfl hn (Nat.le_of_ble_eq_true rfl) (by simp [Value.category]) 3 (fun p e s m args below meth c A F => zl_Ca_stopSet_0 F a0 st k0 h)
set_option maxRecDepth 100000 in
theorem zcal_Ca_firstOf : zw_calS zy_Ca_firstOf zo_Ca_firstOf 5 (some .int) 2 := ⟨zw_at 348 rfl rfl, zw_at 49 rfl rfl, zw_at 349 rfl rfl, by decide, by decide, by decide +kernel⟩
set_option maxRecDepth 100000 in
theorem zml_Ca_113 : Cond.methodLink zR2 113 zy_Ca_firstOf ∈ zwAll := zw_at 347 rfl rfl
abbrev zrm_Ca_exchange : Room := { frames := 1, cells := 0, slots := 0, locals := 24 }
def zf_Ca_exchange_124 (N : Nat)   (st : zS) : Option zS := some st
set_option maxHeartbeats 4000000 in
theorem zl_Ca_exchange_124 (F : zw_X p m c zo_Ca_exchange 4 s args zR2 E 10 A meth none) {N : Nat} {rst : zS}    (st : zS)  (h : zf_Ca_exchange_124 N   st = some rst) : zw_G p l e zrm_Ca_exchange s m args below meth c (MQ below (zw_Q E none rst A) args s 0 0 A) E A 4 0 124 [none, none, none, none] [] st := by
  unfold zf_Ca_exchange_124 at h
  cases h
  exact zg_vret F zd_Ca_exchange_124
def zf_Ca_exchange (N : Nat) (a0 : Nat) (st : zS) : Option zS := (if ((st a0 0) / 2) < 0 ∨ 10 ≤ ((st a0 0) / 2).toNatClampNeg then none else (if (st 1 4) = 0 then ((zf_In_bitCount N ((st a0 8) &&& (((st a0 8) &&& (st 3 (((st a0 0) / 2).toNatClampNeg))) ^^^ (-1))) (zp (zp st a0 10 ((st a0 8) &&& (st 3 (((st a0 0) / 2).toNatClampNeg)))) a0 8 ((st a0 8) &&& (((st a0 8) &&& (st 3 (((st a0 0) / 2).toNatClampNeg))) ^^^ (-1))))).bind fun y52 => (if ((st a0 0) / 2) < 0 ∨ 10 ≤ ((st a0 0) / 2).toNatClampNeg then none else ((zf_Ca_firstOf N ((y52.2 a0 9) &&& (y52.2 2 (((st a0 0) / 2).toNatClampNeg))) ((st 1 3) - y52.1) y52.2).bind fun y70 => zf_Ca_exchange_124 N (zp (zp (zp y70.2 a0 12 y70.1) a0 8 ((y70.2 a0 8) ||| y70.1)) a0 9 ((y70.2 a0 9) &&& (y70.1 ^^^ (-1))))))) else (if ((st a0 0) / 2) = 0 then zf_Ca_exchange_124 N (zp (zp (zp (zp st a0 10 ((st a0 8) &&& (st 3 (((st a0 0) / 2).toNatClampNeg)))) a0 8 ((st a0 8) &&& (((st a0 8) &&& (st 3 (((st a0 0) / 2).toNatClampNeg))) ^^^ (-1)))) a0 11 ((st a0 8) &&& (((st a0 8) &&& (st 3 (((st a0 0) / 2).toNatClampNeg))) ^^^ (-1)))) a0 8 0) else zf_Ca_exchange_124 N (zp (zp st a0 10 ((st a0 8) &&& (st 3 (((st a0 0) / 2).toNatClampNeg)))) a0 8 ((st a0 8) &&& (((st a0 8) &&& (st 3 (((st a0 0) / 2).toNatClampNeg))) ^^^ (-1)))))))
set_option maxHeartbeats 4000000 in
theorem zl_Ca_exchange_0 (F : zw_X p m c zo_Ca_exchange 4 s args zR2 E 10 A meth none) {N : Nat} {rst : zS} (a0 : Nat) (st : zS) (k0 : zw_kind a0 = 2) (h : zf_Ca_exchange N a0 st = some rst) : zw_G p l e zrm_Ca_exchange s m args below meth c (MQ below (zw_Q E none rst A) args s 0 0 A) E A 4 0 0 [some (.ref a0), some (.ref 1), none, none] [] st := by
  unfold zf_Ca_exchange at h
  refine zg_aload_n F.1 zd_Ca_exchange_0 rfl rfl ?_
  refine zg_getI2 F.1 (by decide) k0 0 (by decide) (st a0 0) rfl rfl zwf_Ca_9 zd_Ca_exchange_1 ?_
  refine zg_iconst F.1 2 2 (by decide) zd_Ca_exchange_4 ?_
  refine zg_idiv F.1 zd_Ca_exchange_5 (by decide) ?_
  refine zg_istore_n F.1 [some (.ref a0), some (.ref 1), some (.int ((st a0 0) / 2)), none] zd_Ca_exchange_6 rfl (by decide) rfl ?_
  refine zg_aload_n F.1 zd_Ca_exchange_7 rfl rfl ?_
  refine zg_aload_n F.1 zd_Ca_exchange_8 rfl rfl ?_
  refine zg_getI2 F.1 (by decide) k0 8 (by decide) (st a0 8) rfl rfl zwf_Ca_37 zd_Ca_exchange_9 ?_
  refine zg_aload_n F.1 zd_Ca_exchange_12 rfl rfl ?_
  refine zg_getR1 F.1 (by decide) rfl 1 (by decide) 3 rfl zwf_Ca_67 zd_Ca_exchange_13 ?_
  refine zg_iload_n F.1 zd_Ca_exchange_16 rfl rfl ?_
  by_cases hi17 : ((st a0 0) / 2) < 0 ∨ 10 ≤ ((st a0 0) / 2).toNatClampNeg
  case pos => rw [if_pos hi17] at h; cases h
  rw [if_neg hi17] at h
  refine zg_ald5 F.1 (by decide) rfl hi17 (((st a0 0) / 2).toNatClampNeg) rfl (st 3 (((st a0 0) / 2).toNatClampNeg)) rfl zd_Ca_exchange_17 ?_
  refine zg_iand F.1 zd_Ca_exchange_18 ?_
  refine zg_putI2 F.1 (by decide) k0 10 (by decide) (Or.inr (Or.inr (Or.inr (Or.inr (Or.inr (Or.inr (Or.inr (Or.inr (Or.inr (Or.inr (Or.inl rfl))))))))))) .int (by decide) rfl rfl rfl zwf_Ca_97 zd_Ca_exchange_19 ?_
  refine zg_aload_n F.1 zd_Ca_exchange_22 rfl rfl ?_
  refine zg_dup F.1 zd_Ca_exchange_23 rfl ?_
  refine zg_getI2 F.1 (by decide) k0 8 (by decide) (st a0 8) rfl (zp_o _ _ (by decide)) zwf_Ca_37 zd_Ca_exchange_24 ?_
  refine zg_aload_n F.1 zd_Ca_exchange_27 rfl rfl ?_
  refine zg_getI2 F.1 (by decide) k0 10 (by decide) ((st a0 8) &&& (st 3 (((st a0 0) / 2).toNatClampNeg))) rfl (zp_s _ _ _ _) zwf_Ca_97 zd_Ca_exchange_28 ?_
  refine zg_iconst F.1 (-1) (-1) (by decide) zd_Ca_exchange_31 ?_
  refine zg_ixor F.1 zd_Ca_exchange_32 ?_
  refine zg_iand F.1 zd_Ca_exchange_33 ?_
  refine zg_putI2 F.1 (by decide) k0 8 (by decide) (Or.inr (Or.inr (Or.inr (Or.inr (Or.inr (Or.inr (Or.inr (Or.inr (Or.inl rfl))))))))) .int (by decide) rfl rfl rfl zwf_Ca_37 zd_Ca_exchange_34 ?_
  refine zg_aload_n F.1 zd_Ca_exchange_37 rfl rfl ?_
  refine zg_getI1 F.1 (by decide) rfl 4 (by decide) (st 1 4) rfl ((zp_q _ _ (zw_kne k0 (by decide))).trans (zp_q _ _ (zw_kne k0 (by decide)))) zwf_Ca_46 zd_Ca_exchange_38 ?_
  refine zg_if_ne F.1 107 zd_Ca_exchange_41 rfl (fun hc => ?_) (fun hc => ?_)
  · rw [if_neg hc] at h
    refine zg_iload_n F.1 zd_Ca_exchange_107 rfl rfl ?_
    refine zg_if_ne F.1 124 zd_Ca_exchange_108 rfl (fun hc => ?_) (fun hc => ?_)
    · rw [if_neg hc] at h
      exact zg_le (zw_len (zw_len (zw_len (zw_les zw_le0)))) (zl_Ca_exchange_124 F (zp (zp st a0 10 ((st a0 8) &&& (st 3 (((st a0 0) / 2).toNatClampNeg)))) a0 8 ((st a0 8) &&& (((st a0 8) &&& (st 3 (((st a0 0) / 2).toNatClampNeg))) ^^^ (-1)))) h)
    · rw [if_pos hc] at h
      refine zg_aload_n F.1 zd_Ca_exchange_111 rfl rfl ?_
      refine zg_aload_n F.1 zd_Ca_exchange_112 rfl rfl ?_
      refine zg_getI2 F.1 (by decide) k0 8 (by decide) ((st a0 8) &&& (((st a0 8) &&& (st 3 (((st a0 0) / 2).toNatClampNeg))) ^^^ (-1))) rfl (zp_s _ _ _ _) zwf_Ca_37 zd_Ca_exchange_113 ?_
      refine zg_putI2 F.1 (by decide) k0 11 (by decide) (Or.inr (Or.inr (Or.inr (Or.inr (Or.inr (Or.inr (Or.inr (Or.inr (Or.inr (Or.inr (Or.inr (Or.inl rfl)))))))))))) .int (by decide) rfl rfl rfl zwf_Ca_100 zd_Ca_exchange_116 ?_
      refine zg_aload_n F.1 zd_Ca_exchange_119 rfl rfl ?_
      refine zg_iconst F.1 0 0 (by decide) zd_Ca_exchange_120 ?_
      refine zg_putI2 F.1 (by decide) k0 8 (by decide) (Or.inr (Or.inr (Or.inr (Or.inr (Or.inr (Or.inr (Or.inr (Or.inr (Or.inl rfl))))))))) .int (by decide) rfl rfl rfl zwf_Ca_37 zd_Ca_exchange_121 ?_
      exact zg_le (zw_len (zw_len (zw_len (zw_les zw_le0)))) (zl_Ca_exchange_124 F (zp (zp (zp (zp st a0 10 ((st a0 8) &&& (st 3 (((st a0 0) / 2).toNatClampNeg)))) a0 8 ((st a0 8) &&& (((st a0 8) &&& (st 3 (((st a0 0) / 2).toNatClampNeg))) ^^^ (-1)))) a0 11 ((st a0 8) &&& (((st a0 8) &&& (st 3 (((st a0 0) / 2).toNatClampNeg))) ^^^ (-1)))) a0 8 0) h)
  · rw [if_pos hc] at h
    refine zg_aload_n F.1 zd_Ca_exchange_44 rfl rfl ?_
    refine zg_getI1 F.1 (by decide) rfl 3 (by decide) (st 1 3) rfl ((zp_q _ _ (zw_kne k0 (by decide))).trans (zp_q _ _ (zw_kne k0 (by decide)))) zwf_Ca_61 zd_Ca_exchange_45 ?_
    refine zg_aload_n F.1 zd_Ca_exchange_48 rfl rfl ?_
    refine zg_getI2 F.1 (by decide) k0 8 (by decide) ((st a0 8) &&& (((st a0 8) &&& (st 3 (((st a0 0) / 2).toNatClampNeg))) ^^^ (-1))) rfl (zp_s _ _ _ _) zwf_Ca_37 zd_Ca_exchange_49 ?_
    obtain ⟨y52, hc52, h⟩ := Option.bind_eq_some_iff.mp h
    refine zg_callS F (As := [.int ((st a0 8) &&& (((st a0 8) &&& (st 3 (((st a0 0) / 2).toNatClampNeg))) ^^^ (-1)))]) (rest := [.int (st 1 3)]) (zk_In_bitCount F.1.2.2 N ((st a0 8) &&& (((st a0 8) &&& (st 3 (((st a0 0) / 2).toNatClampNeg))) ^^^ (-1))) (zp (zp st a0 10 ((st a0 8) &&& (st 3 (((st a0 0) / 2).toNatClampNeg)))) a0 8 ((st a0 8) &&& (((st a0 8) &&& (st 3 (((st a0 0) / 2).toNatClampNeg))) ^^^ (-1)))) hc52) rfl rfl zcal_In_bitCount zml_Ca_55 ⟨(Nat.le_of_ble_eq_true rfl), (Nat.le_of_ble_eq_true rfl)⟩ rfl (Nat.le_of_ble_eq_true rfl) ⟨(Nat.le_of_ble_eq_true rfl), (Nat.le_of_ble_eq_true rfl)⟩ zd_Ca_exchange_52 ?_
    refine zg_isub F.1 zd_Ca_exchange_55 ?_
    refine zg_istore_n F.1 [some (.ref a0), some (.ref 1), some (.int ((st a0 0) / 2)), some (.int ((st 1 3) - y52.1))] zd_Ca_exchange_56 rfl (by decide) rfl ?_
    refine zg_aload_n F.1 zd_Ca_exchange_57 rfl rfl ?_
    refine zg_aload_n F.1 zd_Ca_exchange_58 rfl rfl ?_
    refine zg_getI2 F.1 (by decide) k0 9 (by decide) (y52.2 a0 9) rfl rfl zwf_Ca_40 zd_Ca_exchange_59 ?_
    refine zg_aload_n F.1 zd_Ca_exchange_62 rfl rfl ?_
    refine zg_getR1 F.1 (by decide) rfl 0 (by decide) 2 rfl zwf_Ca_71 zd_Ca_exchange_63 ?_
    refine zg_iload_n F.1 zd_Ca_exchange_66 rfl rfl ?_
    by_cases hi67 : ((st a0 0) / 2) < 0 ∨ 10 ≤ ((st a0 0) / 2).toNatClampNeg
    case pos => rw [if_pos hi67] at h; cases h
    rw [if_neg hi67] at h
    refine zg_ald5 F.1 (by decide) rfl hi67 (((st a0 0) / 2).toNatClampNeg) rfl (y52.2 2 (((st a0 0) / 2).toNatClampNeg)) rfl zd_Ca_exchange_67 ?_
    refine zg_iand F.1 zd_Ca_exchange_68 ?_
    refine zg_iload_n F.1 zd_Ca_exchange_69 rfl rfl ?_
    obtain ⟨y70, hc70, h⟩ := Option.bind_eq_some_iff.mp h
    refine zg_callS F (As := [.int ((y52.2 a0 9) &&& (y52.2 2 (((st a0 0) / 2).toNatClampNeg))), .int ((st 1 3) - y52.1)]) (rest := [.ref a0]) (zk_Ca_firstOf F.1.2.2 N ((y52.2 a0 9) &&& (y52.2 2 (((st a0 0) / 2).toNatClampNeg))) ((st 1 3) - y52.1) y52.2 hc70) rfl rfl zcal_Ca_firstOf zml_Ca_113 ⟨(Nat.le_of_ble_eq_true rfl), (Nat.le_of_ble_eq_true rfl)⟩ rfl (Nat.le_of_ble_eq_true rfl) ⟨(Nat.le_of_ble_eq_true rfl), (Nat.le_of_ble_eq_true rfl)⟩ zd_Ca_exchange_70 ?_
    refine zg_putI2 F.1 (by decide) k0 12 (by decide) (Or.inr (Or.inr (Or.inr (Or.inr (Or.inr (Or.inr (Or.inr (Or.inr (Or.inr (Or.inr (Or.inr (Or.inr rfl)))))))))))) .int (by decide) rfl rfl rfl zwf_Ca_103 zd_Ca_exchange_73 ?_
    refine zg_aload_n F.1 zd_Ca_exchange_76 rfl rfl ?_
    refine zg_dup F.1 zd_Ca_exchange_77 rfl ?_
    refine zg_getI2 F.1 (by decide) k0 8 (by decide) (y70.2 a0 8) rfl (zp_o _ _ (by decide)) zwf_Ca_37 zd_Ca_exchange_78 ?_
    refine zg_aload_n F.1 zd_Ca_exchange_81 rfl rfl ?_
    refine zg_getI2 F.1 (by decide) k0 12 (by decide) y70.1 rfl (zp_s _ _ _ _) zwf_Ca_103 zd_Ca_exchange_82 ?_
    refine zg_ior F.1 zd_Ca_exchange_85 ?_
    refine zg_putI2 F.1 (by decide) k0 8 (by decide) (Or.inr (Or.inr (Or.inr (Or.inr (Or.inr (Or.inr (Or.inr (Or.inr (Or.inl rfl))))))))) .int (by decide) rfl rfl rfl zwf_Ca_37 zd_Ca_exchange_86 ?_
    refine zg_aload_n F.1 zd_Ca_exchange_89 rfl rfl ?_
    refine zg_dup F.1 zd_Ca_exchange_90 rfl ?_
    refine zg_getI2 F.1 (by decide) k0 9 (by decide) (y70.2 a0 9) rfl ((zp_o _ _ (by decide)).trans (zp_o _ _ (by decide))) zwf_Ca_40 zd_Ca_exchange_91 ?_
    refine zg_aload_n F.1 zd_Ca_exchange_94 rfl rfl ?_
    refine zg_getI2 F.1 (by decide) k0 12 (by decide) y70.1 rfl ((zp_o _ _ (by decide)).trans (zp_s _ _ _ _)) zwf_Ca_103 zd_Ca_exchange_95 ?_
    refine zg_iconst F.1 (-1) (-1) (by decide) zd_Ca_exchange_98 ?_
    refine zg_ixor F.1 zd_Ca_exchange_99 ?_
    refine zg_iand F.1 zd_Ca_exchange_100 ?_
    refine zg_putI2 F.1 (by decide) k0 9 (by decide) (Or.inr (Or.inr (Or.inr (Or.inr (Or.inr (Or.inr (Or.inr (Or.inr (Or.inr (Or.inl rfl)))))))))) .int (by decide) rfl rfl rfl zwf_Ca_40 zd_Ca_exchange_101 ?_
    refine zg_goto F.1 124 zd_Ca_exchange_104 rfl ?_
    exact zg_le (zw_len (zw_len (zw_len (zw_len zw_le0)))) (zl_Ca_exchange_124 F (zp (zp (zp y70.2 a0 12 y70.1) a0 8 ((y70.2 a0 8) ||| y70.1)) a0 9 ((y70.2 a0 9) &&& (y70.1 ^^^ (-1)))) h)
theorem zk_Ca_exchange {E : zE} (hn : zw_n E 10) (N : Nat) (a0 : Nat) (st : zS) (k0 : zw_kind a0 = 2) {rst : zS} (h : zf_Ca_exchange N a0 st = some rst) : zw_M l zy_Ca_exchange (Cond.code zy_Ca_exchange zo_Ca_exchange 4 none :: zwAll) zrm_Ca_exchange E [.ref a0, .ref 1] st none rst :=
  zw_enter (by decide) rfl hn (Nat.le_of_ble_eq_true rfl) (by simp [Value.category]) 2 (fun p e s m args below meth c A F => zl_Ca_exchange_0 F a0 st k0 h)
set_option maxRecDepth 100000 in
theorem zcal_Ca_stopSet : zw_cal zR2 zy_Ca_stopSet zo_Ca_stopSet 5 (some .int) 1 := ⟨zw_at 317 rfl rfl, zw_at 318 rfl rfl, zw_at 49 rfl rfl, zw_at 319 rfl rfl, rfl, by decide, by decide, by decide +kernel⟩
set_option maxRecDepth 100000 in
theorem zml_Ca_74 : Cond.methodLink zR2 74 zy_Ca_stopSet ∈ zwAll := zw_at 316 rfl rfl
set_option maxRecDepth 100000 in
theorem zcal_Ca_openOrMove : zw_cal zR2 zy_Ca_openOrMove zo_Ca_openOrMove 2 none 1 := ⟨zw_at 329 rfl rfl, zw_at 9 rfl rfl, zw_at 49 rfl rfl, zw_at 330 rfl rfl, rfl, by decide, by decide, by decide +kernel⟩
set_option maxRecDepth 100000 in
theorem zml_Ca_78 : Cond.methodLink zR2 78 zy_Ca_openOrMove ∈ zwAll := zw_at 327 rfl rfl
set_option maxRecDepth 100000 in
theorem zcal_Ca_exchange : zw_cal zR2 zy_Ca_exchange zo_Ca_exchange 4 none 1 := ⟨zw_at 345 rfl rfl, zw_at 13 rfl rfl, zw_at 49 rfl rfl, zw_at 346 rfl rfl, rfl, by decide, by decide, by decide +kernel⟩
set_option maxRecDepth 100000 in
theorem zml_Ca_86 : Cond.methodLink zR2 86 zy_Ca_exchange ∈ zwAll := zw_at 343 rfl rfl
set_option maxRecDepth 100000 in
theorem zcal_Ca_stayOpen : zw_cal zR2 zy_Ca_stayOpen zo_Ca_stayOpen 3 none 1 := ⟨zw_at 352 rfl rfl, zw_at 14 rfl rfl, zw_at 49 rfl rfl, zw_at 353 rfl rfl, rfl, by decide, by decide, by decide +kernel⟩
set_option maxRecDepth 100000 in
theorem zml_Ca_90 : Cond.methodLink zR2 90 zy_Ca_stayOpen ∈ zwAll := zw_at 350 rfl rfl
set_option maxRecDepth 100000 in
theorem zcal_Ca_shutFurther : zw_cal zR2 zy_Ca_shutFurther zo_Ca_shutFurther 1 none 0 := ⟨zw_at 356 rfl rfl, zw_at 15 rfl rfl, zw_at 49 rfl rfl, zw_at 357 rfl rfl, rfl, by decide, by decide, by decide +kernel⟩
set_option maxRecDepth 100000 in
theorem zml_Ca_94 : Cond.methodLink zR2 94 zy_Ca_shutFurther ∈ zwAll := zw_at 354 rfl rfl
abbrev zrm_Ca_advance : Room := { frames := 2, cells := 0, slots := 0, locals := 47 }
def zf_Ca_advance_146 (N : Nat)   (st : zS) : Option zS := some st
set_option maxHeartbeats 4000000 in
theorem zl_Ca_advance_146 (F : zw_X p m c zo_Ca_advance 2 s args zR2 E 10 A meth none) {N : Nat} {rst : zS}    (st : zS)  (h : zf_Ca_advance_146 N   st = some rst) : zw_G p l e zrm_Ca_advance s m args below meth c (MQ below (zw_Q E none rst A) args s 0 0 A) E A 2 0 146 [none, none] [] st := by
  unfold zf_Ca_advance_146 at h
  cases h
  exact zg_vret F zd_Ca_advance_146
def zf_Ca_advance_113 (N : Nat)  (s0 : Int32) (s1 : Nat) (st : zS) : Option zS := ((zf_Ca_stayOpen N s1 s0 st).bind fun t113 => zf_Ca_advance_146 N t113)
set_option maxHeartbeats 4000000 in
theorem zl_Ca_advance_113 (F : zw_X p m c zo_Ca_advance 2 s args zR2 E 10 A meth none) {N : Nat} {rst : zS}   (s0 : Int32) (s1 : Nat) (st : zS) (h1 : zw_kind s1 = 2) (h : zf_Ca_advance_113 N  s0 s1 st = some rst) : zw_G p l e zrm_Ca_advance s m args below meth c (MQ below (zw_Q E none rst A) args s 0 0 A) E A 2 0 113 [none, none] [.int s0, .ref s1] st := by
  unfold zf_Ca_advance_113 at h
  obtain ⟨t113, hc113, h⟩ := Option.bind_eq_some_iff.mp h
  refine zg_callV F (As := [.int s0]) (rest := []) (zk_Ca_stayOpen F.1.2.2 N s1 s0 st h1 hc113) rfl rfl zcal_Ca_stayOpen zml_Ca_90 ⟨(Nat.le_of_ble_eq_true rfl), (Nat.le_of_ble_eq_true rfl)⟩ (zg_rec2 F.1 (by decide) h1) rfl (Nat.le_of_ble_eq_true rfl) ⟨(Nat.le_of_ble_eq_true rfl), (Nat.le_of_ble_eq_true rfl)⟩ zd_Ca_advance_113 ?_
  refine zg_goto F.1 146 zd_Ca_advance_116 rfl ?_
  exact zl_Ca_advance_146 F t113 h
def zf_Ca_advance_112 (N : Nat)  (s0 : Nat) (st : zS) : Option zS := zf_Ca_advance_113 N 0 s0 st
set_option maxHeartbeats 4000000 in
theorem zl_Ca_advance_112 (F : zw_X p m c zo_Ca_advance 2 s args zR2 E 10 A meth none) {N : Nat} {rst : zS}   (s0 : Nat) (st : zS) (h0 : zw_kind s0 = 2) (h : zf_Ca_advance_112 N  s0 st = some rst) : zw_G p l e zrm_Ca_advance s m args below meth c (MQ below (zw_Q E none rst A) args s 0 0 A) E A 2 0 112 [none, none] [.ref s0] st := by
  unfold zf_Ca_advance_112 at h
  refine zg_iconst F.1 0 0 (by decide) zd_Ca_advance_112 ?_
  exact zl_Ca_advance_113 F 0 s0 st h0 h
def zf_Ca_advance (N : Nat) (a0 : Nat) (st : zS) : Option zS := ((zf_Ca_forgetMoved N a0 st).bind fun t1 => (if (t1 a0 2) = 0 then ((zf_Ca_stopSet N a0 t1).bind fun y43 => ((zf_Ca_openOrMove N a0 y43.1 y43.2).bind fun t46 => zf_Ca_advance_146 N t46)) else (if (t1 a0 2) = 1 then (if ((t1 a0 3) - 1) = 0 then ((zf_Ca_turnDoor N a0 2 4 (zp t1 a0 3 ((t1 a0 3) - 1))).bind fun t72 => ((zf_Ca_exchange N a0 (zp t72 a0 4 0)).bind fun t82 => zf_Ca_advance_146 N t82)) else zf_Ca_advance_146 N (zp t1 a0 3 ((t1 a0 3) - 1))) else (if (t1 a0 2) = 2 then ((zf_Ca_exchange N a0 t1).bind fun t90 => (if (t90 1 4) = 0 then zf_Ca_advance_112 N a0 t90 else (if (t90 a0 0) = 0 then zf_Ca_advance_113 N 1 a0 t90 else zf_Ca_advance_112 N a0 t90))) else (if (t1 a0 2) = 3 then (if (t1 a0 7) = 0 then ((zf_Ca_shutFurther N a0 t1).bind fun t136 => zf_Ca_advance_146 N t136) else ((zf_Ca_turnDoor N a0 1 3 t1).bind fun t129 => zf_Ca_advance_146 N t129)) else ((zf_Ca_shutFurther N a0 t1).bind fun t143 => zf_Ca_advance_146 N t143))))))
set_option maxHeartbeats 4000000 in
theorem zl_Ca_advance_0 (F : zw_X p m c zo_Ca_advance 2 s args zR2 E 10 A meth none) {N : Nat} {rst : zS} (a0 : Nat) (st : zS) (k0 : zw_kind a0 = 2) (h : zf_Ca_advance N a0 st = some rst) : zw_G p l e zrm_Ca_advance s m args below meth c (MQ below (zw_Q E none rst A) args s 0 0 A) E A 2 0 0 [some (.ref a0), some (.ref 1)] [] st := by
  unfold zf_Ca_advance at h
  refine zg_aload_n F.1 zd_Ca_advance_0 rfl rfl ?_
  obtain ⟨t1, hc1, h⟩ := Option.bind_eq_some_iff.mp h
  refine zg_callV F (As := []) (rest := []) (zk_Ca_forgetMoved F.1.2.2 N a0 st k0 hc1) rfl rfl zcal_Ca_forgetMoved zml_Ca_43 ⟨(Nat.le_of_ble_eq_true rfl), (Nat.le_of_ble_eq_true rfl)⟩ (zg_rec2 F.1 (by decide) k0) rfl (Nat.le_of_ble_eq_true rfl) ⟨(Nat.le_of_ble_eq_true rfl), (Nat.le_of_ble_eq_true rfl)⟩ zd_Ca_advance_1 ?_
  refine zg_aload_n F.1 zd_Ca_advance_4 rfl rfl ?_
  refine zg_getI2 F.1 (by decide) k0 2 (by decide) (t1 a0 2) rfl rfl zwf_Ca_18 zd_Ca_advance_5 ?_
  by_cases hc0 : (t1 a0 2) = 0
  · rw [if_pos hc0] at h
    refine zg_tabIn F.1 40 zd_Ca_advance_8 (by rw [hc0]; decide) (by rw [hc0]; decide) (by rw [hc0]; rfl) rfl ?_
    refine zg_aload_n F.1 zd_Ca_advance_40 rfl rfl ?_
    refine zg_aload_n F.1 zd_Ca_advance_41 rfl rfl ?_
    refine zg_aload_n F.1 zd_Ca_advance_42 rfl rfl ?_
    obtain ⟨y43, hc43, h⟩ := Option.bind_eq_some_iff.mp h
    refine zg_callV F (As := [.ref 1]) (rest := [.ref a0]) (zk_Ca_stopSet F.1.2.2 N a0 t1 k0 hc43) rfl rfl zcal_Ca_stopSet zml_Ca_74 ⟨(Nat.le_of_ble_eq_true rfl), (Nat.le_of_ble_eq_true rfl)⟩ (zg_rec2 F.1 (by decide) k0) rfl (Nat.le_of_ble_eq_true rfl) ⟨(Nat.le_of_ble_eq_true rfl), (Nat.le_of_ble_eq_true rfl)⟩ zd_Ca_advance_43 ?_
    obtain ⟨t46, hc46, h⟩ := Option.bind_eq_some_iff.mp h
    refine zg_callV F (As := [.int y43.1]) (rest := []) (zk_Ca_openOrMove F.1.2.2 N a0 y43.1 y43.2 k0 hc46) rfl rfl zcal_Ca_openOrMove zml_Ca_78 ⟨(Nat.le_of_ble_eq_true rfl), (Nat.le_of_ble_eq_true rfl)⟩ (zg_rec2 F.1 (by decide) k0) rfl (Nat.le_of_ble_eq_true rfl) ⟨(Nat.le_of_ble_eq_true rfl), (Nat.le_of_ble_eq_true rfl)⟩ zd_Ca_advance_46 ?_
    refine zg_goto F.1 146 zd_Ca_advance_49 rfl ?_
    exact zg_le (zw_len (zw_len zw_le0)) (zl_Ca_advance_146 F t46 h)
  · rw [if_neg hc0] at h
    by_cases hc1 : (t1 a0 2) = 1
    · rw [if_pos hc1] at h
      refine zg_tabIn F.1 52 zd_Ca_advance_8 (by rw [hc1]; decide) (by rw [hc1]; decide) (by rw [hc1]; rfl) rfl ?_
      refine zg_aload_n F.1 zd_Ca_advance_52 rfl rfl ?_
      refine zg_dup F.1 zd_Ca_advance_53 rfl ?_
      refine zg_getI2 F.1 (by decide) k0 3 (by decide) (t1 a0 3) rfl rfl zwf_Ca_21 zd_Ca_advance_54 ?_
      refine zg_iconst F.1 1 1 (by decide) zd_Ca_advance_57 ?_
      refine zg_isub F.1 zd_Ca_advance_58 ?_
      refine zg_putI2 F.1 (by decide) k0 3 (by decide) (Or.inr (Or.inr (Or.inr (Or.inl rfl)))) .int (by decide) rfl rfl rfl zwf_Ca_21 zd_Ca_advance_59 ?_
      refine zg_aload_n F.1 zd_Ca_advance_62 rfl rfl ?_
      refine zg_getI2 F.1 (by decide) k0 3 (by decide) ((t1 a0 3) - 1) rfl (zp_s _ _ _ _) zwf_Ca_21 zd_Ca_advance_63 ?_
      refine zg_if_ne F.1 146 zd_Ca_advance_66 rfl (fun hc => ?_) (fun hc => ?_)
      · rw [if_neg hc] at h
        exact zg_le (zw_len (zw_len zw_le0)) (zl_Ca_advance_146 F (zp t1 a0 3 ((t1 a0 3) - 1)) h)
      · rw [if_pos hc] at h
        refine zg_aload_n F.1 zd_Ca_advance_69 rfl rfl ?_
        refine zg_iconst F.1 2 2 (by decide) zd_Ca_advance_70 ?_
        refine zg_iconst F.1 4 4 (by decide) zd_Ca_advance_71 ?_
        obtain ⟨t72, hc72, h⟩ := Option.bind_eq_some_iff.mp h
        refine zg_callV F (As := [.int 2, .int 4]) (rest := []) (zk_Ca_turnDoor F.1.2.2 N a0 2 4 (zp t1 a0 3 ((t1 a0 3) - 1)) k0 hc72) rfl rfl zcal_Ca_turnDoor zml_Ca_82 ⟨(Nat.le_of_ble_eq_true rfl), (Nat.le_of_ble_eq_true rfl)⟩ (zg_rec2 F.1 (by decide) k0) rfl (Nat.le_of_ble_eq_true rfl) ⟨(Nat.le_of_ble_eq_true rfl), (Nat.le_of_ble_eq_true rfl)⟩ zd_Ca_advance_72 ?_
        refine zg_aload_n F.1 zd_Ca_advance_75 rfl rfl ?_
        refine zg_iconst F.1 0 0 (by decide) zd_Ca_advance_76 ?_
        refine zg_putI2 F.1 (by decide) k0 4 (by decide) (Or.inr (Or.inr (Or.inr (Or.inr (Or.inl rfl))))) .int (by decide) rfl rfl rfl zwf_Ca_24 zd_Ca_advance_77 ?_
        refine zg_aload_n F.1 zd_Ca_advance_80 rfl rfl ?_
        refine zg_aload_n F.1 zd_Ca_advance_81 rfl rfl ?_
        obtain ⟨t82, hc82, h⟩ := Option.bind_eq_some_iff.mp h
        refine zg_callV F (As := [.ref 1]) (rest := []) (zk_Ca_exchange F.1.2.2 N a0 (zp t72 a0 4 0) k0 hc82) rfl rfl zcal_Ca_exchange zml_Ca_86 ⟨(Nat.le_of_ble_eq_true rfl), (Nat.le_of_ble_eq_true rfl)⟩ (zg_rec2 F.1 (by decide) k0) rfl (Nat.le_of_ble_eq_true rfl) ⟨(Nat.le_of_ble_eq_true rfl), (Nat.le_of_ble_eq_true rfl)⟩ zd_Ca_advance_82 ?_
        refine zg_goto F.1 146 zd_Ca_advance_85 rfl ?_
        exact zg_le (zw_len (zw_len zw_le0)) (zl_Ca_advance_146 F t82 h)
    · rw [if_neg hc1] at h
      by_cases hc2 : (t1 a0 2) = 2
      · rw [if_pos hc2] at h
        refine zg_tabIn F.1 88 zd_Ca_advance_8 (by rw [hc2]; decide) (by rw [hc2]; decide) (by rw [hc2]; rfl) rfl ?_
        refine zg_aload_n F.1 zd_Ca_advance_88 rfl rfl ?_
        refine zg_aload_n F.1 zd_Ca_advance_89 rfl rfl ?_
        obtain ⟨t90, hc90, h⟩ := Option.bind_eq_some_iff.mp h
        refine zg_callV F (As := [.ref 1]) (rest := []) (zk_Ca_exchange F.1.2.2 N a0 t1 k0 hc90) rfl rfl zcal_Ca_exchange zml_Ca_86 ⟨(Nat.le_of_ble_eq_true rfl), (Nat.le_of_ble_eq_true rfl)⟩ (zg_rec2 F.1 (by decide) k0) rfl (Nat.le_of_ble_eq_true rfl) ⟨(Nat.le_of_ble_eq_true rfl), (Nat.le_of_ble_eq_true rfl)⟩ zd_Ca_advance_90 ?_
        refine zg_aload_n F.1 zd_Ca_advance_93 rfl rfl ?_
        refine zg_aload_n F.1 zd_Ca_advance_94 rfl rfl ?_
        refine zg_getI1 F.1 (by decide) rfl 4 (by decide) (t90 1 4) rfl rfl zwf_Ca_46 zd_Ca_advance_95 ?_
        refine zg_if_eq F.1 112 zd_Ca_advance_98 rfl (fun hc => ?_) (fun hc => ?_)
        · rw [if_pos hc] at h
          exact zg_le (zw_len (zw_len zw_le0)) (zl_Ca_advance_112 F a0 t90 k0 h)
        · rw [if_neg hc] at h
          refine zg_aload_n F.1 zd_Ca_advance_101 rfl rfl ?_
          refine zg_getI2 F.1 (by decide) k0 0 (by decide) (t90 a0 0) rfl rfl zwf_Ca_9 zd_Ca_advance_102 ?_
          refine zg_if_ne F.1 112 zd_Ca_advance_105 rfl (fun hc => ?_) (fun hc => ?_)
          · rw [if_neg hc] at h
            exact zg_le (zw_len (zw_len zw_le0)) (zl_Ca_advance_112 F a0 t90 k0 h)
          · rw [if_pos hc] at h
            refine zg_iconst F.1 1 1 (by decide) zd_Ca_advance_108 ?_
            refine zg_goto F.1 113 zd_Ca_advance_109 rfl ?_
            exact zg_le (zw_len (zw_len zw_le0)) (zl_Ca_advance_113 F 1 a0 t90 k0 h)
      · rw [if_neg hc2] at h
        by_cases hc3 : (t1 a0 2) = 3
        · rw [if_pos hc3] at h
          refine zg_tabIn F.1 119 zd_Ca_advance_8 (by rw [hc3]; decide) (by rw [hc3]; decide) (by rw [hc3]; rfl) rfl ?_
          refine zg_aload_n F.1 zd_Ca_advance_119 rfl rfl ?_
          refine zg_getI2 F.1 (by decide) k0 7 (by decide) (t1 a0 7) rfl rfl zwf_Ca_34 zd_Ca_advance_120 ?_
          refine zg_if_eq F.1 135 zd_Ca_advance_123 rfl (fun hc => ?_) (fun hc => ?_)
          · rw [if_pos hc] at h
            refine zg_aload_n F.1 zd_Ca_advance_135 rfl rfl ?_
            obtain ⟨t136, hc136, h⟩ := Option.bind_eq_some_iff.mp h
            refine zg_callV F (As := []) (rest := []) (zk_Ca_shutFurther F.1.2.2 N a0 t1 k0 hc136) rfl rfl zcal_Ca_shutFurther zml_Ca_94 ⟨(Nat.le_of_ble_eq_true rfl), (Nat.le_of_ble_eq_true rfl)⟩ (zg_rec2 F.1 (by decide) k0) rfl (Nat.le_of_ble_eq_true rfl) ⟨(Nat.le_of_ble_eq_true rfl), (Nat.le_of_ble_eq_true rfl)⟩ zd_Ca_advance_136 ?_
            refine zg_goto F.1 146 zd_Ca_advance_139 rfl ?_
            exact zg_le (zw_len (zw_len zw_le0)) (zl_Ca_advance_146 F t136 h)
          · rw [if_neg hc] at h
            refine zg_aload_n F.1 zd_Ca_advance_126 rfl rfl ?_
            refine zg_iconst F.1 1 1 (by decide) zd_Ca_advance_127 ?_
            refine zg_iconst F.1 3 3 (by decide) zd_Ca_advance_128 ?_
            obtain ⟨t129, hc129, h⟩ := Option.bind_eq_some_iff.mp h
            refine zg_callV F (As := [.int 1, .int 3]) (rest := []) (zk_Ca_turnDoor F.1.2.2 N a0 1 3 t1 k0 hc129) rfl rfl zcal_Ca_turnDoor zml_Ca_82 ⟨(Nat.le_of_ble_eq_true rfl), (Nat.le_of_ble_eq_true rfl)⟩ (zg_rec2 F.1 (by decide) k0) rfl (Nat.le_of_ble_eq_true rfl) ⟨(Nat.le_of_ble_eq_true rfl), (Nat.le_of_ble_eq_true rfl)⟩ zd_Ca_advance_129 ?_
            refine zg_goto F.1 146 zd_Ca_advance_132 rfl ?_
            exact zg_le (zw_len (zw_len zw_le0)) (zl_Ca_advance_146 F t129 h)
        · rw [if_neg hc3] at h
          refine zg_tabOut F.1 142 zd_Ca_advance_8 (zw_sw0_3 hc0 hc1 hc2 hc3) rfl ?_
          refine zg_aload_n F.1 zd_Ca_advance_142 rfl rfl ?_
          obtain ⟨t143, hc143, h⟩ := Option.bind_eq_some_iff.mp h
          refine zg_callV F (As := []) (rest := []) (zk_Ca_shutFurther F.1.2.2 N a0 t1 k0 hc143) rfl rfl zcal_Ca_shutFurther zml_Ca_94 ⟨(Nat.le_of_ble_eq_true rfl), (Nat.le_of_ble_eq_true rfl)⟩ (zg_rec2 F.1 (by decide) k0) rfl (Nat.le_of_ble_eq_true rfl) ⟨(Nat.le_of_ble_eq_true rfl), (Nat.le_of_ble_eq_true rfl)⟩ zd_Ca_advance_143 ?_
          exact zg_le (zw_len (zw_len zw_le0)) (zl_Ca_advance_146 F t143 h)
theorem zk_Ca_advance {E : zE} (hn : zw_n E 10) (N : Nat) (a0 : Nat) (st : zS) (k0 : zw_kind a0 = 2) {rst : zS} (h : zf_Ca_advance N a0 st = some rst) : zw_M l zy_Ca_advance (Cond.code zy_Ca_advance zo_Ca_advance 2 none :: zwAll) zrm_Ca_advance E [.ref a0, .ref 1] st none rst :=
  zw_enter (by decide) rfl hn (Nat.le_of_ble_eq_true rfl) (by simp [Value.category]) 0 (fun p e s m args below meth c A F => zl_Ca_advance_0 F a0 st k0 h)
end ZC3
