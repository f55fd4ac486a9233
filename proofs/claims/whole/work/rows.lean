section
-- ===== PART A: goes FIRST, ahead of the names: the tables' words, and 'selects' of the private methods out of them =====
/-- a private method of a class that the tables say can be made, by its rows of tables_1 -/
def lw_okq (q : MethodName × Nat) : Prop := (q.1.cls ≠ "java/lang/invoke/MethodHandle" ∧ q.1.cls ≠ "java/lang/invoke/VarHandle") ∧ Cond.instantiable q.1.cls q.2 ∈ tables_1 ∧ Cond.privateMethod q.1 ∈ tables_1 ∧ Cond.instanceMethod q.1 ∈ tables_1
theorem lw_p0 : lw_okq (⟨"LiftGroup", "startAnew", "(III)V"⟩, 12) := ⟨⟨by decide +kernel, by decide +kernel⟩, List.mem_of_getElem? (i := 18) (by decide +kernel), List.mem_of_getElem? (i := 174) (by decide +kernel), List.mem_of_getElem? (i := 175) (by decide +kernel)⟩
theorem lw_p1 : lw_okq (⟨"LiftGroup$Car", "forgetMoved", "()V"⟩, 13) := ⟨⟨by decide +kernel, by decide +kernel⟩, List.mem_of_getElem? (i := 57) (by decide +kernel), List.mem_of_getElem? (i := 186) (by decide +kernel), List.mem_of_getElem? (i := 187) (by decide +kernel)⟩
theorem lw_p2 : lw_okq (⟨"LiftGroup", "takeCarsFromWaiting", "()V"⟩, 12) := ⟨⟨by decide +kernel, by decide +kernel⟩, List.mem_of_getElem? (i := 18) (by decide +kernel), List.mem_of_getElem? (i := 231) (by decide +kernel), List.mem_of_getElem? (i := 232) (by decide +kernel)⟩
theorem lw_p3 : lw_okq (⟨"LiftGroup", "takeWaitingFor", "(LLiftGroup$Car;)I"⟩, 12) := ⟨⟨by decide +kernel, by decide +kernel⟩, List.mem_of_getElem? (i := 18) (by decide +kernel), List.mem_of_getElem? (i := 235) (by decide +kernel), List.mem_of_getElem? (i := 236) (by decide +kernel)⟩
theorem lw_p4 : lw_okq (⟨"LiftGroup", "takeWaitingForNone", "()I"⟩, 12) := ⟨⟨by decide +kernel, by decide +kernel⟩, List.mem_of_getElem? (i := 18) (by decide +kernel), List.mem_of_getElem? (i := 239) (by decide +kernel), List.mem_of_getElem? (i := 240) (by decide +kernel)⟩
theorem lw_p5 : lw_okq (⟨"LiftGroup", "chooseForAll", "(I)V"⟩, 12) := ⟨⟨by decide +kernel, by decide +kernel⟩, List.mem_of_getElem? (i := 18) (by decide +kernel), List.mem_of_getElem? (i := 243) (by decide +kernel), List.mem_of_getElem? (i := 244) (by decide +kernel)⟩
theorem lw_p6 : lw_okq (⟨"LiftGroup", "chooseCar", "(I)V"⟩, 12) := ⟨⟨by decide +kernel, by decide +kernel⟩, List.mem_of_getElem? (i := 18) (by decide +kernel), List.mem_of_getElem? (i := 247) (by decide +kernel), List.mem_of_getElem? (i := 248) (by decide +kernel)⟩
theorem lw_p7 : lw_okq (⟨"LiftGroup", "isUsable", "(LLiftGroup$Car;)Z"⟩, 12) := ⟨⟨by decide +kernel, by decide +kernel⟩, List.mem_of_getElem? (i := 18) (by decide +kernel), List.mem_of_getElem? (i := 251) (by decide +kernel), List.mem_of_getElem? (i := 252) (by decide +kernel)⟩
theorem lw_p8 : lw_okq (⟨"LiftGroup", "worstWith", "(LLiftGroup$Car;I)I"⟩, 12) := ⟨⟨by decide +kernel, by decide +kernel⟩, List.mem_of_getElem? (i := 18) (by decide +kernel), List.mem_of_getElem? (i := 255) (by decide +kernel), List.mem_of_getElem? (i := 256) (by decide +kernel)⟩
theorem lw_p9 : lw_okq (⟨"LiftGroup$Car", "openOrMove", "(I)V"⟩, 13) := ⟨⟨by decide +kernel, by decide +kernel⟩, List.mem_of_getElem? (i := 57) (by decide +kernel), List.mem_of_getElem? (i := 282) (by decide +kernel), List.mem_of_getElem? (i := 283) (by decide +kernel)⟩
theorem lw_p10 : lw_okq (⟨"LiftGroup$Car", "turnDoor", "(II)V"⟩, 13) := ⟨⟨by decide +kernel, by decide +kernel⟩, List.mem_of_getElem? (i := 57) (by decide +kernel), List.mem_of_getElem? (i := 286) (by decide +kernel), List.mem_of_getElem? (i := 287) (by decide +kernel)⟩
theorem lw_p11 : lw_okq (⟨"LiftGroup$Car", "towardsNearest", "(I)I"⟩, 13) := ⟨⟨by decide +kernel, by decide +kernel⟩, List.mem_of_getElem? (i := 57) (by decide +kernel), List.mem_of_getElem? (i := 290) (by decide +kernel), List.mem_of_getElem? (i := 291) (by decide +kernel)⟩
theorem lw_p12 : lw_okq (⟨"LiftGroup$Car", "liesAhead", "(I)Z"⟩, 13) := ⟨⟨by decide +kernel, by decide +kernel⟩, List.mem_of_getElem? (i := 57) (by decide +kernel), List.mem_of_getElem? (i := 294) (by decide +kernel), List.mem_of_getElem? (i := 295) (by decide +kernel)⟩
theorem lw_p13 : lw_okq (⟨"LiftGroup$Car", "exchange", "(LLiftGroup$House;)V"⟩, 13) := ⟨⟨by decide +kernel, by decide +kernel⟩, List.mem_of_getElem? (i := 57) (by decide +kernel), List.mem_of_getElem? (i := 298) (by decide +kernel), List.mem_of_getElem? (i := 299) (by decide +kernel)⟩
theorem lw_p14 : lw_okq (⟨"LiftGroup$Car", "stayOpen", "(Z)V"⟩, 13) := ⟨⟨by decide +kernel, by decide +kernel⟩, List.mem_of_getElem? (i := 57) (by decide +kernel), List.mem_of_getElem? (i := 305) (by decide +kernel), List.mem_of_getElem? (i := 306) (by decide +kernel)⟩
theorem lw_p15 : lw_okq (⟨"LiftGroup$Car", "shutFurther", "()V"⟩, 13) := ⟨⟨by decide +kernel, by decide +kernel⟩, List.mem_of_getElem? (i := 57) (by decide +kernel), List.mem_of_getElem? (i := 309) (by decide +kernel), List.mem_of_getElem? (i := 310) (by decide +kernel)⟩
def lw_privs_1 : List (MethodName × Nat) := [(⟨"LiftGroup", "startAnew", "(III)V"⟩, 12), (⟨"LiftGroup$Car", "forgetMoved", "()V"⟩, 13), (⟨"LiftGroup", "takeCarsFromWaiting", "()V"⟩, 12), (⟨"LiftGroup", "takeWaitingFor", "(LLiftGroup$Car;)I"⟩, 12), (⟨"LiftGroup", "takeWaitingForNone", "()I"⟩, 12), (⟨"LiftGroup", "chooseForAll", "(I)V"⟩, 12), (⟨"LiftGroup", "chooseCar", "(I)V"⟩, 12), (⟨"LiftGroup", "isUsable", "(LLiftGroup$Car;)Z"⟩, 12), (⟨"LiftGroup", "worstWith", "(LLiftGroup$Car;I)I"⟩, 12), (⟨"LiftGroup$Car", "openOrMove", "(I)V"⟩, 13), (⟨"LiftGroup$Car", "turnDoor", "(II)V"⟩, 13), (⟨"LiftGroup$Car", "towardsNearest", "(I)I"⟩, 13), (⟨"LiftGroup$Car", "liesAhead", "(I)Z"⟩, 13), (⟨"LiftGroup$Car", "exchange", "(LLiftGroup$House;)V"⟩, 13), (⟨"LiftGroup$Car", "stayOpen", "(Z)V"⟩, 13), (⟨"LiftGroup$Car", "shutFurther", "()V"⟩, 13)]
theorem lw_r1 : ∀ q ∈ lw_privs_1, lw_okq q := List.forall_mem_cons.mpr ⟨lw_p0, List.forall_mem_cons.mpr ⟨lw_p1, List.forall_mem_cons.mpr ⟨lw_p2, List.forall_mem_cons.mpr ⟨lw_p3, List.forall_mem_cons.mpr ⟨lw_p4, List.forall_mem_cons.mpr ⟨lw_p5, List.forall_mem_cons.mpr ⟨lw_p6, List.forall_mem_cons.mpr ⟨lw_p7, List.forall_mem_cons.mpr ⟨lw_p8, List.forall_mem_cons.mpr ⟨lw_p9, List.forall_mem_cons.mpr ⟨lw_p10, List.forall_mem_cons.mpr ⟨lw_p11, List.forall_mem_cons.mpr ⟨lw_p12, List.forall_mem_cons.mpr ⟨lw_p13, List.forall_mem_cons.mpr ⟨lw_p14, List.forall_mem_cons.mpr ⟨lw_p15, fun _ h => absurd h List.not_mem_nil⟩⟩⟩⟩⟩⟩⟩⟩⟩⟩⟩⟩⟩⟩⟩⟩
theorem lw_p16 : lw_okq (⟨"java/lang/Throwable", "fillInStackTrace", "(I)Ljava/lang/Throwable;"⟩, 6) := ⟨⟨by decide +kernel, by decide +kernel⟩, List.mem_of_getElem? (i := 369) (by decide +kernel), List.mem_of_getElem? (i := 367) (by decide +kernel), List.mem_of_getElem? (i := 368) (by decide +kernel)⟩
theorem lw_p17 : lw_okq (⟨"LiftGroup", "isFloor", "(I)Z"⟩, 12) := ⟨⟨by decide +kernel, by decide +kernel⟩, List.mem_of_getElem? (i := 18) (by decide +kernel), List.mem_of_getElem? (i := 410) (by decide +kernel), List.mem_of_getElem? (i := 411) (by decide +kernel)⟩
theorem lw_p18 : lw_okq (⟨"LiftGroup", "anyUsable", "()Z"⟩, 12) := ⟨⟨by decide +kernel, by decide +kernel⟩, List.mem_of_getElem? (i := 18) (by decide +kernel), List.mem_of_getElem? (i := 415) (by decide +kernel), List.mem_of_getElem? (i := 416) (by decide +kernel)⟩
theorem lw_p19 : lw_okq (⟨"LiftGroup", "noteExchange", "(I)V"⟩, 12) := ⟨⟨by decide +kernel, by decide +kernel⟩, List.mem_of_getElem? (i := 18) (by decide +kernel), List.mem_of_getElem? (i := 467) (by decide +kernel), List.mem_of_getElem? (i := 468) (by decide +kernel)⟩
theorem lw_p20 : lw_okq (⟨"LiftGroup", "noteAll", "(III)V"⟩, 12) := ⟨⟨by decide +kernel, by decide +kernel⟩, List.mem_of_getElem? (i := 18) (by decide +kernel), List.mem_of_getElem? (i := 471) (by decide +kernel), List.mem_of_getElem? (i := 472) (by decide +kernel)⟩
theorem lw_p21 : lw_okq (⟨"LiftGroup", "changeRider", "(LLiftGroup$Rider;I)V"⟩, 12) := ⟨⟨by decide +kernel, by decide +kernel⟩, List.mem_of_getElem? (i := 18) (by decide +kernel), List.mem_of_getElem? (i := 475) (by decide +kernel), List.mem_of_getElem? (i := 476) (by decide +kernel)⟩
theorem lw_p22 : lw_okq (⟨"LiftGroup", "carNumbered", "(I)LLiftGroup$Car;"⟩, 12) := ⟨⟨by decide +kernel, by decide +kernel⟩, List.mem_of_getElem? (i := 18) (by decide +kernel), List.mem_of_getElem? (i := 490) (by decide +kernel), List.mem_of_getElem? (i := 491) (by decide +kernel)⟩
theorem lw_p23 : lw_okq (⟨"LiftGroup", "takeWaitingForNoneIfUsable", "(LLiftGroup$Car;)I"⟩, 12) := ⟨⟨by decide +kernel, by decide +kernel⟩, List.mem_of_getElem? (i := 18) (by decide +kernel), List.mem_of_getElem? (i := 517) (by decide +kernel), List.mem_of_getElem? (i := 518) (by decide +kernel)⟩
theorem lw_p24 : lw_okq (⟨"LiftGroup", "riderNumbered", "(I)LLiftGroup$Rider;"⟩, 12) := ⟨⟨by decide +kernel, by decide +kernel⟩, List.mem_of_getElem? (i := 18) (by decide +kernel), List.mem_of_getElem? (i := 560) (by decide +kernel), List.mem_of_getElem? (i := 561) (by decide +kernel)⟩
theorem lw_p25 : lw_okq (⟨"LiftGroupModel", "refuse", "(ZZ)Z"⟩, 23) := ⟨⟨by decide +kernel, by decide +kernel⟩, List.mem_of_getElem? (i := 614) (by decide +kernel), List.mem_of_getElem? (i := 702) (by decide +kernel), List.mem_of_getElem? (i := 703) (by decide +kernel)⟩
theorem lw_p26 : lw_okq (⟨"LiftGroupModel", "isUsable", "(I)Z"⟩, 23) := ⟨⟨by decide +kernel, by decide +kernel⟩, List.mem_of_getElem? (i := 614) (by decide +kernel), List.mem_of_getElem? (i := 710) (by decide +kernel), List.mem_of_getElem? (i := 711) (by decide +kernel)⟩
theorem lw_p27 : lw_okq (⟨"LiftGroupModel", "choose", "(I)V"⟩, 23) := ⟨⟨by decide +kernel, by decide +kernel⟩, List.mem_of_getElem? (i := 614) (by decide +kernel), List.mem_of_getElem? (i := 714) (by decide +kernel), List.mem_of_getElem? (i := 715) (by decide +kernel)⟩
theorem lw_p28 : lw_okq (⟨"LiftGroupModel", "worstOf", "(I)I"⟩, 23) := ⟨⟨by decide +kernel, by decide +kernel⟩, List.mem_of_getElem? (i := 614) (by decide +kernel), List.mem_of_getElem? (i := 718) (by decide +kernel), List.mem_of_getElem? (i := 719) (by decide +kernel)⟩
theorem lw_p29 : lw_okq (⟨"LiftGroupModel", "isRider", "(I)Z"⟩, 23) := ⟨⟨by decide +kernel, by decide +kernel⟩, List.mem_of_getElem? (i := 614) (by decide +kernel), List.mem_of_getElem? (i := 722) (by decide +kernel), List.mem_of_getElem? (i := 723) (by decide +kernel)⟩
theorem lw_p30 : lw_okq (⟨"LiftGroupModel", "promiseOf", "(I)I"⟩, 23) := ⟨⟨by decide +kernel, by decide +kernel⟩, List.mem_of_getElem? (i := 614) (by decide +kernel), List.mem_of_getElem? (i := 726) (by decide +kernel), List.mem_of_getElem? (i := 727) (by decide +kernel)⟩
theorem lw_p31 : lw_okq (⟨"LiftGroupModel", "copy", "(I)V"⟩, 23) := ⟨⟨by decide +kernel, by decide +kernel⟩, List.mem_of_getElem? (i := 614) (by decide +kernel), List.mem_of_getElem? (i := 730) (by decide +kernel), List.mem_of_getElem? (i := 731) (by decide +kernel)⟩
def lw_privs_2 : List (MethodName × Nat) := [(⟨"java/lang/Throwable", "fillInStackTrace", "(I)Ljava/lang/Throwable;"⟩, 6), (⟨"LiftGroup", "isFloor", "(I)Z"⟩, 12), (⟨"LiftGroup", "anyUsable", "()Z"⟩, 12), (⟨"LiftGroup", "noteExchange", "(I)V"⟩, 12), (⟨"LiftGroup", "noteAll", "(III)V"⟩, 12), (⟨"LiftGroup", "changeRider", "(LLiftGroup$Rider;I)V"⟩, 12), (⟨"LiftGroup", "carNumbered", "(I)LLiftGroup$Car;"⟩, 12), (⟨"LiftGroup", "takeWaitingForNoneIfUsable", "(LLiftGroup$Car;)I"⟩, 12), (⟨"LiftGroup", "riderNumbered", "(I)LLiftGroup$Rider;"⟩, 12), (⟨"LiftGroupModel", "refuse", "(ZZ)Z"⟩, 23), (⟨"LiftGroupModel", "isUsable", "(I)Z"⟩, 23), (⟨"LiftGroupModel", "choose", "(I)V"⟩, 23), (⟨"LiftGroupModel", "worstOf", "(I)I"⟩, 23), (⟨"LiftGroupModel", "isRider", "(I)Z"⟩, 23), (⟨"LiftGroupModel", "promiseOf", "(I)I"⟩, 23), (⟨"LiftGroupModel", "copy", "(I)V"⟩, 23)]
theorem lw_r2 : ∀ q ∈ lw_privs_2, lw_okq q := List.forall_mem_cons.mpr ⟨lw_p16, List.forall_mem_cons.mpr ⟨lw_p17, List.forall_mem_cons.mpr ⟨lw_p18, List.forall_mem_cons.mpr ⟨lw_p19, List.forall_mem_cons.mpr ⟨lw_p20, List.forall_mem_cons.mpr ⟨lw_p21, List.forall_mem_cons.mpr ⟨lw_p22, List.forall_mem_cons.mpr ⟨lw_p23, List.forall_mem_cons.mpr ⟨lw_p24, List.forall_mem_cons.mpr ⟨lw_p25, List.forall_mem_cons.mpr ⟨lw_p26, List.forall_mem_cons.mpr ⟨lw_p27, List.forall_mem_cons.mpr ⟨lw_p28, List.forall_mem_cons.mpr ⟨lw_p29, List.forall_mem_cons.mpr ⟨lw_p30, List.forall_mem_cons.mpr ⟨lw_p31, fun _ h => absurd h List.not_mem_nil⟩⟩⟩⟩⟩⟩⟩⟩⟩⟩⟩⟩⟩⟩⟩⟩
theorem lw_p32 : lw_okq (⟨"LiftGroupModel", "stepCar", "(II)V"⟩, 23) := ⟨⟨by decide +kernel, by decide +kernel⟩, List.mem_of_getElem? (i := 614) (by decide +kernel), List.mem_of_getElem? (i := 734) (by decide +kernel), List.mem_of_getElem? (i := 735) (by decide +kernel)⟩
theorem lw_p33 : lw_okq (⟨"LiftGroupModel", "closed", "(II)V"⟩, 23) := ⟨⟨by decide +kernel, by decide +kernel⟩, List.mem_of_getElem? (i := 614) (by decide +kernel), List.mem_of_getElem? (i := 738) (by decide +kernel), List.mem_of_getElem? (i := 739) (by decide +kernel)⟩
theorem lw_p34 : lw_okq (⟨"LiftGroupModel", "isThere", "(I)Z"⟩, 23) := ⟨⟨by decide +kernel, by decide +kernel⟩, List.mem_of_getElem? (i := 614) (by decide +kernel), List.mem_of_getElem? (i := 742) (by decide +kernel), List.mem_of_getElem? (i := 743) (by decide +kernel)⟩
theorem lw_p35 : lw_okq (⟨"LiftGroupModel", "isStop", "(III)Z"⟩, 23) := ⟨⟨by decide +kernel, by decide +kernel⟩, List.mem_of_getElem? (i := 614) (by decide +kernel), List.mem_of_getElem? (i := 746) (by decide +kernel), List.mem_of_getElem? (i := 747) (by decide +kernel)⟩
theorem lw_p36 : lw_okq (⟨"LiftGroupModel", "aboard", "(II)I"⟩, 23) := ⟨⟨by decide +kernel, by decide +kernel⟩, List.mem_of_getElem? (i := 614) (by decide +kernel), List.mem_of_getElem? (i := 750) (by decide +kernel), List.mem_of_getElem? (i := 751) (by decide +kernel)⟩
theorem lw_p37 : lw_okq (⟨"LiftGroupModel", "nearest", "(II)I"⟩, 23) := ⟨⟨by decide +kernel, by decide +kernel⟩, List.mem_of_getElem? (i := 614) (by decide +kernel), List.mem_of_getElem? (i := 754) (by decide +kernel), List.mem_of_getElem? (i := 755) (by decide +kernel)⟩
theorem lw_p38 : lw_okq (⟨"LiftGroupModel", "hasStop", "(III)Z"⟩, 23) := ⟨⟨by decide +kernel, by decide +kernel⟩, List.mem_of_getElem? (i := 614) (by decide +kernel), List.mem_of_getElem? (i := 758) (by decide +kernel), List.mem_of_getElem? (i := 759) (by decide +kernel)⟩
theorem lw_p39 : lw_okq (⟨"LiftGroupModel", "exchange", "(II)V"⟩, 23) := ⟨⟨by decide +kernel, by decide +kernel⟩, List.mem_of_getElem? (i := 614) (by decide +kernel), List.mem_of_getElem? (i := 762) (by decide +kernel), List.mem_of_getElem? (i := 763) (by decide +kernel)⟩
theorem lw_p40 : lw_okq (⟨"LiftGroupModel", "leave", "(IIZ)V"⟩, 23) := ⟨⟨by decide +kernel, by decide +kernel⟩, List.mem_of_getElem? (i := 614) (by decide +kernel), List.mem_of_getElem? (i := 766) (by decide +kernel), List.mem_of_getElem? (i := 767) (by decide +kernel)⟩
theorem lw_p41 : lw_okq (⟨"LiftGroupModel", "note", "(III)V"⟩, 23) := ⟨⟨by decide +kernel, by decide +kernel⟩, List.mem_of_getElem? (i := 614) (by decide +kernel), List.mem_of_getElem? (i := 770) (by decide +kernel), List.mem_of_getElem? (i := 771) (by decide +kernel)⟩
theorem lw_p42 : lw_okq (⟨"LiftGroupModel", "open", "(II)V"⟩, 23) := ⟨⟨by decide +kernel, by decide +kernel⟩, List.mem_of_getElem? (i := 614) (by decide +kernel), List.mem_of_getElem? (i := 774) (by decide +kernel), List.mem_of_getElem? (i := 775) (by decide +kernel)⟩
theorem lw_p43 : lw_okq (⟨"LiftGroupModel", "noCar", "(I)Z"⟩, 23) := ⟨⟨by decide +kernel, by decide +kernel⟩, List.mem_of_getElem? (i := 614) (by decide +kernel), List.mem_of_getElem? (i := 786) (by decide +kernel), List.mem_of_getElem? (i := 787) (by decide +kernel)⟩
theorem lw_p44 : lw_okq (⟨"LiftGroupModel", "changed", "(IZ)V"⟩, 23) := ⟨⟨by decide +kernel, by decide +kernel⟩, List.mem_of_getElem? (i := 614) (by decide +kernel), List.mem_of_getElem? (i := 794) (by decide +kernel), List.mem_of_getElem? (i := 795) (by decide +kernel)⟩
theorem lw_p45 : lw_okq (⟨"LiftGroupModel", "chooseFor", "(I)V"⟩, 23) := ⟨⟨by decide +kernel, by decide +kernel⟩, List.mem_of_getElem? (i := 614) (by decide +kernel), List.mem_of_getElem? (i := 798) (by decide +kernel), List.mem_of_getElem? (i := 799) (by decide +kernel)⟩
def lw_privs_3 : List (MethodName × Nat) := [(⟨"LiftGroupModel", "stepCar", "(II)V"⟩, 23), (⟨"LiftGroupModel", "closed", "(II)V"⟩, 23), (⟨"LiftGroupModel", "isThere", "(I)Z"⟩, 23), (⟨"LiftGroupModel", "isStop", "(III)Z"⟩, 23), (⟨"LiftGroupModel", "aboard", "(II)I"⟩, 23), (⟨"LiftGroupModel", "nearest", "(II)I"⟩, 23), (⟨"LiftGroupModel", "hasStop", "(III)Z"⟩, 23), (⟨"LiftGroupModel", "exchange", "(II)V"⟩, 23), (⟨"LiftGroupModel", "leave", "(IIZ)V"⟩, 23), (⟨"LiftGroupModel", "note", "(III)V"⟩, 23), (⟨"LiftGroupModel", "open", "(II)V"⟩, 23), (⟨"LiftGroupModel", "noCar", "(I)Z"⟩, 23), (⟨"LiftGroupModel", "changed", "(IZ)V"⟩, 23), (⟨"LiftGroupModel", "chooseFor", "(I)V"⟩, 23)]
theorem lw_r3 : ∀ q ∈ lw_privs_3, lw_okq q := List.forall_mem_cons.mpr ⟨lw_p32, List.forall_mem_cons.mpr ⟨lw_p33, List.forall_mem_cons.mpr ⟨lw_p34, List.forall_mem_cons.mpr ⟨lw_p35, List.forall_mem_cons.mpr ⟨lw_p36, List.forall_mem_cons.mpr ⟨lw_p37, List.forall_mem_cons.mpr ⟨lw_p38, List.forall_mem_cons.mpr ⟨lw_p39, List.forall_mem_cons.mpr ⟨lw_p40, List.forall_mem_cons.mpr ⟨lw_p41, List.forall_mem_cons.mpr ⟨lw_p42, List.forall_mem_cons.mpr ⟨lw_p43, List.forall_mem_cons.mpr ⟨lw_p44, List.forall_mem_cons.mpr ⟨lw_p45, fun _ h => absurd h List.not_mem_nil⟩⟩⟩⟩⟩⟩⟩⟩⟩⟩⟩⟩⟩⟩
def lw_privs : List (MethodName × Nat) := lw_privs_1 ++ (lw_privs_2 ++ (lw_privs_3))
def lw_tbl : List Cond := k2_sels lw_privs ++ tables_1
theorem lw_privs_ok : ∀ q ∈ lw_privs, lw_okq q := by
  show ∀ q ∈ lw_privs_1 ++ (lw_privs_2 ++ (lw_privs_3)), lw_okq q
  exact List.forall_mem_append.mpr ⟨lw_r1, List.forall_mem_append.mpr ⟨lw_r2, lw_r3⟩⟩
end
section
def zR0 : String := "LiftGroup"
def zT0 : u_T := fun k => match k with
  | 0 => ("LiftGroup", "house", "LLiftGroup$House;", true)
  | 1 => ("LiftGroup", "cars", "[LLiftGroup$Car;", true)
  | 2 => ("LiftGroup", "trial", "LLiftGroup$Car;", true)
  | 3 => ("LiftGroup", "riders", "[LLiftGroup$Rider;", true)
  | 4 => ("LiftGroup", "log", "LLiftGroup$Log;", true)
  | 5 => ("LiftGroup", "carCount", "I", false)
  | 6 => ("LiftGroup", "riderCount", "I", false)
  | 7 => ("LiftGroup", "waitingForNone", "I", false)
  | 8 => ("LiftGroup", "stepCount", "I", false)
  | 9 => ("LiftGroup", "arrivedCount", "I", false)
  | 10 => ("LiftGroup", "longestRide", "I", false)
  | _ => ("LiftGroup", "allRides", "I", false)
def zY0 : Nat → FieldType := fun k => match k with
  | 0 => .object "LiftGroup$House"
  | 1 => .array (.object "LiftGroup$Car")
  | 2 => .object "LiftGroup$Car"
  | 3 => .array (.object "LiftGroup$Rider")
  | 4 => .object "LiftGroup$Log"
  | 5 => .int
  | 6 => .int
  | 7 => .int
  | 8 => .int
  | 9 => .int
  | 10 => .int
  | _ => .int
def zR1 : String := "LiftGroup$House"
def zT1 : u_T := fun k => match k with
  | 0 => ("LiftGroup$House", "startingAt", "[I", true)
  | 1 => ("LiftGroup$House", "goingTo", "[I", true)
  | 2 => ("LiftGroup$House", "floors", "I", false)
  | 3 => ("LiftGroup$House", "places", "I", false)
  | _ => ("LiftGroup$House", "recalled", "Z", false)
def zY1 : Nat → FieldType := fun k => match k with
  | 0 => .array .int
  | 1 => .array .int
  | 2 => .int
  | 3 => .int
  | _ => .boolean
def zR2 : String := "LiftGroup$Car"
def zT2 : u_T := fun k => match k with
  | 0 => ("LiftGroup$Car", "height", "I", false)
  | 1 => ("LiftGroup$Car", "direction", "I", false)
  | 2 => ("LiftGroup$Car", "door", "I", false)
  | 3 => ("LiftGroup$Car", "left", "I", false)
  | 4 => ("LiftGroup$Car", "stepsOpen", "I", false)
  | 5 => ("LiftGroup$Car", "locked", "Z", false)
  | 6 => ("LiftGroup$Car", "failed", "Z", false)
  | 7 => ("LiftGroup$Car", "curtainBroken", "Z", false)
  | 8 => ("LiftGroup$Car", "aboard", "I", false)
  | 9 => ("LiftGroup$Car", "waiting", "I", false)
  | 10 => ("LiftGroup$Car", "arrived", "I", false)
  | 11 => ("LiftGroup$Car", "putOut", "I", false)
  | _ => ("LiftGroup$Car", "boarded", "I", false)
def zY2 : Nat → FieldType := fun k => match k with
  | 0 => .int
  | 1 => .int
  | 2 => .int
  | 3 => .int
  | 4 => .int
  | 5 => .boolean
  | 6 => .boolean
  | 7 => .boolean
  | 8 => .int
  | 9 => .int
  | 10 => .int
  | 11 => .int
  | _ => .int
def zR3 : String := "LiftGroup$Rider"
def zT3 : u_T := fun k => match k with
  | 0 => ("LiftGroup$Rider", "from", "I", false)
  | 1 => ("LiftGroup$Rider", "to", "I", false)
  | 2 => ("LiftGroup$Rider", "state", "I", false)
  | 3 => ("LiftGroup$Rider", "carNumber", "I", false)
  | 4 => ("LiftGroup$Rider", "calledAt", "I", false)
  | _ => ("LiftGroup$Rider", "ride", "I", false)
def zY3 : Nat → FieldType := fun k => match k with
  | 0 => .int
  | 1 => .int
  | 2 => .int
  | 3 => .int
  | 4 => .int
  | _ => .int
def zR4 : String := "LiftGroup$Log"
def zT4 : u_T := fun k => match k with
  | 0 => ("LiftGroup$Log", "stepNumbers", "[I", true)
  | 1 => ("LiftGroup$Log", "kinds", "[I", true)
  | 2 => ("LiftGroup$Log", "riderNumbers", "[I", true)
  | 3 => ("LiftGroup$Log", "carNumbers", "[I", true)
  | _ => ("LiftGroup$Log", "count", "I", false)
def zY4 : Nat → FieldType := fun k => match k with
  | 0 => .array .int
  | 1 => .array .int
  | 2 => .array .int
  | 3 => .array .int
  | _ => .int
def zR10 : String := "LiftGroupModel"
def zT10 : u_T := fun k => match k with
  | 0 => ("LiftGroupModel", "thrown", "I", false)
  | 1 => ("LiftGroupModel", "floors", "I", false)
  | 2 => ("LiftGroupModel", "cars", "I", false)
  | 3 => ("LiftGroupModel", "places", "I", false)
  | 4 => ("LiftGroupModel", "height", "[I", true)
  | 5 => ("LiftGroupModel", "direction", "[I", true)
  | 6 => ("LiftGroupModel", "door", "[I", true)
  | 7 => ("LiftGroupModel", "left", "[I", true)
  | 8 => ("LiftGroupModel", "opened", "[I", true)
  | 9 => ("LiftGroupModel", "locked", "[Z", true)
  | 10 => ("LiftGroupModel", "failed", "[Z", true)
  | 11 => ("LiftGroupModel", "broken", "[Z", true)
  | 12 => ("LiftGroupModel", "recalled", "Z", false)
  | 13 => ("LiftGroupModel", "state", "[I", true)
  | 14 => ("LiftGroupModel", "carOf", "[I", true)
  | 15 => ("LiftGroupModel", "from", "[I", true)
  | 16 => ("LiftGroupModel", "to", "[I", true)
  | 17 => ("LiftGroupModel", "called", "[I", true)
  | 18 => ("LiftGroupModel", "took", "[I", true)
  | 19 => ("LiftGroupModel", "riders", "I", false)
  | 20 => ("LiftGroupModel", "steps", "I", false)
  | 21 => ("LiftGroupModel", "notes", "[I", true)
  | _ => ("LiftGroupModel", "noted", "I", false)
def zY10 : Nat → FieldType := fun k => match k with
  | 0 => .int
  | 1 => .int
  | 2 => .int
  | 3 => .int
  | 4 => .array .int
  | 5 => .array .int
  | 6 => .array .int
  | 7 => .array .int
  | 8 => .array .int
  | 9 => .array .boolean
  | 10 => .array .boolean
  | 11 => .array .boolean
  | 12 => .boolean
  | 13 => .array .int
  | 14 => .array .int
  | 15 => .array .int
  | 16 => .array .int
  | 17 => .array .int
  | 18 => .array .int
  | 19 => .int
  | 20 => .int
  | 21 => .array .int
  | _ => .int
abbrev zwCl : List vw_C := [(zR0, zT0, 12), (zR1, zT1, 5), (zR2, zT2, 13), (zR3, zT3, 6), (zR4, zT4, 5), (zR10, zT10, 23)]
def zwAll : List Cond := lw_tbl.filter goodWord
theorem zw_mem {w : Cond} (h : w ∈ lw_tbl) (hg : goodWord w = true) : w ∈ zwAll := List.mem_filter.mpr ⟨h, hg⟩
theorem zw_good (w : Cond) (h : w ∈ zwAll) : (w.onTables && w.keeps) = true ∨ ∃ ty, w = .arrayClass ty := good_of_word (List.mem_filter.mp h).2
theorem zw_at (i : Nat) {w : Cond} (h : lw_tbl[i]? = some w) (hg : goodWord w = true) : w ∈ zwAll := zw_mem (List.mem_of_getElem? h) hg
/-! one world: cells 0..39 the class's, 40..55 the reference's, 56 the law's row of one long; a state is a number for each cell and place -/
abbrev zS : Type := Nat → Nat → Int32
def zp (st : zS) (q j : Nat) (v : Int32) : zS := fun a b => if a = q ∧ b = j then v else st a b
theorem zp_s (st : zS) (q j : Nat) (v : Int32) : zp st q j v q j = v := by simp [zp]
theorem zp_o (st : zS) {q j j' : Nat} (v : Int32) (h : j' ≠ j) : zp st q j v q j' = st q j' := by simp [zp, h]
theorem zp_q (st : zS) {q q' j j' : Nat} (v : Int32) (h : q' ≠ q) : zp st q j v q' j' = st q' j' := by simp [zp, h]
theorem zp_row (st : zS) {q q' j : Nat} (v : Int32) (h : q' ≠ q) : zp st q j v q' = st q' := by funext b; simp [zp, h]
theorem zp_upd (st : zS) (q j : Nat) (v : Int32) : zp st q j v q = upd (st q) j v := by funext b; simp [zp, upd]
/-- tables, array classes, addresses, how many cells -/
abbrev zE : Type := va_G × (Nat → ClassId) × (Nat → Nat) × Nat
/-- kinds: 0 LiftGroup 1 House 2 Car 3 Rider 4 Log 5 int[10] 6 Car[4] 7 Rider[24] 8 int[30]; 10 the reference 11 int[5] 12 boolean[5] 13 int[48] 14 int[24] 15 int[120] 16 long[1] -/
def zw_kinds : List Nat := [0, 1, 5, 5, 6, 2, 2, 2, 2, 2, 7, 3, 3, 3, 3, 3, 3, 3, 3, 3, 3, 3, 3, 3, 3, 3, 3, 3, 3, 3, 3, 3, 3, 3, 3, 4, 8, 8, 8, 8, 10, 11, 11, 11, 11, 11, 12, 12, 12, 13, 13, 13, 13, 14, 14, 15, 16]
def zw_kind (q : Nat) : Nat := zw_kinds.getD q 99
theorem zw_kne {q a k : Nat} (h : zw_kind q = k) (h' : zw_kind a ≠ k) : a ≠ q := fun e => h' (by rw [e]; exact h)
theorem zw_kne' {q a k : Nat} (h : zw_kind q = k) (h' : zw_kind a ≠ k) : q ≠ a := fun e => h' (by rw [← e]; exact h)
theorem zw_out {q : Nat} (h : 57 ≤ q) : zw_kind q = 99 := by
  unfold zw_kind
  rw [List.getD_eq_getElem?_getD, List.getElem?_eq_none (show zw_kinds.length ≤ q from h)]
  rfl
theorem zw_lt {q k : Nat} (h : zw_kind q = k) (hk : k ≠ 99) : q < 57 := by
  rcases Nat.lt_or_ge q 57 with h1 | h1
  · exact h1
  · exact absurd (h.symm.trans (zw_out h1)) hk
theorem zw_all {P : Nat → Prop} [DecidablePred P] (h : ∀ q, q < 57 → P q) (h2 : ∀ q, zw_kind q = 99 → P q) : ∀ q, P q := fun q => by
  rcases Nat.lt_or_ge q 57 with h1 | h1
  · exact h q h1
  · exact h2 q (zw_out h1)
theorem zw_car {c : Nat} (h : c < 5) : zw_kind (5 + c) = 2 := by
  have : ∀ c, c < 5 → zw_kind (5 + c) = 2 := by decide
  exact this c h
theorem zw_rider {r : Nat} (h : r < 24) : zw_kind (11 + r) = 3 := by
  have : ∀ r, r < 24 → zw_kind (11 + r) = 3 := by decide
  exact this r h
def zw_n (E : zE) (kM : Nat) : Prop := ∀ q, zw_kind q < kM → q < E.2.2.2
def zw_v (ad : Nat → Nat) : Value → Value
  | .ref q => .ref (ad q)
  | v => v
def zw_entK (E : zE) (st : zS) (q k : Nat) : va_E := match k with
  | 0 => .inr (0, [.ref (E.2.2.1 1), .ref (E.2.2.1 4), .ref (E.2.2.1 9), .ref (E.2.2.1 10), .ref (E.2.2.1 35), .int (st q 5), .int (st q 6), .int (st q 7), .int (st q 8), .int (st q 9), .int (st q 10), .int (st q 11)])
  | 1 => .inr (1, [.ref (E.2.2.1 2), .ref (E.2.2.1 3), .int (st q 2), .int (st q 3), .int (st q 4)])
  | 2 => .inr (2, [.int (st q 0), .int (st q 1), .int (st q 2), .int (st q 3), .int (st q 4), .int (st q 5), .int (st q 6), .int (st q 7), .int (st q 8), .int (st q 9), .int (st q 10), .int (st q 11), .int (st q 12)])
  | 3 => .inr (3, [.int (st q 0), .int (st q 1), .int (st q 2), .int (st q 3), .int (st q 4), .int (st q 5)])
  | 4 => .inr (4, [.ref (E.2.2.1 36), .ref (E.2.2.1 37), .ref (E.2.2.1 38), .ref (E.2.2.1 39), .int (st q 4)])
  | 10 => .inr (5, [.int (st q 0), .int (st q 1), .int (st q 2), .int (st q 3), .ref (E.2.2.1 41), .ref (E.2.2.1 42), .ref (E.2.2.1 43), .ref (E.2.2.1 44), .ref (E.2.2.1 45), .ref (E.2.2.1 46), .ref (E.2.2.1 47), .ref (E.2.2.1 48), .int (st q 12), .ref (E.2.2.1 49), .ref (E.2.2.1 50), .ref (E.2.2.1 51), .ref (E.2.2.1 52), .ref (E.2.2.1 53), .ref (E.2.2.1 54), .int (st q 19), .int (st q 20), .ref (E.2.2.1 55), .int (st q 22)])
  | 5 => .inl (E.2.1 0, 10, .inl (st q))
  | 8 => .inl (E.2.1 0, 30, .inl (st q))
  | 11 => .inl (E.2.1 0, 5, .inl (st q))
  | 12 => .inl (E.2.1 1, 5, .inl (st q))
  | 13 => .inl (E.2.1 0, 48, .inl (st q))
  | 14 => .inl (E.2.1 0, 24, .inl (st q))
  | 15 => .inl (E.2.1 0, 120, .inl (st q))
  | 6 => .inl (E.2.1 2, 4, .inr (.inr (.inr (.inr (fun j => some (E.2.2.1 (5 + j)))))))
  | 7 => .inl (E.2.1 3, 24, .inr (.inr (.inr (.inr (fun j => some (E.2.2.1 (11 + j)))))))
  | 16 => .inl (E.2.1 4, 1, .inr (.inl (fun j => (st q j).toInt64)))
  | _ => .inl (E.2.1 0, 0, .inl (st q))
def zw_ent (E : zE) (st : zS) (q : Nat) : va_E := zw_entK E st q (zw_kind q)
theorem zw_ent0 (E : zE) (st : zS) {q : Nat} (h : zw_kind q = 0) : zw_ent E st q = .inr (0, [.ref (E.2.2.1 1), .ref (E.2.2.1 4), .ref (E.2.2.1 9), .ref (E.2.2.1 10), .ref (E.2.2.1 35), .int (st q 5), .int (st q 6), .int (st q 7), .int (st q 8), .int (st q 9), .int (st q 10), .int (st q 11)]) := by unfold zw_ent; rw [h]; rfl
theorem zw_ent1 (E : zE) (st : zS) {q : Nat} (h : zw_kind q = 1) : zw_ent E st q = .inr (1, [.ref (E.2.2.1 2), .ref (E.2.2.1 3), .int (st q 2), .int (st q 3), .int (st q 4)]) := by unfold zw_ent; rw [h]; rfl
theorem zw_ent2 (E : zE) (st : zS) {q : Nat} (h : zw_kind q = 2) : zw_ent E st q = .inr (2, [.int (st q 0), .int (st q 1), .int (st q 2), .int (st q 3), .int (st q 4), .int (st q 5), .int (st q 6), .int (st q 7), .int (st q 8), .int (st q 9), .int (st q 10), .int (st q 11), .int (st q 12)]) := by unfold zw_ent; rw [h]; rfl
theorem zw_ent3 (E : zE) (st : zS) {q : Nat} (h : zw_kind q = 3) : zw_ent E st q = .inr (3, [.int (st q 0), .int (st q 1), .int (st q 2), .int (st q 3), .int (st q 4), .int (st q 5)]) := by unfold zw_ent; rw [h]; rfl
theorem zw_ent4 (E : zE) (st : zS) {q : Nat} (h : zw_kind q = 4) : zw_ent E st q = .inr (4, [.ref (E.2.2.1 36), .ref (E.2.2.1 37), .ref (E.2.2.1 38), .ref (E.2.2.1 39), .int (st q 4)]) := by unfold zw_ent; rw [h]; rfl
theorem zw_ent10 (E : zE) (st : zS) {q : Nat} (h : zw_kind q = 10) : zw_ent E st q = .inr (5, [.int (st q 0), .int (st q 1), .int (st q 2), .int (st q 3), .ref (E.2.2.1 41), .ref (E.2.2.1 42), .ref (E.2.2.1 43), .ref (E.2.2.1 44), .ref (E.2.2.1 45), .ref (E.2.2.1 46), .ref (E.2.2.1 47), .ref (E.2.2.1 48), .int (st q 12), .ref (E.2.2.1 49), .ref (E.2.2.1 50), .ref (E.2.2.1 51), .ref (E.2.2.1 52), .ref (E.2.2.1 53), .ref (E.2.2.1 54), .int (st q 19), .int (st q 20), .ref (E.2.2.1 55), .int (st q 22)]) := by unfold zw_ent; rw [h]; rfl
theorem zw_ent5 (E : zE) (st : zS) {q : Nat} (h : zw_kind q = 5) : zw_ent E st q = .inl (E.2.1 0, 10, .inl (st q)) := by unfold zw_ent; rw [h]; rfl
theorem zw_ent8 (E : zE) (st : zS) {q : Nat} (h : zw_kind q = 8) : zw_ent E st q = .inl (E.2.1 0, 30, .inl (st q)) := by unfold zw_ent; rw [h]; rfl
theorem zw_ent11 (E : zE) (st : zS) {q : Nat} (h : zw_kind q = 11) : zw_ent E st q = .inl (E.2.1 0, 5, .inl (st q)) := by unfold zw_ent; rw [h]; rfl
theorem zw_ent12 (E : zE) (st : zS) {q : Nat} (h : zw_kind q = 12) : zw_ent E st q = .inl (E.2.1 1, 5, .inl (st q)) := by unfold zw_ent; rw [h]; rfl
theorem zw_ent13 (E : zE) (st : zS) {q : Nat} (h : zw_kind q = 13) : zw_ent E st q = .inl (E.2.1 0, 48, .inl (st q)) := by unfold zw_ent; rw [h]; rfl
theorem zw_ent14 (E : zE) (st : zS) {q : Nat} (h : zw_kind q = 14) : zw_ent E st q = .inl (E.2.1 0, 24, .inl (st q)) := by unfold zw_ent; rw [h]; rfl
theorem zw_ent15 (E : zE) (st : zS) {q : Nat} (h : zw_kind q = 15) : zw_ent E st q = .inl (E.2.1 0, 120, .inl (st q)) := by unfold zw_ent; rw [h]; rfl
theorem zw_ent6 (E : zE) (st : zS) {q : Nat} (h : zw_kind q = 6) : zw_ent E st q = .inl (E.2.1 2, 4, .inr (.inr (.inr (.inr (fun j => some (E.2.2.1 (5 + j))))))) := by unfold zw_ent; rw [h]; rfl
theorem zw_ent7 (E : zE) (st : zS) {q : Nat} (h : zw_kind q = 7) : zw_ent E st q = .inl (E.2.1 3, 24, .inr (.inr (.inr (.inr (fun j => some (E.2.2.1 (11 + j))))))) := by unfold zw_ent; rw [h]; rfl
theorem zw_ent16 (E : zE) (st : zS) {q : Nat} (h : zw_kind q = 16) : zw_ent E st q = .inl (E.2.1 4, 1, .inr (.inl (fun j => (st q j).toInt64))) := by unfold zw_ent; rw [h]; rfl
theorem zw_ent_row (E : zE) {st st' : zS} {q : Nat} (h : st' q = st q) : zw_ent E st' q = zw_ent E st q := by
  unfold zw_ent zw_entK
  split <;> simp only [h]
def zw_ws (E : zE) (st : zS) : va_W := (List.range E.2.2.2).map (fun q => (E.2.2.1 q, zw_ent E st q))
theorem zw_get (E : zE) (st : zS) {q : Nat} (h : q < E.2.2.2) : (zw_ws E st)[q]? = some (E.2.2.1 q, zw_ent E st q) := by
  unfold zw_ws
  rw [List.getElem?_map, List.getElem?_range h]
  rfl
theorem zw_getn (E : zE) (st : zS) {q : Nat} (h : ¬ q < E.2.2.2) : (zw_ws E st)[q]? = none := by
  unfold zw_ws
  rw [List.getElem?_eq_none]
  simp
  omega
theorem zw_set (E : zE) {st st' : zS} {q : Nat} {e : va_E} (h : q < E.2.2.2) (he : zw_ent E st' q = e) (ho : ∀ a, a ≠ q → st' a = st a) : (zw_ws E st).set q (E.2.2.1 q, e) = zw_ws E st' := by
  apply List.ext_getElem?
  intro k
  by_cases hk : k = q
  · subst hk
    rw [List.getElem?_set_self (by unfold zw_ws; simp; exact h), zw_get E st' h, he]
  · rw [List.getElem?_set_ne (Ne.symm hk)]
    by_cases hl : k < E.2.2.2
    · rw [zw_get E st hl, zw_get E st' hl, zw_ent_row E (ho k hk)]
    · rw [zw_getn E st hl, zw_getn E st' hl]
theorem zw_put (E : zE) {st : zS} {q j : Nat} {x : Int32} {e : va_E} (h : q < E.2.2.2) (he : zw_ent E (zp st q j x) q = e) : (zw_ws E st).set q (E.2.2.1 q, e) = zw_ws E (zp st q j x) :=
  zw_set E h he (fun _ ha => zp_row st x ha)
theorem zw_D {E : zE} {A : Nat → Prop} {st : zS} (st' : zS) (h : va_D A (zw_ws E st)) : va_D A (zw_ws E st') := by
  have key : ∀ (st : zS) (i : Nat) (x : Nat × va_E), (zw_ws E st)[i]? = some x → i < E.2.2.2 ∧ x.1 = E.2.2.1 i := by
    intro st i x hx
    by_cases hl : i < E.2.2.2
    · rw [zw_get E st hl] at hx
      cases hx
      exact ⟨hl, rfl⟩
    · rw [zw_getn E st hl] at hx
      cases hx
  refine ⟨fun i j x y hx hy hxy => ?_, fun k x hx => ?_⟩
  · obtain ⟨h1, h2⟩ := key st' i x hx
    obtain ⟨h3, h4⟩ := key st' j y hy
    exact h.1 i j _ _ (zw_get E st h1) (zw_get E st h3) (by show E.2.2.1 i = E.2.2.1 j; rw [← h2, ← h4]; exact hxy)
  · obtain ⟨h1, h2⟩ := key st' k x hx
    rw [h2]
    exact h.2 k _ (zw_get E st h1)
theorem zw_put0 (E : zE) (st : zS) {q j : Nat} (x : Int32) (h : zw_kind q = 0) (hj : j = 5 ∨ j = 6 ∨ j = 7 ∨ j = 8 ∨ j = 9 ∨ j = 10 ∨ j = 11) : zw_ent E (zp st q j x) q = .inr (0, ([.ref (E.2.2.1 1), .ref (E.2.2.1 4), .ref (E.2.2.1 9), .ref (E.2.2.1 10), .ref (E.2.2.1 35), .int (st q 5), .int (st q 6), .int (st q 7), .int (st q 8), .int (st q 9), .int (st q 10), .int (st q 11)] : List Value).set j (.int x)) := by
  rw [zw_ent0 E _ h]
  rcases hj with rfl | rfl | rfl | rfl | rfl | rfl | rfl <;> simp [zp]
theorem zw_put1 (E : zE) (st : zS) {q j : Nat} (x : Int32) (h : zw_kind q = 1) (hj : j = 2 ∨ j = 3 ∨ j = 4) : zw_ent E (zp st q j x) q = .inr (1, ([.ref (E.2.2.1 2), .ref (E.2.2.1 3), .int (st q 2), .int (st q 3), .int (st q 4)] : List Value).set j (.int x)) := by
  rw [zw_ent1 E _ h]
  rcases hj with rfl | rfl | rfl <;> simp [zp]
theorem zw_put2 (E : zE) (st : zS) {q j : Nat} (x : Int32) (h : zw_kind q = 2) (hj : j = 0 ∨ j = 1 ∨ j = 2 ∨ j = 3 ∨ j = 4 ∨ j = 5 ∨ j = 6 ∨ j = 7 ∨ j = 8 ∨ j = 9 ∨ j = 10 ∨ j = 11 ∨ j = 12) : zw_ent E (zp st q j x) q = .inr (2, ([.int (st q 0), .int (st q 1), .int (st q 2), .int (st q 3), .int (st q 4), .int (st q 5), .int (st q 6), .int (st q 7), .int (st q 8), .int (st q 9), .int (st q 10), .int (st q 11), .int (st q 12)] : List Value).set j (.int x)) := by
  rw [zw_ent2 E _ h]
  rcases hj with rfl | rfl | rfl | rfl | rfl | rfl | rfl | rfl | rfl | rfl | rfl | rfl | rfl <;> simp [zp]
theorem zw_put3 (E : zE) (st : zS) {q j : Nat} (x : Int32) (h : zw_kind q = 3) (hj : j = 0 ∨ j = 1 ∨ j = 2 ∨ j = 3 ∨ j = 4 ∨ j = 5) : zw_ent E (zp st q j x) q = .inr (3, ([.int (st q 0), .int (st q 1), .int (st q 2), .int (st q 3), .int (st q 4), .int (st q 5)] : List Value).set j (.int x)) := by
  rw [zw_ent3 E _ h]
  rcases hj with rfl | rfl | rfl | rfl | rfl | rfl <;> simp [zp]
theorem zw_put4 (E : zE) (st : zS) {q j : Nat} (x : Int32) (h : zw_kind q = 4) (hj : j = 4) : zw_ent E (zp st q j x) q = .inr (4, ([.ref (E.2.2.1 36), .ref (E.2.2.1 37), .ref (E.2.2.1 38), .ref (E.2.2.1 39), .int (st q 4)] : List Value).set j (.int x)) := by
  rw [zw_ent4 E _ h]
  subst hj; simp [zp]
theorem zw_put10 (E : zE) (st : zS) {q j : Nat} (x : Int32) (h : zw_kind q = 10) (hj : j = 0 ∨ j = 1 ∨ j = 2 ∨ j = 3 ∨ j = 12 ∨ j = 19 ∨ j = 20 ∨ j = 22) : zw_ent E (zp st q j x) q = .inr (5, ([.int (st q 0), .int (st q 1), .int (st q 2), .int (st q 3), .ref (E.2.2.1 41), .ref (E.2.2.1 42), .ref (E.2.2.1 43), .ref (E.2.2.1 44), .ref (E.2.2.1 45), .ref (E.2.2.1 46), .ref (E.2.2.1 47), .ref (E.2.2.1 48), .int (st q 12), .ref (E.2.2.1 49), .ref (E.2.2.1 50), .ref (E.2.2.1 51), .ref (E.2.2.1 52), .ref (E.2.2.1 53), .ref (E.2.2.1 54), .int (st q 19), .int (st q 20), .ref (E.2.2.1 55), .int (st q 22)] : List Value).set j (.int x)) := by
  rw [zw_ent10 E _ h]
  rcases hj with rfl | rfl | rfl | rfl | rfl | rfl | rfl | rfl <;> simp [zp]
def zw_ty (E : zE) : List (ClassId × FieldType) := [(E.2.1 0, .int), (E.2.1 1, .boolean), (E.2.1 2, .object "LiftGroup$Car"), (E.2.1 3, .object "LiftGroup$Rider"), (E.2.1 4, .long)]
def zw_J (E : zE) (A : Nat → Prop) (H0 : Heap) (st : zS) (H : Heap) (locs : List Loc) : Prop := va_P E.1 zwCl (zw_ws E st) H ∧ va_D A (zw_ws E st) ∧ va_S A H0 H locs
def zw_L (ad : Nat → Nat) (ls : Array Slot) (nL : Nat) (L : List (Option Value)) : Prop := ls.size = nL ∧ lv_wf ls ∧ ∀ (i : Nat) (v : Value), L[i]? = some (some v) → ls[i]? = some (Slot.val (zw_v ad v)) ∧ v.category = 1
theorem zw_cat (ad : Nat → Nat) (v : Value) : (zw_v ad v).category = v.category := by cases v <;> rfl
def zw_lv (ad : Nat → Nat) (L : List (Option Value)) : List (Nat × Value) := (List.range L.length).filterMap (fun i => match L[i]? with
  | some (some v) => some (i, zw_v ad v)
  | _ => none)
theorem zw_lv_in {ad : Nat → Nat} {L : List (Option Value)} {i : Nat} {v : Value} (h : L[i]? = some (some v)) : (i, zw_v ad v) ∈ zw_lv ad L :=
  List.mem_filterMap.mpr ⟨i, List.mem_range.mpr (List.getElem?_eq_some_iff.mp h).1, by rw [h]⟩
theorem zw_lv_of {ad : Nat → Nat} {L : List (Option Value)} {x : Nat × Value} (h : x ∈ zw_lv ad L) : ∃ v, L[x.1]? = some (some v) ∧ x.2 = zw_v ad v := by
  obtain ⟨i, -, hi⟩ := List.mem_filterMap.mp h
  cases hL : L[i]? with
  | none => rw [hL] at hi; cases hi
  | some o =>
    cases o with
    | none => rw [hL] at hi; cases hi
    | some v =>
      rw [hL] at hi
      cases hi
      exact ⟨v, hL, rfl⟩
theorem zw_L.has {ad : Nat → Nat} {ls : Array Slot} {nL : Nat} {L : List (Option Value)} (h : zw_L ad ls nL L) : lv_has ls nL (zw_lv ad L) := ⟨h.1, h.2.1, fun x hx => by
  obtain ⟨v, h1, h2⟩ := zw_lv_of hx
  rw [h2]
  exact (h.2.2 _ _ h1).1⟩
theorem zw_L.put {ad : Nat → Nat} {ls ls' : Array Slot} {nL i : Nat} {L : List (Option Value)} {w : Value} (h : zw_L ad ls nL L) (hw : w.category = 1) (h' : lv_has ls' nL ((i, zw_v ad w) :: (zw_lv ad L).filter (fun q => !(q.1 == i) && !(q.1 + 1 == i && q.2.category == 2)))) : zw_L ad ls' nL (L.set i (some w)) := by
  refine ⟨h'.1, h'.2.1, fun j v hj => ?_⟩
  by_cases hji : j = i
  · subst hji
    by_cases hl : j < L.length
    · rw [List.getElem?_set_self hl] at hj
      cases hj
      exact ⟨h'.2.2 _ List.mem_cons_self, hw⟩
    · rw [List.getElem?_eq_none (by simp; omega)] at hj
      cases hj
  · rw [List.getElem?_set_ne (Ne.symm hji)] at hj
    refine ⟨h'.2.2 (j, zw_v ad v) (List.mem_cons_of_mem _ (List.mem_filter.mpr ⟨zw_lv_in hj, ?_⟩)), (h.2.2 j v hj).2⟩
    have hc := (h.2.2 j v hj).2
    simp [hji, zw_cat, hc]
def zw_le (L' L : List (Option Value)) : Prop := ∀ (i : Nat) (v : Value), L'[i]? = some (some v) → L[i]? = some (some v)
theorem zw_le0 : zw_le [] [] := fun i v h => h
theorem zw_len {L' L : List (Option Value)} {x : Option Value} (h : zw_le L' L) : zw_le (none :: L') (x :: L) := fun i v hi => by
  cases i with
  | zero => cases hi
  | succ i => exact h i v hi
theorem zw_les {L' L : List (Option Value)} {x : Option Value} (h : zw_le L' L) : zw_le (x :: L') (x :: L) := fun i v hi => by
  cases i with
  | zero => exact hi
  | succ i => exact h i v hi
theorem zw_L.le {ad : Nat → Nat} {ls : Array Slot} {nL : Nat} {L L' : List (Option Value)} (h : zw_L ad ls nL L) (hle : zw_le L' L) : zw_L ad ls nL L' := ⟨h.1, h.2.1, fun i v hi => h.2.2 i v (hle i v hi)⟩
/-- what a body stands on -/
def zw_F (p : Program) (m : MethodId) (c : Code) (cc : ByteArray) (nL : Nat) (s : State) (args : Array Value) (own : String) (E : zE) (kM : Nat) : Prop := CallFix p m c cc nL s args zwAll own ∧ va_K E.1 zwCl (zw_ty E) s ∧ zw_n E kM
section ZG
variable {p : Program} {l : Launch} {e : Env} {R : Room} {s : State} {m : MethodId} {args : Array Value} {below : List Frame} {meth : Method} {c : Code} {Q : State → Prop} {cc : ByteArray} {own : String} {E : zE} {A : Nat → Prop} {nL kM k pc : Nat} {L : List (Option Value)} {stk : List Value} {st : zS}
/-- at this place with these locals and this stack, over every heap that holds the state -/
def zw_G (p : Program) (l : Launch) (e : Env) (R : Room) (s : State) (m : MethodId) (args : Array Value) (below : List Frame) (meth : Method) (c : Code) (Q : State → Prop) (E : zE) (A : Nat → Prop) (nL k pc : Nat) (L : List (Option Value)) (stk : List Value) (st : zS) : Prop :=
  ∀ (H : Heap) (locs : List Loc) (ls : Array Slot), zw_J E A s.heap st H locs → zw_L E.2.2.1 ls nL L → W p l e R s m args below meth c H locs k (6 * k) Q (F0 m pc ls (stk.map (zw_v E.2.2.1)))
theorem zg_le {L' : List (Option Value)} (h : zw_le L' L) (kk : zw_G p l e R s m args below meth c Q E A nL k pc L' stk st) : zw_G p l e R s m args below meth c Q E A nL k pc L stk st := fun H locs ls hJ hL => kk H locs ls hJ (hL.le h)
theorem zg_st {st' : zS} (h : st = st') (kk : zw_G p l e R s m args below meth c Q E A nL k pc L stk st') : zw_G p l e R s m args below meth c Q E A nL k pc L stk st := h ▸ kk
theorem zg_wide {k' : Nat} (h : k ≤ k') (kk : zw_G p l e R s m args below meth c Q E A nL k' pc L stk st) : zw_G p l e R s m args below meth c Q E A nL k pc L stk st := fun H locs ls hJ hL => W.widen h (by omega) (kk H locs ls hJ hL)
theorem zg_iconst (F : zw_F p m c cc nL s args own E kM) (n : Int) (v : Int32) (hv : Int32.ofInt n = v) (hd : decode cc pc = .ok (.iconst n, 1)) (kk : zw_G p l e R s m args below meth c Q E A nL k (pc + 1) L (.int v :: stk) st) : zw_G p l e R s m args below meth c Q E A nL k pc L stk st := fun H locs ls hJ hL => lv_iconst F.1.1 F.1.2.1 hd hv (kk H locs ls hJ hL)
theorem zg_bipush (F : zw_F p m c cc nL s args own E kM) (n : Int) (v : Int32) (hv : (Int8.ofInt n).toInt32 = v) (hd : decode cc pc = .ok (.bipush n, 2)) (kk : zw_G p l e R s m args below meth c Q E A nL k (pc + 2) L (.int v :: stk) st) : zw_G p l e R s m args below meth c Q E A nL k pc L stk st := fun H locs ls hJ hL => lv_bipush F.1.1 F.1.2.1 hd hv (kk H locs ls hJ hL)
theorem zg_sipush (F : zw_F p m c cc nL s args own E kM) (n : Int) (v : Int32) (hv : (Int16.ofInt n).toInt32 = v) (hd : decode cc pc = .ok (.sipush n, 3)) (kk : zw_G p l e R s m args below meth c Q E A nL k (pc + 3) L (.int v :: stk) st) : zw_G p l e R s m args below meth c Q E A nL k pc L stk st := fun H locs ls hJ hL => lv_sipush F.1.1 F.1.2.1 hd hv (kk H locs ls hJ hL)
theorem zg_lconst (F : zw_F p m c cc nL s args own E kM) (n : Fin 2) (v : Int64) (hv : Int64.ofNat (n : Nat) = v) (hd : decode cc pc = .ok (.lconst n, 1)) (kk : zw_G p l e R s m args below meth c Q E A nL k (pc + 1) L (.long v :: stk) st) : zw_G p l e R s m args below meth c Q E A nL k pc L stk st := fun H locs ls hJ hL => lv_lconst F.1.1 F.1.2.1 hd hv (kk H locs ls hJ hL)
theorem zg_iload_n (F : zw_F p m c cc nL s args own E kM) {n : Fin 4} {i : Nat} {x : Int32} (hd : decode cc pc = .ok (.iload_n n, 1)) (hi : (n : Nat) = i) (hl : L[i]? = some (some (.int x))) (kk : zw_G p l e R s m args below meth c Q E A nL k (pc + 1) L (.int x :: stk) st) : zw_G p l e R s m args below meth c Q E A nL k pc L stk st := fun H locs ls hJ hL => lv_iload_n F.1.1 F.1.2.1 hd hi (hL.2.2 _ _ hl).1 (kk H locs ls hJ hL)
theorem zg_iload (F : zw_F p m c cc nL s args own E kM) {i : Nat} {x : Int32} (hd : decode cc pc = .ok (.iload i, 2)) (hl : L[i]? = some (some (.int x))) (kk : zw_G p l e R s m args below meth c Q E A nL k (pc + 2) L (.int x :: stk) st) : zw_G p l e R s m args below meth c Q E A nL k pc L stk st := fun H locs ls hJ hL => lv_iload F.1.1 F.1.2.1 hd (hL.2.2 _ _ hl).1 (kk H locs ls hJ hL)
theorem zg_istore_n (F : zw_F p m c cc nL s args own E kM) {n : Fin 4} {i : Nat} {x : Int32} (L' : List (Option Value)) (hd : decode cc pc = .ok (.istore_n n, 1)) (hi : (n : Nat) = i) (hn : i < nL) (hl : L.set i (some (.int x)) = L') (kk : zw_G p l e R s m args below meth c Q E A nL k (pc + 1) L' stk st) : zw_G p l e R s m args below meth c Q E A nL k pc L (.int x :: stk) st := fun H locs ls hJ hL => lv_istore_n F.1.1 F.1.2.1 hd hi hL.has hn rfl (fun ls' h' => kk H locs ls' hJ (hl ▸ hL.put (w := .int x) rfl h'))
theorem zg_istore (F : zw_F p m c cc nL s args own E kM) {i : Nat} {x : Int32} (L' : List (Option Value)) (hd : decode cc pc = .ok (.istore i, 2)) (hn : i < nL) (hl : L.set i (some (.int x)) = L') (kk : zw_G p l e R s m args below meth c Q E A nL k (pc + 2) L' stk st) : zw_G p l e R s m args below meth c Q E A nL k pc L (.int x :: stk) st := fun H locs ls hJ hL => lv_istore F.1.1 F.1.2.1 hd hL.has hn rfl (fun ls' h' => kk H locs ls' hJ (hl ▸ hL.put (w := .int x) rfl h'))
theorem zg_aload_n (F : zw_F p m c cc nL s args own E kM) {n : Fin 4} {i : Nat} {x : Nat} (hd : decode cc pc = .ok (.aload_n n, 1)) (hi : (n : Nat) = i) (hl : L[i]? = some (some (.ref x))) (kk : zw_G p l e R s m args below meth c Q E A nL k (pc + 1) L (.ref x :: stk) st) : zw_G p l e R s m args below meth c Q E A nL k pc L stk st := fun H locs ls hJ hL => lv_aload_n F.1.1 F.1.2.1 hd hi (hL.2.2 _ _ hl).1 (kk H locs ls hJ hL)
theorem zg_aload (F : zw_F p m c cc nL s args own E kM) {i : Nat} {x : Nat} (hd : decode cc pc = .ok (.aload i, 2)) (hl : L[i]? = some (some (.ref x))) (kk : zw_G p l e R s m args below meth c Q E A nL k (pc + 2) L (.ref x :: stk) st) : zw_G p l e R s m args below meth c Q E A nL k pc L stk st := fun H locs ls hJ hL => lv_aload F.1.1 F.1.2.1 hd (hL.2.2 _ _ hl).1 (kk H locs ls hJ hL)
theorem zg_astore_n (F : zw_F p m c cc nL s args own E kM) {n : Fin 4} {i : Nat} {x : Nat} (L' : List (Option Value)) (hd : decode cc pc = .ok (.astore_n n, 1)) (hi : (n : Nat) = i) (hn : i < nL) (hl : L.set i (some (.ref x)) = L') (kk : zw_G p l e R s m args below meth c Q E A nL k (pc + 1) L' stk st) : zw_G p l e R s m args below meth c Q E A nL k pc L (.ref x :: stk) st := fun H locs ls hJ hL => lv_astore_n F.1.1 F.1.2.1 hd hi hL.has hn rfl (fun ls' h' => kk H locs ls' hJ (hl ▸ hL.put (w := .ref x) rfl h'))
theorem zg_astore (F : zw_F p m c cc nL s args own E kM) {i : Nat} {x : Nat} (L' : List (Option Value)) (hd : decode cc pc = .ok (.astore i, 2)) (hn : i < nL) (hl : L.set i (some (.ref x)) = L') (kk : zw_G p l e R s m args below meth c Q E A nL k (pc + 2) L' stk st) : zw_G p l e R s m args below meth c Q E A nL k pc L (.ref x :: stk) st := fun H locs ls hJ hL => lv_astore F.1.1 F.1.2.1 hd hL.has hn rfl (fun ls' h' => kk H locs ls' hJ (hl ▸ hL.put (w := .ref x) rfl h'))
theorem zg_iinc (F : zw_F p m c cc nL s args own E kM) {i : Nat} {n : Int} {x : Int32} (v : Int32) (L' : List (Option Value)) (hd : decode cc pc = .ok (.iinc i n, 3)) (hx : L[i]? = some (some (.int x))) (hv : x + Int32.ofInt n = v) (hn : i < nL) (hl : L.set i (some (.int v)) = L') (kk : zw_G p l e R s m args below meth c Q E A nL k (pc + 3) L' stk st) : zw_G p l e R s m args below meth c Q E A nL k pc L stk st := fun H locs ls hJ hL => by
  obtain ⟨j, hj⟩ := List.getElem?_of_mem (zw_lv_in (ad := E.2.2.1) hx)
  exact lv_iinc F.1.1 F.1.2.1 hd hL.has hj hv hn rfl (fun ls' h' => kk H locs ls' hJ (hl ▸ hL.put (w := .int v) rfl h'))
theorem zg_iadd (F : zw_F p m c cc nL s args own E kM) {x y : Int32} (hd : decode cc pc = .ok (.iadd, 1)) (kk : zw_G p l e R s m args below meth c Q E A nL k (pc + 1) L (.int (x + y) :: stk) st) : zw_G p l e R s m args below meth c Q E A nL k pc L (.int y :: .int x :: stk) st := fun H locs ls hJ hL => lv_iadd F.1.1 F.1.2.1 hd (kk H locs ls hJ hL)
theorem zg_isub (F : zw_F p m c cc nL s args own E kM) {x y : Int32} (hd : decode cc pc = .ok (.isub, 1)) (kk : zw_G p l e R s m args below meth c Q E A nL k (pc + 1) L (.int (x - y) :: stk) st) : zw_G p l e R s m args below meth c Q E A nL k pc L (.int y :: .int x :: stk) st := fun H locs ls hJ hL => lv_isub F.1.1 F.1.2.1 hd (kk H locs ls hJ hL)
theorem zg_imul (F : zw_F p m c cc nL s args own E kM) {x y : Int32} (hd : decode cc pc = .ok (.imul, 1)) (kk : zw_G p l e R s m args below meth c Q E A nL k (pc + 1) L (.int (x * y) :: stk) st) : zw_G p l e R s m args below meth c Q E A nL k pc L (.int y :: .int x :: stk) st := fun H locs ls hJ hL => lv_imul F.1.1 F.1.2.1 hd (kk H locs ls hJ hL)
theorem zg_iand (F : zw_F p m c cc nL s args own E kM) {x y : Int32} (hd : decode cc pc = .ok (.iand, 1)) (kk : zw_G p l e R s m args below meth c Q E A nL k (pc + 1) L (.int (x &&& y) :: stk) st) : zw_G p l e R s m args below meth c Q E A nL k pc L (.int y :: .int x :: stk) st := fun H locs ls hJ hL => lv_iand F.1.1 F.1.2.1 hd (kk H locs ls hJ hL)
theorem zg_ior (F : zw_F p m c cc nL s args own E kM) {x y : Int32} (hd : decode cc pc = .ok (.ior, 1)) (kk : zw_G p l e R s m args below meth c Q E A nL k (pc + 1) L (.int (x ||| y) :: stk) st) : zw_G p l e R s m args below meth c Q E A nL k pc L (.int y :: .int x :: stk) st := fun H locs ls hJ hL => lv_ior F.1.1 F.1.2.1 hd (kk H locs ls hJ hL)
theorem zg_ixor (F : zw_F p m c cc nL s args own E kM) {x y : Int32} (hd : decode cc pc = .ok (.ixor, 1)) (kk : zw_G p l e R s m args below meth c Q E A nL k (pc + 1) L (.int (x ^^^ y) :: stk) st) : zw_G p l e R s m args below meth c Q E A nL k pc L (.int y :: .int x :: stk) st := fun H locs ls hJ hL => lv_ixor F.1.1 F.1.2.1 hd (kk H locs ls hJ hL)
theorem zg_ishl (F : zw_F p m c cc nL s args own E kM) {x y : Int32} (hd : decode cc pc = .ok (.ishl, 1)) (kk : zw_G p l e R s m args below meth c Q E A nL k (pc + 1) L (.int (x <<< (y &&& 31)) :: stk) st) : zw_G p l e R s m args below meth c Q E A nL k pc L (.int y :: .int x :: stk) st := fun H locs ls hJ hL => lv_ishl F.1.1 F.1.2.1 hd (kk H locs ls hJ hL)
theorem zg_ishr (F : zw_F p m c cc nL s args own E kM) {x y : Int32} (hd : decode cc pc = .ok (.ishr, 1)) (kk : zw_G p l e R s m args below meth c Q E A nL k (pc + 1) L (.int (x >>> (y &&& 31)) :: stk) st) : zw_G p l e R s m args below meth c Q E A nL k pc L (.int y :: .int x :: stk) st := fun H locs ls hJ hL => lv_ishr F.1.1 F.1.2.1 hd (kk H locs ls hJ hL)
theorem zg_iushr (F : zw_F p m c cc nL s args own E kM) {x y : Int32} (hd : decode cc pc = .ok (.iushr, 1)) (kk : zw_G p l e R s m args below meth c Q E A nL k (pc + 1) L (.int ((x.toUInt32 >>> (y.toUInt32 &&& Int32.toUInt32 31)).toInt32) :: stk) st) : zw_G p l e R s m args below meth c Q E A nL k pc L (.int y :: .int x :: stk) st := fun H locs ls hJ hL => lv_iushr F.1.1 F.1.2.1 hd rfl (kk H locs ls hJ hL)
theorem zg_idiv (F : zw_F p m c cc nL s args own E kM) {x y : Int32} (hd : decode cc pc = .ok (.idiv, 1)) (hne : ¬ y = 0) (kk : zw_G p l e R s m args below meth c Q E A nL k (pc + 1) L (.int (x / y) :: stk) st) : zw_G p l e R s m args below meth c Q E A nL k pc L (.int y :: .int x :: stk) st := fun H locs ls hJ hL => lv_idiv F.1.1 F.1.2.1 hd hne (kk H locs ls hJ hL)
theorem zg_irem (F : zw_F p m c cc nL s args own E kM) {x y : Int32} (hd : decode cc pc = .ok (.irem, 1)) (hne : ¬ y = 0) (kk : zw_G p l e R s m args below meth c Q E A nL k (pc + 1) L (.int (x - x / y * y) :: stk) st) : zw_G p l e R s m args below meth c Q E A nL k pc L (.int y :: .int x :: stk) st := fun H locs ls hJ hL => lv_irem F.1.1 F.1.2.1 hd hne (kk H locs ls hJ hL)
theorem zg_ineg (F : zw_F p m c cc nL s args own E kM) {x : Int32} (hd : decode cc pc = .ok (.ineg, 1)) (kk : zw_G p l e R s m args below meth c Q E A nL k (pc + 1) L (.int (-x) :: stk) st) : zw_G p l e R s m args below meth c Q E A nL k pc L (.int x :: stk) st := fun H locs ls hJ hL => lv_ineg F.1.1 F.1.2.1 hd (kk H locs ls hJ hL)
theorem zg_i2l (F : zw_F p m c cc nL s args own E kM) {x : Int32} (hd : decode cc pc = .ok (.i2l, 1)) (kk : zw_G p l e R s m args below meth c Q E A nL k (pc + 1) L (.long x.toInt64 :: stk) st) : zw_G p l e R s m args below meth c Q E A nL k pc L (.int x :: stk) st := fun H locs ls hJ hL => lv_i2l F.1.1 F.1.2.1 hd rfl (kk H locs ls hJ hL)
theorem zg_dup (F : zw_F p m c cc nL s args own E kM) {v : Value} (hd : decode cc pc = .ok (.dup, 1)) (hv : v.category = 1) (kk : zw_G p l e R s m args below meth c Q E A nL k (pc + 1) L (v :: v :: stk) st) : zw_G p l e R s m args below meth c Q E A nL k pc L (v :: stk) st := fun H locs ls hJ hL => lv_dup F.1.1 F.1.2.1 hd (by rw [zw_cat]; exact hv) (kk H locs ls hJ hL)
theorem zg_pop (F : zw_F p m c cc nL s args own E kM) {v : Value} (hd : decode cc pc = .ok (.pop, 1)) (hv : v.category = 1) (kk : zw_G p l e R s m args below meth c Q E A nL k (pc + 1) L stk st) : zw_G p l e R s m args below meth c Q E A nL k pc L (v :: stk) st := fun H locs ls hJ hL => lv_pop F.1.1 F.1.2.1 hd (by rw [zw_cat]; exact hv) (kk H locs ls hJ hL)
theorem zg_dup_x1 (F : zw_F p m c cc nL s args own E kM) {v w : Value} (hd : decode cc pc = .ok (.dup_x1, 1)) (hv : v.category = 1) (hw : w.category = 1) (kk : zw_G p l e R s m args below meth c Q E A nL k (pc + 1) L (v :: w :: v :: stk) st) : zw_G p l e R s m args below meth c Q E A nL k pc L (v :: w :: stk) st := fun H locs ls hJ hL => lv_dup_x1 F.1.1 F.1.2.1 hd (by rw [zw_cat]; exact hv) (by rw [zw_cat]; exact hw) (kk H locs ls hJ hL)
theorem zg_dup2 (F : zw_F p m c cc nL s args own E kM) {v w : Value} (hd : decode cc pc = .ok (.dup2, 1)) (hv : v.category = 1) (hw : w.category = 1) (kk : zw_G p l e R s m args below meth c Q E A nL k (pc + 1) L (v :: w :: v :: w :: stk) st) : zw_G p l e R s m args below meth c Q E A nL k pc L (v :: w :: stk) st := fun H locs ls hJ hL => lv_dup2_11 F.1.1 F.1.2.1 hd (by rw [zw_cat]; exact hv) (by rw [zw_cat]; exact hw) (kk H locs ls hJ hL)
theorem zg_if_eq (F : zw_F p m c cc nL s args own E kM) {x : Int32} {off : Int} (tgt : Nat) (hd : decode cc pc = .ok (.ifCond .eq off, 3)) (ht : (pc : Int) + off = (tgt : Int)) (kt : x = 0 → zw_G p l e R s m args below meth c Q E A nL k tgt L stk st) (kf : ¬ (x = 0) → zw_G p l e R s m args below meth c Q E A nL k (pc + 3) L stk st) : zw_G p l e R s m args below meth c Q E A nL k pc L (.int x :: stk) st := fun H locs ls hJ hL => lv_if_eq F.1.1 F.1.2.1 hd ht (fun h => kt h H locs ls hJ hL) (fun h => kf h H locs ls hJ hL)
theorem zg_icmp_eq (F : zw_F p m c cc nL s args own E kM) {x y : Int32} {off : Int} (tgt : Nat) (hd : decode cc pc = .ok (.if_icmp .eq off, 3)) (ht : (pc : Int) + off = (tgt : Int)) (kt : x = y → zw_G p l e R s m args below meth c Q E A nL k tgt L stk st) (kf : ¬ (x = y) → zw_G p l e R s m args below meth c Q E A nL k (pc + 3) L stk st) : zw_G p l e R s m args below meth c Q E A nL k pc L (.int y :: .int x :: stk) st := fun H locs ls hJ hL => lv_icmp_eq F.1.1 F.1.2.1 hd ht (fun h => kt h H locs ls hJ hL) (fun h => kf h H locs ls hJ hL)
theorem zg_if_ne (F : zw_F p m c cc nL s args own E kM) {x : Int32} {off : Int} (tgt : Nat) (hd : decode cc pc = .ok (.ifCond .ne off, 3)) (ht : (pc : Int) + off = (tgt : Int)) (kt : ¬ (x = 0) → zw_G p l e R s m args below meth c Q E A nL k tgt L stk st) (kf : x = 0 → zw_G p l e R s m args below meth c Q E A nL k (pc + 3) L stk st) : zw_G p l e R s m args below meth c Q E A nL k pc L (.int x :: stk) st := fun H locs ls hJ hL => lv_if_ne F.1.1 F.1.2.1 hd ht (fun h => kt h H locs ls hJ hL) (fun h => kf h H locs ls hJ hL)
theorem zg_icmp_ne (F : zw_F p m c cc nL s args own E kM) {x y : Int32} {off : Int} (tgt : Nat) (hd : decode cc pc = .ok (.if_icmp .ne off, 3)) (ht : (pc : Int) + off = (tgt : Int)) (kt : ¬ (x = y) → zw_G p l e R s m args below meth c Q E A nL k tgt L stk st) (kf : x = y → zw_G p l e R s m args below meth c Q E A nL k (pc + 3) L stk st) : zw_G p l e R s m args below meth c Q E A nL k pc L (.int y :: .int x :: stk) st := fun H locs ls hJ hL => lv_icmp_ne F.1.1 F.1.2.1 hd ht (fun h => kt h H locs ls hJ hL) (fun h => kf h H locs ls hJ hL)
theorem zg_if_lt (F : zw_F p m c cc nL s args own E kM) {x : Int32} {off : Int} (tgt : Nat) (hd : decode cc pc = .ok (.ifCond .lt off, 3)) (ht : (pc : Int) + off = (tgt : Int)) (kt : x < 0 → zw_G p l e R s m args below meth c Q E A nL k tgt L stk st) (kf : ¬ (x < 0) → zw_G p l e R s m args below meth c Q E A nL k (pc + 3) L stk st) : zw_G p l e R s m args below meth c Q E A nL k pc L (.int x :: stk) st := fun H locs ls hJ hL => lv_if_lt F.1.1 F.1.2.1 hd ht (fun h => kt h H locs ls hJ hL) (fun h => kf h H locs ls hJ hL)
theorem zg_icmp_lt (F : zw_F p m c cc nL s args own E kM) {x y : Int32} {off : Int} (tgt : Nat) (hd : decode cc pc = .ok (.if_icmp .lt off, 3)) (ht : (pc : Int) + off = (tgt : Int)) (kt : x < y → zw_G p l e R s m args below meth c Q E A nL k tgt L stk st) (kf : ¬ (x < y) → zw_G p l e R s m args below meth c Q E A nL k (pc + 3) L stk st) : zw_G p l e R s m args below meth c Q E A nL k pc L (.int y :: .int x :: stk) st := fun H locs ls hJ hL => lv_icmp_lt F.1.1 F.1.2.1 hd ht (fun h => kt h H locs ls hJ hL) (fun h => kf h H locs ls hJ hL)
theorem zg_if_ge (F : zw_F p m c cc nL s args own E kM) {x : Int32} {off : Int} (tgt : Nat) (hd : decode cc pc = .ok (.ifCond .ge off, 3)) (ht : (pc : Int) + off = (tgt : Int)) (kt : 0 ≤ x → zw_G p l e R s m args below meth c Q E A nL k tgt L stk st) (kf : ¬ (0 ≤ x) → zw_G p l e R s m args below meth c Q E A nL k (pc + 3) L stk st) : zw_G p l e R s m args below meth c Q E A nL k pc L (.int x :: stk) st := fun H locs ls hJ hL => lv_if_ge F.1.1 F.1.2.1 hd ht (fun h => kt h H locs ls hJ hL) (fun h => kf h H locs ls hJ hL)
theorem zg_icmp_ge (F : zw_F p m c cc nL s args own E kM) {x y : Int32} {off : Int} (tgt : Nat) (hd : decode cc pc = .ok (.if_icmp .ge off, 3)) (ht : (pc : Int) + off = (tgt : Int)) (kt : y ≤ x → zw_G p l e R s m args below meth c Q E A nL k tgt L stk st) (kf : ¬ (y ≤ x) → zw_G p l e R s m args below meth c Q E A nL k (pc + 3) L stk st) : zw_G p l e R s m args below meth c Q E A nL k pc L (.int y :: .int x :: stk) st := fun H locs ls hJ hL => lv_icmp_ge F.1.1 F.1.2.1 hd ht (fun h => kt h H locs ls hJ hL) (fun h => kf h H locs ls hJ hL)
theorem zg_if_gt (F : zw_F p m c cc nL s args own E kM) {x : Int32} {off : Int} (tgt : Nat) (hd : decode cc pc = .ok (.ifCond .gt off, 3)) (ht : (pc : Int) + off = (tgt : Int)) (kt : 0 < x → zw_G p l e R s m args below meth c Q E A nL k tgt L stk st) (kf : ¬ (0 < x) → zw_G p l e R s m args below meth c Q E A nL k (pc + 3) L stk st) : zw_G p l e R s m args below meth c Q E A nL k pc L (.int x :: stk) st := fun H locs ls hJ hL => lv_if_gt F.1.1 F.1.2.1 hd ht (fun h => kt h H locs ls hJ hL) (fun h => kf h H locs ls hJ hL)
theorem zg_icmp_gt (F : zw_F p m c cc nL s args own E kM) {x y : Int32} {off : Int} (tgt : Nat) (hd : decode cc pc = .ok (.if_icmp .gt off, 3)) (ht : (pc : Int) + off = (tgt : Int)) (kt : y < x → zw_G p l e R s m args below meth c Q E A nL k tgt L stk st) (kf : ¬ (y < x) → zw_G p l e R s m args below meth c Q E A nL k (pc + 3) L stk st) : zw_G p l e R s m args below meth c Q E A nL k pc L (.int y :: .int x :: stk) st := fun H locs ls hJ hL => lv_icmp_gt F.1.1 F.1.2.1 hd ht (fun h => kt h H locs ls hJ hL) (fun h => kf h H locs ls hJ hL)
theorem zg_if_le (F : zw_F p m c cc nL s args own E kM) {x : Int32} {off : Int} (tgt : Nat) (hd : decode cc pc = .ok (.ifCond .le off, 3)) (ht : (pc : Int) + off = (tgt : Int)) (kt : x ≤ 0 → zw_G p l e R s m args below meth c Q E A nL k tgt L stk st) (kf : ¬ (x ≤ 0) → zw_G p l e R s m args below meth c Q E A nL k (pc + 3) L stk st) : zw_G p l e R s m args below meth c Q E A nL k pc L (.int x :: stk) st := fun H locs ls hJ hL => lv_if_le F.1.1 F.1.2.1 hd ht (fun h => kt h H locs ls hJ hL) (fun h => kf h H locs ls hJ hL)
theorem zg_icmp_le (F : zw_F p m c cc nL s args own E kM) {x y : Int32} {off : Int} (tgt : Nat) (hd : decode cc pc = .ok (.if_icmp .le off, 3)) (ht : (pc : Int) + off = (tgt : Int)) (kt : x ≤ y → zw_G p l e R s m args below meth c Q E A nL k tgt L stk st) (kf : ¬ (x ≤ y) → zw_G p l e R s m args below meth c Q E A nL k (pc + 3) L stk st) : zw_G p l e R s m args below meth c Q E A nL k pc L (.int y :: .int x :: stk) st := fun H locs ls hJ hL => lv_icmp_le F.1.1 F.1.2.1 hd ht (fun h => kt h H locs ls hJ hL) (fun h => kf h H locs ls hJ hL)
theorem zg_goto (F : zw_F p m c cc nL s args own E kM) {off : Int} (tgt : Nat) (hd : decode cc pc = .ok (.goto off, 3)) (ht : (pc : Int) + off = (tgt : Int)) (kk : zw_G p l e R s m args below meth c Q E A nL k tgt L stk st) : zw_G p l e R s m args below meth c Q E A nL k pc L stk st := fun H locs ls hJ hL => lv_goto F.1.1 F.1.2.1 hd ht (kk H locs ls hJ hL)
theorem zg_tabOut (F : zw_F p m c cc nL s args own E kM) {dflt lo hi : Int} {offs : Array Int} {len : Nat} {x : Int32} (tgt : Nat) (hd : decode cc pc = .ok (.tableswitch dflt lo hi offs, len)) (h : x.toInt < lo ∨ hi < x.toInt) (ht : (pc : Int) + dflt = (tgt : Int)) (kk : zw_G p l e R s m args below meth c Q E A nL k tgt L stk st) : zw_G p l e R s m args below meth c Q E A nL k pc L (.int x :: stk) st := fun H locs ls hJ hL => lv_tableOut F.1.1 F.1.2.1 hd h ht (kk H locs ls hJ hL)
theorem zg_tabIn (F : zw_F p m c cc nL s args own E kM) {dflt lo hi : Int} {offs : Array Int} {len : Nat} {x : Int32} {off : Int} (tgt : Nat) (hd : decode cc pc = .ok (.tableswitch dflt lo hi offs, len)) (h1 : ¬ x.toInt < lo) (h2 : ¬ hi < x.toInt) (ho : offs[(x.toInt - lo).toNat]? = some off) (ht : (pc : Int) + off = (tgt : Int)) (kk : zw_G p l e R s m args below meth c Q E A nL k tgt L stk st) : zw_G p l e R s m args below meth c Q E A nL k pc L (.int x :: stk) st := fun H locs ls hJ hL => lv_tableIn F.1.1 F.1.2.1 hd h1 h2 ho ht (kk H locs ls hJ hL)
end ZG
set_option maxRecDepth 100000 in
theorem zw_inT0 : ∀ w ∈ u_ws zR0 zT0 12, w ∈ lw_tbl := by decide +kernel
set_option maxRecDepth 100000 in
theorem zw_inG0 : ∀ w ∈ u_ws zR0 zT0 12, goodWord w = true := by decide +kernel
theorem zw_in0 : ∀ w ∈ u_ws zR0 zT0 12, w ∈ zwAll := fun w hw => zw_mem (zw_inT0 w hw) (zw_inG0 w hw)
theorem zw_ty0 : ∀ k, k < 12 → parseFieldDescriptor (zT0 k).2.2.1 = some (zY0 k) := by decide +kernel
theorem zw_nm0 : ∀ a, a < 12 → ∀ b, b < 12 → a ≠ b → (zT0 a).2.1 ≠ (zT0 b).2.1 := by decide +kernel
set_option maxRecDepth 100000 in
theorem zw_inT1 : ∀ w ∈ u_ws zR1 zT1 5, w ∈ lw_tbl := by decide +kernel
set_option maxRecDepth 100000 in
theorem zw_inG1 : ∀ w ∈ u_ws zR1 zT1 5, goodWord w = true := by decide +kernel
theorem zw_in1 : ∀ w ∈ u_ws zR1 zT1 5, w ∈ zwAll := fun w hw => zw_mem (zw_inT1 w hw) (zw_inG1 w hw)
theorem zw_ty1 : ∀ k, k < 5 → parseFieldDescriptor (zT1 k).2.2.1 = some (zY1 k) := by decide +kernel
theorem zw_nm1 : ∀ a, a < 5 → ∀ b, b < 5 → a ≠ b → (zT1 a).2.1 ≠ (zT1 b).2.1 := by decide +kernel
set_option maxRecDepth 100000 in
theorem zw_inT2 : ∀ w ∈ u_ws zR2 zT2 13, w ∈ lw_tbl := by decide +kernel
set_option maxRecDepth 100000 in
theorem zw_inG2 : ∀ w ∈ u_ws zR2 zT2 13, goodWord w = true := by decide +kernel
theorem zw_in2 : ∀ w ∈ u_ws zR2 zT2 13, w ∈ zwAll := fun w hw => zw_mem (zw_inT2 w hw) (zw_inG2 w hw)
theorem zw_ty2 : ∀ k, k < 13 → parseFieldDescriptor (zT2 k).2.2.1 = some (zY2 k) := by decide +kernel
theorem zw_nm2 : ∀ a, a < 13 → ∀ b, b < 13 → a ≠ b → (zT2 a).2.1 ≠ (zT2 b).2.1 := by decide +kernel
set_option maxRecDepth 100000 in
theorem zw_inT3 : ∀ w ∈ u_ws zR3 zT3 6, w ∈ lw_tbl := by decide +kernel
set_option maxRecDepth 100000 in
theorem zw_inG3 : ∀ w ∈ u_ws zR3 zT3 6, goodWord w = true := by decide +kernel
theorem zw_in3 : ∀ w ∈ u_ws zR3 zT3 6, w ∈ zwAll := fun w hw => zw_mem (zw_inT3 w hw) (zw_inG3 w hw)
theorem zw_ty3 : ∀ k, k < 6 → parseFieldDescriptor (zT3 k).2.2.1 = some (zY3 k) := by decide +kernel
theorem zw_nm3 : ∀ a, a < 6 → ∀ b, b < 6 → a ≠ b → (zT3 a).2.1 ≠ (zT3 b).2.1 := by decide +kernel
set_option maxRecDepth 100000 in
theorem zw_inT4 : ∀ w ∈ u_ws zR4 zT4 5, w ∈ lw_tbl := by decide +kernel
set_option maxRecDepth 100000 in
theorem zw_inG4 : ∀ w ∈ u_ws zR4 zT4 5, goodWord w = true := by decide +kernel
theorem zw_in4 : ∀ w ∈ u_ws zR4 zT4 5, w ∈ zwAll := fun w hw => zw_mem (zw_inT4 w hw) (zw_inG4 w hw)
theorem zw_ty4 : ∀ k, k < 5 → parseFieldDescriptor (zT4 k).2.2.1 = some (zY4 k) := by decide +kernel
theorem zw_nm4 : ∀ a, a < 5 → ∀ b, b < 5 → a ≠ b → (zT4 a).2.1 ≠ (zT4 b).2.1 := by decide +kernel
set_option maxRecDepth 100000 in
theorem zw_inT10 : ∀ w ∈ u_ws zR10 zT10 23, w ∈ lw_tbl := by decide +kernel
set_option maxRecDepth 100000 in
theorem zw_inG10 : ∀ w ∈ u_ws zR10 zT10 23, goodWord w = true := by decide +kernel
theorem zw_in10 : ∀ w ∈ u_ws zR10 zT10 23, w ∈ zwAll := fun w hw => zw_mem (zw_inT10 w hw) (zw_inG10 w hw)
theorem zw_ty10 : ∀ k, k < 23 → parseFieldDescriptor (zT10 k).2.2.1 = some (zY10 k) := by decide +kernel
theorem zw_nm10 : ∀ a, a < 23 → ∀ b, b < 23 → a ≠ b → (zT10 a).2.1 ≠ (zT10 b).2.1 := by decide +kernel
section ZH
variable {p : Program} {l : Launch} {e : Env} {R : Room} {s : State} {m : MethodId} {args : Array Value} {below : List Frame} {meth : Method} {c : Code} {Q : State → Prop} {cc : ByteArray} {own : String} {E : zE} {A : Nat → Prop} {nL kM k pc : Nat} {L : List (Option Value)} {stk : List Value} {st : zS}
theorem zg_getI0 (F : zw_F p m c cc nL s args own E kM) (hM : 0 < kM) {q : Nat} (hq : zw_kind q = 0) (j : Nat) (hj : j < 12) (x : Int32) (hv : ([.ref (E.2.2.1 1), .ref (E.2.2.1 4), .ref (E.2.2.1 9), .ref (E.2.2.1 10), .ref (E.2.2.1 35), .int (st q 5), .int (st q 6), .int (st q 7), .int (st q 8), .int (st q 9), .int (st q 10), .int (st q 11)] : List Value)[j]? = some (.int (st q j))) (hx : st q j = x) {index : Nat} (hw : Cond.fieldLink own index (zT0 j).1 (zT0 j).2.1 (zT0 j).2.2.1 ∈ zwAll) (hd : decode cc pc = .ok (.getfield index, 3)) (kk : zw_G p l e R s m args below meth c Q E A nL k (pc + 3) L (.int x :: stk) st) : zw_G p l e R s m args below meth c Q E A nL k pc L (.ref q :: stk) st := fun H locs ls hJ hL =>
  va_get (D := E.1) (C := zR0) (T := zT0) (N := 12) (ci := 0) F.1.1 F.1.2.1 F.1.2.2.2.2 zw_in0 F.1.2.2.2.1 F.2.1 hJ.1 q (by rw [zw_get E st (F.2.2 q (by rw [hq]; exact hM)), zw_ent0 E st hq]) rfl j hj (F.1.2.2.2.2 _ hw) (fun _ h => h) (hx ▸ hv) hd (kk H locs ls hJ hL)
theorem zg_getR0 (F : zw_F p m c cc nL s args own E kM) (hM : 0 < kM) {q : Nat} (hq : zw_kind q = 0) (j : Nat) (hj : j < 12) (r : Nat) (hv : ([.ref (E.2.2.1 1), .ref (E.2.2.1 4), .ref (E.2.2.1 9), .ref (E.2.2.1 10), .ref (E.2.2.1 35), .int (st q 5), .int (st q 6), .int (st q 7), .int (st q 8), .int (st q 9), .int (st q 10), .int (st q 11)] : List Value)[j]? = some (.ref (E.2.2.1 r))) {index : Nat} (hw : Cond.fieldLink own index (zT0 j).1 (zT0 j).2.1 (zT0 j).2.2.1 ∈ zwAll) (hd : decode cc pc = .ok (.getfield index, 3)) (kk : zw_G p l e R s m args below meth c Q E A nL k (pc + 3) L (.ref r :: stk) st) : zw_G p l e R s m args below meth c Q E A nL k pc L (.ref q :: stk) st := fun H locs ls hJ hL =>
  va_get (D := E.1) (C := zR0) (T := zT0) (N := 12) (ci := 0) F.1.1 F.1.2.1 F.1.2.2.2.2 zw_in0 F.1.2.2.2.1 F.2.1 hJ.1 q (by rw [zw_get E st (F.2.2 q (by rw [hq]; exact hM)), zw_ent0 E st hq]) rfl j hj (F.1.2.2.2.2 _ hw) (fun _ h => h) hv hd (kk H locs ls hJ hL)
theorem zg_putI0 (F : zw_F p m c cc nL s args own E kM) (hM : 0 < kM) {q : Nat} (hq : zw_kind q = 0) (j : Nat) (hj : j < 12) (hji : j = 5 ∨ j = 6 ∨ j = 7 ∨ j = 8 ∨ j = 9 ∨ j = 10 ∨ j = 11) {x : Int32} (ty : FieldType) (ht : parseFieldDescriptor (zT0 j).2.2.1 = some ty) (hf : (zT0 j).2.2.2 = false) (hn : narrow ty (.int x) = .int x) (hfit : fits ty (.int x) = true) {index : Nat} (hw : Cond.fieldLink own index (zT0 j).1 (zT0 j).2.1 (zT0 j).2.2.1 ∈ zwAll) (hd : decode cc pc = .ok (.putfield index, 3)) (kk : zw_G p l e R s m args below meth c Q E A nL k (pc + 3) L stk (zp st q j x)) : zw_G p l e R s m args below meth c Q E A nL k pc L (.int x :: .ref q :: stk) st := fun H locs ls hJ hL =>
  va_put (D := E.1) (fs := [.ref (E.2.2.1 1), .ref (E.2.2.1 4), .ref (E.2.2.1 9), .ref (E.2.2.1 10), .ref (E.2.2.1 35), .int (st q 5), .int (st q 6), .int (st q 7), .int (st q 8), .int (st q 9), .int (st q 10), .int (st q 11)]) (C := zR0) (T := zT0) (N := 12) (ci := 0) F.1.1 F.1.2.1 F.1.2.2.2.2 zw_in0 zY0 zw_ty0 zw_nm0 F.1.2.2.2.1 F.2.1 hJ.1 hJ.2.1 hJ.2.2 q (by rw [zw_get E st (F.2.2 q (by rw [hq]; exact hM)), zw_ent0 E st hq]) rfl j hj (F.1.2.2.2.2 _ hw) (fun _ h => h) hf ht hn hfit hj hd (fun H1 locs1 hP1 hD1 hS1 => kk H1 locs1 ls ⟨(zw_put E (F.2.2 q (by rw [hq]; exact hM)) (zw_put0 E st x hq hji)) ▸ hP1, zw_D _ hJ.2.1, hS1⟩ hL)
theorem zg_getI1 (F : zw_F p m c cc nL s args own E kM) (hM : 1 < kM) {q : Nat} (hq : zw_kind q = 1) (j : Nat) (hj : j < 5) (x : Int32) (hv : ([.ref (E.2.2.1 2), .ref (E.2.2.1 3), .int (st q 2), .int (st q 3), .int (st q 4)] : List Value)[j]? = some (.int (st q j))) (hx : st q j = x) {index : Nat} (hw : Cond.fieldLink own index (zT1 j).1 (zT1 j).2.1 (zT1 j).2.2.1 ∈ zwAll) (hd : decode cc pc = .ok (.getfield index, 3)) (kk : zw_G p l e R s m args below meth c Q E A nL k (pc + 3) L (.int x :: stk) st) : zw_G p l e R s m args below meth c Q E A nL k pc L (.ref q :: stk) st := fun H locs ls hJ hL =>
  va_get (D := E.1) (C := zR1) (T := zT1) (N := 5) (ci := 1) F.1.1 F.1.2.1 F.1.2.2.2.2 zw_in1 F.1.2.2.2.1 F.2.1 hJ.1 q (by rw [zw_get E st (F.2.2 q (by rw [hq]; exact hM)), zw_ent1 E st hq]) rfl j hj (F.1.2.2.2.2 _ hw) (fun _ h => h) (hx ▸ hv) hd (kk H locs ls hJ hL)
theorem zg_getR1 (F : zw_F p m c cc nL s args own E kM) (hM : 1 < kM) {q : Nat} (hq : zw_kind q = 1) (j : Nat) (hj : j < 5) (r : Nat) (hv : ([.ref (E.2.2.1 2), .ref (E.2.2.1 3), .int (st q 2), .int (st q 3), .int (st q 4)] : List Value)[j]? = some (.ref (E.2.2.1 r))) {index : Nat} (hw : Cond.fieldLink own index (zT1 j).1 (zT1 j).2.1 (zT1 j).2.2.1 ∈ zwAll) (hd : decode cc pc = .ok (.getfield index, 3)) (kk : zw_G p l e R s m args below meth c Q E A nL k (pc + 3) L (.ref r :: stk) st) : zw_G p l e R s m args below meth c Q E A nL k pc L (.ref q :: stk) st := fun H locs ls hJ hL =>
  va_get (D := E.1) (C := zR1) (T := zT1) (N := 5) (ci := 1) F.1.1 F.1.2.1 F.1.2.2.2.2 zw_in1 F.1.2.2.2.1 F.2.1 hJ.1 q (by rw [zw_get E st (F.2.2 q (by rw [hq]; exact hM)), zw_ent1 E st hq]) rfl j hj (F.1.2.2.2.2 _ hw) (fun _ h => h) hv hd (kk H locs ls hJ hL)
theorem zg_putI1 (F : zw_F p m c cc nL s args own E kM) (hM : 1 < kM) {q : Nat} (hq : zw_kind q = 1) (j : Nat) (hj : j < 5) (hji : j = 2 ∨ j = 3 ∨ j = 4) {x : Int32} (ty : FieldType) (ht : parseFieldDescriptor (zT1 j).2.2.1 = some ty) (hf : (zT1 j).2.2.2 = false) (hn : narrow ty (.int x) = .int x) (hfit : fits ty (.int x) = true) {index : Nat} (hw : Cond.fieldLink own index (zT1 j).1 (zT1 j).2.1 (zT1 j).2.2.1 ∈ zwAll) (hd : decode cc pc = .ok (.putfield index, 3)) (kk : zw_G p l e R s m args below meth c Q E A nL k (pc + 3) L stk (zp st q j x)) : zw_G p l e R s m args below meth c Q E A nL k pc L (.int x :: .ref q :: stk) st := fun H locs ls hJ hL =>
  va_put (D := E.1) (fs := [.ref (E.2.2.1 2), .ref (E.2.2.1 3), .int (st q 2), .int (st q 3), .int (st q 4)]) (C := zR1) (T := zT1) (N := 5) (ci := 1) F.1.1 F.1.2.1 F.1.2.2.2.2 zw_in1 zY1 zw_ty1 zw_nm1 F.1.2.2.2.1 F.2.1 hJ.1 hJ.2.1 hJ.2.2 q (by rw [zw_get E st (F.2.2 q (by rw [hq]; exact hM)), zw_ent1 E st hq]) rfl j hj (F.1.2.2.2.2 _ hw) (fun _ h => h) hf ht hn hfit hj hd (fun H1 locs1 hP1 hD1 hS1 => kk H1 locs1 ls ⟨(zw_put E (F.2.2 q (by rw [hq]; exact hM)) (zw_put1 E st x hq hji)) ▸ hP1, zw_D _ hJ.2.1, hS1⟩ hL)
theorem zg_getI2 (F : zw_F p m c cc nL s args own E kM) (hM : 2 < kM) {q : Nat} (hq : zw_kind q = 2) (j : Nat) (hj : j < 13) (x : Int32) (hv : ([.int (st q 0), .int (st q 1), .int (st q 2), .int (st q 3), .int (st q 4), .int (st q 5), .int (st q 6), .int (st q 7), .int (st q 8), .int (st q 9), .int (st q 10), .int (st q 11), .int (st q 12)] : List Value)[j]? = some (.int (st q j))) (hx : st q j = x) {index : Nat} (hw : Cond.fieldLink own index (zT2 j).1 (zT2 j).2.1 (zT2 j).2.2.1 ∈ zwAll) (hd : decode cc pc = .ok (.getfield index, 3)) (kk : zw_G p l e R s m args below meth c Q E A nL k (pc + 3) L (.int x :: stk) st) : zw_G p l e R s m args below meth c Q E A nL k pc L (.ref q :: stk) st := fun H locs ls hJ hL =>
  va_get (D := E.1) (C := zR2) (T := zT2) (N := 13) (ci := 2) F.1.1 F.1.2.1 F.1.2.2.2.2 zw_in2 F.1.2.2.2.1 F.2.1 hJ.1 q (by rw [zw_get E st (F.2.2 q (by rw [hq]; exact hM)), zw_ent2 E st hq]) rfl j hj (F.1.2.2.2.2 _ hw) (fun _ h => h) (hx ▸ hv) hd (kk H locs ls hJ hL)
theorem zg_putI2 (F : zw_F p m c cc nL s args own E kM) (hM : 2 < kM) {q : Nat} (hq : zw_kind q = 2) (j : Nat) (hj : j < 13) (hji : j = 0 ∨ j = 1 ∨ j = 2 ∨ j = 3 ∨ j = 4 ∨ j = 5 ∨ j = 6 ∨ j = 7 ∨ j = 8 ∨ j = 9 ∨ j = 10 ∨ j = 11 ∨ j = 12) {x : Int32} (ty : FieldType) (ht : parseFieldDescriptor (zT2 j).2.2.1 = some ty) (hf : (zT2 j).2.2.2 = false) (hn : narrow ty (.int x) = .int x) (hfit : fits ty (.int x) = true) {index : Nat} (hw : Cond.fieldLink own index (zT2 j).1 (zT2 j).2.1 (zT2 j).2.2.1 ∈ zwAll) (hd : decode cc pc = .ok (.putfield index, 3)) (kk : zw_G p l e R s m args below meth c Q E A nL k (pc + 3) L stk (zp st q j x)) : zw_G p l e R s m args below meth c Q E A nL k pc L (.int x :: .ref q :: stk) st := fun H locs ls hJ hL =>
  va_put (D := E.1) (fs := [.int (st q 0), .int (st q 1), .int (st q 2), .int (st q 3), .int (st q 4), .int (st q 5), .int (st q 6), .int (st q 7), .int (st q 8), .int (st q 9), .int (st q 10), .int (st q 11), .int (st q 12)]) (C := zR2) (T := zT2) (N := 13) (ci := 2) F.1.1 F.1.2.1 F.1.2.2.2.2 zw_in2 zY2 zw_ty2 zw_nm2 F.1.2.2.2.1 F.2.1 hJ.1 hJ.2.1 hJ.2.2 q (by rw [zw_get E st (F.2.2 q (by rw [hq]; exact hM)), zw_ent2 E st hq]) rfl j hj (F.1.2.2.2.2 _ hw) (fun _ h => h) hf ht hn hfit hj hd (fun H1 locs1 hP1 hD1 hS1 => kk H1 locs1 ls ⟨(zw_put E (F.2.2 q (by rw [hq]; exact hM)) (zw_put2 E st x hq hji)) ▸ hP1, zw_D _ hJ.2.1, hS1⟩ hL)
theorem zg_getI3 (F : zw_F p m c cc nL s args own E kM) (hM : 3 < kM) {q : Nat} (hq : zw_kind q = 3) (j : Nat) (hj : j < 6) (x : Int32) (hv : ([.int (st q 0), .int (st q 1), .int (st q 2), .int (st q 3), .int (st q 4), .int (st q 5)] : List Value)[j]? = some (.int (st q j))) (hx : st q j = x) {index : Nat} (hw : Cond.fieldLink own index (zT3 j).1 (zT3 j).2.1 (zT3 j).2.2.1 ∈ zwAll) (hd : decode cc pc = .ok (.getfield index, 3)) (kk : zw_G p l e R s m args below meth c Q E A nL k (pc + 3) L (.int x :: stk) st) : zw_G p l e R s m args below meth c Q E A nL k pc L (.ref q :: stk) st := fun H locs ls hJ hL =>
  va_get (D := E.1) (C := zR3) (T := zT3) (N := 6) (ci := 3) F.1.1 F.1.2.1 F.1.2.2.2.2 zw_in3 F.1.2.2.2.1 F.2.1 hJ.1 q (by rw [zw_get E st (F.2.2 q (by rw [hq]; exact hM)), zw_ent3 E st hq]) rfl j hj (F.1.2.2.2.2 _ hw) (fun _ h => h) (hx ▸ hv) hd (kk H locs ls hJ hL)
theorem zg_putI3 (F : zw_F p m c cc nL s args own E kM) (hM : 3 < kM) {q : Nat} (hq : zw_kind q = 3) (j : Nat) (hj : j < 6) (hji : j = 0 ∨ j = 1 ∨ j = 2 ∨ j = 3 ∨ j = 4 ∨ j = 5) {x : Int32} (ty : FieldType) (ht : parseFieldDescriptor (zT3 j).2.2.1 = some ty) (hf : (zT3 j).2.2.2 = false) (hn : narrow ty (.int x) = .int x) (hfit : fits ty (.int x) = true) {index : Nat} (hw : Cond.fieldLink own index (zT3 j).1 (zT3 j).2.1 (zT3 j).2.2.1 ∈ zwAll) (hd : decode cc pc = .ok (.putfield index, 3)) (kk : zw_G p l e R s m args below meth c Q E A nL k (pc + 3) L stk (zp st q j x)) : zw_G p l e R s m args below meth c Q E A nL k pc L (.int x :: .ref q :: stk) st := fun H locs ls hJ hL =>
  va_put (D := E.1) (fs := [.int (st q 0), .int (st q 1), .int (st q 2), .int (st q 3), .int (st q 4), .int (st q 5)]) (C := zR3) (T := zT3) (N := 6) (ci := 3) F.1.1 F.1.2.1 F.1.2.2.2.2 zw_in3 zY3 zw_ty3 zw_nm3 F.1.2.2.2.1 F.2.1 hJ.1 hJ.2.1 hJ.2.2 q (by rw [zw_get E st (F.2.2 q (by rw [hq]; exact hM)), zw_ent3 E st hq]) rfl j hj (F.1.2.2.2.2 _ hw) (fun _ h => h) hf ht hn hfit hj hd (fun H1 locs1 hP1 hD1 hS1 => kk H1 locs1 ls ⟨(zw_put E (F.2.2 q (by rw [hq]; exact hM)) (zw_put3 E st x hq hji)) ▸ hP1, zw_D _ hJ.2.1, hS1⟩ hL)
theorem zg_getI4 (F : zw_F p m c cc nL s args own E kM) (hM : 4 < kM) {q : Nat} (hq : zw_kind q = 4) (j : Nat) (hj : j < 5) (x : Int32) (hv : ([.ref (E.2.2.1 36), .ref (E.2.2.1 37), .ref (E.2.2.1 38), .ref (E.2.2.1 39), .int (st q 4)] : List Value)[j]? = some (.int (st q j))) (hx : st q j = x) {index : Nat} (hw : Cond.fieldLink own index (zT4 j).1 (zT4 j).2.1 (zT4 j).2.2.1 ∈ zwAll) (hd : decode cc pc = .ok (.getfield index, 3)) (kk : zw_G p l e R s m args below meth c Q E A nL k (pc + 3) L (.int x :: stk) st) : zw_G p l e R s m args below meth c Q E A nL k pc L (.ref q :: stk) st := fun H locs ls hJ hL =>
  va_get (D := E.1) (C := zR4) (T := zT4) (N := 5) (ci := 4) F.1.1 F.1.2.1 F.1.2.2.2.2 zw_in4 F.1.2.2.2.1 F.2.1 hJ.1 q (by rw [zw_get E st (F.2.2 q (by rw [hq]; exact hM)), zw_ent4 E st hq]) rfl j hj (F.1.2.2.2.2 _ hw) (fun _ h => h) (hx ▸ hv) hd (kk H locs ls hJ hL)
theorem zg_getR4 (F : zw_F p m c cc nL s args own E kM) (hM : 4 < kM) {q : Nat} (hq : zw_kind q = 4) (j : Nat) (hj : j < 5) (r : Nat) (hv : ([.ref (E.2.2.1 36), .ref (E.2.2.1 37), .ref (E.2.2.1 38), .ref (E.2.2.1 39), .int (st q 4)] : List Value)[j]? = some (.ref (E.2.2.1 r))) {index : Nat} (hw : Cond.fieldLink own index (zT4 j).1 (zT4 j).2.1 (zT4 j).2.2.1 ∈ zwAll) (hd : decode cc pc = .ok (.getfield index, 3)) (kk : zw_G p l e R s m args below meth c Q E A nL k (pc + 3) L (.ref r :: stk) st) : zw_G p l e R s m args below meth c Q E A nL k pc L (.ref q :: stk) st := fun H locs ls hJ hL =>
  va_get (D := E.1) (C := zR4) (T := zT4) (N := 5) (ci := 4) F.1.1 F.1.2.1 F.1.2.2.2.2 zw_in4 F.1.2.2.2.1 F.2.1 hJ.1 q (by rw [zw_get E st (F.2.2 q (by rw [hq]; exact hM)), zw_ent4 E st hq]) rfl j hj (F.1.2.2.2.2 _ hw) (fun _ h => h) hv hd (kk H locs ls hJ hL)
theorem zg_putI4 (F : zw_F p m c cc nL s args own E kM) (hM : 4 < kM) {q : Nat} (hq : zw_kind q = 4) (j : Nat) (hj : j < 5) (hji : j = 4) {x : Int32} (ty : FieldType) (ht : parseFieldDescriptor (zT4 j).2.2.1 = some ty) (hf : (zT4 j).2.2.2 = false) (hn : narrow ty (.int x) = .int x) (hfit : fits ty (.int x) = true) {index : Nat} (hw : Cond.fieldLink own index (zT4 j).1 (zT4 j).2.1 (zT4 j).2.2.1 ∈ zwAll) (hd : decode cc pc = .ok (.putfield index, 3)) (kk : zw_G p l e R s m args below meth c Q E A nL k (pc + 3) L stk (zp st q j x)) : zw_G p l e R s m args below meth c Q E A nL k pc L (.int x :: .ref q :: stk) st := fun H locs ls hJ hL =>
  va_put (D := E.1) (fs := [.ref (E.2.2.1 36), .ref (E.2.2.1 37), .ref (E.2.2.1 38), .ref (E.2.2.1 39), .int (st q 4)]) (C := zR4) (T := zT4) (N := 5) (ci := 4) F.1.1 F.1.2.1 F.1.2.2.2.2 zw_in4 zY4 zw_ty4 zw_nm4 F.1.2.2.2.1 F.2.1 hJ.1 hJ.2.1 hJ.2.2 q (by rw [zw_get E st (F.2.2 q (by rw [hq]; exact hM)), zw_ent4 E st hq]) rfl j hj (F.1.2.2.2.2 _ hw) (fun _ h => h) hf ht hn hfit hj hd (fun H1 locs1 hP1 hD1 hS1 => kk H1 locs1 ls ⟨(zw_put E (F.2.2 q (by rw [hq]; exact hM)) (zw_put4 E st x hq hji)) ▸ hP1, zw_D _ hJ.2.1, hS1⟩ hL)
theorem zg_getI10 (F : zw_F p m c cc nL s args own E kM) (hM : 10 < kM) {q : Nat} (hq : zw_kind q = 10) (j : Nat) (hj : j < 23) (x : Int32) (hv : ([.int (st q 0), .int (st q 1), .int (st q 2), .int (st q 3), .ref (E.2.2.1 41), .ref (E.2.2.1 42), .ref (E.2.2.1 43), .ref (E.2.2.1 44), .ref (E.2.2.1 45), .ref (E.2.2.1 46), .ref (E.2.2.1 47), .ref (E.2.2.1 48), .int (st q 12), .ref (E.2.2.1 49), .ref (E.2.2.1 50), .ref (E.2.2.1 51), .ref (E.2.2.1 52), .ref (E.2.2.1 53), .ref (E.2.2.1 54), .int (st q 19), .int (st q 20), .ref (E.2.2.1 55), .int (st q 22)] : List Value)[j]? = some (.int (st q j))) (hx : st q j = x) {index : Nat} (hw : Cond.fieldLink own index (zT10 j).1 (zT10 j).2.1 (zT10 j).2.2.1 ∈ zwAll) (hd : decode cc pc = .ok (.getfield index, 3)) (kk : zw_G p l e R s m args below meth c Q E A nL k (pc + 3) L (.int x :: stk) st) : zw_G p l e R s m args below meth c Q E A nL k pc L (.ref q :: stk) st := fun H locs ls hJ hL =>
  va_get (D := E.1) (C := zR10) (T := zT10) (N := 23) (ci := 5) F.1.1 F.1.2.1 F.1.2.2.2.2 zw_in10 F.1.2.2.2.1 F.2.1 hJ.1 q (by rw [zw_get E st (F.2.2 q (by rw [hq]; exact hM)), zw_ent10 E st hq]) rfl j hj (F.1.2.2.2.2 _ hw) (fun _ h => h) (hx ▸ hv) hd (kk H locs ls hJ hL)
theorem zg_getR10 (F : zw_F p m c cc nL s args own E kM) (hM : 10 < kM) {q : Nat} (hq : zw_kind q = 10) (j : Nat) (hj : j < 23) (r : Nat) (hv : ([.int (st q 0), .int (st q 1), .int (st q 2), .int (st q 3), .ref (E.2.2.1 41), .ref (E.2.2.1 42), .ref (E.2.2.1 43), .ref (E.2.2.1 44), .ref (E.2.2.1 45), .ref (E.2.2.1 46), .ref (E.2.2.1 47), .ref (E.2.2.1 48), .int (st q 12), .ref (E.2.2.1 49), .ref (E.2.2.1 50), .ref (E.2.2.1 51), .ref (E.2.2.1 52), .ref (E.2.2.1 53), .ref (E.2.2.1 54), .int (st q 19), .int (st q 20), .ref (E.2.2.1 55), .int (st q 22)] : List Value)[j]? = some (.ref (E.2.2.1 r))) {index : Nat} (hw : Cond.fieldLink own index (zT10 j).1 (zT10 j).2.1 (zT10 j).2.2.1 ∈ zwAll) (hd : decode cc pc = .ok (.getfield index, 3)) (kk : zw_G p l e R s m args below meth c Q E A nL k (pc + 3) L (.ref r :: stk) st) : zw_G p l e R s m args below meth c Q E A nL k pc L (.ref q :: stk) st := fun H locs ls hJ hL =>
  va_get (D := E.1) (C := zR10) (T := zT10) (N := 23) (ci := 5) F.1.1 F.1.2.1 F.1.2.2.2.2 zw_in10 F.1.2.2.2.1 F.2.1 hJ.1 q (by rw [zw_get E st (F.2.2 q (by rw [hq]; exact hM)), zw_ent10 E st hq]) rfl j hj (F.1.2.2.2.2 _ hw) (fun _ h => h) hv hd (kk H locs ls hJ hL)
theorem zg_putI10 (F : zw_F p m c cc nL s args own E kM) (hM : 10 < kM) {q : Nat} (hq : zw_kind q = 10) (j : Nat) (hj : j < 23) (hji : j = 0 ∨ j = 1 ∨ j = 2 ∨ j = 3 ∨ j = 12 ∨ j = 19 ∨ j = 20 ∨ j = 22) {x : Int32} (ty : FieldType) (ht : parseFieldDescriptor (zT10 j).2.2.1 = some ty) (hf : (zT10 j).2.2.2 = false) (hn : narrow ty (.int x) = .int x) (hfit : fits ty (.int x) = true) {index : Nat} (hw : Cond.fieldLink own index (zT10 j).1 (zT10 j).2.1 (zT10 j).2.2.1 ∈ zwAll) (hd : decode cc pc = .ok (.putfield index, 3)) (kk : zw_G p l e R s m args below meth c Q E A nL k (pc + 3) L stk (zp st q j x)) : zw_G p l e R s m args below meth c Q E A nL k pc L (.int x :: .ref q :: stk) st := fun H locs ls hJ hL =>
  va_put (D := E.1) (fs := [.int (st q 0), .int (st q 1), .int (st q 2), .int (st q 3), .ref (E.2.2.1 41), .ref (E.2.2.1 42), .ref (E.2.2.1 43), .ref (E.2.2.1 44), .ref (E.2.2.1 45), .ref (E.2.2.1 46), .ref (E.2.2.1 47), .ref (E.2.2.1 48), .int (st q 12), .ref (E.2.2.1 49), .ref (E.2.2.1 50), .ref (E.2.2.1 51), .ref (E.2.2.1 52), .ref (E.2.2.1 53), .ref (E.2.2.1 54), .int (st q 19), .int (st q 20), .ref (E.2.2.1 55), .int (st q 22)]) (C := zR10) (T := zT10) (N := 23) (ci := 5) F.1.1 F.1.2.1 F.1.2.2.2.2 zw_in10 zY10 zw_ty10 zw_nm10 F.1.2.2.2.1 F.2.1 hJ.1 hJ.2.1 hJ.2.2 q (by rw [zw_get E st (F.2.2 q (by rw [hq]; exact hM)), zw_ent10 E st hq]) rfl j hj (F.1.2.2.2.2 _ hw) (fun _ h => h) hf ht hn hfit hj hd (fun H1 locs1 hP1 hD1 hS1 => kk H1 locs1 ls ⟨(zw_put E (F.2.2 q (by rw [hq]; exact hM)) (zw_put10 E st x hq hji)) ▸ hP1, zw_D _ hJ.2.1, hS1⟩ hL)
theorem zw_puta5 (E : zE) (st : zS) {q : Nat} (pl : Nat) (x : Int32) (h : zw_kind q = 5) : zw_ent E (zp st q pl x) q = .inl (E.2.1 0, 10, .inl (upd (st q) pl x)) := by rw [zw_ent5 E _ h, zp_upd]
theorem zg_ald5 (F : zw_F p m c cc nL s args own E kM) (hM : 5 < kM) {q : Nat} (hq : zw_kind q = 5) {i : Int32} (hin : vp_in i 10) (pl : Nat) (hpl : i.toNatClampNeg = pl) (x : Int32) (hx : st q pl = x) (hd : decode cc pc = .ok (.iaload, 1)) (kk : zw_G p l e R s m args below meth c Q E A nL k (pc + 1) L (.int x :: stk) st) : zw_G p l e R s m args below meth c Q E A nL k pc L (.int i :: .ref q :: stk) st := fun H locs ls hJ hL =>
  va_iald (D := E.1) (cl := zwCl) (tys := zw_ty E) F.1.1 F.1.2.1 F.2.1 hJ.1 q 0 (by rw [zw_get E st (F.2.2 q (by rw [hq]; exact hM)), zw_ent5 E st hq]) rfl hin hd (by subst hpl; subst hx; exact kk H locs ls hJ hL)
theorem zg_ast5 (F : zw_F p m c cc nL s args own E kM) (hM : 5 < kM) {q : Nat} (hq : zw_kind q = 5) {i x : Int32} (hin : vp_in i 10) (pl : Nat) (hpl : i.toNatClampNeg = pl) (hd : decode cc pc = .ok (.iastore, 1)) (kk : zw_G p l e R s m args below meth c Q E A nL k (pc + 1) L stk (zp st q pl x)) : zw_G p l e R s m args below meth c Q E A nL k pc L (.int x :: .int i :: .ref q :: stk) st := fun H locs ls hJ hL => by
  subst hpl
  refine va_iast (D := E.1) (cl := zwCl) (tys := zw_ty E) (f := st q) F.1.1 F.1.2.1 F.2.1 hJ.1 hJ.2.1 hJ.2.2 q 0 (by rw [zw_get E st (F.2.2 q (by rw [hq]; exact hM)), zw_ent5 E st hq]) rfl hin hd (fun H1 locs1 hP1 hD1 hS1 => ?_)
  rw [zw_put E (F.2.2 q (by rw [hq]; exact hM)) (zw_puta5 E st _ x hq)] at hP1
  exact kk H1 locs1 ls ⟨hP1, zw_D _ hJ.2.1, hS1⟩ hL
theorem zw_puta8 (E : zE) (st : zS) {q : Nat} (pl : Nat) (x : Int32) (h : zw_kind q = 8) : zw_ent E (zp st q pl x) q = .inl (E.2.1 0, 30, .inl (upd (st q) pl x)) := by rw [zw_ent8 E _ h, zp_upd]
theorem zg_ald8 (F : zw_F p m c cc nL s args own E kM) (hM : 8 < kM) {q : Nat} (hq : zw_kind q = 8) {i : Int32} (hin : vp_in i 30) (pl : Nat) (hpl : i.toNatClampNeg = pl) (x : Int32) (hx : st q pl = x) (hd : decode cc pc = .ok (.iaload, 1)) (kk : zw_G p l e R s m args below meth c Q E A nL k (pc + 1) L (.int x :: stk) st) : zw_G p l e R s m args below meth c Q E A nL k pc L (.int i :: .ref q :: stk) st := fun H locs ls hJ hL =>
  va_iald (D := E.1) (cl := zwCl) (tys := zw_ty E) F.1.1 F.1.2.1 F.2.1 hJ.1 q 0 (by rw [zw_get E st (F.2.2 q (by rw [hq]; exact hM)), zw_ent8 E st hq]) rfl hin hd (by subst hpl; subst hx; exact kk H locs ls hJ hL)
theorem zg_ast8 (F : zw_F p m c cc nL s args own E kM) (hM : 8 < kM) {q : Nat} (hq : zw_kind q = 8) {i x : Int32} (hin : vp_in i 30) (pl : Nat) (hpl : i.toNatClampNeg = pl) (hd : decode cc pc = .ok (.iastore, 1)) (kk : zw_G p l e R s m args below meth c Q E A nL k (pc + 1) L stk (zp st q pl x)) : zw_G p l e R s m args below meth c Q E A nL k pc L (.int x :: .int i :: .ref q :: stk) st := fun H locs ls hJ hL => by
  subst hpl
  refine va_iast (D := E.1) (cl := zwCl) (tys := zw_ty E) (f := st q) F.1.1 F.1.2.1 F.2.1 hJ.1 hJ.2.1 hJ.2.2 q 0 (by rw [zw_get E st (F.2.2 q (by rw [hq]; exact hM)), zw_ent8 E st hq]) rfl hin hd (fun H1 locs1 hP1 hD1 hS1 => ?_)
  rw [zw_put E (F.2.2 q (by rw [hq]; exact hM)) (zw_puta8 E st _ x hq)] at hP1
  exact kk H1 locs1 ls ⟨hP1, zw_D _ hJ.2.1, hS1⟩ hL
theorem zw_puta11 (E : zE) (st : zS) {q : Nat} (pl : Nat) (x : Int32) (h : zw_kind q = 11) : zw_ent E (zp st q pl x) q = .inl (E.2.1 0, 5, .inl (upd (st q) pl x)) := by rw [zw_ent11 E _ h, zp_upd]
theorem zg_ald11 (F : zw_F p m c cc nL s args own E kM) (hM : 11 < kM) {q : Nat} (hq : zw_kind q = 11) {i : Int32} (hin : vp_in i 5) (pl : Nat) (hpl : i.toNatClampNeg = pl) (x : Int32) (hx : st q pl = x) (hd : decode cc pc = .ok (.iaload, 1)) (kk : zw_G p l e R s m args below meth c Q E A nL k (pc + 1) L (.int x :: stk) st) : zw_G p l e R s m args below meth c Q E A nL k pc L (.int i :: .ref q :: stk) st := fun H locs ls hJ hL =>
  va_iald (D := E.1) (cl := zwCl) (tys := zw_ty E) F.1.1 F.1.2.1 F.2.1 hJ.1 q 0 (by rw [zw_get E st (F.2.2 q (by rw [hq]; exact hM)), zw_ent11 E st hq]) rfl hin hd (by subst hpl; subst hx; exact kk H locs ls hJ hL)
theorem zg_ast11 (F : zw_F p m c cc nL s args own E kM) (hM : 11 < kM) {q : Nat} (hq : zw_kind q = 11) {i x : Int32} (hin : vp_in i 5) (pl : Nat) (hpl : i.toNatClampNeg = pl) (hd : decode cc pc = .ok (.iastore, 1)) (kk : zw_G p l e R s m args below meth c Q E A nL k (pc + 1) L stk (zp st q pl x)) : zw_G p l e R s m args below meth c Q E A nL k pc L (.int x :: .int i :: .ref q :: stk) st := fun H locs ls hJ hL => by
  subst hpl
  refine va_iast (D := E.1) (cl := zwCl) (tys := zw_ty E) (f := st q) F.1.1 F.1.2.1 F.2.1 hJ.1 hJ.2.1 hJ.2.2 q 0 (by rw [zw_get E st (F.2.2 q (by rw [hq]; exact hM)), zw_ent11 E st hq]) rfl hin hd (fun H1 locs1 hP1 hD1 hS1 => ?_)
  rw [zw_put E (F.2.2 q (by rw [hq]; exact hM)) (zw_puta11 E st _ x hq)] at hP1
  exact kk H1 locs1 ls ⟨hP1, zw_D _ hJ.2.1, hS1⟩ hL
theorem zw_puta12 (E : zE) (st : zS) {q : Nat} (pl : Nat) (x : Int32) (h : zw_kind q = 12) : zw_ent E (zp st q pl x) q = .inl (E.2.1 1, 5, .inl (upd (st q) pl x)) := by rw [zw_ent12 E _ h, zp_upd]
theorem zg_ald12 (F : zw_F p m c cc nL s args own E kM) (hM : 12 < kM) {q : Nat} (hq : zw_kind q = 12) {i : Int32} (hin : vp_in i 5) (pl : Nat) (hpl : i.toNatClampNeg = pl) (x : Int32) (hx : st q pl = x) (hd : decode cc pc = .ok (.baload, 1)) (kk : zw_G p l e R s m args below meth c Q E A nL k (pc + 1) L (.int x :: stk) st) : zw_G p l e R s m args below meth c Q E A nL k pc L (.int i :: .ref q :: stk) st := fun H locs ls hJ hL =>
  va_zald (D := E.1) (cl := zwCl) (tys := zw_ty E) F.1.1 F.1.2.1 F.2.1 hJ.1 q 1 (by rw [zw_get E st (F.2.2 q (by rw [hq]; exact hM)), zw_ent12 E st hq]) rfl hin hd (by subst hpl; subst hx; exact kk H locs ls hJ hL)
theorem zg_ast12 (F : zw_F p m c cc nL s args own E kM) (hM : 12 < kM) {q : Nat} (hq : zw_kind q = 12) {i x : Int32} (hin : vp_in i 5) (hb : vp_nar .boolean x = x) (pl : Nat) (hpl : i.toNatClampNeg = pl) (hd : decode cc pc = .ok (.bastore, 1)) (kk : zw_G p l e R s m args below meth c Q E A nL k (pc + 1) L stk (zp st q pl x)) : zw_G p l e R s m args below meth c Q E A nL k pc L (.int x :: .int i :: .ref q :: stk) st := fun H locs ls hJ hL => by
  subst hpl
  refine va_zast (D := E.1) (cl := zwCl) (tys := zw_ty E) (f := st q) F.1.1 F.1.2.1 F.2.1 hJ.1 hJ.2.1 hJ.2.2 q 1 (by rw [zw_get E st (F.2.2 q (by rw [hq]; exact hM)), zw_ent12 E st hq]) rfl hin hd (fun H1 locs1 hP1 hD1 hS1 => ?_)
  rw [hb] at hP1
  rw [zw_put E (F.2.2 q (by rw [hq]; exact hM)) (zw_puta12 E st _ x hq)] at hP1
  exact kk H1 locs1 ls ⟨hP1, zw_D _ hJ.2.1, hS1⟩ hL
theorem zw_puta13 (E : zE) (st : zS) {q : Nat} (pl : Nat) (x : Int32) (h : zw_kind q = 13) : zw_ent E (zp st q pl x) q = .inl (E.2.1 0, 48, .inl (upd (st q) pl x)) := by rw [zw_ent13 E _ h, zp_upd]
theorem zg_ald13 (F : zw_F p m c cc nL s args own E kM) (hM : 13 < kM) {q : Nat} (hq : zw_kind q = 13) {i : Int32} (hin : vp_in i 48) (pl : Nat) (hpl : i.toNatClampNeg = pl) (x : Int32) (hx : st q pl = x) (hd : decode cc pc = .ok (.iaload, 1)) (kk : zw_G p l e R s m args below meth c Q E A nL k (pc + 1) L (.int x :: stk) st) : zw_G p l e R s m args below meth c Q E A nL k pc L (.int i :: .ref q :: stk) st := fun H locs ls hJ hL =>
  va_iald (D := E.1) (cl := zwCl) (tys := zw_ty E) F.1.1 F.1.2.1 F.2.1 hJ.1 q 0 (by rw [zw_get E st (F.2.2 q (by rw [hq]; exact hM)), zw_ent13 E st hq]) rfl hin hd (by subst hpl; subst hx; exact kk H locs ls hJ hL)
theorem zg_ast13 (F : zw_F p m c cc nL s args own E kM) (hM : 13 < kM) {q : Nat} (hq : zw_kind q = 13) {i x : Int32} (hin : vp_in i 48) (pl : Nat) (hpl : i.toNatClampNeg = pl) (hd : decode cc pc = .ok (.iastore, 1)) (kk : zw_G p l e R s m args below meth c Q E A nL k (pc + 1) L stk (zp st q pl x)) : zw_G p l e R s m args below meth c Q E A nL k pc L (.int x :: .int i :: .ref q :: stk) st := fun H locs ls hJ hL => by
  subst hpl
  refine va_iast (D := E.1) (cl := zwCl) (tys := zw_ty E) (f := st q) F.1.1 F.1.2.1 F.2.1 hJ.1 hJ.2.1 hJ.2.2 q 0 (by rw [zw_get E st (F.2.2 q (by rw [hq]; exact hM)), zw_ent13 E st hq]) rfl hin hd (fun H1 locs1 hP1 hD1 hS1 => ?_)
  rw [zw_put E (F.2.2 q (by rw [hq]; exact hM)) (zw_puta13 E st _ x hq)] at hP1
  exact kk H1 locs1 ls ⟨hP1, zw_D _ hJ.2.1, hS1⟩ hL
theorem zw_puta14 (E : zE) (st : zS) {q : Nat} (pl : Nat) (x : Int32) (h : zw_kind q = 14) : zw_ent E (zp st q pl x) q = .inl (E.2.1 0, 24, .inl (upd (st q) pl x)) := by rw [zw_ent14 E _ h, zp_upd]
theorem zg_ald14 (F : zw_F p m c cc nL s args own E kM) (hM : 14 < kM) {q : Nat} (hq : zw_kind q = 14) {i : Int32} (hin : vp_in i 24) (pl : Nat) (hpl : i.toNatClampNeg = pl) (x : Int32) (hx : st q pl = x) (hd : decode cc pc = .ok (.iaload, 1)) (kk : zw_G p l e R s m args below meth c Q E A nL k (pc + 1) L (.int x :: stk) st) : zw_G p l e R s m args below meth c Q E A nL k pc L (.int i :: .ref q :: stk) st := fun H locs ls hJ hL =>
  va_iald (D := E.1) (cl := zwCl) (tys := zw_ty E) F.1.1 F.1.2.1 F.2.1 hJ.1 q 0 (by rw [zw_get E st (F.2.2 q (by rw [hq]; exact hM)), zw_ent14 E st hq]) rfl hin hd (by subst hpl; subst hx; exact kk H locs ls hJ hL)
theorem zg_ast14 (F : zw_F p m c cc nL s args own E kM) (hM : 14 < kM) {q : Nat} (hq : zw_kind q = 14) {i x : Int32} (hin : vp_in i 24) (pl : Nat) (hpl : i.toNatClampNeg = pl) (hd : decode cc pc = .ok (.iastore, 1)) (kk : zw_G p l e R s m args below meth c Q E A nL k (pc + 1) L stk (zp st q pl x)) : zw_G p l e R s m args below meth c Q E A nL k pc L (.int x :: .int i :: .ref q :: stk) st := fun H locs ls hJ hL => by
  subst hpl
  refine va_iast (D := E.1) (cl := zwCl) (tys := zw_ty E) (f := st q) F.1.1 F.1.2.1 F.2.1 hJ.1 hJ.2.1 hJ.2.2 q 0 (by rw [zw_get E st (F.2.2 q (by rw [hq]; exact hM)), zw_ent14 E st hq]) rfl hin hd (fun H1 locs1 hP1 hD1 hS1 => ?_)
  rw [zw_put E (F.2.2 q (by rw [hq]; exact hM)) (zw_puta14 E st _ x hq)] at hP1
  exact kk H1 locs1 ls ⟨hP1, zw_D _ hJ.2.1, hS1⟩ hL
theorem zw_puta15 (E : zE) (st : zS) {q : Nat} (pl : Nat) (x : Int32) (h : zw_kind q = 15) : zw_ent E (zp st q pl x) q = .inl (E.2.1 0, 120, .inl (upd (st q) pl x)) := by rw [zw_ent15 E _ h, zp_upd]
theorem zg_ald15 (F : zw_F p m c cc nL s args own E kM) (hM : 15 < kM) {q : Nat} (hq : zw_kind q = 15) {i : Int32} (hin : vp_in i 120) (pl : Nat) (hpl : i.toNatClampNeg = pl) (x : Int32) (hx : st q pl = x) (hd : decode cc pc = .ok (.iaload, 1)) (kk : zw_G p l e R s m args below meth c Q E A nL k (pc + 1) L (.int x :: stk) st) : zw_G p l e R s m args below meth c Q E A nL k pc L (.int i :: .ref q :: stk) st := fun H locs ls hJ hL =>
  va_iald (D := E.1) (cl := zwCl) (tys := zw_ty E) F.1.1 F.1.2.1 F.2.1 hJ.1 q 0 (by rw [zw_get E st (F.2.2 q (by rw [hq]; exact hM)), zw_ent15 E st hq]) rfl hin hd (by subst hpl; subst hx; exact kk H locs ls hJ hL)
theorem zg_ast15 (F : zw_F p m c cc nL s args own E kM) (hM : 15 < kM) {q : Nat} (hq : zw_kind q = 15) {i x : Int32} (hin : vp_in i 120) (pl : Nat) (hpl : i.toNatClampNeg = pl) (hd : decode cc pc = .ok (.iastore, 1)) (kk : zw_G p l e R s m args below meth c Q E A nL k (pc + 1) L stk (zp st q pl x)) : zw_G p l e R s m args below meth c Q E A nL k pc L (.int x :: .int i :: .ref q :: stk) st := fun H locs ls hJ hL => by
  subst hpl
  refine va_iast (D := E.1) (cl := zwCl) (tys := zw_ty E) (f := st q) F.1.1 F.1.2.1 F.2.1 hJ.1 hJ.2.1 hJ.2.2 q 0 (by rw [zw_get E st (F.2.2 q (by rw [hq]; exact hM)), zw_ent15 E st hq]) rfl hin hd (fun H1 locs1 hP1 hD1 hS1 => ?_)
  rw [zw_put E (F.2.2 q (by rw [hq]; exact hM)) (zw_puta15 E st _ x hq)] at hP1
  exact kk H1 locs1 ls ⟨hP1, zw_D _ hJ.2.1, hS1⟩ hL
theorem zg_ald6 (F : zw_F p m c cc nL s args own E kM) (hM : 6 < kM) {q : Nat} (hq : zw_kind q = 6) {i : Int32} (hin : vp_in i 4) (pl : Nat) (hpl : i.toNatClampNeg = pl) (hd : decode cc pc = .ok (.aaload, 1)) (kk : zw_G p l e R s m args below meth c Q E A nL k (pc + 1) L (.ref (5 + pl) :: stk) st) : zw_G p l e R s m args below meth c Q E A nL k pc L (.int i :: .ref q :: stk) st := fun H locs ls hJ hL =>
  va_aldq (D := E.1) (cl := zwCl) (tys := zw_ty E) F.1.1 F.1.2.1 F.2.1 hJ.1 q 2 (by rw [zw_get E st (F.2.2 q (by rw [hq]; exact hM)), zw_ent6 E st hq]) rfl hin hd (by subst hpl; exact kk H locs ls hJ hL)
theorem zg_ald7 (F : zw_F p m c cc nL s args own E kM) (hM : 7 < kM) {q : Nat} (hq : zw_kind q = 7) {i : Int32} (hin : vp_in i 24) (pl : Nat) (hpl : i.toNatClampNeg = pl) (hd : decode cc pc = .ok (.aaload, 1)) (kk : zw_G p l e R s m args below meth c Q E A nL k (pc + 1) L (.ref (11 + pl) :: stk) st) : zw_G p l e R s m args below meth c Q E A nL k pc L (.int i :: .ref q :: stk) st := fun H locs ls hJ hL =>
  va_aldq (D := E.1) (cl := zwCl) (tys := zw_ty E) F.1.1 F.1.2.1 F.2.1 hJ.1 q 3 (by rw [zw_get E st (F.2.2 q (by rw [hq]; exact hM)), zw_ent7 E st hq]) rfl hin hd (by subst hpl; exact kk H locs ls hJ hL)
theorem zg_lald (F : zw_F p m c cc nL s args own E kM) (hM : 16 < kM) {q : Nat} (hq : zw_kind q = 16) {i : Int32} (hin : vp_in i 1) (pl : Nat) (hpl : i.toNatClampNeg = pl) (x : Int32) (hx : st q pl = x) (hd : decode cc pc = .ok (.laload, 1)) (kk : zw_G p l e R s m args below meth c Q E A nL k (pc + 1) L (.long x.toInt64 :: stk) st) : zw_G p l e R s m args below meth c Q E A nL k pc L (.int i :: .ref q :: stk) st := fun H locs ls hJ hL =>
  va_lald (D := E.1) (cl := zwCl) (tys := zw_ty E) F.1.1 F.1.2.1 F.2.1 hJ.1 q 4 (by rw [zw_get E st (F.2.2 q (by rw [hq]; exact hM)), zw_ent16 E st hq]) rfl hin hd (by subst hpl; subst hx; exact kk H locs ls hJ hL)
theorem zg_last (F : zw_F p m c cc nL s args own E kM) (hM : 16 < kM) {q : Nat} (hq : zw_kind q = 16) {i x : Int32} {v : Int64} (hin : vp_in i 1) (hx : x.toInt64 = v) (pl : Nat) (hpl : i.toNatClampNeg = pl) (hd : decode cc pc = .ok (.lastore, 1)) (kk : zw_G p l e R s m args below meth c Q E A nL k (pc + 1) L stk (zp st q pl x)) : zw_G p l e R s m args below meth c Q E A nL k pc L (.long v :: .int i :: .ref q :: stk) st := fun H locs ls hJ hL => by
  subst hpl; subst hx
  refine va_last (D := E.1) (cl := zwCl) (tys := zw_ty E) (f := fun j => (st q j).toInt64) F.1.1 F.1.2.1 F.2.1 hJ.1 hJ.2.1 hJ.2.2 q 4 (by rw [zw_get E st (F.2.2 q (by rw [hq]; exact hM)), zw_ent16 E st hq]) rfl hin hd (fun H1 locs1 hP1 hD1 hS1 => ?_)
  have e9 : zw_ent E (zp st q i.toNatClampNeg x) q = .inl (E.2.1 4, 1, .inr (.inl (vp_updL (fun j => (st q j).toInt64) i.toNatClampNeg x.toInt64))) := by
    rw [zw_ent16 E _ hq, zp_upd]; congr 5; funext b; unfold upd vp_updL; split <;> rfl
  rw [zw_put E (F.2.2 q (by rw [hq]; exact hM)) e9] at hP1
  exact kk H1 locs1 ls ⟨hP1, zw_D _ hJ.2.1, hS1⟩ hL
theorem zg_rec0 (F : zw_F p m c cc nL s args own E kM) (hM : 0 < kM) {q : Nat} (hq : zw_kind q = 0) (H : Heap) (locs : List Loc) (hJ : zw_J E A s.heap st H locs) : ∃ cell : Cell, H[E.2.2.1 q]? = some cell ∧ cell.vm.isStatics = false ∧ s.vm.findClass zR0 = some cell.cls :=
  va_recv F.2.1 hJ.1 (q := (zR0, zT0, 12)) (ci := 0) rfl (by rw [zw_get E st (F.2.2 q (by rw [hq]; exact hM)), zw_ent0 E st hq])
theorem zg_rec1 (F : zw_F p m c cc nL s args own E kM) (hM : 1 < kM) {q : Nat} (hq : zw_kind q = 1) (H : Heap) (locs : List Loc) (hJ : zw_J E A s.heap st H locs) : ∃ cell : Cell, H[E.2.2.1 q]? = some cell ∧ cell.vm.isStatics = false ∧ s.vm.findClass zR1 = some cell.cls :=
  va_recv F.2.1 hJ.1 (q := (zR1, zT1, 5)) (ci := 1) rfl (by rw [zw_get E st (F.2.2 q (by rw [hq]; exact hM)), zw_ent1 E st hq])
theorem zg_rec2 (F : zw_F p m c cc nL s args own E kM) (hM : 2 < kM) {q : Nat} (hq : zw_kind q = 2) (H : Heap) (locs : List Loc) (hJ : zw_J E A s.heap st H locs) : ∃ cell : Cell, H[E.2.2.1 q]? = some cell ∧ cell.vm.isStatics = false ∧ s.vm.findClass zR2 = some cell.cls :=
  va_recv F.2.1 hJ.1 (q := (zR2, zT2, 13)) (ci := 2) rfl (by rw [zw_get E st (F.2.2 q (by rw [hq]; exact hM)), zw_ent2 E st hq])
theorem zg_rec3 (F : zw_F p m c cc nL s args own E kM) (hM : 3 < kM) {q : Nat} (hq : zw_kind q = 3) (H : Heap) (locs : List Loc) (hJ : zw_J E A s.heap st H locs) : ∃ cell : Cell, H[E.2.2.1 q]? = some cell ∧ cell.vm.isStatics = false ∧ s.vm.findClass zR3 = some cell.cls :=
  va_recv F.2.1 hJ.1 (q := (zR3, zT3, 6)) (ci := 3) rfl (by rw [zw_get E st (F.2.2 q (by rw [hq]; exact hM)), zw_ent3 E st hq])
theorem zg_rec4 (F : zw_F p m c cc nL s args own E kM) (hM : 4 < kM) {q : Nat} (hq : zw_kind q = 4) (H : Heap) (locs : List Loc) (hJ : zw_J E A s.heap st H locs) : ∃ cell : Cell, H[E.2.2.1 q]? = some cell ∧ cell.vm.isStatics = false ∧ s.vm.findClass zR4 = some cell.cls :=
  va_recv F.2.1 hJ.1 (q := (zR4, zT4, 5)) (ci := 4) rfl (by rw [zw_get E st (F.2.2 q (by rw [hq]; exact hM)), zw_ent4 E st hq])
theorem zg_rec10 (F : zw_F p m c cc nL s args own E kM) (hM : 10 < kM) {q : Nat} (hq : zw_kind q = 10) (H : Heap) (locs : List Loc) (hJ : zw_J E A s.heap st H locs) : ∃ cell : Cell, H[E.2.2.1 q]? = some cell ∧ cell.vm.isStatics = false ∧ s.vm.findClass zR10 = some cell.cls :=
  va_recv F.2.1 hJ.1 (q := (zR10, zT10, 23)) (ci := 5) rfl (by rw [zw_get E st (F.2.2 q (by rw [hq]; exact hM)), zw_ent10 E st hq])
theorem zg_recv (F : zw_F p m c cc nL s args own E kM) {ci q : Nat} {r : vw_C} {fs : List Value} (hn : q < E.2.2.2) (he : zw_ent E st q = .inr (ci, fs)) (hc : zwCl[ci]? = some r) {H : Heap} {locs : List Loc} (hJ : zw_J E A s.heap st H locs) : ∃ cell : Cell, H[E.2.2.1 q]? = some cell ∧ cell.vm.isStatics = false ∧ s.vm.findClass r.1 = some cell.cls :=
  va_recv F.2.1 hJ.1 hc (by rw [zw_get E st hn, he])
/-! contracts -/
def zw_B (E : zE) (st : zS) (sz : Nat) (U : State) : Prop := U.heap.size = sz ∧ va_P E.1 zwCl (zw_ws E st) U.heap ∧ va_K E.1 zwCl (zw_ty E) U ∧ va_D (fun _ => True) (zw_ws E st)
def zw_A (E : zE) (sz : Nat) : Nat → Prop := fun a => (∃ q, q < E.2.2.2 ∧ a = E.2.2.1 q) ∨ sz ≤ a
theorem zw_A.sub {E : zE} {a b : Nat} (h : a ≤ b) : ∀ q, zw_A E b q → zw_A E a q := fun q hq => hq.elim Or.inl (fun h2 => Or.inr (Nat.le_trans h h2))
theorem zw_DA {E : zE} {A : Nat → Prop} {st : zS} (sz : Nat) (h : va_D A (zw_ws E st)) : va_D (zw_A E sz) (zw_ws E st) := ⟨h.1, fun k x hx => by
  by_cases hl : k < E.2.2.2
  · rw [zw_get E st hl] at hx
    cases hx
    exact Or.inl ⟨k, hl, rfl⟩
  · rw [zw_getn E st hl] at hx
    cases hx⟩
def zw_Q (E : zE) (v : Option Value) (st' : zS) (A : Nat → Prop) : Array Value → State → Outcome → State → Prop := fun _ s0 oc t => (oc = .returned (v.map (zw_v E.2.2.1)) ∧ va_P E.1 zwCl (zw_ws E st') t.heap) ∧ va_F A s0 t
/-- a method that returns: answer v, state st' -/
def zw_M (l : Launch) (y : MethodName) (ws : List Cond) (rm : Room) (E : zE) (av : List Value) (st : zS) (v : Option Value) (st' : zS) : Prop := ∀ sz, Met l y ws rm (va_Pc (av.map (zw_v E.2.2.1)) (zw_B E st sz)) (zw_Q E v st' (zw_A E sz)) 0 0 (zw_A E sz)
theorem zw_blind (E : zE) (av : List Value) (st : zS) (sz : Nat) : FrameBlind (va_Pc av (zw_B E st sz)) := fun a U g mk q => by
  obtain ⟨q0, q1, qP, qK, qD⟩ := q
  exact ⟨q0, q1, qP, va_K.moved (u := U) (U := U.calling g mk a) (Vm.Alike.refl U.vm) qK, qD⟩
theorem zw_pre {av : List Value} {H : Heap} {locs : List Loc} (F : zw_F p m c cc nL s args own E kM) (hJ : zw_J E A s.heap st H locs) : PreS s H (va_Pc (av.map (zw_v E.2.2.1)) (zw_B E st H.size)) (av.map (zw_v E.2.2.1)) :=
  ⟨zw_blind E _ st _, fun U hU hW => ⟨rfl, by rw [hU], by rw [hU]; exact hJ.1, va_K.moved hW.alike F.2.1, ⟨hJ.2.1.1, fun _ _ _ => trivial⟩⟩⟩
/-- behind a call -/
theorem zg_back {v : Option Value} {st' : zS} {a : Array Value} {st0 rest : List Value} {H : Heap} {locs : List Loc} {ls : Array Slot} (hAs : ∀ q, s.heap.size ≤ q → A q) (hJ : zw_J E A s.heap st H locs) (hL : zw_L E.2.2.1 ls nL L)
    (hr : va_Run p l e R s m args below meth c H locs k (6 * k) 0 0 (F0 m pc ls st0) (rest.map (zw_v E.2.2.1)) (zw_Q E v st' (zw_A E H.size) a) (zw_A E H.size))
    (kk : zw_G p l e R s m args below meth c Q E A nL k (pc + 3) L (v.toList ++ rest) st') : W p l e R s m args below meth c H locs k (6 * k) Q (F0 m pc ls st0) := by
  have hAA : ∀ q, zw_A E H.size q → A q := fun q hq => by
    rcases hq with ⟨i, hi, rfl⟩ | h
    · exact hJ.2.1.2 i _ (zw_get E st hi)
    · exact hAs q (Nat.le_trans hJ.2.2.1 h)
  intro T hT X
  obtain ⟨v0, st₀, t, T', Lo, h0, X', hLo, e1, e2, ⟨⟨hv, hP⟩, hz, hk⟩, st9⟩ := hr T hT X
  have hv := Outcome.returned.inj hv
  subst hv
  rw [h0] at hz hk
  have hJ' : zw_J E A s.heap st' T'.heap (locs ++ Lo) := by
    refine ⟨by rw [e1]; exact hP, zw_D _ hJ.2.1, ?_, ?_, ?_⟩
    · rw [e1]; exact Nat.le_trans hJ.2.2.1 hz
    · intro q h1 h2
      rw [e1, hk q (Nat.lt_of_lt_of_le h1 hJ.2.2.1) (fun z => h2 (hAA q z))]
      exact hJ.2.2.2.1 q h1 h2
    · intro q hq
      rcases List.mem_append.mp hq with h | h
      · exact hJ.2.2.2.2 q h
      · exact hAA _ (hLo q h)
  obtain ⟨t2, a1, b1⟩ := kk T'.heap (locs ++ Lo) ls hJ' hL T' rfl X'
  refine ⟨t2, st9 t2 ?_, b1⟩
  have e9 : ((v.map (zw_v E.2.2.1)).toList ++ rest.map (zw_v E.2.2.1)) = (v.toList ++ rest).map (zw_v E.2.2.1) := by cases v <;> simp
  show Steps p.tables e below (T'.setTop { (F0 m pc ls st0) with pc := pc + 3, stack := (v.map (zw_v E.2.2.1)).toList ++ rest.map (zw_v E.2.2.1) }) t2
  rw [e9]
  exact a1
end ZH
section ZI
variable {p : Program} {l : Launch} {e : Env} {R : Room} {s : State} {m : MethodId} {args : Array Value} {below : List Frame} {meth : Method} {c : Code} {Q : State → Prop} {cc : ByteArray} {own : String} {E : zE} {A : Nat → Prop} {nL kM k pc : Nat} {L : List (Option Value)} {stk : List Value} {st : zS}
def zw_X (p : Program) (m : MethodId) (c : Code) (cc : ByteArray) (nL : Nat) (s : State) (args : Array Value) (own : String) (E : zE) (kM : Nat) (A : Nat → Prop) (meth : Method) (ret : Option FieldType) : Prop := zw_F p m c cc nL s args own E kM ∧ (∀ q, s.heap.size ≤ q → A q) ∧ meth.sig.returnType = ret ∧ meth.locks = false
theorem zw_nb {x : Int32} (h : x = 0 ∨ x = 1) : narrow .boolean (.int x) = .int x := by rcases h with rfl | rfl <;> rfl
theorem zw_nv {x : Int32} (h : x = 0 ∨ x = 1) : vp_nar .boolean x = x := by rcases h with rfl | rfl <;> rfl
theorem zw_fb {x : Int32} (h : x = 0 ∨ x = 1) : fits .boolean (.int x) = true := by rcases h with rfl | rfl <;> rfl
theorem zw_nle {E : zE} {a b : Nat} (h : a ≤ b) (hn : zw_n E b) : zw_n E a := fun q hq => hn q (Nat.lt_of_lt_of_le hq h)
theorem zw_kk {q a k k' : Nat} (h : zw_kind q = k) (h' : zw_kind a = k') (hk : k ≠ k') : q ≠ a := fun e => hk (by rw [← h, ← h', e])
theorem zw_carI {i : Int32} (h : vp_in i 4) : zw_kind (5 + i.toNatClampNeg) = 2 := zw_car (by have := Nat.not_le.mp fun q => h (Or.inr q); omega)
theorem zw_riderI {i : Int32} (h : vp_in i 24) : zw_kind (11 + i.toNatClampNeg) = 3 := zw_rider (Nat.not_le.mp fun q => h (Or.inr q))
theorem zw_sw0_1 {x : Int32} (h0 : ¬ x = 0) (h1 : ¬ x = 1) : x.toInt < 0 ∨ 1 < x.toInt := by
  have a0 := lv_neT (a := 0) h0 (by decide)
  have a1 := lv_neT (a := 1) h1 (by decide)
  omega
theorem zw_sw0_2 {x : Int32} (h0 : ¬ x = 0) (h1 : ¬ x = 1) (h2 : ¬ x = 2) : x.toInt < 0 ∨ 2 < x.toInt := by
  have a0 := lv_neT (a := 0) h0 (by decide)
  have a1 := lv_neT (a := 1) h1 (by decide)
  have a2 := lv_neT (a := 2) h2 (by decide)
  omega
theorem zw_sw0_3 {x : Int32} (h0 : ¬ x = 0) (h1 : ¬ x = 1) (h2 : ¬ x = 2) (h3 : ¬ x = 3) : x.toInt < 0 ∨ 3 < x.toInt := by
  have a0 := lv_neT (a := 0) h0 (by decide)
  have a1 := lv_neT (a := 1) h1 (by decide)
  have a2 := lv_neT (a := 2) h2 (by decide)
  have a3 := lv_neT (a := 3) h3 (by decide)
  omega
theorem zw_sw0_4 {x : Int32} (h0 : ¬ x = 0) (h1 : ¬ x = 1) (h2 : ¬ x = 2) (h3 : ¬ x = 3) (h4 : ¬ x = 4) : x.toInt < 0 ∨ 4 < x.toInt := by
  have a0 := lv_neT (a := 0) h0 (by decide)
  have a1 := lv_neT (a := 1) h1 (by decide)
  have a2 := lv_neT (a := 2) h2 (by decide)
  have a3 := lv_neT (a := 3) h3 (by decide)
  have a4 := lv_neT (a := 4) h4 (by decide)
  omega
theorem zw_sw0_5 {x : Int32} (h0 : ¬ x = 0) (h1 : ¬ x = 1) (h2 : ¬ x = 2) (h3 : ¬ x = 3) (h4 : ¬ x = 4) (h5 : ¬ x = 5) : x.toInt < 0 ∨ 5 < x.toInt := by
  have a0 := lv_neT (a := 0) h0 (by decide)
  have a1 := lv_neT (a := 1) h1 (by decide)
  have a2 := lv_neT (a := 2) h2 (by decide)
  have a3 := lv_neT (a := 3) h3 (by decide)
  have a4 := lv_neT (a := 4) h4 (by decide)
  have a5 := lv_neT (a := 5) h5 (by decide)
  omega
theorem zw_sw0_13 {x : Int32} (h0 : ¬ x = 0) (h1 : ¬ x = 1) (h2 : ¬ x = 2) (h3 : ¬ x = 3) (h4 : ¬ x = 4) (h5 : ¬ x = 5) (h6 : ¬ x = 6) (h7 : ¬ x = 7) (h8 : ¬ x = 8) (h9 : ¬ x = 9) (h10 : ¬ x = 10) (h11 : ¬ x = 11) (h12 : ¬ x = 12) (h13 : ¬ x = 13) : x.toInt < 0 ∨ 13 < x.toInt := by
  have a0 := lv_neT (a := 0) h0 (by decide)
  have a1 := lv_neT (a := 1) h1 (by decide)
  have a2 := lv_neT (a := 2) h2 (by decide)
  have a3 := lv_neT (a := 3) h3 (by decide)
  have a4 := lv_neT (a := 4) h4 (by decide)
  have a5 := lv_neT (a := 5) h5 (by decide)
  have a6 := lv_neT (a := 6) h6 (by decide)
  have a7 := lv_neT (a := 7) h7 (by decide)
  have a8 := lv_neT (a := 8) h8 (by decide)
  have a9 := lv_neT (a := 9) h9 (by decide)
  have a10 := lv_neT (a := 10) h10 (by decide)
  have a11 := lv_neT (a := 11) h11 (by decide)
  have a12 := lv_neT (a := 12) h12 (by decide)
  have a13 := lv_neT (a := 13) h13 (by decide)
  omega
theorem zg_iret (F : zw_X p m c cc nL s args own E kM A meth (some .int)) {v : Int32} (hd : decode cc pc = .ok (.ireturn, 1)) : zw_G p l e R s m args below meth c (MQ below (zw_Q E (some (.int v)) st A) args s 0 0 A) E A nL 0 pc L [.int v] st := fun H locs ls hJ hL =>
  W.iret F.1.1.1 F.1.1.2.1 F.2.2.1 (fun t ht hW => ⟨⟨rfl, by rw [ht]; exact hJ.1⟩, hJ.2.2.F ht⟩) hJ.2.2.2.2 hd F.2.2.2
theorem zg_zret (F : zw_X p m c cc nL s args own E kM A meth (some .boolean)) {v : Int32} (hv : v = 0 ∨ v = 1) (hd : decode cc pc = .ok (.ireturn, 1)) : zw_G p l e R s m args below meth c (MQ below (zw_Q E (some (.int v)) st A) args s 0 0 A) E A nL 0 pc L [.int v] st := fun H locs ls hJ hL =>
  W.zret F.1.1.1 F.1.1.2.1 F.2.2.1 (zw_nb hv) (fun t ht hW => ⟨⟨rfl, by rw [ht]; exact hJ.1⟩, hJ.2.2.F ht⟩) hJ.2.2.2.2 hd F.2.2.2
theorem zg_vret (F : zw_X p m c cc nL s args own E kM A meth none) (hd : decode cc pc = .ok (.return_, 1)) : zw_G p l e R s m args below meth c (MQ below (zw_Q E none st A) args s 0 0 A) E A nL 0 pc L [] st := fun H locs ls hJ hL =>
  W.vret F.1.1.1 F.1.1.2.1 F.2.2.1 (fun t ht hW => ⟨⟨rfl, by rw [ht]; exact hJ.1⟩, hJ.2.2.F ht⟩) hJ.2.2.2.2 hd F.2.2.2
theorem zg_ldcw (F : zw_F p m c cc nL s args own E kM) {index : Nat} (v : Int32) (hw : Cond.constant own index v ∈ zwAll) (hd : decode cc pc = .ok (.ldc_w index, 3)) (kk : zw_G p l e R s m args below meth c Q E A nL k (pc + 3) L (.int v :: stk) st) : zw_G p l e R s m args below meth c Q E A nL k pc L stk st := fun H locs ls hJ hL =>
  lv_ldcw F.1.1 F.1.2.1 F.1.2.2.2.1 (F.1.2.2.2.2 _ hw) hd (kk H locs ls hJ hL)
theorem zg_mmax (F : zw_F p m c cc nL s args own E kM) {index : Nat} (hw : Cond.methodLink own index Lib.Math.max.name ∈ zwAll) (h1 : Cond.static Lib.Math.max.name ∈ zwAll) (h2 : Cond.initialized "java/lang/Math" ∈ zwAll) (h3 : Cond.code Lib.Math.max.name Lib.Math.max.code 2 (some .int) ∈ zwAll) (hfr : 1 ≤ R.frames) (hlo : (stk.map fun v => v.category).sum + 13 ≤ R.locals) (hc : k ≤ R.cells) (hs : 6 * k ≤ R.slots) {x y : Int32} (hd : decode cc pc = .ok (.invokestatic index, 3))
    (kk : zw_G p l e R s m args below meth c Q E A nL k (pc + 3) L (.int (if x < y then y else x) :: stk) st) : zw_G p l e R s m args below meth c Q E A nL k pc L (.int y :: .int x :: stk) st := fun H locs ls hJ hL =>
  va_mmax F.1.1 F.1.2.1 (F.1.2.2.1.trans hL.1.symm) F.1.2.2.2.1 (F.1.2.2.2.2 _ hw) (F.1.2.2.2.2 _ h1) (F.1.2.2.2.2 _ h2) (F.1.2.2.2.2 _ h3) hfr (by rw [List.map_map, show ((fun v : Value => v.category) ∘ zw_v E.2.2.1) = (fun v : Value => v.category) from funext (zw_cat _)]; exact hlo) hc hs hd (kk H locs ls hJ hL)
theorem zg_mmin (F : zw_F p m c cc nL s args own E kM) {index : Nat} (hw : Cond.methodLink own index Lib.Math.min.name ∈ zwAll) (h1 : Cond.static Lib.Math.min.name ∈ zwAll) (h2 : Cond.initialized "java/lang/Math" ∈ zwAll) (h3 : Cond.code Lib.Math.min.name Lib.Math.min.code 2 (some .int) ∈ zwAll) (hfr : 1 ≤ R.frames) (hlo : (stk.map fun v => v.category).sum + 13 ≤ R.locals) (hc : k ≤ R.cells) (hs : 6 * k ≤ R.slots) {x y : Int32} (hd : decode cc pc = .ok (.invokestatic index, 3))
    (kk : zw_G p l e R s m args below meth c Q E A nL k (pc + 3) L (.int (if y < x then y else x) :: stk) st) : zw_G p l e R s m args below meth c Q E A nL k pc L (.int y :: .int x :: stk) st := fun H locs ls hJ hL =>
  va_mmin F.1.1 F.1.2.1 (F.1.2.2.1.trans hL.1.symm) F.1.2.2.2.1 (F.1.2.2.2.2 _ hw) (F.1.2.2.2.2 _ h1) (F.1.2.2.2.2 _ h2) (F.1.2.2.2.2 _ h3) hfr (by rw [List.map_map, show ((fun v : Value => v.category) ∘ zw_v E.2.2.1) = (fun v : Value => v.category) from funext (zw_cat _)]; exact hlo) hc hs hd (kk H locs ls hJ hL)

theorem zw_args (ad : Nat → Nat) : ∀ (av : List Value) (k i : Nat) (v : Value), (∀ v ∈ av, v.category = 1) → av[i]? = some v → (k + i, zw_v ad v) ∈ lv_args k (av.map (zw_v ad))
  | [], k, i, v, hc, h => by cases h
  | a :: av, k, i, v, hc, h => by
    have ha : ¬ (zw_v ad a).category = 2 := by rw [zw_cat, hc a List.mem_cons_self]; decide
    rw [List.map_cons]
    unfold lv_args
    rw [if_neg ha]
    cases i with
    | zero => cases h; exact List.mem_cons_self
    | succ i =>
      have := zw_args ad av (k + 1) i v (fun v hv => hc v (List.mem_cons_of_mem _ hv)) h
      rw [show k + (i + 1) = k + 1 + i by omega]
      exact List.mem_cons_of_mem _ this
theorem zw_L0 {av : List Value} {n i : Nat} {v : Value} (h : (av.map some ++ List.replicate n none)[i]? = some (some v)) : av[i]? = some v := by
  rcases Nat.lt_or_ge i av.length with h1 | h1
  · rw [List.getElem?_append_left (by simpa using h1), List.getElem?_map] at h
    cases ha : av[i]? with
    | none => rw [ha] at h; cases h
    | some x => rw [ha] at h; cases h; rfl
  · rw [List.getElem?_append_right (by simpa using h1), List.getElem?_replicate] at h
    split at h <;> cases h
theorem zw_enter {y : MethodName} {rm : Room} {ret : Option FieldType} {av : List Value} {v : Option Value} {st' : zS} (hy : plainName y.cls = true) (hown : y.cls = own) (hn : zw_n E kM) (hlen : (lg_sl (av.map (zw_v E.2.2.1))).length ≤ nL) (hcat : ∀ v ∈ av, v.category = 1) (n : Nat)
    (body : ∀ (p : Program) (e : Env) (s : State) (m : MethodId) (args : Array Value) (below : List Frame) (meth : Method) (c : Code) (A : Nat → Prop), zw_X p m c cc nL s args own E kM A meth ret → zw_G p l e rm s m args below meth c (MQ below (zw_Q E v st' A) args s 0 0 A) E A nL 0 0 (av.map some ++ List.replicate n none) [] st) : zw_M l y (Cond.code y cc nL ret :: zwAll) rm E av st v st' := by
  intro sz
  refine Met.ofW (cc := cc) (maxL := nL) (ret := ret) hy rfl ?_
  intro p e s m args below meth c s₁ B hml hv
  obtain ⟨rfl, hsz, hP, hK, hD0⟩ := hv
  have hts := atoms_spec (ws := Cond.code y cc nL ret :: zwAll) B.pre
  have hown' : s.vm.findClass own = some m.cls := by rw [← hown]; exact findClass_of_methodNamed B.named
  subst hsz
  have hl := lv_entry (av.map (zw_v E.2.2.1)) (n := nL) hlen
  rw [lg_entry_eq]
  exact body p e s m _ below meth c (zw_A E s.heap.size) ⟨⟨⟨B.exec, B.bytes, hml, hown', fun w h => hts w (List.mem_cons_of_mem _ h)⟩, hK, hn⟩, fun q h => Or.inr h, B.returns, B.notSynchronized⟩ s.heap [] _ ⟨hP, zw_DA s.heap.size hD0, va_S.rf⟩
    ⟨hl.1, hl.2.1, fun i v hi => ⟨hl.2.2 _ (by have := zw_args E.2.2.1 av 0 i v hcat (zw_L0 hi); rwa [Nat.zero_add] at this), hcat v (List.mem_of_getElem? (zw_L0 hi))⟩⟩
/-- what the tables say of a callee -/
def zw_cal (C : String) (y : MethodName) (bytes : ByteArray) (maxL : Nat) (ret : Option FieldType) (n : Nat) : Prop := Cond.instanceMethod y ∈ zwAll ∧ Cond.selects C y y ∈ zwAll ∧ Cond.initialized C ∈ zwAll ∧ Cond.code y bytes maxL ret ∈ zwAll ∧ y.cls = C ∧ y.cls ≠ "java/lang/invoke/MethodHandle" ∧ y.cls ≠ "java/lang/invoke/VarHandle" ∧ (parseMethodDescriptor y.desc).map (fun d => d.parameters.length) = some n
def zw_calS (y : MethodName) (bytes : ByteArray) (maxL : Nat) (ret : Option FieldType) (n : Nat) : Prop := Cond.static y ∈ zwAll ∧ Cond.initialized y.cls ∈ zwAll ∧ Cond.code y bytes maxL ret ∈ zwAll ∧ y.cls ≠ "java/lang/invoke/MethodHandle" ∧ y.cls ≠ "java/lang/invoke/VarHandle" ∧ (parseMethodDescriptor y.desc).map (fun d => d.parameters.length) = some n
theorem zw_gi {y : MethodName} {bytes : ByteArray} {maxL : Nat} {ret : Option FieldType} (h : Cond.code y bytes maxL ret ∈ zwAll) : GoodIn zwAll (Cond.code y bytes maxL ret :: zwAll) := fun w hw => by
  rcases List.mem_cons.mp hw with rfl | hw
  · exact ⟨h, zw_good _ h⟩
  · exact ⟨hw, zw_good _ hw⟩
theorem zg_callV {ret0 : Option FieldType} (F : zw_X p m c cc nL s args own E kM A meth ret0) {y : MethodName} {bytes : ByteArray} {maxL index q : Nat} {ret : Option FieldType} {rm : Room} {C : String} {As rest : List Value} {v : Option Value} {st' : zS} (hM : zw_M l y (Cond.code y bytes maxL ret :: zwAll) rm E (.ref q :: As) st v st')
    (hc0 : rm.cells = 0) (hs0 : rm.slots = 0) (hcal : zw_cal C y bytes maxL ret As.length) (hl : Cond.methodLink own index y ∈ zwAll) (hR : rm.frames + 1 ≤ R.frames ∧ 8 + (maxL + 11) + rm.locals ≤ R.locals)
    (hrec : ∀ (H : Heap) (locs : List Loc), zw_J E A s.heap st H locs → ∃ cell : Cell, H[E.2.2.1 q]? = some cell ∧ cell.vm.isStatics = false ∧ s.vm.findClass C = some cell.cls) (hs : stk = As.reverse ++ .ref q :: rest) (hrm : (rest.map fun v => v.category).sum ≤ 8) (hk : k ≤ R.cells ∧ 6 * k ≤ R.slots) (hd : decode cc pc = .ok (.invokevirtual index, 3))
    (kk : zw_G p l e R s m args below meth c Q E A nL k (pc + 3) L (v.toList ++ rest) st') : zw_G p l e R s m args below meth c Q E A nL k pc L stk st := fun H locs ls hJ hL => by
  obtain ⟨c1, c2, c3, c4, c5, c6, c7, c8⟩ := hcal
  have ht := F.1.1.2.2.2.2
  have hcw : CallW R s args own C index y bytes maxL ret (Cond.code y bytes maxL ret :: zwAll) rm 0 0 As.length :=
    ⟨callB_of As.length ht (zw_gi c4) rfl hc0 hs0 (by rw [c5]; exact ht _ c3) (ht _ hl) ⟨c6, c7, c8⟩ hR, ht _ c1, ht _ c2⟩
  refine zg_back F.2.1 hJ hL (a := (.ref (E.2.2.1 q) :: As.map (zw_v E.2.2.1)).toArray) (va_runV (C := C) (As := As.map (zw_v E.2.2.1)) (rest := rest.map (zw_v E.2.2.1)) F.1.1 (hM H.size) hcw ⟨zw_blind E _ st _, hrec H locs hJ, (zw_pre (av := .ref q :: As) F.1 hJ).2⟩ rfl (by simp) hL.1 ?_ (lv_room ?_) hd hk) kk
  · subst hs
    show List.map _ _ = _
    simp [zw_v]
  · rw [List.map_map, show ((fun v : Value => v.category) ∘ zw_v E.2.2.1) = (fun v : Value => v.category) from funext (zw_cat _)]
    exact hrm
theorem zg_callS {ret0 : Option FieldType} (F : zw_X p m c cc nL s args own E kM A meth ret0) {y : MethodName} {bytes : ByteArray} {maxL index : Nat} {ret : Option FieldType} {rm : Room} {As rest : List Value} {v : Option Value} {st' : zS} (hM : zw_M l y (Cond.code y bytes maxL ret :: zwAll) rm E As st v st')
    (hc0 : rm.cells = 0) (hs0 : rm.slots = 0) (hcal : zw_calS y bytes maxL ret As.length) (hl : Cond.methodLink own index y ∈ zwAll) (hR : rm.frames + 1 ≤ R.frames ∧ 8 + (maxL + 11) + rm.locals ≤ R.locals)
    (hs : stk = As.reverse ++ rest) (hrm : (rest.map fun v => v.category).sum ≤ 8) (hk : k ≤ R.cells ∧ 6 * k ≤ R.slots) (hd : decode cc pc = .ok (.invokestatic index, 3))
    (kk : zw_G p l e R s m args below meth c Q E A nL k (pc + 3) L (v.toList ++ rest) st') : zw_G p l e R s m args below meth c Q E A nL k pc L stk st := fun H locs ls hJ hL => by
  obtain ⟨c1, c3, c4, c6, c7, c8⟩ := hcal
  have ht := F.1.1.2.2.2.2
  refine zg_back F.2.1 hJ hL (a := (As.map (zw_v E.2.2.1)).toArray) (va_runS (As := As.map (zw_v E.2.2.1)) (rest := rest.map (zw_v E.2.2.1)) F.1.1 (hM H.size) ⟨callB_of As.length ht (zw_gi c4) rfl hc0 hs0 (ht _ c3) (ht _ hl) ⟨c6, c7, c8⟩ hR, ht _ c1⟩ (zw_pre F.1 hJ) rfl (by simp) hL.1 ?_ (lv_room ?_) hd hk) kk
  · subst hs
    show List.map _ _ = _
    simp [zw_v]
  · rw [List.map_map, show ((fun v : Value => v.category) ∘ zw_v E.2.2.1) = (fun v : Value => v.category) from funext (zw_cat _)]
    exact hrm
end ZI
end
section
abbrev zo_In_bitCount : ByteArray := prog_12_method_49_code
abbrev zy_In_bitCount : MethodName := ⟨"java/lang/Integer", "bitCount", "(I)I"⟩
theorem zd_In_bitCount_0 : decode zo_In_bitCount 0 = .ok (.iload_n 0, 1) := by decide +kernel
theorem zd_In_bitCount_1 : decode zo_In_bitCount 1 = .ok (.iload_n 0, 1) := by decide +kernel
theorem zd_In_bitCount_2 : decode zo_In_bitCount 2 = .ok (.iconst 1, 1) := by decide +kernel
theorem zd_In_bitCount_3 : decode zo_In_bitCount 3 = .ok (.iushr, 1) := by decide +kernel
theorem zd_In_bitCount_4 : decode zo_In_bitCount 4 = .ok (.ldc_w 265, 3) := by decide +kernel
theorem zd_In_bitCount_7 : decode zo_In_bitCount 7 = .ok (.iand, 1) := by decide +kernel
theorem zd_In_bitCount_8 : decode zo_In_bitCount 8 = .ok (.isub, 1) := by decide +kernel
theorem zd_In_bitCount_9 : decode zo_In_bitCount 9 = .ok (.istore_n 0, 1) := by decide +kernel
theorem zd_In_bitCount_10 : decode zo_In_bitCount 10 = .ok (.iload_n 0, 1) := by decide +kernel
theorem zd_In_bitCount_11 : decode zo_In_bitCount 11 = .ok (.ldc_w 266, 3) := by decide +kernel
theorem zd_In_bitCount_14 : decode zo_In_bitCount 14 = .ok (.iand, 1) := by decide +kernel
theorem zd_In_bitCount_15 : decode zo_In_bitCount 15 = .ok (.iload_n 0, 1) := by decide +kernel
theorem zd_In_bitCount_16 : decode zo_In_bitCount 16 = .ok (.iconst 2, 1) := by decide +kernel
theorem zd_In_bitCount_17 : decode zo_In_bitCount 17 = .ok (.iushr, 1) := by decide +kernel
theorem zd_In_bitCount_18 : decode zo_In_bitCount 18 = .ok (.ldc_w 266, 3) := by decide +kernel
theorem zd_In_bitCount_21 : decode zo_In_bitCount 21 = .ok (.iand, 1) := by decide +kernel
theorem zd_In_bitCount_22 : decode zo_In_bitCount 22 = .ok (.iadd, 1) := by decide +kernel
theorem zd_In_bitCount_23 : decode zo_In_bitCount 23 = .ok (.istore_n 0, 1) := by decide +kernel
theorem zd_In_bitCount_24 : decode zo_In_bitCount 24 = .ok (.iload_n 0, 1) := by decide +kernel
theorem zd_In_bitCount_25 : decode zo_In_bitCount 25 = .ok (.iload_n 0, 1) := by decide +kernel
theorem zd_In_bitCount_26 : decode zo_In_bitCount 26 = .ok (.iconst 4, 1) := by decide +kernel
theorem zd_In_bitCount_27 : decode zo_In_bitCount 27 = .ok (.iushr, 1) := by decide +kernel
theorem zd_In_bitCount_28 : decode zo_In_bitCount 28 = .ok (.iadd, 1) := by decide +kernel
theorem zd_In_bitCount_29 : decode zo_In_bitCount 29 = .ok (.ldc_w 267, 3) := by decide +kernel
theorem zd_In_bitCount_32 : decode zo_In_bitCount 32 = .ok (.iand, 1) := by decide +kernel
theorem zd_In_bitCount_33 : decode zo_In_bitCount 33 = .ok (.istore_n 0, 1) := by decide +kernel
theorem zd_In_bitCount_34 : decode zo_In_bitCount 34 = .ok (.iload_n 0, 1) := by decide +kernel
theorem zd_In_bitCount_35 : decode zo_In_bitCount 35 = .ok (.iload_n 0, 1) := by decide +kernel
theorem zd_In_bitCount_36 : decode zo_In_bitCount 36 = .ok (.bipush 8, 2) := by decide +kernel
theorem zd_In_bitCount_38 : decode zo_In_bitCount 38 = .ok (.iushr, 1) := by decide +kernel
theorem zd_In_bitCount_39 : decode zo_In_bitCount 39 = .ok (.iadd, 1) := by decide +kernel
theorem zd_In_bitCount_40 : decode zo_In_bitCount 40 = .ok (.istore_n 0, 1) := by decide +kernel
theorem zd_In_bitCount_41 : decode zo_In_bitCount 41 = .ok (.iload_n 0, 1) := by decide +kernel
theorem zd_In_bitCount_42 : decode zo_In_bitCount 42 = .ok (.iload_n 0, 1) := by decide +kernel
theorem zd_In_bitCount_43 : decode zo_In_bitCount 43 = .ok (.bipush 16, 2) := by decide +kernel
theorem zd_In_bitCount_45 : decode zo_In_bitCount 45 = .ok (.iushr, 1) := by decide +kernel
theorem zd_In_bitCount_46 : decode zo_In_bitCount 46 = .ok (.iadd, 1) := by decide +kernel
theorem zd_In_bitCount_47 : decode zo_In_bitCount 47 = .ok (.istore_n 0, 1) := by decide +kernel
theorem zd_In_bitCount_48 : decode zo_In_bitCount 48 = .ok (.iload_n 0, 1) := by decide +kernel
theorem zd_In_bitCount_49 : decode zo_In_bitCount 49 = .ok (.bipush 63, 2) := by decide +kernel
theorem zd_In_bitCount_51 : decode zo_In_bitCount 51 = .ok (.iand, 1) := by decide +kernel
theorem zd_In_bitCount_52 : decode zo_In_bitCount 52 = .ok (.ireturn, 1) := by decide +kernel
abbrev zo_Ca_forgetMoved : ByteArray := prog_2_method_7_code
abbrev zy_Ca_forgetMoved : MethodName := ⟨"LiftGroup$Car", "forgetMoved", "()V"⟩
theorem zd_Ca_forgetMoved_0 : decode zo_Ca_forgetMoved 0 = .ok (.aload_n 0, 1) := by decide +kernel
theorem zd_Ca_forgetMoved_1 : decode zo_Ca_forgetMoved 1 = .ok (.iconst 0, 1) := by decide +kernel
theorem zd_Ca_forgetMoved_2 : decode zo_Ca_forgetMoved 2 = .ok (.putfield 97, 3) := by decide +kernel
theorem zd_Ca_forgetMoved_5 : decode zo_Ca_forgetMoved 5 = .ok (.aload_n 0, 1) := by decide +kernel
theorem zd_Ca_forgetMoved_6 : decode zo_Ca_forgetMoved 6 = .ok (.iconst 0, 1) := by decide +kernel
theorem zd_Ca_forgetMoved_7 : decode zo_Ca_forgetMoved 7 = .ok (.putfield 100, 3) := by decide +kernel
theorem zd_Ca_forgetMoved_10 : decode zo_Ca_forgetMoved 10 = .ok (.aload_n 0, 1) := by decide +kernel
theorem zd_Ca_forgetMoved_11 : decode zo_Ca_forgetMoved 11 = .ok (.iconst 0, 1) := by decide +kernel
theorem zd_Ca_forgetMoved_12 : decode zo_Ca_forgetMoved 12 = .ok (.putfield 103, 3) := by decide +kernel
theorem zd_Ca_forgetMoved_15 : decode zo_Ca_forgetMoved 15 = .ok (.return_, 1) := by decide +kernel
abbrev zo_Ca_startAnew : ByteArray := prog_2_method_2_code
abbrev zy_Ca_startAnew : MethodName := ⟨"LiftGroup$Car", "startAnew", "()V"⟩
theorem zd_Ca_startAnew_0 : decode zo_Ca_startAnew 0 = .ok (.aload_n 0, 1) := by decide +kernel
theorem zd_Ca_startAnew_1 : decode zo_Ca_startAnew 1 = .ok (.iconst 0, 1) := by decide +kernel
theorem zd_Ca_startAnew_2 : decode zo_Ca_startAnew 2 = .ok (.putfield 9, 3) := by decide +kernel
theorem zd_Ca_startAnew_5 : decode zo_Ca_startAnew 5 = .ok (.aload_n 0, 1) := by decide +kernel
theorem zd_Ca_startAnew_6 : decode zo_Ca_startAnew 6 = .ok (.iconst 0, 1) := by decide +kernel
theorem zd_Ca_startAnew_7 : decode zo_Ca_startAnew 7 = .ok (.putfield 15, 3) := by decide +kernel
theorem zd_Ca_startAnew_10 : decode zo_Ca_startAnew 10 = .ok (.aload_n 0, 1) := by decide +kernel
theorem zd_Ca_startAnew_11 : decode zo_Ca_startAnew 11 = .ok (.iconst 0, 1) := by decide +kernel
theorem zd_Ca_startAnew_12 : decode zo_Ca_startAnew 12 = .ok (.putfield 18, 3) := by decide +kernel
theorem zd_Ca_startAnew_15 : decode zo_Ca_startAnew 15 = .ok (.aload_n 0, 1) := by decide +kernel
theorem zd_Ca_startAnew_16 : decode zo_Ca_startAnew 16 = .ok (.iconst 0, 1) := by decide +kernel
theorem zd_Ca_startAnew_17 : decode zo_Ca_startAnew 17 = .ok (.putfield 21, 3) := by decide +kernel
theorem zd_Ca_startAnew_20 : decode zo_Ca_startAnew 20 = .ok (.aload_n 0, 1) := by decide +kernel
theorem zd_Ca_startAnew_21 : decode zo_Ca_startAnew 21 = .ok (.iconst 0, 1) := by decide +kernel
theorem zd_Ca_startAnew_22 : decode zo_Ca_startAnew 22 = .ok (.putfield 24, 3) := by decide +kernel
theorem zd_Ca_startAnew_25 : decode zo_Ca_startAnew 25 = .ok (.aload_n 0, 1) := by decide +kernel
theorem zd_Ca_startAnew_26 : decode zo_Ca_startAnew 26 = .ok (.iconst 0, 1) := by decide +kernel
theorem zd_Ca_startAnew_27 : decode zo_Ca_startAnew 27 = .ok (.putfield 27, 3) := by decide +kernel
theorem zd_Ca_startAnew_30 : decode zo_Ca_startAnew 30 = .ok (.aload_n 0, 1) := by decide +kernel
theorem zd_Ca_startAnew_31 : decode zo_Ca_startAnew 31 = .ok (.iconst 0, 1) := by decide +kernel
theorem zd_Ca_startAnew_32 : decode zo_Ca_startAnew 32 = .ok (.putfield 31, 3) := by decide +kernel
theorem zd_Ca_startAnew_35 : decode zo_Ca_startAnew 35 = .ok (.aload_n 0, 1) := by decide +kernel
theorem zd_Ca_startAnew_36 : decode zo_Ca_startAnew 36 = .ok (.iconst 0, 1) := by decide +kernel
theorem zd_Ca_startAnew_37 : decode zo_Ca_startAnew 37 = .ok (.putfield 34, 3) := by decide +kernel
theorem zd_Ca_startAnew_40 : decode zo_Ca_startAnew 40 = .ok (.aload_n 0, 1) := by decide +kernel
theorem zd_Ca_startAnew_41 : decode zo_Ca_startAnew 41 = .ok (.iconst 0, 1) := by decide +kernel
theorem zd_Ca_startAnew_42 : decode zo_Ca_startAnew 42 = .ok (.putfield 37, 3) := by decide +kernel
theorem zd_Ca_startAnew_45 : decode zo_Ca_startAnew 45 = .ok (.aload_n 0, 1) := by decide +kernel
theorem zd_Ca_startAnew_46 : decode zo_Ca_startAnew 46 = .ok (.iconst 0, 1) := by decide +kernel
theorem zd_Ca_startAnew_47 : decode zo_Ca_startAnew 47 = .ok (.putfield 40, 3) := by decide +kernel
theorem zd_Ca_startAnew_50 : decode zo_Ca_startAnew 50 = .ok (.aload_n 0, 1) := by decide +kernel
theorem zd_Ca_startAnew_51 : decode zo_Ca_startAnew 51 = .ok (.invokevirtual 43, 3) := by decide +kernel
theorem zd_Ca_startAnew_54 : decode zo_Ca_startAnew 54 = .ok (.return_, 1) := by decide +kernel
abbrev zo_Ca_becomeLike : ByteArray := prog_2_method_3_code
abbrev zy_Ca_becomeLike : MethodName := ⟨"LiftGroup$Car", "becomeLike", "(LLiftGroup$Car;)V"⟩
theorem zd_Ca_becomeLike_0 : decode zo_Ca_becomeLike 0 = .ok (.aload_n 0, 1) := by decide +kernel
theorem zd_Ca_becomeLike_1 : decode zo_Ca_becomeLike 1 = .ok (.aload_n 1, 1) := by decide +kernel
theorem zd_Ca_becomeLike_2 : decode zo_Ca_becomeLike 2 = .ok (.getfield 9, 3) := by decide +kernel
theorem zd_Ca_becomeLike_5 : decode zo_Ca_becomeLike 5 = .ok (.putfield 9, 3) := by decide +kernel
theorem zd_Ca_becomeLike_8 : decode zo_Ca_becomeLike 8 = .ok (.aload_n 0, 1) := by decide +kernel
theorem zd_Ca_becomeLike_9 : decode zo_Ca_becomeLike 9 = .ok (.aload_n 1, 1) := by decide +kernel
theorem zd_Ca_becomeLike_10 : decode zo_Ca_becomeLike 10 = .ok (.getfield 15, 3) := by decide +kernel
theorem zd_Ca_becomeLike_13 : decode zo_Ca_becomeLike 13 = .ok (.putfield 15, 3) := by decide +kernel
theorem zd_Ca_becomeLike_16 : decode zo_Ca_becomeLike 16 = .ok (.aload_n 0, 1) := by decide +kernel
theorem zd_Ca_becomeLike_17 : decode zo_Ca_becomeLike 17 = .ok (.aload_n 1, 1) := by decide +kernel
theorem zd_Ca_becomeLike_18 : decode zo_Ca_becomeLike 18 = .ok (.getfield 18, 3) := by decide +kernel
theorem zd_Ca_becomeLike_21 : decode zo_Ca_becomeLike 21 = .ok (.putfield 18, 3) := by decide +kernel
theorem zd_Ca_becomeLike_24 : decode zo_Ca_becomeLike 24 = .ok (.aload_n 0, 1) := by decide +kernel
theorem zd_Ca_becomeLike_25 : decode zo_Ca_becomeLike 25 = .ok (.aload_n 1, 1) := by decide +kernel
theorem zd_Ca_becomeLike_26 : decode zo_Ca_becomeLike 26 = .ok (.getfield 21, 3) := by decide +kernel
theorem zd_Ca_becomeLike_29 : decode zo_Ca_becomeLike 29 = .ok (.putfield 21, 3) := by decide +kernel
theorem zd_Ca_becomeLike_32 : decode zo_Ca_becomeLike 32 = .ok (.aload_n 0, 1) := by decide +kernel
theorem zd_Ca_becomeLike_33 : decode zo_Ca_becomeLike 33 = .ok (.aload_n 1, 1) := by decide +kernel
theorem zd_Ca_becomeLike_34 : decode zo_Ca_becomeLike 34 = .ok (.getfield 24, 3) := by decide +kernel
theorem zd_Ca_becomeLike_37 : decode zo_Ca_becomeLike 37 = .ok (.putfield 24, 3) := by decide +kernel
theorem zd_Ca_becomeLike_40 : decode zo_Ca_becomeLike 40 = .ok (.aload_n 0, 1) := by decide +kernel
theorem zd_Ca_becomeLike_41 : decode zo_Ca_becomeLike 41 = .ok (.aload_n 1, 1) := by decide +kernel
theorem zd_Ca_becomeLike_42 : decode zo_Ca_becomeLike 42 = .ok (.getfield 34, 3) := by decide +kernel
theorem zd_Ca_becomeLike_45 : decode zo_Ca_becomeLike 45 = .ok (.putfield 34, 3) := by decide +kernel
theorem zd_Ca_becomeLike_48 : decode zo_Ca_becomeLike 48 = .ok (.aload_n 0, 1) := by decide +kernel
theorem zd_Ca_becomeLike_49 : decode zo_Ca_becomeLike 49 = .ok (.aload_n 1, 1) := by decide +kernel
theorem zd_Ca_becomeLike_50 : decode zo_Ca_becomeLike 50 = .ok (.getfield 37, 3) := by decide +kernel
theorem zd_Ca_becomeLike_53 : decode zo_Ca_becomeLike 53 = .ok (.putfield 37, 3) := by decide +kernel
theorem zd_Ca_becomeLike_56 : decode zo_Ca_becomeLike 56 = .ok (.aload_n 0, 1) := by decide +kernel
theorem zd_Ca_becomeLike_57 : decode zo_Ca_becomeLike 57 = .ok (.aload_n 1, 1) := by decide +kernel
theorem zd_Ca_becomeLike_58 : decode zo_Ca_becomeLike 58 = .ok (.getfield 40, 3) := by decide +kernel
theorem zd_Ca_becomeLike_61 : decode zo_Ca_becomeLike 61 = .ok (.putfield 40, 3) := by decide +kernel
theorem zd_Ca_becomeLike_64 : decode zo_Ca_becomeLike 64 = .ok (.return_, 1) := by decide +kernel
abbrev zo_Ca_hasRiders : ByteArray := prog_2_method_4_code
abbrev zy_Ca_hasRiders : MethodName := ⟨"LiftGroup$Car", "hasRiders", "()Z"⟩
theorem zd_Ca_hasRiders_0 : decode zo_Ca_hasRiders 0 = .ok (.aload_n 0, 1) := by decide +kernel
theorem zd_Ca_hasRiders_1 : decode zo_Ca_hasRiders 1 = .ok (.getfield 37, 3) := by decide +kernel
theorem zd_Ca_hasRiders_4 : decode zo_Ca_hasRiders 4 = .ok (.aload_n 0, 1) := by decide +kernel
theorem zd_Ca_hasRiders_5 : decode zo_Ca_hasRiders 5 = .ok (.getfield 40, 3) := by decide +kernel
theorem zd_Ca_hasRiders_8 : decode zo_Ca_hasRiders 8 = .ok (.ior, 1) := by decide +kernel
theorem zd_Ca_hasRiders_9 : decode zo_Ca_hasRiders 9 = .ok (.ifCond .eq 7, 3) := by decide +kernel
theorem zd_Ca_hasRiders_12 : decode zo_Ca_hasRiders 12 = .ok (.iconst 1, 1) := by decide +kernel
theorem zd_Ca_hasRiders_13 : decode zo_Ca_hasRiders 13 = .ok (.goto 4, 3) := by decide +kernel
theorem zd_Ca_hasRiders_16 : decode zo_Ca_hasRiders 16 = .ok (.iconst 0, 1) := by decide +kernel
theorem zd_Ca_hasRiders_17 : decode zo_Ca_hasRiders 17 = .ok (.ireturn, 1) := by decide +kernel
abbrev zo_Ca_turnDoor : ByteArray := prog_2_method_8_code
abbrev zy_Ca_turnDoor : MethodName := ⟨"LiftGroup$Car", "turnDoor", "(II)V"⟩
theorem zd_Ca_turnDoor_0 : decode zo_Ca_turnDoor 0 = .ok (.aload_n 0, 1) := by decide +kernel
theorem zd_Ca_turnDoor_1 : decode zo_Ca_turnDoor 1 = .ok (.iload_n 1, 1) := by decide +kernel
theorem zd_Ca_turnDoor_2 : decode zo_Ca_turnDoor 2 = .ok (.putfield 18, 3) := by decide +kernel
theorem zd_Ca_turnDoor_5 : decode zo_Ca_turnDoor 5 = .ok (.aload_n 0, 1) := by decide +kernel
theorem zd_Ca_turnDoor_6 : decode zo_Ca_turnDoor 6 = .ok (.iload_n 2, 1) := by decide +kernel
theorem zd_Ca_turnDoor_7 : decode zo_Ca_turnDoor 7 = .ok (.putfield 21, 3) := by decide +kernel
theorem zd_Ca_turnDoor_10 : decode zo_Ca_turnDoor 10 = .ok (.return_, 1) := by decide +kernel
abbrev zo_Ca_shutFurther : ByteArray := prog_2_method_9_code
abbrev zy_Ca_shutFurther : MethodName := ⟨"LiftGroup$Car", "shutFurther", "()V"⟩
theorem zd_Ca_shutFurther_0 : decode zo_Ca_shutFurther 0 = .ok (.aload_n 0, 1) := by decide +kernel
theorem zd_Ca_shutFurther_1 : decode zo_Ca_shutFurther 1 = .ok (.dup, 1) := by decide +kernel
theorem zd_Ca_shutFurther_2 : decode zo_Ca_shutFurther 2 = .ok (.getfield 21, 3) := by decide +kernel
theorem zd_Ca_shutFurther_5 : decode zo_Ca_shutFurther 5 = .ok (.iconst 1, 1) := by decide +kernel
theorem zd_Ca_shutFurther_6 : decode zo_Ca_shutFurther 6 = .ok (.isub, 1) := by decide +kernel
theorem zd_Ca_shutFurther_7 : decode zo_Ca_shutFurther 7 = .ok (.putfield 21, 3) := by decide +kernel
theorem zd_Ca_shutFurther_10 : decode zo_Ca_shutFurther 10 = .ok (.aload_n 0, 1) := by decide +kernel
theorem zd_Ca_shutFurther_11 : decode zo_Ca_shutFurther 11 = .ok (.getfield 21, 3) := by decide +kernel
theorem zd_Ca_shutFurther_14 : decode zo_Ca_shutFurther 14 = .ok (.ifCond .ne 8, 3) := by decide +kernel
theorem zd_Ca_shutFurther_17 : decode zo_Ca_shutFurther 17 = .ok (.aload_n 0, 1) := by decide +kernel
theorem zd_Ca_shutFurther_18 : decode zo_Ca_shutFurther 18 = .ok (.iconst 0, 1) := by decide +kernel
theorem zd_Ca_shutFurther_19 : decode zo_Ca_shutFurther 19 = .ok (.putfield 18, 3) := by decide +kernel
theorem zd_Ca_shutFurther_22 : decode zo_Ca_shutFurther 22 = .ok (.return_, 1) := by decide +kernel
abbrev zo_Ca_towardsNearest : ByteArray := prog_2_method_11_code
abbrev zy_Ca_towardsNearest : MethodName := ⟨"LiftGroup$Car", "towardsNearest", "(I)I"⟩
theorem zd_Ca_towardsNearest_0 : decode zo_Ca_towardsNearest 0 = .ok (.iconst 1, 1) := by decide +kernel
theorem zd_Ca_towardsNearest_1 : decode zo_Ca_towardsNearest 1 = .ok (.istore_n 2, 1) := by decide +kernel
theorem zd_Ca_towardsNearest_2 : decode zo_Ca_towardsNearest 2 = .ok (.iload_n 2, 1) := by decide +kernel
theorem zd_Ca_towardsNearest_3 : decode zo_Ca_towardsNearest 3 = .ok (.bipush 18, 2) := by decide +kernel
theorem zd_Ca_towardsNearest_5 : decode zo_Ca_towardsNearest 5 = .ok (.if_icmp .gt 58, 3) := by decide +kernel
theorem zd_Ca_towardsNearest_8 : decode zo_Ca_towardsNearest 8 = .ok (.iload_n 2, 1) := by decide +kernel
theorem zd_Ca_towardsNearest_9 : decode zo_Ca_towardsNearest 9 = .ok (.aload_n 0, 1) := by decide +kernel
theorem zd_Ca_towardsNearest_10 : decode zo_Ca_towardsNearest 10 = .ok (.getfield 9, 3) := by decide +kernel
theorem zd_Ca_towardsNearest_13 : decode zo_Ca_towardsNearest 13 = .ok (.if_icmp .gt 18, 3) := by decide +kernel
theorem zd_Ca_towardsNearest_16 : decode zo_Ca_towardsNearest 16 = .ok (.iload_n 1, 1) := by decide +kernel
theorem zd_Ca_towardsNearest_17 : decode zo_Ca_towardsNearest 17 = .ok (.iconst 1, 1) := by decide +kernel
theorem zd_Ca_towardsNearest_18 : decode zo_Ca_towardsNearest 18 = .ok (.aload_n 0, 1) := by decide +kernel
theorem zd_Ca_towardsNearest_19 : decode zo_Ca_towardsNearest 19 = .ok (.getfield 9, 3) := by decide +kernel
theorem zd_Ca_towardsNearest_22 : decode zo_Ca_towardsNearest 22 = .ok (.iload_n 2, 1) := by decide +kernel
theorem zd_Ca_towardsNearest_23 : decode zo_Ca_towardsNearest 23 = .ok (.isub, 1) := by decide +kernel
theorem zd_Ca_towardsNearest_24 : decode zo_Ca_towardsNearest 24 = .ok (.ishl, 1) := by decide +kernel
theorem zd_Ca_towardsNearest_25 : decode zo_Ca_towardsNearest 25 = .ok (.iand, 1) := by decide +kernel
theorem zd_Ca_towardsNearest_26 : decode zo_Ca_towardsNearest 26 = .ok (.ifCond .eq 5, 3) := by decide +kernel
theorem zd_Ca_towardsNearest_29 : decode zo_Ca_towardsNearest 29 = .ok (.iconst (-1), 1) := by decide +kernel
theorem zd_Ca_towardsNearest_30 : decode zo_Ca_towardsNearest 30 = .ok (.ireturn, 1) := by decide +kernel
theorem zd_Ca_towardsNearest_31 : decode zo_Ca_towardsNearest 31 = .ok (.iload_n 2, 1) := by decide +kernel
theorem zd_Ca_towardsNearest_32 : decode zo_Ca_towardsNearest 32 = .ok (.bipush 18, 2) := by decide +kernel
theorem zd_Ca_towardsNearest_34 : decode zo_Ca_towardsNearest 34 = .ok (.aload_n 0, 1) := by decide +kernel
theorem zd_Ca_towardsNearest_35 : decode zo_Ca_towardsNearest 35 = .ok (.getfield 9, 3) := by decide +kernel
theorem zd_Ca_towardsNearest_38 : decode zo_Ca_towardsNearest 38 = .ok (.isub, 1) := by decide +kernel
theorem zd_Ca_towardsNearest_39 : decode zo_Ca_towardsNearest 39 = .ok (.if_icmp .gt 18, 3) := by decide +kernel
theorem zd_Ca_towardsNearest_42 : decode zo_Ca_towardsNearest 42 = .ok (.iload_n 1, 1) := by decide +kernel
theorem zd_Ca_towardsNearest_43 : decode zo_Ca_towardsNearest 43 = .ok (.iconst 1, 1) := by decide +kernel
theorem zd_Ca_towardsNearest_44 : decode zo_Ca_towardsNearest 44 = .ok (.aload_n 0, 1) := by decide +kernel
theorem zd_Ca_towardsNearest_45 : decode zo_Ca_towardsNearest 45 = .ok (.getfield 9, 3) := by decide +kernel
theorem zd_Ca_towardsNearest_48 : decode zo_Ca_towardsNearest 48 = .ok (.iload_n 2, 1) := by decide +kernel
theorem zd_Ca_towardsNearest_49 : decode zo_Ca_towardsNearest 49 = .ok (.iadd, 1) := by decide +kernel
theorem zd_Ca_towardsNearest_50 : decode zo_Ca_towardsNearest 50 = .ok (.ishl, 1) := by decide +kernel
theorem zd_Ca_towardsNearest_51 : decode zo_Ca_towardsNearest 51 = .ok (.iand, 1) := by decide +kernel
theorem zd_Ca_towardsNearest_52 : decode zo_Ca_towardsNearest 52 = .ok (.ifCond .eq 5, 3) := by decide +kernel
theorem zd_Ca_towardsNearest_55 : decode zo_Ca_towardsNearest 55 = .ok (.iconst 1, 1) := by decide +kernel
theorem zd_Ca_towardsNearest_56 : decode zo_Ca_towardsNearest 56 = .ok (.ireturn, 1) := by decide +kernel
theorem zd_Ca_towardsNearest_57 : decode zo_Ca_towardsNearest 57 = .ok (.iinc 2 1, 3) := by decide +kernel
theorem zd_Ca_towardsNearest_60 : decode zo_Ca_towardsNearest 60 = .ok (.goto (-58), 3) := by decide +kernel
theorem zd_Ca_towardsNearest_63 : decode zo_Ca_towardsNearest 63 = .ok (.iconst 0, 1) := by decide +kernel
theorem zd_Ca_towardsNearest_64 : decode zo_Ca_towardsNearest 64 = .ok (.ireturn, 1) := by decide +kernel
abbrev zo_Ca_liesAhead : ByteArray := prog_2_method_12_code
abbrev zy_Ca_liesAhead : MethodName := ⟨"LiftGroup$Car", "liesAhead", "(I)Z"⟩
theorem zd_Ca_liesAhead_0 : decode zo_Ca_liesAhead 0 = .ok (.iload_n 1, 1) := by decide +kernel
theorem zd_Ca_liesAhead_1 : decode zo_Ca_liesAhead 1 = .ok (.iconst 1, 1) := by decide +kernel
theorem zd_Ca_liesAhead_2 : decode zo_Ca_liesAhead 2 = .ok (.aload_n 0, 1) := by decide +kernel
theorem zd_Ca_liesAhead_3 : decode zo_Ca_liesAhead 3 = .ok (.getfield 9, 3) := by decide +kernel
theorem zd_Ca_liesAhead_6 : decode zo_Ca_liesAhead 6 = .ok (.ishl, 1) := by decide +kernel
theorem zd_Ca_liesAhead_7 : decode zo_Ca_liesAhead 7 = .ok (.iconst 1, 1) := by decide +kernel
theorem zd_Ca_liesAhead_8 : decode zo_Ca_liesAhead 8 = .ok (.isub, 1) := by decide +kernel
theorem zd_Ca_liesAhead_9 : decode zo_Ca_liesAhead 9 = .ok (.iand, 1) := by decide +kernel
theorem zd_Ca_liesAhead_10 : decode zo_Ca_liesAhead 10 = .ok (.istore_n 2, 1) := by decide +kernel
theorem zd_Ca_liesAhead_11 : decode zo_Ca_liesAhead 11 = .ok (.aload_n 0, 1) := by decide +kernel
theorem zd_Ca_liesAhead_12 : decode zo_Ca_liesAhead 12 = .ok (.getfield 15, 3) := by decide +kernel
theorem zd_Ca_liesAhead_15 : decode zo_Ca_liesAhead 15 = .ok (.ifCond .ge 15, 3) := by decide +kernel
theorem zd_Ca_liesAhead_18 : decode zo_Ca_liesAhead 18 = .ok (.iload_n 2, 1) := by decide +kernel
theorem zd_Ca_liesAhead_19 : decode zo_Ca_liesAhead 19 = .ok (.ifCond .eq 7, 3) := by decide +kernel
theorem zd_Ca_liesAhead_22 : decode zo_Ca_liesAhead 22 = .ok (.iconst 1, 1) := by decide +kernel
theorem zd_Ca_liesAhead_23 : decode zo_Ca_liesAhead 23 = .ok (.goto 17, 3) := by decide +kernel
theorem zd_Ca_liesAhead_26 : decode zo_Ca_liesAhead 26 = .ok (.iconst 0, 1) := by decide +kernel
theorem zd_Ca_liesAhead_27 : decode zo_Ca_liesAhead 27 = .ok (.goto 13, 3) := by decide +kernel
theorem zd_Ca_liesAhead_30 : decode zo_Ca_liesAhead 30 = .ok (.iload_n 2, 1) := by decide +kernel
theorem zd_Ca_liesAhead_31 : decode zo_Ca_liesAhead 31 = .ok (.iload_n 1, 1) := by decide +kernel
theorem zd_Ca_liesAhead_32 : decode zo_Ca_liesAhead 32 = .ok (.if_icmp .eq 7, 3) := by decide +kernel
theorem zd_Ca_liesAhead_35 : decode zo_Ca_liesAhead 35 = .ok (.iconst 1, 1) := by decide +kernel
theorem zd_Ca_liesAhead_36 : decode zo_Ca_liesAhead 36 = .ok (.goto 4, 3) := by decide +kernel
theorem zd_Ca_liesAhead_39 : decode zo_Ca_liesAhead 39 = .ok (.iconst 0, 1) := by decide +kernel
theorem zd_Ca_liesAhead_40 : decode zo_Ca_liesAhead 40 = .ok (.ireturn, 1) := by decide +kernel
abbrev zo_Ca_openOrMove : ByteArray := prog_2_method_10_code
abbrev zy_Ca_openOrMove : MethodName := ⟨"LiftGroup$Car", "openOrMove", "(I)V"⟩
theorem zd_Ca_openOrMove_0 : decode zo_Ca_openOrMove 0 = .ok (.iload_n 1, 1) := by decide +kernel
theorem zd_Ca_openOrMove_1 : decode zo_Ca_openOrMove 1 = .ok (.ifCond .ne 9, 3) := by decide +kernel
theorem zd_Ca_openOrMove_4 : decode zo_Ca_openOrMove 4 = .ok (.aload_n 0, 1) := by decide +kernel
theorem zd_Ca_openOrMove_5 : decode zo_Ca_openOrMove 5 = .ok (.iconst 0, 1) := by decide +kernel
theorem zd_Ca_openOrMove_6 : decode zo_Ca_openOrMove 6 = .ok (.putfield 15, 3) := by decide +kernel
theorem zd_Ca_openOrMove_9 : decode zo_Ca_openOrMove 9 = .ok (.return_, 1) := by decide +kernel
theorem zd_Ca_openOrMove_10 : decode zo_Ca_openOrMove 10 = .ok (.iload_n 1, 1) := by decide +kernel
theorem zd_Ca_openOrMove_11 : decode zo_Ca_openOrMove 11 = .ok (.iconst 1, 1) := by decide +kernel
theorem zd_Ca_openOrMove_12 : decode zo_Ca_openOrMove 12 = .ok (.aload_n 0, 1) := by decide +kernel
theorem zd_Ca_openOrMove_13 : decode zo_Ca_openOrMove 13 = .ok (.getfield 9, 3) := by decide +kernel
theorem zd_Ca_openOrMove_16 : decode zo_Ca_openOrMove 16 = .ok (.ishl, 1) := by decide +kernel
theorem zd_Ca_openOrMove_17 : decode zo_Ca_openOrMove 17 = .ok (.iand, 1) := by decide +kernel
theorem zd_Ca_openOrMove_18 : decode zo_Ca_openOrMove 18 = .ok (.ifCond .eq 10, 3) := by decide +kernel
theorem zd_Ca_openOrMove_21 : decode zo_Ca_openOrMove 21 = .ok (.aload_n 0, 1) := by decide +kernel
theorem zd_Ca_openOrMove_22 : decode zo_Ca_openOrMove 22 = .ok (.iconst 1, 1) := by decide +kernel
theorem zd_Ca_openOrMove_23 : decode zo_Ca_openOrMove 23 = .ok (.iconst 3, 1) := by decide +kernel
theorem zd_Ca_openOrMove_24 : decode zo_Ca_openOrMove 24 = .ok (.invokevirtual 82, 3) := by decide +kernel
theorem zd_Ca_openOrMove_27 : decode zo_Ca_openOrMove 27 = .ok (.return_, 1) := by decide +kernel
theorem zd_Ca_openOrMove_28 : decode zo_Ca_openOrMove 28 = .ok (.aload_n 0, 1) := by decide +kernel
theorem zd_Ca_openOrMove_29 : decode zo_Ca_openOrMove 29 = .ok (.getfield 15, 3) := by decide +kernel
theorem zd_Ca_openOrMove_32 : decode zo_Ca_openOrMove 32 = .ok (.ifCond .ne 15, 3) := by decide +kernel
theorem zd_Ca_openOrMove_35 : decode zo_Ca_openOrMove 35 = .ok (.aload_n 0, 1) := by decide +kernel
theorem zd_Ca_openOrMove_36 : decode zo_Ca_openOrMove 36 = .ok (.aload_n 0, 1) := by decide +kernel
theorem zd_Ca_openOrMove_37 : decode zo_Ca_openOrMove 37 = .ok (.iload_n 1, 1) := by decide +kernel
theorem zd_Ca_openOrMove_38 : decode zo_Ca_openOrMove 38 = .ok (.invokevirtual 106, 3) := by decide +kernel
theorem zd_Ca_openOrMove_41 : decode zo_Ca_openOrMove 41 = .ok (.putfield 15, 3) := by decide +kernel
theorem zd_Ca_openOrMove_44 : decode zo_Ca_openOrMove 44 = .ok (.goto 20, 3) := by decide +kernel
theorem zd_Ca_openOrMove_47 : decode zo_Ca_openOrMove 47 = .ok (.aload_n 0, 1) := by decide +kernel
theorem zd_Ca_openOrMove_48 : decode zo_Ca_openOrMove 48 = .ok (.iload_n 1, 1) := by decide +kernel
theorem zd_Ca_openOrMove_49 : decode zo_Ca_openOrMove 49 = .ok (.invokevirtual 109, 3) := by decide +kernel
theorem zd_Ca_openOrMove_52 : decode zo_Ca_openOrMove 52 = .ok (.ifCond .ne 12, 3) := by decide +kernel
theorem zd_Ca_openOrMove_55 : decode zo_Ca_openOrMove 55 = .ok (.aload_n 0, 1) := by decide +kernel
theorem zd_Ca_openOrMove_56 : decode zo_Ca_openOrMove 56 = .ok (.aload_n 0, 1) := by decide +kernel
theorem zd_Ca_openOrMove_57 : decode zo_Ca_openOrMove 57 = .ok (.getfield 15, 3) := by decide +kernel
theorem zd_Ca_openOrMove_60 : decode zo_Ca_openOrMove 60 = .ok (.ineg, 1) := by decide +kernel
theorem zd_Ca_openOrMove_61 : decode zo_Ca_openOrMove 61 = .ok (.putfield 15, 3) := by decide +kernel
theorem zd_Ca_openOrMove_64 : decode zo_Ca_openOrMove 64 = .ok (.aload_n 0, 1) := by decide +kernel
theorem zd_Ca_openOrMove_65 : decode zo_Ca_openOrMove 65 = .ok (.dup, 1) := by decide +kernel
theorem zd_Ca_openOrMove_66 : decode zo_Ca_openOrMove 66 = .ok (.getfield 9, 3) := by decide +kernel
theorem zd_Ca_openOrMove_69 : decode zo_Ca_openOrMove 69 = .ok (.aload_n 0, 1) := by decide +kernel
theorem zd_Ca_openOrMove_70 : decode zo_Ca_openOrMove 70 = .ok (.getfield 15, 3) := by decide +kernel
theorem zd_Ca_openOrMove_73 : decode zo_Ca_openOrMove 73 = .ok (.iadd, 1) := by decide +kernel
theorem zd_Ca_openOrMove_74 : decode zo_Ca_openOrMove 74 = .ok (.putfield 9, 3) := by decide +kernel
theorem zd_Ca_openOrMove_77 : decode zo_Ca_openOrMove 77 = .ok (.return_, 1) := by decide +kernel
abbrev zo_Ca_stayOpen : ByteArray := prog_2_method_13_code
abbrev zy_Ca_stayOpen : MethodName := ⟨"LiftGroup$Car", "stayOpen", "(Z)V"⟩
theorem zd_Ca_stayOpen_0 : decode zo_Ca_stayOpen 0 = .ok (.aload_n 0, 1) := by decide +kernel
theorem zd_Ca_stayOpen_1 : decode zo_Ca_stayOpen 1 = .ok (.getfield 34, 3) := by decide +kernel
theorem zd_Ca_stayOpen_4 : decode zo_Ca_stayOpen 4 = .ok (.ifCond .eq 16, 3) := by decide +kernel
theorem zd_Ca_stayOpen_7 : decode zo_Ca_stayOpen 7 = .ok (.aload_n 0, 1) := by decide +kernel
theorem zd_Ca_stayOpen_8 : decode zo_Ca_stayOpen 8 = .ok (.getfield 24, 3) := by decide +kernel
theorem zd_Ca_stayOpen_11 : decode zo_Ca_stayOpen 11 = .ok (.bipush 20, 2) := by decide +kernel
theorem zd_Ca_stayOpen_13 : decode zo_Ca_stayOpen 13 = .ok (.if_icmp .ge 7, 3) := by decide +kernel
theorem zd_Ca_stayOpen_16 : decode zo_Ca_stayOpen 16 = .ok (.iconst 1, 1) := by decide +kernel
theorem zd_Ca_stayOpen_17 : decode zo_Ca_stayOpen 17 = .ok (.goto 4, 3) := by decide +kernel
theorem zd_Ca_stayOpen_20 : decode zo_Ca_stayOpen 20 = .ok (.iconst 0, 1) := by decide +kernel
theorem zd_Ca_stayOpen_21 : decode zo_Ca_stayOpen 21 = .ok (.istore_n 2, 1) := by decide +kernel
theorem zd_Ca_stayOpen_22 : decode zo_Ca_stayOpen 22 = .ok (.aload_n 0, 1) := by decide +kernel
theorem zd_Ca_stayOpen_23 : decode zo_Ca_stayOpen 23 = .ok (.dup, 1) := by decide +kernel
theorem zd_Ca_stayOpen_24 : decode zo_Ca_stayOpen 24 = .ok (.getfield 24, 3) := by decide +kernel
theorem zd_Ca_stayOpen_27 : decode zo_Ca_stayOpen 27 = .ok (.iconst 1, 1) := by decide +kernel
theorem zd_Ca_stayOpen_28 : decode zo_Ca_stayOpen 28 = .ok (.iadd, 1) := by decide +kernel
theorem zd_Ca_stayOpen_29 : decode zo_Ca_stayOpen 29 = .ok (.putfield 24, 3) := by decide +kernel
theorem zd_Ca_stayOpen_32 : decode zo_Ca_stayOpen 32 = .ok (.iload_n 1, 1) := by decide +kernel
theorem zd_Ca_stayOpen_33 : decode zo_Ca_stayOpen 33 = .ok (.ifCond .ne 7, 3) := by decide +kernel
theorem zd_Ca_stayOpen_36 : decode zo_Ca_stayOpen 36 = .ok (.iload_n 2, 1) := by decide +kernel
theorem zd_Ca_stayOpen_37 : decode zo_Ca_stayOpen 37 = .ok (.ifCond .eq 4, 3) := by decide +kernel
theorem zd_Ca_stayOpen_40 : decode zo_Ca_stayOpen 40 = .ok (.return_, 1) := by decide +kernel
theorem zd_Ca_stayOpen_41 : decode zo_Ca_stayOpen 41 = .ok (.aload_n 0, 1) := by decide +kernel
theorem zd_Ca_stayOpen_42 : decode zo_Ca_stayOpen 42 = .ok (.dup, 1) := by decide +kernel
theorem zd_Ca_stayOpen_43 : decode zo_Ca_stayOpen 43 = .ok (.getfield 21, 3) := by decide +kernel
theorem zd_Ca_stayOpen_46 : decode zo_Ca_stayOpen 46 = .ok (.iconst 1, 1) := by decide +kernel
theorem zd_Ca_stayOpen_47 : decode zo_Ca_stayOpen 47 = .ok (.isub, 1) := by decide +kernel
theorem zd_Ca_stayOpen_48 : decode zo_Ca_stayOpen 48 = .ok (.putfield 21, 3) := by decide +kernel
theorem zd_Ca_stayOpen_51 : decode zo_Ca_stayOpen 51 = .ok (.aload_n 0, 1) := by decide +kernel
theorem zd_Ca_stayOpen_52 : decode zo_Ca_stayOpen 52 = .ok (.getfield 21, 3) := by decide +kernel
theorem zd_Ca_stayOpen_55 : decode zo_Ca_stayOpen 55 = .ok (.ifCond .ne 26, 3) := by decide +kernel
theorem zd_Ca_stayOpen_58 : decode zo_Ca_stayOpen 58 = .ok (.aload_n 0, 1) := by decide +kernel
theorem zd_Ca_stayOpen_59 : decode zo_Ca_stayOpen 59 = .ok (.getfield 34, 3) := by decide +kernel
theorem zd_Ca_stayOpen_62 : decode zo_Ca_stayOpen 62 = .ok (.ifCond .eq 13, 3) := by decide +kernel
theorem zd_Ca_stayOpen_65 : decode zo_Ca_stayOpen 65 = .ok (.aload_n 0, 1) := by decide +kernel
theorem zd_Ca_stayOpen_66 : decode zo_Ca_stayOpen 66 = .ok (.iconst 4, 1) := by decide +kernel
theorem zd_Ca_stayOpen_67 : decode zo_Ca_stayOpen 67 = .ok (.bipush 6, 2) := by decide +kernel
theorem zd_Ca_stayOpen_69 : decode zo_Ca_stayOpen 69 = .ok (.invokevirtual 82, 3) := by decide +kernel
theorem zd_Ca_stayOpen_72 : decode zo_Ca_stayOpen 72 = .ok (.goto 9, 3) := by decide +kernel
theorem zd_Ca_stayOpen_75 : decode zo_Ca_stayOpen 75 = .ok (.aload_n 0, 1) := by decide +kernel
theorem zd_Ca_stayOpen_76 : decode zo_Ca_stayOpen 76 = .ok (.iconst 3, 1) := by decide +kernel
theorem zd_Ca_stayOpen_77 : decode zo_Ca_stayOpen 77 = .ok (.iconst 3, 1) := by decide +kernel
theorem zd_Ca_stayOpen_78 : decode zo_Ca_stayOpen 78 = .ok (.invokevirtual 82, 3) := by decide +kernel
theorem zd_Ca_stayOpen_81 : decode zo_Ca_stayOpen 81 = .ok (.return_, 1) := by decide +kernel
abbrev zo_Ca_firstOf : ByteArray := prog_2_method_15_code
abbrev zy_Ca_firstOf : MethodName := ⟨"LiftGroup$Car", "firstOf", "(II)I"⟩
theorem zd_Ca_firstOf_0 : decode zo_Ca_firstOf 0 = .ok (.iconst 0, 1) := by decide +kernel
theorem zd_Ca_firstOf_1 : decode zo_Ca_firstOf 1 = .ok (.istore_n 2, 1) := by decide +kernel
theorem zd_Ca_firstOf_2 : decode zo_Ca_firstOf 2 = .ok (.iconst 0, 1) := by decide +kernel
theorem zd_Ca_firstOf_3 : decode zo_Ca_firstOf 3 = .ok (.istore_n 3, 1) := by decide +kernel
theorem zd_Ca_firstOf_4 : decode zo_Ca_firstOf 4 = .ok (.iload_n 3, 1) := by decide +kernel
theorem zd_Ca_firstOf_5 : decode zo_Ca_firstOf 5 = .ok (.bipush 24, 2) := by decide +kernel
theorem zd_Ca_firstOf_7 : decode zo_Ca_firstOf 7 = .ok (.if_icmp .ge 33, 3) := by decide +kernel
theorem zd_Ca_firstOf_10 : decode zo_Ca_firstOf 10 = .ok (.iload_n 1, 1) := by decide +kernel
theorem zd_Ca_firstOf_11 : decode zo_Ca_firstOf 11 = .ok (.ifCond .le 29, 3) := by decide +kernel
theorem zd_Ca_firstOf_14 : decode zo_Ca_firstOf 14 = .ok (.iload_n 0, 1) := by decide +kernel
theorem zd_Ca_firstOf_15 : decode zo_Ca_firstOf 15 = .ok (.iconst 1, 1) := by decide +kernel
theorem zd_Ca_firstOf_16 : decode zo_Ca_firstOf 16 = .ok (.iload_n 3, 1) := by decide +kernel
theorem zd_Ca_firstOf_17 : decode zo_Ca_firstOf 17 = .ok (.ishl, 1) := by decide +kernel
theorem zd_Ca_firstOf_18 : decode zo_Ca_firstOf 18 = .ok (.iand, 1) := by decide +kernel
theorem zd_Ca_firstOf_19 : decode zo_Ca_firstOf 19 = .ok (.istore 4, 2) := by decide +kernel
theorem zd_Ca_firstOf_21 : decode zo_Ca_firstOf 21 = .ok (.iload 4, 2) := by decide +kernel
theorem zd_Ca_firstOf_23 : decode zo_Ca_firstOf 23 = .ok (.ifCond .eq 11, 3) := by decide +kernel
theorem zd_Ca_firstOf_26 : decode zo_Ca_firstOf 26 = .ok (.iload_n 2, 1) := by decide +kernel
theorem zd_Ca_firstOf_27 : decode zo_Ca_firstOf 27 = .ok (.iload 4, 2) := by decide +kernel
theorem zd_Ca_firstOf_29 : decode zo_Ca_firstOf 29 = .ok (.ior, 1) := by decide +kernel
theorem zd_Ca_firstOf_30 : decode zo_Ca_firstOf 30 = .ok (.istore_n 2, 1) := by decide +kernel
theorem zd_Ca_firstOf_31 : decode zo_Ca_firstOf 31 = .ok (.iinc 1 (-1), 3) := by decide +kernel
theorem zd_Ca_firstOf_34 : decode zo_Ca_firstOf 34 = .ok (.iinc 3 1, 3) := by decide +kernel
theorem zd_Ca_firstOf_37 : decode zo_Ca_firstOf 37 = .ok (.goto (-33), 3) := by decide +kernel
theorem zd_Ca_firstOf_40 : decode zo_Ca_firstOf 40 = .ok (.iload_n 2, 1) := by decide +kernel
theorem zd_Ca_firstOf_41 : decode zo_Ca_firstOf 41 = .ok (.ireturn, 1) := by decide +kernel
abbrev zo_Ca_stopSet : ByteArray := prog_2_method_5_code
abbrev zy_Ca_stopSet : MethodName := ⟨"LiftGroup$Car", "stopSet", "(LLiftGroup$House;)I"⟩
theorem zd_Ca_stopSet_0 : decode zo_Ca_stopSet 0 = .ok (.aload_n 1, 1) := by decide +kernel
theorem zd_Ca_stopSet_1 : decode zo_Ca_stopSet 1 = .ok (.getfield 46, 3) := by decide +kernel
theorem zd_Ca_stopSet_4 : decode zo_Ca_stopSet 4 = .ok (.ifCond .eq 5, 3) := by decide +kernel
theorem zd_Ca_stopSet_7 : decode zo_Ca_stopSet 7 = .ok (.iconst 1, 1) := by decide +kernel
theorem zd_Ca_stopSet_8 : decode zo_Ca_stopSet 8 = .ok (.ireturn, 1) := by decide +kernel
theorem zd_Ca_stopSet_9 : decode zo_Ca_stopSet 9 = .ok (.aload_n 0, 1) := by decide +kernel
theorem zd_Ca_stopSet_10 : decode zo_Ca_stopSet 10 = .ok (.invokevirtual 51, 3) := by decide +kernel
theorem zd_Ca_stopSet_13 : decode zo_Ca_stopSet 13 = .ok (.ifCond .ne 5, 3) := by decide +kernel
theorem zd_Ca_stopSet_16 : decode zo_Ca_stopSet 16 = .ok (.iconst 0, 1) := by decide +kernel
theorem zd_Ca_stopSet_17 : decode zo_Ca_stopSet 17 = .ok (.ireturn, 1) := by decide +kernel
theorem zd_Ca_stopSet_18 : decode zo_Ca_stopSet 18 = .ok (.aload_n 0, 1) := by decide +kernel
theorem zd_Ca_stopSet_19 : decode zo_Ca_stopSet 19 = .ok (.getfield 37, 3) := by decide +kernel
theorem zd_Ca_stopSet_22 : decode zo_Ca_stopSet 22 = .ok (.invokestatic 55, 3) := by decide +kernel
theorem zd_Ca_stopSet_25 : decode zo_Ca_stopSet 25 = .ok (.aload_n 1, 1) := by decide +kernel
theorem zd_Ca_stopSet_26 : decode zo_Ca_stopSet 26 = .ok (.getfield 61, 3) := by decide +kernel
theorem zd_Ca_stopSet_29 : decode zo_Ca_stopSet 29 = .ok (.if_icmp .ge 10, 3) := by decide +kernel
theorem zd_Ca_stopSet_32 : decode zo_Ca_stopSet 32 = .ok (.aload_n 0, 1) := by decide +kernel
theorem zd_Ca_stopSet_33 : decode zo_Ca_stopSet 33 = .ok (.getfield 40, 3) := by decide +kernel
theorem zd_Ca_stopSet_36 : decode zo_Ca_stopSet 36 = .ok (.goto 4, 3) := by decide +kernel
theorem zd_Ca_stopSet_39 : decode zo_Ca_stopSet 39 = .ok (.iconst 0, 1) := by decide +kernel
theorem zd_Ca_stopSet_40 : decode zo_Ca_stopSet 40 = .ok (.istore_n 2, 1) := by decide +kernel
theorem zd_Ca_stopSet_41 : decode zo_Ca_stopSet 41 = .ok (.iconst 0, 1) := by decide +kernel
theorem zd_Ca_stopSet_42 : decode zo_Ca_stopSet 42 = .ok (.istore_n 3, 1) := by decide +kernel
theorem zd_Ca_stopSet_43 : decode zo_Ca_stopSet 43 = .ok (.iconst 0, 1) := by decide +kernel
theorem zd_Ca_stopSet_44 : decode zo_Ca_stopSet 44 = .ok (.istore 4, 2) := by decide +kernel
theorem zd_Ca_stopSet_46 : decode zo_Ca_stopSet 46 = .ok (.iload 4, 2) := by decide +kernel
theorem zd_Ca_stopSet_48 : decode zo_Ca_stopSet 48 = .ok (.aload_n 1, 1) := by decide +kernel
theorem zd_Ca_stopSet_49 : decode zo_Ca_stopSet 49 = .ok (.getfield 64, 3) := by decide +kernel
theorem zd_Ca_stopSet_52 : decode zo_Ca_stopSet 52 = .ok (.if_icmp .ge 45, 3) := by decide +kernel
theorem zd_Ca_stopSet_55 : decode zo_Ca_stopSet 55 = .ok (.aload_n 0, 1) := by decide +kernel
theorem zd_Ca_stopSet_56 : decode zo_Ca_stopSet 56 = .ok (.getfield 37, 3) := by decide +kernel
theorem zd_Ca_stopSet_59 : decode zo_Ca_stopSet 59 = .ok (.aload_n 1, 1) := by decide +kernel
theorem zd_Ca_stopSet_60 : decode zo_Ca_stopSet 60 = .ok (.getfield 67, 3) := by decide +kernel
theorem zd_Ca_stopSet_63 : decode zo_Ca_stopSet 63 = .ok (.iload 4, 2) := by decide +kernel
theorem zd_Ca_stopSet_65 : decode zo_Ca_stopSet 65 = .ok (.iaload, 1) := by decide +kernel
theorem zd_Ca_stopSet_66 : decode zo_Ca_stopSet 66 = .ok (.iand, 1) := by decide +kernel
theorem zd_Ca_stopSet_67 : decode zo_Ca_stopSet 67 = .ok (.ifCond .ne 15, 3) := by decide +kernel
theorem zd_Ca_stopSet_70 : decode zo_Ca_stopSet 70 = .ok (.iload_n 2, 1) := by decide +kernel
theorem zd_Ca_stopSet_71 : decode zo_Ca_stopSet 71 = .ok (.aload_n 1, 1) := by decide +kernel
theorem zd_Ca_stopSet_72 : decode zo_Ca_stopSet 72 = .ok (.getfield 71, 3) := by decide +kernel
theorem zd_Ca_stopSet_75 : decode zo_Ca_stopSet 75 = .ok (.iload 4, 2) := by decide +kernel
theorem zd_Ca_stopSet_77 : decode zo_Ca_stopSet 77 = .ok (.iaload, 1) := by decide +kernel
theorem zd_Ca_stopSet_78 : decode zo_Ca_stopSet 78 = .ok (.iand, 1) := by decide +kernel
theorem zd_Ca_stopSet_79 : decode zo_Ca_stopSet 79 = .ok (.ifCond .eq 12, 3) := by decide +kernel
theorem zd_Ca_stopSet_82 : decode zo_Ca_stopSet 82 = .ok (.iload_n 3, 1) := by decide +kernel
theorem zd_Ca_stopSet_83 : decode zo_Ca_stopSet 83 = .ok (.iconst 1, 1) := by decide +kernel
theorem zd_Ca_stopSet_84 : decode zo_Ca_stopSet 84 = .ok (.iconst 2, 1) := by decide +kernel
theorem zd_Ca_stopSet_85 : decode zo_Ca_stopSet 85 = .ok (.iload 4, 2) := by decide +kernel
theorem zd_Ca_stopSet_87 : decode zo_Ca_stopSet 87 = .ok (.imul, 1) := by decide +kernel
theorem zd_Ca_stopSet_88 : decode zo_Ca_stopSet 88 = .ok (.ishl, 1) := by decide +kernel
theorem zd_Ca_stopSet_89 : decode zo_Ca_stopSet 89 = .ok (.ior, 1) := by decide +kernel
theorem zd_Ca_stopSet_90 : decode zo_Ca_stopSet 90 = .ok (.istore_n 3, 1) := by decide +kernel
theorem zd_Ca_stopSet_91 : decode zo_Ca_stopSet 91 = .ok (.iinc 4 1, 3) := by decide +kernel
theorem zd_Ca_stopSet_94 : decode zo_Ca_stopSet 94 = .ok (.goto (-48), 3) := by decide +kernel
theorem zd_Ca_stopSet_97 : decode zo_Ca_stopSet 97 = .ok (.iload_n 3, 1) := by decide +kernel
theorem zd_Ca_stopSet_98 : decode zo_Ca_stopSet 98 = .ok (.ireturn, 1) := by decide +kernel
abbrev zo_Ca_exchange : ByteArray := prog_2_method_14_code
abbrev zy_Ca_exchange : MethodName := ⟨"LiftGroup$Car", "exchange", "(LLiftGroup$House;)V"⟩
theorem zd_Ca_exchange_0 : decode zo_Ca_exchange 0 = .ok (.aload_n 0, 1) := by decide +kernel
theorem zd_Ca_exchange_1 : decode zo_Ca_exchange 1 = .ok (.getfield 9, 3) := by decide +kernel
theorem zd_Ca_exchange_4 : decode zo_Ca_exchange 4 = .ok (.iconst 2, 1) := by decide +kernel
theorem zd_Ca_exchange_5 : decode zo_Ca_exchange 5 = .ok (.idiv, 1) := by decide +kernel
theorem zd_Ca_exchange_6 : decode zo_Ca_exchange 6 = .ok (.istore_n 2, 1) := by decide +kernel
theorem zd_Ca_exchange_7 : decode zo_Ca_exchange 7 = .ok (.aload_n 0, 1) := by decide +kernel
theorem zd_Ca_exchange_8 : decode zo_Ca_exchange 8 = .ok (.aload_n 0, 1) := by decide +kernel
theorem zd_Ca_exchange_9 : decode zo_Ca_exchange 9 = .ok (.getfield 37, 3) := by decide +kernel
theorem zd_Ca_exchange_12 : decode zo_Ca_exchange 12 = .ok (.aload_n 1, 1) := by decide +kernel
theorem zd_Ca_exchange_13 : decode zo_Ca_exchange 13 = .ok (.getfield 67, 3) := by decide +kernel
theorem zd_Ca_exchange_16 : decode zo_Ca_exchange 16 = .ok (.iload_n 2, 1) := by decide +kernel
theorem zd_Ca_exchange_17 : decode zo_Ca_exchange 17 = .ok (.iaload, 1) := by decide +kernel
theorem zd_Ca_exchange_18 : decode zo_Ca_exchange 18 = .ok (.iand, 1) := by decide +kernel
theorem zd_Ca_exchange_19 : decode zo_Ca_exchange 19 = .ok (.putfield 97, 3) := by decide +kernel
theorem zd_Ca_exchange_22 : decode zo_Ca_exchange 22 = .ok (.aload_n 0, 1) := by decide +kernel
theorem zd_Ca_exchange_23 : decode zo_Ca_exchange 23 = .ok (.dup, 1) := by decide +kernel
theorem zd_Ca_exchange_24 : decode zo_Ca_exchange 24 = .ok (.getfield 37, 3) := by decide +kernel
theorem zd_Ca_exchange_27 : decode zo_Ca_exchange 27 = .ok (.aload_n 0, 1) := by decide +kernel
theorem zd_Ca_exchange_28 : decode zo_Ca_exchange 28 = .ok (.getfield 97, 3) := by decide +kernel
theorem zd_Ca_exchange_31 : decode zo_Ca_exchange 31 = .ok (.iconst (-1), 1) := by decide +kernel
theorem zd_Ca_exchange_32 : decode zo_Ca_exchange 32 = .ok (.ixor, 1) := by decide +kernel
theorem zd_Ca_exchange_33 : decode zo_Ca_exchange 33 = .ok (.iand, 1) := by decide +kernel
theorem zd_Ca_exchange_34 : decode zo_Ca_exchange 34 = .ok (.putfield 37, 3) := by decide +kernel
theorem zd_Ca_exchange_37 : decode zo_Ca_exchange 37 = .ok (.aload_n 1, 1) := by decide +kernel
theorem zd_Ca_exchange_38 : decode zo_Ca_exchange 38 = .ok (.getfield 46, 3) := by decide +kernel
theorem zd_Ca_exchange_41 : decode zo_Ca_exchange 41 = .ok (.ifCond .ne 66, 3) := by decide +kernel
theorem zd_Ca_exchange_44 : decode zo_Ca_exchange 44 = .ok (.aload_n 1, 1) := by decide +kernel
theorem zd_Ca_exchange_45 : decode zo_Ca_exchange 45 = .ok (.getfield 61, 3) := by decide +kernel
theorem zd_Ca_exchange_48 : decode zo_Ca_exchange 48 = .ok (.aload_n 0, 1) := by decide +kernel
theorem zd_Ca_exchange_49 : decode zo_Ca_exchange 49 = .ok (.getfield 37, 3) := by decide +kernel
theorem zd_Ca_exchange_52 : decode zo_Ca_exchange 52 = .ok (.invokestatic 55, 3) := by decide +kernel
theorem zd_Ca_exchange_55 : decode zo_Ca_exchange 55 = .ok (.isub, 1) := by decide +kernel
theorem zd_Ca_exchange_56 : decode zo_Ca_exchange 56 = .ok (.istore_n 3, 1) := by decide +kernel
theorem zd_Ca_exchange_57 : decode zo_Ca_exchange 57 = .ok (.aload_n 0, 1) := by decide +kernel
theorem zd_Ca_exchange_58 : decode zo_Ca_exchange 58 = .ok (.aload_n 0, 1) := by decide +kernel
theorem zd_Ca_exchange_59 : decode zo_Ca_exchange 59 = .ok (.getfield 40, 3) := by decide +kernel
theorem zd_Ca_exchange_62 : decode zo_Ca_exchange 62 = .ok (.aload_n 1, 1) := by decide +kernel
theorem zd_Ca_exchange_63 : decode zo_Ca_exchange 63 = .ok (.getfield 71, 3) := by decide +kernel
theorem zd_Ca_exchange_66 : decode zo_Ca_exchange 66 = .ok (.iload_n 2, 1) := by decide +kernel
theorem zd_Ca_exchange_67 : decode zo_Ca_exchange 67 = .ok (.iaload, 1) := by decide +kernel
theorem zd_Ca_exchange_68 : decode zo_Ca_exchange 68 = .ok (.iand, 1) := by decide +kernel
theorem zd_Ca_exchange_69 : decode zo_Ca_exchange 69 = .ok (.iload_n 3, 1) := by decide +kernel
theorem zd_Ca_exchange_70 : decode zo_Ca_exchange 70 = .ok (.invokestatic 113, 3) := by decide +kernel
theorem zd_Ca_exchange_73 : decode zo_Ca_exchange 73 = .ok (.putfield 103, 3) := by decide +kernel
theorem zd_Ca_exchange_76 : decode zo_Ca_exchange 76 = .ok (.aload_n 0, 1) := by decide +kernel
theorem zd_Ca_exchange_77 : decode zo_Ca_exchange 77 = .ok (.dup, 1) := by decide +kernel
theorem zd_Ca_exchange_78 : decode zo_Ca_exchange 78 = .ok (.getfield 37, 3) := by decide +kernel
theorem zd_Ca_exchange_81 : decode zo_Ca_exchange 81 = .ok (.aload_n 0, 1) := by decide +kernel
theorem zd_Ca_exchange_82 : decode zo_Ca_exchange 82 = .ok (.getfield 103, 3) := by decide +kernel
theorem zd_Ca_exchange_85 : decode zo_Ca_exchange 85 = .ok (.ior, 1) := by decide +kernel
theorem zd_Ca_exchange_86 : decode zo_Ca_exchange 86 = .ok (.putfield 37, 3) := by decide +kernel
theorem zd_Ca_exchange_89 : decode zo_Ca_exchange 89 = .ok (.aload_n 0, 1) := by decide +kernel
theorem zd_Ca_exchange_90 : decode zo_Ca_exchange 90 = .ok (.dup, 1) := by decide +kernel
theorem zd_Ca_exchange_91 : decode zo_Ca_exchange 91 = .ok (.getfield 40, 3) := by decide +kernel
theorem zd_Ca_exchange_94 : decode zo_Ca_exchange 94 = .ok (.aload_n 0, 1) := by decide +kernel
theorem zd_Ca_exchange_95 : decode zo_Ca_exchange 95 = .ok (.getfield 103, 3) := by decide +kernel
theorem zd_Ca_exchange_98 : decode zo_Ca_exchange 98 = .ok (.iconst (-1), 1) := by decide +kernel
theorem zd_Ca_exchange_99 : decode zo_Ca_exchange 99 = .ok (.ixor, 1) := by decide +kernel
theorem zd_Ca_exchange_100 : decode zo_Ca_exchange 100 = .ok (.iand, 1) := by decide +kernel
theorem zd_Ca_exchange_101 : decode zo_Ca_exchange 101 = .ok (.putfield 40, 3) := by decide +kernel
theorem zd_Ca_exchange_104 : decode zo_Ca_exchange 104 = .ok (.goto 20, 3) := by decide +kernel
theorem zd_Ca_exchange_107 : decode zo_Ca_exchange 107 = .ok (.iload_n 2, 1) := by decide +kernel
theorem zd_Ca_exchange_108 : decode zo_Ca_exchange 108 = .ok (.ifCond .ne 16, 3) := by decide +kernel
theorem zd_Ca_exchange_111 : decode zo_Ca_exchange 111 = .ok (.aload_n 0, 1) := by decide +kernel
theorem zd_Ca_exchange_112 : decode zo_Ca_exchange 112 = .ok (.aload_n 0, 1) := by decide +kernel
theorem zd_Ca_exchange_113 : decode zo_Ca_exchange 113 = .ok (.getfield 37, 3) := by decide +kernel
theorem zd_Ca_exchange_116 : decode zo_Ca_exchange 116 = .ok (.putfield 100, 3) := by decide +kernel
theorem zd_Ca_exchange_119 : decode zo_Ca_exchange 119 = .ok (.aload_n 0, 1) := by decide +kernel
theorem zd_Ca_exchange_120 : decode zo_Ca_exchange 120 = .ok (.iconst 0, 1) := by decide +kernel
theorem zd_Ca_exchange_121 : decode zo_Ca_exchange 121 = .ok (.putfield 37, 3) := by decide +kernel
theorem zd_Ca_exchange_124 : decode zo_Ca_exchange 124 = .ok (.return_, 1) := by decide +kernel
abbrev zo_Ca_advance : ByteArray := prog_2_method_6_code
abbrev zy_Ca_advance : MethodName := ⟨"LiftGroup$Car", "advance", "(LLiftGroup$House;)V"⟩
theorem zd_Ca_advance_0 : decode zo_Ca_advance 0 = .ok (.aload_n 0, 1) := by decide +kernel
theorem zd_Ca_advance_1 : decode zo_Ca_advance 1 = .ok (.invokevirtual 43, 3) := by decide +kernel
theorem zd_Ca_advance_4 : decode zo_Ca_advance 4 = .ok (.aload_n 0, 1) := by decide +kernel
theorem zd_Ca_advance_5 : decode zo_Ca_advance 5 = .ok (.getfield 18, 3) := by decide +kernel
theorem zd_Ca_advance_8 : decode zo_Ca_advance 8 = .ok (.tableswitch 134 0 3 #[32, 44, 80, 111], 32) := by decide +kernel
theorem zd_Ca_advance_40 : decode zo_Ca_advance 40 = .ok (.aload_n 0, 1) := by decide +kernel
theorem zd_Ca_advance_41 : decode zo_Ca_advance 41 = .ok (.aload_n 0, 1) := by decide +kernel
theorem zd_Ca_advance_42 : decode zo_Ca_advance 42 = .ok (.aload_n 1, 1) := by decide +kernel
theorem zd_Ca_advance_43 : decode zo_Ca_advance 43 = .ok (.invokevirtual 74, 3) := by decide +kernel
theorem zd_Ca_advance_46 : decode zo_Ca_advance 46 = .ok (.invokevirtual 78, 3) := by decide +kernel
theorem zd_Ca_advance_49 : decode zo_Ca_advance 49 = .ok (.goto 97, 3) := by decide +kernel
theorem zd_Ca_advance_52 : decode zo_Ca_advance 52 = .ok (.aload_n 0, 1) := by decide +kernel
theorem zd_Ca_advance_53 : decode zo_Ca_advance 53 = .ok (.dup, 1) := by decide +kernel
theorem zd_Ca_advance_54 : decode zo_Ca_advance 54 = .ok (.getfield 21, 3) := by decide +kernel
theorem zd_Ca_advance_57 : decode zo_Ca_advance 57 = .ok (.iconst 1, 1) := by decide +kernel
theorem zd_Ca_advance_58 : decode zo_Ca_advance 58 = .ok (.isub, 1) := by decide +kernel
theorem zd_Ca_advance_59 : decode zo_Ca_advance 59 = .ok (.putfield 21, 3) := by decide +kernel
theorem zd_Ca_advance_62 : decode zo_Ca_advance 62 = .ok (.aload_n 0, 1) := by decide +kernel
theorem zd_Ca_advance_63 : decode zo_Ca_advance 63 = .ok (.getfield 21, 3) := by decide +kernel
theorem zd_Ca_advance_66 : decode zo_Ca_advance 66 = .ok (.ifCond .ne 80, 3) := by decide +kernel
theorem zd_Ca_advance_69 : decode zo_Ca_advance 69 = .ok (.aload_n 0, 1) := by decide +kernel
theorem zd_Ca_advance_70 : decode zo_Ca_advance 70 = .ok (.iconst 2, 1) := by decide +kernel
theorem zd_Ca_advance_71 : decode zo_Ca_advance 71 = .ok (.iconst 4, 1) := by decide +kernel
theorem zd_Ca_advance_72 : decode zo_Ca_advance 72 = .ok (.invokevirtual 82, 3) := by decide +kernel
theorem zd_Ca_advance_75 : decode zo_Ca_advance 75 = .ok (.aload_n 0, 1) := by decide +kernel
theorem zd_Ca_advance_76 : decode zo_Ca_advance 76 = .ok (.iconst 0, 1) := by decide +kernel
theorem zd_Ca_advance_77 : decode zo_Ca_advance 77 = .ok (.putfield 24, 3) := by decide +kernel
theorem zd_Ca_advance_80 : decode zo_Ca_advance 80 = .ok (.aload_n 0, 1) := by decide +kernel
theorem zd_Ca_advance_81 : decode zo_Ca_advance 81 = .ok (.aload_n 1, 1) := by decide +kernel
theorem zd_Ca_advance_82 : decode zo_Ca_advance 82 = .ok (.invokevirtual 86, 3) := by decide +kernel
theorem zd_Ca_advance_85 : decode zo_Ca_advance 85 = .ok (.goto 61, 3) := by decide +kernel
theorem zd_Ca_advance_88 : decode zo_Ca_advance 88 = .ok (.aload_n 0, 1) := by decide +kernel
theorem zd_Ca_advance_89 : decode zo_Ca_advance 89 = .ok (.aload_n 1, 1) := by decide +kernel
theorem zd_Ca_advance_90 : decode zo_Ca_advance 90 = .ok (.invokevirtual 86, 3) := by decide +kernel
theorem zd_Ca_advance_93 : decode zo_Ca_advance 93 = .ok (.aload_n 0, 1) := by decide +kernel
theorem zd_Ca_advance_94 : decode zo_Ca_advance 94 = .ok (.aload_n 1, 1) := by decide +kernel
theorem zd_Ca_advance_95 : decode zo_Ca_advance 95 = .ok (.getfield 46, 3) := by decide +kernel
theorem zd_Ca_advance_98 : decode zo_Ca_advance 98 = .ok (.ifCond .eq 14, 3) := by decide +kernel
theorem zd_Ca_advance_101 : decode zo_Ca_advance 101 = .ok (.aload_n 0, 1) := by decide +kernel
theorem zd_Ca_advance_102 : decode zo_Ca_advance 102 = .ok (.getfield 9, 3) := by decide +kernel
theorem zd_Ca_advance_105 : decode zo_Ca_advance 105 = .ok (.ifCond .ne 7, 3) := by decide +kernel
theorem zd_Ca_advance_108 : decode zo_Ca_advance 108 = .ok (.iconst 1, 1) := by decide +kernel
theorem zd_Ca_advance_109 : decode zo_Ca_advance 109 = .ok (.goto 4, 3) := by decide +kernel
theorem zd_Ca_advance_112 : decode zo_Ca_advance 112 = .ok (.iconst 0, 1) := by decide +kernel
theorem zd_Ca_advance_113 : decode zo_Ca_advance 113 = .ok (.invokevirtual 90, 3) := by decide +kernel
theorem zd_Ca_advance_116 : decode zo_Ca_advance 116 = .ok (.goto 30, 3) := by decide +kernel
theorem zd_Ca_advance_119 : decode zo_Ca_advance 119 = .ok (.aload_n 0, 1) := by decide +kernel
theorem zd_Ca_advance_120 : decode zo_Ca_advance 120 = .ok (.getfield 34, 3) := by decide +kernel
theorem zd_Ca_advance_123 : decode zo_Ca_advance 123 = .ok (.ifCond .eq 12, 3) := by decide +kernel
theorem zd_Ca_advance_126 : decode zo_Ca_advance 126 = .ok (.aload_n 0, 1) := by decide +kernel
theorem zd_Ca_advance_127 : decode zo_Ca_advance 127 = .ok (.iconst 1, 1) := by decide +kernel
theorem zd_Ca_advance_128 : decode zo_Ca_advance 128 = .ok (.iconst 3, 1) := by decide +kernel
theorem zd_Ca_advance_129 : decode zo_Ca_advance 129 = .ok (.invokevirtual 82, 3) := by decide +kernel
theorem zd_Ca_advance_132 : decode zo_Ca_advance 132 = .ok (.goto 14, 3) := by decide +kernel
theorem zd_Ca_advance_135 : decode zo_Ca_advance 135 = .ok (.aload_n 0, 1) := by decide +kernel
theorem zd_Ca_advance_136 : decode zo_Ca_advance 136 = .ok (.invokevirtual 94, 3) := by decide +kernel
theorem zd_Ca_advance_139 : decode zo_Ca_advance 139 = .ok (.goto 7, 3) := by decide +kernel
theorem zd_Ca_advance_142 : decode zo_Ca_advance 142 = .ok (.aload_n 0, 1) := by decide +kernel
theorem zd_Ca_advance_143 : decode zo_Ca_advance 143 = .ok (.invokevirtual 94, 3) := by decide +kernel
theorem zd_Ca_advance_146 : decode zo_Ca_advance 146 = .ok (.return_, 1) := by decide +kernel
section ZC3
variable {p : Program} {l : Launch} {e : Env} {s : State} {m : MethodId} {args : Array Value} {below : List Frame} {meth : Method} {c : Code} {E : zE} {A : Nat → Prop}
/-! java/lang/Integer.bitCount(I)I -/
abbrev zrm_In_bitCount : Room := { frames := 0, cells := 0, slots := 0, locals := 0 }
def zf_In_bitCount (N : Nat) (a0 : Int32) (st : zS) : Option (Int32 × zS) := some (((((((((a0 - ((((a0).toUInt32 >>> ((1 : Int32).toUInt32 &&& Int32.toUInt32 31)).toInt32) &&& 1431655765)) &&& 858993459) + (((((a0 - ((((a0).toUInt32 >>> ((1 : Int32).toUInt32 &&& Int32.toUInt32 31)).toInt32) &&& 1431655765))).toUInt32 >>> ((2 : Int32).toUInt32 &&& Int32.toUInt32 31)).toInt32) &&& 858993459)) + ((((((a0 - ((((a0).toUInt32 >>> ((1 : Int32).toUInt32 &&& Int32.toUInt32 31)).toInt32) &&& 1431655765)) &&& 858993459) + (((((a0 - ((((a0).toUInt32 >>> ((1 : Int32).toUInt32 &&& Int32.toUInt32 31)).toInt32) &&& 1431655765))).toUInt32 >>> ((2 : Int32).toUInt32 &&& Int32.toUInt32 31)).toInt32) &&& 858993459))).toUInt32 >>> ((4 : Int32).toUInt32 &&& Int32.toUInt32 31)).toInt32)) &&& 252645135) + ((((((((a0 - ((((a0).toUInt32 >>> ((1 : Int32).toUInt32 &&& Int32.toUInt32 31)).toInt32) &&& 1431655765)) &&& 858993459) + (((((a0 - ((((a0).toUInt32 >>> ((1 : Int32).toUInt32 &&& Int32.toUInt32 31)).toInt32) &&& 1431655765))).toUInt32 >>> ((2 : Int32).toUInt32 &&& Int32.toUInt32 31)).toInt32) &&& 858993459)) + ((((((a0 - ((((a0).toUInt32 >>> ((1 : Int32).toUInt32 &&& Int32.toUInt32 31)).toInt32) &&& 1431655765)) &&& 858993459) + (((((a0 - ((((a0).toUInt32 >>> ((1 : Int32).toUInt32 &&& Int32.toUInt32 31)).toInt32) &&& 1431655765))).toUInt32 >>> ((2 : Int32).toUInt32 &&& Int32.toUInt32 31)).toInt32) &&& 858993459))).toUInt32 >>> ((4 : Int32).toUInt32 &&& Int32.toUInt32 31)).toInt32)) &&& 252645135)).toUInt32 >>> ((8 : Int32).toUInt32 &&& Int32.toUInt32 31)).toInt32)) + (((((((((a0 - ((((a0).toUInt32 >>> ((1 : Int32).toUInt32 &&& Int32.toUInt32 31)).toInt32) &&& 1431655765)) &&& 858993459) + (((((a0 - ((((a0).toUInt32 >>> ((1 : Int32).toUInt32 &&& Int32.toUInt32 31)).toInt32) &&& 1431655765))).toUInt32 >>> ((2 : Int32).toUInt32 &&& Int32.toUInt32 31)).toInt32) &&& 858993459)) + ((((((a0 - ((((a0).toUInt32 >>> ((1 : Int32).toUInt32 &&& Int32.toUInt32 31)).toInt32) &&& 1431655765)) &&& 858993459) + (((((a0 - ((((a0).toUInt32 >>> ((1 : Int32).toUInt32 &&& Int32.toUInt32 31)).toInt32) &&& 1431655765))).toUInt32 >>> ((2 : Int32).toUInt32 &&& Int32.toUInt32 31)).toInt32) &&& 858993459))).toUInt32 >>> ((4 : Int32).toUInt32 &&& Int32.toUInt32 31)).toInt32)) &&& 252645135) + ((((((((a0 - ((((a0).toUInt32 >>> ((1 : Int32).toUInt32 &&& Int32.toUInt32 31)).toInt32) &&& 1431655765)) &&& 858993459) + (((((a0 - ((((a0).toUInt32 >>> ((1 : Int32).toUInt32 &&& Int32.toUInt32 31)).toInt32) &&& 1431655765))).toUInt32 >>> ((2 : Int32).toUInt32 &&& Int32.toUInt32 31)).toInt32) &&& 858993459)) + ((((((a0 - ((((a0).toUInt32 >>> ((1 : Int32).toUInt32 &&& Int32.toUInt32 31)).toInt32) &&& 1431655765)) &&& 858993459) + (((((a0 - ((((a0).toUInt32 >>> ((1 : Int32).toUInt32 &&& Int32.toUInt32 31)).toInt32) &&& 1431655765))).toUInt32 >>> ((2 : Int32).toUInt32 &&& Int32.toUInt32 31)).toInt32) &&& 858993459))).toUInt32 >>> ((4 : Int32).toUInt32 &&& Int32.toUInt32 31)).toInt32)) &&& 252645135)).toUInt32 >>> ((8 : Int32).toUInt32 &&& Int32.toUInt32 31)).toInt32))).toUInt32 >>> ((16 : Int32).toUInt32 &&& Int32.toUInt32 31)).toInt32)) &&& 63), st)
set_option maxHeartbeats 4000000 in
theorem zl_In_bitCount_0 (F : zw_X p m c zo_In_bitCount 1 s args "java/lang/Integer" E 10 A meth (some .int)) {N : Nat} {rv : Int32} {rst : zS} (a0 : Int32) (st : zS)  (h : zf_In_bitCount N a0 st = some (rv, rst)) : zw_G p l e zrm_In_bitCount s m args below meth c (MQ below (zw_Q E (some (.int rv)) rst A) args s 0 0 A) E A 1 0 0 [some (.int a0)] [] st := by
  unfold zf_In_bitCount at h
  refine zg_iload_n F.1 zd_In_bitCount_0 rfl rfl ?_
  refine zg_iload_n F.1 zd_In_bitCount_1 rfl rfl ?_
  refine zg_iconst F.1 1 1 (by decide) zd_In_bitCount_2 ?_
  refine zg_iushr F.1 zd_In_bitCount_3 ?_
  refine zg_ldcw F.1 1431655765 (zw_at 324 rfl rfl) zd_In_bitCount_4 ?_
  refine zg_iand F.1 zd_In_bitCount_7 ?_
  refine zg_isub F.1 zd_In_bitCount_8 ?_
  refine zg_istore_n F.1 [some (.int (a0 - ((((a0).toUInt32 >>> ((1 : Int32).toUInt32 &&& Int32.toUInt32 31)).toInt32) &&& 1431655765)))] zd_In_bitCount_9 rfl (by decide) rfl ?_
  refine zg_iload_n F.1 zd_In_bitCount_10 rfl rfl ?_
  refine zg_ldcw F.1 858993459 (zw_at 325 rfl rfl) zd_In_bitCount_11 ?_
  refine zg_iand F.1 zd_In_bitCount_14 ?_
  refine zg_iload_n F.1 zd_In_bitCount_15 rfl rfl ?_
  refine zg_iconst F.1 2 2 (by decide) zd_In_bitCount_16 ?_
  refine zg_iushr F.1 zd_In_bitCount_17 ?_
  refine zg_ldcw F.1 858993459 (zw_at 325 rfl rfl) zd_In_bitCount_18 ?_
  refine zg_iand F.1 zd_In_bitCount_21 ?_
  refine zg_iadd F.1 zd_In_bitCount_22 ?_
  refine zg_istore_n F.1 [some (.int (((a0 - ((((a0).toUInt32 >>> ((1 : Int32).toUInt32 &&& Int32.toUInt32 31)).toInt32) &&& 1431655765)) &&& 858993459) + (((((a0 - ((((a0).toUInt32 >>> ((1 : Int32).toUInt32 &&& Int32.toUInt32 31)).toInt32) &&& 1431655765))).toUInt32 >>> ((2 : Int32).toUInt32 &&& Int32.toUInt32 31)).toInt32) &&& 858993459)))] zd_In_bitCount_23 rfl (by decide) rfl ?_
  refine zg_iload_n F.1 zd_In_bitCount_24 rfl rfl ?_
  refine zg_iload_n F.1 zd_In_bitCount_25 rfl rfl ?_
  refine zg_iconst F.1 4 4 (by decide) zd_In_bitCount_26 ?_
  refine zg_iushr F.1 zd_In_bitCount_27 ?_
  refine zg_iadd F.1 zd_In_bitCount_28 ?_
  refine zg_ldcw F.1 252645135 (zw_at 326 rfl rfl) zd_In_bitCount_29 ?_
  refine zg_iand F.1 zd_In_bitCount_32 ?_
  refine zg_istore_n F.1 [some (.int (((((a0 - ((((a0).toUInt32 >>> ((1 : Int32).toUInt32 &&& Int32.toUInt32 31)).toInt32) &&& 1431655765)) &&& 858993459) + (((((a0 - ((((a0).toUInt32 >>> ((1 : Int32).toUInt32 &&& Int32.toUInt32 31)).toInt32) &&& 1431655765))).toUInt32 >>> ((2 : Int32).toUInt32 &&& Int32.toUInt32 31)).toInt32) &&& 858993459)) + ((((((a0 - ((((a0).toUInt32 >>> ((1 : Int32).toUInt32 &&& Int32.toUInt32 31)).toInt32) &&& 1431655765)) &&& 858993459) + (((((a0 - ((((a0).toUInt32 >>> ((1 : Int32).toUInt32 &&& Int32.toUInt32 31)).toInt32) &&& 1431655765))).toUInt32 >>> ((2 : Int32).toUInt32 &&& Int32.toUInt32 31)).toInt32) &&& 858993459))).toUInt32 >>> ((4 : Int32).toUInt32 &&& Int32.toUInt32 31)).toInt32)) &&& 252645135))] zd_In_bitCount_33 rfl (by decide) rfl ?_
  refine zg_iload_n F.1 zd_In_bitCount_34 rfl rfl ?_
  refine zg_iload_n F.1 zd_In_bitCount_35 rfl rfl ?_
  refine zg_bipush F.1 8 8 (by decide) zd_In_bitCount_36 ?_
  refine zg_iushr F.1 zd_In_bitCount_38 ?_
  refine zg_iadd F.1 zd_In_bitCount_39 ?_
  refine zg_istore_n F.1 [some (.int ((((((a0 - ((((a0).toUInt32 >>> ((1 : Int32).toUInt32 &&& Int32.toUInt32 31)).toInt32) &&& 1431655765)) &&& 858993459) + (((((a0 - ((((a0).toUInt32 >>> ((1 : Int32).toUInt32 &&& Int32.toUInt32 31)).toInt32) &&& 1431655765))).toUInt32 >>> ((2 : Int32).toUInt32 &&& Int32.toUInt32 31)).toInt32) &&& 858993459)) + ((((((a0 - ((((a0).toUInt32 >>> ((1 : Int32).toUInt32 &&& Int32.toUInt32 31)).toInt32) &&& 1431655765)) &&& 858993459) + (((((a0 - ((((a0).toUInt32 >>> ((1 : Int32).toUInt32 &&& Int32.toUInt32 31)).toInt32) &&& 1431655765))).toUInt32 >>> ((2 : Int32).toUInt32 &&& Int32.toUInt32 31)).toInt32) &&& 858993459))).toUInt32 >>> ((4 : Int32).toUInt32 &&& Int32.toUInt32 31)).toInt32)) &&& 252645135) + ((((((((a0 - ((((a0).toUInt32 >>> ((1 : Int32).toUInt32 &&& Int32.toUInt32 31)).toInt32) &&& 1431655765)) &&& 858993459) + (((((a0 - ((((a0).toUInt32 >>> ((1 : Int32).toUInt32 &&& Int32.toUInt32 31)).toInt32) &&& 1431655765))).toUInt32 >>> ((2 : Int32).toUInt32 &&& Int32.toUInt32 31)).toInt32) &&& 858993459)) + ((((((a0 - ((((a0).toUInt32 >>> ((1 : Int32).toUInt32 &&& Int32.toUInt32 31)).toInt32) &&& 1431655765)) &&& 858993459) + (((((a0 - ((((a0).toUInt32 >>> ((1 : Int32).toUInt32 &&& Int32.toUInt32 31)).toInt32) &&& 1431655765))).toUInt32 >>> ((2 : Int32).toUInt32 &&& Int32.toUInt32 31)).toInt32) &&& 858993459))).toUInt32 >>> ((4 : Int32).toUInt32 &&& Int32.toUInt32 31)).toInt32)) &&& 252645135)).toUInt32 >>> ((8 : Int32).toUInt32 &&& Int32.toUInt32 31)).toInt32)))] zd_In_bitCount_40 rfl (by decide) rfl ?_
  refine zg_iload_n F.1 zd_In_bitCount_41 rfl rfl ?_
  refine zg_iload_n F.1 zd_In_bitCount_42 rfl rfl ?_
  refine zg_bipush F.1 16 16 (by decide) zd_In_bitCount_43 ?_
  refine zg_iushr F.1 zd_In_bitCount_45 ?_
  refine zg_iadd F.1 zd_In_bitCount_46 ?_
  refine zg_istore_n F.1 [some (.int (((((((a0 - ((((a0).toUInt32 >>> ((1 : Int32).toUInt32 &&& Int32.toUInt32 31)).toInt32) &&& 1431655765)) &&& 858993459) + (((((a0 - ((((a0).toUInt32 >>> ((1 : Int32).toUInt32 &&& Int32.toUInt32 31)).toInt32) &&& 1431655765))).toUInt32 >>> ((2 : Int32).toUInt32 &&& Int32.toUInt32 31)).toInt32) &&& 858993459)) + ((((((a0 - ((((a0).toUInt32 >>> ((1 : Int32).toUInt32 &&& Int32.toUInt32 31)).toInt32) &&& 1431655765)) &&& 858993459) + (((((a0 - ((((a0).toUInt32 >>> ((1 : Int32).toUInt32 &&& Int32.toUInt32 31)).toInt32) &&& 1431655765))).toUInt32 >>> ((2 : Int32).toUInt32 &&& Int32.toUInt32 31)).toInt32) &&& 858993459))).toUInt32 >>> ((4 : Int32).toUInt32 &&& Int32.toUInt32 31)).toInt32)) &&& 252645135) + ((((((((a0 - ((((a0).toUInt32 >>> ((1 : Int32).toUInt32 &&& Int32.toUInt32 31)).toInt32) &&& 1431655765)) &&& 858993459) + (((((a0 - ((((a0).toUInt32 >>> ((1 : Int32).toUInt32 &&& Int32.toUInt32 31)).toInt32) &&& 1431655765))).toUInt32 >>> ((2 : Int32).toUInt32 &&& Int32.toUInt32 31)).toInt32) &&& 858993459)) + ((((((a0 - ((((a0).toUInt32 >>> ((1 : Int32).toUInt32 &&& Int32.toUInt32 31)).toInt32) &&& 1431655765)) &&& 858993459) + (((((a0 - ((((a0).toUInt32 >>> ((1 : Int32).toUInt32 &&& Int32.toUInt32 31)).toInt32) &&& 1431655765))).toUInt32 >>> ((2 : Int32).toUInt32 &&& Int32.toUInt32 31)).toInt32) &&& 858993459))).toUInt32 >>> ((4 : Int32).toUInt32 &&& Int32.toUInt32 31)).toInt32)) &&& 252645135)).toUInt32 >>> ((8 : Int32).toUInt32 &&& Int32.toUInt32 31)).toInt32)) + (((((((((a0 - ((((a0).toUInt32 >>> ((1 : Int32).toUInt32 &&& Int32.toUInt32 31)).toInt32) &&& 1431655765)) &&& 858993459) + (((((a0 - ((((a0).toUInt32 >>> ((1 : Int32).toUInt32 &&& Int32.toUInt32 31)).toInt32) &&& 1431655765))).toUInt32 >>> ((2 : Int32).toUInt32 &&& Int32.toUInt32 31)).toInt32) &&& 858993459)) + ((((((a0 - ((((a0).toUInt32 >>> ((1 : Int32).toUInt32 &&& Int32.toUInt32 31)).toInt32) &&& 1431655765)) &&& 858993459) + (((((a0 - ((((a0).toUInt32 >>> ((1 : Int32).toUInt32 &&& Int32.toUInt32 31)).toInt32) &&& 1431655765))).toUInt32 >>> ((2 : Int32).toUInt32 &&& Int32.toUInt32 31)).toInt32) &&& 858993459))).toUInt32 >>> ((4 : Int32).toUInt32 &&& Int32.toUInt32 31)).toInt32)) &&& 252645135) + ((((((((a0 - ((((a0).toUInt32 >>> ((1 : Int32).toUInt32 &&& Int32.toUInt32 31)).toInt32) &&& 1431655765)) &&& 858993459) + (((((a0 - ((((a0).toUInt32 >>> ((1 : Int32).toUInt32 &&& Int32.toUInt32 31)).toInt32) &&& 1431655765))).toUInt32 >>> ((2 : Int32).toUInt32 &&& Int32.toUInt32 31)).toInt32) &&& 858993459)) + ((((((a0 - ((((a0).toUInt32 >>> ((1 : Int32).toUInt32 &&& Int32.toUInt32 31)).toInt32) &&& 1431655765)) &&& 858993459) + (((((a0 - ((((a0).toUInt32 >>> ((1 : Int32).toUInt32 &&& Int32.toUInt32 31)).toInt32) &&& 1431655765))).toUInt32 >>> ((2 : Int32).toUInt32 &&& Int32.toUInt32 31)).toInt32) &&& 858993459))).toUInt32 >>> ((4 : Int32).toUInt32 &&& Int32.toUInt32 31)).toInt32)) &&& 252645135)).toUInt32 >>> ((8 : Int32).toUInt32 &&& Int32.toUInt32 31)).toInt32))).toUInt32 >>> ((16 : Int32).toUInt32 &&& Int32.toUInt32 31)).toInt32)))] zd_In_bitCount_47 rfl (by decide) rfl ?_
  refine zg_iload_n F.1 zd_In_bitCount_48 rfl rfl ?_
  refine zg_bipush F.1 63 63 (by decide) zd_In_bitCount_49 ?_
  refine zg_iand F.1 zd_In_bitCount_51 ?_
  cases h
  exact zg_iret F zd_In_bitCount_52
theorem zk_In_bitCount {E : zE} (hn : zw_n E 10) (N : Nat) (a0 : Int32) (st : zS)  {rv : Int32} {rst : zS} (h : zf_In_bitCount N a0 st = some (rv, rst)) : zw_M l zy_In_bitCount (Cond.code zy_In_bitCount zo_In_bitCount 1 (some .int) :: zwAll) zrm_In_bitCount E [.int a0] st (some (.int rv)) rst :=
  zw_enter (by decide) rfl hn (Nat.le_of_ble_eq_true rfl) (by simp [Value.category]) 0 (fun p e s m args below meth c A F => zl_In_bitCount_0 F a0 st  h)
theorem zwf_Ca_97 : Cond.fieldLink zR2 97 (zT2 10).1 (zT2 10).2.1 (zT2 10).2.2.1 ∈ zwAll := zw_at 127 rfl rfl
theorem zwf_Ca_100 : Cond.fieldLink zR2 100 (zT2 11).1 (zT2 11).2.1 (zT2 11).2.2.1 ∈ zwAll := zw_at 129 rfl rfl
theorem zwf_Ca_103 : Cond.fieldLink zR2 103 (zT2 12).1 (zT2 12).2.1 (zT2 12).2.2.1 ∈ zwAll := zw_at 131 rfl rfl
/-! LiftGroup$Car.forgetMoved()V -/
abbrev zrm_Ca_forgetMoved : Room := { frames := 0, cells := 0, slots := 0, locals := 0 }
def zf_Ca_forgetMoved (N : Nat) (a0 : Nat) (st : zS) : Option zS := some (zp (zp (zp st a0 10 0) a0 11 0) a0 12 0)
set_option maxHeartbeats 4000000 in
theorem zl_Ca_forgetMoved_0 (F : zw_X p m c zo_Ca_forgetMoved 1 s args zR2 E 10 A meth none) {N : Nat} {rst : zS} (a0 : Nat) (st : zS) (k0 : zw_kind a0 = 2) (h : zf_Ca_forgetMoved N a0 st = some rst) : zw_G p l e zrm_Ca_forgetMoved s m args below meth c (MQ below (zw_Q E none rst A) args s 0 0 A) E A 1 0 0 [some (.ref a0)] [] st := by
  unfold zf_Ca_forgetMoved at h
  refine zg_aload_n F.1 zd_Ca_forgetMoved_0 rfl rfl ?_
  refine zg_iconst F.1 0 0 (by decide) zd_Ca_forgetMoved_1 ?_
  refine zg_putI2 F.1 (by decide) k0 10 (by decide) (Or.inr (Or.inr (Or.inr (Or.inr (Or.inr (Or.inr (Or.inr (Or.inr (Or.inr (Or.inr (Or.inl rfl))))))))))) .int (by decide) rfl rfl rfl zwf_Ca_97 zd_Ca_forgetMoved_2 ?_
  refine zg_aload_n F.1 zd_Ca_forgetMoved_5 rfl rfl ?_
  refine zg_iconst F.1 0 0 (by decide) zd_Ca_forgetMoved_6 ?_
  refine zg_putI2 F.1 (by decide) k0 11 (by decide) (Or.inr (Or.inr (Or.inr (Or.inr (Or.inr (Or.inr (Or.inr (Or.inr (Or.inr (Or.inr (Or.inr (Or.inl rfl)))))))))))) .int (by decide) rfl rfl rfl zwf_Ca_100 zd_Ca_forgetMoved_7 ?_
  refine zg_aload_n F.1 zd_Ca_forgetMoved_10 rfl rfl ?_
  refine zg_iconst F.1 0 0 (by decide) zd_Ca_forgetMoved_11 ?_
  refine zg_putI2 F.1 (by decide) k0 12 (by decide) (Or.inr (Or.inr (Or.inr (Or.inr (Or.inr (Or.inr (Or.inr (Or.inr (Or.inr (Or.inr (Or.inr (Or.inr rfl)))))))))))) .int (by decide) rfl rfl rfl zwf_Ca_103 zd_Ca_forgetMoved_12 ?_
  cases h
  exact zg_vret F zd_Ca_forgetMoved_15
theorem zk_Ca_forgetMoved {E : zE} (hn : zw_n E 10) (N : Nat) (a0 : Nat) (st : zS) (k0 : zw_kind a0 = 2) {rst : zS} (h : zf_Ca_forgetMoved N a0 st = some rst) : zw_M l zy_Ca_forgetMoved (Cond.code zy_Ca_forgetMoved zo_Ca_forgetMoved 1 none :: zwAll) zrm_Ca_forgetMoved E [.ref a0] st none rst :=
  zw_enter (by decide) rfl hn (Nat.le_of_ble_eq_true rfl) (by simp [Value.category]) 0 (fun p e s m args below meth c A F => zl_Ca_forgetMoved_0 F a0 st k0 h)
theorem zwf_Ca_9 : Cond.fieldLink zR2 9 (zT2 0).1 (zT2 0).2.1 (zT2 0).2.2.1 ∈ zwAll := zw_at 108 rfl rfl
theorem zwf_Ca_15 : Cond.fieldLink zR2 15 (zT2 1).1 (zT2 1).2.1 (zT2 1).2.2.1 ∈ zwAll := zw_at 110 rfl rfl
theorem zwf_Ca_18 : Cond.fieldLink zR2 18 (zT2 2).1 (zT2 2).2.1 (zT2 2).2.2.1 ∈ zwAll := zw_at 112 rfl rfl
theorem zwf_Ca_21 : Cond.fieldLink zR2 21 (zT2 3).1 (zT2 3).2.1 (zT2 3).2.2.1 ∈ zwAll := zw_at 114 rfl rfl
theorem zwf_Ca_24 : Cond.fieldLink zR2 24 (zT2 4).1 (zT2 4).2.1 (zT2 4).2.2.1 ∈ zwAll := zw_at 116 rfl rfl
theorem zwf_Ca_27 : Cond.fieldLink zR2 27 (zT2 5).1 (zT2 5).2.1 (zT2 5).2.2.1 ∈ zwAll := zw_at 117 rfl rfl
theorem zwf_Ca_31 : Cond.fieldLink zR2 31 (zT2 6).1 (zT2 6).2.1 (zT2 6).2.2.1 ∈ zwAll := zw_at 119 rfl rfl
theorem zwf_Ca_34 : Cond.fieldLink zR2 34 (zT2 7).1 (zT2 7).2.1 (zT2 7).2.2.1 ∈ zwAll := zw_at 121 rfl rfl
theorem zwf_Ca_37 : Cond.fieldLink zR2 37 (zT2 8).1 (zT2 8).2.1 (zT2 8).2.2.1 ∈ zwAll := zw_at 123 rfl rfl
theorem zwf_Ca_40 : Cond.fieldLink zR2 40 (zT2 9).1 (zT2 9).2.1 (zT2 9).2.2.1 ∈ zwAll := zw_at 125 rfl rfl
theorem zcal_Ca_forgetMoved : zw_cal zR2 zy_Ca_forgetMoved zo_Ca_forgetMoved 1 none 0 := ⟨zw_at 233 rfl rfl, zw_at 1 rfl rfl, zw_at 49 rfl rfl, zw_at 234 rfl rfl, rfl, by decide, by decide, by decide +kernel⟩
theorem zml_Ca_43 : Cond.methodLink zR2 43 zy_Ca_forgetMoved ∈ zwAll := zw_at 231 rfl rfl
/-! LiftGroup$Car.startAnew()V -/
abbrev zrm_Ca_startAnew : Room := { frames := 1, cells := 0, slots := 0, locals := 20 }
def zf_Ca_startAnew (N : Nat) (a0 : Nat) (st : zS) : Option zS := ((zf_Ca_forgetMoved N a0 (zp (zp (zp (zp (zp (zp (zp (zp (zp (zp st a0 0 0) a0 1 0) a0 2 0) a0 3 0) a0 4 0) a0 5 0) a0 6 0) a0 7 0) a0 8 0) a0 9 0)).bind fun t51 => some t51)
set_option maxHeartbeats 4000000 in
theorem zl_Ca_startAnew_0 (F : zw_X p m c zo_Ca_startAnew 1 s args zR2 E 10 A meth none) {N : Nat} {rst : zS} (a0 : Nat) (st : zS) (k0 : zw_kind a0 = 2) (h : zf_Ca_startAnew N a0 st = some rst) : zw_G p l e zrm_Ca_startAnew s m args below meth c (MQ below (zw_Q E none rst A) args s 0 0 A) E A 1 0 0 [some (.ref a0)] [] st := by
  unfold zf_Ca_startAnew at h
  refine zg_aload_n F.1 zd_Ca_startAnew_0 rfl rfl ?_
  refine zg_iconst F.1 0 0 (by decide) zd_Ca_startAnew_1 ?_
  refine zg_putI2 F.1 (by decide) k0 0 (by decide) (Or.inl rfl) .int (by decide) rfl rfl rfl zwf_Ca_9 zd_Ca_startAnew_2 ?_
  refine zg_aload_n F.1 zd_Ca_startAnew_5 rfl rfl ?_
  refine zg_iconst F.1 0 0 (by decide) zd_Ca_startAnew_6 ?_
  refine zg_putI2 F.1 (by decide) k0 1 (by decide) (Or.inr (Or.inl rfl)) .int (by decide) rfl rfl rfl zwf_Ca_15 zd_Ca_startAnew_7 ?_
  refine zg_aload_n F.1 zd_Ca_startAnew_10 rfl rfl ?_
  refine zg_iconst F.1 0 0 (by decide) zd_Ca_startAnew_11 ?_
  refine zg_putI2 F.1 (by decide) k0 2 (by decide) (Or.inr (Or.inr (Or.inl rfl))) .int (by decide) rfl rfl rfl zwf_Ca_18 zd_Ca_startAnew_12 ?_
  refine zg_aload_n F.1 zd_Ca_startAnew_15 rfl rfl ?_
  refine zg_iconst F.1 0 0 (by decide) zd_Ca_startAnew_16 ?_
  refine zg_putI2 F.1 (by decide) k0 3 (by decide) (Or.inr (Or.inr (Or.inr (Or.inl rfl)))) .int (by decide) rfl rfl rfl zwf_Ca_21 zd_Ca_startAnew_17 ?_
  refine zg_aload_n F.1 zd_Ca_startAnew_20 rfl rfl ?_
  refine zg_iconst F.1 0 0 (by decide) zd_Ca_startAnew_21 ?_
  refine zg_putI2 F.1 (by decide) k0 4 (by decide) (Or.inr (Or.inr (Or.inr (Or.inr (Or.inl rfl))))) .int (by decide) rfl rfl rfl zwf_Ca_24 zd_Ca_startAnew_22 ?_
  refine zg_aload_n F.1 zd_Ca_startAnew_25 rfl rfl ?_
  refine zg_iconst F.1 0 0 (by decide) zd_Ca_startAnew_26 ?_
  refine zg_putI2 F.1 (by decide) k0 5 (by decide) (Or.inr (Or.inr (Or.inr (Or.inr (Or.inr (Or.inl rfl)))))) .boolean (by decide) rfl rfl rfl zwf_Ca_27 zd_Ca_startAnew_27 ?_
  refine zg_aload_n F.1 zd_Ca_startAnew_30 rfl rfl ?_
  refine zg_iconst F.1 0 0 (by decide) zd_Ca_startAnew_31 ?_
  refine zg_putI2 F.1 (by decide) k0 6 (by decide) (Or.inr (Or.inr (Or.inr (Or.inr (Or.inr (Or.inr (Or.inl rfl))))))) .boolean (by decide) rfl rfl rfl zwf_Ca_31 zd_Ca_startAnew_32 ?_
  refine zg_aload_n F.1 zd_Ca_startAnew_35 rfl rfl ?_
  refine zg_iconst F.1 0 0 (by decide) zd_Ca_startAnew_36 ?_
  refine zg_putI2 F.1 (by decide) k0 7 (by decide) (Or.inr (Or.inr (Or.inr (Or.inr (Or.inr (Or.inr (Or.inr (Or.inl rfl)))))))) .boolean (by decide) rfl rfl rfl zwf_Ca_34 zd_Ca_startAnew_37 ?_
  refine zg_aload_n F.1 zd_Ca_startAnew_40 rfl rfl ?_
  refine zg_iconst F.1 0 0 (by decide) zd_Ca_startAnew_41 ?_
  refine zg_putI2 F.1 (by decide) k0 8 (by decide) (Or.inr (Or.inr (Or.inr (Or.inr (Or.inr (Or.inr (Or.inr (Or.inr (Or.inl rfl))))))))) .int (by decide) rfl rfl rfl zwf_Ca_37 zd_Ca_startAnew_42 ?_
  refine zg_aload_n F.1 zd_Ca_startAnew_45 rfl rfl ?_
  refine zg_iconst F.1 0 0 (by decide) zd_Ca_startAnew_46 ?_
  refine zg_putI2 F.1 (by decide) k0 9 (by decide) (Or.inr (Or.inr (Or.inr (Or.inr (Or.inr (Or.inr (Or.inr (Or.inr (Or.inr (Or.inl rfl)))))))))) .int (by decide) rfl rfl rfl zwf_Ca_40 zd_Ca_startAnew_47 ?_
  refine zg_aload_n F.1 zd_Ca_startAnew_50 rfl rfl ?_
  obtain ⟨t51, hc51, h⟩ := Option.bind_eq_some_iff.mp h
  refine zg_callV F (As := []) (rest := []) (zk_Ca_forgetMoved F.1.2.2 N a0 (zp (zp (zp (zp (zp (zp (zp (zp (zp (zp st a0 0 0) a0 1 0) a0 2 0) a0 3 0) a0 4 0) a0 5 0) a0 6 0) a0 7 0) a0 8 0) a0 9 0) k0 hc51) rfl rfl zcal_Ca_forgetMoved zml_Ca_43 ⟨(Nat.le_of_ble_eq_true rfl), (Nat.le_of_ble_eq_true rfl)⟩ (zg_rec2 F.1 (by decide) k0) rfl (Nat.le_of_ble_eq_true rfl) ⟨(Nat.le_of_ble_eq_true rfl), (Nat.le_of_ble_eq_true rfl)⟩ zd_Ca_startAnew_51 ?_
  cases h
  exact zg_vret F zd_Ca_startAnew_54
theorem zk_Ca_startAnew {E : zE} (hn : zw_n E 10) (N : Nat) (a0 : Nat) (st : zS) (k0 : zw_kind a0 = 2) {rst : zS} (h : zf_Ca_startAnew N a0 st = some rst) : zw_M l zy_Ca_startAnew (Cond.code zy_Ca_startAnew zo_Ca_startAnew 1 none :: zwAll) zrm_Ca_startAnew E [.ref a0] st none rst :=
  zw_enter (by decide) rfl hn (Nat.le_of_ble_eq_true rfl) (by simp [Value.category]) 0 (fun p e s m args below meth c A F => zl_Ca_startAnew_0 F a0 st k0 h)
/-! LiftGroup$Car.becomeLike(LLiftGroup$Car;)V -/
abbrev zrm_Ca_becomeLike : Room := { frames := 0, cells := 0, slots := 0, locals := 0 }
def zf_Ca_becomeLike (N : Nat) (a0 : Nat) (a1 : Nat) (st : zS) : Option zS := (if a0 = a1 then none else (if (st a1 7) = 0 ∨ (st a1 7) = 1 then some (zp (zp (zp (zp (zp (zp (zp (zp st a0 0 (st a1 0)) a0 1 (st a1 1)) a0 2 (st a1 2)) a0 3 (st a1 3)) a0 4 (st a1 4)) a0 7 (st a1 7)) a0 8 (st a1 8)) a0 9 (st a1 9)) else none))
set_option maxHeartbeats 4000000 in
theorem zl_Ca_becomeLike_0 (F : zw_X p m c zo_Ca_becomeLike 2 s args zR2 E 10 A meth none) {N : Nat} {rst : zS} (a0 : Nat) (a1 : Nat) (st : zS) (k0 : zw_kind a0 = 2) (k1 : zw_kind a1 = 2) (h : zf_Ca_becomeLike N a0 a1 st = some rst) : zw_G p l e zrm_Ca_becomeLike s m args below meth c (MQ below (zw_Q E none rst A) args s 0 0 A) E A 2 0 0 [some (.ref a0), some (.ref a1)] [] st := by
  unfold zf_Ca_becomeLike at h
  by_cases hne : a0 = a1
  case pos => rw [if_pos hne] at h; cases h
  rw [if_neg hne] at h
  refine zg_aload_n F.1 zd_Ca_becomeLike_0 rfl rfl ?_
  refine zg_aload_n F.1 zd_Ca_becomeLike_1 rfl rfl ?_
  refine zg_getI2 F.1 (by decide) k1 0 (by decide) (st a1 0) rfl rfl zwf_Ca_9 zd_Ca_becomeLike_2 ?_
  refine zg_putI2 F.1 (by decide) k0 0 (by decide) (Or.inl rfl) .int (by decide) rfl rfl rfl zwf_Ca_9 zd_Ca_becomeLike_5 ?_
  refine zg_aload_n F.1 zd_Ca_becomeLike_8 rfl rfl ?_
  refine zg_aload_n F.1 zd_Ca_becomeLike_9 rfl rfl ?_
  refine zg_getI2 F.1 (by decide) k1 1 (by decide) (st a1 1) rfl (zp_q _ _ (Ne.symm hne)) zwf_Ca_15 zd_Ca_becomeLike_10 ?_
  refine zg_putI2 F.1 (by decide) k0 1 (by decide) (Or.inr (Or.inl rfl)) .int (by decide) rfl rfl rfl zwf_Ca_15 zd_Ca_becomeLike_13 ?_
  refine zg_aload_n F.1 zd_Ca_becomeLike_16 rfl rfl ?_
  refine zg_aload_n F.1 zd_Ca_becomeLike_17 rfl rfl ?_
  refine zg_getI2 F.1 (by decide) k1 2 (by decide) (st a1 2) rfl ((zp_q _ _ (Ne.symm hne)).trans (zp_q _ _ (Ne.symm hne))) zwf_Ca_18 zd_Ca_becomeLike_18 ?_
  refine zg_putI2 F.1 (by decide) k0 2 (by decide) (Or.inr (Or.inr (Or.inl rfl))) .int (by decide) rfl rfl rfl zwf_Ca_18 zd_Ca_becomeLike_21 ?_
  refine zg_aload_n F.1 zd_Ca_becomeLike_24 rfl rfl ?_
  refine zg_aload_n F.1 zd_Ca_becomeLike_25 rfl rfl ?_
  refine zg_getI2 F.1 (by decide) k1 3 (by decide) (st a1 3) rfl ((zp_q _ _ (Ne.symm hne)).trans ((zp_q _ _ (Ne.symm hne)).trans (zp_q _ _ (Ne.symm hne)))) zwf_Ca_21 zd_Ca_becomeLike_26 ?_
  refine zg_putI2 F.1 (by decide) k0 3 (by decide) (Or.inr (Or.inr (Or.inr (Or.inl rfl)))) .int (by decide) rfl rfl rfl zwf_Ca_21 zd_Ca_becomeLike_29 ?_
  refine zg_aload_n F.1 zd_Ca_becomeLike_32 rfl rfl ?_
  refine zg_aload_n F.1 zd_Ca_becomeLike_33 rfl rfl ?_
  refine zg_getI2 F.1 (by decide) k1 4 (by decide) (st a1 4) rfl ((zp_q _ _ (Ne.symm hne)).trans ((zp_q _ _ (Ne.symm hne)).trans ((zp_q _ _ (Ne.symm hne)).trans (zp_q _ _ (Ne.symm hne))))) zwf_Ca_24 zd_Ca_becomeLike_34 ?_
  refine zg_putI2 F.1 (by decide) k0 4 (by decide) (Or.inr (Or.inr (Or.inr (Or.inr (Or.inl rfl))))) .int (by decide) rfl rfl rfl zwf_Ca_24 zd_Ca_becomeLike_37 ?_
  refine zg_aload_n F.1 zd_Ca_becomeLike_40 rfl rfl ?_
  refine zg_aload_n F.1 zd_Ca_becomeLike_41 rfl rfl ?_
  refine zg_getI2 F.1 (by decide) k1 7 (by decide) (st a1 7) rfl ((zp_q _ _ (Ne.symm hne)).trans ((zp_q _ _ (Ne.symm hne)).trans ((zp_q _ _ (Ne.symm hne)).trans ((zp_q _ _ (Ne.symm hne)).trans (zp_q _ _ (Ne.symm hne)))))) zwf_Ca_34 zd_Ca_becomeLike_42 ?_
  by_cases hb45 : (st a1 7) = 0 ∨ (st a1 7) = 1
  case neg => rw [if_neg hb45] at h; cases h
  rw [if_pos hb45] at h
  refine zg_putI2 F.1 (by decide) k0 7 (by decide) (Or.inr (Or.inr (Or.inr (Or.inr (Or.inr (Or.inr (Or.inr (Or.inl rfl)))))))) .boolean (by decide) rfl (zw_nb hb45) (zw_fb hb45) zwf_Ca_34 zd_Ca_becomeLike_45 ?_
  refine zg_aload_n F.1 zd_Ca_becomeLike_48 rfl rfl ?_
  refine zg_aload_n F.1 zd_Ca_becomeLike_49 rfl rfl ?_
  refine zg_getI2 F.1 (by decide) k1 8 (by decide) (st a1 8) rfl ((zp_q _ _ (Ne.symm hne)).trans ((zp_q _ _ (Ne.symm hne)).trans ((zp_q _ _ (Ne.symm hne)).trans ((zp_q _ _ (Ne.symm hne)).trans ((zp_q _ _ (Ne.symm hne)).trans (zp_q _ _ (Ne.symm hne))))))) zwf_Ca_37 zd_Ca_becomeLike_50 ?_
  refine zg_putI2 F.1 (by decide) k0 8 (by decide) (Or.inr (Or.inr (Or.inr (Or.inr (Or.inr (Or.inr (Or.inr (Or.inr (Or.inl rfl))))))))) .int (by decide) rfl rfl rfl zwf_Ca_37 zd_Ca_becomeLike_53 ?_
  refine zg_aload_n F.1 zd_Ca_becomeLike_56 rfl rfl ?_
  refine zg_aload_n F.1 zd_Ca_becomeLike_57 rfl rfl ?_
  refine zg_getI2 F.1 (by decide) k1 9 (by decide) (st a1 9) rfl ((zp_q _ _ (Ne.symm hne)).trans ((zp_q _ _ (Ne.symm hne)).trans ((zp_q _ _ (Ne.symm hne)).trans ((zp_q _ _ (Ne.symm hne)).trans ((zp_q _ _ (Ne.symm hne)).trans ((zp_q _ _ (Ne.symm hne)).trans (zp_q _ _ (Ne.symm hne)))))))) zwf_Ca_40 zd_Ca_becomeLike_58 ?_
  refine zg_putI2 F.1 (by decide) k0 9 (by decide) (Or.inr (Or.inr (Or.inr (Or.inr (Or.inr (Or.inr (Or.inr (Or.inr (Or.inr (Or.inl rfl)))))))))) .int (by decide) rfl rfl rfl zwf_Ca_40 zd_Ca_becomeLike_61 ?_
  cases h
  exact zg_vret F zd_Ca_becomeLike_64
theorem zk_Ca_becomeLike {E : zE} (hn : zw_n E 10) (N : Nat) (a0 : Nat) (a1 : Nat) (st : zS) (k0 : zw_kind a0 = 2) (k1 : zw_kind a1 = 2) {rst : zS} (h : zf_Ca_becomeLike N a0 a1 st = some rst) : zw_M l zy_Ca_becomeLike (Cond.code zy_Ca_becomeLike zo_Ca_becomeLike 2 none :: zwAll) zrm_Ca_becomeLike E [.ref a0, .ref a1] st none rst :=
  zw_enter (by decide) rfl hn (Nat.le_of_ble_eq_true rfl) (by simp [Value.category]) 0 (fun p e s m args below meth c A F => zl_Ca_becomeLike_0 F a0 a1 st k0 k1 h)
/-! LiftGroup$Car.hasRiders()Z -/
abbrev zrm_Ca_hasRiders : Room := { frames := 0, cells := 0, slots := 0, locals := 0 }
def zf_Ca_hasRiders_17 (N : Nat)  (s0 : Int32) (st : zS) : Option (Int32 × zS) := (if s0 = 0 ∨ s0 = 1 then some (s0, st) else none)
set_option maxHeartbeats 4000000 in
theorem zl_Ca_hasRiders_17 (F : zw_X p m c zo_Ca_hasRiders 1 s args zR2 E 10 A meth (some .boolean)) {N : Nat} {rv : Int32} {rst : zS}   (s0 : Int32) (st : zS)  (h : zf_Ca_hasRiders_17 N  s0 st = some (rv, rst)) : zw_G p l e zrm_Ca_hasRiders s m args below meth c (MQ below (zw_Q E (some (.int rv)) rst A) args s 0 0 A) E A 1 0 17 [none] [.int s0] st := by
  unfold zf_Ca_hasRiders_17 at h
  by_cases hb17 : s0 = 0 ∨ s0 = 1
  case neg => rw [if_neg hb17] at h; cases h
  rw [if_pos hb17] at h
  cases h
  exact zg_zret F hb17 zd_Ca_hasRiders_17
def zf_Ca_hasRiders (N : Nat) (a0 : Nat) (st : zS) : Option (Int32 × zS) := (if ((st a0 8) ||| (st a0 9)) = 0 then zf_Ca_hasRiders_17 N 0 st else zf_Ca_hasRiders_17 N 1 st)
set_option maxHeartbeats 4000000 in
theorem zl_Ca_hasRiders_0 (F : zw_X p m c zo_Ca_hasRiders 1 s args zR2 E 10 A meth (some .boolean)) {N : Nat} {rv : Int32} {rst : zS} (a0 : Nat) (st : zS) (k0 : zw_kind a0 = 2) (h : zf_Ca_hasRiders N a0 st = some (rv, rst)) : zw_G p l e zrm_Ca_hasRiders s m args below meth c (MQ below (zw_Q E (some (.int rv)) rst A) args s 0 0 A) E A 1 0 0 [some (.ref a0)] [] st := by
  unfold zf_Ca_hasRiders at h
  refine zg_aload_n F.1 zd_Ca_hasRiders_0 rfl rfl ?_
  refine zg_getI2 F.1 (by decide) k0 8 (by decide) (st a0 8) rfl rfl zwf_Ca_37 zd_Ca_hasRiders_1 ?_
  refine zg_aload_n F.1 zd_Ca_hasRiders_4 rfl rfl ?_
  refine zg_getI2 F.1 (by decide) k0 9 (by decide) (st a0 9) rfl rfl zwf_Ca_40 zd_Ca_hasRiders_5 ?_
  refine zg_ior F.1 zd_Ca_hasRiders_8 ?_
  refine zg_if_eq F.1 16 zd_Ca_hasRiders_9 rfl (fun hc => ?_) (fun hc => ?_)
  · rw [if_pos hc] at h
    refine zg_iconst F.1 0 0 (by decide) zd_Ca_hasRiders_16 ?_
    exact zg_le (zw_len zw_le0) (zl_Ca_hasRiders_17 F 0 st h)
  · rw [if_neg hc] at h
    refine zg_iconst F.1 1 1 (by decide) zd_Ca_hasRiders_12 ?_
    refine zg_goto F.1 17 zd_Ca_hasRiders_13 rfl ?_
    exact zg_le (zw_len zw_le0) (zl_Ca_hasRiders_17 F 1 st h)
theorem zk_Ca_hasRiders {E : zE} (hn : zw_n E 10) (N : Nat) (a0 : Nat) (st : zS) (k0 : zw_kind a0 = 2) {rv : Int32} {rst : zS} (h : zf_Ca_hasRiders N a0 st = some (rv, rst)) : zw_M l zy_Ca_hasRiders (Cond.code zy_Ca_hasRiders zo_Ca_hasRiders 1 (some .boolean) :: zwAll) zrm_Ca_hasRiders E [.ref a0] st (some (.int rv)) rst :=
  zw_enter (by decide) rfl hn (Nat.le_of_ble_eq_true rfl) (by simp [Value.category]) 0 (fun p e s m args below meth c A F => zl_Ca_hasRiders_0 F a0 st k0 h)
/-! LiftGroup$Car.turnDoor(II)V -/
abbrev zrm_Ca_turnDoor : Room := { frames := 0, cells := 0, slots := 0, locals := 0 }
def zf_Ca_turnDoor (N : Nat) (a0 : Nat) (a1 : Int32) (a2 : Int32) (st : zS) : Option zS := some (zp (zp st a0 2 a1) a0 3 a2)
set_option maxHeartbeats 4000000 in
theorem zl_Ca_turnDoor_0 (F : zw_X p m c zo_Ca_turnDoor 3 s args zR2 E 10 A meth none) {N : Nat} {rst : zS} (a0 : Nat) (a1 : Int32) (a2 : Int32) (st : zS) (k0 : zw_kind a0 = 2) (h : zf_Ca_turnDoor N a0 a1 a2 st = some rst) : zw_G p l e zrm_Ca_turnDoor s m args below meth c (MQ below (zw_Q E none rst A) args s 0 0 A) E A 3 0 0 [some (.ref a0), some (.int a1), some (.int a2)] [] st := by
  unfold zf_Ca_turnDoor at h
  refine zg_aload_n F.1 zd_Ca_turnDoor_0 rfl rfl ?_
  refine zg_iload_n F.1 zd_Ca_turnDoor_1 rfl rfl ?_
  refine zg_putI2 F.1 (by decide) k0 2 (by decide) (Or.inr (Or.inr (Or.inl rfl))) .int (by decide) rfl rfl rfl zwf_Ca_18 zd_Ca_turnDoor_2 ?_
  refine zg_aload_n F.1 zd_Ca_turnDoor_5 rfl rfl ?_
  refine zg_iload_n F.1 zd_Ca_turnDoor_6 rfl rfl ?_
  refine zg_putI2 F.1 (by decide) k0 3 (by decide) (Or.inr (Or.inr (Or.inr (Or.inl rfl)))) .int (by decide) rfl rfl rfl zwf_Ca_21 zd_Ca_turnDoor_7 ?_
  cases h
  exact zg_vret F zd_Ca_turnDoor_10
theorem zk_Ca_turnDoor {E : zE} (hn : zw_n E 10) (N : Nat) (a0 : Nat) (a1 : Int32) (a2 : Int32) (st : zS) (k0 : zw_kind a0 = 2) {rst : zS} (h : zf_Ca_turnDoor N a0 a1 a2 st = some rst) : zw_M l zy_Ca_turnDoor (Cond.code zy_Ca_turnDoor zo_Ca_turnDoor 3 none :: zwAll) zrm_Ca_turnDoor E [.ref a0, .int a1, .int a2] st none rst :=
  zw_enter (by decide) rfl hn (Nat.le_of_ble_eq_true rfl) (by simp [Value.category]) 0 (fun p e s m args below meth c A F => zl_Ca_turnDoor_0 F a0 a1 a2 st k0 h)
/-! LiftGroup$Car.shutFurther()V -/
abbrev zrm_Ca_shutFurther : Room := { frames := 0, cells := 0, slots := 0, locals := 0 }
def zf_Ca_shutFurther_22 (N : Nat)   (st : zS) : Option zS := some st
set_option maxHeartbeats 4000000 in
theorem zl_Ca_shutFurther_22 (F : zw_X p m c zo_Ca_shutFurther 1 s args zR2 E 10 A meth none) {N : Nat} {rst : zS}    (st : zS)  (h : zf_Ca_shutFurther_22 N   st = some rst) : zw_G p l e zrm_Ca_shutFurther s m args below meth c (MQ below (zw_Q E none rst A) args s 0 0 A) E A 1 0 22 [none] [] st := by
  unfold zf_Ca_shutFurther_22 at h
  cases h
  exact zg_vret F zd_Ca_shutFurther_22
def zf_Ca_shutFurther (N : Nat) (a0 : Nat) (st : zS) : Option zS := (if ((st a0 3) - 1) = 0 then zf_Ca_shutFurther_22 N (zp (zp st a0 3 ((st a0 3) - 1)) a0 2 0) else zf_Ca_shutFurther_22 N (zp st a0 3 ((st a0 3) - 1)))
set_option maxHeartbeats 4000000 in
theorem zl_Ca_shutFurther_0 (F : zw_X p m c zo_Ca_shutFurther 1 s args zR2 E 10 A meth none) {N : Nat} {rst : zS} (a0 : Nat) (st : zS) (k0 : zw_kind a0 = 2) (h : zf_Ca_shutFurther N a0 st = some rst) : zw_G p l e zrm_Ca_shutFurther s m args below meth c (MQ below (zw_Q E none rst A) args s 0 0 A) E A 1 0 0 [some (.ref a0)] [] st := by
  unfold zf_Ca_shutFurther at h
  refine zg_aload_n F.1 zd_Ca_shutFurther_0 rfl rfl ?_
  refine zg_dup F.1 zd_Ca_shutFurther_1 rfl ?_
  refine zg_getI2 F.1 (by decide) k0 3 (by decide) (st a0 3) rfl rfl zwf_Ca_21 zd_Ca_shutFurther_2 ?_
  refine zg_iconst F.1 1 1 (by decide) zd_Ca_shutFurther_5 ?_
  refine zg_isub F.1 zd_Ca_shutFurther_6 ?_
  refine zg_putI2 F.1 (by decide) k0 3 (by decide) (Or.inr (Or.inr (Or.inr (Or.inl rfl)))) .int (by decide) rfl rfl rfl zwf_Ca_21 zd_Ca_shutFurther_7 ?_
  refine zg_aload_n F.1 zd_Ca_shutFurther_10 rfl rfl ?_
  refine zg_getI2 F.1 (by decide) k0 3 (by decide) ((st a0 3) - 1) rfl (zp_s _ _ _ _) zwf_Ca_21 zd_Ca_shutFurther_11 ?_
  refine zg_if_ne F.1 22 zd_Ca_shutFurther_14 rfl (fun hc => ?_) (fun hc => ?_)
  · rw [if_neg hc] at h
    exact zg_le (zw_len zw_le0) (zl_Ca_shutFurther_22 F (zp st a0 3 ((st a0 3) - 1)) h)
  · rw [if_pos hc] at h
    refine zg_aload_n F.1 zd_Ca_shutFurther_17 rfl rfl ?_
    refine zg_iconst F.1 0 0 (by decide) zd_Ca_shutFurther_18 ?_
    refine zg_putI2 F.1 (by decide) k0 2 (by decide) (Or.inr (Or.inr (Or.inl rfl))) .int (by decide) rfl rfl rfl zwf_Ca_18 zd_Ca_shutFurther_19 ?_
    exact zg_le (zw_len zw_le0) (zl_Ca_shutFurther_22 F (zp (zp st a0 3 ((st a0 3) - 1)) a0 2 0) h)
theorem zk_Ca_shutFurther {E : zE} (hn : zw_n E 10) (N : Nat) (a0 : Nat) (st : zS) (k0 : zw_kind a0 = 2) {rst : zS} (h : zf_Ca_shutFurther N a0 st = some rst) : zw_M l zy_Ca_shutFurther (Cond.code zy_Ca_shutFurther zo_Ca_shutFurther 1 none :: zwAll) zrm_Ca_shutFurther E [.ref a0] st none rst :=
  zw_enter (by decide) rfl hn (Nat.le_of_ble_eq_true rfl) (by simp [Value.category]) 0 (fun p e s m args below meth c A F => zl_Ca_shutFurther_0 F a0 st k0 h)
/-! LiftGroup$Car.towardsNearest(I)I -/
abbrev zrm_Ca_towardsNearest : Room := { frames := 0, cells := 0, slots := 0, locals := 0 }
def zf_Ca_towardsNearest_57 (N : Nat) (r2 : Nat → Int32 → Int32 → zS → Option (Int32 × zS)) (l0 : Nat) (l1 : Int32) (l2 : Int32) (st : zS) : Option (Int32 × zS) := r2 l0 l1 (l2 + 1) st
set_option maxHeartbeats 4000000 in
theorem zl_Ca_towardsNearest_57 (F : zw_X p m c zo_Ca_towardsNearest 3 s args zR2 E 10 A meth (some .int)) {N : Nat} {rv : Int32} {rst : zS} {r2 : Nat → Int32 → Int32 → zS → Option (Int32 × zS)} (hr2 : ∀ (l0 : Nat) (l1 : Int32) (l2 : Int32) (st : zS) (k0 : zw_kind l0 = 2), r2 l0 l1 l2 st = some (rv, rst) → zw_G p l e zrm_Ca_towardsNearest s m args below meth c (MQ below (zw_Q E (some (.int rv)) rst A) args s 0 0 A) E A 3 0 2 [some (.ref l0), some (.int l1), some (.int l2)] [] st) (l0 : Nat) (l1 : Int32) (l2 : Int32) (st : zS) (k0 : zw_kind l0 = 2) (h : zf_Ca_towardsNearest_57 N r2 l0 l1 l2 st = some (rv, rst)) : zw_G p l e zrm_Ca_towardsNearest s m args below meth c (MQ below (zw_Q E (some (.int rv)) rst A) args s 0 0 A) E A 3 0 57 [some (.ref l0), some (.int l1), some (.int l2)] [] st := by
  unfold zf_Ca_towardsNearest_57 at h
  refine zg_iinc F.1 (l2 + 1) [some (.ref l0), some (.int l1), some (.int (l2 + 1))] zd_Ca_towardsNearest_57 rfl (by rw [lit1]) (by decide) rfl ?_
  refine zg_goto F.1 2 zd_Ca_towardsNearest_60 rfl ?_
  exact hr2 l0 l1 (l2 + 1) st k0 h
def zf_Ca_towardsNearest_31 (N : Nat) (r2 : Nat → Int32 → Int32 → zS → Option (Int32 × zS)) (l0 : Nat) (l1 : Int32) (l2 : Int32) (st : zS) : Option (Int32 × zS) := (if (18 - (st l0 0)) < l2 then zf_Ca_towardsNearest_57 N r2 l0 l1 l2 st else (if (l1 &&& (1 <<< (((st l0 0) + l2) &&& 31))) = 0 then zf_Ca_towardsNearest_57 N r2 l0 l1 l2 st else some (1, st)))
set_option maxHeartbeats 4000000 in
theorem zl_Ca_towardsNearest_31 (F : zw_X p m c zo_Ca_towardsNearest 3 s args zR2 E 10 A meth (some .int)) {N : Nat} {rv : Int32} {rst : zS} {r2 : Nat → Int32 → Int32 → zS → Option (Int32 × zS)} (hr2 : ∀ (l0 : Nat) (l1 : Int32) (l2 : Int32) (st : zS) (k0 : zw_kind l0 = 2), r2 l0 l1 l2 st = some (rv, rst) → zw_G p l e zrm_Ca_towardsNearest s m args below meth c (MQ below (zw_Q E (some (.int rv)) rst A) args s 0 0 A) E A 3 0 2 [some (.ref l0), some (.int l1), some (.int l2)] [] st) (l0 : Nat) (l1 : Int32) (l2 : Int32) (st : zS) (k0 : zw_kind l0 = 2) (h : zf_Ca_towardsNearest_31 N r2 l0 l1 l2 st = some (rv, rst)) : zw_G p l e zrm_Ca_towardsNearest s m args below meth c (MQ below (zw_Q E (some (.int rv)) rst A) args s 0 0 A) E A 3 0 31 [some (.ref l0), some (.int l1), some (.int l2)] [] st := by
  unfold zf_Ca_towardsNearest_31 at h
  refine zg_iload_n F.1 zd_Ca_towardsNearest_31 rfl rfl ?_
  refine zg_bipush F.1 18 18 (by decide) zd_Ca_towardsNearest_32 ?_
  refine zg_aload_n F.1 zd_Ca_towardsNearest_34 rfl rfl ?_
  refine zg_getI2 F.1 (by decide) k0 0 (by decide) (st l0 0) rfl rfl zwf_Ca_9 zd_Ca_towardsNearest_35 ?_
  refine zg_isub F.1 zd_Ca_towardsNearest_38 ?_
  refine zg_icmp_gt F.1 57 zd_Ca_towardsNearest_39 rfl (fun hc => ?_) (fun hc => ?_)
  · rw [if_pos hc] at h
    exact zl_Ca_towardsNearest_57 F hr2 l0 l1 l2 st k0 h
  · rw [if_neg hc] at h
    refine zg_iload_n F.1 zd_Ca_towardsNearest_42 rfl rfl ?_
    refine zg_iconst F.1 1 1 (by decide) zd_Ca_towardsNearest_43 ?_
    refine zg_aload_n F.1 zd_Ca_towardsNearest_44 rfl rfl ?_
    refine zg_getI2 F.1 (by decide) k0 0 (by decide) (st l0 0) rfl rfl zwf_Ca_9 zd_Ca_towardsNearest_45 ?_
    refine zg_iload_n F.1 zd_Ca_towardsNearest_48 rfl rfl ?_
    refine zg_iadd F.1 zd_Ca_towardsNearest_49 ?_
    refine zg_ishl F.1 zd_Ca_towardsNearest_50 ?_
    refine zg_iand F.1 zd_Ca_towardsNearest_51 ?_
    refine zg_if_eq F.1 57 zd_Ca_towardsNearest_52 rfl (fun hc => ?_) (fun hc => ?_)
    · rw [if_pos hc] at h
      exact zl_Ca_towardsNearest_57 F hr2 l0 l1 l2 st k0 h
    · rw [if_neg hc] at h
      refine zg_iconst F.1 1 1 (by decide) zd_Ca_towardsNearest_55 ?_
      cases h
      exact zg_iret F zd_Ca_towardsNearest_56
def zb_Ca_towardsNearest_2 (N : Nat) (r2 : Nat → Int32 → Int32 → zS → Option (Int32 × zS)) (l0 : Nat) (l1 : Int32) (l2 : Int32) (st : zS) : Option (Int32 × zS) := (if 18 < l2 then some (0, st) else (if (st l0 0) < l2 then zf_Ca_towardsNearest_31 N r2 l0 l1 l2 st else (if (l1 &&& (1 <<< (((st l0 0) - l2) &&& 31))) = 0 then zf_Ca_towardsNearest_31 N r2 l0 l1 l2 st else some ((-1), st))))
set_option maxHeartbeats 4000000 in
theorem zlb_Ca_towardsNearest_2 (F : zw_X p m c zo_Ca_towardsNearest 3 s args zR2 E 10 A meth (some .int)) {N : Nat} {rv : Int32} {rst : zS} {r2 : Nat → Int32 → Int32 → zS → Option (Int32 × zS)} (hr2 : ∀ (l0 : Nat) (l1 : Int32) (l2 : Int32) (st : zS) (k0 : zw_kind l0 = 2), r2 l0 l1 l2 st = some (rv, rst) → zw_G p l e zrm_Ca_towardsNearest s m args below meth c (MQ below (zw_Q E (some (.int rv)) rst A) args s 0 0 A) E A 3 0 2 [some (.ref l0), some (.int l1), some (.int l2)] [] st) (l0 : Nat) (l1 : Int32) (l2 : Int32) (st : zS) (k0 : zw_kind l0 = 2) (h : zb_Ca_towardsNearest_2 N r2 l0 l1 l2 st = some (rv, rst)) : zw_G p l e zrm_Ca_towardsNearest s m args below meth c (MQ below (zw_Q E (some (.int rv)) rst A) args s 0 0 A) E A 3 0 2 [some (.ref l0), some (.int l1), some (.int l2)] [] st := by
  unfold zb_Ca_towardsNearest_2 at h
  refine zg_iload_n F.1 zd_Ca_towardsNearest_2 rfl rfl ?_
  refine zg_bipush F.1 18 18 (by decide) zd_Ca_towardsNearest_3 ?_
  refine zg_icmp_gt F.1 63 zd_Ca_towardsNearest_5 rfl (fun hc => ?_) (fun hc => ?_)
  · rw [if_pos hc] at h
    refine zg_iconst F.1 0 0 (by decide) zd_Ca_towardsNearest_63 ?_
    cases h
    exact zg_iret F zd_Ca_towardsNearest_64
  · rw [if_neg hc] at h
    refine zg_iload_n F.1 zd_Ca_towardsNearest_8 rfl rfl ?_
    refine zg_aload_n F.1 zd_Ca_towardsNearest_9 rfl rfl ?_
    refine zg_getI2 F.1 (by decide) k0 0 (by decide) (st l0 0) rfl rfl zwf_Ca_9 zd_Ca_towardsNearest_10 ?_
    refine zg_icmp_gt F.1 31 zd_Ca_towardsNearest_13 rfl (fun hc => ?_) (fun hc => ?_)
    · rw [if_pos hc] at h
      exact zl_Ca_towardsNearest_31 F hr2 l0 l1 l2 st k0 h
    · rw [if_neg hc] at h
      refine zg_iload_n F.1 zd_Ca_towardsNearest_16 rfl rfl ?_
      refine zg_iconst F.1 1 1 (by decide) zd_Ca_towardsNearest_17 ?_
      refine zg_aload_n F.1 zd_Ca_towardsNearest_18 rfl rfl ?_
      refine zg_getI2 F.1 (by decide) k0 0 (by decide) (st l0 0) rfl rfl zwf_Ca_9 zd_Ca_towardsNearest_19 ?_
      refine zg_iload_n F.1 zd_Ca_towardsNearest_22 rfl rfl ?_
      refine zg_isub F.1 zd_Ca_towardsNearest_23 ?_
      refine zg_ishl F.1 zd_Ca_towardsNearest_24 ?_
      refine zg_iand F.1 zd_Ca_towardsNearest_25 ?_
      refine zg_if_eq F.1 31 zd_Ca_towardsNearest_26 rfl (fun hc => ?_) (fun hc => ?_)
      · rw [if_pos hc] at h
        exact zl_Ca_towardsNearest_31 F hr2 l0 l1 l2 st k0 h
      · rw [if_neg hc] at h
        refine zg_iconst F.1 (-1) (-1) (by decide) zd_Ca_towardsNearest_29 ?_
        cases h
        exact zg_iret F zd_Ca_towardsNearest_30
def zf_Ca_towardsNearest_2 (N : Nat)  : Nat → Nat → Int32 → Int32 → zS → Option (Int32 × zS)
  | 0, _, _, _, _ => none
  | n + 1, l0, l1, l2, st => zb_Ca_towardsNearest_2 N  (zf_Ca_towardsNearest_2 N  n) l0 l1 l2 st
theorem zl_Ca_towardsNearest_2 (F : zw_X p m c zo_Ca_towardsNearest 3 s args zR2 E 10 A meth (some .int)) {N : Nat} {rv : Int32} {rst : zS}   : ∀ (n : Nat) (l0 : Nat) (l1 : Int32) (l2 : Int32) (st : zS) (k0 : zw_kind l0 = 2) (h : zf_Ca_towardsNearest_2 N  n l0 l1 l2 st = some (rv, rst)), zw_G p l e zrm_Ca_towardsNearest s m args below meth c (MQ below (zw_Q E (some (.int rv)) rst A) args s 0 0 A) E A 3 0 2 [some (.ref l0), some (.int l1), some (.int l2)] [] st := by
  intro n
  induction n with
  | zero => intro l0 l1 l2 st k0 h; cases h
  | succ n ih => intro l0 l1 l2 st k0 h; exact zlb_Ca_towardsNearest_2 F  ih l0 l1 l2 st k0 h
def zf_Ca_towardsNearest (N : Nat) (a0 : Nat) (a1 : Int32) (st : zS) : Option (Int32 × zS) := zf_Ca_towardsNearest_2 N N a0 a1 1 st
set_option maxHeartbeats 4000000 in
theorem zl_Ca_towardsNearest_0 (F : zw_X p m c zo_Ca_towardsNearest 3 s args zR2 E 10 A meth (some .int)) {N : Nat} {rv : Int32} {rst : zS} (a0 : Nat) (a1 : Int32) (st : zS) (k0 : zw_kind a0 = 2) (h : zf_Ca_towardsNearest N a0 a1 st = some (rv, rst)) : zw_G p l e zrm_Ca_towardsNearest s m args below meth c (MQ below (zw_Q E (some (.int rv)) rst A) args s 0 0 A) E A 3 0 0 [some (.ref a0), some (.int a1), none] [] st := by
  unfold zf_Ca_towardsNearest at h
  refine zg_iconst F.1 1 1 (by decide) zd_Ca_towardsNearest_0 ?_
  refine zg_istore_n F.1 [some (.ref a0), some (.int a1), some (.int 1)] zd_Ca_towardsNearest_1 rfl (by decide) rfl ?_
  exact zl_Ca_towardsNearest_2 F N a0 a1 1 st k0 h
theorem zk_Ca_towardsNearest {E : zE} (hn : zw_n E 10) (N : Nat) (a0 : Nat) (a1 : Int32) (st : zS) (k0 : zw_kind a0 = 2) {rv : Int32} {rst : zS} (h : zf_Ca_towardsNearest N a0 a1 st = some (rv, rst)) : zw_M l zy_Ca_towardsNearest (Cond.code zy_Ca_towardsNearest zo_Ca_towardsNearest 3 (some .int) :: zwAll) zrm_Ca_towardsNearest E [.ref a0, .int a1] st (some (.int rv)) rst :=
  zw_enter (by decide) rfl hn (Nat.le_of_ble_eq_true rfl) (by simp [Value.category]) 1 (fun p e s m args below meth c A F => zl_Ca_towardsNearest_0 F a0 a1 st k0 h)
/-! LiftGroup$Car.liesAhead(I)Z -/
abbrev zrm_Ca_liesAhead : Room := { frames := 0, cells := 0, slots := 0, locals := 0 }
def zf_Ca_liesAhead_40 (N : Nat)  (s0 : Int32) (st : zS) : Option (Int32 × zS) := (if s0 = 0 ∨ s0 = 1 then some (s0, st) else none)
set_option maxHeartbeats 4000000 in
theorem zl_Ca_liesAhead_40 (F : zw_X p m c zo_Ca_liesAhead 3 s args zR2 E 10 A meth (some .boolean)) {N : Nat} {rv : Int32} {rst : zS}   (s0 : Int32) (st : zS)  (h : zf_Ca_liesAhead_40 N  s0 st = some (rv, rst)) : zw_G p l e zrm_Ca_liesAhead s m args below meth c (MQ below (zw_Q E (some (.int rv)) rst A) args s 0 0 A) E A 3 0 40 [none, none, none] [.int s0] st := by
  unfold zf_Ca_liesAhead_40 at h
  by_cases hb40 : s0 = 0 ∨ s0 = 1
  case neg => rw [if_neg hb40] at h; cases h
  rw [if_pos hb40] at h
  cases h
  exact zg_zret F hb40 zd_Ca_liesAhead_40
def zf_Ca_liesAhead (N : Nat) (a0 : Nat) (a1 : Int32) (st : zS) : Option (Int32 × zS) := (if 0 ≤ (st a0 1) then (if (a1 &&& ((1 <<< ((st a0 0) &&& 31)) - 1)) = a1 then zf_Ca_liesAhead_40 N 0 st else zf_Ca_liesAhead_40 N 1 st) else (if (a1 &&& ((1 <<< ((st a0 0) &&& 31)) - 1)) = 0 then zf_Ca_liesAhead_40 N 0 st else zf_Ca_liesAhead_40 N 1 st))
set_option maxHeartbeats 4000000 in
theorem zl_Ca_liesAhead_0 (F : zw_X p m c zo_Ca_liesAhead 3 s args zR2 E 10 A meth (some .boolean)) {N : Nat} {rv : Int32} {rst : zS} (a0 : Nat) (a1 : Int32) (st : zS) (k0 : zw_kind a0 = 2) (h : zf_Ca_liesAhead N a0 a1 st = some (rv, rst)) : zw_G p l e zrm_Ca_liesAhead s m args below meth c (MQ below (zw_Q E (some (.int rv)) rst A) args s 0 0 A) E A 3 0 0 [some (.ref a0), some (.int a1), none] [] st := by
  unfold zf_Ca_liesAhead at h
  refine zg_iload_n F.1 zd_Ca_liesAhead_0 rfl rfl ?_
  refine zg_iconst F.1 1 1 (by decide) zd_Ca_liesAhead_1 ?_
  refine zg_aload_n F.1 zd_Ca_liesAhead_2 rfl rfl ?_
  refine zg_getI2 F.1 (by decide) k0 0 (by decide) (st a0 0) rfl rfl zwf_Ca_9 zd_Ca_liesAhead_3 ?_
  refine zg_ishl F.1 zd_Ca_liesAhead_6 ?_
  refine zg_iconst F.1 1 1 (by decide) zd_Ca_liesAhead_7 ?_
  refine zg_isub F.1 zd_Ca_liesAhead_8 ?_
  refine zg_iand F.1 zd_Ca_liesAhead_9 ?_
  refine zg_istore_n F.1 [some (.ref a0), some (.int a1), some (.int (a1 &&& ((1 <<< ((st a0 0) &&& 31)) - 1)))] zd_Ca_liesAhead_10 rfl (by decide) rfl ?_
  refine zg_aload_n F.1 zd_Ca_liesAhead_11 rfl rfl ?_
  refine zg_getI2 F.1 (by decide) k0 1 (by decide) (st a0 1) rfl rfl zwf_Ca_15 zd_Ca_liesAhead_12 ?_
  refine zg_if_ge F.1 30 zd_Ca_liesAhead_15 rfl (fun hc => ?_) (fun hc => ?_)
  · rw [if_pos hc] at h
    refine zg_iload_n F.1 zd_Ca_liesAhead_30 rfl rfl ?_
    refine zg_iload_n F.1 zd_Ca_liesAhead_31 rfl rfl ?_
    refine zg_icmp_eq F.1 39 zd_Ca_liesAhead_32 rfl (fun hc => ?_) (fun hc => ?_)
    · rw [if_pos hc] at h
      refine zg_iconst F.1 0 0 (by decide) zd_Ca_liesAhead_39 ?_
      exact zg_le (zw_len (zw_len (zw_len zw_le0))) (zl_Ca_liesAhead_40 F 0 st h)
    · rw [if_neg hc] at h
      refine zg_iconst F.1 1 1 (by decide) zd_Ca_liesAhead_35 ?_
      refine zg_goto F.1 40 zd_Ca_liesAhead_36 rfl ?_
      exact zg_le (zw_len (zw_len (zw_len zw_le0))) (zl_Ca_liesAhead_40 F 1 st h)
  · rw [if_neg hc] at h
    refine zg_iload_n F.1 zd_Ca_liesAhead_18 rfl rfl ?_
    refine zg_if_eq F.1 26 zd_Ca_liesAhead_19 rfl (fun hc => ?_) (fun hc => ?_)
    · rw [if_pos hc] at h
      refine zg_iconst F.1 0 0 (by decide) zd_Ca_liesAhead_26 ?_
      refine zg_goto F.1 40 zd_Ca_liesAhead_27 rfl ?_
      exact zg_le (zw_len (zw_len (zw_len zw_le0))) (zl_Ca_liesAhead_40 F 0 st h)
    · rw [if_neg hc] at h
      refine zg_iconst F.1 1 1 (by decide) zd_Ca_liesAhead_22 ?_
      refine zg_goto F.1 40 zd_Ca_liesAhead_23 rfl ?_
      exact zg_le (zw_len (zw_len (zw_len zw_le0))) (zl_Ca_liesAhead_40 F 1 st h)
theorem zk_Ca_liesAhead {E : zE} (hn : zw_n E 10) (N : Nat) (a0 : Nat) (a1 : Int32) (st : zS) (k0 : zw_kind a0 = 2) {rv : Int32} {rst : zS} (h : zf_Ca_liesAhead N a0 a1 st = some (rv, rst)) : zw_M l zy_Ca_liesAhead (Cond.code zy_Ca_liesAhead zo_Ca_liesAhead 3 (some .boolean) :: zwAll) zrm_Ca_liesAhead E [.ref a0, .int a1] st (some (.int rv)) rst :=
  zw_enter (by decide) rfl hn (Nat.le_of_ble_eq_true rfl) (by simp [Value.category]) 1 (fun p e s m args below meth c A F => zl_Ca_liesAhead_0 F a0 a1 st k0 h)
theorem zcal_Ca_turnDoor : zw_cal zR2 zy_Ca_turnDoor zo_Ca_turnDoor 3 none 2 := ⟨zw_at 333 rfl rfl, zw_at 10 rfl rfl, zw_at 49 rfl rfl, zw_at 334 rfl rfl, rfl, by decide, by decide, by decide +kernel⟩
theorem zml_Ca_82 : Cond.methodLink zR2 82 zy_Ca_turnDoor ∈ zwAll := zw_at 331 rfl rfl
theorem zcal_Ca_towardsNearest : zw_cal zR2 zy_Ca_towardsNearest zo_Ca_towardsNearest 3 (some .int) 1 := ⟨zw_at 337 rfl rfl, zw_at 11 rfl rfl, zw_at 49 rfl rfl, zw_at 338 rfl rfl, rfl, by decide, by decide, by decide +kernel⟩
theorem zml_Ca_106 : Cond.methodLink zR2 106 zy_Ca_towardsNearest ∈ zwAll := zw_at 335 rfl rfl
theorem zcal_Ca_liesAhead : zw_cal zR2 zy_Ca_liesAhead zo_Ca_liesAhead 3 (some .boolean) 1 := ⟨zw_at 341 rfl rfl, zw_at 12 rfl rfl, zw_at 49 rfl rfl, zw_at 342 rfl rfl, rfl, by decide, by decide, by decide +kernel⟩
theorem zml_Ca_109 : Cond.methodLink zR2 109 zy_Ca_liesAhead ∈ zwAll := zw_at 339 rfl rfl
/-! LiftGroup$Car.openOrMove(I)V -/
abbrev zrm_Ca_openOrMove : Room := { frames := 1, cells := 0, slots := 0, locals := 22 }
def zf_Ca_openOrMove_64 (N : Nat)  (l0 : Nat) (st : zS) : Option zS := some (zp st l0 0 ((st l0 0) + (st l0 1)))
set_option maxHeartbeats 4000000 in
theorem zl_Ca_openOrMove_64 (F : zw_X p m c zo_Ca_openOrMove 2 s args zR2 E 10 A meth none) {N : Nat} {rst : zS}   (l0 : Nat) (st : zS) (k0 : zw_kind l0 = 2) (h : zf_Ca_openOrMove_64 N  l0 st = some rst) : zw_G p l e zrm_Ca_openOrMove s m args below meth c (MQ below (zw_Q E none rst A) args s 0 0 A) E A 2 0 64 [some (.ref l0), none] [] st := by
  unfold zf_Ca_openOrMove_64 at h
  refine zg_aload_n F.1 zd_Ca_openOrMove_64 rfl rfl ?_
  refine zg_dup F.1 zd_Ca_openOrMove_65 rfl ?_
  refine zg_getI2 F.1 (by decide) k0 0 (by decide) (st l0 0) rfl rfl zwf_Ca_9 zd_Ca_openOrMove_66 ?_
  refine zg_aload_n F.1 zd_Ca_openOrMove_69 rfl rfl ?_
  refine zg_getI2 F.1 (by decide) k0 1 (by decide) (st l0 1) rfl rfl zwf_Ca_15 zd_Ca_openOrMove_70 ?_
  refine zg_iadd F.1 zd_Ca_openOrMove_73 ?_
  refine zg_putI2 F.1 (by decide) k0 0 (by decide) (Or.inl rfl) .int (by decide) rfl rfl rfl zwf_Ca_9 zd_Ca_openOrMove_74 ?_
  cases h
  exact zg_vret F zd_Ca_openOrMove_77
def zf_Ca_openOrMove (N : Nat) (a0 : Nat) (a1 : Int32) (st : zS) : Option zS := (if a1 = 0 then some (zp st a0 1 0) else (if (a1 &&& (1 <<< ((st a0 0) &&& 31))) = 0 then (if (st a0 1) = 0 then ((zf_Ca_towardsNearest N a0 a1 st).bind fun y38 => zf_Ca_openOrMove_64 N a0 (zp y38.2 a0 1 y38.1)) else ((zf_Ca_liesAhead N a0 a1 st).bind fun y49 => (if y49.1 = 0 then zf_Ca_openOrMove_64 N a0 (zp y49.2 a0 1 (-(y49.2 a0 1))) else zf_Ca_openOrMove_64 N a0 y49.2))) else ((zf_Ca_turnDoor N a0 1 3 st).bind fun t24 => some t24)))
set_option maxHeartbeats 4000000 in
theorem zl_Ca_openOrMove_0 (F : zw_X p m c zo_Ca_openOrMove 2 s args zR2 E 10 A meth none) {N : Nat} {rst : zS} (a0 : Nat) (a1 : Int32) (st : zS) (k0 : zw_kind a0 = 2) (h : zf_Ca_openOrMove N a0 a1 st = some rst) : zw_G p l e zrm_Ca_openOrMove s m args below meth c (MQ below (zw_Q E none rst A) args s 0 0 A) E A 2 0 0 [some (.ref a0), some (.int a1)] [] st := by
  unfold zf_Ca_openOrMove at h
  refine zg_iload_n F.1 zd_Ca_openOrMove_0 rfl rfl ?_
  refine zg_if_ne F.1 10 zd_Ca_openOrMove_1 rfl (fun hc => ?_) (fun hc => ?_)
  · rw [if_neg hc] at h
    refine zg_iload_n F.1 zd_Ca_openOrMove_10 rfl rfl ?_
    refine zg_iconst F.1 1 1 (by decide) zd_Ca_openOrMove_11 ?_
    refine zg_aload_n F.1 zd_Ca_openOrMove_12 rfl rfl ?_
    refine zg_getI2 F.1 (by decide) k0 0 (by decide) (st a0 0) rfl rfl zwf_Ca_9 zd_Ca_openOrMove_13 ?_
    refine zg_ishl F.1 zd_Ca_openOrMove_16 ?_
    refine zg_iand F.1 zd_Ca_openOrMove_17 ?_
    refine zg_if_eq F.1 28 zd_Ca_openOrMove_18 rfl (fun hc => ?_) (fun hc => ?_)
    · rw [if_pos hc] at h
      refine zg_aload_n F.1 zd_Ca_openOrMove_28 rfl rfl ?_
      refine zg_getI2 F.1 (by decide) k0 1 (by decide) (st a0 1) rfl rfl zwf_Ca_15 zd_Ca_openOrMove_29 ?_
      refine zg_if_ne F.1 47 zd_Ca_openOrMove_32 rfl (fun hc => ?_) (fun hc => ?_)
      · rw [if_neg hc] at h
        refine zg_aload_n F.1 zd_Ca_openOrMove_47 rfl rfl ?_
        refine zg_iload_n F.1 zd_Ca_openOrMove_48 rfl rfl ?_
        obtain ⟨y49, hc49, h⟩ := Option.bind_eq_some_iff.mp h
        refine zg_callV F (As := [.int a1]) (rest := []) (zk_Ca_liesAhead F.1.2.2 N a0 a1 st k0 hc49) rfl rfl zcal_Ca_liesAhead zml_Ca_109 ⟨(Nat.le_of_ble_eq_true rfl), (Nat.le_of_ble_eq_true rfl)⟩ (zg_rec2 F.1 (by decide) k0) rfl (Nat.le_of_ble_eq_true rfl) ⟨(Nat.le_of_ble_eq_true rfl), (Nat.le_of_ble_eq_true rfl)⟩ zd_Ca_openOrMove_49 ?_
        refine zg_if_ne F.1 64 zd_Ca_openOrMove_52 rfl (fun hc => ?_) (fun hc => ?_)
        · rw [if_neg hc] at h
          exact zg_le (zw_les (zw_len zw_le0)) (zl_Ca_openOrMove_64 F a0 y49.2 k0 h)
        · rw [if_pos hc] at h
          refine zg_aload_n F.1 zd_Ca_openOrMove_55 rfl rfl ?_
          refine zg_aload_n F.1 zd_Ca_openOrMove_56 rfl rfl ?_
          refine zg_getI2 F.1 (by decide) k0 1 (by decide) (y49.2 a0 1) rfl rfl zwf_Ca_15 zd_Ca_openOrMove_57 ?_
          refine zg_ineg F.1 zd_Ca_openOrMove_60 ?_
          refine zg_putI2 F.1 (by decide) k0 1 (by decide) (Or.inr (Or.inl rfl)) .int (by decide) rfl rfl rfl zwf_Ca_15 zd_Ca_openOrMove_61 ?_
          exact zg_le (zw_les (zw_len zw_le0)) (zl_Ca_openOrMove_64 F a0 (zp y49.2 a0 1 (-(y49.2 a0 1))) k0 h)
      · rw [if_pos hc] at h
        refine zg_aload_n F.1 zd_Ca_openOrMove_35 rfl rfl ?_
        refine zg_aload_n F.1 zd_Ca_openOrMove_36 rfl rfl ?_
        refine zg_iload_n F.1 zd_Ca_openOrMove_37 rfl rfl ?_
        obtain ⟨y38, hc38, h⟩ := Option.bind_eq_some_iff.mp h
        refine zg_callV F (As := [.int a1]) (rest := [.ref a0]) (zk_Ca_towardsNearest F.1.2.2 N a0 a1 st k0 hc38) rfl rfl zcal_Ca_towardsNearest zml_Ca_106 ⟨(Nat.le_of_ble_eq_true rfl), (Nat.le_of_ble_eq_true rfl)⟩ (zg_rec2 F.1 (by decide) k0) rfl (Nat.le_of_ble_eq_true rfl) ⟨(Nat.le_of_ble_eq_true rfl), (Nat.le_of_ble_eq_true rfl)⟩ zd_Ca_openOrMove_38 ?_
        refine zg_putI2 F.1 (by decide) k0 1 (by decide) (Or.inr (Or.inl rfl)) .int (by decide) rfl rfl rfl zwf_Ca_15 zd_Ca_openOrMove_41 ?_
        refine zg_goto F.1 64 zd_Ca_openOrMove_44 rfl ?_
        exact zg_le (zw_les (zw_len zw_le0)) (zl_Ca_openOrMove_64 F a0 (zp y38.2 a0 1 y38.1) k0 h)
    · rw [if_neg hc] at h
      refine zg_aload_n F.1 zd_Ca_openOrMove_21 rfl rfl ?_
      refine zg_iconst F.1 1 1 (by decide) zd_Ca_openOrMove_22 ?_
      refine zg_iconst F.1 3 3 (by decide) zd_Ca_openOrMove_23 ?_
      obtain ⟨t24, hc24, h⟩ := Option.bind_eq_some_iff.mp h
      refine zg_callV F (As := [.int 1, .int 3]) (rest := []) (zk_Ca_turnDoor F.1.2.2 N a0 1 3 st k0 hc24) rfl rfl zcal_Ca_turnDoor zml_Ca_82 ⟨(Nat.le_of_ble_eq_true rfl), (Nat.le_of_ble_eq_true rfl)⟩ (zg_rec2 F.1 (by decide) k0) rfl (Nat.le_of_ble_eq_true rfl) ⟨(Nat.le_of_ble_eq_true rfl), (Nat.le_of_ble_eq_true rfl)⟩ zd_Ca_openOrMove_24 ?_
      cases h
      exact zg_vret F zd_Ca_openOrMove_27
  · rw [if_pos hc] at h
    refine zg_aload_n F.1 zd_Ca_openOrMove_4 rfl rfl ?_
    refine zg_iconst F.1 0 0 (by decide) zd_Ca_openOrMove_5 ?_
    refine zg_putI2 F.1 (by decide) k0 1 (by decide) (Or.inr (Or.inl rfl)) .int (by decide) rfl rfl rfl zwf_Ca_15 zd_Ca_openOrMove_6 ?_
    cases h
    exact zg_vret F zd_Ca_openOrMove_9
theorem zk_Ca_openOrMove {E : zE} (hn : zw_n E 10) (N : Nat) (a0 : Nat) (a1 : Int32) (st : zS) (k0 : zw_kind a0 = 2) {rst : zS} (h : zf_Ca_openOrMove N a0 a1 st = some rst) : zw_M l zy_Ca_openOrMove (Cond.code zy_Ca_openOrMove zo_Ca_openOrMove 2 none :: zwAll) zrm_Ca_openOrMove E [.ref a0, .int a1] st none rst :=
  zw_enter (by decide) rfl hn (Nat.le_of_ble_eq_true rfl) (by simp [Value.category]) 0 (fun p e s m args below meth c A F => zl_Ca_openOrMove_0 F a0 a1 st k0 h)
/-! LiftGroup$Car.stayOpen(Z)V -/
abbrev zrm_Ca_stayOpen : Room := { frames := 1, cells := 0, slots := 0, locals := 22 }
def zf_Ca_stayOpen_40 (N : Nat)   (st : zS) : Option zS := some st
set_option maxHeartbeats 4000000 in
theorem zl_Ca_stayOpen_40 (F : zw_X p m c zo_Ca_stayOpen 3 s args zR2 E 10 A meth none) {N : Nat} {rst : zS}    (st : zS)  (h : zf_Ca_stayOpen_40 N   st = some rst) : zw_G p l e zrm_Ca_stayOpen s m args below meth c (MQ below (zw_Q E none rst A) args s 0 0 A) E A 3 0 40 [none, none, none] [] st := by
  unfold zf_Ca_stayOpen_40 at h
  cases h
  exact zg_vret F zd_Ca_stayOpen_40
def zf_Ca_stayOpen_81 (N : Nat)   (st : zS) : Option zS := some st
set_option maxHeartbeats 4000000 in
theorem zl_Ca_stayOpen_81 (F : zw_X p m c zo_Ca_stayOpen 3 s args zR2 E 10 A meth none) {N : Nat} {rst : zS}    (st : zS)  (h : zf_Ca_stayOpen_81 N   st = some rst) : zw_G p l e zrm_Ca_stayOpen s m args below meth c (MQ below (zw_Q E none rst A) args s 0 0 A) E A 3 0 81 [none, none, none] [] st := by
  unfold zf_Ca_stayOpen_81 at h
  cases h
  exact zg_vret F zd_Ca_stayOpen_81
def zf_Ca_stayOpen_21 (N : Nat)  (l0 : Nat) (l1 : Int32) (s0 : Int32) (st : zS) : Option zS := (if l1 = 0 then (if s0 = 0 then (if ((st l0 3) - 1) = 0 then (if (st l0 7) = 0 then ((zf_Ca_turnDoor N l0 3 3 (zp (zp st l0 4 ((st l0 4) + 1)) l0 3 ((st l0 3) - 1))).bind fun t78 => zf_Ca_stayOpen_81 N t78) else ((zf_Ca_turnDoor N l0 4 6 (zp (zp st l0 4 ((st l0 4) + 1)) l0 3 ((st l0 3) - 1))).bind fun t69 => zf_Ca_stayOpen_81 N t69)) else zf_Ca_stayOpen_81 N (zp (zp st l0 4 ((st l0 4) + 1)) l0 3 ((st l0 3) - 1))) else zf_Ca_stayOpen_40 N (zp st l0 4 ((st l0 4) + 1))) else zf_Ca_stayOpen_40 N (zp st l0 4 ((st l0 4) + 1)))
set_option maxHeartbeats 4000000 in
theorem zl_Ca_stayOpen_21 (F : zw_X p m c zo_Ca_stayOpen 3 s args zR2 E 10 A meth none) {N : Nat} {rst : zS}   (l0 : Nat) (l1 : Int32) (s0 : Int32) (st : zS) (k0 : zw_kind l0 = 2) (h : zf_Ca_stayOpen_21 N  l0 l1 s0 st = some rst) : zw_G p l e zrm_Ca_stayOpen s m args below meth c (MQ below (zw_Q E none rst A) args s 0 0 A) E A 3 0 21 [some (.ref l0), some (.int l1), none] [.int s0] st := by
  unfold zf_Ca_stayOpen_21 at h
  refine zg_istore_n F.1 [some (.ref l0), some (.int l1), some (.int s0)] zd_Ca_stayOpen_21 rfl (by decide) rfl ?_
  refine zg_aload_n F.1 zd_Ca_stayOpen_22 rfl rfl ?_
  refine zg_dup F.1 zd_Ca_stayOpen_23 rfl ?_
  refine zg_getI2 F.1 (by decide) k0 4 (by decide) (st l0 4) rfl rfl zwf_Ca_24 zd_Ca_stayOpen_24 ?_
  refine zg_iconst F.1 1 1 (by decide) zd_Ca_stayOpen_27 ?_
  refine zg_iadd F.1 zd_Ca_stayOpen_28 ?_
  refine zg_putI2 F.1 (by decide) k0 4 (by decide) (Or.inr (Or.inr (Or.inr (Or.inr (Or.inl rfl))))) .int (by decide) rfl rfl rfl zwf_Ca_24 zd_Ca_stayOpen_29 ?_
  refine zg_iload_n F.1 zd_Ca_stayOpen_32 rfl rfl ?_
  refine zg_if_ne F.1 40 zd_Ca_stayOpen_33 rfl (fun hc => ?_) (fun hc => ?_)
  · rw [if_neg hc] at h
    exact zg_le (zw_len (zw_len (zw_len zw_le0))) (zl_Ca_stayOpen_40 F (zp st l0 4 ((st l0 4) + 1)) h)
  · rw [if_pos hc] at h
    refine zg_iload_n F.1 zd_Ca_stayOpen_36 rfl rfl ?_
    refine zg_if_eq F.1 41 zd_Ca_stayOpen_37 rfl (fun hc => ?_) (fun hc => ?_)
    · rw [if_pos hc] at h
      refine zg_aload_n F.1 zd_Ca_stayOpen_41 rfl rfl ?_
      refine zg_dup F.1 zd_Ca_stayOpen_42 rfl ?_
      refine zg_getI2 F.1 (by decide) k0 3 (by decide) (st l0 3) rfl (zp_o _ _ (by decide)) zwf_Ca_21 zd_Ca_stayOpen_43 ?_
      refine zg_iconst F.1 1 1 (by decide) zd_Ca_stayOpen_46 ?_
      refine zg_isub F.1 zd_Ca_stayOpen_47 ?_
      refine zg_putI2 F.1 (by decide) k0 3 (by decide) (Or.inr (Or.inr (Or.inr (Or.inl rfl)))) .int (by decide) rfl rfl rfl zwf_Ca_21 zd_Ca_stayOpen_48 ?_
      refine zg_aload_n F.1 zd_Ca_stayOpen_51 rfl rfl ?_
      refine zg_getI2 F.1 (by decide) k0 3 (by decide) ((st l0 3) - 1) rfl (zp_s _ _ _ _) zwf_Ca_21 zd_Ca_stayOpen_52 ?_
      refine zg_if_ne F.1 81 zd_Ca_stayOpen_55 rfl (fun hc => ?_) (fun hc => ?_)
      · rw [if_neg hc] at h
        exact zg_le (zw_len (zw_len (zw_len zw_le0))) (zl_Ca_stayOpen_81 F (zp (zp st l0 4 ((st l0 4) + 1)) l0 3 ((st l0 3) - 1)) h)
      · rw [if_pos hc] at h
        refine zg_aload_n F.1 zd_Ca_stayOpen_58 rfl rfl ?_
        refine zg_getI2 F.1 (by decide) k0 7 (by decide) (st l0 7) rfl ((zp_o _ _ (by decide)).trans (zp_o _ _ (by decide))) zwf_Ca_34 zd_Ca_stayOpen_59 ?_
        refine zg_if_eq F.1 75 zd_Ca_stayOpen_62 rfl (fun hc => ?_) (fun hc => ?_)
        · rw [if_pos hc] at h
          refine zg_aload_n F.1 zd_Ca_stayOpen_75 rfl rfl ?_
          refine zg_iconst F.1 3 3 (by decide) zd_Ca_stayOpen_76 ?_
          refine zg_iconst F.1 3 3 (by decide) zd_Ca_stayOpen_77 ?_
          obtain ⟨t78, hc78, h⟩ := Option.bind_eq_some_iff.mp h
          refine zg_callV F (As := [.int 3, .int 3]) (rest := []) (zk_Ca_turnDoor F.1.2.2 N l0 3 3 (zp (zp st l0 4 ((st l0 4) + 1)) l0 3 ((st l0 3) - 1)) k0 hc78) rfl rfl zcal_Ca_turnDoor zml_Ca_82 ⟨(Nat.le_of_ble_eq_true rfl), (Nat.le_of_ble_eq_true rfl)⟩ (zg_rec2 F.1 (by decide) k0) rfl (Nat.le_of_ble_eq_true rfl) ⟨(Nat.le_of_ble_eq_true rfl), (Nat.le_of_ble_eq_true rfl)⟩ zd_Ca_stayOpen_78 ?_
          exact zg_le (zw_len (zw_len (zw_len zw_le0))) (zl_Ca_stayOpen_81 F t78 h)
        · rw [if_neg hc] at h
          refine zg_aload_n F.1 zd_Ca_stayOpen_65 rfl rfl ?_
          refine zg_iconst F.1 4 4 (by decide) zd_Ca_stayOpen_66 ?_
          refine zg_bipush F.1 6 6 (by decide) zd_Ca_stayOpen_67 ?_
          obtain ⟨t69, hc69, h⟩ := Option.bind_eq_some_iff.mp h
          refine zg_callV F (As := [.int 4, .int 6]) (rest := []) (zk_Ca_turnDoor F.1.2.2 N l0 4 6 (zp (zp st l0 4 ((st l0 4) + 1)) l0 3 ((st l0 3) - 1)) k0 hc69) rfl rfl zcal_Ca_turnDoor zml_Ca_82 ⟨(Nat.le_of_ble_eq_true rfl), (Nat.le_of_ble_eq_true rfl)⟩ (zg_rec2 F.1 (by decide) k0) rfl (Nat.le_of_ble_eq_true rfl) ⟨(Nat.le_of_ble_eq_true rfl), (Nat.le_of_ble_eq_true rfl)⟩ zd_Ca_stayOpen_69 ?_
          refine zg_goto F.1 81 zd_Ca_stayOpen_72 rfl ?_
          exact zg_le (zw_len (zw_len (zw_len zw_le0))) (zl_Ca_stayOpen_81 F t69 h)
    · rw [if_neg hc] at h
      exact zg_le (zw_len (zw_len (zw_len zw_le0))) (zl_Ca_stayOpen_40 F (zp st l0 4 ((st l0 4) + 1)) h)
def zf_Ca_stayOpen_20 (N : Nat)  (l0 : Nat) (l1 : Int32) (st : zS) : Option zS := zf_Ca_stayOpen_21 N l0 l1 0 st
set_option maxHeartbeats 4000000 in
theorem zl_Ca_stayOpen_20 (F : zw_X p m c zo_Ca_stayOpen 3 s args zR2 E 10 A meth none) {N : Nat} {rst : zS}   (l0 : Nat) (l1 : Int32) (st : zS) (k0 : zw_kind l0 = 2) (h : zf_Ca_stayOpen_20 N  l0 l1 st = some rst) : zw_G p l e zrm_Ca_stayOpen s m args below meth c (MQ below (zw_Q E none rst A) args s 0 0 A) E A 3 0 20 [some (.ref l0), some (.int l1), none] [] st := by
  unfold zf_Ca_stayOpen_20 at h
  refine zg_iconst F.1 0 0 (by decide) zd_Ca_stayOpen_20 ?_
  exact zl_Ca_stayOpen_21 F l0 l1 0 st k0 h
def zf_Ca_stayOpen (N : Nat) (a0 : Nat) (a1 : Int32) (st : zS) : Option zS := (if (st a0 7) = 0 then zf_Ca_stayOpen_20 N a0 a1 st else (if 20 ≤ (st a0 4) then zf_Ca_stayOpen_20 N a0 a1 st else zf_Ca_stayOpen_21 N a0 a1 1 st))
set_option maxHeartbeats 4000000 in
theorem zl_Ca_stayOpen_0 (F : zw_X p m c zo_Ca_stayOpen 3 s args zR2 E 10 A meth none) {N : Nat} {rst : zS} (a0 : Nat) (a1 : Int32) (st : zS) (k0 : zw_kind a0 = 2) (h : zf_Ca_stayOpen N a0 a1 st = some rst) : zw_G p l e zrm_Ca_stayOpen s m args below meth c (MQ below (zw_Q E none rst A) args s 0 0 A) E A 3 0 0 [some (.ref a0), some (.int a1), none] [] st := by
  unfold zf_Ca_stayOpen at h
  refine zg_aload_n F.1 zd_Ca_stayOpen_0 rfl rfl ?_
  refine zg_getI2 F.1 (by decide) k0 7 (by decide) (st a0 7) rfl rfl zwf_Ca_34 zd_Ca_stayOpen_1 ?_
  refine zg_if_eq F.1 20 zd_Ca_stayOpen_4 rfl (fun hc => ?_) (fun hc => ?_)
  · rw [if_pos hc] at h
    exact zl_Ca_stayOpen_20 F a0 a1 st k0 h
  · rw [if_neg hc] at h
    refine zg_aload_n F.1 zd_Ca_stayOpen_7 rfl rfl ?_
    refine zg_getI2 F.1 (by decide) k0 4 (by decide) (st a0 4) rfl rfl zwf_Ca_24 zd_Ca_stayOpen_8 ?_
    refine zg_bipush F.1 20 20 (by decide) zd_Ca_stayOpen_11 ?_
    refine zg_icmp_ge F.1 20 zd_Ca_stayOpen_13 rfl (fun hc => ?_) (fun hc => ?_)
    · rw [if_pos hc] at h
      exact zl_Ca_stayOpen_20 F a0 a1 st k0 h
    · rw [if_neg hc] at h
      refine zg_iconst F.1 1 1 (by decide) zd_Ca_stayOpen_16 ?_
      refine zg_goto F.1 21 zd_Ca_stayOpen_17 rfl ?_
      exact zl_Ca_stayOpen_21 F a0 a1 1 st k0 h
theorem zk_Ca_stayOpen {E : zE} (hn : zw_n E 10) (N : Nat) (a0 : Nat) (a1 : Int32) (st : zS) (k0 : zw_kind a0 = 2) {rst : zS} (h : zf_Ca_stayOpen N a0 a1 st = some rst) : zw_M l zy_Ca_stayOpen (Cond.code zy_Ca_stayOpen zo_Ca_stayOpen 3 none :: zwAll) zrm_Ca_stayOpen E [.ref a0, .int a1] st none rst :=
  zw_enter (by decide) rfl hn (Nat.le_of_ble_eq_true rfl) (by simp [Value.category]) 1 (fun p e s m args below meth c A F => zl_Ca_stayOpen_0 F a0 a1 st k0 h)
/-! LiftGroup$Car.firstOf(II)I -/
abbrev zrm_Ca_firstOf : Room := { frames := 0, cells := 0, slots := 0, locals := 0 }
def zf_Ca_firstOf_34 (N : Nat) (r4 : Int32 → Int32 → Int32 → Int32 → zS → Option (Int32 × zS)) (l0 : Int32) (l1 : Int32) (l2 : Int32) (l3 : Int32) (st : zS) : Option (Int32 × zS) := r4 l0 l1 l2 (l3 + 1) st
set_option maxHeartbeats 4000000 in
theorem zl_Ca_firstOf_34 (F : zw_X p m c zo_Ca_firstOf 5 s args zR2 E 10 A meth (some .int)) {N : Nat} {rv : Int32} {rst : zS} {r4 : Int32 → Int32 → Int32 → Int32 → zS → Option (Int32 × zS)} (hr4 : ∀ (l0 : Int32) (l1 : Int32) (l2 : Int32) (l3 : Int32) (st : zS) , r4 l0 l1 l2 l3 st = some (rv, rst) → zw_G p l e zrm_Ca_firstOf s m args below meth c (MQ below (zw_Q E (some (.int rv)) rst A) args s 0 0 A) E A 5 0 4 [some (.int l0), some (.int l1), some (.int l2), some (.int l3), none] [] st) (l0 : Int32) (l1 : Int32) (l2 : Int32) (l3 : Int32) (st : zS)  (h : zf_Ca_firstOf_34 N r4 l0 l1 l2 l3 st = some (rv, rst)) : zw_G p l e zrm_Ca_firstOf s m args below meth c (MQ below (zw_Q E (some (.int rv)) rst A) args s 0 0 A) E A 5 0 34 [some (.int l0), some (.int l1), some (.int l2), some (.int l3), none] [] st := by
  unfold zf_Ca_firstOf_34 at h
  refine zg_iinc F.1 (l3 + 1) [some (.int l0), some (.int l1), some (.int l2), some (.int (l3 + 1)), none] zd_Ca_firstOf_34 rfl (by rw [lit1]) (by decide) rfl ?_
  refine zg_goto F.1 4 zd_Ca_firstOf_37 rfl ?_
  exact hr4 l0 l1 l2 (l3 + 1) st h
def zf_Ca_firstOf_40 (N : Nat)  (l2 : Int32) (st : zS) : Option (Int32 × zS) := some (l2, st)
set_option maxHeartbeats 4000000 in
theorem zl_Ca_firstOf_40 (F : zw_X p m c zo_Ca_firstOf 5 s args zR2 E 10 A meth (some .int)) {N : Nat} {rv : Int32} {rst : zS}   (l2 : Int32) (st : zS)  (h : zf_Ca_firstOf_40 N  l2 st = some (rv, rst)) : zw_G p l e zrm_Ca_firstOf s m args below meth c (MQ below (zw_Q E (some (.int rv)) rst A) args s 0 0 A) E A 5 0 40 [none, none, some (.int l2), none, none] [] st := by
  unfold zf_Ca_firstOf_40 at h
  refine zg_iload_n F.1 zd_Ca_firstOf_40 rfl rfl ?_
  cases h
  exact zg_iret F zd_Ca_firstOf_41
def zb_Ca_firstOf_4 (N : Nat) (r4 : Int32 → Int32 → Int32 → Int32 → zS → Option (Int32 × zS)) (l0 : Int32) (l1 : Int32) (l2 : Int32) (l3 : Int32) (st : zS) : Option (Int32 × zS) := (if 24 ≤ l3 then zf_Ca_firstOf_40 N l2 st else (if l1 ≤ 0 then zf_Ca_firstOf_40 N l2 st else (if (l0 &&& (1 <<< (l3 &&& 31))) = 0 then zf_Ca_firstOf_34 N r4 l0 l1 l2 l3 st else zf_Ca_firstOf_34 N r4 l0 (l1 + (-1)) (l2 ||| (l0 &&& (1 <<< (l3 &&& 31)))) l3 st)))
set_option maxHeartbeats 4000000 in
theorem zlb_Ca_firstOf_4 (F : zw_X p m c zo_Ca_firstOf 5 s args zR2 E 10 A meth (some .int)) {N : Nat} {rv : Int32} {rst : zS} {r4 : Int32 → Int32 → Int32 → Int32 → zS → Option (Int32 × zS)} (hr4 : ∀ (l0 : Int32) (l1 : Int32) (l2 : Int32) (l3 : Int32) (st : zS) , r4 l0 l1 l2 l3 st = some (rv, rst) → zw_G p l e zrm_Ca_firstOf s m args below meth c (MQ below (zw_Q E (some (.int rv)) rst A) args s 0 0 A) E A 5 0 4 [some (.int l0), some (.int l1), some (.int l2), some (.int l3), none] [] st) (l0 : Int32) (l1 : Int32) (l2 : Int32) (l3 : Int32) (st : zS)  (h : zb_Ca_firstOf_4 N r4 l0 l1 l2 l3 st = some (rv, rst)) : zw_G p l e zrm_Ca_firstOf s m args below meth c (MQ below (zw_Q E (some (.int rv)) rst A) args s 0 0 A) E A 5 0 4 [some (.int l0), some (.int l1), some (.int l2), some (.int l3), none] [] st := by
  unfold zb_Ca_firstOf_4 at h
  refine zg_iload_n F.1 zd_Ca_firstOf_4 rfl rfl ?_
  refine zg_bipush F.1 24 24 (by decide) zd_Ca_firstOf_5 ?_
  refine zg_icmp_ge F.1 40 zd_Ca_firstOf_7 rfl (fun hc => ?_) (fun hc => ?_)
  · rw [if_pos hc] at h
    exact zg_le (zw_len (zw_len (zw_les (zw_len (zw_les zw_le0))))) (zl_Ca_firstOf_40 F l2 st h)
  · rw [if_neg hc] at h
    refine zg_iload_n F.1 zd_Ca_firstOf_10 rfl rfl ?_
    refine zg_if_le F.1 40 zd_Ca_firstOf_11 rfl (fun hc => ?_) (fun hc => ?_)
    · rw [if_pos hc] at h
      exact zg_le (zw_len (zw_len (zw_les (zw_len (zw_les zw_le0))))) (zl_Ca_firstOf_40 F l2 st h)
    · rw [if_neg hc] at h
      refine zg_iload_n F.1 zd_Ca_firstOf_14 rfl rfl ?_
      refine zg_iconst F.1 1 1 (by decide) zd_Ca_firstOf_15 ?_
      refine zg_iload_n F.1 zd_Ca_firstOf_16 rfl rfl ?_
      refine zg_ishl F.1 zd_Ca_firstOf_17 ?_
      refine zg_iand F.1 zd_Ca_firstOf_18 ?_
      refine zg_istore F.1 [some (.int l0), some (.int l1), some (.int l2), some (.int l3), some (.int (l0 &&& (1 <<< (l3 &&& 31))))] zd_Ca_firstOf_19 (by decide) rfl ?_
      refine zg_iload F.1 zd_Ca_firstOf_21 rfl ?_
      refine zg_if_eq F.1 34 zd_Ca_firstOf_23 rfl (fun hc => ?_) (fun hc => ?_)
      · rw [if_pos hc] at h
        exact zg_le (zw_les (zw_les (zw_les (zw_les (zw_len zw_le0))))) (zl_Ca_firstOf_34 F hr4 l0 l1 l2 l3 st h)
      · rw [if_neg hc] at h
        refine zg_iload_n F.1 zd_Ca_firstOf_26 rfl rfl ?_
        refine zg_iload F.1 zd_Ca_firstOf_27 rfl ?_
        refine zg_ior F.1 zd_Ca_firstOf_29 ?_
        refine zg_istore_n F.1 [some (.int l0), some (.int l1), some (.int (l2 ||| (l0 &&& (1 <<< (l3 &&& 31))))), some (.int l3), some (.int (l0 &&& (1 <<< (l3 &&& 31))))] zd_Ca_firstOf_30 rfl (by decide) rfl ?_
        refine zg_iinc F.1 (l1 + (-1)) [some (.int l0), some (.int (l1 + (-1))), some (.int (l2 ||| (l0 &&& (1 <<< (l3 &&& 31))))), some (.int l3), some (.int (l0 &&& (1 <<< (l3 &&& 31))))] zd_Ca_firstOf_31 rfl (by rw [litm1]) (by decide) rfl ?_
        exact zg_le (zw_les (zw_les (zw_les (zw_les (zw_len zw_le0))))) (zl_Ca_firstOf_34 F hr4 l0 (l1 + (-1)) (l2 ||| (l0 &&& (1 <<< (l3 &&& 31)))) l3 st h)
def zf_Ca_firstOf_4 (N : Nat)  : Nat → Int32 → Int32 → Int32 → Int32 → zS → Option (Int32 × zS)
  | 0, _, _, _, _, _ => none
  | n + 1, l0, l1, l2, l3, st => zb_Ca_firstOf_4 N  (zf_Ca_firstOf_4 N  n) l0 l1 l2 l3 st
theorem zl_Ca_firstOf_4 (F : zw_X p m c zo_Ca_firstOf 5 s args zR2 E 10 A meth (some .int)) {N : Nat} {rv : Int32} {rst : zS}   : ∀ (n : Nat) (l0 : Int32) (l1 : Int32) (l2 : Int32) (l3 : Int32) (st : zS)  (h : zf_Ca_firstOf_4 N  n l0 l1 l2 l3 st = some (rv, rst)), zw_G p l e zrm_Ca_firstOf s m args below meth c (MQ below (zw_Q E (some (.int rv)) rst A) args s 0 0 A) E A 5 0 4 [some (.int l0), some (.int l1), some (.int l2), some (.int l3), none] [] st := by
  intro n
  induction n with
  | zero => intro l0 l1 l2 l3 st  h; cases h
  | succ n ih => intro l0 l1 l2 l3 st  h; exact zlb_Ca_firstOf_4 F  ih l0 l1 l2 l3 st  h
def zf_Ca_firstOf (N : Nat) (a0 : Int32) (a1 : Int32) (st : zS) : Option (Int32 × zS) := zf_Ca_firstOf_4 N N a0 a1 0 0 st
set_option maxHeartbeats 4000000 in
theorem zl_Ca_firstOf_0 (F : zw_X p m c zo_Ca_firstOf 5 s args zR2 E 10 A meth (some .int)) {N : Nat} {rv : Int32} {rst : zS} (a0 : Int32) (a1 : Int32) (st : zS)  (h : zf_Ca_firstOf N a0 a1 st = some (rv, rst)) : zw_G p l e zrm_Ca_firstOf s m args below meth c (MQ below (zw_Q E (some (.int rv)) rst A) args s 0 0 A) E A 5 0 0 [some (.int a0), some (.int a1), none, none, none] [] st := by
  unfold zf_Ca_firstOf at h
  refine zg_iconst F.1 0 0 (by decide) zd_Ca_firstOf_0 ?_
  refine zg_istore_n F.1 [some (.int a0), some (.int a1), some (.int 0), none, none] zd_Ca_firstOf_1 rfl (by decide) rfl ?_
  refine zg_iconst F.1 0 0 (by decide) zd_Ca_firstOf_2 ?_
  refine zg_istore_n F.1 [some (.int a0), some (.int a1), some (.int 0), some (.int 0), none] zd_Ca_firstOf_3 rfl (by decide) rfl ?_
  exact zl_Ca_firstOf_4 F N a0 a1 0 0 st h
theorem zk_Ca_firstOf {E : zE} (hn : zw_n E 10) (N : Nat) (a0 : Int32) (a1 : Int32) (st : zS)  {rv : Int32} {rst : zS} (h : zf_Ca_firstOf N a0 a1 st = some (rv, rst)) : zw_M l zy_Ca_firstOf (Cond.code zy_Ca_firstOf zo_Ca_firstOf 5 (some .int) :: zwAll) zrm_Ca_firstOf E [.int a0, .int a1] st (some (.int rv)) rst :=
  zw_enter (by decide) rfl hn (Nat.le_of_ble_eq_true rfl) (by simp [Value.category]) 3 (fun p e s m args below meth c A F => zl_Ca_firstOf_0 F a0 a1 st  h)
theorem zwf_Ca_46 : Cond.fieldLink zR2 46 (zT1 4).1 (zT1 4).2.1 (zT1 4).2.2.1 ∈ zwAll := zw_at 87 rfl rfl
theorem zcal_Ca_hasRiders : zw_cal zR2 zy_Ca_hasRiders zo_Ca_hasRiders 1 (some .boolean) 0 := ⟨zw_at 309 rfl rfl, zw_at 310 rfl rfl, zw_at 49 rfl rfl, zw_at 311 rfl rfl, rfl, by decide, by decide, by decide +kernel⟩
theorem zml_Ca_51 : Cond.methodLink zR2 51 zy_Ca_hasRiders ∈ zwAll := zw_at 320 rfl rfl
theorem zcal_In_bitCount : zw_calS zy_In_bitCount zo_In_bitCount 1 (some .int) 1 := ⟨zw_at 322 rfl rfl, zw_at 59 rfl rfl, zw_at 323 rfl rfl, by decide, by decide, by decide +kernel⟩
theorem zml_Ca_55 : Cond.methodLink zR2 55 zy_In_bitCount ∈ zwAll := zw_at 321 rfl rfl
theorem zwf_Ca_61 : Cond.fieldLink zR2 61 (zT1 3).1 (zT1 3).2.1 (zT1 3).2.2.1 ∈ zwAll := zw_at 85 rfl rfl
theorem zwf_Ca_64 : Cond.fieldLink zR2 64 (zT1 2).1 (zT1 2).2.1 (zT1 2).2.2.1 ∈ zwAll := zw_at 82 rfl rfl
theorem zwf_Ca_67 : Cond.fieldLink zR2 67 (zT1 1).1 (zT1 1).2.1 (zT1 1).2.2.1 ∈ zwAll := zw_at 80 rfl rfl
theorem zwf_Ca_71 : Cond.fieldLink zR2 71 (zT1 0).1 (zT1 0).2.1 (zT1 0).2.2.1 ∈ zwAll := zw_at 78 rfl rfl
/-! LiftGroup$Car.stopSet(LLiftGroup$House;)I -/
abbrev zrm_Ca_stopSet : Room := { frames := 1, cells := 0, slots := 0, locals := 20 }
def zf_Ca_stopSet_91 (N : Nat) (r46 : Nat → Int32 → Int32 → Int32 → zS → Option (Int32 × zS)) (l0 : Nat) (l2 : Int32) (l3 : Int32) (l4 : Int32) (st : zS) : Option (Int32 × zS) := r46 l0 l2 l3 (l4 + 1) st
set_option maxHeartbeats 4000000 in
theorem zl_Ca_stopSet_91 (F : zw_X p m c zo_Ca_stopSet 5 s args zR2 E 10 A meth (some .int)) {N : Nat} {rv : Int32} {rst : zS} {r46 : Nat → Int32 → Int32 → Int32 → zS → Option (Int32 × zS)} (hr46 : ∀ (l0 : Nat) (l2 : Int32) (l3 : Int32) (l4 : Int32) (st : zS) (k0 : zw_kind l0 = 2), r46 l0 l2 l3 l4 st = some (rv, rst) → zw_G p l e zrm_Ca_stopSet s m args below meth c (MQ below (zw_Q E (some (.int rv)) rst A) args s 0 0 A) E A 5 0 46 [some (.ref l0), some (.ref 1), some (.int l2), some (.int l3), some (.int l4)] [] st) (l0 : Nat) (l2 : Int32) (l3 : Int32) (l4 : Int32) (st : zS) (k0 : zw_kind l0 = 2) (h : zf_Ca_stopSet_91 N r46 l0 l2 l3 l4 st = some (rv, rst)) : zw_G p l e zrm_Ca_stopSet s m args below meth c (MQ below (zw_Q E (some (.int rv)) rst A) args s 0 0 A) E A 5 0 91 [some (.ref l0), some (.ref 1), some (.int l2), some (.int l3), some (.int l4)] [] st := by
  unfold zf_Ca_stopSet_91 at h
  refine zg_iinc F.1 (l4 + 1) [some (.ref l0), some (.ref 1), some (.int l2), some (.int l3), some (.int (l4 + 1))] zd_Ca_stopSet_91 rfl (by rw [lit1]) (by decide) rfl ?_
  refine zg_goto F.1 46 zd_Ca_stopSet_94 rfl ?_
  exact hr46 l0 l2 l3 (l4 + 1) st k0 h
def zf_Ca_stopSet_82 (N : Nat) (r46 : Nat → Int32 → Int32 → Int32 → zS → Option (Int32 × zS)) (l0 : Nat) (l2 : Int32) (l3 : Int32) (l4 : Int32) (st : zS) : Option (Int32 × zS) := zf_Ca_stopSet_91 N r46 l0 l2 (l3 ||| (1 <<< ((2 * l4) &&& 31))) l4 st
set_option maxHeartbeats 4000000 in
theorem zl_Ca_stopSet_82 (F : zw_X p m c zo_Ca_stopSet 5 s args zR2 E 10 A meth (some .int)) {N : Nat} {rv : Int32} {rst : zS} {r46 : Nat → Int32 → Int32 → Int32 → zS → Option (Int32 × zS)} (hr46 : ∀ (l0 : Nat) (l2 : Int32) (l3 : Int32) (l4 : Int32) (st : zS) (k0 : zw_kind l0 = 2), r46 l0 l2 l3 l4 st = some (rv, rst) → zw_G p l e zrm_Ca_stopSet s m args below meth c (MQ below (zw_Q E (some (.int rv)) rst A) args s 0 0 A) E A 5 0 46 [some (.ref l0), some (.ref 1), some (.int l2), some (.int l3), some (.int l4)] [] st) (l0 : Nat) (l2 : Int32) (l3 : Int32) (l4 : Int32) (st : zS) (k0 : zw_kind l0 = 2) (h : zf_Ca_stopSet_82 N r46 l0 l2 l3 l4 st = some (rv, rst)) : zw_G p l e zrm_Ca_stopSet s m args below meth c (MQ below (zw_Q E (some (.int rv)) rst A) args s 0 0 A) E A 5 0 82 [some (.ref l0), some (.ref 1), some (.int l2), some (.int l3), some (.int l4)] [] st := by
  unfold zf_Ca_stopSet_82 at h
  refine zg_iload_n F.1 zd_Ca_stopSet_82 rfl rfl ?_
  refine zg_iconst F.1 1 1 (by decide) zd_Ca_stopSet_83 ?_
  refine zg_iconst F.1 2 2 (by decide) zd_Ca_stopSet_84 ?_
  refine zg_iload F.1 zd_Ca_stopSet_85 rfl ?_
  refine zg_imul F.1 zd_Ca_stopSet_87 ?_
  refine zg_ishl F.1 zd_Ca_stopSet_88 ?_
  refine zg_ior F.1 zd_Ca_stopSet_89 ?_
  refine zg_istore_n F.1 [some (.ref l0), some (.ref 1), some (.int l2), some (.int (l3 ||| (1 <<< ((2 * l4) &&& 31)))), some (.int l4)] zd_Ca_stopSet_90 rfl (by decide) rfl ?_
  exact zl_Ca_stopSet_91 F hr46 l0 l2 (l3 ||| (1 <<< ((2 * l4) &&& 31))) l4 st k0 h
def zb_Ca_stopSet_46 (N : Nat) (r46 : Nat → Int32 → Int32 → Int32 → zS → Option (Int32 × zS)) (l0 : Nat) (l2 : Int32) (l3 : Int32) (l4 : Int32) (st : zS) : Option (Int32 × zS) := (if (st 1 2) ≤ l4 then some (l3, st) else (if l4 < 0 ∨ 10 ≤ l4.toNatClampNeg then none else (if ((st l0 8) &&& (st 3 l4.toNatClampNeg)) = 0 then (if l4 < 0 ∨ 10 ≤ l4.toNatClampNeg then none else (if (l2 &&& (st 2 l4.toNatClampNeg)) = 0 then zf_Ca_stopSet_91 N r46 l0 l2 l3 l4 st else zf_Ca_stopSet_82 N r46 l0 l2 l3 l4 st)) else zf_Ca_stopSet_82 N r46 l0 l2 l3 l4 st)))
set_option maxHeartbeats 4000000 in
theorem zlb_Ca_stopSet_46 (F : zw_X p m c zo_Ca_stopSet 5 s args zR2 E 10 A meth (some .int)) {N : Nat} {rv : Int32} {rst : zS} {r46 : Nat → Int32 → Int32 → Int32 → zS → Option (Int32 × zS)} (hr46 : ∀ (l0 : Nat) (l2 : Int32) (l3 : Int32) (l4 : Int32) (st : zS) (k0 : zw_kind l0 = 2), r46 l0 l2 l3 l4 st = some (rv, rst) → zw_G p l e zrm_Ca_stopSet s m args below meth c (MQ below (zw_Q E (some (.int rv)) rst A) args s 0 0 A) E A 5 0 46 [some (.ref l0), some (.ref 1), some (.int l2), some (.int l3), some (.int l4)] [] st) (l0 : Nat) (l2 : Int32) (l3 : Int32) (l4 : Int32) (st : zS) (k0 : zw_kind l0 = 2) (h : zb_Ca_stopSet_46 N r46 l0 l2 l3 l4 st = some (rv, rst)) : zw_G p l e zrm_Ca_stopSet s m args below meth c (MQ below (zw_Q E (some (.int rv)) rst A) args s 0 0 A) E A 5 0 46 [some (.ref l0), some (.ref 1), some (.int l2), some (.int l3), some (.int l4)] [] st := by
  unfold zb_Ca_stopSet_46 at h
  refine zg_iload F.1 zd_Ca_stopSet_46 rfl ?_
  refine zg_aload_n F.1 zd_Ca_stopSet_48 rfl rfl ?_
  refine zg_getI1 F.1 (by decide) rfl 2 (by decide) (st 1 2) rfl rfl zwf_Ca_64 zd_Ca_stopSet_49 ?_
  refine zg_icmp_ge F.1 97 zd_Ca_stopSet_52 rfl (fun hc => ?_) (fun hc => ?_)
  · rw [if_pos hc] at h
    refine zg_iload_n F.1 zd_Ca_stopSet_97 rfl rfl ?_
    cases h
    exact zg_iret F zd_Ca_stopSet_98
  · rw [if_neg hc] at h
    refine zg_aload_n F.1 zd_Ca_stopSet_55 rfl rfl ?_
    refine zg_getI2 F.1 (by decide) k0 8 (by decide) (st l0 8) rfl rfl zwf_Ca_37 zd_Ca_stopSet_56 ?_
    refine zg_aload_n F.1 zd_Ca_stopSet_59 rfl rfl ?_
    refine zg_getR1 F.1 (by decide) rfl 1 (by decide) 3 rfl zwf_Ca_67 zd_Ca_stopSet_60 ?_
    refine zg_iload F.1 zd_Ca_stopSet_63 rfl ?_
    by_cases hi65 : l4 < 0 ∨ 10 ≤ l4.toNatClampNeg
    case pos => rw [if_pos hi65] at h; cases h
    rw [if_neg hi65] at h
    refine zg_ald5 F.1 (by decide) rfl hi65 l4.toNatClampNeg rfl (st 3 l4.toNatClampNeg) rfl zd_Ca_stopSet_65 ?_
    refine zg_iand F.1 zd_Ca_stopSet_66 ?_
    refine zg_if_ne F.1 82 zd_Ca_stopSet_67 rfl (fun hc => ?_) (fun hc => ?_)
    · rw [if_neg hc] at h
      exact zl_Ca_stopSet_82 F hr46 l0 l2 l3 l4 st k0 h
    · rw [if_pos hc] at h
      refine zg_iload_n F.1 zd_Ca_stopSet_70 rfl rfl ?_
      refine zg_aload_n F.1 zd_Ca_stopSet_71 rfl rfl ?_
      refine zg_getR1 F.1 (by decide) rfl 0 (by decide) 2 rfl zwf_Ca_71 zd_Ca_stopSet_72 ?_
      refine zg_iload F.1 zd_Ca_stopSet_75 rfl ?_
      by_cases hi77 : l4 < 0 ∨ 10 ≤ l4.toNatClampNeg
      case pos => rw [if_pos hi77] at h; cases h
      rw [if_neg hi77] at h
      refine zg_ald5 F.1 (by decide) rfl hi77 l4.toNatClampNeg rfl (st 2 l4.toNatClampNeg) rfl zd_Ca_stopSet_77 ?_
      refine zg_iand F.1 zd_Ca_stopSet_78 ?_
      refine zg_if_eq F.1 91 zd_Ca_stopSet_79 rfl (fun hc => ?_) (fun hc => ?_)
      · rw [if_pos hc] at h
        exact zl_Ca_stopSet_91 F hr46 l0 l2 l3 l4 st k0 h
      · rw [if_neg hc] at h
        exact zl_Ca_stopSet_82 F hr46 l0 l2 l3 l4 st k0 h
def zf_Ca_stopSet_46 (N : Nat)  : Nat → Nat → Int32 → Int32 → Int32 → zS → Option (Int32 × zS)
  | 0, _, _, _, _, _ => none
  | n + 1, l0, l2, l3, l4, st => zb_Ca_stopSet_46 N  (zf_Ca_stopSet_46 N  n) l0 l2 l3 l4 st
theorem zl_Ca_stopSet_46 (F : zw_X p m c zo_Ca_stopSet 5 s args zR2 E 10 A meth (some .int)) {N : Nat} {rv : Int32} {rst : zS}   : ∀ (n : Nat) (l0 : Nat) (l2 : Int32) (l3 : Int32) (l4 : Int32) (st : zS) (k0 : zw_kind l0 = 2) (h : zf_Ca_stopSet_46 N  n l0 l2 l3 l4 st = some (rv, rst)), zw_G p l e zrm_Ca_stopSet s m args below meth c (MQ below (zw_Q E (some (.int rv)) rst A) args s 0 0 A) E A 5 0 46 [some (.ref l0), some (.ref 1), some (.int l2), some (.int l3), some (.int l4)] [] st := by
  intro n
  induction n with
  | zero => intro l0 l2 l3 l4 st k0 h; cases h
  | succ n ih => intro l0 l2 l3 l4 st k0 h; exact zlb_Ca_stopSet_46 F  ih l0 l2 l3 l4 st k0 h
def zf_Ca_stopSet_40 (N : Nat)  (l0 : Nat) (s0 : Int32) (st : zS) : Option (Int32 × zS) := zf_Ca_stopSet_46 N N l0 s0 0 0 st
set_option maxHeartbeats 4000000 in
theorem zl_Ca_stopSet_40 (F : zw_X p m c zo_Ca_stopSet 5 s args zR2 E 10 A meth (some .int)) {N : Nat} {rv : Int32} {rst : zS}   (l0 : Nat) (s0 : Int32) (st : zS) (k0 : zw_kind l0 = 2) (h : zf_Ca_stopSet_40 N  l0 s0 st = some (rv, rst)) : zw_G p l e zrm_Ca_stopSet s m args below meth c (MQ below (zw_Q E (some (.int rv)) rst A) args s 0 0 A) E A 5 0 40 [some (.ref l0), some (.ref 1), none, none, none] [.int s0] st := by
  unfold zf_Ca_stopSet_40 at h
  refine zg_istore_n F.1 [some (.ref l0), some (.ref 1), some (.int s0), none, none] zd_Ca_stopSet_40 rfl (by decide) rfl ?_
  refine zg_iconst F.1 0 0 (by decide) zd_Ca_stopSet_41 ?_
  refine zg_istore_n F.1 [some (.ref l0), some (.ref 1), some (.int s0), some (.int 0), none] zd_Ca_stopSet_42 rfl (by decide) rfl ?_
  refine zg_iconst F.1 0 0 (by decide) zd_Ca_stopSet_43 ?_
  refine zg_istore F.1 [some (.ref l0), some (.ref 1), some (.int s0), some (.int 0), some (.int 0)] zd_Ca_stopSet_44 (by decide) rfl ?_
  exact zl_Ca_stopSet_46 F N l0 s0 0 0 st k0 h
def zf_Ca_stopSet (N : Nat) (a0 : Nat) (st : zS) : Option (Int32 × zS) := (if (st 1 4) = 0 then ((zf_Ca_hasRiders N a0 st).bind fun y10 => (if y10.1 = 0 then some (0, y10.2) else ((zf_In_bitCount N (y10.2 a0 8) y10.2).bind fun y22 => (if (y22.2 1 3) ≤ y22.1 then zf_Ca_stopSet_40 N a0 0 y22.2 else zf_Ca_stopSet_40 N a0 (y22.2 a0 9) y22.2)))) else some (1, st))
set_option maxHeartbeats 4000000 in
theorem zl_Ca_stopSet_0 (F : zw_X p m c zo_Ca_stopSet 5 s args zR2 E 10 A meth (some .int)) {N : Nat} {rv : Int32} {rst : zS} (a0 : Nat) (st : zS) (k0 : zw_kind a0 = 2) (h : zf_Ca_stopSet N a0 st = some (rv, rst)) : zw_G p l e zrm_Ca_stopSet s m args below meth c (MQ below (zw_Q E (some (.int rv)) rst A) args s 0 0 A) E A 5 0 0 [some (.ref a0), some (.ref 1), none, none, none] [] st := by
  unfold zf_Ca_stopSet at h
  refine zg_aload_n F.1 zd_Ca_stopSet_0 rfl rfl ?_
  refine zg_getI1 F.1 (by decide) rfl 4 (by decide) (st 1 4) rfl rfl zwf_Ca_46 zd_Ca_stopSet_1 ?_
  refine zg_if_eq F.1 9 zd_Ca_stopSet_4 rfl (fun hc => ?_) (fun hc => ?_)
  · rw [if_pos hc] at h
    refine zg_aload_n F.1 zd_Ca_stopSet_9 rfl rfl ?_
    obtain ⟨y10, hc10, h⟩ := Option.bind_eq_some_iff.mp h
    refine zg_callV F (As := []) (rest := []) (zk_Ca_hasRiders F.1.2.2 N a0 st k0 hc10) rfl rfl zcal_Ca_hasRiders zml_Ca_51 ⟨(Nat.le_of_ble_eq_true rfl), (Nat.le_of_ble_eq_true rfl)⟩ (zg_rec2 F.1 (by decide) k0) rfl (Nat.le_of_ble_eq_true rfl) ⟨(Nat.le_of_ble_eq_true rfl), (Nat.le_of_ble_eq_true rfl)⟩ zd_Ca_stopSet_10 ?_
    refine zg_if_ne F.1 18 zd_Ca_stopSet_13 rfl (fun hc => ?_) (fun hc => ?_)
    · rw [if_neg hc] at h
      refine zg_aload_n F.1 zd_Ca_stopSet_18 rfl rfl ?_
      refine zg_getI2 F.1 (by decide) k0 8 (by decide) (y10.2 a0 8) rfl rfl zwf_Ca_37 zd_Ca_stopSet_19 ?_
      obtain ⟨y22, hc22, h⟩ := Option.bind_eq_some_iff.mp h
      refine zg_callS F (As := [.int (y10.2 a0 8)]) (rest := []) (zk_In_bitCount F.1.2.2 N (y10.2 a0 8) y10.2 hc22) rfl rfl zcal_In_bitCount zml_Ca_55 ⟨(Nat.le_of_ble_eq_true rfl), (Nat.le_of_ble_eq_true rfl)⟩ rfl (Nat.le_of_ble_eq_true rfl) ⟨(Nat.le_of_ble_eq_true rfl), (Nat.le_of_ble_eq_true rfl)⟩ zd_Ca_stopSet_22 ?_
      refine zg_aload_n F.1 zd_Ca_stopSet_25 rfl rfl ?_
      refine zg_getI1 F.1 (by decide) rfl 3 (by decide) (y22.2 1 3) rfl rfl zwf_Ca_61 zd_Ca_stopSet_26 ?_
      refine zg_icmp_ge F.1 39 zd_Ca_stopSet_29 rfl (fun hc => ?_) (fun hc => ?_)
      · rw [if_pos hc] at h
        refine zg_iconst F.1 0 0 (by decide) zd_Ca_stopSet_39 ?_
        exact zl_Ca_stopSet_40 F a0 0 y22.2 k0 h
      · rw [if_neg hc] at h
        refine zg_aload_n F.1 zd_Ca_stopSet_32 rfl rfl ?_
        refine zg_getI2 F.1 (by decide) k0 9 (by decide) (y22.2 a0 9) rfl rfl zwf_Ca_40 zd_Ca_stopSet_33 ?_
        refine zg_goto F.1 40 zd_Ca_stopSet_36 rfl ?_
        exact zl_Ca_stopSet_40 F a0 (y22.2 a0 9) y22.2 k0 h
    · rw [if_pos hc] at h
      refine zg_iconst F.1 0 0 (by decide) zd_Ca_stopSet_16 ?_
      cases h
      exact zg_iret F zd_Ca_stopSet_17
  · rw [if_neg hc] at h
    refine zg_iconst F.1 1 1 (by decide) zd_Ca_stopSet_7 ?_
    cases h
    exact zg_iret F zd_Ca_stopSet_8
theorem zk_Ca_stopSet {E : zE} (hn : zw_n E 10) (N : Nat) (a0 : Nat) (st : zS) (k0 : zw_kind a0 = 2) {rv : Int32} {rst : zS} (h : zf_Ca_stopSet N a0 st = some (rv, rst)) : zw_M l zy_Ca_stopSet (Cond.code zy_Ca_stopSet zo_Ca_stopSet 5 (some .int) :: zwAll) zrm_Ca_stopSet E [.ref a0, .ref 1] st (some (.int rv)) rst :=
  zw_enter (by decide) rfl hn (Nat.le_of_ble_eq_true rfl) (by simp [Value.category]) 3 (fun p e s m args below meth c A F => zl_Ca_stopSet_0 F a0 st k0 h)
theorem zcal_Ca_firstOf : zw_calS zy_Ca_firstOf zo_Ca_firstOf 5 (some .int) 2 := ⟨zw_at 348 rfl rfl, zw_at 49 rfl rfl, zw_at 349 rfl rfl, by decide, by decide, by decide +kernel⟩
theorem zml_Ca_113 : Cond.methodLink zR2 113 zy_Ca_firstOf ∈ zwAll := zw_at 347 rfl rfl
/-! LiftGroup$Car.exchange(LLiftGroup$House;)V -/
abbrev zrm_Ca_exchange : Room := { frames := 1, cells := 0, slots := 0, locals := 24 }
def zf_Ca_exchange_124 (N : Nat)   (st : zS) : Option zS := some st
set_option maxHeartbeats 4000000 in
theorem zl_Ca_exchange_124 (F : zw_X p m c zo_Ca_exchange 4 s args zR2 E 10 A meth none) {N : Nat} {rst : zS}    (st : zS)  (h : zf_Ca_exchange_124 N   st = some rst) : zw_G p l e zrm_Ca_exchange s m args below meth c (MQ below (zw_Q E none rst A) args s 0 0 A) E A 4 0 124 [none, none, none, none] [] st := by
  unfold zf_Ca_exchange_124 at h
  cases h
  exact zg_vret F zd_Ca_exchange_124
def zf_Ca_exchange (N : Nat) (a0 : Nat) (st : zS) : Option zS := (if ((st a0 0) / 2) < 0 ∨ 10 ≤ ((st a0 0) / 2).toNatClampNeg then none else (if (st 1 4) = 0 then ((zf_In_bitCount N ((st a0 8) &&& (((st a0 8) &&& (st 3 (((st a0 0) / 2).toNatClampNeg))) ^^^ (-1))) (zp (zp st a0 10 ((st a0 8) &&& (st 3 (((st a0 0) / 2).toNatClampNeg)))) a0 8 ((st a0 8) &&& (((st a0 8) &&& (st 3 (((st a0 0) / 2).toNatClampNeg))) ^^^ (-1))))).bind fun y52 => (if ((st a0 0) / 2) < 0 ∨ 10 ≤ ((st a0 0) / 2).toNatClampNeg then none else ((zf_Ca_firstOf N ((y52.2 a0 9) &&& (y52.2 2 (((st a0 0) / 2).toNatClampNeg))) ((st 1 3) - y52.1) y52.2).bind fun y70 => zf_Ca_exchange_124 N (zp (zp (zp y70.2 a0 12 y70.1) a0 8 ((y70.2 a0 8) ||| y70.1)) a0 9 ((y70.2 a0 9) &&& (y70.1 ^^^ (-1))))))) else (if ((st a0 0) / 2) = 0 then zf_Ca_exchange_124 N (zp (zp (zp (zp st a0 10 ((st a0 8) &&& (st 3 (((st a0 0) / 2).toNatClampNeg)))) a0 8 ((st a0 8) &&& (((st a0 8) &&& (st 3 (((st a0 0) / 2).toNatClampNeg))) ^^^ (-1)))) a0 11 ((st a0 8) &&& (((st a0 8) &&& (st 3 (((st a0 0) / 2).toNatClampNeg))) ^^^ (-1)))) a0 8 0) else zf_Ca_exchange_124 N (zp (zp st a0 10 ((st a0 8) &&& (st 3 (((st a0 0) / 2).toNatClampNeg)))) a0 8 ((st a0 8) &&& (((st a0 8) &&& (st 3 (((st a0 0) / 2).toNatClampNeg))) ^^^ (-1)))))))
set_option maxHeartbeats 4000000 in
theorem zl_Ca_exchange_0 (F : zw_X p m c zo_Ca_exchange 4 s args zR2 E 10 A meth none) {N : Nat} {rst : zS} (a0 : Nat) (st : zS) (k0 : zw_kind a0 = 2) (h : zf_Ca_exchange N a0 st = some rst) : zw_G p l e zrm_Ca_exchange s m args below meth c (MQ below (zw_Q E none rst A) args s 0 0 A) E A 4 0 0 [some (.ref a0), some (.ref 1), none, none] [] st := by
  unfold zf_Ca_exchange at h
  refine zg_aload_n F.1 zd_Ca_exchange_0 rfl rfl ?_
  refine zg_getI2 F.1 (by decide) k0 0 (by decide) (st a0 0) rfl rfl zwf_Ca_9 zd_Ca_exchange_1 ?_
  refine zg_iconst F.1 2 2 (by decide) zd_Ca_exchange_4 ?_
  refine zg_idiv F.1 zd_Ca_exchange_5 (by decide) ?_
  refine zg_istore_n F.1 [some (.ref a0), some (.ref 1), some (.int ((st a0 0) / 2)), none] zd_Ca_exchange_6 rfl (by decide) rfl ?_
  refine zg_aload_n F.1 zd_Ca_exchange_7 rfl rfl ?_
  refine zg_aload_n F.1 zd_Ca_exchange_8 rfl rfl ?_
  refine zg_getI2 F.1 (by decide) k0 8 (by decide) (st a0 8) rfl rfl zwf_Ca_37 zd_Ca_exchange_9 ?_
  refine zg_aload_n F.1 zd_Ca_exchange_12 rfl rfl ?_
  refine zg_getR1 F.1 (by decide) rfl 1 (by decide) 3 rfl zwf_Ca_67 zd_Ca_exchange_13 ?_
  refine zg_iload_n F.1 zd_Ca_exchange_16 rfl rfl ?_
  by_cases hi17 : ((st a0 0) / 2) < 0 ∨ 10 ≤ ((st a0 0) / 2).toNatClampNeg
  case pos => rw [if_pos hi17] at h; cases h
  rw [if_neg hi17] at h
  refine zg_ald5 F.1 (by decide) rfl hi17 (((st a0 0) / 2).toNatClampNeg) rfl (st 3 (((st a0 0) / 2).toNatClampNeg)) rfl zd_Ca_exchange_17 ?_
  refine zg_iand F.1 zd_Ca_exchange_18 ?_
  refine zg_putI2 F.1 (by decide) k0 10 (by decide) (Or.inr (Or.inr (Or.inr (Or.inr (Or.inr (Or.inr (Or.inr (Or.inr (Or.inr (Or.inr (Or.inl rfl))))))))))) .int (by decide) rfl rfl rfl zwf_Ca_97 zd_Ca_exchange_19 ?_
  refine zg_aload_n F.1 zd_Ca_exchange_22 rfl rfl ?_
  refine zg_dup F.1 zd_Ca_exchange_23 rfl ?_
  refine zg_getI2 F.1 (by decide) k0 8 (by decide) (st a0 8) rfl (zp_o _ _ (by decide)) zwf_Ca_37 zd_Ca_exchange_24 ?_
  refine zg_aload_n F.1 zd_Ca_exchange_27 rfl rfl ?_
  refine zg_getI2 F.1 (by decide) k0 10 (by decide) ((st a0 8) &&& (st 3 (((st a0 0) / 2).toNatClampNeg))) rfl (zp_s _ _ _ _) zwf_Ca_97 zd_Ca_exchange_28 ?_
  refine zg_iconst F.1 (-1) (-1) (by decide) zd_Ca_exchange_31 ?_
  refine zg_ixor F.1 zd_Ca_exchange_32 ?_
  refine zg_iand F.1 zd_Ca_exchange_33 ?_
  refine zg_putI2 F.1 (by decide) k0 8 (by decide) (Or.inr (Or.inr (Or.inr (Or.inr (Or.inr (Or.inr (Or.inr (Or.inr (Or.inl rfl))))))))) .int (by decide) rfl rfl rfl zwf_Ca_37 zd_Ca_exchange_34 ?_
  refine zg_aload_n F.1 zd_Ca_exchange_37 rfl rfl ?_
  refine zg_getI1 F.1 (by decide) rfl 4 (by decide) (st 1 4) rfl ((zp_q _ _ (zw_kne k0 (by decide))).trans (zp_q _ _ (zw_kne k0 (by decide)))) zwf_Ca_46 zd_Ca_exchange_38 ?_
  refine zg_if_ne F.1 107 zd_Ca_exchange_41 rfl (fun hc => ?_) (fun hc => ?_)
  · rw [if_neg hc] at h
    refine zg_iload_n F.1 zd_Ca_exchange_107 rfl rfl ?_
    refine zg_if_ne F.1 124 zd_Ca_exchange_108 rfl (fun hc => ?_) (fun hc => ?_)
    · rw [if_neg hc] at h
      exact zg_le (zw_len (zw_len (zw_len (zw_les zw_le0)))) (zl_Ca_exchange_124 F (zp (zp st a0 10 ((st a0 8) &&& (st 3 (((st a0 0) / 2).toNatClampNeg)))) a0 8 ((st a0 8) &&& (((st a0 8) &&& (st 3 (((st a0 0) / 2).toNatClampNeg))) ^^^ (-1)))) h)
    · rw [if_pos hc] at h
      refine zg_aload_n F.1 zd_Ca_exchange_111 rfl rfl ?_
      refine zg_aload_n F.1 zd_Ca_exchange_112 rfl rfl ?_
      refine zg_getI2 F.1 (by decide) k0 8 (by decide) ((st a0 8) &&& (((st a0 8) &&& (st 3 (((st a0 0) / 2).toNatClampNeg))) ^^^ (-1))) rfl (zp_s _ _ _ _) zwf_Ca_37 zd_Ca_exchange_113 ?_
      refine zg_putI2 F.1 (by decide) k0 11 (by decide) (Or.inr (Or.inr (Or.inr (Or.inr (Or.inr (Or.inr (Or.inr (Or.inr (Or.inr (Or.inr (Or.inr (Or.inl rfl)))))))))))) .int (by decide) rfl rfl rfl zwf_Ca_100 zd_Ca_exchange_116 ?_
      refine zg_aload_n F.1 zd_Ca_exchange_119 rfl rfl ?_
      refine zg_iconst F.1 0 0 (by decide) zd_Ca_exchange_120 ?_
      refine zg_putI2 F.1 (by decide) k0 8 (by decide) (Or.inr (Or.inr (Or.inr (Or.inr (Or.inr (Or.inr (Or.inr (Or.inr (Or.inl rfl))))))))) .int (by decide) rfl rfl rfl zwf_Ca_37 zd_Ca_exchange_121 ?_
      exact zg_le (zw_len (zw_len (zw_len (zw_les zw_le0)))) (zl_Ca_exchange_124 F (zp (zp (zp (zp st a0 10 ((st a0 8) &&& (st 3 (((st a0 0) / 2).toNatClampNeg)))) a0 8 ((st a0 8) &&& (((st a0 8) &&& (st 3 (((st a0 0) / 2).toNatClampNeg))) ^^^ (-1)))) a0 11 ((st a0 8) &&& (((st a0 8) &&& (st 3 (((st a0 0) / 2).toNatClampNeg))) ^^^ (-1)))) a0 8 0) h)
  · rw [if_pos hc] at h
    refine zg_aload_n F.1 zd_Ca_exchange_44 rfl rfl ?_
    refine zg_getI1 F.1 (by decide) rfl 3 (by decide) (st 1 3) rfl ((zp_q _ _ (zw_kne k0 (by decide))).trans (zp_q _ _ (zw_kne k0 (by decide)))) zwf_Ca_61 zd_Ca_exchange_45 ?_
    refine zg_aload_n F.1 zd_Ca_exchange_48 rfl rfl ?_
    refine zg_getI2 F.1 (by decide) k0 8 (by decide) ((st a0 8) &&& (((st a0 8) &&& (st 3 (((st a0 0) / 2).toNatClampNeg))) ^^^ (-1))) rfl (zp_s _ _ _ _) zwf_Ca_37 zd_Ca_exchange_49 ?_
    obtain ⟨y52, hc52, h⟩ := Option.bind_eq_some_iff.mp h
    refine zg_callS F (As := [.int ((st a0 8) &&& (((st a0 8) &&& (st 3 (((st a0 0) / 2).toNatClampNeg))) ^^^ (-1)))]) (rest := [.int (st 1 3)]) (zk_In_bitCount F.1.2.2 N ((st a0 8) &&& (((st a0 8) &&& (st 3 (((st a0 0) / 2).toNatClampNeg))) ^^^ (-1))) (zp (zp st a0 10 ((st a0 8) &&& (st 3 (((st a0 0) / 2).toNatClampNeg)))) a0 8 ((st a0 8) &&& (((st a0 8) &&& (st 3 (((st a0 0) / 2).toNatClampNeg))) ^^^ (-1)))) hc52) rfl rfl zcal_In_bitCount zml_Ca_55 ⟨(Nat.le_of_ble_eq_true rfl), (Nat.le_of_ble_eq_true rfl)⟩ rfl (Nat.le_of_ble_eq_true rfl) ⟨(Nat.le_of_ble_eq_true rfl), (Nat.le_of_ble_eq_true rfl)⟩ zd_Ca_exchange_52 ?_
    refine zg_isub F.1 zd_Ca_exchange_55 ?_
    refine zg_istore_n F.1 [some (.ref a0), some (.ref 1), some (.int ((st a0 0) / 2)), some (.int ((st 1 3) - y52.1))] zd_Ca_exchange_56 rfl (by decide) rfl ?_
    refine zg_aload_n F.1 zd_Ca_exchange_57 rfl rfl ?_
    refine zg_aload_n F.1 zd_Ca_exchange_58 rfl rfl ?_
    refine zg_getI2 F.1 (by decide) k0 9 (by decide) (y52.2 a0 9) rfl rfl zwf_Ca_40 zd_Ca_exchange_59 ?_
    refine zg_aload_n F.1 zd_Ca_exchange_62 rfl rfl ?_
    refine zg_getR1 F.1 (by decide) rfl 0 (by decide) 2 rfl zwf_Ca_71 zd_Ca_exchange_63 ?_
    refine zg_iload_n F.1 zd_Ca_exchange_66 rfl rfl ?_
    by_cases hi67 : ((st a0 0) / 2) < 0 ∨ 10 ≤ ((st a0 0) / 2).toNatClampNeg
    case pos => rw [if_pos hi67] at h; cases h
    rw [if_neg hi67] at h
    refine zg_ald5 F.1 (by decide) rfl hi67 (((st a0 0) / 2).toNatClampNeg) rfl (y52.2 2 (((st a0 0) / 2).toNatClampNeg)) rfl zd_Ca_exchange_67 ?_
    refine zg_iand F.1 zd_Ca_exchange_68 ?_
    refine zg_iload_n F.1 zd_Ca_exchange_69 rfl rfl ?_
    obtain ⟨y70, hc70, h⟩ := Option.bind_eq_some_iff.mp h
    refine zg_callS F (As := [.int ((y52.2 a0 9) &&& (y52.2 2 (((st a0 0) / 2).toNatClampNeg))), .int ((st 1 3) - y52.1)]) (rest := [.ref a0]) (zk_Ca_firstOf F.1.2.2 N ((y52.2 a0 9) &&& (y52.2 2 (((st a0 0) / 2).toNatClampNeg))) ((st 1 3) - y52.1) y52.2 hc70) rfl rfl zcal_Ca_firstOf zml_Ca_113 ⟨(Nat.le_of_ble_eq_true rfl), (Nat.le_of_ble_eq_true rfl)⟩ rfl (Nat.le_of_ble_eq_true rfl) ⟨(Nat.le_of_ble_eq_true rfl), (Nat.le_of_ble_eq_true rfl)⟩ zd_Ca_exchange_70 ?_
    refine zg_putI2 F.1 (by decide) k0 12 (by decide) (Or.inr (Or.inr (Or.inr (Or.inr (Or.inr (Or.inr (Or.inr (Or.inr (Or.inr (Or.inr (Or.inr (Or.inr rfl)))))))))))) .int (by decide) rfl rfl rfl zwf_Ca_103 zd_Ca_exchange_73 ?_
    refine zg_aload_n F.1 zd_Ca_exchange_76 rfl rfl ?_
    refine zg_dup F.1 zd_Ca_exchange_77 rfl ?_
    refine zg_getI2 F.1 (by decide) k0 8 (by decide) (y70.2 a0 8) rfl (zp_o _ _ (by decide)) zwf_Ca_37 zd_Ca_exchange_78 ?_
    refine zg_aload_n F.1 zd_Ca_exchange_81 rfl rfl ?_
    refine zg_getI2 F.1 (by decide) k0 12 (by decide) y70.1 rfl (zp_s _ _ _ _) zwf_Ca_103 zd_Ca_exchange_82 ?_
    refine zg_ior F.1 zd_Ca_exchange_85 ?_
    refine zg_putI2 F.1 (by decide) k0 8 (by decide) (Or.inr (Or.inr (Or.inr (Or.inr (Or.inr (Or.inr (Or.inr (Or.inr (Or.inl rfl))))))))) .int (by decide) rfl rfl rfl zwf_Ca_37 zd_Ca_exchange_86 ?_
    refine zg_aload_n F.1 zd_Ca_exchange_89 rfl rfl ?_
    refine zg_dup F.1 zd_Ca_exchange_90 rfl ?_
    refine zg_getI2 F.1 (by decide) k0 9 (by decide) (y70.2 a0 9) rfl ((zp_o _ _ (by decide)).trans (zp_o _ _ (by decide))) zwf_Ca_40 zd_Ca_exchange_91 ?_
    refine zg_aload_n F.1 zd_Ca_exchange_94 rfl rfl ?_
    refine zg_getI2 F.1 (by decide) k0 12 (by decide) y70.1 rfl ((zp_o _ _ (by decide)).trans (zp_s _ _ _ _)) zwf_Ca_103 zd_Ca_exchange_95 ?_
    refine zg_iconst F.1 (-1) (-1) (by decide) zd_Ca_exchange_98 ?_
    refine zg_ixor F.1 zd_Ca_exchange_99 ?_
    refine zg_iand F.1 zd_Ca_exchange_100 ?_
    refine zg_putI2 F.1 (by decide) k0 9 (by decide) (Or.inr (Or.inr (Or.inr (Or.inr (Or.inr (Or.inr (Or.inr (Or.inr (Or.inr (Or.inl rfl)))))))))) .int (by decide) rfl rfl rfl zwf_Ca_40 zd_Ca_exchange_101 ?_
    refine zg_goto F.1 124 zd_Ca_exchange_104 rfl ?_
    exact zg_le (zw_len (zw_len (zw_len (zw_len zw_le0)))) (zl_Ca_exchange_124 F (zp (zp (zp y70.2 a0 12 y70.1) a0 8 ((y70.2 a0 8) ||| y70.1)) a0 9 ((y70.2 a0 9) &&& (y70.1 ^^^ (-1)))) h)
theorem zk_Ca_exchange {E : zE} (hn : zw_n E 10) (N : Nat) (a0 : Nat) (st : zS) (k0 : zw_kind a0 = 2) {rst : zS} (h : zf_Ca_exchange N a0 st = some rst) : zw_M l zy_Ca_exchange (Cond.code zy_Ca_exchange zo_Ca_exchange 4 none :: zwAll) zrm_Ca_exchange E [.ref a0, .ref 1] st none rst :=
  zw_enter (by decide) rfl hn (Nat.le_of_ble_eq_true rfl) (by simp [Value.category]) 2 (fun p e s m args below meth c A F => zl_Ca_exchange_0 F a0 st k0 h)
theorem zcal_Ca_stopSet : zw_cal zR2 zy_Ca_stopSet zo_Ca_stopSet 5 (some .int) 1 := ⟨zw_at 317 rfl rfl, zw_at 318 rfl rfl, zw_at 49 rfl rfl, zw_at 319 rfl rfl, rfl, by decide, by decide, by decide +kernel⟩
theorem zml_Ca_74 : Cond.methodLink zR2 74 zy_Ca_stopSet ∈ zwAll := zw_at 316 rfl rfl
theorem zcal_Ca_openOrMove : zw_cal zR2 zy_Ca_openOrMove zo_Ca_openOrMove 2 none 1 := ⟨zw_at 329 rfl rfl, zw_at 9 rfl rfl, zw_at 49 rfl rfl, zw_at 330 rfl rfl, rfl, by decide, by decide, by decide +kernel⟩
theorem zml_Ca_78 : Cond.methodLink zR2 78 zy_Ca_openOrMove ∈ zwAll := zw_at 327 rfl rfl
theorem zcal_Ca_exchange : zw_cal zR2 zy_Ca_exchange zo_Ca_exchange 4 none 1 := ⟨zw_at 345 rfl rfl, zw_at 13 rfl rfl, zw_at 49 rfl rfl, zw_at 346 rfl rfl, rfl, by decide, by decide, by decide +kernel⟩
theorem zml_Ca_86 : Cond.methodLink zR2 86 zy_Ca_exchange ∈ zwAll := zw_at 343 rfl rfl
theorem zcal_Ca_stayOpen : zw_cal zR2 zy_Ca_stayOpen zo_Ca_stayOpen 3 none 1 := ⟨zw_at 352 rfl rfl, zw_at 14 rfl rfl, zw_at 49 rfl rfl, zw_at 353 rfl rfl, rfl, by decide, by decide, by decide +kernel⟩
theorem zml_Ca_90 : Cond.methodLink zR2 90 zy_Ca_stayOpen ∈ zwAll := zw_at 350 rfl rfl
theorem zcal_Ca_shutFurther : zw_cal zR2 zy_Ca_shutFurther zo_Ca_shutFurther 1 none 0 := ⟨zw_at 356 rfl rfl, zw_at 15 rfl rfl, zw_at 49 rfl rfl, zw_at 357 rfl rfl, rfl, by decide, by decide, by decide +kernel⟩
theorem zml_Ca_94 : Cond.methodLink zR2 94 zy_Ca_shutFurther ∈ zwAll := zw_at 354 rfl rfl
/-! LiftGroup$Car.advance(LLiftGroup$House;)V -/
abbrev zrm_Ca_advance : Room := { frames := 2, cells := 0, slots := 0, locals := 47 }
def zf_Ca_advance_146 (N : Nat)   (st : zS) : Option zS := some st
set_option maxHeartbeats 4000000 in
theorem zl_Ca_advance_146 (F : zw_X p m c zo_Ca_advance 2 s args zR2 E 10 A meth none) {N : Nat} {rst : zS}    (st : zS)  (h : zf_Ca_advance_146 N   st = some rst) : zw_G p l e zrm_Ca_advance s m args below meth c (MQ below (zw_Q E none rst A) args s 0 0 A) E A 2 0 146 [none, none] [] st := by
  unfold zf_Ca_advance_146 at h
  cases h
  exact zg_vret F zd_Ca_advance_146
def zf_Ca_advance_113 (N : Nat)  (s0 : Int32) (s1 : Nat) (st : zS) : Option zS := ((zf_Ca_stayOpen N s1 s0 st).bind fun t113 => zf_Ca_advance_146 N t113)
set_option maxHeartbeats 4000000 in
theorem zl_Ca_advance_113 (F : zw_X p m c zo_Ca_advance 2 s args zR2 E 10 A meth none) {N : Nat} {rst : zS}   (s0 : Int32) (s1 : Nat) (st : zS) (h1 : zw_kind s1 = 2) (h : zf_Ca_advance_113 N  s0 s1 st = some rst) : zw_G p l e zrm_Ca_advance s m args below meth c (MQ below (zw_Q E none rst A) args s 0 0 A) E A 2 0 113 [none, none] [.int s0, .ref s1] st := by
  unfold zf_Ca_advance_113 at h
  obtain ⟨t113, hc113, h⟩ := Option.bind_eq_some_iff.mp h
  refine zg_callV F (As := [.int s0]) (rest := []) (zk_Ca_stayOpen F.1.2.2 N s1 s0 st h1 hc113) rfl rfl zcal_Ca_stayOpen zml_Ca_90 ⟨(Nat.le_of_ble_eq_true rfl), (Nat.le_of_ble_eq_true rfl)⟩ (zg_rec2 F.1 (by decide) h1) rfl (Nat.le_of_ble_eq_true rfl) ⟨(Nat.le_of_ble_eq_true rfl), (Nat.le_of_ble_eq_true rfl)⟩ zd_Ca_advance_113 ?_
  refine zg_goto F.1 146 zd_Ca_advance_116 rfl ?_
  exact zl_Ca_advance_146 F t113 h
def zf_Ca_advance_112 (N : Nat)  (s0 : Nat) (st : zS) : Option zS := zf_Ca_advance_113 N 0 s0 st
set_option maxHeartbeats 4000000 in
theorem zl_Ca_advance_112 (F : zw_X p m c zo_Ca_advance 2 s args zR2 E 10 A meth none) {N : Nat} {rst : zS}   (s0 : Nat) (st : zS) (h0 : zw_kind s0 = 2) (h : zf_Ca_advance_112 N  s0 st = some rst) : zw_G p l e zrm_Ca_advance s m args below meth c (MQ below (zw_Q E none rst A) args s 0 0 A) E A 2 0 112 [none, none] [.ref s0] st := by
  unfold zf_Ca_advance_112 at h
  refine zg_iconst F.1 0 0 (by decide) zd_Ca_advance_112 ?_
  exact zl_Ca_advance_113 F 0 s0 st h0 h
def zf_Ca_advance (N : Nat) (a0 : Nat) (st : zS) : Option zS := ((zf_Ca_forgetMoved N a0 st).bind fun t1 => (if (t1 a0 2) = 0 then ((zf_Ca_stopSet N a0 t1).bind fun y43 => ((zf_Ca_openOrMove N a0 y43.1 y43.2).bind fun t46 => zf_Ca_advance_146 N t46)) else (if (t1 a0 2) = 1 then (if ((t1 a0 3) - 1) = 0 then ((zf_Ca_turnDoor N a0 2 4 (zp t1 a0 3 ((t1 a0 3) - 1))).bind fun t72 => ((zf_Ca_exchange N a0 (zp t72 a0 4 0)).bind fun t82 => zf_Ca_advance_146 N t82)) else zf_Ca_advance_146 N (zp t1 a0 3 ((t1 a0 3) - 1))) else (if (t1 a0 2) = 2 then ((zf_Ca_exchange N a0 t1).bind fun t90 => (if (t90 1 4) = 0 then zf_Ca_advance_112 N a0 t90 else (if (t90 a0 0) = 0 then zf_Ca_advance_113 N 1 a0 t90 else zf_Ca_advance_112 N a0 t90))) else (if (t1 a0 2) = 3 then (if (t1 a0 7) = 0 then ((zf_Ca_shutFurther N a0 t1).bind fun t136 => zf_Ca_advance_146 N t136) else ((zf_Ca_turnDoor N a0 1 3 t1).bind fun t129 => zf_Ca_advance_146 N t129)) else ((zf_Ca_shutFurther N a0 t1).bind fun t143 => zf_Ca_advance_146 N t143))))))
set_option maxHeartbeats 4000000 in
theorem zl_Ca_advance_0 (F : zw_X p m c zo_Ca_advance 2 s args zR2 E 10 A meth none) {N : Nat} {rst : zS} (a0 : Nat) (st : zS) (k0 : zw_kind a0 = 2) (h : zf_Ca_advance N a0 st = some rst) : zw_G p l e zrm_Ca_advance s m args below meth c (MQ below (zw_Q E none rst A) args s 0 0 A) E A 2 0 0 [some (.ref a0), some (.ref 1)] [] st := by
  unfold zf_Ca_advance at h
  refine zg_aload_n F.1 zd_Ca_advance_0 rfl rfl ?_
  obtain ⟨t1, hc1, h⟩ := Option.bind_eq_some_iff.mp h
  refine zg_callV F (As := []) (rest := []) (zk_Ca_forgetMoved F.1.2.2 N a0 st k0 hc1) rfl rfl zcal_Ca_forgetMoved zml_Ca_43 ⟨(Nat.le_of_ble_eq_true rfl), (Nat.le_of_ble_eq_true rfl)⟩ (zg_rec2 F.1 (by decide) k0) rfl (Nat.le_of_ble_eq_true rfl) ⟨(Nat.le_of_ble_eq_true rfl), (Nat.le_of_ble_eq_true rfl)⟩ zd_Ca_advance_1 ?_
  refine zg_aload_n F.1 zd_Ca_advance_4 rfl rfl ?_
  refine zg_getI2 F.1 (by decide) k0 2 (by decide) (t1 a0 2) rfl rfl zwf_Ca_18 zd_Ca_advance_5 ?_
  by_cases hc0 : (t1 a0 2) = 0
  · rw [if_pos hc0] at h
    refine zg_tabIn F.1 40 zd_Ca_advance_8 (by rw [hc0]; decide) (by rw [hc0]; decide) (by rw [hc0]; rfl) rfl ?_
    refine zg_aload_n F.1 zd_Ca_advance_40 rfl rfl ?_
    refine zg_aload_n F.1 zd_Ca_advance_41 rfl rfl ?_
    refine zg_aload_n F.1 zd_Ca_advance_42 rfl rfl ?_
    obtain ⟨y43, hc43, h⟩ := Option.bind_eq_some_iff.mp h
    refine zg_callV F (As := [.ref 1]) (rest := [.ref a0]) (zk_Ca_stopSet F.1.2.2 N a0 t1 k0 hc43) rfl rfl zcal_Ca_stopSet zml_Ca_74 ⟨(Nat.le_of_ble_eq_true rfl), (Nat.le_of_ble_eq_true rfl)⟩ (zg_rec2 F.1 (by decide) k0) rfl (Nat.le_of_ble_eq_true rfl) ⟨(Nat.le_of_ble_eq_true rfl), (Nat.le_of_ble_eq_true rfl)⟩ zd_Ca_advance_43 ?_
    obtain ⟨t46, hc46, h⟩ := Option.bind_eq_some_iff.mp h
    refine zg_callV F (As := [.int y43.1]) (rest := []) (zk_Ca_openOrMove F.1.2.2 N a0 y43.1 y43.2 k0 hc46) rfl rfl zcal_Ca_openOrMove zml_Ca_78 ⟨(Nat.le_of_ble_eq_true rfl), (Nat.le_of_ble_eq_true rfl)⟩ (zg_rec2 F.1 (by decide) k0) rfl (Nat.le_of_ble_eq_true rfl) ⟨(Nat.le_of_ble_eq_true rfl), (Nat.le_of_ble_eq_true rfl)⟩ zd_Ca_advance_46 ?_
    refine zg_goto F.1 146 zd_Ca_advance_49 rfl ?_
    exact zg_le (zw_len (zw_len zw_le0)) (zl_Ca_advance_146 F t46 h)
  · rw [if_neg hc0] at h
    by_cases hc1 : (t1 a0 2) = 1
    · rw [if_pos hc1] at h
      refine zg_tabIn F.1 52 zd_Ca_advance_8 (by rw [hc1]; decide) (by rw [hc1]; decide) (by rw [hc1]; rfl) rfl ?_
      refine zg_aload_n F.1 zd_Ca_advance_52 rfl rfl ?_
      refine zg_dup F.1 zd_Ca_advance_53 rfl ?_
      refine zg_getI2 F.1 (by decide) k0 3 (by decide) (t1 a0 3) rfl rfl zwf_Ca_21 zd_Ca_advance_54 ?_
      refine zg_iconst F.1 1 1 (by decide) zd_Ca_advance_57 ?_
      refine zg_isub F.1 zd_Ca_advance_58 ?_
      refine zg_putI2 F.1 (by decide) k0 3 (by decide) (Or.inr (Or.inr (Or.inr (Or.inl rfl)))) .int (by decide) rfl rfl rfl zwf_Ca_21 zd_Ca_advance_59 ?_
      refine zg_aload_n F.1 zd_Ca_advance_62 rfl rfl ?_
      refine zg_getI2 F.1 (by decide) k0 3 (by decide) ((t1 a0 3) - 1) rfl (zp_s _ _ _ _) zwf_Ca_21 zd_Ca_advance_63 ?_
      refine zg_if_ne F.1 146 zd_Ca_advance_66 rfl (fun hc => ?_) (fun hc => ?_)
      · rw [if_neg hc] at h
        exact zg_le (zw_len (zw_len zw_le0)) (zl_Ca_advance_146 F (zp t1 a0 3 ((t1 a0 3) - 1)) h)
      · rw [if_pos hc] at h
        refine zg_aload_n F.1 zd_Ca_advance_69 rfl rfl ?_
        refine zg_iconst F.1 2 2 (by decide) zd_Ca_advance_70 ?_
        refine zg_iconst F.1 4 4 (by decide) zd_Ca_advance_71 ?_
        obtain ⟨t72, hc72, h⟩ := Option.bind_eq_some_iff.mp h
        refine zg_callV F (As := [.int 2, .int 4]) (rest := []) (zk_Ca_turnDoor F.1.2.2 N a0 2 4 (zp t1 a0 3 ((t1 a0 3) - 1)) k0 hc72) rfl rfl zcal_Ca_turnDoor zml_Ca_82 ⟨(Nat.le_of_ble_eq_true rfl), (Nat.le_of_ble_eq_true rfl)⟩ (zg_rec2 F.1 (by decide) k0) rfl (Nat.le_of_ble_eq_true rfl) ⟨(Nat.le_of_ble_eq_true rfl), (Nat.le_of_ble_eq_true rfl)⟩ zd_Ca_advance_72 ?_
        refine zg_aload_n F.1 zd_Ca_advance_75 rfl rfl ?_
        refine zg_iconst F.1 0 0 (by decide) zd_Ca_advance_76 ?_
        refine zg_putI2 F.1 (by decide) k0 4 (by decide) (Or.inr (Or.inr (Or.inr (Or.inr (Or.inl rfl))))) .int (by decide) rfl rfl rfl zwf_Ca_24 zd_Ca_advance_77 ?_
        refine zg_aload_n F.1 zd_Ca_advance_80 rfl rfl ?_
        refine zg_aload_n F.1 zd_Ca_advance_81 rfl rfl ?_
        obtain ⟨t82, hc82, h⟩ := Option.bind_eq_some_iff.mp h
        refine zg_callV F (As := [.ref 1]) (rest := []) (zk_Ca_exchange F.1.2.2 N a0 (zp t72 a0 4 0) k0 hc82) rfl rfl zcal_Ca_exchange zml_Ca_86 ⟨(Nat.le_of_ble_eq_true rfl), (Nat.le_of_ble_eq_true rfl)⟩ (zg_rec2 F.1 (by decide) k0) rfl (Nat.le_of_ble_eq_true rfl) ⟨(Nat.le_of_ble_eq_true rfl), (Nat.le_of_ble_eq_true rfl)⟩ zd_Ca_advance_82 ?_
        refine zg_goto F.1 146 zd_Ca_advance_85 rfl ?_
        exact zg_le (zw_len (zw_len zw_le0)) (zl_Ca_advance_146 F t82 h)
    · rw [if_neg hc1] at h
      by_cases hc2 : (t1 a0 2) = 2
      · rw [if_pos hc2] at h
        refine zg_tabIn F.1 88 zd_Ca_advance_8 (by rw [hc2]; decide) (by rw [hc2]; decide) (by rw [hc2]; rfl) rfl ?_
        refine zg_aload_n F.1 zd_Ca_advance_88 rfl rfl ?_
        refine zg_aload_n F.1 zd_Ca_advance_89 rfl rfl ?_
        obtain ⟨t90, hc90, h⟩ := Option.bind_eq_some_iff.mp h
        refine zg_callV F (As := [.ref 1]) (rest := []) (zk_Ca_exchange F.1.2.2 N a0 t1 k0 hc90) rfl rfl zcal_Ca_exchange zml_Ca_86 ⟨(Nat.le_of_ble_eq_true rfl), (Nat.le_of_ble_eq_true rfl)⟩ (zg_rec2 F.1 (by decide) k0) rfl (Nat.le_of_ble_eq_true rfl) ⟨(Nat.le_of_ble_eq_true rfl), (Nat.le_of_ble_eq_true rfl)⟩ zd_Ca_advance_90 ?_
        refine zg_aload_n F.1 zd_Ca_advance_93 rfl rfl ?_
        refine zg_aload_n F.1 zd_Ca_advance_94 rfl rfl ?_
        refine zg_getI1 F.1 (by decide) rfl 4 (by decide) (t90 1 4) rfl rfl zwf_Ca_46 zd_Ca_advance_95 ?_
        refine zg_if_eq F.1 112 zd_Ca_advance_98 rfl (fun hc => ?_) (fun hc => ?_)
        · rw [if_pos hc] at h
          exact zg_le (zw_len (zw_len zw_le0)) (zl_Ca_advance_112 F a0 t90 k0 h)
        · rw [if_neg hc] at h
          refine zg_aload_n F.1 zd_Ca_advance_101 rfl rfl ?_
          refine zg_getI2 F.1 (by decide) k0 0 (by decide) (t90 a0 0) rfl rfl zwf_Ca_9 zd_Ca_advance_102 ?_
          refine zg_if_ne F.1 112 zd_Ca_advance_105 rfl (fun hc => ?_) (fun hc => ?_)
          · rw [if_neg hc] at h
            exact zg_le (zw_len (zw_len zw_le0)) (zl_Ca_advance_112 F a0 t90 k0 h)
          · rw [if_pos hc] at h
            refine zg_iconst F.1 1 1 (by decide) zd_Ca_advance_108 ?_
            refine zg_goto F.1 113 zd_Ca_advance_109 rfl ?_
            exact zg_le (zw_len (zw_len zw_le0)) (zl_Ca_advance_113 F 1 a0 t90 k0 h)
      · rw [if_neg hc2] at h
        by_cases hc3 : (t1 a0 2) = 3
        · rw [if_pos hc3] at h
          refine zg_tabIn F.1 119 zd_Ca_advance_8 (by rw [hc3]; decide) (by rw [hc3]; decide) (by rw [hc3]; rfl) rfl ?_
          refine zg_aload_n F.1 zd_Ca_advance_119 rfl rfl ?_
          refine zg_getI2 F.1 (by decide) k0 7 (by decide) (t1 a0 7) rfl rfl zwf_Ca_34 zd_Ca_advance_120 ?_
          refine zg_if_eq F.1 135 zd_Ca_advance_123 rfl (fun hc => ?_) (fun hc => ?_)
          · rw [if_pos hc] at h
            refine zg_aload_n F.1 zd_Ca_advance_135 rfl rfl ?_
            obtain ⟨t136, hc136, h⟩ := Option.bind_eq_some_iff.mp h
            refine zg_callV F (As := []) (rest := []) (zk_Ca_shutFurther F.1.2.2 N a0 t1 k0 hc136) rfl rfl zcal_Ca_shutFurther zml_Ca_94 ⟨(Nat.le_of_ble_eq_true rfl), (Nat.le_of_ble_eq_true rfl)⟩ (zg_rec2 F.1 (by decide) k0) rfl (Nat.le_of_ble_eq_true rfl) ⟨(Nat.le_of_ble_eq_true rfl), (Nat.le_of_ble_eq_true rfl)⟩ zd_Ca_advance_136 ?_
            refine zg_goto F.1 146 zd_Ca_advance_139 rfl ?_
            exact zg_le (zw_len (zw_len zw_le0)) (zl_Ca_advance_146 F t136 h)
          · rw [if_neg hc] at h
            refine zg_aload_n F.1 zd_Ca_advance_126 rfl rfl ?_
            refine zg_iconst F.1 1 1 (by decide) zd_Ca_advance_127 ?_
            refine zg_iconst F.1 3 3 (by decide) zd_Ca_advance_128 ?_
            obtain ⟨t129, hc129, h⟩ := Option.bind_eq_some_iff.mp h
            refine zg_callV F (As := [.int 1, .int 3]) (rest := []) (zk_Ca_turnDoor F.1.2.2 N a0 1 3 t1 k0 hc129) rfl rfl zcal_Ca_turnDoor zml_Ca_82 ⟨(Nat.le_of_ble_eq_true rfl), (Nat.le_of_ble_eq_true rfl)⟩ (zg_rec2 F.1 (by decide) k0) rfl (Nat.le_of_ble_eq_true rfl) ⟨(Nat.le_of_ble_eq_true rfl), (Nat.le_of_ble_eq_true rfl)⟩ zd_Ca_advance_129 ?_
            refine zg_goto F.1 146 zd_Ca_advance_132 rfl ?_
            exact zg_le (zw_len (zw_len zw_le0)) (zl_Ca_advance_146 F t129 h)
        · rw [if_neg hc3] at h
          refine zg_tabOut F.1 142 zd_Ca_advance_8 (zw_sw0_3 hc0 hc1 hc2 hc3) rfl ?_
          refine zg_aload_n F.1 zd_Ca_advance_142 rfl rfl ?_
          obtain ⟨t143, hc143, h⟩ := Option.bind_eq_some_iff.mp h
          refine zg_callV F (As := []) (rest := []) (zk_Ca_shutFurther F.1.2.2 N a0 t1 k0 hc143) rfl rfl zcal_Ca_shutFurther zml_Ca_94 ⟨(Nat.le_of_ble_eq_true rfl), (Nat.le_of_ble_eq_true rfl)⟩ (zg_rec2 F.1 (by decide) k0) rfl (Nat.le_of_ble_eq_true rfl) ⟨(Nat.le_of_ble_eq_true rfl), (Nat.le_of_ble_eq_true rfl)⟩ zd_Ca_advance_143 ?_
          exact zg_le (zw_len (zw_len zw_le0)) (zl_Ca_advance_146 F t143 h)
theorem zk_Ca_advance {E : zE} (hn : zw_n E 10) (N : Nat) (a0 : Nat) (st : zS) (k0 : zw_kind a0 = 2) {rst : zS} (h : zf_Ca_advance N a0 st = some rst) : zw_M l zy_Ca_advance (Cond.code zy_Ca_advance zo_Ca_advance 2 none :: zwAll) zrm_Ca_advance E [.ref a0, .ref 1] st none rst :=
  zw_enter (by decide) rfl hn (Nat.le_of_ble_eq_true rfl) (by simp [Value.category]) 0 (fun p e s m args below meth c A F => zl_Ca_advance_0 F a0 st k0 h)
end ZC3
end
section
abbrev zo_Ho_startAnew : ByteArray := prog_3_method_2_code
abbrev zy_Ho_startAnew : MethodName := ⟨"LiftGroup$House", "startAnew", "(II)V"⟩
theorem zd_Ho_startAnew_0 : decode zo_Ho_startAnew 0 = .ok (.aload_n 0, 1) := by decide +kernel
theorem zd_Ho_startAnew_1 : decode zo_Ho_startAnew 1 = .ok (.iload_n 1, 1) := by decide +kernel
theorem zd_Ho_startAnew_2 : decode zo_Ho_startAnew 2 = .ok (.putfield 18, 3) := by decide +kernel
theorem zd_Ho_startAnew_5 : decode zo_Ho_startAnew 5 = .ok (.aload_n 0, 1) := by decide +kernel
theorem zd_Ho_startAnew_6 : decode zo_Ho_startAnew 6 = .ok (.iload_n 2, 1) := by decide +kernel
theorem zd_Ho_startAnew_7 : decode zo_Ho_startAnew 7 = .ok (.putfield 22, 3) := by decide +kernel
theorem zd_Ho_startAnew_10 : decode zo_Ho_startAnew 10 = .ok (.aload_n 0, 1) := by decide +kernel
theorem zd_Ho_startAnew_11 : decode zo_Ho_startAnew 11 = .ok (.iconst 0, 1) := by decide +kernel
theorem zd_Ho_startAnew_12 : decode zo_Ho_startAnew 12 = .ok (.putfield 25, 3) := by decide +kernel
theorem zd_Ho_startAnew_15 : decode zo_Ho_startAnew 15 = .ok (.iconst 0, 1) := by decide +kernel
theorem zd_Ho_startAnew_16 : decode zo_Ho_startAnew 16 = .ok (.istore_n 3, 1) := by decide +kernel
theorem zd_Ho_startAnew_17 : decode zo_Ho_startAnew 17 = .ok (.iload_n 3, 1) := by decide +kernel
theorem zd_Ho_startAnew_18 : decode zo_Ho_startAnew 18 = .ok (.bipush 10, 2) := by decide +kernel
theorem zd_Ho_startAnew_20 : decode zo_Ho_startAnew 20 = .ok (.if_icmp .ge 23, 3) := by decide +kernel
theorem zd_Ho_startAnew_23 : decode zo_Ho_startAnew 23 = .ok (.aload_n 0, 1) := by decide +kernel
theorem zd_Ho_startAnew_24 : decode zo_Ho_startAnew 24 = .ok (.getfield 9, 3) := by decide +kernel
theorem zd_Ho_startAnew_27 : decode zo_Ho_startAnew 27 = .ok (.iload_n 3, 1) := by decide +kernel
theorem zd_Ho_startAnew_28 : decode zo_Ho_startAnew 28 = .ok (.iconst 0, 1) := by decide +kernel
theorem zd_Ho_startAnew_29 : decode zo_Ho_startAnew 29 = .ok (.iastore, 1) := by decide +kernel
theorem zd_Ho_startAnew_30 : decode zo_Ho_startAnew 30 = .ok (.aload_n 0, 1) := by decide +kernel
theorem zd_Ho_startAnew_31 : decode zo_Ho_startAnew 31 = .ok (.getfield 15, 3) := by decide +kernel
theorem zd_Ho_startAnew_34 : decode zo_Ho_startAnew 34 = .ok (.iload_n 3, 1) := by decide +kernel
theorem zd_Ho_startAnew_35 : decode zo_Ho_startAnew 35 = .ok (.iconst 0, 1) := by decide +kernel
theorem zd_Ho_startAnew_36 : decode zo_Ho_startAnew 36 = .ok (.iastore, 1) := by decide +kernel
theorem zd_Ho_startAnew_37 : decode zo_Ho_startAnew 37 = .ok (.iinc 3 1, 3) := by decide +kernel
theorem zd_Ho_startAnew_40 : decode zo_Ho_startAnew 40 = .ok (.goto (-23), 3) := by decide +kernel
theorem zd_Ho_startAnew_43 : decode zo_Ho_startAnew 43 = .ok (.return_, 1) := by decide +kernel
abbrev zo_Ho_addRider : ByteArray := prog_3_method_3_code
abbrev zy_Ho_addRider : MethodName := ⟨"LiftGroup$House", "addRider", "(III)V"⟩
theorem zd_Ho_addRider_0 : decode zo_Ho_addRider 0 = .ok (.aload_n 0, 1) := by decide +kernel
theorem zd_Ho_addRider_1 : decode zo_Ho_addRider 1 = .ok (.getfield 9, 3) := by decide +kernel
theorem zd_Ho_addRider_4 : decode zo_Ho_addRider 4 = .ok (.iload_n 2, 1) := by decide +kernel
theorem zd_Ho_addRider_5 : decode zo_Ho_addRider 5 = .ok (.dup2, 1) := by decide +kernel
theorem zd_Ho_addRider_6 : decode zo_Ho_addRider 6 = .ok (.iaload, 1) := by decide +kernel
theorem zd_Ho_addRider_7 : decode zo_Ho_addRider 7 = .ok (.iload_n 1, 1) := by decide +kernel
theorem zd_Ho_addRider_8 : decode zo_Ho_addRider 8 = .ok (.ior, 1) := by decide +kernel
theorem zd_Ho_addRider_9 : decode zo_Ho_addRider 9 = .ok (.iastore, 1) := by decide +kernel
theorem zd_Ho_addRider_10 : decode zo_Ho_addRider 10 = .ok (.aload_n 0, 1) := by decide +kernel
theorem zd_Ho_addRider_11 : decode zo_Ho_addRider 11 = .ok (.getfield 15, 3) := by decide +kernel
theorem zd_Ho_addRider_14 : decode zo_Ho_addRider 14 = .ok (.iload_n 3, 1) := by decide +kernel
theorem zd_Ho_addRider_15 : decode zo_Ho_addRider 15 = .ok (.dup2, 1) := by decide +kernel
theorem zd_Ho_addRider_16 : decode zo_Ho_addRider 16 = .ok (.iaload, 1) := by decide +kernel
theorem zd_Ho_addRider_17 : decode zo_Ho_addRider 17 = .ok (.iload_n 1, 1) := by decide +kernel
theorem zd_Ho_addRider_18 : decode zo_Ho_addRider 18 = .ok (.ior, 1) := by decide +kernel
theorem zd_Ho_addRider_19 : decode zo_Ho_addRider 19 = .ok (.iastore, 1) := by decide +kernel
theorem zd_Ho_addRider_20 : decode zo_Ho_addRider 20 = .ok (.return_, 1) := by decide +kernel
abbrev zo_Ri_begin : ByteArray := prog_5_method_2_code
abbrev zy_Ri_begin : MethodName := ⟨"LiftGroup$Rider", "begin", "(III)V"⟩
theorem zd_Ri_begin_0 : decode zo_Ri_begin 0 = .ok (.aload_n 0, 1) := by decide +kernel
theorem zd_Ri_begin_1 : decode zo_Ri_begin 1 = .ok (.iload_n 1, 1) := by decide +kernel
theorem zd_Ri_begin_2 : decode zo_Ri_begin 2 = .ok (.putfield 9, 3) := by decide +kernel
theorem zd_Ri_begin_5 : decode zo_Ri_begin 5 = .ok (.aload_n 0, 1) := by decide +kernel
theorem zd_Ri_begin_6 : decode zo_Ri_begin 6 = .ok (.iload_n 2, 1) := by decide +kernel
theorem zd_Ri_begin_7 : decode zo_Ri_begin 7 = .ok (.putfield 15, 3) := by decide +kernel
theorem zd_Ri_begin_10 : decode zo_Ri_begin 10 = .ok (.aload_n 0, 1) := by decide +kernel
theorem zd_Ri_begin_11 : decode zo_Ri_begin 11 = .ok (.iconst 0, 1) := by decide +kernel
theorem zd_Ri_begin_12 : decode zo_Ri_begin 12 = .ok (.putfield 18, 3) := by decide +kernel
theorem zd_Ri_begin_15 : decode zo_Ri_begin 15 = .ok (.aload_n 0, 1) := by decide +kernel
theorem zd_Ri_begin_16 : decode zo_Ri_begin 16 = .ok (.iconst (-1), 1) := by decide +kernel
theorem zd_Ri_begin_17 : decode zo_Ri_begin 17 = .ok (.putfield 21, 3) := by decide +kernel
theorem zd_Ri_begin_20 : decode zo_Ri_begin 20 = .ok (.aload_n 0, 1) := by decide +kernel
theorem zd_Ri_begin_21 : decode zo_Ri_begin 21 = .ok (.iload_n 3, 1) := by decide +kernel
theorem zd_Ri_begin_22 : decode zo_Ri_begin 22 = .ok (.putfield 24, 3) := by decide +kernel
theorem zd_Ri_begin_25 : decode zo_Ri_begin 25 = .ok (.aload_n 0, 1) := by decide +kernel
theorem zd_Ri_begin_26 : decode zo_Ri_begin 26 = .ok (.iconst 0, 1) := by decide +kernel
theorem zd_Ri_begin_27 : decode zo_Ri_begin 27 = .ok (.putfield 27, 3) := by decide +kernel
theorem zd_Ri_begin_30 : decode zo_Ri_begin 30 = .ok (.return_, 1) := by decide +kernel
abbrev zo_Ri_ended : ByteArray := prog_5_method_3_code
abbrev zy_Ri_ended : MethodName := ⟨"LiftGroup$Rider", "ended", "()Z"⟩
theorem zd_Ri_ended_0 : decode zo_Ri_ended 0 = .ok (.aload_n 0, 1) := by decide +kernel
theorem zd_Ri_ended_1 : decode zo_Ri_ended 1 = .ok (.getfield 18, 3) := by decide +kernel
theorem zd_Ri_ended_4 : decode zo_Ri_ended 4 = .ok (.iconst 2, 1) := by decide +kernel
theorem zd_Ri_ended_5 : decode zo_Ri_ended 5 = .ok (.if_icmp .eq 11, 3) := by decide +kernel
theorem zd_Ri_ended_8 : decode zo_Ri_ended 8 = .ok (.aload_n 0, 1) := by decide +kernel
theorem zd_Ri_ended_9 : decode zo_Ri_ended 9 = .ok (.getfield 18, 3) := by decide +kernel
theorem zd_Ri_ended_12 : decode zo_Ri_ended 12 = .ok (.iconst 3, 1) := by decide +kernel
theorem zd_Ri_ended_13 : decode zo_Ri_ended 13 = .ok (.if_icmp .ne 7, 3) := by decide +kernel
theorem zd_Ri_ended_16 : decode zo_Ri_ended 16 = .ok (.iconst 1, 1) := by decide +kernel
theorem zd_Ri_ended_17 : decode zo_Ri_ended 17 = .ok (.goto 4, 3) := by decide +kernel
theorem zd_Ri_ended_20 : decode zo_Ri_ended 20 = .ok (.iconst 0, 1) := by decide +kernel
theorem zd_Ri_ended_21 : decode zo_Ri_ended 21 = .ok (.ireturn, 1) := by decide +kernel
abbrev zo_Lo_note : ByteArray := prog_4_method_2_code
abbrev zy_Lo_note : MethodName := ⟨"LiftGroup$Log", "note", "(IIII)V"⟩
theorem zd_Lo_note_0 : decode zo_Lo_note 0 = .ok (.aload_n 0, 1) := by decide +kernel
theorem zd_Lo_note_1 : decode zo_Lo_note 1 = .ok (.getfield 22, 3) := by decide +kernel
theorem zd_Lo_note_4 : decode zo_Lo_note 4 = .ok (.bipush 30, 2) := by decide +kernel
theorem zd_Lo_note_6 : decode zo_Lo_note 6 = .ok (.irem, 1) := by decide +kernel
theorem zd_Lo_note_7 : decode zo_Lo_note 7 = .ok (.istore 5, 2) := by decide +kernel
theorem zd_Lo_note_9 : decode zo_Lo_note 9 = .ok (.aload_n 0, 1) := by decide +kernel
theorem zd_Lo_note_10 : decode zo_Lo_note 10 = .ok (.getfield 9, 3) := by decide +kernel
theorem zd_Lo_note_13 : decode zo_Lo_note 13 = .ok (.iload 5, 2) := by decide +kernel
theorem zd_Lo_note_15 : decode zo_Lo_note 15 = .ok (.iload_n 1, 1) := by decide +kernel
theorem zd_Lo_note_16 : decode zo_Lo_note 16 = .ok (.iastore, 1) := by decide +kernel
theorem zd_Lo_note_17 : decode zo_Lo_note 17 = .ok (.aload_n 0, 1) := by decide +kernel
theorem zd_Lo_note_18 : decode zo_Lo_note 18 = .ok (.getfield 13, 3) := by decide +kernel
theorem zd_Lo_note_21 : decode zo_Lo_note 21 = .ok (.iload 5, 2) := by decide +kernel
theorem zd_Lo_note_23 : decode zo_Lo_note 23 = .ok (.iload_n 2, 1) := by decide +kernel
theorem zd_Lo_note_24 : decode zo_Lo_note 24 = .ok (.iastore, 1) := by decide +kernel
theorem zd_Lo_note_25 : decode zo_Lo_note 25 = .ok (.aload_n 0, 1) := by decide +kernel
theorem zd_Lo_note_26 : decode zo_Lo_note 26 = .ok (.getfield 16, 3) := by decide +kernel
theorem zd_Lo_note_29 : decode zo_Lo_note 29 = .ok (.iload 5, 2) := by decide +kernel
theorem zd_Lo_note_31 : decode zo_Lo_note 31 = .ok (.iload_n 3, 1) := by decide +kernel
theorem zd_Lo_note_32 : decode zo_Lo_note 32 = .ok (.iastore, 1) := by decide +kernel
theorem zd_Lo_note_33 : decode zo_Lo_note 33 = .ok (.aload_n 0, 1) := by decide +kernel
theorem zd_Lo_note_34 : decode zo_Lo_note 34 = .ok (.getfield 19, 3) := by decide +kernel
theorem zd_Lo_note_37 : decode zo_Lo_note 37 = .ok (.iload 5, 2) := by decide +kernel
theorem zd_Lo_note_39 : decode zo_Lo_note 39 = .ok (.iload 4, 2) := by decide +kernel
theorem zd_Lo_note_41 : decode zo_Lo_note 41 = .ok (.iastore, 1) := by decide +kernel
theorem zd_Lo_note_42 : decode zo_Lo_note 42 = .ok (.aload_n 0, 1) := by decide +kernel
theorem zd_Lo_note_43 : decode zo_Lo_note 43 = .ok (.dup, 1) := by decide +kernel
theorem zd_Lo_note_44 : decode zo_Lo_note 44 = .ok (.getfield 22, 3) := by decide +kernel
theorem zd_Lo_note_47 : decode zo_Lo_note 47 = .ok (.iconst 1, 1) := by decide +kernel
theorem zd_Lo_note_48 : decode zo_Lo_note 48 = .ok (.iadd, 1) := by decide +kernel
theorem zd_Lo_note_49 : decode zo_Lo_note 49 = .ok (.putfield 22, 3) := by decide +kernel
theorem zd_Lo_note_52 : decode zo_Lo_note 52 = .ok (.return_, 1) := by decide +kernel
abbrev zo_Lo_keptCount : ByteArray := prog_4_method_3_code
abbrev zy_Lo_keptCount : MethodName := ⟨"LiftGroup$Log", "keptCount", "()I"⟩
theorem zd_Lo_keptCount_0 : decode zo_Lo_keptCount 0 = .ok (.aload_n 0, 1) := by decide +kernel
theorem zd_Lo_keptCount_1 : decode zo_Lo_keptCount 1 = .ok (.getfield 22, 3) := by decide +kernel
theorem zd_Lo_keptCount_4 : decode zo_Lo_keptCount 4 = .ok (.bipush 30, 2) := by decide +kernel
theorem zd_Lo_keptCount_6 : decode zo_Lo_keptCount 6 = .ok (.invokestatic 26, 3) := by decide +kernel
theorem zd_Lo_keptCount_9 : decode zo_Lo_keptCount 9 = .ok (.ireturn, 1) := by decide +kernel
abbrev zo_Lo_placeOf : ByteArray := prog_4_method_4_code
abbrev zy_Lo_placeOf : MethodName := ⟨"LiftGroup$Log", "placeOf", "(I)I"⟩
theorem zd_Lo_placeOf_0 : decode zo_Lo_placeOf 0 = .ok (.aload_n 0, 1) := by decide +kernel
theorem zd_Lo_placeOf_1 : decode zo_Lo_placeOf 1 = .ok (.getfield 22, 3) := by decide +kernel
theorem zd_Lo_placeOf_4 : decode zo_Lo_placeOf 4 = .ok (.aload_n 0, 1) := by decide +kernel
theorem zd_Lo_placeOf_5 : decode zo_Lo_placeOf 5 = .ok (.invokevirtual 32, 3) := by decide +kernel
theorem zd_Lo_placeOf_8 : decode zo_Lo_placeOf 8 = .ok (.isub, 1) := by decide +kernel
theorem zd_Lo_placeOf_9 : decode zo_Lo_placeOf 9 = .ok (.iload_n 1, 1) := by decide +kernel
theorem zd_Lo_placeOf_10 : decode zo_Lo_placeOf 10 = .ok (.iadd, 1) := by decide +kernel
theorem zd_Lo_placeOf_11 : decode zo_Lo_placeOf 11 = .ok (.bipush 30, 2) := by decide +kernel
theorem zd_Lo_placeOf_13 : decode zo_Lo_placeOf 13 = .ok (.irem, 1) := by decide +kernel
theorem zd_Lo_placeOf_14 : decode zo_Lo_placeOf 14 = .ok (.ireturn, 1) := by decide +kernel
section ZC4
variable {p : Program} {l : Launch} {e : Env} {s : State} {m : MethodId} {args : Array Value} {below : List Frame} {meth : Method} {c : Code} {E : zE} {A : Nat → Prop}
theorem zwf_Ho_18 : Cond.fieldLink zR1 18 (zT1 2).1 (zT1 2).2.1 (zT1 2).2.2.1 ∈ zwAll := zw_at 81 rfl rfl
theorem zwf_Ho_22 : Cond.fieldLink zR1 22 (zT1 3).1 (zT1 3).2.1 (zT1 3).2.2.1 ∈ zwAll := zw_at 84 rfl rfl
theorem zwf_Ho_25 : Cond.fieldLink zR1 25 (zT1 4).1 (zT1 4).2.1 (zT1 4).2.2.1 ∈ zwAll := zw_at 86 rfl rfl
theorem zwf_Ho_9 : Cond.fieldLink zR1 9 (zT1 0).1 (zT1 0).2.1 (zT1 0).2.2.1 ∈ zwAll := zw_at 77 rfl rfl
theorem zwf_Ho_15 : Cond.fieldLink zR1 15 (zT1 1).1 (zT1 1).2.1 (zT1 1).2.2.1 ∈ zwAll := zw_at 79 rfl rfl
/-! LiftGroup$House.startAnew(II)V -/
abbrev zrm_Ho_startAnew : Room := { frames := 0, cells := 0, slots := 0, locals := 0 }
def zb_Ho_startAnew_17 (N : Nat) (r17 : Int32 → zS → Option zS) (l3 : Int32) (st : zS) : Option zS := (if 10 ≤ l3 then some st else (if l3 < 0 ∨ 10 ≤ l3.toNatClampNeg then none else (if l3 < 0 ∨ 10 ≤ l3.toNatClampNeg then none else r17 (l3 + 1) (zp (zp st 2 l3.toNatClampNeg 0) 3 l3.toNatClampNeg 0))))
set_option maxHeartbeats 4000000 in
theorem zlb_Ho_startAnew_17 (F : zw_X p m c zo_Ho_startAnew 4 s args zR1 E 10 A meth none) {N : Nat} {rst : zS} {r17 : Int32 → zS → Option zS} (hr17 : ∀ (l3 : Int32) (st : zS) , r17 l3 st = some rst → zw_G p l e zrm_Ho_startAnew s m args below meth c (MQ below (zw_Q E none rst A) args s 0 0 A) E A 4 0 17 [some (.ref 1), none, none, some (.int l3)] [] st) (l3 : Int32) (st : zS)  (h : zb_Ho_startAnew_17 N r17 l3 st = some rst) : zw_G p l e zrm_Ho_startAnew s m args below meth c (MQ below (zw_Q E none rst A) args s 0 0 A) E A 4 0 17 [some (.ref 1), none, none, some (.int l3)] [] st := by
  unfold zb_Ho_startAnew_17 at h
  refine zg_iload_n F.1 zd_Ho_startAnew_17 rfl rfl ?_
  refine zg_bipush F.1 10 10 (by decide) zd_Ho_startAnew_18 ?_
  refine zg_icmp_ge F.1 43 zd_Ho_startAnew_20 rfl (fun hc => ?_) (fun hc => ?_)
  · rw [if_pos hc] at h
    cases h
    exact zg_vret F zd_Ho_startAnew_43
  · rw [if_neg hc] at h
    refine zg_aload_n F.1 zd_Ho_startAnew_23 rfl rfl ?_
    refine zg_getR1 F.1 (by decide) rfl 0 (by decide) 2 rfl zwf_Ho_9 zd_Ho_startAnew_24 ?_
    refine zg_iload_n F.1 zd_Ho_startAnew_27 rfl rfl ?_
    refine zg_iconst F.1 0 0 (by decide) zd_Ho_startAnew_28 ?_
    by_cases hi29 : l3 < 0 ∨ 10 ≤ l3.toNatClampNeg
    case pos => rw [if_pos hi29] at h; cases h
    rw [if_neg hi29] at h
    refine zg_ast5 F.1 (by decide) rfl hi29 l3.toNatClampNeg rfl zd_Ho_startAnew_29 ?_
    refine zg_aload_n F.1 zd_Ho_startAnew_30 rfl rfl ?_
    refine zg_getR1 F.1 (by decide) rfl 1 (by decide) 3 rfl zwf_Ho_15 zd_Ho_startAnew_31 ?_
    refine zg_iload_n F.1 zd_Ho_startAnew_34 rfl rfl ?_
    refine zg_iconst F.1 0 0 (by decide) zd_Ho_startAnew_35 ?_
    by_cases hi36 : l3 < 0 ∨ 10 ≤ l3.toNatClampNeg
    case pos => rw [if_pos hi36] at h; cases h
    rw [if_neg hi36] at h
    refine zg_ast5 F.1 (by decide) rfl hi36 l3.toNatClampNeg rfl zd_Ho_startAnew_36 ?_
    refine zg_iinc F.1 (l3 + 1) [some (.ref 1), none, none, some (.int (l3 + 1))] zd_Ho_startAnew_37 rfl (by rw [lit1]) (by decide) rfl ?_
    refine zg_goto F.1 17 zd_Ho_startAnew_40 rfl ?_
    exact hr17 (l3 + 1) (zp (zp st 2 l3.toNatClampNeg 0) 3 l3.toNatClampNeg 0) h
def zf_Ho_startAnew_17 (N : Nat)  : Nat → Int32 → zS → Option zS
  | 0, _, _ => none
  | n + 1, l3, st => zb_Ho_startAnew_17 N  (zf_Ho_startAnew_17 N  n) l3 st
theorem zl_Ho_startAnew_17 (F : zw_X p m c zo_Ho_startAnew 4 s args zR1 E 10 A meth none) {N : Nat} {rst : zS}   : ∀ (n : Nat) (l3 : Int32) (st : zS)  (h : zf_Ho_startAnew_17 N  n l3 st = some rst), zw_G p l e zrm_Ho_startAnew s m args below meth c (MQ below (zw_Q E none rst A) args s 0 0 A) E A 4 0 17 [some (.ref 1), none, none, some (.int l3)] [] st := by
  intro n
  induction n with
  | zero => intro l3 st  h; cases h
  | succ n ih => intro l3 st  h; exact zlb_Ho_startAnew_17 F  ih l3 st  h
def zf_Ho_startAnew (N : Nat) (a1 : Int32) (a2 : Int32) (st : zS) : Option zS := zf_Ho_startAnew_17 N N 0 (zp (zp (zp st 1 2 a1) 1 3 a2) 1 4 0)
set_option maxHeartbeats 4000000 in
theorem zl_Ho_startAnew_0 (F : zw_X p m c zo_Ho_startAnew 4 s args zR1 E 10 A meth none) {N : Nat} {rst : zS} (a1 : Int32) (a2 : Int32) (st : zS)  (h : zf_Ho_startAnew N a1 a2 st = some rst) : zw_G p l e zrm_Ho_startAnew s m args below meth c (MQ below (zw_Q E none rst A) args s 0 0 A) E A 4 0 0 [some (.ref 1), some (.int a1), some (.int a2), none] [] st := by
  unfold zf_Ho_startAnew at h
  refine zg_aload_n F.1 zd_Ho_startAnew_0 rfl rfl ?_
  refine zg_iload_n F.1 zd_Ho_startAnew_1 rfl rfl ?_
  refine zg_putI1 F.1 (by decide) rfl 2 (by decide) (Or.inl rfl) .int (by decide) rfl rfl rfl zwf_Ho_18 zd_Ho_startAnew_2 ?_
  refine zg_aload_n F.1 zd_Ho_startAnew_5 rfl rfl ?_
  refine zg_iload_n F.1 zd_Ho_startAnew_6 rfl rfl ?_
  refine zg_putI1 F.1 (by decide) rfl 3 (by decide) (Or.inr (Or.inl rfl)) .int (by decide) rfl rfl rfl zwf_Ho_22 zd_Ho_startAnew_7 ?_
  refine zg_aload_n F.1 zd_Ho_startAnew_10 rfl rfl ?_
  refine zg_iconst F.1 0 0 (by decide) zd_Ho_startAnew_11 ?_
  refine zg_putI1 F.1 (by decide) rfl 4 (by decide) (Or.inr (Or.inr rfl)) .boolean (by decide) rfl rfl rfl zwf_Ho_25 zd_Ho_startAnew_12 ?_
  refine zg_iconst F.1 0 0 (by decide) zd_Ho_startAnew_15 ?_
  refine zg_istore_n F.1 [some (.ref 1), some (.int a1), some (.int a2), some (.int 0)] zd_Ho_startAnew_16 rfl (by decide) rfl ?_
  exact zg_le (zw_les (zw_len (zw_len (zw_les zw_le0)))) (zl_Ho_startAnew_17 F N 0 (zp (zp (zp st 1 2 a1) 1 3 a2) 1 4 0) h)
theorem zk_Ho_startAnew {E : zE} (hn : zw_n E 10) (N : Nat) (a1 : Int32) (a2 : Int32) (st : zS)  {rst : zS} (h : zf_Ho_startAnew N a1 a2 st = some rst) : zw_M l zy_Ho_startAnew (Cond.code zy_Ho_startAnew zo_Ho_startAnew 4 none :: zwAll) zrm_Ho_startAnew E [.ref 1, .int a1, .int a2] st none rst :=
  zw_enter (by decide) rfl hn (Nat.le_of_ble_eq_true rfl) (by simp [Value.category]) 1 (fun p e s m args below meth c A F => zl_Ho_startAnew_0 F a1 a2 st  h)
/-! LiftGroup$House.addRider(III)V -/
abbrev zrm_Ho_addRider : Room := { frames := 0, cells := 0, slots := 0, locals := 0 }
def zf_Ho_addRider (N : Nat) (a1 : Int32) (a2 : Int32) (a3 : Int32) (st : zS) : Option zS := (if a2 < 0 ∨ 10 ≤ a2.toNatClampNeg then none else (if a2 < 0 ∨ 10 ≤ a2.toNatClampNeg then none else (if a3 < 0 ∨ 10 ≤ a3.toNatClampNeg then none else (if a3 < 0 ∨ 10 ≤ a3.toNatClampNeg then none else some (zp (zp st 2 a2.toNatClampNeg ((st 2 a2.toNatClampNeg) ||| a1)) 3 a3.toNatClampNeg ((st 3 a3.toNatClampNeg) ||| a1))))))
set_option maxHeartbeats 4000000 in
theorem zl_Ho_addRider_0 (F : zw_X p m c zo_Ho_addRider 4 s args zR1 E 10 A meth none) {N : Nat} {rst : zS} (a1 : Int32) (a2 : Int32) (a3 : Int32) (st : zS)  (h : zf_Ho_addRider N a1 a2 a3 st = some rst) : zw_G p l e zrm_Ho_addRider s m args below meth c (MQ below (zw_Q E none rst A) args s 0 0 A) E A 4 0 0 [some (.ref 1), some (.int a1), some (.int a2), some (.int a3)] [] st := by
  unfold zf_Ho_addRider at h
  refine zg_aload_n F.1 zd_Ho_addRider_0 rfl rfl ?_
  refine zg_getR1 F.1 (by decide) rfl 0 (by decide) 2 rfl zwf_Ho_9 zd_Ho_addRider_1 ?_
  refine zg_iload_n F.1 zd_Ho_addRider_4 rfl rfl ?_
  refine zg_dup2 F.1 zd_Ho_addRider_5 rfl rfl ?_
  by_cases hi6 : a2 < 0 ∨ 10 ≤ a2.toNatClampNeg
  case pos => rw [if_pos hi6] at h; cases h
  rw [if_neg hi6] at h
  refine zg_ald5 F.1 (by decide) rfl hi6 a2.toNatClampNeg rfl (st 2 a2.toNatClampNeg) rfl zd_Ho_addRider_6 ?_
  refine zg_iload_n F.1 zd_Ho_addRider_7 rfl rfl ?_
  refine zg_ior F.1 zd_Ho_addRider_8 ?_
  by_cases hi9 : a2 < 0 ∨ 10 ≤ a2.toNatClampNeg
  case pos => rw [if_pos hi9] at h; cases h
  rw [if_neg hi9] at h
  refine zg_ast5 F.1 (by decide) rfl hi9 a2.toNatClampNeg rfl zd_Ho_addRider_9 ?_
  refine zg_aload_n F.1 zd_Ho_addRider_10 rfl rfl ?_
  refine zg_getR1 F.1 (by decide) rfl 1 (by decide) 3 rfl zwf_Ho_15 zd_Ho_addRider_11 ?_
  refine zg_iload_n F.1 zd_Ho_addRider_14 rfl rfl ?_
  refine zg_dup2 F.1 zd_Ho_addRider_15 rfl rfl ?_
  by_cases hi16 : a3 < 0 ∨ 10 ≤ a3.toNatClampNeg
  case pos => rw [if_pos hi16] at h; cases h
  rw [if_neg hi16] at h
  refine zg_ald5 F.1 (by decide) rfl hi16 a3.toNatClampNeg rfl (st 3 a3.toNatClampNeg) (zp_q _ _ (by decide)) zd_Ho_addRider_16 ?_
  refine zg_iload_n F.1 zd_Ho_addRider_17 rfl rfl ?_
  refine zg_ior F.1 zd_Ho_addRider_18 ?_
  by_cases hi19 : a3 < 0 ∨ 10 ≤ a3.toNatClampNeg
  case pos => rw [if_pos hi19] at h; cases h
  rw [if_neg hi19] at h
  refine zg_ast5 F.1 (by decide) rfl hi19 a3.toNatClampNeg rfl zd_Ho_addRider_19 ?_
  cases h
  exact zg_vret F zd_Ho_addRider_20
theorem zk_Ho_addRider {E : zE} (hn : zw_n E 10) (N : Nat) (a1 : Int32) (a2 : Int32) (a3 : Int32) (st : zS)  {rst : zS} (h : zf_Ho_addRider N a1 a2 a3 st = some rst) : zw_M l zy_Ho_addRider (Cond.code zy_Ho_addRider zo_Ho_addRider 4 none :: zwAll) zrm_Ho_addRider E [.ref 1, .int a1, .int a2, .int a3] st none rst :=
  zw_enter (by decide) rfl hn (Nat.le_of_ble_eq_true rfl) (by simp [Value.category]) 0 (fun p e s m args below meth c A F => zl_Ho_addRider_0 F a1 a2 a3 st  h)
theorem zwf_Ri_9 : Cond.fieldLink zR3 9 (zT3 0).1 (zT3 0).2.1 (zT3 0).2.2.1 ∈ zwAll := zw_at 167 rfl rfl
theorem zwf_Ri_15 : Cond.fieldLink zR3 15 (zT3 1).1 (zT3 1).2.1 (zT3 1).2.2.1 ∈ zwAll := zw_at 169 rfl rfl
theorem zwf_Ri_18 : Cond.fieldLink zR3 18 (zT3 2).1 (zT3 2).2.1 (zT3 2).2.2.1 ∈ zwAll := zw_at 171 rfl rfl
theorem zwf_Ri_21 : Cond.fieldLink zR3 21 (zT3 3).1 (zT3 3).2.1 (zT3 3).2.2.1 ∈ zwAll := zw_at 173 rfl rfl
theorem zwf_Ri_24 : Cond.fieldLink zR3 24 (zT3 4).1 (zT3 4).2.1 (zT3 4).2.2.1 ∈ zwAll := zw_at 175 rfl rfl
theorem zwf_Ri_27 : Cond.fieldLink zR3 27 (zT3 5).1 (zT3 5).2.1 (zT3 5).2.2.1 ∈ zwAll := zw_at 177 rfl rfl
/-! LiftGroup$Rider.begin(III)V -/
abbrev zrm_Ri_begin : Room := { frames := 0, cells := 0, slots := 0, locals := 0 }
def zf_Ri_begin (N : Nat) (a0 : Nat) (a1 : Int32) (a2 : Int32) (a3 : Int32) (st : zS) : Option zS := some (zp (zp (zp (zp (zp (zp st a0 0 a1) a0 1 a2) a0 2 0) a0 3 (-1)) a0 4 a3) a0 5 0)
set_option maxHeartbeats 4000000 in
theorem zl_Ri_begin_0 (F : zw_X p m c zo_Ri_begin 4 s args zR3 E 10 A meth none) {N : Nat} {rst : zS} (a0 : Nat) (a1 : Int32) (a2 : Int32) (a3 : Int32) (st : zS) (k0 : zw_kind a0 = 3) (h : zf_Ri_begin N a0 a1 a2 a3 st = some rst) : zw_G p l e zrm_Ri_begin s m args below meth c (MQ below (zw_Q E none rst A) args s 0 0 A) E A 4 0 0 [some (.ref a0), some (.int a1), some (.int a2), some (.int a3)] [] st := by
  unfold zf_Ri_begin at h
  refine zg_aload_n F.1 zd_Ri_begin_0 rfl rfl ?_
  refine zg_iload_n F.1 zd_Ri_begin_1 rfl rfl ?_
  refine zg_putI3 F.1 (by decide) k0 0 (by decide) (Or.inl rfl) .int (by decide) rfl rfl rfl zwf_Ri_9 zd_Ri_begin_2 ?_
  refine zg_aload_n F.1 zd_Ri_begin_5 rfl rfl ?_
  refine zg_iload_n F.1 zd_Ri_begin_6 rfl rfl ?_
  refine zg_putI3 F.1 (by decide) k0 1 (by decide) (Or.inr (Or.inl rfl)) .int (by decide) rfl rfl rfl zwf_Ri_15 zd_Ri_begin_7 ?_
  refine zg_aload_n F.1 zd_Ri_begin_10 rfl rfl ?_
  refine zg_iconst F.1 0 0 (by decide) zd_Ri_begin_11 ?_
  refine zg_putI3 F.1 (by decide) k0 2 (by decide) (Or.inr (Or.inr (Or.inl rfl))) .int (by decide) rfl rfl rfl zwf_Ri_18 zd_Ri_begin_12 ?_
  refine zg_aload_n F.1 zd_Ri_begin_15 rfl rfl ?_
  refine zg_iconst F.1 (-1) (-1) (by decide) zd_Ri_begin_16 ?_
  refine zg_putI3 F.1 (by decide) k0 3 (by decide) (Or.inr (Or.inr (Or.inr (Or.inl rfl)))) .int (by decide) rfl rfl rfl zwf_Ri_21 zd_Ri_begin_17 ?_
  refine zg_aload_n F.1 zd_Ri_begin_20 rfl rfl ?_
  refine zg_iload_n F.1 zd_Ri_begin_21 rfl rfl ?_
  refine zg_putI3 F.1 (by decide) k0 4 (by decide) (Or.inr (Or.inr (Or.inr (Or.inr (Or.inl rfl))))) .int (by decide) rfl rfl rfl zwf_Ri_24 zd_Ri_begin_22 ?_
  refine zg_aload_n F.1 zd_Ri_begin_25 rfl rfl ?_
  refine zg_iconst F.1 0 0 (by decide) zd_Ri_begin_26 ?_
  refine zg_putI3 F.1 (by decide) k0 5 (by decide) (Or.inr (Or.inr (Or.inr (Or.inr (Or.inr rfl))))) .int (by decide) rfl rfl rfl zwf_Ri_27 zd_Ri_begin_27 ?_
  cases h
  exact zg_vret F zd_Ri_begin_30
theorem zk_Ri_begin {E : zE} (hn : zw_n E 10) (N : Nat) (a0 : Nat) (a1 : Int32) (a2 : Int32) (a3 : Int32) (st : zS) (k0 : zw_kind a0 = 3) {rst : zS} (h : zf_Ri_begin N a0 a1 a2 a3 st = some rst) : zw_M l zy_Ri_begin (Cond.code zy_Ri_begin zo_Ri_begin 4 none :: zwAll) zrm_Ri_begin E [.ref a0, .int a1, .int a2, .int a3] st none rst :=
  zw_enter (by decide) rfl hn (Nat.le_of_ble_eq_true rfl) (by simp [Value.category]) 0 (fun p e s m args below meth c A F => zl_Ri_begin_0 F a0 a1 a2 a3 st k0 h)
/-! LiftGroup$Rider.ended()Z -/
abbrev zrm_Ri_ended : Room := { frames := 0, cells := 0, slots := 0, locals := 0 }
def zf_Ri_ended_21 (N : Nat)  (s0 : Int32) (st : zS) : Option (Int32 × zS) := (if s0 = 0 ∨ s0 = 1 then some (s0, st) else none)
set_option maxHeartbeats 4000000 in
theorem zl_Ri_ended_21 (F : zw_X p m c zo_Ri_ended 1 s args zR3 E 10 A meth (some .boolean)) {N : Nat} {rv : Int32} {rst : zS}   (s0 : Int32) (st : zS)  (h : zf_Ri_ended_21 N  s0 st = some (rv, rst)) : zw_G p l e zrm_Ri_ended s m args below meth c (MQ below (zw_Q E (some (.int rv)) rst A) args s 0 0 A) E A 1 0 21 [none] [.int s0] st := by
  unfold zf_Ri_ended_21 at h
  by_cases hb21 : s0 = 0 ∨ s0 = 1
  case neg => rw [if_neg hb21] at h; cases h
  rw [if_pos hb21] at h
  cases h
  exact zg_zret F hb21 zd_Ri_ended_21
def zf_Ri_ended_16 (N : Nat)   (st : zS) : Option (Int32 × zS) := zf_Ri_ended_21 N 1 st
set_option maxHeartbeats 4000000 in
theorem zl_Ri_ended_16 (F : zw_X p m c zo_Ri_ended 1 s args zR3 E 10 A meth (some .boolean)) {N : Nat} {rv : Int32} {rst : zS}    (st : zS)  (h : zf_Ri_ended_16 N   st = some (rv, rst)) : zw_G p l e zrm_Ri_ended s m args below meth c (MQ below (zw_Q E (some (.int rv)) rst A) args s 0 0 A) E A 1 0 16 [none] [] st := by
  unfold zf_Ri_ended_16 at h
  refine zg_iconst F.1 1 1 (by decide) zd_Ri_ended_16 ?_
  refine zg_goto F.1 21 zd_Ri_ended_17 rfl ?_
  exact zl_Ri_ended_21 F 1 st h
def zf_Ri_ended (N : Nat) (a0 : Nat) (st : zS) : Option (Int32 × zS) := (if (st a0 2) = 2 then zf_Ri_ended_16 N st else (if (st a0 2) = 3 then zf_Ri_ended_16 N st else zf_Ri_ended_21 N 0 st))
set_option maxHeartbeats 4000000 in
theorem zl_Ri_ended_0 (F : zw_X p m c zo_Ri_ended 1 s args zR3 E 10 A meth (some .boolean)) {N : Nat} {rv : Int32} {rst : zS} (a0 : Nat) (st : zS) (k0 : zw_kind a0 = 3) (h : zf_Ri_ended N a0 st = some (rv, rst)) : zw_G p l e zrm_Ri_ended s m args below meth c (MQ below (zw_Q E (some (.int rv)) rst A) args s 0 0 A) E A 1 0 0 [some (.ref a0)] [] st := by
  unfold zf_Ri_ended at h
  refine zg_aload_n F.1 zd_Ri_ended_0 rfl rfl ?_
  refine zg_getI3 F.1 (by decide) k0 2 (by decide) (st a0 2) rfl rfl zwf_Ri_18 zd_Ri_ended_1 ?_
  refine zg_iconst F.1 2 2 (by decide) zd_Ri_ended_4 ?_
  refine zg_icmp_eq F.1 16 zd_Ri_ended_5 rfl (fun hc => ?_) (fun hc => ?_)
  · rw [if_pos hc] at h
    exact zg_le (zw_len zw_le0) (zl_Ri_ended_16 F st h)
  · rw [if_neg hc] at h
    refine zg_aload_n F.1 zd_Ri_ended_8 rfl rfl ?_
    refine zg_getI3 F.1 (by decide) k0 2 (by decide) (st a0 2) rfl rfl zwf_Ri_18 zd_Ri_ended_9 ?_
    refine zg_iconst F.1 3 3 (by decide) zd_Ri_ended_12 ?_
    refine zg_icmp_ne F.1 20 zd_Ri_ended_13 rfl (fun hc => ?_) (fun hc => ?_)
    · rw [if_neg hc] at h
      refine zg_iconst F.1 0 0 (by decide) zd_Ri_ended_20 ?_
      exact zg_le (zw_len zw_le0) (zl_Ri_ended_21 F 0 st h)
    · rw [if_pos hc] at h
      exact zg_le (zw_len zw_le0) (zl_Ri_ended_16 F st h)
theorem zk_Ri_ended {E : zE} (hn : zw_n E 10) (N : Nat) (a0 : Nat) (st : zS) (k0 : zw_kind a0 = 3) {rv : Int32} {rst : zS} (h : zf_Ri_ended N a0 st = some (rv, rst)) : zw_M l zy_Ri_ended (Cond.code zy_Ri_ended zo_Ri_ended 1 (some .boolean) :: zwAll) zrm_Ri_ended E [.ref a0] st (some (.int rv)) rst :=
  zw_enter (by decide) rfl hn (Nat.le_of_ble_eq_true rfl) (by simp [Value.category]) 0 (fun p e s m args below meth c A F => zl_Ri_ended_0 F a0 st k0 h)
theorem zwf_Lo_22 : Cond.fieldLink zR4 22 (zT4 4).1 (zT4 4).2.1 (zT4 4).2.2.1 ∈ zwAll := zw_at 206 rfl rfl
theorem zwf_Lo_9 : Cond.fieldLink zR4 9 (zT4 0).1 (zT4 0).2.1 (zT4 0).2.2.1 ∈ zwAll := zw_at 198 rfl rfl
theorem zwf_Lo_13 : Cond.fieldLink zR4 13 (zT4 1).1 (zT4 1).2.1 (zT4 1).2.2.1 ∈ zwAll := zw_at 200 rfl rfl
theorem zwf_Lo_16 : Cond.fieldLink zR4 16 (zT4 2).1 (zT4 2).2.1 (zT4 2).2.2.1 ∈ zwAll := zw_at 202 rfl rfl
theorem zwf_Lo_19 : Cond.fieldLink zR4 19 (zT4 3).1 (zT4 3).2.1 (zT4 3).2.2.1 ∈ zwAll := zw_at 204 rfl rfl
/-! LiftGroup$Log.note(IIII)V -/
abbrev zrm_Lo_note : Room := { frames := 0, cells := 0, slots := 0, locals := 0 }
def zf_Lo_note (N : Nat) (a1 : Int32) (a2 : Int32) (a3 : Int32) (a4 : Int32) (st : zS) : Option zS := (if ((st 35 4) - (st 35 4) / 30 * 30) < 0 ∨ 30 ≤ ((st 35 4) - (st 35 4) / 30 * 30).toNatClampNeg then none else (if ((st 35 4) - (st 35 4) / 30 * 30) < 0 ∨ 30 ≤ ((st 35 4) - (st 35 4) / 30 * 30).toNatClampNeg then none else (if ((st 35 4) - (st 35 4) / 30 * 30) < 0 ∨ 30 ≤ ((st 35 4) - (st 35 4) / 30 * 30).toNatClampNeg then none else (if ((st 35 4) - (st 35 4) / 30 * 30) < 0 ∨ 30 ≤ ((st 35 4) - (st 35 4) / 30 * 30).toNatClampNeg then none else some (zp (zp (zp (zp (zp st 36 (((st 35 4) - (st 35 4) / 30 * 30).toNatClampNeg) a1) 37 (((st 35 4) - (st 35 4) / 30 * 30).toNatClampNeg) a2) 38 (((st 35 4) - (st 35 4) / 30 * 30).toNatClampNeg) a3) 39 (((st 35 4) - (st 35 4) / 30 * 30).toNatClampNeg) a4) 35 4 ((st 35 4) + 1))))))
set_option maxHeartbeats 4000000 in
theorem zl_Lo_note_0 (F : zw_X p m c zo_Lo_note 6 s args zR4 E 10 A meth none) {N : Nat} {rst : zS} (a1 : Int32) (a2 : Int32) (a3 : Int32) (a4 : Int32) (st : zS)  (h : zf_Lo_note N a1 a2 a3 a4 st = some rst) : zw_G p l e zrm_Lo_note s m args below meth c (MQ below (zw_Q E none rst A) args s 0 0 A) E A 6 0 0 [some (.ref 35), some (.int a1), some (.int a2), some (.int a3), some (.int a4), none] [] st := by
  unfold zf_Lo_note at h
  refine zg_aload_n F.1 zd_Lo_note_0 rfl rfl ?_
  refine zg_getI4 F.1 (by decide) rfl 4 (by decide) (st 35 4) rfl rfl zwf_Lo_22 zd_Lo_note_1 ?_
  refine zg_bipush F.1 30 30 (by decide) zd_Lo_note_4 ?_
  refine zg_irem F.1 zd_Lo_note_6 (by decide) ?_
  refine zg_istore F.1 [some (.ref 35), some (.int a1), some (.int a2), some (.int a3), some (.int a4), some (.int ((st 35 4) - (st 35 4) / 30 * 30))] zd_Lo_note_7 (by decide) rfl ?_
  refine zg_aload_n F.1 zd_Lo_note_9 rfl rfl ?_
  refine zg_getR4 F.1 (by decide) rfl 0 (by decide) 36 rfl zwf_Lo_9 zd_Lo_note_10 ?_
  refine zg_iload F.1 zd_Lo_note_13 rfl ?_
  refine zg_iload_n F.1 zd_Lo_note_15 rfl rfl ?_
  by_cases hi16 : ((st 35 4) - (st 35 4) / 30 * 30) < 0 ∨ 30 ≤ ((st 35 4) - (st 35 4) / 30 * 30).toNatClampNeg
  case pos => rw [if_pos hi16] at h; cases h
  rw [if_neg hi16] at h
  refine zg_ast8 F.1 (by decide) rfl hi16 (((st 35 4) - (st 35 4) / 30 * 30).toNatClampNeg) rfl zd_Lo_note_16 ?_
  refine zg_aload_n F.1 zd_Lo_note_17 rfl rfl ?_
  refine zg_getR4 F.1 (by decide) rfl 1 (by decide) 37 rfl zwf_Lo_13 zd_Lo_note_18 ?_
  refine zg_iload F.1 zd_Lo_note_21 rfl ?_
  refine zg_iload_n F.1 zd_Lo_note_23 rfl rfl ?_
  by_cases hi24 : ((st 35 4) - (st 35 4) / 30 * 30) < 0 ∨ 30 ≤ ((st 35 4) - (st 35 4) / 30 * 30).toNatClampNeg
  case pos => rw [if_pos hi24] at h; cases h
  rw [if_neg hi24] at h
  refine zg_ast8 F.1 (by decide) rfl hi24 (((st 35 4) - (st 35 4) / 30 * 30).toNatClampNeg) rfl zd_Lo_note_24 ?_
  refine zg_aload_n F.1 zd_Lo_note_25 rfl rfl ?_
  refine zg_getR4 F.1 (by decide) rfl 2 (by decide) 38 rfl zwf_Lo_16 zd_Lo_note_26 ?_
  refine zg_iload F.1 zd_Lo_note_29 rfl ?_
  refine zg_iload_n F.1 zd_Lo_note_31 rfl rfl ?_
  by_cases hi32 : ((st 35 4) - (st 35 4) / 30 * 30) < 0 ∨ 30 ≤ ((st 35 4) - (st 35 4) / 30 * 30).toNatClampNeg
  case pos => rw [if_pos hi32] at h; cases h
  rw [if_neg hi32] at h
  refine zg_ast8 F.1 (by decide) rfl hi32 (((st 35 4) - (st 35 4) / 30 * 30).toNatClampNeg) rfl zd_Lo_note_32 ?_
  refine zg_aload_n F.1 zd_Lo_note_33 rfl rfl ?_
  refine zg_getR4 F.1 (by decide) rfl 3 (by decide) 39 rfl zwf_Lo_19 zd_Lo_note_34 ?_
  refine zg_iload F.1 zd_Lo_note_37 rfl ?_
  refine zg_iload F.1 zd_Lo_note_39 rfl ?_
  by_cases hi41 : ((st 35 4) - (st 35 4) / 30 * 30) < 0 ∨ 30 ≤ ((st 35 4) - (st 35 4) / 30 * 30).toNatClampNeg
  case pos => rw [if_pos hi41] at h; cases h
  rw [if_neg hi41] at h
  refine zg_ast8 F.1 (by decide) rfl hi41 (((st 35 4) - (st 35 4) / 30 * 30).toNatClampNeg) rfl zd_Lo_note_41 ?_
  refine zg_aload_n F.1 zd_Lo_note_42 rfl rfl ?_
  refine zg_dup F.1 zd_Lo_note_43 rfl ?_
  refine zg_getI4 F.1 (by decide) rfl 4 (by decide) (st 35 4) rfl ((zp_q _ _ (by decide)).trans ((zp_q _ _ (by decide)).trans ((zp_q _ _ (by decide)).trans (zp_q _ _ (by decide))))) zwf_Lo_22 zd_Lo_note_44 ?_
  refine zg_iconst F.1 1 1 (by decide) zd_Lo_note_47 ?_
  refine zg_iadd F.1 zd_Lo_note_48 ?_
  refine zg_putI4 F.1 (by decide) rfl 4 (by decide) rfl .int (by decide) rfl rfl rfl zwf_Lo_22 zd_Lo_note_49 ?_
  cases h
  exact zg_vret F zd_Lo_note_52
theorem zk_Lo_note {E : zE} (hn : zw_n E 10) (N : Nat) (a1 : Int32) (a2 : Int32) (a3 : Int32) (a4 : Int32) (st : zS)  {rst : zS} (h : zf_Lo_note N a1 a2 a3 a4 st = some rst) : zw_M l zy_Lo_note (Cond.code zy_Lo_note zo_Lo_note 6 none :: zwAll) zrm_Lo_note E [.ref 35, .int a1, .int a2, .int a3, .int a4] st none rst :=
  zw_enter (by decide) rfl hn (Nat.le_of_ble_eq_true rfl) (by simp [Value.category]) 1 (fun p e s m args below meth c A F => zl_Lo_note_0 F a1 a2 a3 a4 st  h)
theorem zml_Lo_26 : Cond.methodLink zR4 26 Lib.Math.min.name ∈ zwAll := zw_at 634 rfl rfl
theorem zwm_min_1 : Cond.static Lib.Math.min.name ∈ zwAll := zw_at 635 rfl rfl
theorem zwm_min_2 : Cond.initialized "java/lang/Math" ∈ zwAll := zw_at 60 rfl rfl
theorem zwm_min_3 : Cond.code Lib.Math.min.name Lib.Math.min.code 2 (some .int) ∈ zwAll := zw_at 636 rfl rfl
/-! LiftGroup$Log.keptCount()I -/
abbrev zrm_Lo_keptCount : Room := { frames := 1, cells := 0, slots := 0, locals := 21 }
def zf_Lo_keptCount (N : Nat)  (st : zS) : Option (Int32 × zS) := some ((if 30 < (st 35 4) then 30 else (st 35 4)), st)
set_option maxHeartbeats 4000000 in
theorem zl_Lo_keptCount_0 (F : zw_X p m c zo_Lo_keptCount 1 s args zR4 E 10 A meth (some .int)) {N : Nat} {rv : Int32} {rst : zS}  (st : zS)  (h : zf_Lo_keptCount N  st = some (rv, rst)) : zw_G p l e zrm_Lo_keptCount s m args below meth c (MQ below (zw_Q E (some (.int rv)) rst A) args s 0 0 A) E A 1 0 0 [some (.ref 35)] [] st := by
  unfold zf_Lo_keptCount at h
  refine zg_aload_n F.1 zd_Lo_keptCount_0 rfl rfl ?_
  refine zg_getI4 F.1 (by decide) rfl 4 (by decide) (st 35 4) rfl rfl zwf_Lo_22 zd_Lo_keptCount_1 ?_
  refine zg_bipush F.1 30 30 (by decide) zd_Lo_keptCount_4 ?_
  refine zg_mmin F.1 zml_Lo_26 zwm_min_1 zwm_min_2 zwm_min_3 (Nat.le_of_ble_eq_true rfl) (Nat.le_of_ble_eq_true rfl) (Nat.le_of_ble_eq_true rfl) (Nat.le_of_ble_eq_true rfl) zd_Lo_keptCount_6 ?_
  cases h
  exact zg_iret F zd_Lo_keptCount_9
theorem zk_Lo_keptCount {E : zE} (hn : zw_n E 10) (N : Nat)  (st : zS)  {rv : Int32} {rst : zS} (h : zf_Lo_keptCount N  st = some (rv, rst)) : zw_M l zy_Lo_keptCount (Cond.code zy_Lo_keptCount zo_Lo_keptCount 1 (some .int) :: zwAll) zrm_Lo_keptCount E [.ref 35] st (some (.int rv)) rst :=
  zw_enter (by decide) rfl hn (Nat.le_of_ble_eq_true rfl) (by simp [Value.category]) 0 (fun p e s m args below meth c A F => zl_Lo_keptCount_0 F  st  h)
theorem zcal_Lo_keptCount : zw_cal zR4 zy_Lo_keptCount zo_Lo_keptCount 1 (some .int) 0 := ⟨zw_at 631 rfl rfl, zw_at 632 rfl rfl, zw_at 51 rfl rfl, zw_at 633 rfl rfl, rfl, by decide, by decide, by decide +kernel⟩
theorem zml_Lo_32 : Cond.methodLink zR4 32 zy_Lo_keptCount ∈ zwAll := zw_at 657 rfl rfl
/-! LiftGroup$Log.placeOf(I)I -/
abbrev zrm_Lo_placeOf : Room := { frames := 2, cells := 0, slots := 0, locals := 41 }
def zf_Lo_placeOf (N : Nat) (a1 : Int32) (st : zS) : Option (Int32 × zS) := ((zf_Lo_keptCount N st).bind fun y5 => some (((((st 35 4) - y5.1) + a1) - (((st 35 4) - y5.1) + a1) / 30 * 30), y5.2))
set_option maxHeartbeats 4000000 in
theorem zl_Lo_placeOf_0 (F : zw_X p m c zo_Lo_placeOf 2 s args zR4 E 10 A meth (some .int)) {N : Nat} {rv : Int32} {rst : zS} (a1 : Int32) (st : zS)  (h : zf_Lo_placeOf N a1 st = some (rv, rst)) : zw_G p l e zrm_Lo_placeOf s m args below meth c (MQ below (zw_Q E (some (.int rv)) rst A) args s 0 0 A) E A 2 0 0 [some (.ref 35), some (.int a1)] [] st := by
  unfold zf_Lo_placeOf at h
  refine zg_aload_n F.1 zd_Lo_placeOf_0 rfl rfl ?_
  refine zg_getI4 F.1 (by decide) rfl 4 (by decide) (st 35 4) rfl rfl zwf_Lo_22 zd_Lo_placeOf_1 ?_
  refine zg_aload_n F.1 zd_Lo_placeOf_4 rfl rfl ?_
  obtain ⟨y5, hc5, h⟩ := Option.bind_eq_some_iff.mp h
  refine zg_callV F (As := []) (rest := [.int (st 35 4)]) (zk_Lo_keptCount F.1.2.2 N st hc5) rfl rfl zcal_Lo_keptCount zml_Lo_32 ⟨(Nat.le_of_ble_eq_true rfl), (Nat.le_of_ble_eq_true rfl)⟩ (zg_rec4 F.1 (by decide) rfl) rfl (Nat.le_of_ble_eq_true rfl) ⟨(Nat.le_of_ble_eq_true rfl), (Nat.le_of_ble_eq_true rfl)⟩ zd_Lo_placeOf_5 ?_
  refine zg_isub F.1 zd_Lo_placeOf_8 ?_
  refine zg_iload_n F.1 zd_Lo_placeOf_9 rfl rfl ?_
  refine zg_iadd F.1 zd_Lo_placeOf_10 ?_
  refine zg_bipush F.1 30 30 (by decide) zd_Lo_placeOf_11 ?_
  refine zg_irem F.1 zd_Lo_placeOf_13 (by decide) ?_
  cases h
  exact zg_iret F zd_Lo_placeOf_14
theorem zk_Lo_placeOf {E : zE} (hn : zw_n E 10) (N : Nat) (a1 : Int32) (st : zS)  {rv : Int32} {rst : zS} (h : zf_Lo_placeOf N a1 st = some (rv, rst)) : zw_M l zy_Lo_placeOf (Cond.code zy_Lo_placeOf zo_Lo_placeOf 2 (some .int) :: zwAll) zrm_Lo_placeOf E [.ref 35, .int a1] st (some (.int rv)) rst :=
  zw_enter (by decide) rfl hn (Nat.le_of_ble_eq_true rfl) (by simp [Value.category]) 0 (fun p e s m args below meth c A F => zl_Lo_placeOf_0 F a1 st  h)
end ZC4
end
section
abbrev zo_LG_startAnew : ByteArray := prog_1_method_16_code
abbrev zy_LG_startAnew : MethodName := ⟨"LiftGroup", "startAnew", "(III)V"⟩
theorem zd_LG_startAnew_0 : decode zo_LG_startAnew 0 = .ok (.aload_n 0, 1) := by decide +kernel
theorem zd_LG_startAnew_1 : decode zo_LG_startAnew 1 = .ok (.getfield 10, 3) := by decide +kernel
theorem zd_LG_startAnew_4 : decode zo_LG_startAnew 4 = .ok (.iload_n 1, 1) := by decide +kernel
theorem zd_LG_startAnew_5 : decode zo_LG_startAnew 5 = .ok (.iload_n 3, 1) := by decide +kernel
theorem zd_LG_startAnew_6 : decode zo_LG_startAnew 6 = .ok (.invokevirtual 247, 3) := by decide +kernel
theorem zd_LG_startAnew_9 : decode zo_LG_startAnew 9 = .ok (.iconst 0, 1) := by decide +kernel
theorem zd_LG_startAnew_10 : decode zo_LG_startAnew 10 = .ok (.istore 4, 2) := by decide +kernel
theorem zd_LG_startAnew_12 : decode zo_LG_startAnew 12 = .ok (.iload 4, 2) := by decide +kernel
theorem zd_LG_startAnew_14 : decode zo_LG_startAnew 14 = .ok (.iconst 4, 1) := by decide +kernel
theorem zd_LG_startAnew_15 : decode zo_LG_startAnew 15 = .ok (.if_icmp .ge 19, 3) := by decide +kernel
theorem zd_LG_startAnew_18 : decode zo_LG_startAnew 18 = .ok (.aload_n 0, 1) := by decide +kernel
theorem zd_LG_startAnew_19 : decode zo_LG_startAnew 19 = .ok (.getfield 18, 3) := by decide +kernel
theorem zd_LG_startAnew_22 : decode zo_LG_startAnew 22 = .ok (.iload 4, 2) := by decide +kernel
theorem zd_LG_startAnew_24 : decode zo_LG_startAnew 24 = .ok (.aaload, 1) := by decide +kernel
theorem zd_LG_startAnew_25 : decode zo_LG_startAnew 25 = .ok (.invokevirtual 250, 3) := by decide +kernel
theorem zd_LG_startAnew_28 : decode zo_LG_startAnew 28 = .ok (.iinc 4 1, 3) := by decide +kernel
theorem zd_LG_startAnew_31 : decode zo_LG_startAnew 31 = .ok (.goto (-19), 3) := by decide +kernel
theorem zd_LG_startAnew_34 : decode zo_LG_startAnew 34 = .ok (.aload_n 0, 1) := by decide +kernel
theorem zd_LG_startAnew_35 : decode zo_LG_startAnew 35 = .ok (.getfield 37, 3) := by decide +kernel
theorem zd_LG_startAnew_38 : decode zo_LG_startAnew 38 = .ok (.iconst 0, 1) := by decide +kernel
theorem zd_LG_startAnew_39 : decode zo_LG_startAnew 39 = .ok (.putfield 235, 3) := by decide +kernel
theorem zd_LG_startAnew_42 : decode zo_LG_startAnew 42 = .ok (.aload_n 0, 1) := by decide +kernel
theorem zd_LG_startAnew_43 : decode zo_LG_startAnew 43 = .ok (.iload_n 2, 1) := by decide +kernel
theorem zd_LG_startAnew_44 : decode zo_LG_startAnew 44 = .ok (.putfield 98, 3) := by decide +kernel
theorem zd_LG_startAnew_47 : decode zo_LG_startAnew 47 = .ok (.aload_n 0, 1) := by decide +kernel
theorem zd_LG_startAnew_48 : decode zo_LG_startAnew 48 = .ok (.iconst 0, 1) := by decide +kernel
theorem zd_LG_startAnew_49 : decode zo_LG_startAnew 49 = .ok (.putfield 71, 3) := by decide +kernel
theorem zd_LG_startAnew_52 : decode zo_LG_startAnew 52 = .ok (.aload_n 0, 1) := by decide +kernel
theorem zd_LG_startAnew_53 : decode zo_LG_startAnew 53 = .ok (.iconst 0, 1) := by decide +kernel
theorem zd_LG_startAnew_54 : decode zo_LG_startAnew 54 = .ok (.putfield 252, 3) := by decide +kernel
theorem zd_LG_startAnew_57 : decode zo_LG_startAnew 57 = .ok (.aload_n 0, 1) := by decide +kernel
theorem zd_LG_startAnew_58 : decode zo_LG_startAnew 58 = .ok (.iconst 0, 1) := by decide +kernel
theorem zd_LG_startAnew_59 : decode zo_LG_startAnew 59 = .ok (.putfield 80, 3) := by decide +kernel
theorem zd_LG_startAnew_62 : decode zo_LG_startAnew 62 = .ok (.aload_n 0, 1) := by decide +kernel
theorem zd_LG_startAnew_63 : decode zo_LG_startAnew 63 = .ok (.iconst 0, 1) := by decide +kernel
theorem zd_LG_startAnew_64 : decode zo_LG_startAnew 64 = .ok (.putfield 238, 3) := by decide +kernel
theorem zd_LG_startAnew_67 : decode zo_LG_startAnew 67 = .ok (.aload_n 0, 1) := by decide +kernel
theorem zd_LG_startAnew_68 : decode zo_LG_startAnew 68 = .ok (.iconst 0, 1) := by decide +kernel
theorem zd_LG_startAnew_69 : decode zo_LG_startAnew 69 = .ok (.putfield 241, 3) := by decide +kernel
theorem zd_LG_startAnew_72 : decode zo_LG_startAnew 72 = .ok (.aload_n 0, 1) := by decide +kernel
theorem zd_LG_startAnew_73 : decode zo_LG_startAnew 73 = .ok (.iconst 0, 1) := by decide +kernel
theorem zd_LG_startAnew_74 : decode zo_LG_startAnew 74 = .ok (.putfield 244, 3) := by decide +kernel
theorem zd_LG_startAnew_77 : decode zo_LG_startAnew 77 = .ok (.return_, 1) := by decide +kernel
abbrev zo_LG_isFloor : ByteArray := prog_1_method_19_code
abbrev zy_LG_isFloor : MethodName := ⟨"LiftGroup", "isFloor", "(I)Z"⟩
theorem zd_LG_isFloor_0 : decode zo_LG_isFloor 0 = .ok (.iload_n 1, 1) := by decide +kernel
theorem zd_LG_isFloor_1 : decode zo_LG_isFloor 1 = .ok (.ifCond .lt 18, 3) := by decide +kernel
theorem zd_LG_isFloor_4 : decode zo_LG_isFloor 4 = .ok (.iload_n 1, 1) := by decide +kernel
theorem zd_LG_isFloor_5 : decode zo_LG_isFloor 5 = .ok (.aload_n 0, 1) := by decide +kernel
theorem zd_LG_isFloor_6 : decode zo_LG_isFloor 6 = .ok (.getfield 10, 3) := by decide +kernel
theorem zd_LG_isFloor_9 : decode zo_LG_isFloor 9 = .ok (.getfield 262, 3) := by decide +kernel
theorem zd_LG_isFloor_12 : decode zo_LG_isFloor 12 = .ok (.if_icmp .ge 7, 3) := by decide +kernel
theorem zd_LG_isFloor_15 : decode zo_LG_isFloor 15 = .ok (.iconst 1, 1) := by decide +kernel
theorem zd_LG_isFloor_16 : decode zo_LG_isFloor 16 = .ok (.goto 4, 3) := by decide +kernel
theorem zd_LG_isFloor_19 : decode zo_LG_isFloor 19 = .ok (.iconst 0, 1) := by decide +kernel
theorem zd_LG_isFloor_20 : decode zo_LG_isFloor 20 = .ok (.ireturn, 1) := by decide +kernel
abbrev zo_LG_isUsable : ByteArray := prog_1_method_20_code
abbrev zy_LG_isUsable : MethodName := ⟨"LiftGroup", "isUsable", "(LLiftGroup$Car;)Z"⟩
theorem zd_LG_isUsable_0 : decode zo_LG_isUsable 0 = .ok (.aload_n 1, 1) := by decide +kernel
theorem zd_LG_isUsable_1 : decode zo_LG_isUsable 1 = .ok (.getfield 119, 3) := by decide +kernel
theorem zd_LG_isUsable_4 : decode zo_LG_isUsable 4 = .ok (.ifCond .ne 24, 3) := by decide +kernel
theorem zd_LG_isUsable_7 : decode zo_LG_isUsable 7 = .ok (.aload_n 1, 1) := by decide +kernel
theorem zd_LG_isUsable_8 : decode zo_LG_isUsable 8 = .ok (.getfield 101, 3) := by decide +kernel
theorem zd_LG_isUsable_11 : decode zo_LG_isUsable 11 = .ok (.ifCond .ne 17, 3) := by decide +kernel
theorem zd_LG_isUsable_14 : decode zo_LG_isUsable 14 = .ok (.aload_n 0, 1) := by decide +kernel
theorem zd_LG_isUsable_15 : decode zo_LG_isUsable 15 = .ok (.getfield 10, 3) := by decide +kernel
theorem zd_LG_isUsable_18 : decode zo_LG_isUsable 18 = .ok (.getfield 132, 3) := by decide +kernel
theorem zd_LG_isUsable_21 : decode zo_LG_isUsable 21 = .ok (.ifCond .ne 7, 3) := by decide +kernel
theorem zd_LG_isUsable_24 : decode zo_LG_isUsable 24 = .ok (.iconst 1, 1) := by decide +kernel
theorem zd_LG_isUsable_25 : decode zo_LG_isUsable 25 = .ok (.goto 4, 3) := by decide +kernel
theorem zd_LG_isUsable_28 : decode zo_LG_isUsable 28 = .ok (.iconst 0, 1) := by decide +kernel
theorem zd_LG_isUsable_29 : decode zo_LG_isUsable 29 = .ok (.ireturn, 1) := by decide +kernel
abbrev zo_LG_anyUsable : ByteArray := prog_1_method_21_code
abbrev zy_LG_anyUsable : MethodName := ⟨"LiftGroup", "anyUsable", "()Z"⟩
theorem zd_LG_anyUsable_0 : decode zo_LG_anyUsable 0 = .ok (.iconst 0, 1) := by decide +kernel
theorem zd_LG_anyUsable_1 : decode zo_LG_anyUsable 1 = .ok (.istore_n 1, 1) := by decide +kernel
theorem zd_LG_anyUsable_2 : decode zo_LG_anyUsable 2 = .ok (.iload_n 1, 1) := by decide +kernel
theorem zd_LG_anyUsable_3 : decode zo_LG_anyUsable 3 = .ok (.aload_n 0, 1) := by decide +kernel
theorem zd_LG_anyUsable_4 : decode zo_LG_anyUsable 4 = .ok (.getfield 98, 3) := by decide +kernel
theorem zd_LG_anyUsable_7 : decode zo_LG_anyUsable 7 = .ok (.if_icmp .ge 24, 3) := by decide +kernel
theorem zd_LG_anyUsable_10 : decode zo_LG_anyUsable 10 = .ok (.aload_n 0, 1) := by decide +kernel
theorem zd_LG_anyUsable_11 : decode zo_LG_anyUsable 11 = .ok (.aload_n 0, 1) := by decide +kernel
theorem zd_LG_anyUsable_12 : decode zo_LG_anyUsable 12 = .ok (.getfield 18, 3) := by decide +kernel
theorem zd_LG_anyUsable_15 : decode zo_LG_anyUsable 15 = .ok (.iload_n 1, 1) := by decide +kernel
theorem zd_LG_anyUsable_16 : decode zo_LG_anyUsable 16 = .ok (.aaload, 1) := by decide +kernel
theorem zd_LG_anyUsable_17 : decode zo_LG_anyUsable 17 = .ok (.invokevirtual 265, 3) := by decide +kernel
theorem zd_LG_anyUsable_20 : decode zo_LG_anyUsable 20 = .ok (.ifCond .eq 5, 3) := by decide +kernel
theorem zd_LG_anyUsable_23 : decode zo_LG_anyUsable 23 = .ok (.iconst 1, 1) := by decide +kernel
theorem zd_LG_anyUsable_24 : decode zo_LG_anyUsable 24 = .ok (.ireturn, 1) := by decide +kernel
theorem zd_LG_anyUsable_25 : decode zo_LG_anyUsable 25 = .ok (.iinc 1 1, 3) := by decide +kernel
theorem zd_LG_anyUsable_28 : decode zo_LG_anyUsable 28 = .ok (.goto (-26), 3) := by decide +kernel
theorem zd_LG_anyUsable_31 : decode zo_LG_anyUsable 31 = .ok (.iconst 0, 1) := by decide +kernel
theorem zd_LG_anyUsable_32 : decode zo_LG_anyUsable 32 = .ok (.ireturn, 1) := by decide +kernel
abbrev zo_LG_takeWaitingFor : ByteArray := prog_1_method_22_code
abbrev zy_LG_takeWaitingFor : MethodName := ⟨"LiftGroup", "takeWaitingFor", "(LLiftGroup$Car;)I"⟩
theorem zd_LG_takeWaitingFor_0 : decode zo_LG_takeWaitingFor 0 = .ok (.aload_n 1, 1) := by decide +kernel
theorem zd_LG_takeWaitingFor_1 : decode zo_LG_takeWaitingFor 1 = .ok (.getfield 269, 3) := by decide +kernel
theorem zd_LG_takeWaitingFor_4 : decode zo_LG_takeWaitingFor 4 = .ok (.istore_n 2, 1) := by decide +kernel
theorem zd_LG_takeWaitingFor_5 : decode zo_LG_takeWaitingFor 5 = .ok (.aload_n 1, 1) := by decide +kernel
theorem zd_LG_takeWaitingFor_6 : decode zo_LG_takeWaitingFor 6 = .ok (.iconst 0, 1) := by decide +kernel
theorem zd_LG_takeWaitingFor_7 : decode zo_LG_takeWaitingFor 7 = .ok (.putfield 269, 3) := by decide +kernel
theorem zd_LG_takeWaitingFor_10 : decode zo_LG_takeWaitingFor 10 = .ok (.iload_n 2, 1) := by decide +kernel
theorem zd_LG_takeWaitingFor_11 : decode zo_LG_takeWaitingFor 11 = .ok (.ireturn, 1) := by decide +kernel
abbrev zo_LG_takeWaitingForNone : ByteArray := prog_1_method_24_code
abbrev zy_LG_takeWaitingForNone : MethodName := ⟨"LiftGroup", "takeWaitingForNone", "()I"⟩
theorem zd_LG_takeWaitingForNone_0 : decode zo_LG_takeWaitingForNone 0 = .ok (.aload_n 0, 1) := by decide +kernel
theorem zd_LG_takeWaitingForNone_1 : decode zo_LG_takeWaitingForNone 1 = .ok (.getfield 252, 3) := by decide +kernel
theorem zd_LG_takeWaitingForNone_4 : decode zo_LG_takeWaitingForNone 4 = .ok (.istore_n 1, 1) := by decide +kernel
theorem zd_LG_takeWaitingForNone_5 : decode zo_LG_takeWaitingForNone 5 = .ok (.aload_n 0, 1) := by decide +kernel
theorem zd_LG_takeWaitingForNone_6 : decode zo_LG_takeWaitingForNone 6 = .ok (.iconst 0, 1) := by decide +kernel
theorem zd_LG_takeWaitingForNone_7 : decode zo_LG_takeWaitingForNone 7 = .ok (.putfield 252, 3) := by decide +kernel
theorem zd_LG_takeWaitingForNone_10 : decode zo_LG_takeWaitingForNone 10 = .ok (.iload_n 1, 1) := by decide +kernel
theorem zd_LG_takeWaitingForNone_11 : decode zo_LG_takeWaitingForNone 11 = .ok (.ireturn, 1) := by decide +kernel
abbrev zo_LG_takeWaitingForNoneIfUsable : ByteArray := prog_1_method_23_code
abbrev zy_LG_takeWaitingForNoneIfUsable : MethodName := ⟨"LiftGroup", "takeWaitingForNoneIfUsable", "(LLiftGroup$Car;)I"⟩
theorem zd_LG_takeWaitingForNoneIfUsable_0 : decode zo_LG_takeWaitingForNoneIfUsable 0 = .ok (.aload_n 0, 1) := by decide +kernel
theorem zd_LG_takeWaitingForNoneIfUsable_1 : decode zo_LG_takeWaitingForNoneIfUsable 1 = .ok (.aload_n 1, 1) := by decide +kernel
theorem zd_LG_takeWaitingForNoneIfUsable_2 : decode zo_LG_takeWaitingForNoneIfUsable 2 = .ok (.invokevirtual 265, 3) := by decide +kernel
theorem zd_LG_takeWaitingForNoneIfUsable_5 : decode zo_LG_takeWaitingForNoneIfUsable 5 = .ok (.ifCond .eq 10, 3) := by decide +kernel
theorem zd_LG_takeWaitingForNoneIfUsable_8 : decode zo_LG_takeWaitingForNoneIfUsable 8 = .ok (.aload_n 0, 1) := by decide +kernel
theorem zd_LG_takeWaitingForNoneIfUsable_9 : decode zo_LG_takeWaitingForNoneIfUsable 9 = .ok (.invokevirtual 138, 3) := by decide +kernel
theorem zd_LG_takeWaitingForNoneIfUsable_12 : decode zo_LG_takeWaitingForNoneIfUsable 12 = .ok (.goto 4, 3) := by decide +kernel
theorem zd_LG_takeWaitingForNoneIfUsable_15 : decode zo_LG_takeWaitingForNoneIfUsable 15 = .ok (.iconst 0, 1) := by decide +kernel
theorem zd_LG_takeWaitingForNoneIfUsable_16 : decode zo_LG_takeWaitingForNoneIfUsable 16 = .ok (.ireturn, 1) := by decide +kernel
abbrev zo_LG_takeCarsFromWaiting : ByteArray := prog_1_method_25_code
abbrev zy_LG_takeCarsFromWaiting : MethodName := ⟨"LiftGroup", "takeCarsFromWaiting", "()V"⟩
theorem zd_LG_takeCarsFromWaiting_0 : decode zo_LG_takeCarsFromWaiting 0 = .ok (.iconst 0, 1) := by decide +kernel
theorem zd_LG_takeCarsFromWaiting_1 : decode zo_LG_takeCarsFromWaiting 1 = .ok (.istore_n 1, 1) := by decide +kernel
theorem zd_LG_takeCarsFromWaiting_2 : decode zo_LG_takeCarsFromWaiting 2 = .ok (.iload_n 1, 1) := by decide +kernel
theorem zd_LG_takeCarsFromWaiting_3 : decode zo_LG_takeCarsFromWaiting 3 = .ok (.aload_n 0, 1) := by decide +kernel
theorem zd_LG_takeCarsFromWaiting_4 : decode zo_LG_takeCarsFromWaiting 4 = .ok (.getfield 98, 3) := by decide +kernel
theorem zd_LG_takeCarsFromWaiting_7 : decode zo_LG_takeCarsFromWaiting 7 = .ok (.if_icmp .ge 28, 3) := by decide +kernel
theorem zd_LG_takeCarsFromWaiting_10 : decode zo_LG_takeCarsFromWaiting 10 = .ok (.aload_n 0, 1) := by decide +kernel
theorem zd_LG_takeCarsFromWaiting_11 : decode zo_LG_takeCarsFromWaiting 11 = .ok (.dup, 1) := by decide +kernel
theorem zd_LG_takeCarsFromWaiting_12 : decode zo_LG_takeCarsFromWaiting 12 = .ok (.getfield 252, 3) := by decide +kernel
theorem zd_LG_takeCarsFromWaiting_15 : decode zo_LG_takeCarsFromWaiting 15 = .ok (.aload_n 0, 1) := by decide +kernel
theorem zd_LG_takeCarsFromWaiting_16 : decode zo_LG_takeCarsFromWaiting 16 = .ok (.aload_n 0, 1) := by decide +kernel
theorem zd_LG_takeCarsFromWaiting_17 : decode zo_LG_takeCarsFromWaiting 17 = .ok (.getfield 18, 3) := by decide +kernel
theorem zd_LG_takeCarsFromWaiting_20 : decode zo_LG_takeCarsFromWaiting 20 = .ok (.iload_n 1, 1) := by decide +kernel
theorem zd_LG_takeCarsFromWaiting_21 : decode zo_LG_takeCarsFromWaiting 21 = .ok (.aaload, 1) := by decide +kernel
theorem zd_LG_takeCarsFromWaiting_22 : decode zo_LG_takeCarsFromWaiting 22 = .ok (.invokevirtual 122, 3) := by decide +kernel
theorem zd_LG_takeCarsFromWaiting_25 : decode zo_LG_takeCarsFromWaiting 25 = .ok (.ior, 1) := by decide +kernel
theorem zd_LG_takeCarsFromWaiting_26 : decode zo_LG_takeCarsFromWaiting 26 = .ok (.putfield 252, 3) := by decide +kernel
theorem zd_LG_takeCarsFromWaiting_29 : decode zo_LG_takeCarsFromWaiting 29 = .ok (.iinc 1 1, 3) := by decide +kernel
theorem zd_LG_takeCarsFromWaiting_32 : decode zo_LG_takeCarsFromWaiting 32 = .ok (.goto (-30), 3) := by decide +kernel
theorem zd_LG_takeCarsFromWaiting_35 : decode zo_LG_takeCarsFromWaiting 35 = .ok (.iconst 0, 1) := by decide +kernel
theorem zd_LG_takeCarsFromWaiting_36 : decode zo_LG_takeCarsFromWaiting 36 = .ok (.istore_n 1, 1) := by decide +kernel
theorem zd_LG_takeCarsFromWaiting_37 : decode zo_LG_takeCarsFromWaiting 37 = .ok (.iload_n 1, 1) := by decide +kernel
theorem zd_LG_takeCarsFromWaiting_38 : decode zo_LG_takeCarsFromWaiting 38 = .ok (.aload_n 0, 1) := by decide +kernel
theorem zd_LG_takeCarsFromWaiting_39 : decode zo_LG_takeCarsFromWaiting 39 = .ok (.getfield 71, 3) := by decide +kernel
theorem zd_LG_takeCarsFromWaiting_42 : decode zo_LG_takeCarsFromWaiting 42 = .ok (.if_icmp .ge 31, 3) := by decide +kernel
theorem zd_LG_takeCarsFromWaiting_45 : decode zo_LG_takeCarsFromWaiting 45 = .ok (.aload_n 0, 1) := by decide +kernel
theorem zd_LG_takeCarsFromWaiting_46 : decode zo_LG_takeCarsFromWaiting 46 = .ok (.getfield 29, 3) := by decide +kernel
theorem zd_LG_takeCarsFromWaiting_49 : decode zo_LG_takeCarsFromWaiting 49 = .ok (.iload_n 1, 1) := by decide +kernel
theorem zd_LG_takeCarsFromWaiting_50 : decode zo_LG_takeCarsFromWaiting 50 = .ok (.aaload, 1) := by decide +kernel
theorem zd_LG_takeCarsFromWaiting_51 : decode zo_LG_takeCarsFromWaiting 51 = .ok (.getfield 179, 3) := by decide +kernel
theorem zd_LG_takeCarsFromWaiting_54 : decode zo_LG_takeCarsFromWaiting 54 = .ok (.ifCond .ne 13, 3) := by decide +kernel
theorem zd_LG_takeCarsFromWaiting_57 : decode zo_LG_takeCarsFromWaiting 57 = .ok (.aload_n 0, 1) := by decide +kernel
theorem zd_LG_takeCarsFromWaiting_58 : decode zo_LG_takeCarsFromWaiting 58 = .ok (.getfield 29, 3) := by decide +kernel
theorem zd_LG_takeCarsFromWaiting_61 : decode zo_LG_takeCarsFromWaiting 61 = .ok (.iload_n 1, 1) := by decide +kernel
theorem zd_LG_takeCarsFromWaiting_62 : decode zo_LG_takeCarsFromWaiting 62 = .ok (.aaload, 1) := by decide +kernel
theorem zd_LG_takeCarsFromWaiting_63 : decode zo_LG_takeCarsFromWaiting 63 = .ok (.iconst (-1), 1) := by decide +kernel
theorem zd_LG_takeCarsFromWaiting_64 : decode zo_LG_takeCarsFromWaiting 64 = .ok (.putfield 93, 3) := by decide +kernel
theorem zd_LG_takeCarsFromWaiting_67 : decode zo_LG_takeCarsFromWaiting 67 = .ok (.iinc 1 1, 3) := by decide +kernel
theorem zd_LG_takeCarsFromWaiting_70 : decode zo_LG_takeCarsFromWaiting 70 = .ok (.goto (-33), 3) := by decide +kernel
theorem zd_LG_takeCarsFromWaiting_73 : decode zo_LG_takeCarsFromWaiting 73 = .ok (.return_, 1) := by decide +kernel
abbrev zo_LG_worstWith : ByteArray := prog_1_method_28_code
abbrev zy_LG_worstWith : MethodName := ⟨"LiftGroup", "worstWith", "(LLiftGroup$Car;I)I"⟩
theorem zd_LG_worstWith_0 : decode zo_LG_worstWith 0 = .ok (.aload_n 0, 1) := by decide +kernel
theorem zd_LG_worstWith_1 : decode zo_LG_worstWith 1 = .ok (.getfield 23, 3) := by decide +kernel
theorem zd_LG_worstWith_4 : decode zo_LG_worstWith 4 = .ok (.aload_n 1, 1) := by decide +kernel
theorem zd_LG_worstWith_5 : decode zo_LG_worstWith 5 = .ok (.invokevirtual 199, 3) := by decide +kernel
theorem zd_LG_worstWith_8 : decode zo_LG_worstWith 8 = .ok (.aload_n 0, 1) := by decide +kernel
theorem zd_LG_worstWith_9 : decode zo_LG_worstWith 9 = .ok (.getfield 23, 3) := by decide +kernel
theorem zd_LG_worstWith_12 : decode zo_LG_worstWith 12 = .ok (.dup, 1) := by decide +kernel
theorem zd_LG_worstWith_13 : decode zo_LG_worstWith 13 = .ok (.getfield 269, 3) := by decide +kernel
theorem zd_LG_worstWith_16 : decode zo_LG_worstWith 16 = .ok (.iload_n 2, 1) := by decide +kernel
theorem zd_LG_worstWith_17 : decode zo_LG_worstWith 17 = .ok (.ior, 1) := by decide +kernel
theorem zd_LG_worstWith_18 : decode zo_LG_worstWith 18 = .ok (.putfield 269, 3) := by decide +kernel
theorem zd_LG_worstWith_21 : decode zo_LG_worstWith 21 = .ok (.aload_n 0, 1) := by decide +kernel
theorem zd_LG_worstWith_22 : decode zo_LG_worstWith 22 = .ok (.getfield 23, 3) := by decide +kernel
theorem zd_LG_worstWith_25 : decode zo_LG_worstWith 25 = .ok (.invokevirtual 276, 3) := by decide +kernel
theorem zd_LG_worstWith_28 : decode zo_LG_worstWith 28 = .ok (.ifCond .ne 5, 3) := by decide +kernel
theorem zd_LG_worstWith_31 : decode zo_LG_worstWith 31 = .ok (.iconst 0, 1) := by decide +kernel
theorem zd_LG_worstWith_32 : decode zo_LG_worstWith 32 = .ok (.ireturn, 1) := by decide +kernel
theorem zd_LG_worstWith_33 : decode zo_LG_worstWith 33 = .ok (.aload_n 1, 1) := by decide +kernel
theorem zd_LG_worstWith_34 : decode zo_LG_worstWith 34 = .ok (.getfield 101, 3) := by decide +kernel
theorem zd_LG_worstWith_37 : decode zo_LG_worstWith 37 = .ok (.ifCond .eq 7, 3) := by decide +kernel
theorem zd_LG_worstWith_40 : decode zo_LG_worstWith 40 = .ok (.sipush 1000, 3) := by decide +kernel
theorem zd_LG_worstWith_43 : decode zo_LG_worstWith 43 = .ok (.ireturn, 1) := by decide +kernel
theorem zd_LG_worstWith_44 : decode zo_LG_worstWith 44 = .ok (.iconst 1, 1) := by decide +kernel
theorem zd_LG_worstWith_45 : decode zo_LG_worstWith 45 = .ok (.istore_n 3, 1) := by decide +kernel
theorem zd_LG_worstWith_46 : decode zo_LG_worstWith 46 = .ok (.iload_n 3, 1) := by decide +kernel
theorem zd_LG_worstWith_47 : decode zo_LG_worstWith 47 = .ok (.sipush 1000, 3) := by decide +kernel
theorem zd_LG_worstWith_50 : decode zo_LG_worstWith 50 = .ok (.if_icmp .gt 46, 3) := by decide +kernel
theorem zd_LG_worstWith_53 : decode zo_LG_worstWith 53 = .ok (.aload_n 0, 1) := by decide +kernel
theorem zd_LG_worstWith_54 : decode zo_LG_worstWith 54 = .ok (.getfield 23, 3) := by decide +kernel
theorem zd_LG_worstWith_57 : decode zo_LG_worstWith 57 = .ok (.aload_n 0, 1) := by decide +kernel
theorem zd_LG_worstWith_58 : decode zo_LG_worstWith 58 = .ok (.getfield 10, 3) := by decide +kernel
theorem zd_LG_worstWith_61 : decode zo_LG_worstWith 61 = .ok (.invokevirtual 105, 3) := by decide +kernel
theorem zd_LG_worstWith_64 : decode zo_LG_worstWith 64 = .ok (.aload_n 0, 1) := by decide +kernel
theorem zd_LG_worstWith_65 : decode zo_LG_worstWith 65 = .ok (.getfield 23, 3) := by decide +kernel
theorem zd_LG_worstWith_68 : decode zo_LG_worstWith 68 = .ok (.getfield 206, 3) := by decide +kernel
theorem zd_LG_worstWith_71 : decode zo_LG_worstWith 71 = .ok (.ifCond .eq 7, 3) := by decide +kernel
theorem zd_LG_worstWith_74 : decode zo_LG_worstWith 74 = .ok (.sipush 1000, 3) := by decide +kernel
theorem zd_LG_worstWith_77 : decode zo_LG_worstWith 77 = .ok (.ireturn, 1) := by decide +kernel
theorem zd_LG_worstWith_78 : decode zo_LG_worstWith 78 = .ok (.aload_n 0, 1) := by decide +kernel
theorem zd_LG_worstWith_79 : decode zo_LG_worstWith 79 = .ok (.getfield 23, 3) := by decide +kernel
theorem zd_LG_worstWith_82 : decode zo_LG_worstWith 82 = .ok (.invokevirtual 276, 3) := by decide +kernel
theorem zd_LG_worstWith_85 : decode zo_LG_worstWith 85 = .ok (.ifCond .ne 5, 3) := by decide +kernel
theorem zd_LG_worstWith_88 : decode zo_LG_worstWith 88 = .ok (.iload_n 3, 1) := by decide +kernel
theorem zd_LG_worstWith_89 : decode zo_LG_worstWith 89 = .ok (.ireturn, 1) := by decide +kernel
theorem zd_LG_worstWith_90 : decode zo_LG_worstWith 90 = .ok (.iinc 3 1, 3) := by decide +kernel
theorem zd_LG_worstWith_93 : decode zo_LG_worstWith 93 = .ok (.goto (-47), 3) := by decide +kernel
theorem zd_LG_worstWith_96 : decode zo_LG_worstWith 96 = .ok (.sipush 1000, 3) := by decide +kernel
theorem zd_LG_worstWith_99 : decode zo_LG_worstWith 99 = .ok (.ireturn, 1) := by decide +kernel
abbrev zo_LG_chooseCar : ByteArray := prog_1_method_27_code
abbrev zy_LG_chooseCar : MethodName := ⟨"LiftGroup", "chooseCar", "(I)V"⟩
theorem zd_LG_chooseCar_0 : decode zo_LG_chooseCar 0 = .ok (.iconst 1, 1) := by decide +kernel
theorem zd_LG_chooseCar_1 : decode zo_LG_chooseCar 1 = .ok (.iload_n 1, 1) := by decide +kernel
theorem zd_LG_chooseCar_2 : decode zo_LG_chooseCar 2 = .ok (.ishl, 1) := by decide +kernel
theorem zd_LG_chooseCar_3 : decode zo_LG_chooseCar 3 = .ok (.istore_n 2, 1) := by decide +kernel
theorem zd_LG_chooseCar_4 : decode zo_LG_chooseCar 4 = .ok (.iconst (-1), 1) := by decide +kernel
theorem zd_LG_chooseCar_5 : decode zo_LG_chooseCar 5 = .ok (.istore_n 3, 1) := by decide +kernel
theorem zd_LG_chooseCar_6 : decode zo_LG_chooseCar 6 = .ok (.iconst 0, 1) := by decide +kernel
theorem zd_LG_chooseCar_7 : decode zo_LG_chooseCar 7 = .ok (.istore 4, 2) := by decide +kernel
theorem zd_LG_chooseCar_9 : decode zo_LG_chooseCar 9 = .ok (.iconst 0, 1) := by decide +kernel
theorem zd_LG_chooseCar_10 : decode zo_LG_chooseCar 10 = .ok (.istore 5, 2) := by decide +kernel
theorem zd_LG_chooseCar_12 : decode zo_LG_chooseCar 12 = .ok (.iload 5, 2) := by decide +kernel
theorem zd_LG_chooseCar_14 : decode zo_LG_chooseCar 14 = .ok (.aload_n 0, 1) := by decide +kernel
theorem zd_LG_chooseCar_15 : decode zo_LG_chooseCar 15 = .ok (.getfield 98, 3) := by decide +kernel
theorem zd_LG_chooseCar_18 : decode zo_LG_chooseCar 18 = .ok (.if_icmp .ge 69, 3) := by decide +kernel
theorem zd_LG_chooseCar_21 : decode zo_LG_chooseCar 21 = .ok (.aload_n 0, 1) := by decide +kernel
theorem zd_LG_chooseCar_22 : decode zo_LG_chooseCar 22 = .ok (.aload_n 0, 1) := by decide +kernel
theorem zd_LG_chooseCar_23 : decode zo_LG_chooseCar 23 = .ok (.getfield 18, 3) := by decide +kernel
theorem zd_LG_chooseCar_26 : decode zo_LG_chooseCar 26 = .ok (.iload 5, 2) := by decide +kernel
theorem zd_LG_chooseCar_28 : decode zo_LG_chooseCar 28 = .ok (.aaload, 1) := by decide +kernel
theorem zd_LG_chooseCar_29 : decode zo_LG_chooseCar 29 = .ok (.invokevirtual 265, 3) := by decide +kernel
theorem zd_LG_chooseCar_32 : decode zo_LG_chooseCar 32 = .ok (.ifCond .eq 49, 3) := by decide +kernel
theorem zd_LG_chooseCar_35 : decode zo_LG_chooseCar 35 = .ok (.aload_n 0, 1) := by decide +kernel
theorem zd_LG_chooseCar_36 : decode zo_LG_chooseCar 36 = .ok (.aload_n 0, 1) := by decide +kernel
theorem zd_LG_chooseCar_37 : decode zo_LG_chooseCar 37 = .ok (.getfield 18, 3) := by decide +kernel
theorem zd_LG_chooseCar_40 : decode zo_LG_chooseCar 40 = .ok (.iload 5, 2) := by decide +kernel
theorem zd_LG_chooseCar_42 : decode zo_LG_chooseCar 42 = .ok (.aaload, 1) := by decide +kernel
theorem zd_LG_chooseCar_43 : decode zo_LG_chooseCar 43 = .ok (.iload_n 2, 1) := by decide +kernel
theorem zd_LG_chooseCar_44 : decode zo_LG_chooseCar 44 = .ok (.invokevirtual 171, 3) := by decide +kernel
theorem zd_LG_chooseCar_47 : decode zo_LG_chooseCar 47 = .ok (.aload_n 0, 1) := by decide +kernel
theorem zd_LG_chooseCar_48 : decode zo_LG_chooseCar 48 = .ok (.aload_n 0, 1) := by decide +kernel
theorem zd_LG_chooseCar_49 : decode zo_LG_chooseCar 49 = .ok (.getfield 18, 3) := by decide +kernel
theorem zd_LG_chooseCar_52 : decode zo_LG_chooseCar 52 = .ok (.iload 5, 2) := by decide +kernel
theorem zd_LG_chooseCar_54 : decode zo_LG_chooseCar 54 = .ok (.aaload, 1) := by decide +kernel
theorem zd_LG_chooseCar_55 : decode zo_LG_chooseCar 55 = .ok (.iconst 0, 1) := by decide +kernel
theorem zd_LG_chooseCar_56 : decode zo_LG_chooseCar 56 = .ok (.invokevirtual 171, 3) := by decide +kernel
theorem zd_LG_chooseCar_59 : decode zo_LG_chooseCar 59 = .ok (.isub, 1) := by decide +kernel
theorem zd_LG_chooseCar_60 : decode zo_LG_chooseCar 60 = .ok (.istore 6, 2) := by decide +kernel
theorem zd_LG_chooseCar_62 : decode zo_LG_chooseCar 62 = .ok (.iload_n 3, 1) := by decide +kernel
theorem zd_LG_chooseCar_63 : decode zo_LG_chooseCar 63 = .ok (.iconst (-1), 1) := by decide +kernel
theorem zd_LG_chooseCar_64 : decode zo_LG_chooseCar 64 = .ok (.if_icmp .eq 10, 3) := by decide +kernel
theorem zd_LG_chooseCar_67 : decode zo_LG_chooseCar 67 = .ok (.iload 6, 2) := by decide +kernel
theorem zd_LG_chooseCar_69 : decode zo_LG_chooseCar 69 = .ok (.iload 4, 2) := by decide +kernel
theorem zd_LG_chooseCar_71 : decode zo_LG_chooseCar 71 = .ok (.if_icmp .ge 10, 3) := by decide +kernel
theorem zd_LG_chooseCar_74 : decode zo_LG_chooseCar 74 = .ok (.iload 5, 2) := by decide +kernel
theorem zd_LG_chooseCar_76 : decode zo_LG_chooseCar 76 = .ok (.istore_n 3, 1) := by decide +kernel
theorem zd_LG_chooseCar_77 : decode zo_LG_chooseCar 77 = .ok (.iload 6, 2) := by decide +kernel
theorem zd_LG_chooseCar_79 : decode zo_LG_chooseCar 79 = .ok (.istore 4, 2) := by decide +kernel
theorem zd_LG_chooseCar_81 : decode zo_LG_chooseCar 81 = .ok (.iinc 5 1, 3) := by decide +kernel
theorem zd_LG_chooseCar_84 : decode zo_LG_chooseCar 84 = .ok (.goto (-72), 3) := by decide +kernel
theorem zd_LG_chooseCar_87 : decode zo_LG_chooseCar 87 = .ok (.aload_n 0, 1) := by decide +kernel
theorem zd_LG_chooseCar_88 : decode zo_LG_chooseCar 88 = .ok (.getfield 29, 3) := by decide +kernel
theorem zd_LG_chooseCar_91 : decode zo_LG_chooseCar 91 = .ok (.iload_n 1, 1) := by decide +kernel
theorem zd_LG_chooseCar_92 : decode zo_LG_chooseCar 92 = .ok (.aaload, 1) := by decide +kernel
theorem zd_LG_chooseCar_93 : decode zo_LG_chooseCar 93 = .ok (.iload_n 3, 1) := by decide +kernel
theorem zd_LG_chooseCar_94 : decode zo_LG_chooseCar 94 = .ok (.putfield 93, 3) := by decide +kernel
theorem zd_LG_chooseCar_97 : decode zo_LG_chooseCar 97 = .ok (.iload_n 3, 1) := by decide +kernel
theorem zd_LG_chooseCar_98 : decode zo_LG_chooseCar 98 = .ok (.iconst (-1), 1) := by decide +kernel
theorem zd_LG_chooseCar_99 : decode zo_LG_chooseCar 99 = .ok (.if_icmp .ne 30, 3) := by decide +kernel
theorem zd_LG_chooseCar_102 : decode zo_LG_chooseCar 102 = .ok (.aload_n 0, 1) := by decide +kernel
theorem zd_LG_chooseCar_103 : decode zo_LG_chooseCar 103 = .ok (.dup, 1) := by decide +kernel
theorem zd_LG_chooseCar_104 : decode zo_LG_chooseCar 104 = .ok (.getfield 252, 3) := by decide +kernel
theorem zd_LG_chooseCar_107 : decode zo_LG_chooseCar 107 = .ok (.iload_n 2, 1) := by decide +kernel
theorem zd_LG_chooseCar_108 : decode zo_LG_chooseCar 108 = .ok (.ior, 1) := by decide +kernel
theorem zd_LG_chooseCar_109 : decode zo_LG_chooseCar 109 = .ok (.putfield 252, 3) := by decide +kernel
theorem zd_LG_chooseCar_112 : decode zo_LG_chooseCar 112 = .ok (.aload_n 0, 1) := by decide +kernel
theorem zd_LG_chooseCar_113 : decode zo_LG_chooseCar 113 = .ok (.getfield 37, 3) := by decide +kernel
theorem zd_LG_chooseCar_116 : decode zo_LG_chooseCar 116 = .ok (.aload_n 0, 1) := by decide +kernel
theorem zd_LG_chooseCar_117 : decode zo_LG_chooseCar 117 = .ok (.getfield 80, 3) := by decide +kernel
theorem zd_LG_chooseCar_120 : decode zo_LG_chooseCar 120 = .ok (.iconst 5, 1) := by decide +kernel
theorem zd_LG_chooseCar_121 : decode zo_LG_chooseCar 121 = .ok (.iload_n 1, 1) := by decide +kernel
theorem zd_LG_chooseCar_122 : decode zo_LG_chooseCar 122 = .ok (.iconst (-1), 1) := by decide +kernel
theorem zd_LG_chooseCar_123 : decode zo_LG_chooseCar 123 = .ok (.invokevirtual 272, 3) := by decide +kernel
theorem zd_LG_chooseCar_126 : decode zo_LG_chooseCar 126 = .ok (.goto 32, 3) := by decide +kernel
theorem zd_LG_chooseCar_129 : decode zo_LG_chooseCar 129 = .ok (.aload_n 0, 1) := by decide +kernel
theorem zd_LG_chooseCar_130 : decode zo_LG_chooseCar 130 = .ok (.getfield 18, 3) := by decide +kernel
theorem zd_LG_chooseCar_133 : decode zo_LG_chooseCar 133 = .ok (.iload_n 3, 1) := by decide +kernel
theorem zd_LG_chooseCar_134 : decode zo_LG_chooseCar 134 = .ok (.aaload, 1) := by decide +kernel
theorem zd_LG_chooseCar_135 : decode zo_LG_chooseCar 135 = .ok (.dup, 1) := by decide +kernel
theorem zd_LG_chooseCar_136 : decode zo_LG_chooseCar 136 = .ok (.getfield 269, 3) := by decide +kernel
theorem zd_LG_chooseCar_139 : decode zo_LG_chooseCar 139 = .ok (.iload_n 2, 1) := by decide +kernel
theorem zd_LG_chooseCar_140 : decode zo_LG_chooseCar 140 = .ok (.ior, 1) := by decide +kernel
theorem zd_LG_chooseCar_141 : decode zo_LG_chooseCar 141 = .ok (.putfield 269, 3) := by decide +kernel
theorem zd_LG_chooseCar_144 : decode zo_LG_chooseCar 144 = .ok (.aload_n 0, 1) := by decide +kernel
theorem zd_LG_chooseCar_145 : decode zo_LG_chooseCar 145 = .ok (.getfield 37, 3) := by decide +kernel
theorem zd_LG_chooseCar_148 : decode zo_LG_chooseCar 148 = .ok (.aload_n 0, 1) := by decide +kernel
theorem zd_LG_chooseCar_149 : decode zo_LG_chooseCar 149 = .ok (.getfield 80, 3) := by decide +kernel
theorem zd_LG_chooseCar_152 : decode zo_LG_chooseCar 152 = .ok (.iconst 1, 1) := by decide +kernel
theorem zd_LG_chooseCar_153 : decode zo_LG_chooseCar 153 = .ok (.iload_n 1, 1) := by decide +kernel
theorem zd_LG_chooseCar_154 : decode zo_LG_chooseCar 154 = .ok (.iload_n 3, 1) := by decide +kernel
theorem zd_LG_chooseCar_155 : decode zo_LG_chooseCar 155 = .ok (.invokevirtual 272, 3) := by decide +kernel
theorem zd_LG_chooseCar_158 : decode zo_LG_chooseCar 158 = .ok (.return_, 1) := by decide +kernel
abbrev zo_LG_chooseForAll : ByteArray := prog_1_method_26_code
abbrev zy_LG_chooseForAll : MethodName := ⟨"LiftGroup", "chooseForAll", "(I)V"⟩
theorem zd_LG_chooseForAll_0 : decode zo_LG_chooseForAll 0 = .ok (.iconst 0, 1) := by decide +kernel
theorem zd_LG_chooseForAll_1 : decode zo_LG_chooseForAll 1 = .ok (.istore_n 2, 1) := by decide +kernel
theorem zd_LG_chooseForAll_2 : decode zo_LG_chooseForAll 2 = .ok (.iload_n 2, 1) := by decide +kernel
theorem zd_LG_chooseForAll_3 : decode zo_LG_chooseForAll 3 = .ok (.aload_n 0, 1) := by decide +kernel
theorem zd_LG_chooseForAll_4 : decode zo_LG_chooseForAll 4 = .ok (.getfield 71, 3) := by decide +kernel
theorem zd_LG_chooseForAll_7 : decode zo_LG_chooseForAll 7 = .ok (.if_icmp .ge 22, 3) := by decide +kernel
theorem zd_LG_chooseForAll_10 : decode zo_LG_chooseForAll 10 = .ok (.iload_n 1, 1) := by decide +kernel
theorem zd_LG_chooseForAll_11 : decode zo_LG_chooseForAll 11 = .ok (.iconst 1, 1) := by decide +kernel
theorem zd_LG_chooseForAll_12 : decode zo_LG_chooseForAll 12 = .ok (.iload_n 2, 1) := by decide +kernel
theorem zd_LG_chooseForAll_13 : decode zo_LG_chooseForAll 13 = .ok (.ishl, 1) := by decide +kernel
theorem zd_LG_chooseForAll_14 : decode zo_LG_chooseForAll 14 = .ok (.iand, 1) := by decide +kernel
theorem zd_LG_chooseForAll_15 : decode zo_LG_chooseForAll 15 = .ok (.ifCond .eq 8, 3) := by decide +kernel
theorem zd_LG_chooseForAll_18 : decode zo_LG_chooseForAll 18 = .ok (.aload_n 0, 1) := by decide +kernel
theorem zd_LG_chooseForAll_19 : decode zo_LG_chooseForAll 19 = .ok (.iload_n 2, 1) := by decide +kernel
theorem zd_LG_chooseForAll_20 : decode zo_LG_chooseForAll 20 = .ok (.invokevirtual 89, 3) := by decide +kernel
theorem zd_LG_chooseForAll_23 : decode zo_LG_chooseForAll 23 = .ok (.iinc 2 1, 3) := by decide +kernel
theorem zd_LG_chooseForAll_26 : decode zo_LG_chooseForAll 26 = .ok (.goto (-24), 3) := by decide +kernel
theorem zd_LG_chooseForAll_29 : decode zo_LG_chooseForAll 29 = .ok (.return_, 1) := by decide +kernel
abbrev zo_LG_changeRider : ByteArray := prog_1_method_31_code
abbrev zy_LG_changeRider : MethodName := ⟨"LiftGroup", "changeRider", "(LLiftGroup$Rider;I)V"⟩
theorem zd_LG_changeRider_0 : decode zo_LG_changeRider 0 = .ok (.iload_n 2, 1) := by decide +kernel
theorem zd_LG_changeRider_1 : decode zo_LG_changeRider 1 = .ok (.iconst 2, 1) := by decide +kernel
theorem zd_LG_changeRider_2 : decode zo_LG_changeRider 2 = .ok (.if_icmp .ne 9, 3) := by decide +kernel
theorem zd_LG_changeRider_5 : decode zo_LG_changeRider 5 = .ok (.aload_n 1, 1) := by decide +kernel
theorem zd_LG_changeRider_6 : decode zo_LG_changeRider 6 = .ok (.iconst 1, 1) := by decide +kernel
theorem zd_LG_changeRider_7 : decode zo_LG_changeRider 7 = .ok (.putfield 179, 3) := by decide +kernel
theorem zd_LG_changeRider_10 : decode zo_LG_changeRider 10 = .ok (.return_, 1) := by decide +kernel
theorem zd_LG_changeRider_11 : decode zo_LG_changeRider 11 = .ok (.aload_n 1, 1) := by decide +kernel
theorem zd_LG_changeRider_12 : decode zo_LG_changeRider 12 = .ok (.iload_n 2, 1) := by decide +kernel
theorem zd_LG_changeRider_13 : decode zo_LG_changeRider 13 = .ok (.iconst 3, 1) := by decide +kernel
theorem zd_LG_changeRider_14 : decode zo_LG_changeRider 14 = .ok (.if_icmp .ne 7, 3) := by decide +kernel
theorem zd_LG_changeRider_17 : decode zo_LG_changeRider 17 = .ok (.iconst 2, 1) := by decide +kernel
theorem zd_LG_changeRider_18 : decode zo_LG_changeRider 18 = .ok (.goto 4, 3) := by decide +kernel
theorem zd_LG_changeRider_21 : decode zo_LG_changeRider 21 = .ok (.iconst 3, 1) := by decide +kernel
theorem zd_LG_changeRider_22 : decode zo_LG_changeRider 22 = .ok (.putfield 179, 3) := by decide +kernel
theorem zd_LG_changeRider_25 : decode zo_LG_changeRider 25 = .ok (.aload_n 1, 1) := by decide +kernel
theorem zd_LG_changeRider_26 : decode zo_LG_changeRider 26 = .ok (.aload_n 0, 1) := by decide +kernel
theorem zd_LG_changeRider_27 : decode zo_LG_changeRider 27 = .ok (.getfield 80, 3) := by decide +kernel
theorem zd_LG_changeRider_30 : decode zo_LG_changeRider 30 = .ok (.aload_n 1, 1) := by decide +kernel
theorem zd_LG_changeRider_31 : decode zo_LG_changeRider 31 = .ok (.getfield 194, 3) := by decide +kernel
theorem zd_LG_changeRider_34 : decode zo_LG_changeRider 34 = .ok (.isub, 1) := by decide +kernel
theorem zd_LG_changeRider_35 : decode zo_LG_changeRider 35 = .ok (.putfield 191, 3) := by decide +kernel
theorem zd_LG_changeRider_38 : decode zo_LG_changeRider 38 = .ok (.iload_n 2, 1) := by decide +kernel
theorem zd_LG_changeRider_39 : decode zo_LG_changeRider 39 = .ok (.iconst 3, 1) := by decide +kernel
theorem zd_LG_changeRider_40 : decode zo_LG_changeRider 40 = .ok (.if_icmp .ne 41, 3) := by decide +kernel
theorem zd_LG_changeRider_43 : decode zo_LG_changeRider 43 = .ok (.aload_n 0, 1) := by decide +kernel
theorem zd_LG_changeRider_44 : decode zo_LG_changeRider 44 = .ok (.dup, 1) := by decide +kernel
theorem zd_LG_changeRider_45 : decode zo_LG_changeRider 45 = .ok (.getfield 238, 3) := by decide +kernel
theorem zd_LG_changeRider_48 : decode zo_LG_changeRider 48 = .ok (.iconst 1, 1) := by decide +kernel
theorem zd_LG_changeRider_49 : decode zo_LG_changeRider 49 = .ok (.iadd, 1) := by decide +kernel
theorem zd_LG_changeRider_50 : decode zo_LG_changeRider 50 = .ok (.putfield 238, 3) := by decide +kernel
theorem zd_LG_changeRider_53 : decode zo_LG_changeRider 53 = .ok (.aload_n 0, 1) := by decide +kernel
theorem zd_LG_changeRider_54 : decode zo_LG_changeRider 54 = .ok (.aload_n 0, 1) := by decide +kernel
theorem zd_LG_changeRider_55 : decode zo_LG_changeRider 55 = .ok (.getfield 241, 3) := by decide +kernel
theorem zd_LG_changeRider_58 : decode zo_LG_changeRider 58 = .ok (.aload_n 1, 1) := by decide +kernel
theorem zd_LG_changeRider_59 : decode zo_LG_changeRider 59 = .ok (.getfield 191, 3) := by decide +kernel
theorem zd_LG_changeRider_62 : decode zo_LG_changeRider 62 = .ok (.invokestatic 289, 3) := by decide +kernel
theorem zd_LG_changeRider_65 : decode zo_LG_changeRider 65 = .ok (.putfield 241, 3) := by decide +kernel
theorem zd_LG_changeRider_68 : decode zo_LG_changeRider 68 = .ok (.aload_n 0, 1) := by decide +kernel
theorem zd_LG_changeRider_69 : decode zo_LG_changeRider 69 = .ok (.dup, 1) := by decide +kernel
theorem zd_LG_changeRider_70 : decode zo_LG_changeRider 70 = .ok (.getfield 244, 3) := by decide +kernel
theorem zd_LG_changeRider_73 : decode zo_LG_changeRider 73 = .ok (.aload_n 1, 1) := by decide +kernel
theorem zd_LG_changeRider_74 : decode zo_LG_changeRider 74 = .ok (.getfield 191, 3) := by decide +kernel
theorem zd_LG_changeRider_77 : decode zo_LG_changeRider 77 = .ok (.iadd, 1) := by decide +kernel
theorem zd_LG_changeRider_78 : decode zo_LG_changeRider 78 = .ok (.putfield 244, 3) := by decide +kernel
theorem zd_LG_changeRider_81 : decode zo_LG_changeRider 81 = .ok (.return_, 1) := by decide +kernel
abbrev zo_LG_noteAll : ByteArray := prog_1_method_30_code
abbrev zy_LG_noteAll : MethodName := ⟨"LiftGroup", "noteAll", "(III)V"⟩
theorem zd_LG_noteAll_0 : decode zo_LG_noteAll 0 = .ok (.iconst 0, 1) := by decide +kernel
theorem zd_LG_noteAll_1 : decode zo_LG_noteAll 1 = .ok (.istore 4, 2) := by decide +kernel
theorem zd_LG_noteAll_3 : decode zo_LG_noteAll 3 = .ok (.iload 4, 2) := by decide +kernel
theorem zd_LG_noteAll_5 : decode zo_LG_noteAll 5 = .ok (.aload_n 0, 1) := by decide +kernel
theorem zd_LG_noteAll_6 : decode zo_LG_noteAll 6 = .ok (.getfield 71, 3) := by decide +kernel
theorem zd_LG_noteAll_9 : decode zo_LG_noteAll 9 = .ok (.if_icmp .ge 45, 3) := by decide +kernel
theorem zd_LG_noteAll_12 : decode zo_LG_noteAll 12 = .ok (.iload_n 1, 1) := by decide +kernel
theorem zd_LG_noteAll_13 : decode zo_LG_noteAll 13 = .ok (.iconst 1, 1) := by decide +kernel
theorem zd_LG_noteAll_14 : decode zo_LG_noteAll 14 = .ok (.iload 4, 2) := by decide +kernel
theorem zd_LG_noteAll_16 : decode zo_LG_noteAll 16 = .ok (.ishl, 1) := by decide +kernel
theorem zd_LG_noteAll_17 : decode zo_LG_noteAll 17 = .ok (.iand, 1) := by decide +kernel
theorem zd_LG_noteAll_18 : decode zo_LG_noteAll 18 = .ok (.ifCond .eq 30, 3) := by decide +kernel
theorem zd_LG_noteAll_21 : decode zo_LG_noteAll 21 = .ok (.aload_n 0, 1) := by decide +kernel
theorem zd_LG_noteAll_22 : decode zo_LG_noteAll 22 = .ok (.aload_n 0, 1) := by decide +kernel
theorem zd_LG_noteAll_23 : decode zo_LG_noteAll 23 = .ok (.getfield 29, 3) := by decide +kernel
theorem zd_LG_noteAll_26 : decode zo_LG_noteAll 26 = .ok (.iload 4, 2) := by decide +kernel
theorem zd_LG_noteAll_28 : decode zo_LG_noteAll 28 = .ok (.aaload, 1) := by decide +kernel
theorem zd_LG_noteAll_29 : decode zo_LG_noteAll 29 = .ok (.iload_n 2, 1) := by decide +kernel
theorem zd_LG_noteAll_30 : decode zo_LG_noteAll 30 = .ok (.invokevirtual 285, 3) := by decide +kernel
theorem zd_LG_noteAll_33 : decode zo_LG_noteAll 33 = .ok (.aload_n 0, 1) := by decide +kernel
theorem zd_LG_noteAll_34 : decode zo_LG_noteAll 34 = .ok (.getfield 37, 3) := by decide +kernel
theorem zd_LG_noteAll_37 : decode zo_LG_noteAll 37 = .ok (.aload_n 0, 1) := by decide +kernel
theorem zd_LG_noteAll_38 : decode zo_LG_noteAll 38 = .ok (.getfield 80, 3) := by decide +kernel
theorem zd_LG_noteAll_41 : decode zo_LG_noteAll 41 = .ok (.iload_n 2, 1) := by decide +kernel
theorem zd_LG_noteAll_42 : decode zo_LG_noteAll 42 = .ok (.iload 4, 2) := by decide +kernel
theorem zd_LG_noteAll_44 : decode zo_LG_noteAll 44 = .ok (.iload_n 3, 1) := by decide +kernel
theorem zd_LG_noteAll_45 : decode zo_LG_noteAll 45 = .ok (.invokevirtual 272, 3) := by decide +kernel
theorem zd_LG_noteAll_48 : decode zo_LG_noteAll 48 = .ok (.iinc 4 1, 3) := by decide +kernel
theorem zd_LG_noteAll_51 : decode zo_LG_noteAll 51 = .ok (.goto (-48), 3) := by decide +kernel
theorem zd_LG_noteAll_54 : decode zo_LG_noteAll 54 = .ok (.return_, 1) := by decide +kernel
abbrev zo_LG_noteExchange : ByteArray := prog_1_method_29_code
abbrev zy_LG_noteExchange : MethodName := ⟨"LiftGroup", "noteExchange", "(I)V"⟩
theorem zd_LG_noteExchange_0 : decode zo_LG_noteExchange 0 = .ok (.aload_n 0, 1) := by decide +kernel
theorem zd_LG_noteExchange_1 : decode zo_LG_noteExchange 1 = .ok (.getfield 18, 3) := by decide +kernel
theorem zd_LG_noteExchange_4 : decode zo_LG_noteExchange 4 = .ok (.iload_n 1, 1) := by decide +kernel
theorem zd_LG_noteExchange_5 : decode zo_LG_noteExchange 5 = .ok (.aaload, 1) := by decide +kernel
theorem zd_LG_noteExchange_6 : decode zo_LG_noteExchange 6 = .ok (.astore_n 2, 1) := by decide +kernel
theorem zd_LG_noteExchange_7 : decode zo_LG_noteExchange 7 = .ok (.aload_n 2, 1) := by decide +kernel
theorem zd_LG_noteExchange_8 : decode zo_LG_noteExchange 8 = .ok (.getfield 203, 3) := by decide +kernel
theorem zd_LG_noteExchange_11 : decode zo_LG_noteExchange 11 = .ok (.ifCond .eq 13, 3) := by decide +kernel
theorem zd_LG_noteExchange_14 : decode zo_LG_noteExchange 14 = .ok (.aload_n 0, 1) := by decide +kernel
theorem zd_LG_noteExchange_15 : decode zo_LG_noteExchange 15 = .ok (.aload_n 2, 1) := by decide +kernel
theorem zd_LG_noteExchange_16 : decode zo_LG_noteExchange 16 = .ok (.getfield 203, 3) := by decide +kernel
theorem zd_LG_noteExchange_19 : decode zo_LG_noteExchange 19 = .ok (.iconst 3, 1) := by decide +kernel
theorem zd_LG_noteExchange_20 : decode zo_LG_noteExchange 20 = .ok (.iload_n 1, 1) := by decide +kernel
theorem zd_LG_noteExchange_21 : decode zo_LG_noteExchange 21 = .ok (.invokevirtual 279, 3) := by decide +kernel
theorem zd_LG_noteExchange_24 : decode zo_LG_noteExchange 24 = .ok (.aload_n 2, 1) := by decide +kernel
theorem zd_LG_noteExchange_25 : decode zo_LG_noteExchange 25 = .ok (.getfield 206, 3) := by decide +kernel
theorem zd_LG_noteExchange_28 : decode zo_LG_noteExchange 28 = .ok (.ifCond .eq 13, 3) := by decide +kernel
theorem zd_LG_noteExchange_31 : decode zo_LG_noteExchange 31 = .ok (.aload_n 0, 1) := by decide +kernel
theorem zd_LG_noteExchange_32 : decode zo_LG_noteExchange 32 = .ok (.aload_n 2, 1) := by decide +kernel
theorem zd_LG_noteExchange_33 : decode zo_LG_noteExchange 33 = .ok (.getfield 206, 3) := by decide +kernel
theorem zd_LG_noteExchange_36 : decode zo_LG_noteExchange 36 = .ok (.iconst 4, 1) := by decide +kernel
theorem zd_LG_noteExchange_37 : decode zo_LG_noteExchange 37 = .ok (.iload_n 1, 1) := by decide +kernel
theorem zd_LG_noteExchange_38 : decode zo_LG_noteExchange 38 = .ok (.invokevirtual 279, 3) := by decide +kernel
theorem zd_LG_noteExchange_41 : decode zo_LG_noteExchange 41 = .ok (.aload_n 2, 1) := by decide +kernel
theorem zd_LG_noteExchange_42 : decode zo_LG_noteExchange 42 = .ok (.getfield 282, 3) := by decide +kernel
theorem zd_LG_noteExchange_45 : decode zo_LG_noteExchange 45 = .ok (.ifCond .eq 13, 3) := by decide +kernel
theorem zd_LG_noteExchange_48 : decode zo_LG_noteExchange 48 = .ok (.aload_n 0, 1) := by decide +kernel
theorem zd_LG_noteExchange_49 : decode zo_LG_noteExchange 49 = .ok (.aload_n 2, 1) := by decide +kernel
theorem zd_LG_noteExchange_50 : decode zo_LG_noteExchange 50 = .ok (.getfield 282, 3) := by decide +kernel
theorem zd_LG_noteExchange_53 : decode zo_LG_noteExchange 53 = .ok (.iconst 2, 1) := by decide +kernel
theorem zd_LG_noteExchange_54 : decode zo_LG_noteExchange 54 = .ok (.iload_n 1, 1) := by decide +kernel
theorem zd_LG_noteExchange_55 : decode zo_LG_noteExchange 55 = .ok (.invokevirtual 279, 3) := by decide +kernel
theorem zd_LG_noteExchange_58 : decode zo_LG_noteExchange 58 = .ok (.return_, 1) := by decide +kernel
abbrev zo_LG_recall : ByteArray := prog_1_method_8_code
abbrev zy_LG_recall : MethodName := ⟨"LiftGroup", "recall", "(Z)V"⟩
theorem zd_LG_recall_0 : decode zo_LG_recall 0 = .ok (.aload_n 0, 1) := by decide +kernel
theorem zd_LG_recall_1 : decode zo_LG_recall 1 = .ok (.getfield 10, 3) := by decide +kernel
theorem zd_LG_recall_4 : decode zo_LG_recall 4 = .ok (.getfield 132, 3) := by decide +kernel
theorem zd_LG_recall_7 : decode zo_LG_recall 7 = .ok (.iload_n 1, 1) := by decide +kernel
theorem zd_LG_recall_8 : decode zo_LG_recall 8 = .ok (.if_icmp .ne 4, 3) := by decide +kernel
theorem zd_LG_recall_11 : decode zo_LG_recall 11 = .ok (.return_, 1) := by decide +kernel
theorem zd_LG_recall_12 : decode zo_LG_recall 12 = .ok (.aload_n 0, 1) := by decide +kernel
theorem zd_LG_recall_13 : decode zo_LG_recall 13 = .ok (.getfield 10, 3) := by decide +kernel
theorem zd_LG_recall_16 : decode zo_LG_recall 16 = .ok (.iload_n 1, 1) := by decide +kernel
theorem zd_LG_recall_17 : decode zo_LG_recall 17 = .ok (.putfield 132, 3) := by decide +kernel
theorem zd_LG_recall_20 : decode zo_LG_recall 20 = .ok (.iload_n 1, 1) := by decide +kernel
theorem zd_LG_recall_21 : decode zo_LG_recall 21 = .ok (.ifCond .eq 10, 3) := by decide +kernel
theorem zd_LG_recall_24 : decode zo_LG_recall 24 = .ok (.aload_n 0, 1) := by decide +kernel
theorem zd_LG_recall_25 : decode zo_LG_recall 25 = .ok (.invokevirtual 135, 3) := by decide +kernel
theorem zd_LG_recall_28 : decode zo_LG_recall 28 = .ok (.goto 11, 3) := by decide +kernel
theorem zd_LG_recall_31 : decode zo_LG_recall 31 = .ok (.aload_n 0, 1) := by decide +kernel
theorem zd_LG_recall_32 : decode zo_LG_recall 32 = .ok (.aload_n 0, 1) := by decide +kernel
theorem zd_LG_recall_33 : decode zo_LG_recall 33 = .ok (.invokevirtual 138, 3) := by decide +kernel
theorem zd_LG_recall_36 : decode zo_LG_recall 36 = .ok (.invokevirtual 129, 3) := by decide +kernel
theorem zd_LG_recall_39 : decode zo_LG_recall 39 = .ok (.return_, 1) := by decide +kernel
abbrev zo_LG_about : ByteArray := prog_1_method_15_code
abbrev zy_LG_about : MethodName := ⟨"LiftGroup", "about", "(I)I"⟩
theorem zd_LG_about_0 : decode zo_LG_about 0 = .ok (.iload_n 1, 1) := by decide +kernel
theorem zd_LG_about_1 : decode zo_LG_about 1 = .ok (.tableswitch 72 0 5 #[39, 44, 49, 57, 62, 67], 39) := by decide +kernel
theorem zd_LG_about_40 : decode zo_LG_about 40 = .ok (.aload_n 0, 1) := by decide +kernel
theorem zd_LG_about_41 : decode zo_LG_about 41 = .ok (.getfield 80, 3) := by decide +kernel
theorem zd_LG_about_44 : decode zo_LG_about 44 = .ok (.ireturn, 1) := by decide +kernel
theorem zd_LG_about_45 : decode zo_LG_about 45 = .ok (.aload_n 0, 1) := by decide +kernel
theorem zd_LG_about_46 : decode zo_LG_about 46 = .ok (.getfield 71, 3) := by decide +kernel
theorem zd_LG_about_49 : decode zo_LG_about 49 = .ok (.ireturn, 1) := by decide +kernel
theorem zd_LG_about_50 : decode zo_LG_about 50 = .ok (.aload_n 0, 1) := by decide +kernel
theorem zd_LG_about_51 : decode zo_LG_about 51 = .ok (.getfield 37, 3) := by decide +kernel
theorem zd_LG_about_54 : decode zo_LG_about 54 = .ok (.getfield 235, 3) := by decide +kernel
theorem zd_LG_about_57 : decode zo_LG_about 57 = .ok (.ireturn, 1) := by decide +kernel
theorem zd_LG_about_58 : decode zo_LG_about 58 = .ok (.aload_n 0, 1) := by decide +kernel
theorem zd_LG_about_59 : decode zo_LG_about 59 = .ok (.getfield 238, 3) := by decide +kernel
theorem zd_LG_about_62 : decode zo_LG_about 62 = .ok (.ireturn, 1) := by decide +kernel
theorem zd_LG_about_63 : decode zo_LG_about 63 = .ok (.aload_n 0, 1) := by decide +kernel
theorem zd_LG_about_64 : decode zo_LG_about 64 = .ok (.getfield 241, 3) := by decide +kernel
theorem zd_LG_about_67 : decode zo_LG_about 67 = .ok (.ireturn, 1) := by decide +kernel
theorem zd_LG_about_68 : decode zo_LG_about 68 = .ok (.aload_n 0, 1) := by decide +kernel
theorem zd_LG_about_69 : decode zo_LG_about 69 = .ok (.getfield 244, 3) := by decide +kernel
theorem zd_LG_about_72 : decode zo_LG_about 72 = .ok (.ireturn, 1) := by decide +kernel
theorem zd_LG_about_73 : decode zo_LG_about 73 = .ok (.iconst (-1), 1) := by decide +kernel
theorem zd_LG_about_74 : decode zo_LG_about 74 = .ok (.ireturn, 1) := by decide +kernel
section ZC5
variable {p : Program} {l : Launch} {e : Env} {s : State} {m : MethodId} {args : Array Value} {below : List Frame} {meth : Method} {c : Code} {E : zE} {A : Nat → Prop}
theorem zwf_LG_10 : Cond.fieldLink zR0 10 (zT0 0).1 (zT0 0).2.1 (zT0 0).2.2.1 ∈ zwAll := zw_at 235 rfl rfl
theorem zcal_Ho_startAnew : zw_cal zR1 zy_Ho_startAnew zo_Ho_startAnew 4 none 2 := ⟨zw_at 224 rfl rfl, zw_at 225 rfl rfl, zw_at 48 rfl rfl, zw_at 226 rfl rfl, rfl, by decide, by decide, by decide +kernel⟩
theorem zml_LG_247 : Cond.methodLink zR0 247 zy_Ho_startAnew ∈ zwAll := zw_at 223 rfl rfl
theorem zwf_LG_18 : Cond.fieldLink zR0 18 (zT0 1).1 (zT0 1).2.1 (zT0 1).2.2.1 ∈ zwAll := zw_at 236 rfl rfl
theorem zcal_Ca_startAnew : zw_cal zR2 zy_Ca_startAnew zo_Ca_startAnew 1 none 0 := ⟨zw_at 228 rfl rfl, zw_at 229 rfl rfl, zw_at 49 rfl rfl, zw_at 230 rfl rfl, rfl, by decide, by decide, by decide +kernel⟩
theorem zml_LG_250 : Cond.methodLink zR0 250 zy_Ca_startAnew ∈ zwAll := zw_at 227 rfl rfl
theorem zwf_LG_37 : Cond.fieldLink zR0 37 (zT0 4).1 (zT0 4).2.1 (zT0 4).2.2.1 ∈ zwAll := zw_at 239 rfl rfl
theorem zwf_LG_235 : Cond.fieldLink zR0 235 (zT4 4).1 (zT4 4).2.1 (zT4 4).2.2.1 ∈ zwAll := zw_at 207 rfl rfl
theorem zwf_LG_98 : Cond.fieldLink zR0 98 (zT0 5).1 (zT0 5).2.1 (zT0 5).2.2.1 ∈ zwAll := zw_at 240 rfl rfl
theorem zwf_LG_71 : Cond.fieldLink zR0 71 (zT0 6).1 (zT0 6).2.1 (zT0 6).2.2.1 ∈ zwAll := zw_at 241 rfl rfl
theorem zwf_LG_252 : Cond.fieldLink zR0 252 (zT0 7).1 (zT0 7).2.1 (zT0 7).2.2.1 ∈ zwAll := zw_at 242 rfl rfl
theorem zwf_LG_80 : Cond.fieldLink zR0 80 (zT0 8).1 (zT0 8).2.1 (zT0 8).2.2.1 ∈ zwAll := zw_at 243 rfl rfl
theorem zwf_LG_238 : Cond.fieldLink zR0 238 (zT0 9).1 (zT0 9).2.1 (zT0 9).2.2.1 ∈ zwAll := zw_at 244 rfl rfl
theorem zwf_LG_241 : Cond.fieldLink zR0 241 (zT0 10).1 (zT0 10).2.1 (zT0 10).2.2.1 ∈ zwAll := zw_at 245 rfl rfl
theorem zwf_LG_244 : Cond.fieldLink zR0 244 (zT0 11).1 (zT0 11).2.1 (zT0 11).2.2.1 ∈ zwAll := zw_at 246 rfl rfl
/-! LiftGroup.startAnew(III)V -/
abbrev zrm_LG_startAnew : Room := { frames := 2, cells := 0, slots := 0, locals := 40 }
def zb_LG_startAnew_12 (N : Nat) (r12 : Int32 → Int32 → zS → Option zS) (l2 : Int32) (l4 : Int32) (st : zS) : Option zS := (if 4 ≤ l4 then some (zp (zp (zp (zp (zp (zp (zp (zp st 35 4 0) 0 5 l2) 0 6 0) 0 7 0) 0 8 0) 0 9 0) 0 10 0) 0 11 0) else (if l4 < 0 ∨ 4 ≤ l4.toNatClampNeg then none else ((zf_Ca_startAnew N (5 + l4.toNatClampNeg) st).bind fun t25 => r12 l2 (l4 + 1) t25)))
set_option maxHeartbeats 4000000 in
theorem zlb_LG_startAnew_12 (F : zw_X p m c zo_LG_startAnew 5 s args zR0 E 10 A meth none) {N : Nat} {rst : zS} {r12 : Int32 → Int32 → zS → Option zS} (hr12 : ∀ (l2 : Int32) (l4 : Int32) (st : zS) , r12 l2 l4 st = some rst → zw_G p l e zrm_LG_startAnew s m args below meth c (MQ below (zw_Q E none rst A) args s 0 0 A) E A 5 0 12 [some (.ref 0), none, some (.int l2), none, some (.int l4)] [] st) (l2 : Int32) (l4 : Int32) (st : zS)  (h : zb_LG_startAnew_12 N r12 l2 l4 st = some rst) : zw_G p l e zrm_LG_startAnew s m args below meth c (MQ below (zw_Q E none rst A) args s 0 0 A) E A 5 0 12 [some (.ref 0), none, some (.int l2), none, some (.int l4)] [] st := by
  unfold zb_LG_startAnew_12 at h
  refine zg_iload F.1 zd_LG_startAnew_12 rfl ?_
  refine zg_iconst F.1 4 4 (by decide) zd_LG_startAnew_14 ?_
  refine zg_icmp_ge F.1 34 zd_LG_startAnew_15 rfl (fun hc => ?_) (fun hc => ?_)
  · rw [if_pos hc] at h
    refine zg_aload_n F.1 zd_LG_startAnew_34 rfl rfl ?_
    refine zg_getR0 F.1 (by decide) rfl 4 (by decide) 35 rfl zwf_LG_37 zd_LG_startAnew_35 ?_
    refine zg_iconst F.1 0 0 (by decide) zd_LG_startAnew_38 ?_
    refine zg_putI4 F.1 (by decide) rfl 4 (by decide) rfl .int (by decide) rfl rfl rfl zwf_LG_235 zd_LG_startAnew_39 ?_
    refine zg_aload_n F.1 zd_LG_startAnew_42 rfl rfl ?_
    refine zg_iload_n F.1 zd_LG_startAnew_43 rfl rfl ?_
    refine zg_putI0 F.1 (by decide) rfl 5 (by decide) (Or.inl rfl) .int (by decide) rfl rfl rfl zwf_LG_98 zd_LG_startAnew_44 ?_
    refine zg_aload_n F.1 zd_LG_startAnew_47 rfl rfl ?_
    refine zg_iconst F.1 0 0 (by decide) zd_LG_startAnew_48 ?_
    refine zg_putI0 F.1 (by decide) rfl 6 (by decide) (Or.inr (Or.inl rfl)) .int (by decide) rfl rfl rfl zwf_LG_71 zd_LG_startAnew_49 ?_
    refine zg_aload_n F.1 zd_LG_startAnew_52 rfl rfl ?_
    refine zg_iconst F.1 0 0 (by decide) zd_LG_startAnew_53 ?_
    refine zg_putI0 F.1 (by decide) rfl 7 (by decide) (Or.inr (Or.inr (Or.inl rfl))) .int (by decide) rfl rfl rfl zwf_LG_252 zd_LG_startAnew_54 ?_
    refine zg_aload_n F.1 zd_LG_startAnew_57 rfl rfl ?_
    refine zg_iconst F.1 0 0 (by decide) zd_LG_startAnew_58 ?_
    refine zg_putI0 F.1 (by decide) rfl 8 (by decide) (Or.inr (Or.inr (Or.inr (Or.inl rfl)))) .int (by decide) rfl rfl rfl zwf_LG_80 zd_LG_startAnew_59 ?_
    refine zg_aload_n F.1 zd_LG_startAnew_62 rfl rfl ?_
    refine zg_iconst F.1 0 0 (by decide) zd_LG_startAnew_63 ?_
    refine zg_putI0 F.1 (by decide) rfl 9 (by decide) (Or.inr (Or.inr (Or.inr (Or.inr (Or.inl rfl))))) .int (by decide) rfl rfl rfl zwf_LG_238 zd_LG_startAnew_64 ?_
    refine zg_aload_n F.1 zd_LG_startAnew_67 rfl rfl ?_
    refine zg_iconst F.1 0 0 (by decide) zd_LG_startAnew_68 ?_
    refine zg_putI0 F.1 (by decide) rfl 10 (by decide) (Or.inr (Or.inr (Or.inr (Or.inr (Or.inr (Or.inl rfl)))))) .int (by decide) rfl rfl rfl zwf_LG_241 zd_LG_startAnew_69 ?_
    refine zg_aload_n F.1 zd_LG_startAnew_72 rfl rfl ?_
    refine zg_iconst F.1 0 0 (by decide) zd_LG_startAnew_73 ?_
    refine zg_putI0 F.1 (by decide) rfl 11 (by decide) (Or.inr (Or.inr (Or.inr (Or.inr (Or.inr (Or.inr rfl)))))) .int (by decide) rfl rfl rfl zwf_LG_244 zd_LG_startAnew_74 ?_
    cases h
    exact zg_vret F zd_LG_startAnew_77
  · rw [if_neg hc] at h
    refine zg_aload_n F.1 zd_LG_startAnew_18 rfl rfl ?_
    refine zg_getR0 F.1 (by decide) rfl 1 (by decide) 4 rfl zwf_LG_18 zd_LG_startAnew_19 ?_
    refine zg_iload F.1 zd_LG_startAnew_22 rfl ?_
    by_cases hi24 : l4 < 0 ∨ 4 ≤ l4.toNatClampNeg
    case pos => rw [if_pos hi24] at h; cases h
    rw [if_neg hi24] at h
    refine zg_ald6 F.1 (by decide) rfl hi24 l4.toNatClampNeg rfl zd_LG_startAnew_24 ?_
    obtain ⟨t25, hc25, h⟩ := Option.bind_eq_some_iff.mp h
    refine zg_callV F (As := []) (rest := []) (zk_Ca_startAnew F.1.2.2 N (5 + l4.toNatClampNeg) st (zw_carI hi24) hc25) rfl rfl zcal_Ca_startAnew zml_LG_250 ⟨(Nat.le_of_ble_eq_true rfl), (Nat.le_of_ble_eq_true rfl)⟩ (zg_rec2 F.1 (by decide) (zw_carI hi24)) rfl (Nat.le_of_ble_eq_true rfl) ⟨(Nat.le_of_ble_eq_true rfl), (Nat.le_of_ble_eq_true rfl)⟩ zd_LG_startAnew_25 ?_
    refine zg_iinc F.1 (l4 + 1) [some (.ref 0), none, some (.int l2), none, some (.int (l4 + 1))] zd_LG_startAnew_28 rfl (by rw [lit1]) (by decide) rfl ?_
    refine zg_goto F.1 12 zd_LG_startAnew_31 rfl ?_
    exact hr12 l2 (l4 + 1) t25 h
def zf_LG_startAnew_12 (N : Nat)  : Nat → Int32 → Int32 → zS → Option zS
  | 0, _, _, _ => none
  | n + 1, l2, l4, st => zb_LG_startAnew_12 N  (zf_LG_startAnew_12 N  n) l2 l4 st
theorem zl_LG_startAnew_12 (F : zw_X p m c zo_LG_startAnew 5 s args zR0 E 10 A meth none) {N : Nat} {rst : zS}   : ∀ (n : Nat) (l2 : Int32) (l4 : Int32) (st : zS)  (h : zf_LG_startAnew_12 N  n l2 l4 st = some rst), zw_G p l e zrm_LG_startAnew s m args below meth c (MQ below (zw_Q E none rst A) args s 0 0 A) E A 5 0 12 [some (.ref 0), none, some (.int l2), none, some (.int l4)] [] st := by
  intro n
  induction n with
  | zero => intro l2 l4 st  h; cases h
  | succ n ih => intro l2 l4 st  h; exact zlb_LG_startAnew_12 F  ih l2 l4 st  h
def zf_LG_startAnew (N : Nat) (a1 : Int32) (a2 : Int32) (a3 : Int32) (st : zS) : Option zS := ((zf_Ho_startAnew N a1 a3 st).bind fun t6 => zf_LG_startAnew_12 N N a2 0 t6)
set_option maxHeartbeats 4000000 in
theorem zl_LG_startAnew_0 (F : zw_X p m c zo_LG_startAnew 5 s args zR0 E 10 A meth none) {N : Nat} {rst : zS} (a1 : Int32) (a2 : Int32) (a3 : Int32) (st : zS)  (h : zf_LG_startAnew N a1 a2 a3 st = some rst) : zw_G p l e zrm_LG_startAnew s m args below meth c (MQ below (zw_Q E none rst A) args s 0 0 A) E A 5 0 0 [some (.ref 0), some (.int a1), some (.int a2), some (.int a3), none] [] st := by
  unfold zf_LG_startAnew at h
  refine zg_aload_n F.1 zd_LG_startAnew_0 rfl rfl ?_
  refine zg_getR0 F.1 (by decide) rfl 0 (by decide) 1 rfl zwf_LG_10 zd_LG_startAnew_1 ?_
  refine zg_iload_n F.1 zd_LG_startAnew_4 rfl rfl ?_
  refine zg_iload_n F.1 zd_LG_startAnew_5 rfl rfl ?_
  obtain ⟨t6, hc6, h⟩ := Option.bind_eq_some_iff.mp h
  refine zg_callV F (As := [.int a1, .int a3]) (rest := []) (zk_Ho_startAnew F.1.2.2 N a1 a3 st hc6) rfl rfl zcal_Ho_startAnew zml_LG_247 ⟨(Nat.le_of_ble_eq_true rfl), (Nat.le_of_ble_eq_true rfl)⟩ (zg_rec1 F.1 (by decide) rfl) rfl (Nat.le_of_ble_eq_true rfl) ⟨(Nat.le_of_ble_eq_true rfl), (Nat.le_of_ble_eq_true rfl)⟩ zd_LG_startAnew_6 ?_
  refine zg_iconst F.1 0 0 (by decide) zd_LG_startAnew_9 ?_
  refine zg_istore F.1 [some (.ref 0), some (.int a1), some (.int a2), some (.int a3), some (.int 0)] zd_LG_startAnew_10 (by decide) rfl ?_
  exact zg_le (zw_les (zw_len (zw_les (zw_len (zw_les zw_le0))))) (zl_LG_startAnew_12 F N a2 0 t6 h)
theorem zk_LG_startAnew {E : zE} (hn : zw_n E 10) (N : Nat) (a1 : Int32) (a2 : Int32) (a3 : Int32) (st : zS)  {rst : zS} (h : zf_LG_startAnew N a1 a2 a3 st = some rst) : zw_M l zy_LG_startAnew (Cond.code zy_LG_startAnew zo_LG_startAnew 5 none :: zwAll) zrm_LG_startAnew E [.ref 0, .int a1, .int a2, .int a3] st none rst :=
  zw_enter (by decide) rfl hn (Nat.le_of_ble_eq_true rfl) (by simp [Value.category]) 1 (fun p e s m args below meth c A F => zl_LG_startAnew_0 F a1 a2 a3 st  h)
theorem zwf_LG_262 : Cond.fieldLink zR0 262 (zT1 2).1 (zT1 2).2.1 (zT1 2).2.2.1 ∈ zwAll := zw_at 83 rfl rfl
/-! LiftGroup.isFloor(I)Z -/
abbrev zrm_LG_isFloor : Room := { frames := 0, cells := 0, slots := 0, locals := 0 }
def zf_LG_isFloor_20 (N : Nat)  (s0 : Int32) (st : zS) : Option (Int32 × zS) := (if s0 = 0 ∨ s0 = 1 then some (s0, st) else none)
set_option maxHeartbeats 4000000 in
theorem zl_LG_isFloor_20 (F : zw_X p m c zo_LG_isFloor 2 s args zR0 E 10 A meth (some .boolean)) {N : Nat} {rv : Int32} {rst : zS}   (s0 : Int32) (st : zS)  (h : zf_LG_isFloor_20 N  s0 st = some (rv, rst)) : zw_G p l e zrm_LG_isFloor s m args below meth c (MQ below (zw_Q E (some (.int rv)) rst A) args s 0 0 A) E A 2 0 20 [none, none] [.int s0] st := by
  unfold zf_LG_isFloor_20 at h
  by_cases hb20 : s0 = 0 ∨ s0 = 1
  case neg => rw [if_neg hb20] at h; cases h
  rw [if_pos hb20] at h
  cases h
  exact zg_zret F hb20 zd_LG_isFloor_20
def zf_LG_isFloor_19 (N : Nat)   (st : zS) : Option (Int32 × zS) := zf_LG_isFloor_20 N 0 st
set_option maxHeartbeats 4000000 in
theorem zl_LG_isFloor_19 (F : zw_X p m c zo_LG_isFloor 2 s args zR0 E 10 A meth (some .boolean)) {N : Nat} {rv : Int32} {rst : zS}    (st : zS)  (h : zf_LG_isFloor_19 N   st = some (rv, rst)) : zw_G p l e zrm_LG_isFloor s m args below meth c (MQ below (zw_Q E (some (.int rv)) rst A) args s 0 0 A) E A 2 0 19 [none, none] [] st := by
  unfold zf_LG_isFloor_19 at h
  refine zg_iconst F.1 0 0 (by decide) zd_LG_isFloor_19 ?_
  exact zl_LG_isFloor_20 F 0 st h
def zf_LG_isFloor (N : Nat) (a1 : Int32) (st : zS) : Option (Int32 × zS) := (if a1 < 0 then zf_LG_isFloor_19 N st else (if (st 1 2) ≤ a1 then zf_LG_isFloor_19 N st else zf_LG_isFloor_20 N 1 st))
set_option maxHeartbeats 4000000 in
theorem zl_LG_isFloor_0 (F : zw_X p m c zo_LG_isFloor 2 s args zR0 E 10 A meth (some .boolean)) {N : Nat} {rv : Int32} {rst : zS} (a1 : Int32) (st : zS)  (h : zf_LG_isFloor N a1 st = some (rv, rst)) : zw_G p l e zrm_LG_isFloor s m args below meth c (MQ below (zw_Q E (some (.int rv)) rst A) args s 0 0 A) E A 2 0 0 [some (.ref 0), some (.int a1)] [] st := by
  unfold zf_LG_isFloor at h
  refine zg_iload_n F.1 zd_LG_isFloor_0 rfl rfl ?_
  refine zg_if_lt F.1 19 zd_LG_isFloor_1 rfl (fun hc => ?_) (fun hc => ?_)
  · rw [if_pos hc] at h
    exact zg_le (zw_len (zw_len zw_le0)) (zl_LG_isFloor_19 F st h)
  · rw [if_neg hc] at h
    refine zg_iload_n F.1 zd_LG_isFloor_4 rfl rfl ?_
    refine zg_aload_n F.1 zd_LG_isFloor_5 rfl rfl ?_
    refine zg_getR0 F.1 (by decide) rfl 0 (by decide) 1 rfl zwf_LG_10 zd_LG_isFloor_6 ?_
    refine zg_getI1 F.1 (by decide) rfl 2 (by decide) (st 1 2) rfl rfl zwf_LG_262 zd_LG_isFloor_9 ?_
    refine zg_icmp_ge F.1 19 zd_LG_isFloor_12 rfl (fun hc => ?_) (fun hc => ?_)
    · rw [if_pos hc] at h
      exact zg_le (zw_len (zw_len zw_le0)) (zl_LG_isFloor_19 F st h)
    · rw [if_neg hc] at h
      refine zg_iconst F.1 1 1 (by decide) zd_LG_isFloor_15 ?_
      refine zg_goto F.1 20 zd_LG_isFloor_16 rfl ?_
      exact zg_le (zw_len (zw_len zw_le0)) (zl_LG_isFloor_20 F 1 st h)
theorem zk_LG_isFloor {E : zE} (hn : zw_n E 10) (N : Nat) (a1 : Int32) (st : zS)  {rv : Int32} {rst : zS} (h : zf_LG_isFloor N a1 st = some (rv, rst)) : zw_M l zy_LG_isFloor (Cond.code zy_LG_isFloor zo_LG_isFloor 2 (some .boolean) :: zwAll) zrm_LG_isFloor E [.ref 0, .int a1] st (some (.int rv)) rst :=
  zw_enter (by decide) rfl hn (Nat.le_of_ble_eq_true rfl) (by simp [Value.category]) 0 (fun p e s m args below meth c A F => zl_LG_isFloor_0 F a1 st  h)
theorem zwf_LG_119 : Cond.fieldLink zR0 119 (zT2 5).1 (zT2 5).2.1 (zT2 5).2.2.1 ∈ zwAll := zw_at 118 rfl rfl
theorem zwf_LG_101 : Cond.fieldLink zR0 101 (zT2 6).1 (zT2 6).2.1 (zT2 6).2.2.1 ∈ zwAll := zw_at 120 rfl rfl
theorem zwf_LG_132 : Cond.fieldLink zR0 132 (zT1 4).1 (zT1 4).2.1 (zT1 4).2.2.1 ∈ zwAll := zw_at 88 rfl rfl
/-! LiftGroup.isUsable(LLiftGroup$Car;)Z -/
abbrev zrm_LG_isUsable : Room := { frames := 0, cells := 0, slots := 0, locals := 0 }
def zf_LG_isUsable_29 (N : Nat)  (s0 : Int32) (st : zS) : Option (Int32 × zS) := (if s0 = 0 ∨ s0 = 1 then some (s0, st) else none)
set_option maxHeartbeats 4000000 in
theorem zl_LG_isUsable_29 (F : zw_X p m c zo_LG_isUsable 2 s args zR0 E 10 A meth (some .boolean)) {N : Nat} {rv : Int32} {rst : zS}   (s0 : Int32) (st : zS)  (h : zf_LG_isUsable_29 N  s0 st = some (rv, rst)) : zw_G p l e zrm_LG_isUsable s m args below meth c (MQ below (zw_Q E (some (.int rv)) rst A) args s 0 0 A) E A 2 0 29 [none, none] [.int s0] st := by
  unfold zf_LG_isUsable_29 at h
  by_cases hb29 : s0 = 0 ∨ s0 = 1
  case neg => rw [if_neg hb29] at h; cases h
  rw [if_pos hb29] at h
  cases h
  exact zg_zret F hb29 zd_LG_isUsable_29
def zf_LG_isUsable_28 (N : Nat)   (st : zS) : Option (Int32 × zS) := zf_LG_isUsable_29 N 0 st
set_option maxHeartbeats 4000000 in
theorem zl_LG_isUsable_28 (F : zw_X p m c zo_LG_isUsable 2 s args zR0 E 10 A meth (some .boolean)) {N : Nat} {rv : Int32} {rst : zS}    (st : zS)  (h : zf_LG_isUsable_28 N   st = some (rv, rst)) : zw_G p l e zrm_LG_isUsable s m args below meth c (MQ below (zw_Q E (some (.int rv)) rst A) args s 0 0 A) E A 2 0 28 [none, none] [] st := by
  unfold zf_LG_isUsable_28 at h
  refine zg_iconst F.1 0 0 (by decide) zd_LG_isUsable_28 ?_
  exact zl_LG_isUsable_29 F 0 st h
def zf_LG_isUsable (N : Nat) (a1 : Nat) (st : zS) : Option (Int32 × zS) := (if (st a1 5) = 0 then (if (st a1 6) = 0 then (if (st 1 4) = 0 then zf_LG_isUsable_29 N 1 st else zf_LG_isUsable_28 N st) else zf_LG_isUsable_28 N st) else zf_LG_isUsable_28 N st)
set_option maxHeartbeats 4000000 in
theorem zl_LG_isUsable_0 (F : zw_X p m c zo_LG_isUsable 2 s args zR0 E 10 A meth (some .boolean)) {N : Nat} {rv : Int32} {rst : zS} (a1 : Nat) (st : zS) (k1 : zw_kind a1 = 2) (h : zf_LG_isUsable N a1 st = some (rv, rst)) : zw_G p l e zrm_LG_isUsable s m args below meth c (MQ below (zw_Q E (some (.int rv)) rst A) args s 0 0 A) E A 2 0 0 [some (.ref 0), some (.ref a1)] [] st := by
  unfold zf_LG_isUsable at h
  refine zg_aload_n F.1 zd_LG_isUsable_0 rfl rfl ?_
  refine zg_getI2 F.1 (by decide) k1 5 (by decide) (st a1 5) rfl rfl zwf_LG_119 zd_LG_isUsable_1 ?_
  refine zg_if_ne F.1 28 zd_LG_isUsable_4 rfl (fun hc => ?_) (fun hc => ?_)
  · rw [if_neg hc] at h
    exact zg_le (zw_len (zw_len zw_le0)) (zl_LG_isUsable_28 F st h)
  · rw [if_pos hc] at h
    refine zg_aload_n F.1 zd_LG_isUsable_7 rfl rfl ?_
    refine zg_getI2 F.1 (by decide) k1 6 (by decide) (st a1 6) rfl rfl zwf_LG_101 zd_LG_isUsable_8 ?_
    refine zg_if_ne F.1 28 zd_LG_isUsable_11 rfl (fun hc => ?_) (fun hc => ?_)
    · rw [if_neg hc] at h
      exact zg_le (zw_len (zw_len zw_le0)) (zl_LG_isUsable_28 F st h)
    · rw [if_pos hc] at h
      refine zg_aload_n F.1 zd_LG_isUsable_14 rfl rfl ?_
      refine zg_getR0 F.1 (by decide) rfl 0 (by decide) 1 rfl zwf_LG_10 zd_LG_isUsable_15 ?_
      refine zg_getI1 F.1 (by decide) rfl 4 (by decide) (st 1 4) rfl rfl zwf_LG_132 zd_LG_isUsable_18 ?_
      refine zg_if_ne F.1 28 zd_LG_isUsable_21 rfl (fun hc => ?_) (fun hc => ?_)
      · rw [if_neg hc] at h
        exact zg_le (zw_len (zw_len zw_le0)) (zl_LG_isUsable_28 F st h)
      · rw [if_pos hc] at h
        refine zg_iconst F.1 1 1 (by decide) zd_LG_isUsable_24 ?_
        refine zg_goto F.1 29 zd_LG_isUsable_25 rfl ?_
        exact zg_le (zw_len (zw_len zw_le0)) (zl_LG_isUsable_29 F 1 st h)
theorem zk_LG_isUsable {E : zE} (hn : zw_n E 10) (N : Nat) (a1 : Nat) (st : zS) (k1 : zw_kind a1 = 2) {rv : Int32} {rst : zS} (h : zf_LG_isUsable N a1 st = some (rv, rst)) : zw_M l zy_LG_isUsable (Cond.code zy_LG_isUsable zo_LG_isUsable 2 (some .boolean) :: zwAll) zrm_LG_isUsable E [.ref 0, .ref a1] st (some (.int rv)) rst :=
  zw_enter (by decide) rfl hn (Nat.le_of_ble_eq_true rfl) (by simp [Value.category]) 0 (fun p e s m args below meth c A F => zl_LG_isUsable_0 F a1 st k1 h)
theorem zcal_LG_isUsable : zw_cal zR0 zy_LG_isUsable zo_LG_isUsable 2 (some .boolean) 1 := ⟨zw_at 298 rfl rfl, zw_at 7 rfl rfl, zw_at 47 rfl rfl, zw_at 299 rfl rfl, rfl, by decide, by decide, by decide +kernel⟩
theorem zml_LG_265 : Cond.methodLink zR0 265 zy_LG_isUsable ∈ zwAll := zw_at 296 rfl rfl
/-! LiftGroup.anyUsable()Z -/
abbrev zrm_LG_anyUsable : Room := { frames := 1, cells := 0, slots := 0, locals := 21 }
def zb_LG_anyUsable_2 (N : Nat) (r2 : Int32 → zS → Option (Int32 × zS)) (l1 : Int32) (st : zS) : Option (Int32 × zS) := (if (st 0 5) ≤ l1 then some (0, st) else (if l1 < 0 ∨ 4 ≤ l1.toNatClampNeg then none else ((zf_LG_isUsable N (5 + l1.toNatClampNeg) st).bind fun y17 => (if y17.1 = 0 then r2 (l1 + 1) y17.2 else some (1, y17.2)))))
set_option maxHeartbeats 4000000 in
theorem zlb_LG_anyUsable_2 (F : zw_X p m c zo_LG_anyUsable 2 s args zR0 E 10 A meth (some .boolean)) {N : Nat} {rv : Int32} {rst : zS} {r2 : Int32 → zS → Option (Int32 × zS)} (hr2 : ∀ (l1 : Int32) (st : zS) , r2 l1 st = some (rv, rst) → zw_G p l e zrm_LG_anyUsable s m args below meth c (MQ below (zw_Q E (some (.int rv)) rst A) args s 0 0 A) E A 2 0 2 [some (.ref 0), some (.int l1)] [] st) (l1 : Int32) (st : zS)  (h : zb_LG_anyUsable_2 N r2 l1 st = some (rv, rst)) : zw_G p l e zrm_LG_anyUsable s m args below meth c (MQ below (zw_Q E (some (.int rv)) rst A) args s 0 0 A) E A 2 0 2 [some (.ref 0), some (.int l1)] [] st := by
  unfold zb_LG_anyUsable_2 at h
  refine zg_iload_n F.1 zd_LG_anyUsable_2 rfl rfl ?_
  refine zg_aload_n F.1 zd_LG_anyUsable_3 rfl rfl ?_
  refine zg_getI0 F.1 (by decide) rfl 5 (by decide) (st 0 5) rfl rfl zwf_LG_98 zd_LG_anyUsable_4 ?_
  refine zg_icmp_ge F.1 31 zd_LG_anyUsable_7 rfl (fun hc => ?_) (fun hc => ?_)
  · rw [if_pos hc] at h
    refine zg_iconst F.1 0 0 (by decide) zd_LG_anyUsable_31 ?_
    cases h
    exact zg_zret F (by decide) zd_LG_anyUsable_32
  · rw [if_neg hc] at h
    refine zg_aload_n F.1 zd_LG_anyUsable_10 rfl rfl ?_
    refine zg_aload_n F.1 zd_LG_anyUsable_11 rfl rfl ?_
    refine zg_getR0 F.1 (by decide) rfl 1 (by decide) 4 rfl zwf_LG_18 zd_LG_anyUsable_12 ?_
    refine zg_iload_n F.1 zd_LG_anyUsable_15 rfl rfl ?_
    by_cases hi16 : l1 < 0 ∨ 4 ≤ l1.toNatClampNeg
    case pos => rw [if_pos hi16] at h; cases h
    rw [if_neg hi16] at h
    refine zg_ald6 F.1 (by decide) rfl hi16 l1.toNatClampNeg rfl zd_LG_anyUsable_16 ?_
    obtain ⟨y17, hc17, h⟩ := Option.bind_eq_some_iff.mp h
    refine zg_callV F (As := [.ref (5 + l1.toNatClampNeg)]) (rest := []) (zk_LG_isUsable F.1.2.2 N (5 + l1.toNatClampNeg) st (zw_carI hi16) hc17) rfl rfl zcal_LG_isUsable zml_LG_265 ⟨(Nat.le_of_ble_eq_true rfl), (Nat.le_of_ble_eq_true rfl)⟩ (zg_rec0 F.1 (by decide) rfl) rfl (Nat.le_of_ble_eq_true rfl) ⟨(Nat.le_of_ble_eq_true rfl), (Nat.le_of_ble_eq_true rfl)⟩ zd_LG_anyUsable_17 ?_
    refine zg_if_eq F.1 25 zd_LG_anyUsable_20 rfl (fun hc => ?_) (fun hc => ?_)
    · rw [if_pos hc] at h
      refine zg_iinc F.1 (l1 + 1) [some (.ref 0), some (.int (l1 + 1))] zd_LG_anyUsable_25 rfl (by rw [lit1]) (by decide) rfl ?_
      refine zg_goto F.1 2 zd_LG_anyUsable_28 rfl ?_
      exact hr2 (l1 + 1) y17.2 h
    · rw [if_neg hc] at h
      refine zg_iconst F.1 1 1 (by decide) zd_LG_anyUsable_23 ?_
      cases h
      exact zg_zret F (by decide) zd_LG_anyUsable_24
def zf_LG_anyUsable_2 (N : Nat)  : Nat → Int32 → zS → Option (Int32 × zS)
  | 0, _, _ => none
  | n + 1, l1, st => zb_LG_anyUsable_2 N  (zf_LG_anyUsable_2 N  n) l1 st
theorem zl_LG_anyUsable_2 (F : zw_X p m c zo_LG_anyUsable 2 s args zR0 E 10 A meth (some .boolean)) {N : Nat} {rv : Int32} {rst : zS}   : ∀ (n : Nat) (l1 : Int32) (st : zS)  (h : zf_LG_anyUsable_2 N  n l1 st = some (rv, rst)), zw_G p l e zrm_LG_anyUsable s m args below meth c (MQ below (zw_Q E (some (.int rv)) rst A) args s 0 0 A) E A 2 0 2 [some (.ref 0), some (.int l1)] [] st := by
  intro n
  induction n with
  | zero => intro l1 st  h; cases h
  | succ n ih => intro l1 st  h; exact zlb_LG_anyUsable_2 F  ih l1 st  h
def zf_LG_anyUsable (N : Nat)  (st : zS) : Option (Int32 × zS) := zf_LG_anyUsable_2 N N 0 st
set_option maxHeartbeats 4000000 in
theorem zl_LG_anyUsable_0 (F : zw_X p m c zo_LG_anyUsable 2 s args zR0 E 10 A meth (some .boolean)) {N : Nat} {rv : Int32} {rst : zS}  (st : zS)  (h : zf_LG_anyUsable N  st = some (rv, rst)) : zw_G p l e zrm_LG_anyUsable s m args below meth c (MQ below (zw_Q E (some (.int rv)) rst A) args s 0 0 A) E A 2 0 0 [some (.ref 0), none] [] st := by
  unfold zf_LG_anyUsable at h
  refine zg_iconst F.1 0 0 (by decide) zd_LG_anyUsable_0 ?_
  refine zg_istore_n F.1 [some (.ref 0), some (.int 0)] zd_LG_anyUsable_1 rfl (by decide) rfl ?_
  exact zl_LG_anyUsable_2 F N 0 st h
theorem zk_LG_anyUsable {E : zE} (hn : zw_n E 10) (N : Nat)  (st : zS)  {rv : Int32} {rst : zS} (h : zf_LG_anyUsable N  st = some (rv, rst)) : zw_M l zy_LG_anyUsable (Cond.code zy_LG_anyUsable zo_LG_anyUsable 2 (some .boolean) :: zwAll) zrm_LG_anyUsable E [.ref 0] st (some (.int rv)) rst :=
  zw_enter (by decide) rfl hn (Nat.le_of_ble_eq_true rfl) (by simp [Value.category]) 1 (fun p e s m args below meth c A F => zl_LG_anyUsable_0 F  st  h)
theorem zwf_LG_269 : Cond.fieldLink zR0 269 (zT2 9).1 (zT2 9).2.1 (zT2 9).2.2.1 ∈ zwAll := zw_at 126 rfl rfl
/-! LiftGroup.takeWaitingFor(LLiftGroup$Car;)I -/
abbrev zrm_LG_takeWaitingFor : Room := { frames := 0, cells := 0, slots := 0, locals := 0 }
def zf_LG_takeWaitingFor (N : Nat) (a1 : Nat) (st : zS) : Option (Int32 × zS) := some ((st a1 9), (zp st a1 9 0))
set_option maxHeartbeats 4000000 in
theorem zl_LG_takeWaitingFor_0 (F : zw_X p m c zo_LG_takeWaitingFor 3 s args zR0 E 10 A meth (some .int)) {N : Nat} {rv : Int32} {rst : zS} (a1 : Nat) (st : zS) (k1 : zw_kind a1 = 2) (h : zf_LG_takeWaitingFor N a1 st = some (rv, rst)) : zw_G p l e zrm_LG_takeWaitingFor s m args below meth c (MQ below (zw_Q E (some (.int rv)) rst A) args s 0 0 A) E A 3 0 0 [some (.ref 0), some (.ref a1), none] [] st := by
  unfold zf_LG_takeWaitingFor at h
  refine zg_aload_n F.1 zd_LG_takeWaitingFor_0 rfl rfl ?_
  refine zg_getI2 F.1 (by decide) k1 9 (by decide) (st a1 9) rfl rfl zwf_LG_269 zd_LG_takeWaitingFor_1 ?_
  refine zg_istore_n F.1 [some (.ref 0), some (.ref a1), some (.int (st a1 9))] zd_LG_takeWaitingFor_4 rfl (by decide) rfl ?_
  refine zg_aload_n F.1 zd_LG_takeWaitingFor_5 rfl rfl ?_
  refine zg_iconst F.1 0 0 (by decide) zd_LG_takeWaitingFor_6 ?_
  refine zg_putI2 F.1 (by decide) k1 9 (by decide) (Or.inr (Or.inr (Or.inr (Or.inr (Or.inr (Or.inr (Or.inr (Or.inr (Or.inr (Or.inl rfl)))))))))) .int (by decide) rfl rfl rfl zwf_LG_269 zd_LG_takeWaitingFor_7 ?_
  refine zg_iload_n F.1 zd_LG_takeWaitingFor_10 rfl rfl ?_
  cases h
  exact zg_iret F zd_LG_takeWaitingFor_11
theorem zk_LG_takeWaitingFor {E : zE} (hn : zw_n E 10) (N : Nat) (a1 : Nat) (st : zS) (k1 : zw_kind a1 = 2) {rv : Int32} {rst : zS} (h : zf_LG_takeWaitingFor N a1 st = some (rv, rst)) : zw_M l zy_LG_takeWaitingFor (Cond.code zy_LG_takeWaitingFor zo_LG_takeWaitingFor 3 (some .int) :: zwAll) zrm_LG_takeWaitingFor E [.ref 0, .ref a1] st (some (.int rv)) rst :=
  zw_enter (by decide) rfl hn (Nat.le_of_ble_eq_true rfl) (by simp [Value.category]) 1 (fun p e s m args below meth c A F => zl_LG_takeWaitingFor_0 F a1 st k1 h)
/-! LiftGroup.takeWaitingForNone()I -/
abbrev zrm_LG_takeWaitingForNone : Room := { frames := 0, cells := 0, slots := 0, locals := 0 }
def zf_LG_takeWaitingForNone (N : Nat)  (st : zS) : Option (Int32 × zS) := some ((st 0 7), (zp st 0 7 0))
set_option maxHeartbeats 4000000 in
theorem zl_LG_takeWaitingForNone_0 (F : zw_X p m c zo_LG_takeWaitingForNone 2 s args zR0 E 10 A meth (some .int)) {N : Nat} {rv : Int32} {rst : zS}  (st : zS)  (h : zf_LG_takeWaitingForNone N  st = some (rv, rst)) : zw_G p l e zrm_LG_takeWaitingForNone s m args below meth c (MQ below (zw_Q E (some (.int rv)) rst A) args s 0 0 A) E A 2 0 0 [some (.ref 0), none] [] st := by
  unfold zf_LG_takeWaitingForNone at h
  refine zg_aload_n F.1 zd_LG_takeWaitingForNone_0 rfl rfl ?_
  refine zg_getI0 F.1 (by decide) rfl 7 (by decide) (st 0 7) rfl rfl zwf_LG_252 zd_LG_takeWaitingForNone_1 ?_
  refine zg_istore_n F.1 [some (.ref 0), some (.int (st 0 7))] zd_LG_takeWaitingForNone_4 rfl (by decide) rfl ?_
  refine zg_aload_n F.1 zd_LG_takeWaitingForNone_5 rfl rfl ?_
  refine zg_iconst F.1 0 0 (by decide) zd_LG_takeWaitingForNone_6 ?_
  refine zg_putI0 F.1 (by decide) rfl 7 (by decide) (Or.inr (Or.inr (Or.inl rfl))) .int (by decide) rfl rfl rfl zwf_LG_252 zd_LG_takeWaitingForNone_7 ?_
  refine zg_iload_n F.1 zd_LG_takeWaitingForNone_10 rfl rfl ?_
  cases h
  exact zg_iret F zd_LG_takeWaitingForNone_11
theorem zk_LG_takeWaitingForNone {E : zE} (hn : zw_n E 10) (N : Nat)  (st : zS)  {rv : Int32} {rst : zS} (h : zf_LG_takeWaitingForNone N  st = some (rv, rst)) : zw_M l zy_LG_takeWaitingForNone (Cond.code zy_LG_takeWaitingForNone zo_LG_takeWaitingForNone 2 (some .int) :: zwAll) zrm_LG_takeWaitingForNone E [.ref 0] st (some (.int rv)) rst :=
  zw_enter (by decide) rfl hn (Nat.le_of_ble_eq_true rfl) (by simp [Value.category]) 1 (fun p e s m args below meth c A F => zl_LG_takeWaitingForNone_0 F  st  h)
theorem zcal_LG_takeWaitingForNone : zw_cal zR0 zy_LG_takeWaitingForNone zo_LG_takeWaitingForNone 2 (some .int) 0 := ⟨zw_at 286 rfl rfl, zw_at 4 rfl rfl, zw_at 47 rfl rfl, zw_at 287 rfl rfl, rfl, by decide, by decide, by decide +kernel⟩
theorem zml_LG_138 : Cond.methodLink zR0 138 zy_LG_takeWaitingForNone ∈ zwAll := zw_at 284 rfl rfl
/-! LiftGroup.takeWaitingForNoneIfUsable(LLiftGroup$Car;)I -/
abbrev zrm_LG_takeWaitingForNoneIfUsable : Room := { frames := 1, cells := 0, slots := 0, locals := 21 }
def zf_LG_takeWaitingForNoneIfUsable_16 (N : Nat)  (s0 : Int32) (st : zS) : Option (Int32 × zS) := some (s0, st)
set_option maxHeartbeats 4000000 in
theorem zl_LG_takeWaitingForNoneIfUsable_16 (F : zw_X p m c zo_LG_takeWaitingForNoneIfUsable 2 s args zR0 E 10 A meth (some .int)) {N : Nat} {rv : Int32} {rst : zS}   (s0 : Int32) (st : zS)  (h : zf_LG_takeWaitingForNoneIfUsable_16 N  s0 st = some (rv, rst)) : zw_G p l e zrm_LG_takeWaitingForNoneIfUsable s m args below meth c (MQ below (zw_Q E (some (.int rv)) rst A) args s 0 0 A) E A 2 0 16 [none, none] [.int s0] st := by
  unfold zf_LG_takeWaitingForNoneIfUsable_16 at h
  cases h
  exact zg_iret F zd_LG_takeWaitingForNoneIfUsable_16
def zf_LG_takeWaitingForNoneIfUsable (N : Nat) (a1 : Nat) (st : zS) : Option (Int32 × zS) := ((zf_LG_isUsable N a1 st).bind fun y2 => (if y2.1 = 0 then zf_LG_takeWaitingForNoneIfUsable_16 N 0 y2.2 else ((zf_LG_takeWaitingForNone N y2.2).bind fun y9 => zf_LG_takeWaitingForNoneIfUsable_16 N y9.1 y9.2)))
set_option maxHeartbeats 4000000 in
theorem zl_LG_takeWaitingForNoneIfUsable_0 (F : zw_X p m c zo_LG_takeWaitingForNoneIfUsable 2 s args zR0 E 10 A meth (some .int)) {N : Nat} {rv : Int32} {rst : zS} (a1 : Nat) (st : zS) (k1 : zw_kind a1 = 2) (h : zf_LG_takeWaitingForNoneIfUsable N a1 st = some (rv, rst)) : zw_G p l e zrm_LG_takeWaitingForNoneIfUsable s m args below meth c (MQ below (zw_Q E (some (.int rv)) rst A) args s 0 0 A) E A 2 0 0 [some (.ref 0), some (.ref a1)] [] st := by
  unfold zf_LG_takeWaitingForNoneIfUsable at h
  refine zg_aload_n F.1 zd_LG_takeWaitingForNoneIfUsable_0 rfl rfl ?_
  refine zg_aload_n F.1 zd_LG_takeWaitingForNoneIfUsable_1 rfl rfl ?_
  obtain ⟨y2, hc2, h⟩ := Option.bind_eq_some_iff.mp h
  refine zg_callV F (As := [.ref a1]) (rest := []) (zk_LG_isUsable F.1.2.2 N a1 st k1 hc2) rfl rfl zcal_LG_isUsable zml_LG_265 ⟨(Nat.le_of_ble_eq_true rfl), (Nat.le_of_ble_eq_true rfl)⟩ (zg_rec0 F.1 (by decide) rfl) rfl (Nat.le_of_ble_eq_true rfl) ⟨(Nat.le_of_ble_eq_true rfl), (Nat.le_of_ble_eq_true rfl)⟩ zd_LG_takeWaitingForNoneIfUsable_2 ?_
  refine zg_if_eq F.1 15 zd_LG_takeWaitingForNoneIfUsable_5 rfl (fun hc => ?_) (fun hc => ?_)
  · rw [if_pos hc] at h
    refine zg_iconst F.1 0 0 (by decide) zd_LG_takeWaitingForNoneIfUsable_15 ?_
    exact zg_le (zw_len (zw_len zw_le0)) (zl_LG_takeWaitingForNoneIfUsable_16 F 0 y2.2 h)
  · rw [if_neg hc] at h
    refine zg_aload_n F.1 zd_LG_takeWaitingForNoneIfUsable_8 rfl rfl ?_
    obtain ⟨y9, hc9, h⟩ := Option.bind_eq_some_iff.mp h
    refine zg_callV F (As := []) (rest := []) (zk_LG_takeWaitingForNone F.1.2.2 N y2.2 hc9) rfl rfl zcal_LG_takeWaitingForNone zml_LG_138 ⟨(Nat.le_of_ble_eq_true rfl), (Nat.le_of_ble_eq_true rfl)⟩ (zg_rec0 F.1 (by decide) rfl) rfl (Nat.le_of_ble_eq_true rfl) ⟨(Nat.le_of_ble_eq_true rfl), (Nat.le_of_ble_eq_true rfl)⟩ zd_LG_takeWaitingForNoneIfUsable_9 ?_
    refine zg_goto F.1 16 zd_LG_takeWaitingForNoneIfUsable_12 rfl ?_
    exact zg_le (zw_len (zw_len zw_le0)) (zl_LG_takeWaitingForNoneIfUsable_16 F y9.1 y9.2 h)
theorem zk_LG_takeWaitingForNoneIfUsable {E : zE} (hn : zw_n E 10) (N : Nat) (a1 : Nat) (st : zS) (k1 : zw_kind a1 = 2) {rv : Int32} {rst : zS} (h : zf_LG_takeWaitingForNoneIfUsable N a1 st = some (rv, rst)) : zw_M l zy_LG_takeWaitingForNoneIfUsable (Cond.code zy_LG_takeWaitingForNoneIfUsable zo_LG_takeWaitingForNoneIfUsable 2 (some .int) :: zwAll) zrm_LG_takeWaitingForNoneIfUsable E [.ref 0, .ref a1] st (some (.int rv)) rst :=
  zw_enter (by decide) rfl hn (Nat.le_of_ble_eq_true rfl) (by simp [Value.category]) 0 (fun p e s m args below meth c A F => zl_LG_takeWaitingForNoneIfUsable_0 F a1 st k1 h)
theorem zcal_LG_takeWaitingFor : zw_cal zR0 zy_LG_takeWaitingFor zo_LG_takeWaitingFor 3 (some .int) 1 := ⟨zw_at 282 rfl rfl, zw_at 3 rfl rfl, zw_at 47 rfl rfl, zw_at 283 rfl rfl, rfl, by decide, by decide, by decide +kernel⟩
theorem zml_LG_122 : Cond.methodLink zR0 122 zy_LG_takeWaitingFor ∈ zwAll := zw_at 280 rfl rfl
theorem zwf_LG_29 : Cond.fieldLink zR0 29 (zT0 3).1 (zT0 3).2.1 (zT0 3).2.2.1 ∈ zwAll := zw_at 238 rfl rfl
theorem zwf_LG_179 : Cond.fieldLink zR0 179 (zT3 2).1 (zT3 2).2.1 (zT3 2).2.2.1 ∈ zwAll := zw_at 172 rfl rfl
theorem zwf_LG_93 : Cond.fieldLink zR0 93 (zT3 3).1 (zT3 3).2.1 (zT3 3).2.2.1 ∈ zwAll := zw_at 174 rfl rfl
/-! LiftGroup.takeCarsFromWaiting()V -/
abbrev zrm_LG_takeCarsFromWaiting : Room := { frames := 1, cells := 0, slots := 0, locals := 22 }
def zf_LG_takeCarsFromWaiting_67 (N : Nat) (r37 : Int32 → zS → Option zS) (l1 : Int32) (st : zS) : Option zS := r37 (l1 + 1) st
set_option maxHeartbeats 4000000 in
theorem zl_LG_takeCarsFromWaiting_67 (F : zw_X p m c zo_LG_takeCarsFromWaiting 2 s args zR0 E 10 A meth none) {N : Nat} {rst : zS} {r37 : Int32 → zS → Option zS} (hr37 : ∀ (l1 : Int32) (st : zS) , r37 l1 st = some rst → zw_G p l e zrm_LG_takeCarsFromWaiting s m args below meth c (MQ below (zw_Q E none rst A) args s 0 0 A) E A 2 0 37 [some (.ref 0), some (.int l1)] [] st) (l1 : Int32) (st : zS)  (h : zf_LG_takeCarsFromWaiting_67 N r37 l1 st = some rst) : zw_G p l e zrm_LG_takeCarsFromWaiting s m args below meth c (MQ below (zw_Q E none rst A) args s 0 0 A) E A 2 0 67 [some (.ref 0), some (.int l1)] [] st := by
  unfold zf_LG_takeCarsFromWaiting_67 at h
  refine zg_iinc F.1 (l1 + 1) [some (.ref 0), some (.int (l1 + 1))] zd_LG_takeCarsFromWaiting_67 rfl (by rw [lit1]) (by decide) rfl ?_
  refine zg_goto F.1 37 zd_LG_takeCarsFromWaiting_70 rfl ?_
  exact hr37 (l1 + 1) st h
def zb_LG_takeCarsFromWaiting_37 (N : Nat) (r37 : Int32 → zS → Option zS) (l1 : Int32) (st : zS) : Option zS := (if (st 0 6) ≤ l1 then some st else (if l1 < 0 ∨ 24 ≤ l1.toNatClampNeg then none else (if (st (11 + l1.toNatClampNeg) 2) = 0 then (if l1 < 0 ∨ 24 ≤ l1.toNatClampNeg then none else zf_LG_takeCarsFromWaiting_67 N r37 l1 (zp st (11 + l1.toNatClampNeg) 3 (-1))) else zf_LG_takeCarsFromWaiting_67 N r37 l1 st)))
set_option maxHeartbeats 4000000 in
theorem zlb_LG_takeCarsFromWaiting_37 (F : zw_X p m c zo_LG_takeCarsFromWaiting 2 s args zR0 E 10 A meth none) {N : Nat} {rst : zS} {r37 : Int32 → zS → Option zS} (hr37 : ∀ (l1 : Int32) (st : zS) , r37 l1 st = some rst → zw_G p l e zrm_LG_takeCarsFromWaiting s m args below meth c (MQ below (zw_Q E none rst A) args s 0 0 A) E A 2 0 37 [some (.ref 0), some (.int l1)] [] st) (l1 : Int32) (st : zS)  (h : zb_LG_takeCarsFromWaiting_37 N r37 l1 st = some rst) : zw_G p l e zrm_LG_takeCarsFromWaiting s m args below meth c (MQ below (zw_Q E none rst A) args s 0 0 A) E A 2 0 37 [some (.ref 0), some (.int l1)] [] st := by
  unfold zb_LG_takeCarsFromWaiting_37 at h
  refine zg_iload_n F.1 zd_LG_takeCarsFromWaiting_37 rfl rfl ?_
  refine zg_aload_n F.1 zd_LG_takeCarsFromWaiting_38 rfl rfl ?_
  refine zg_getI0 F.1 (by decide) rfl 6 (by decide) (st 0 6) rfl rfl zwf_LG_71 zd_LG_takeCarsFromWaiting_39 ?_
  refine zg_icmp_ge F.1 73 zd_LG_takeCarsFromWaiting_42 rfl (fun hc => ?_) (fun hc => ?_)
  · rw [if_pos hc] at h
    cases h
    exact zg_vret F zd_LG_takeCarsFromWaiting_73
  · rw [if_neg hc] at h
    refine zg_aload_n F.1 zd_LG_takeCarsFromWaiting_45 rfl rfl ?_
    refine zg_getR0 F.1 (by decide) rfl 3 (by decide) 10 rfl zwf_LG_29 zd_LG_takeCarsFromWaiting_46 ?_
    refine zg_iload_n F.1 zd_LG_takeCarsFromWaiting_49 rfl rfl ?_
    by_cases hi50 : l1 < 0 ∨ 24 ≤ l1.toNatClampNeg
    case pos => rw [if_pos hi50] at h; cases h
    rw [if_neg hi50] at h
    refine zg_ald7 F.1 (by decide) rfl hi50 l1.toNatClampNeg rfl zd_LG_takeCarsFromWaiting_50 ?_
    refine zg_getI3 F.1 (by decide) (zw_riderI hi50) 2 (by decide) (st (11 + l1.toNatClampNeg) 2) rfl rfl zwf_LG_179 zd_LG_takeCarsFromWaiting_51 ?_
    refine zg_if_ne F.1 67 zd_LG_takeCarsFromWaiting_54 rfl (fun hc => ?_) (fun hc => ?_)
    · rw [if_neg hc] at h
      exact zl_LG_takeCarsFromWaiting_67 F hr37 l1 st h
    · rw [if_pos hc] at h
      refine zg_aload_n F.1 zd_LG_takeCarsFromWaiting_57 rfl rfl ?_
      refine zg_getR0 F.1 (by decide) rfl 3 (by decide) 10 rfl zwf_LG_29 zd_LG_takeCarsFromWaiting_58 ?_
      refine zg_iload_n F.1 zd_LG_takeCarsFromWaiting_61 rfl rfl ?_
      by_cases hi62 : l1 < 0 ∨ 24 ≤ l1.toNatClampNeg
      case pos => rw [if_pos hi62] at h; cases h
      rw [if_neg hi62] at h
      refine zg_ald7 F.1 (by decide) rfl hi62 l1.toNatClampNeg rfl zd_LG_takeCarsFromWaiting_62 ?_
      refine zg_iconst F.1 (-1) (-1) (by decide) zd_LG_takeCarsFromWaiting_63 ?_
      refine zg_putI3 F.1 (by decide) (zw_riderI hi62) 3 (by decide) (Or.inr (Or.inr (Or.inr (Or.inl rfl)))) .int (by decide) rfl rfl rfl zwf_LG_93 zd_LG_takeCarsFromWaiting_64 ?_
      exact zl_LG_takeCarsFromWaiting_67 F hr37 l1 (zp st (11 + l1.toNatClampNeg) 3 (-1)) h
def zf_LG_takeCarsFromWaiting_37 (N : Nat)  : Nat → Int32 → zS → Option zS
  | 0, _, _ => none
  | n + 1, l1, st => zb_LG_takeCarsFromWaiting_37 N  (zf_LG_takeCarsFromWaiting_37 N  n) l1 st
theorem zl_LG_takeCarsFromWaiting_37 (F : zw_X p m c zo_LG_takeCarsFromWaiting 2 s args zR0 E 10 A meth none) {N : Nat} {rst : zS}   : ∀ (n : Nat) (l1 : Int32) (st : zS)  (h : zf_LG_takeCarsFromWaiting_37 N  n l1 st = some rst), zw_G p l e zrm_LG_takeCarsFromWaiting s m args below meth c (MQ below (zw_Q E none rst A) args s 0 0 A) E A 2 0 37 [some (.ref 0), some (.int l1)] [] st := by
  intro n
  induction n with
  | zero => intro l1 st  h; cases h
  | succ n ih => intro l1 st  h; exact zlb_LG_takeCarsFromWaiting_37 F  ih l1 st  h
def zb_LG_takeCarsFromWaiting_2 (N : Nat) (r2 : Int32 → zS → Option zS) (l1 : Int32) (st : zS) : Option zS := (if (st 0 5) ≤ l1 then zf_LG_takeCarsFromWaiting_37 N N 0 st else (if l1 < 0 ∨ 4 ≤ l1.toNatClampNeg then none else ((zf_LG_takeWaitingFor N (5 + l1.toNatClampNeg) st).bind fun y22 => r2 (l1 + 1) (zp y22.2 0 7 ((st 0 7) ||| y22.1)))))
set_option maxHeartbeats 4000000 in
theorem zlb_LG_takeCarsFromWaiting_2 (F : zw_X p m c zo_LG_takeCarsFromWaiting 2 s args zR0 E 10 A meth none) {N : Nat} {rst : zS} {r2 : Int32 → zS → Option zS} (hr2 : ∀ (l1 : Int32) (st : zS) , r2 l1 st = some rst → zw_G p l e zrm_LG_takeCarsFromWaiting s m args below meth c (MQ below (zw_Q E none rst A) args s 0 0 A) E A 2 0 2 [some (.ref 0), some (.int l1)] [] st) (l1 : Int32) (st : zS)  (h : zb_LG_takeCarsFromWaiting_2 N r2 l1 st = some rst) : zw_G p l e zrm_LG_takeCarsFromWaiting s m args below meth c (MQ below (zw_Q E none rst A) args s 0 0 A) E A 2 0 2 [some (.ref 0), some (.int l1)] [] st := by
  unfold zb_LG_takeCarsFromWaiting_2 at h
  refine zg_iload_n F.1 zd_LG_takeCarsFromWaiting_2 rfl rfl ?_
  refine zg_aload_n F.1 zd_LG_takeCarsFromWaiting_3 rfl rfl ?_
  refine zg_getI0 F.1 (by decide) rfl 5 (by decide) (st 0 5) rfl rfl zwf_LG_98 zd_LG_takeCarsFromWaiting_4 ?_
  refine zg_icmp_ge F.1 35 zd_LG_takeCarsFromWaiting_7 rfl (fun hc => ?_) (fun hc => ?_)
  · rw [if_pos hc] at h
    refine zg_iconst F.1 0 0 (by decide) zd_LG_takeCarsFromWaiting_35 ?_
    refine zg_istore_n F.1 [some (.ref 0), some (.int 0)] zd_LG_takeCarsFromWaiting_36 rfl (by decide) rfl ?_
    exact zl_LG_takeCarsFromWaiting_37 F N 0 st h
  · rw [if_neg hc] at h
    refine zg_aload_n F.1 zd_LG_takeCarsFromWaiting_10 rfl rfl ?_
    refine zg_dup F.1 zd_LG_takeCarsFromWaiting_11 rfl ?_
    refine zg_getI0 F.1 (by decide) rfl 7 (by decide) (st 0 7) rfl rfl zwf_LG_252 zd_LG_takeCarsFromWaiting_12 ?_
    refine zg_aload_n F.1 zd_LG_takeCarsFromWaiting_15 rfl rfl ?_
    refine zg_aload_n F.1 zd_LG_takeCarsFromWaiting_16 rfl rfl ?_
    refine zg_getR0 F.1 (by decide) rfl 1 (by decide) 4 rfl zwf_LG_18 zd_LG_takeCarsFromWaiting_17 ?_
    refine zg_iload_n F.1 zd_LG_takeCarsFromWaiting_20 rfl rfl ?_
    by_cases hi21 : l1 < 0 ∨ 4 ≤ l1.toNatClampNeg
    case pos => rw [if_pos hi21] at h; cases h
    rw [if_neg hi21] at h
    refine zg_ald6 F.1 (by decide) rfl hi21 l1.toNatClampNeg rfl zd_LG_takeCarsFromWaiting_21 ?_
    obtain ⟨y22, hc22, h⟩ := Option.bind_eq_some_iff.mp h
    refine zg_callV F (As := [.ref (5 + l1.toNatClampNeg)]) (rest := [.int (st 0 7), .ref 0]) (zk_LG_takeWaitingFor F.1.2.2 N (5 + l1.toNatClampNeg) st (zw_carI hi21) hc22) rfl rfl zcal_LG_takeWaitingFor zml_LG_122 ⟨(Nat.le_of_ble_eq_true rfl), (Nat.le_of_ble_eq_true rfl)⟩ (zg_rec0 F.1 (by decide) rfl) rfl (Nat.le_of_ble_eq_true rfl) ⟨(Nat.le_of_ble_eq_true rfl), (Nat.le_of_ble_eq_true rfl)⟩ zd_LG_takeCarsFromWaiting_22 ?_
    refine zg_ior F.1 zd_LG_takeCarsFromWaiting_25 ?_
    refine zg_putI0 F.1 (by decide) rfl 7 (by decide) (Or.inr (Or.inr (Or.inl rfl))) .int (by decide) rfl rfl rfl zwf_LG_252 zd_LG_takeCarsFromWaiting_26 ?_
    refine zg_iinc F.1 (l1 + 1) [some (.ref 0), some (.int (l1 + 1))] zd_LG_takeCarsFromWaiting_29 rfl (by rw [lit1]) (by decide) rfl ?_
    refine zg_goto F.1 2 zd_LG_takeCarsFromWaiting_32 rfl ?_
    exact hr2 (l1 + 1) (zp y22.2 0 7 ((st 0 7) ||| y22.1)) h
def zf_LG_takeCarsFromWaiting_2 (N : Nat)  : Nat → Int32 → zS → Option zS
  | 0, _, _ => none
  | n + 1, l1, st => zb_LG_takeCarsFromWaiting_2 N  (zf_LG_takeCarsFromWaiting_2 N  n) l1 st
theorem zl_LG_takeCarsFromWaiting_2 (F : zw_X p m c zo_LG_takeCarsFromWaiting 2 s args zR0 E 10 A meth none) {N : Nat} {rst : zS}   : ∀ (n : Nat) (l1 : Int32) (st : zS)  (h : zf_LG_takeCarsFromWaiting_2 N  n l1 st = some rst), zw_G p l e zrm_LG_takeCarsFromWaiting s m args below meth c (MQ below (zw_Q E none rst A) args s 0 0 A) E A 2 0 2 [some (.ref 0), some (.int l1)] [] st := by
  intro n
  induction n with
  | zero => intro l1 st  h; cases h
  | succ n ih => intro l1 st  h; exact zlb_LG_takeCarsFromWaiting_2 F  ih l1 st  h
def zf_LG_takeCarsFromWaiting (N : Nat)  (st : zS) : Option zS := zf_LG_takeCarsFromWaiting_2 N N 0 st
set_option maxHeartbeats 4000000 in
theorem zl_LG_takeCarsFromWaiting_0 (F : zw_X p m c zo_LG_takeCarsFromWaiting 2 s args zR0 E 10 A meth none) {N : Nat} {rst : zS}  (st : zS)  (h : zf_LG_takeCarsFromWaiting N  st = some rst) : zw_G p l e zrm_LG_takeCarsFromWaiting s m args below meth c (MQ below (zw_Q E none rst A) args s 0 0 A) E A 2 0 0 [some (.ref 0), none] [] st := by
  unfold zf_LG_takeCarsFromWaiting at h
  refine zg_iconst F.1 0 0 (by decide) zd_LG_takeCarsFromWaiting_0 ?_
  refine zg_istore_n F.1 [some (.ref 0), some (.int 0)] zd_LG_takeCarsFromWaiting_1 rfl (by decide) rfl ?_
  exact zl_LG_takeCarsFromWaiting_2 F N 0 st h
theorem zk_LG_takeCarsFromWaiting {E : zE} (hn : zw_n E 10) (N : Nat)  (st : zS)  {rst : zS} (h : zf_LG_takeCarsFromWaiting N  st = some rst) : zw_M l zy_LG_takeCarsFromWaiting (Cond.code zy_LG_takeCarsFromWaiting zo_LG_takeCarsFromWaiting 2 none :: zwAll) zrm_LG_takeCarsFromWaiting E [.ref 0] st none rst :=
  zw_enter (by decide) rfl hn (Nat.le_of_ble_eq_true rfl) (by simp [Value.category]) 1 (fun p e s m args below meth c A F => zl_LG_takeCarsFromWaiting_0 F  st  h)
theorem zwf_LG_23 : Cond.fieldLink zR0 23 (zT0 2).1 (zT0 2).2.1 (zT0 2).2.2.1 ∈ zwAll := zw_at 237 rfl rfl
theorem zcal_Ca_becomeLike : zw_cal zR2 zy_Ca_becomeLike zo_Ca_becomeLike 2 none 1 := ⟨zw_at 305 rfl rfl, zw_at 306 rfl rfl, zw_at 49 rfl rfl, zw_at 307 rfl rfl, rfl, by decide, by decide, by decide +kernel⟩
theorem zml_LG_199 : Cond.methodLink zR0 199 zy_Ca_becomeLike ∈ zwAll := zw_at 304 rfl rfl
theorem zml_LG_276 : Cond.methodLink zR0 276 zy_Ca_hasRiders ∈ zwAll := zw_at 308 rfl rfl
theorem zcal_Ca_advance : zw_cal zR2 zy_Ca_advance zo_Ca_advance 2 none 1 := ⟨zw_at 313 rfl rfl, zw_at 314 rfl rfl, zw_at 49 rfl rfl, zw_at 315 rfl rfl, rfl, by decide, by decide, by decide +kernel⟩
theorem zml_LG_105 : Cond.methodLink zR0 105 zy_Ca_advance ∈ zwAll := zw_at 312 rfl rfl
theorem zwf_LG_206 : Cond.fieldLink zR0 206 (zT2 11).1 (zT2 11).2.1 (zT2 11).2.2.1 ∈ zwAll := zw_at 130 rfl rfl
/-! LiftGroup.worstWith(LLiftGroup$Car;I)I -/
abbrev zrm_LG_worstWith : Room := { frames := 3, cells := 0, slots := 0, locals := 68 }
def zb_LG_worstWith_46 (N : Nat) (r46 : Int32 → zS → Option (Int32 × zS)) (l3 : Int32) (st : zS) : Option (Int32 × zS) := (if 1000 < l3 then some (1000, st) else ((zf_Ca_advance N st).bind fun t61 => (if (t61 9 11) = 0 then ((zf_Ca_hasRiders N t61).bind fun y82 => (if y82.1 = 0 then some (l3, y82.2) else r46 (l3 + 1) y82.2)) else some (1000, t61))))
set_option maxHeartbeats 4000000 in
theorem zlb_LG_worstWith_46 (F : zw_X p m c zo_LG_worstWith 4 s args zR0 E 10 A meth (some .int)) {N : Nat} {rv : Int32} {rst : zS} {r46 : Int32 → zS → Option (Int32 × zS)} (hr46 : ∀ (l3 : Int32) (st : zS) , r46 l3 st = some (rv, rst) → zw_G p l e zrm_LG_worstWith s m args below meth c (MQ below (zw_Q E (some (.int rv)) rst A) args s 0 0 A) E A 4 0 46 [some (.ref 0), none, none, some (.int l3)] [] st) (l3 : Int32) (st : zS)  (h : zb_LG_worstWith_46 N r46 l3 st = some (rv, rst)) : zw_G p l e zrm_LG_worstWith s m args below meth c (MQ below (zw_Q E (some (.int rv)) rst A) args s 0 0 A) E A 4 0 46 [some (.ref 0), none, none, some (.int l3)] [] st := by
  unfold zb_LG_worstWith_46 at h
  refine zg_iload_n F.1 zd_LG_worstWith_46 rfl rfl ?_
  refine zg_sipush F.1 1000 1000 (by decide) zd_LG_worstWith_47 ?_
  refine zg_icmp_gt F.1 96 zd_LG_worstWith_50 rfl (fun hc => ?_) (fun hc => ?_)
  · rw [if_pos hc] at h
    refine zg_sipush F.1 1000 1000 (by decide) zd_LG_worstWith_96 ?_
    cases h
    exact zg_iret F zd_LG_worstWith_99
  · rw [if_neg hc] at h
    refine zg_aload_n F.1 zd_LG_worstWith_53 rfl rfl ?_
    refine zg_getR0 F.1 (by decide) rfl 2 (by decide) 9 rfl zwf_LG_23 zd_LG_worstWith_54 ?_
    refine zg_aload_n F.1 zd_LG_worstWith_57 rfl rfl ?_
    refine zg_getR0 F.1 (by decide) rfl 0 (by decide) 1 rfl zwf_LG_10 zd_LG_worstWith_58 ?_
    obtain ⟨t61, hc61, h⟩ := Option.bind_eq_some_iff.mp h
    refine zg_callV F (As := [.ref 1]) (rest := []) (zk_Ca_advance F.1.2.2 N st hc61) rfl rfl zcal_Ca_advance zml_LG_105 ⟨(Nat.le_of_ble_eq_true rfl), (Nat.le_of_ble_eq_true rfl)⟩ (zg_rec2 F.1 (by decide) rfl) rfl (Nat.le_of_ble_eq_true rfl) ⟨(Nat.le_of_ble_eq_true rfl), (Nat.le_of_ble_eq_true rfl)⟩ zd_LG_worstWith_61 ?_
    refine zg_aload_n F.1 zd_LG_worstWith_64 rfl rfl ?_
    refine zg_getR0 F.1 (by decide) rfl 2 (by decide) 9 rfl zwf_LG_23 zd_LG_worstWith_65 ?_
    refine zg_getI2 F.1 (by decide) rfl 11 (by decide) (t61 9 11) rfl rfl zwf_LG_206 zd_LG_worstWith_68 ?_
    refine zg_if_eq F.1 78 zd_LG_worstWith_71 rfl (fun hc => ?_) (fun hc => ?_)
    · rw [if_pos hc] at h
      refine zg_aload_n F.1 zd_LG_worstWith_78 rfl rfl ?_
      refine zg_getR0 F.1 (by decide) rfl 2 (by decide) 9 rfl zwf_LG_23 zd_LG_worstWith_79 ?_
      obtain ⟨y82, hc82, h⟩ := Option.bind_eq_some_iff.mp h
      refine zg_callV F (As := []) (rest := []) (zk_Ca_hasRiders F.1.2.2 N t61 hc82) rfl rfl zcal_Ca_hasRiders zml_LG_276 ⟨(Nat.le_of_ble_eq_true rfl), (Nat.le_of_ble_eq_true rfl)⟩ (zg_rec2 F.1 (by decide) rfl) rfl (Nat.le_of_ble_eq_true rfl) ⟨(Nat.le_of_ble_eq_true rfl), (Nat.le_of_ble_eq_true rfl)⟩ zd_LG_worstWith_82 ?_
      refine zg_if_ne F.1 90 zd_LG_worstWith_85 rfl (fun hc => ?_) (fun hc => ?_)
      · rw [if_neg hc] at h
        refine zg_iinc F.1 (l3 + 1) [some (.ref 0), none, none, some (.int (l3 + 1))] zd_LG_worstWith_90 rfl (by rw [lit1]) (by decide) rfl ?_
        refine zg_goto F.1 46 zd_LG_worstWith_93 rfl ?_
        exact hr46 (l3 + 1) y82.2 h
      · rw [if_pos hc] at h
        refine zg_iload_n F.1 zd_LG_worstWith_88 rfl rfl ?_
        cases h
        exact zg_iret F zd_LG_worstWith_89
    · rw [if_neg hc] at h
      refine zg_sipush F.1 1000 1000 (by decide) zd_LG_worstWith_74 ?_
      cases h
      exact zg_iret F zd_LG_worstWith_77
def zf_LG_worstWith_46 (N : Nat)  : Nat → Int32 → zS → Option (Int32 × zS)
  | 0, _, _ => none
  | n + 1, l3, st => zb_LG_worstWith_46 N  (zf_LG_worstWith_46 N  n) l3 st
theorem zl_LG_worstWith_46 (F : zw_X p m c zo_LG_worstWith 4 s args zR0 E 10 A meth (some .int)) {N : Nat} {rv : Int32} {rst : zS}   : ∀ (n : Nat) (l3 : Int32) (st : zS)  (h : zf_LG_worstWith_46 N  n l3 st = some (rv, rst)), zw_G p l e zrm_LG_worstWith s m args below meth c (MQ below (zw_Q E (some (.int rv)) rst A) args s 0 0 A) E A 4 0 46 [some (.ref 0), none, none, some (.int l3)] [] st := by
  intro n
  induction n with
  | zero => intro l3 st  h; cases h
  | succ n ih => intro l3 st  h; exact zlb_LG_worstWith_46 F  ih l3 st  h
def zf_LG_worstWith (N : Nat) (a1 : Nat) (a2 : Int32) (st : zS) : Option (Int32 × zS) := ((zf_Ca_becomeLike N a1 st).bind fun t5 => ((zf_Ca_hasRiders N (zp t5 9 9 ((t5 9 9) ||| a2))).bind fun y25 => (if y25.1 = 0 then some (0, y25.2) else (if (y25.2 a1 6) = 0 then zf_LG_worstWith_46 N N 1 y25.2 else some (1000, y25.2)))))
set_option maxHeartbeats 4000000 in
theorem zl_LG_worstWith_0 (F : zw_X p m c zo_LG_worstWith 4 s args zR0 E 10 A meth (some .int)) {N : Nat} {rv : Int32} {rst : zS} (a1 : Nat) (a2 : Int32) (st : zS) (k1 : zw_kind a1 = 2) (h : zf_LG_worstWith N a1 a2 st = some (rv, rst)) : zw_G p l e zrm_LG_worstWith s m args below meth c (MQ below (zw_Q E (some (.int rv)) rst A) args s 0 0 A) E A 4 0 0 [some (.ref 0), some (.ref a1), some (.int a2), none] [] st := by
  unfold zf_LG_worstWith at h
  refine zg_aload_n F.1 zd_LG_worstWith_0 rfl rfl ?_
  refine zg_getR0 F.1 (by decide) rfl 2 (by decide) 9 rfl zwf_LG_23 zd_LG_worstWith_1 ?_
  refine zg_aload_n F.1 zd_LG_worstWith_4 rfl rfl ?_
  obtain ⟨t5, hc5, h⟩ := Option.bind_eq_some_iff.mp h
  refine zg_callV F (As := [.ref a1]) (rest := []) (zk_Ca_becomeLike F.1.2.2 N a1 st k1 hc5) rfl rfl zcal_Ca_becomeLike zml_LG_199 ⟨(Nat.le_of_ble_eq_true rfl), (Nat.le_of_ble_eq_true rfl)⟩ (zg_rec2 F.1 (by decide) rfl) rfl (Nat.le_of_ble_eq_true rfl) ⟨(Nat.le_of_ble_eq_true rfl), (Nat.le_of_ble_eq_true rfl)⟩ zd_LG_worstWith_5 ?_
  refine zg_aload_n F.1 zd_LG_worstWith_8 rfl rfl ?_
  refine zg_getR0 F.1 (by decide) rfl 2 (by decide) 9 rfl zwf_LG_23 zd_LG_worstWith_9 ?_
  refine zg_dup F.1 zd_LG_worstWith_12 rfl ?_
  refine zg_getI2 F.1 (by decide) rfl 9 (by decide) (t5 9 9) rfl rfl zwf_LG_269 zd_LG_worstWith_13 ?_
  refine zg_iload_n F.1 zd_LG_worstWith_16 rfl rfl ?_
  refine zg_ior F.1 zd_LG_worstWith_17 ?_
  refine zg_putI2 F.1 (by decide) rfl 9 (by decide) (Or.inr (Or.inr (Or.inr (Or.inr (Or.inr (Or.inr (Or.inr (Or.inr (Or.inr (Or.inl rfl)))))))))) .int (by decide) rfl rfl rfl zwf_LG_269 zd_LG_worstWith_18 ?_
  refine zg_aload_n F.1 zd_LG_worstWith_21 rfl rfl ?_
  refine zg_getR0 F.1 (by decide) rfl 2 (by decide) 9 rfl zwf_LG_23 zd_LG_worstWith_22 ?_
  obtain ⟨y25, hc25, h⟩ := Option.bind_eq_some_iff.mp h
  refine zg_callV F (As := []) (rest := []) (zk_Ca_hasRiders F.1.2.2 N (zp t5 9 9 ((t5 9 9) ||| a2)) hc25) rfl rfl zcal_Ca_hasRiders zml_LG_276 ⟨(Nat.le_of_ble_eq_true rfl), (Nat.le_of_ble_eq_true rfl)⟩ (zg_rec2 F.1 (by decide) rfl) rfl (Nat.le_of_ble_eq_true rfl) ⟨(Nat.le_of_ble_eq_true rfl), (Nat.le_of_ble_eq_true rfl)⟩ zd_LG_worstWith_25 ?_
  refine zg_if_ne F.1 33 zd_LG_worstWith_28 rfl (fun hc => ?_) (fun hc => ?_)
  · rw [if_neg hc] at h
    refine zg_aload_n F.1 zd_LG_worstWith_33 rfl rfl ?_
    refine zg_getI2 F.1 (by decide) k1 6 (by decide) (y25.2 a1 6) rfl rfl zwf_LG_101 zd_LG_worstWith_34 ?_
    refine zg_if_eq F.1 44 zd_LG_worstWith_37 rfl (fun hc => ?_) (fun hc => ?_)
    · rw [if_pos hc] at h
      refine zg_iconst F.1 1 1 (by decide) zd_LG_worstWith_44 ?_
      refine zg_istore_n F.1 [some (.ref 0), some (.ref a1), some (.int a2), some (.int 1)] zd_LG_worstWith_45 rfl (by decide) rfl ?_
      exact zg_le (zw_les (zw_len (zw_len (zw_les zw_le0)))) (zl_LG_worstWith_46 F N 1 y25.2 h)
    · rw [if_neg hc] at h
      refine zg_sipush F.1 1000 1000 (by decide) zd_LG_worstWith_40 ?_
      cases h
      exact zg_iret F zd_LG_worstWith_43
  · rw [if_pos hc] at h
    refine zg_iconst F.1 0 0 (by decide) zd_LG_worstWith_31 ?_
    cases h
    exact zg_iret F zd_LG_worstWith_32
theorem zk_LG_worstWith {E : zE} (hn : zw_n E 10) (N : Nat) (a1 : Nat) (a2 : Int32) (st : zS) (k1 : zw_kind a1 = 2) {rv : Int32} {rst : zS} (h : zf_LG_worstWith N a1 a2 st = some (rv, rst)) : zw_M l zy_LG_worstWith (Cond.code zy_LG_worstWith zo_LG_worstWith 4 (some .int) :: zwAll) zrm_LG_worstWith E [.ref 0, .ref a1, .int a2] st (some (.int rv)) rst :=
  zw_enter (by decide) rfl hn (Nat.le_of_ble_eq_true rfl) (by simp [Value.category]) 1 (fun p e s m args below meth c A F => zl_LG_worstWith_0 F a1 a2 st k1 h)
theorem zcal_LG_worstWith : zw_cal zR0 zy_LG_worstWith zo_LG_worstWith 4 (some .int) 2 := ⟨zw_at 302 rfl rfl, zw_at 8 rfl rfl, zw_at 47 rfl rfl, zw_at 303 rfl rfl, rfl, by decide, by decide, by decide +kernel⟩
theorem zml_LG_171 : Cond.methodLink zR0 171 zy_LG_worstWith ∈ zwAll := zw_at 300 rfl rfl
theorem zcal_Lo_note : zw_cal zR4 zy_Lo_note zo_Lo_note 6 none 4 := ⟨zw_at 359 rfl rfl, zw_at 360 rfl rfl, zw_at 51 rfl rfl, zw_at 361 rfl rfl, rfl, by decide, by decide, by decide +kernel⟩
theorem zml_LG_272 : Cond.methodLink zR0 272 zy_Lo_note ∈ zwAll := zw_at 358 rfl rfl
/-! LiftGroup.chooseCar(I)V -/
abbrev zrm_LG_chooseCar : Room := { frames := 4, cells := 0, slots := 0, locals := 91 }
def zf_LG_chooseCar_81 (N : Nat) (r12 : Int32 → Int32 → Int32 → Int32 → Int32 → zS → Option zS) (l1 : Int32) (l2 : Int32) (l3 : Int32) (l4 : Int32) (l5 : Int32) (st : zS) : Option zS := r12 l1 l2 l3 l4 (l5 + 1) st
set_option maxHeartbeats 4000000 in
theorem zl_LG_chooseCar_81 (F : zw_X p m c zo_LG_chooseCar 7 s args zR0 E 10 A meth none) {N : Nat} {rst : zS} {r12 : Int32 → Int32 → Int32 → Int32 → Int32 → zS → Option zS} (hr12 : ∀ (l1 : Int32) (l2 : Int32) (l3 : Int32) (l4 : Int32) (l5 : Int32) (st : zS) , r12 l1 l2 l3 l4 l5 st = some rst → zw_G p l e zrm_LG_chooseCar s m args below meth c (MQ below (zw_Q E none rst A) args s 0 0 A) E A 7 0 12 [some (.ref 0), some (.int l1), some (.int l2), some (.int l3), some (.int l4), some (.int l5), none] [] st) (l1 : Int32) (l2 : Int32) (l3 : Int32) (l4 : Int32) (l5 : Int32) (st : zS)  (h : zf_LG_chooseCar_81 N r12 l1 l2 l3 l4 l5 st = some rst) : zw_G p l e zrm_LG_chooseCar s m args below meth c (MQ below (zw_Q E none rst A) args s 0 0 A) E A 7 0 81 [some (.ref 0), some (.int l1), some (.int l2), some (.int l3), some (.int l4), some (.int l5), none] [] st := by
  unfold zf_LG_chooseCar_81 at h
  refine zg_iinc F.1 (l5 + 1) [some (.ref 0), some (.int l1), some (.int l2), some (.int l3), some (.int l4), some (.int (l5 + 1)), none] zd_LG_chooseCar_81 rfl (by rw [lit1]) (by decide) rfl ?_
  refine zg_goto F.1 12 zd_LG_chooseCar_84 rfl ?_
  exact hr12 l1 l2 l3 l4 (l5 + 1) st h
def zf_LG_chooseCar_74 (N : Nat) (r12 : Int32 → Int32 → Int32 → Int32 → Int32 → zS → Option zS) (l1 : Int32) (l2 : Int32) (l5 : Int32) (l6 : Int32) (st : zS) : Option zS := zf_LG_chooseCar_81 N r12 l1 l2 l5 l6 l5 st
set_option maxHeartbeats 4000000 in
theorem zl_LG_chooseCar_74 (F : zw_X p m c zo_LG_chooseCar 7 s args zR0 E 10 A meth none) {N : Nat} {rst : zS} {r12 : Int32 → Int32 → Int32 → Int32 → Int32 → zS → Option zS} (hr12 : ∀ (l1 : Int32) (l2 : Int32) (l3 : Int32) (l4 : Int32) (l5 : Int32) (st : zS) , r12 l1 l2 l3 l4 l5 st = some rst → zw_G p l e zrm_LG_chooseCar s m args below meth c (MQ below (zw_Q E none rst A) args s 0 0 A) E A 7 0 12 [some (.ref 0), some (.int l1), some (.int l2), some (.int l3), some (.int l4), some (.int l5), none] [] st) (l1 : Int32) (l2 : Int32) (l5 : Int32) (l6 : Int32) (st : zS)  (h : zf_LG_chooseCar_74 N r12 l1 l2 l5 l6 st = some rst) : zw_G p l e zrm_LG_chooseCar s m args below meth c (MQ below (zw_Q E none rst A) args s 0 0 A) E A 7 0 74 [some (.ref 0), some (.int l1), some (.int l2), none, none, some (.int l5), some (.int l6)] [] st := by
  unfold zf_LG_chooseCar_74 at h
  refine zg_iload F.1 zd_LG_chooseCar_74 rfl ?_
  refine zg_istore_n F.1 [some (.ref 0), some (.int l1), some (.int l2), some (.int l5), none, some (.int l5), some (.int l6)] zd_LG_chooseCar_76 rfl (by decide) rfl ?_
  refine zg_iload F.1 zd_LG_chooseCar_77 rfl ?_
  refine zg_istore F.1 [some (.ref 0), some (.int l1), some (.int l2), some (.int l5), some (.int l6), some (.int l5), some (.int l6)] zd_LG_chooseCar_79 (by decide) rfl ?_
  exact zg_le (zw_les (zw_les (zw_les (zw_les (zw_les (zw_les (zw_len zw_le0))))))) (zl_LG_chooseCar_81 F hr12 l1 l2 l5 l6 l5 st h)
def zf_LG_chooseCar_158 (N : Nat)   (st : zS) : Option zS := some st
set_option maxHeartbeats 4000000 in
theorem zl_LG_chooseCar_158 (F : zw_X p m c zo_LG_chooseCar 7 s args zR0 E 10 A meth none) {N : Nat} {rst : zS}    (st : zS)  (h : zf_LG_chooseCar_158 N   st = some rst) : zw_G p l e zrm_LG_chooseCar s m args below meth c (MQ below (zw_Q E none rst A) args s 0 0 A) E A 7 0 158 [none, none, none, none, none, none, none] [] st := by
  unfold zf_LG_chooseCar_158 at h
  cases h
  exact zg_vret F zd_LG_chooseCar_158
def zb_LG_chooseCar_12 (N : Nat) (r12 : Int32 → Int32 → Int32 → Int32 → Int32 → zS → Option zS) (l1 : Int32) (l2 : Int32) (l3 : Int32) (l4 : Int32) (l5 : Int32) (st : zS) : Option zS := (if (st 0 5) ≤ l5 then (if l1 < 0 ∨ 24 ≤ l1.toNatClampNeg then none else (if l3 = (-1) then ((zf_Lo_note N (st 0 8) 5 l1 (-1) (zp (zp st (11 + l1.toNatClampNeg) 3 l3) 0 7 ((st 0 7) ||| l2))).bind fun t123 => zf_LG_chooseCar_158 N t123) else (if l3 < 0 ∨ 4 ≤ l3.toNatClampNeg then none else ((zf_Lo_note N (st 0 8) 1 l1 l3 (zp (zp st (11 + l1.toNatClampNeg) 3 l3) (5 + l3.toNatClampNeg) 9 ((st (5 + l3.toNatClampNeg) 9) ||| l2))).bind fun t155 => zf_LG_chooseCar_158 N t155)))) else (if l5 < 0 ∨ 4 ≤ l5.toNatClampNeg then none else ((zf_LG_isUsable N (5 + l5.toNatClampNeg) st).bind fun y29 => (if y29.1 = 0 then zf_LG_chooseCar_81 N r12 l1 l2 l3 l4 l5 y29.2 else (if l5 < 0 ∨ 4 ≤ l5.toNatClampNeg then none else ((zf_LG_worstWith N (5 + l5.toNatClampNeg) l2 y29.2).bind fun y44 => (if l5 < 0 ∨ 4 ≤ l5.toNatClampNeg then none else ((zf_LG_worstWith N (5 + l5.toNatClampNeg) 0 y44.2).bind fun y56 => (if l3 = (-1) then zf_LG_chooseCar_74 N r12 l1 l2 l5 (y44.1 - y56.1) y56.2 else (if l4 ≤ (y44.1 - y56.1) then zf_LG_chooseCar_81 N r12 l1 l2 l3 l4 l5 y56.2 else zf_LG_chooseCar_74 N r12 l1 l2 l5 (y44.1 - y56.1) y56.2))))))))))
set_option maxHeartbeats 4000000 in
theorem zlb_LG_chooseCar_12 (F : zw_X p m c zo_LG_chooseCar 7 s args zR0 E 10 A meth none) {N : Nat} {rst : zS} {r12 : Int32 → Int32 → Int32 → Int32 → Int32 → zS → Option zS} (hr12 : ∀ (l1 : Int32) (l2 : Int32) (l3 : Int32) (l4 : Int32) (l5 : Int32) (st : zS) , r12 l1 l2 l3 l4 l5 st = some rst → zw_G p l e zrm_LG_chooseCar s m args below meth c (MQ below (zw_Q E none rst A) args s 0 0 A) E A 7 0 12 [some (.ref 0), some (.int l1), some (.int l2), some (.int l3), some (.int l4), some (.int l5), none] [] st) (l1 : Int32) (l2 : Int32) (l3 : Int32) (l4 : Int32) (l5 : Int32) (st : zS)  (h : zb_LG_chooseCar_12 N r12 l1 l2 l3 l4 l5 st = some rst) : zw_G p l e zrm_LG_chooseCar s m args below meth c (MQ below (zw_Q E none rst A) args s 0 0 A) E A 7 0 12 [some (.ref 0), some (.int l1), some (.int l2), some (.int l3), some (.int l4), some (.int l5), none] [] st := by
  unfold zb_LG_chooseCar_12 at h
  refine zg_iload F.1 zd_LG_chooseCar_12 rfl ?_
  refine zg_aload_n F.1 zd_LG_chooseCar_14 rfl rfl ?_
  refine zg_getI0 F.1 (by decide) rfl 5 (by decide) (st 0 5) rfl rfl zwf_LG_98 zd_LG_chooseCar_15 ?_
  refine zg_icmp_ge F.1 87 zd_LG_chooseCar_18 rfl (fun hc => ?_) (fun hc => ?_)
  · rw [if_pos hc] at h
    refine zg_aload_n F.1 zd_LG_chooseCar_87 rfl rfl ?_
    refine zg_getR0 F.1 (by decide) rfl 3 (by decide) 10 rfl zwf_LG_29 zd_LG_chooseCar_88 ?_
    refine zg_iload_n F.1 zd_LG_chooseCar_91 rfl rfl ?_
    by_cases hi92 : l1 < 0 ∨ 24 ≤ l1.toNatClampNeg
    case pos => rw [if_pos hi92] at h; cases h
    rw [if_neg hi92] at h
    refine zg_ald7 F.1 (by decide) rfl hi92 l1.toNatClampNeg rfl zd_LG_chooseCar_92 ?_
    refine zg_iload_n F.1 zd_LG_chooseCar_93 rfl rfl ?_
    refine zg_putI3 F.1 (by decide) (zw_riderI hi92) 3 (by decide) (Or.inr (Or.inr (Or.inr (Or.inl rfl)))) .int (by decide) rfl rfl rfl zwf_LG_93 zd_LG_chooseCar_94 ?_
    refine zg_iload_n F.1 zd_LG_chooseCar_97 rfl rfl ?_
    refine zg_iconst F.1 (-1) (-1) (by decide) zd_LG_chooseCar_98 ?_
    refine zg_icmp_ne F.1 129 zd_LG_chooseCar_99 rfl (fun hc => ?_) (fun hc => ?_)
    · rw [if_neg hc] at h
      refine zg_aload_n F.1 zd_LG_chooseCar_129 rfl rfl ?_
      refine zg_getR0 F.1 (by decide) rfl 1 (by decide) 4 rfl zwf_LG_18 zd_LG_chooseCar_130 ?_
      refine zg_iload_n F.1 zd_LG_chooseCar_133 rfl rfl ?_
      by_cases hi134 : l3 < 0 ∨ 4 ≤ l3.toNatClampNeg
      case pos => rw [if_pos hi134] at h; cases h
      rw [if_neg hi134] at h
      refine zg_ald6 F.1 (by decide) rfl hi134 l3.toNatClampNeg rfl zd_LG_chooseCar_134 ?_
      refine zg_dup F.1 zd_LG_chooseCar_135 rfl ?_
      refine zg_getI2 F.1 (by decide) (zw_carI hi134) 9 (by decide) (st (5 + l3.toNatClampNeg) 9) rfl (zp_q _ _ (zw_kk (zw_carI hi134) (zw_riderI hi92) (by decide))) zwf_LG_269 zd_LG_chooseCar_136 ?_
      refine zg_iload_n F.1 zd_LG_chooseCar_139 rfl rfl ?_
      refine zg_ior F.1 zd_LG_chooseCar_140 ?_
      refine zg_putI2 F.1 (by decide) (zw_carI hi134) 9 (by decide) (Or.inr (Or.inr (Or.inr (Or.inr (Or.inr (Or.inr (Or.inr (Or.inr (Or.inr (Or.inl rfl)))))))))) .int (by decide) rfl rfl rfl zwf_LG_269 zd_LG_chooseCar_141 ?_
      refine zg_aload_n F.1 zd_LG_chooseCar_144 rfl rfl ?_
      refine zg_getR0 F.1 (by decide) rfl 4 (by decide) 35 rfl zwf_LG_37 zd_LG_chooseCar_145 ?_
      refine zg_aload_n F.1 zd_LG_chooseCar_148 rfl rfl ?_
      refine zg_getI0 F.1 (by decide) rfl 8 (by decide) (st 0 8) rfl ((zp_q _ _ (zw_kne (zw_carI hi134) (by decide))).trans (zp_q _ _ (zw_kne (zw_riderI hi92) (by decide)))) zwf_LG_80 zd_LG_chooseCar_149 ?_
      refine zg_iconst F.1 1 1 (by decide) zd_LG_chooseCar_152 ?_
      refine zg_iload_n F.1 zd_LG_chooseCar_153 rfl rfl ?_
      refine zg_iload_n F.1 zd_LG_chooseCar_154 rfl rfl ?_
      obtain ⟨t155, hc155, h⟩ := Option.bind_eq_some_iff.mp h
      refine zg_callV F (As := [.int (st 0 8), .int 1, .int l1, .int l3]) (rest := []) (zk_Lo_note F.1.2.2 N (st 0 8) 1 l1 l3 (zp (zp st (11 + l1.toNatClampNeg) 3 l3) (5 + l3.toNatClampNeg) 9 ((st (5 + l3.toNatClampNeg) 9) ||| l2)) hc155) rfl rfl zcal_Lo_note zml_LG_272 ⟨(Nat.le_of_ble_eq_true rfl), (Nat.le_of_ble_eq_true rfl)⟩ (zg_rec4 F.1 (by decide) rfl) rfl (Nat.le_of_ble_eq_true rfl) ⟨(Nat.le_of_ble_eq_true rfl), (Nat.le_of_ble_eq_true rfl)⟩ zd_LG_chooseCar_155 ?_
      exact zg_le (zw_len (zw_len (zw_len (zw_len (zw_len (zw_len (zw_les zw_le0))))))) (zl_LG_chooseCar_158 F t155 h)
    · rw [if_pos hc] at h
      refine zg_aload_n F.1 zd_LG_chooseCar_102 rfl rfl ?_
      refine zg_dup F.1 zd_LG_chooseCar_103 rfl ?_
      refine zg_getI0 F.1 (by decide) rfl 7 (by decide) (st 0 7) rfl (zp_q _ _ (zw_kne (zw_riderI hi92) (by decide))) zwf_LG_252 zd_LG_chooseCar_104 ?_
      refine zg_iload_n F.1 zd_LG_chooseCar_107 rfl rfl ?_
      refine zg_ior F.1 zd_LG_chooseCar_108 ?_
      refine zg_putI0 F.1 (by decide) rfl 7 (by decide) (Or.inr (Or.inr (Or.inl rfl))) .int (by decide) rfl rfl rfl zwf_LG_252 zd_LG_chooseCar_109 ?_
      refine zg_aload_n F.1 zd_LG_chooseCar_112 rfl rfl ?_
      refine zg_getR0 F.1 (by decide) rfl 4 (by decide) 35 rfl zwf_LG_37 zd_LG_chooseCar_113 ?_
      refine zg_aload_n F.1 zd_LG_chooseCar_116 rfl rfl ?_
      refine zg_getI0 F.1 (by decide) rfl 8 (by decide) (st 0 8) rfl ((zp_o _ _ (by decide)).trans (zp_q _ _ (zw_kne (zw_riderI hi92) (by decide)))) zwf_LG_80 zd_LG_chooseCar_117 ?_
      refine zg_iconst F.1 5 5 (by decide) zd_LG_chooseCar_120 ?_
      refine zg_iload_n F.1 zd_LG_chooseCar_121 rfl rfl ?_
      refine zg_iconst F.1 (-1) (-1) (by decide) zd_LG_chooseCar_122 ?_
      obtain ⟨t123, hc123, h⟩ := Option.bind_eq_some_iff.mp h
      refine zg_callV F (As := [.int (st 0 8), .int 5, .int l1, .int (-1)]) (rest := []) (zk_Lo_note F.1.2.2 N (st 0 8) 5 l1 (-1) (zp (zp st (11 + l1.toNatClampNeg) 3 l3) 0 7 ((st 0 7) ||| l2)) hc123) rfl rfl zcal_Lo_note zml_LG_272 ⟨(Nat.le_of_ble_eq_true rfl), (Nat.le_of_ble_eq_true rfl)⟩ (zg_rec4 F.1 (by decide) rfl) rfl (Nat.le_of_ble_eq_true rfl) ⟨(Nat.le_of_ble_eq_true rfl), (Nat.le_of_ble_eq_true rfl)⟩ zd_LG_chooseCar_123 ?_
      refine zg_goto F.1 158 zd_LG_chooseCar_126 rfl ?_
      exact zg_le (zw_len (zw_len (zw_len (zw_len (zw_len (zw_len (zw_les zw_le0))))))) (zl_LG_chooseCar_158 F t123 h)
  · rw [if_neg hc] at h
    refine zg_aload_n F.1 zd_LG_chooseCar_21 rfl rfl ?_
    refine zg_aload_n F.1 zd_LG_chooseCar_22 rfl rfl ?_
    refine zg_getR0 F.1 (by decide) rfl 1 (by decide) 4 rfl zwf_LG_18 zd_LG_chooseCar_23 ?_
    refine zg_iload F.1 zd_LG_chooseCar_26 rfl ?_
    by_cases hi28 : l5 < 0 ∨ 4 ≤ l5.toNatClampNeg
    case pos => rw [if_pos hi28] at h; cases h
    rw [if_neg hi28] at h
    refine zg_ald6 F.1 (by decide) rfl hi28 l5.toNatClampNeg rfl zd_LG_chooseCar_28 ?_
    obtain ⟨y29, hc29, h⟩ := Option.bind_eq_some_iff.mp h
    refine zg_callV F (As := [.ref (5 + l5.toNatClampNeg)]) (rest := []) (zk_LG_isUsable F.1.2.2 N (5 + l5.toNatClampNeg) st (zw_carI hi28) hc29) rfl rfl zcal_LG_isUsable zml_LG_265 ⟨(Nat.le_of_ble_eq_true rfl), (Nat.le_of_ble_eq_true rfl)⟩ (zg_rec0 F.1 (by decide) rfl) rfl (Nat.le_of_ble_eq_true rfl) ⟨(Nat.le_of_ble_eq_true rfl), (Nat.le_of_ble_eq_true rfl)⟩ zd_LG_chooseCar_29 ?_
    refine zg_if_eq F.1 81 zd_LG_chooseCar_32 rfl (fun hc => ?_) (fun hc => ?_)
    · rw [if_pos hc] at h
      exact zl_LG_chooseCar_81 F hr12 l1 l2 l3 l4 l5 y29.2 h
    · rw [if_neg hc] at h
      refine zg_aload_n F.1 zd_LG_chooseCar_35 rfl rfl ?_
      refine zg_aload_n F.1 zd_LG_chooseCar_36 rfl rfl ?_
      refine zg_getR0 F.1 (by decide) rfl 1 (by decide) 4 rfl zwf_LG_18 zd_LG_chooseCar_37 ?_
      refine zg_iload F.1 zd_LG_chooseCar_40 rfl ?_
      by_cases hi42 : l5 < 0 ∨ 4 ≤ l5.toNatClampNeg
      case pos => rw [if_pos hi42] at h; cases h
      rw [if_neg hi42] at h
      refine zg_ald6 F.1 (by decide) rfl hi42 l5.toNatClampNeg rfl zd_LG_chooseCar_42 ?_
      refine zg_iload_n F.1 zd_LG_chooseCar_43 rfl rfl ?_
      obtain ⟨y44, hc44, h⟩ := Option.bind_eq_some_iff.mp h
      refine zg_callV F (As := [.ref (5 + l5.toNatClampNeg), .int l2]) (rest := []) (zk_LG_worstWith F.1.2.2 N (5 + l5.toNatClampNeg) l2 y29.2 (zw_carI hi42) hc44) rfl rfl zcal_LG_worstWith zml_LG_171 ⟨(Nat.le_of_ble_eq_true rfl), (Nat.le_of_ble_eq_true rfl)⟩ (zg_rec0 F.1 (by decide) rfl) rfl (Nat.le_of_ble_eq_true rfl) ⟨(Nat.le_of_ble_eq_true rfl), (Nat.le_of_ble_eq_true rfl)⟩ zd_LG_chooseCar_44 ?_
      refine zg_aload_n F.1 zd_LG_chooseCar_47 rfl rfl ?_
      refine zg_aload_n F.1 zd_LG_chooseCar_48 rfl rfl ?_
      refine zg_getR0 F.1 (by decide) rfl 1 (by decide) 4 rfl zwf_LG_18 zd_LG_chooseCar_49 ?_
      refine zg_iload F.1 zd_LG_chooseCar_52 rfl ?_
      by_cases hi54 : l5 < 0 ∨ 4 ≤ l5.toNatClampNeg
      case pos => rw [if_pos hi54] at h; cases h
      rw [if_neg hi54] at h
      refine zg_ald6 F.1 (by decide) rfl hi54 l5.toNatClampNeg rfl zd_LG_chooseCar_54 ?_
      refine zg_iconst F.1 0 0 (by decide) zd_LG_chooseCar_55 ?_
      obtain ⟨y56, hc56, h⟩ := Option.bind_eq_some_iff.mp h
      refine zg_callV F (As := [.ref (5 + l5.toNatClampNeg), .int 0]) (rest := [.int y44.1]) (zk_LG_worstWith F.1.2.2 N (5 + l5.toNatClampNeg) 0 y44.2 (zw_carI hi54) hc56) rfl rfl zcal_LG_worstWith zml_LG_171 ⟨(Nat.le_of_ble_eq_true rfl), (Nat.le_of_ble_eq_true rfl)⟩ (zg_rec0 F.1 (by decide) rfl) rfl (Nat.le_of_ble_eq_true rfl) ⟨(Nat.le_of_ble_eq_true rfl), (Nat.le_of_ble_eq_true rfl)⟩ zd_LG_chooseCar_56 ?_
      refine zg_isub F.1 zd_LG_chooseCar_59 ?_
      refine zg_istore F.1 [some (.ref 0), some (.int l1), some (.int l2), some (.int l3), some (.int l4), some (.int l5), some (.int (y44.1 - y56.1))] zd_LG_chooseCar_60 (by decide) rfl ?_
      refine zg_iload_n F.1 zd_LG_chooseCar_62 rfl rfl ?_
      refine zg_iconst F.1 (-1) (-1) (by decide) zd_LG_chooseCar_63 ?_
      refine zg_icmp_eq F.1 74 zd_LG_chooseCar_64 rfl (fun hc => ?_) (fun hc => ?_)
      · rw [if_pos hc] at h
        exact zg_le (zw_les (zw_les (zw_les (zw_len (zw_len (zw_les (zw_les zw_le0))))))) (zl_LG_chooseCar_74 F hr12 l1 l2 l5 (y44.1 - y56.1) y56.2 h)
      · rw [if_neg hc] at h
        refine zg_iload F.1 zd_LG_chooseCar_67 rfl ?_
        refine zg_iload F.1 zd_LG_chooseCar_69 rfl ?_
        refine zg_icmp_ge F.1 81 zd_LG_chooseCar_71 rfl (fun hc => ?_) (fun hc => ?_)
        · rw [if_pos hc] at h
          exact zg_le (zw_les (zw_les (zw_les (zw_les (zw_les (zw_les (zw_len zw_le0))))))) (zl_LG_chooseCar_81 F hr12 l1 l2 l3 l4 l5 y56.2 h)
        · rw [if_neg hc] at h
          exact zg_le (zw_les (zw_les (zw_les (zw_len (zw_len (zw_les (zw_les zw_le0))))))) (zl_LG_chooseCar_74 F hr12 l1 l2 l5 (y44.1 - y56.1) y56.2 h)
def zf_LG_chooseCar_12 (N : Nat)  : Nat → Int32 → Int32 → Int32 → Int32 → Int32 → zS → Option zS
  | 0, _, _, _, _, _, _ => none
  | n + 1, l1, l2, l3, l4, l5, st => zb_LG_chooseCar_12 N  (zf_LG_chooseCar_12 N  n) l1 l2 l3 l4 l5 st
theorem zl_LG_chooseCar_12 (F : zw_X p m c zo_LG_chooseCar 7 s args zR0 E 10 A meth none) {N : Nat} {rst : zS}   : ∀ (n : Nat) (l1 : Int32) (l2 : Int32) (l3 : Int32) (l4 : Int32) (l5 : Int32) (st : zS)  (h : zf_LG_chooseCar_12 N  n l1 l2 l3 l4 l5 st = some rst), zw_G p l e zrm_LG_chooseCar s m args below meth c (MQ below (zw_Q E none rst A) args s 0 0 A) E A 7 0 12 [some (.ref 0), some (.int l1), some (.int l2), some (.int l3), some (.int l4), some (.int l5), none] [] st := by
  intro n
  induction n with
  | zero => intro l1 l2 l3 l4 l5 st  h; cases h
  | succ n ih => intro l1 l2 l3 l4 l5 st  h; exact zlb_LG_chooseCar_12 F  ih l1 l2 l3 l4 l5 st  h
def zf_LG_chooseCar (N : Nat) (a1 : Int32) (st : zS) : Option zS := zf_LG_chooseCar_12 N N a1 (1 <<< (a1 &&& 31)) (-1) 0 0 st
set_option maxHeartbeats 4000000 in
theorem zl_LG_chooseCar_0 (F : zw_X p m c zo_LG_chooseCar 7 s args zR0 E 10 A meth none) {N : Nat} {rst : zS} (a1 : Int32) (st : zS)  (h : zf_LG_chooseCar N a1 st = some rst) : zw_G p l e zrm_LG_chooseCar s m args below meth c (MQ below (zw_Q E none rst A) args s 0 0 A) E A 7 0 0 [some (.ref 0), some (.int a1), none, none, none, none, none] [] st := by
  unfold zf_LG_chooseCar at h
  refine zg_iconst F.1 1 1 (by decide) zd_LG_chooseCar_0 ?_
  refine zg_iload_n F.1 zd_LG_chooseCar_1 rfl rfl ?_
  refine zg_ishl F.1 zd_LG_chooseCar_2 ?_
  refine zg_istore_n F.1 [some (.ref 0), some (.int a1), some (.int (1 <<< (a1 &&& 31))), none, none, none, none] zd_LG_chooseCar_3 rfl (by decide) rfl ?_
  refine zg_iconst F.1 (-1) (-1) (by decide) zd_LG_chooseCar_4 ?_
  refine zg_istore_n F.1 [some (.ref 0), some (.int a1), some (.int (1 <<< (a1 &&& 31))), some (.int (-1)), none, none, none] zd_LG_chooseCar_5 rfl (by decide) rfl ?_
  refine zg_iconst F.1 0 0 (by decide) zd_LG_chooseCar_6 ?_
  refine zg_istore F.1 [some (.ref 0), some (.int a1), some (.int (1 <<< (a1 &&& 31))), some (.int (-1)), some (.int 0), none, none] zd_LG_chooseCar_7 (by decide) rfl ?_
  refine zg_iconst F.1 0 0 (by decide) zd_LG_chooseCar_9 ?_
  refine zg_istore F.1 [some (.ref 0), some (.int a1), some (.int (1 <<< (a1 &&& 31))), some (.int (-1)), some (.int 0), some (.int 0), none] zd_LG_chooseCar_10 (by decide) rfl ?_
  exact zl_LG_chooseCar_12 F N a1 (1 <<< (a1 &&& 31)) (-1) 0 0 st h
theorem zk_LG_chooseCar {E : zE} (hn : zw_n E 10) (N : Nat) (a1 : Int32) (st : zS)  {rst : zS} (h : zf_LG_chooseCar N a1 st = some rst) : zw_M l zy_LG_chooseCar (Cond.code zy_LG_chooseCar zo_LG_chooseCar 7 none :: zwAll) zrm_LG_chooseCar E [.ref 0, .int a1] st none rst :=
  zw_enter (by decide) rfl hn (Nat.le_of_ble_eq_true rfl) (by simp [Value.category]) 5 (fun p e s m args below meth c A F => zl_LG_chooseCar_0 F a1 st  h)
theorem zcal_LG_chooseCar : zw_cal zR0 zy_LG_chooseCar zo_LG_chooseCar 7 none 1 := ⟨zw_at 294 rfl rfl, zw_at 6 rfl rfl, zw_at 47 rfl rfl, zw_at 295 rfl rfl, rfl, by decide, by decide, by decide +kernel⟩
theorem zml_LG_89 : Cond.methodLink zR0 89 zy_LG_chooseCar ∈ zwAll := zw_at 292 rfl rfl
/-! LiftGroup.chooseForAll(I)V -/
abbrev zrm_LG_chooseForAll : Room := { frames := 5, cells := 0, slots := 0, locals := 117 }
def zf_LG_chooseForAll_23 (N : Nat) (r2 : Int32 → Int32 → zS → Option zS) (l1 : Int32) (l2 : Int32) (st : zS) : Option zS := r2 l1 (l2 + 1) st
set_option maxHeartbeats 4000000 in
theorem zl_LG_chooseForAll_23 (F : zw_X p m c zo_LG_chooseForAll 3 s args zR0 E 10 A meth none) {N : Nat} {rst : zS} {r2 : Int32 → Int32 → zS → Option zS} (hr2 : ∀ (l1 : Int32) (l2 : Int32) (st : zS) , r2 l1 l2 st = some rst → zw_G p l e zrm_LG_chooseForAll s m args below meth c (MQ below (zw_Q E none rst A) args s 0 0 A) E A 3 0 2 [some (.ref 0), some (.int l1), some (.int l2)] [] st) (l1 : Int32) (l2 : Int32) (st : zS)  (h : zf_LG_chooseForAll_23 N r2 l1 l2 st = some rst) : zw_G p l e zrm_LG_chooseForAll s m args below meth c (MQ below (zw_Q E none rst A) args s 0 0 A) E A 3 0 23 [some (.ref 0), some (.int l1), some (.int l2)] [] st := by
  unfold zf_LG_chooseForAll_23 at h
  refine zg_iinc F.1 (l2 + 1) [some (.ref 0), some (.int l1), some (.int (l2 + 1))] zd_LG_chooseForAll_23 rfl (by rw [lit1]) (by decide) rfl ?_
  refine zg_goto F.1 2 zd_LG_chooseForAll_26 rfl ?_
  exact hr2 l1 (l2 + 1) st h
def zb_LG_chooseForAll_2 (N : Nat) (r2 : Int32 → Int32 → zS → Option zS) (l1 : Int32) (l2 : Int32) (st : zS) : Option zS := (if (st 0 6) ≤ l2 then some st else (if (l1 &&& (1 <<< (l2 &&& 31))) = 0 then zf_LG_chooseForAll_23 N r2 l1 l2 st else ((zf_LG_chooseCar N l2 st).bind fun t20 => zf_LG_chooseForAll_23 N r2 l1 l2 t20)))
set_option maxHeartbeats 4000000 in
theorem zlb_LG_chooseForAll_2 (F : zw_X p m c zo_LG_chooseForAll 3 s args zR0 E 10 A meth none) {N : Nat} {rst : zS} {r2 : Int32 → Int32 → zS → Option zS} (hr2 : ∀ (l1 : Int32) (l2 : Int32) (st : zS) , r2 l1 l2 st = some rst → zw_G p l e zrm_LG_chooseForAll s m args below meth c (MQ below (zw_Q E none rst A) args s 0 0 A) E A 3 0 2 [some (.ref 0), some (.int l1), some (.int l2)] [] st) (l1 : Int32) (l2 : Int32) (st : zS)  (h : zb_LG_chooseForAll_2 N r2 l1 l2 st = some rst) : zw_G p l e zrm_LG_chooseForAll s m args below meth c (MQ below (zw_Q E none rst A) args s 0 0 A) E A 3 0 2 [some (.ref 0), some (.int l1), some (.int l2)] [] st := by
  unfold zb_LG_chooseForAll_2 at h
  refine zg_iload_n F.1 zd_LG_chooseForAll_2 rfl rfl ?_
  refine zg_aload_n F.1 zd_LG_chooseForAll_3 rfl rfl ?_
  refine zg_getI0 F.1 (by decide) rfl 6 (by decide) (st 0 6) rfl rfl zwf_LG_71 zd_LG_chooseForAll_4 ?_
  refine zg_icmp_ge F.1 29 zd_LG_chooseForAll_7 rfl (fun hc => ?_) (fun hc => ?_)
  · rw [if_pos hc] at h
    cases h
    exact zg_vret F zd_LG_chooseForAll_29
  · rw [if_neg hc] at h
    refine zg_iload_n F.1 zd_LG_chooseForAll_10 rfl rfl ?_
    refine zg_iconst F.1 1 1 (by decide) zd_LG_chooseForAll_11 ?_
    refine zg_iload_n F.1 zd_LG_chooseForAll_12 rfl rfl ?_
    refine zg_ishl F.1 zd_LG_chooseForAll_13 ?_
    refine zg_iand F.1 zd_LG_chooseForAll_14 ?_
    refine zg_if_eq F.1 23 zd_LG_chooseForAll_15 rfl (fun hc => ?_) (fun hc => ?_)
    · rw [if_pos hc] at h
      exact zl_LG_chooseForAll_23 F hr2 l1 l2 st h
    · rw [if_neg hc] at h
      refine zg_aload_n F.1 zd_LG_chooseForAll_18 rfl rfl ?_
      refine zg_iload_n F.1 zd_LG_chooseForAll_19 rfl rfl ?_
      obtain ⟨t20, hc20, h⟩ := Option.bind_eq_some_iff.mp h
      refine zg_callV F (As := [.int l2]) (rest := []) (zk_LG_chooseCar F.1.2.2 N l2 st hc20) rfl rfl zcal_LG_chooseCar zml_LG_89 ⟨(Nat.le_of_ble_eq_true rfl), (Nat.le_of_ble_eq_true rfl)⟩ (zg_rec0 F.1 (by decide) rfl) rfl (Nat.le_of_ble_eq_true rfl) ⟨(Nat.le_of_ble_eq_true rfl), (Nat.le_of_ble_eq_true rfl)⟩ zd_LG_chooseForAll_20 ?_
      exact zl_LG_chooseForAll_23 F hr2 l1 l2 t20 h
def zf_LG_chooseForAll_2 (N : Nat)  : Nat → Int32 → Int32 → zS → Option zS
  | 0, _, _, _ => none
  | n + 1, l1, l2, st => zb_LG_chooseForAll_2 N  (zf_LG_chooseForAll_2 N  n) l1 l2 st
theorem zl_LG_chooseForAll_2 (F : zw_X p m c zo_LG_chooseForAll 3 s args zR0 E 10 A meth none) {N : Nat} {rst : zS}   : ∀ (n : Nat) (l1 : Int32) (l2 : Int32) (st : zS)  (h : zf_LG_chooseForAll_2 N  n l1 l2 st = some rst), zw_G p l e zrm_LG_chooseForAll s m args below meth c (MQ below (zw_Q E none rst A) args s 0 0 A) E A 3 0 2 [some (.ref 0), some (.int l1), some (.int l2)] [] st := by
  intro n
  induction n with
  | zero => intro l1 l2 st  h; cases h
  | succ n ih => intro l1 l2 st  h; exact zlb_LG_chooseForAll_2 F  ih l1 l2 st  h
def zf_LG_chooseForAll (N : Nat) (a1 : Int32) (st : zS) : Option zS := zf_LG_chooseForAll_2 N N a1 0 st
set_option maxHeartbeats 4000000 in
theorem zl_LG_chooseForAll_0 (F : zw_X p m c zo_LG_chooseForAll 3 s args zR0 E 10 A meth none) {N : Nat} {rst : zS} (a1 : Int32) (st : zS)  (h : zf_LG_chooseForAll N a1 st = some rst) : zw_G p l e zrm_LG_chooseForAll s m args below meth c (MQ below (zw_Q E none rst A) args s 0 0 A) E A 3 0 0 [some (.ref 0), some (.int a1), none] [] st := by
  unfold zf_LG_chooseForAll at h
  refine zg_iconst F.1 0 0 (by decide) zd_LG_chooseForAll_0 ?_
  refine zg_istore_n F.1 [some (.ref 0), some (.int a1), some (.int 0)] zd_LG_chooseForAll_1 rfl (by decide) rfl ?_
  exact zl_LG_chooseForAll_2 F N a1 0 st h
theorem zk_LG_chooseForAll {E : zE} (hn : zw_n E 10) (N : Nat) (a1 : Int32) (st : zS)  {rst : zS} (h : zf_LG_chooseForAll N a1 st = some rst) : zw_M l zy_LG_chooseForAll (Cond.code zy_LG_chooseForAll zo_LG_chooseForAll 3 none :: zwAll) zrm_LG_chooseForAll E [.ref 0, .int a1] st none rst :=
  zw_enter (by decide) rfl hn (Nat.le_of_ble_eq_true rfl) (by simp [Value.category]) 1 (fun p e s m args below meth c A F => zl_LG_chooseForAll_0 F a1 st  h)
theorem zwf_LG_194 : Cond.fieldLink zR0 194 (zT3 4).1 (zT3 4).2.1 (zT3 4).2.2.1 ∈ zwAll := zw_at 176 rfl rfl
theorem zwf_LG_191 : Cond.fieldLink zR0 191 (zT3 5).1 (zT3 5).2.1 (zT3 5).2.2.1 ∈ zwAll := zw_at 178 rfl rfl
theorem zml_LG_289 : Cond.methodLink zR0 289 Lib.Math.max.name ∈ zwAll := zw_at 524 rfl rfl
theorem zwm_max_1 : Cond.static Lib.Math.max.name ∈ zwAll := zw_at 525 rfl rfl
theorem zwm_max_2 : Cond.initialized "java/lang/Math" ∈ zwAll := zw_at 60 rfl rfl
theorem zwm_max_3 : Cond.code Lib.Math.max.name Lib.Math.max.code 2 (some .int) ∈ zwAll := zw_at 526 rfl rfl
/-! LiftGroup.changeRider(LLiftGroup$Rider;I)V -/
abbrev zrm_LG_changeRider : Room := { frames := 1, cells := 0, slots := 0, locals := 21 }
def zf_LG_changeRider_81 (N : Nat)   (st : zS) : Option zS := some st
set_option maxHeartbeats 4000000 in
theorem zl_LG_changeRider_81 (F : zw_X p m c zo_LG_changeRider 3 s args zR0 E 10 A meth none) {N : Nat} {rst : zS}    (st : zS)  (h : zf_LG_changeRider_81 N   st = some rst) : zw_G p l e zrm_LG_changeRider s m args below meth c (MQ below (zw_Q E none rst A) args s 0 0 A) E A 3 0 81 [none, none, none] [] st := by
  unfold zf_LG_changeRider_81 at h
  cases h
  exact zg_vret F zd_LG_changeRider_81
def zf_LG_changeRider_22 (N : Nat)  (l1 : Nat) (l2 : Int32) (s0 : Int32) (s1 : Nat) (st : zS) : Option zS := (if l2 = 3 then zf_LG_changeRider_81 N (zp (zp (zp (zp (zp st s1 2 s0) l1 5 ((st 0 8) - ((zp st s1 2 s0) l1 4))) 0 9 ((st 0 9) + 1)) 0 10 (if (st 0 10) < ((st 0 8) - ((zp st s1 2 s0) l1 4)) then ((st 0 8) - ((zp st s1 2 s0) l1 4)) else (st 0 10))) 0 11 ((st 0 11) + ((st 0 8) - ((zp st s1 2 s0) l1 4)))) else zf_LG_changeRider_81 N (zp (zp st s1 2 s0) l1 5 ((st 0 8) - ((zp st s1 2 s0) l1 4))))
set_option maxHeartbeats 4000000 in
theorem zl_LG_changeRider_22 (F : zw_X p m c zo_LG_changeRider 3 s args zR0 E 10 A meth none) {N : Nat} {rst : zS}   (l1 : Nat) (l2 : Int32) (s0 : Int32) (s1 : Nat) (st : zS) (k1 : zw_kind l1 = 3) (h1 : zw_kind s1 = 3) (h : zf_LG_changeRider_22 N  l1 l2 s0 s1 st = some rst) : zw_G p l e zrm_LG_changeRider s m args below meth c (MQ below (zw_Q E none rst A) args s 0 0 A) E A 3 0 22 [some (.ref 0), some (.ref l1), some (.int l2)] [.int s0, .ref s1] st := by
  unfold zf_LG_changeRider_22 at h
  refine zg_putI3 F.1 (by decide) h1 2 (by decide) (Or.inr (Or.inr (Or.inl rfl))) .int (by decide) rfl rfl rfl zwf_LG_179 zd_LG_changeRider_22 ?_
  refine zg_aload_n F.1 zd_LG_changeRider_25 rfl rfl ?_
  refine zg_aload_n F.1 zd_LG_changeRider_26 rfl rfl ?_
  refine zg_getI0 F.1 (by decide) rfl 8 (by decide) (st 0 8) rfl (zp_q _ _ (zw_kne h1 (by decide))) zwf_LG_80 zd_LG_changeRider_27 ?_
  refine zg_aload_n F.1 zd_LG_changeRider_30 rfl rfl ?_
  refine zg_getI3 F.1 (by decide) k1 4 (by decide) ((zp st s1 2 s0) l1 4) rfl rfl zwf_LG_194 zd_LG_changeRider_31 ?_
  refine zg_isub F.1 zd_LG_changeRider_34 ?_
  refine zg_putI3 F.1 (by decide) k1 5 (by decide) (Or.inr (Or.inr (Or.inr (Or.inr (Or.inr rfl))))) .int (by decide) rfl rfl rfl zwf_LG_191 zd_LG_changeRider_35 ?_
  refine zg_iload_n F.1 zd_LG_changeRider_38 rfl rfl ?_
  refine zg_iconst F.1 3 3 (by decide) zd_LG_changeRider_39 ?_
  refine zg_icmp_ne F.1 81 zd_LG_changeRider_40 rfl (fun hc => ?_) (fun hc => ?_)
  · rw [if_neg hc] at h
    exact zg_le (zw_len (zw_len (zw_len zw_le0))) (zl_LG_changeRider_81 F (zp (zp st s1 2 s0) l1 5 ((st 0 8) - ((zp st s1 2 s0) l1 4))) h)
  · rw [if_pos hc] at h
    refine zg_aload_n F.1 zd_LG_changeRider_43 rfl rfl ?_
    refine zg_dup F.1 zd_LG_changeRider_44 rfl ?_
    refine zg_getI0 F.1 (by decide) rfl 9 (by decide) (st 0 9) rfl ((zp_q _ _ (zw_kne k1 (by decide))).trans (zp_q _ _ (zw_kne h1 (by decide)))) zwf_LG_238 zd_LG_changeRider_45 ?_
    refine zg_iconst F.1 1 1 (by decide) zd_LG_changeRider_48 ?_
    refine zg_iadd F.1 zd_LG_changeRider_49 ?_
    refine zg_putI0 F.1 (by decide) rfl 9 (by decide) (Or.inr (Or.inr (Or.inr (Or.inr (Or.inl rfl))))) .int (by decide) rfl rfl rfl zwf_LG_238 zd_LG_changeRider_50 ?_
    refine zg_aload_n F.1 zd_LG_changeRider_53 rfl rfl ?_
    refine zg_aload_n F.1 zd_LG_changeRider_54 rfl rfl ?_
    refine zg_getI0 F.1 (by decide) rfl 10 (by decide) (st 0 10) rfl ((zp_o _ _ (by decide)).trans ((zp_q _ _ (zw_kne k1 (by decide))).trans (zp_q _ _ (zw_kne h1 (by decide))))) zwf_LG_241 zd_LG_changeRider_55 ?_
    refine zg_aload_n F.1 zd_LG_changeRider_58 rfl rfl ?_
    refine zg_getI3 F.1 (by decide) k1 5 (by decide) ((st 0 8) - ((zp st s1 2 s0) l1 4)) rfl ((zp_q _ _ (zw_kne' k1 (by decide))).trans (zp_s _ _ _ _)) zwf_LG_191 zd_LG_changeRider_59 ?_
    refine zg_mmax F.1 zml_LG_289 zwm_max_1 zwm_max_2 zwm_max_3 (Nat.le_of_ble_eq_true rfl) (Nat.le_of_ble_eq_true rfl) (Nat.le_of_ble_eq_true rfl) (Nat.le_of_ble_eq_true rfl) zd_LG_changeRider_62 ?_
    refine zg_putI0 F.1 (by decide) rfl 10 (by decide) (Or.inr (Or.inr (Or.inr (Or.inr (Or.inr (Or.inl rfl)))))) .int (by decide) rfl rfl rfl zwf_LG_241 zd_LG_changeRider_65 ?_
    refine zg_aload_n F.1 zd_LG_changeRider_68 rfl rfl ?_
    refine zg_dup F.1 zd_LG_changeRider_69 rfl ?_
    refine zg_getI0 F.1 (by decide) rfl 11 (by decide) (st 0 11) rfl ((zp_o _ _ (by decide)).trans ((zp_o _ _ (by decide)).trans ((zp_q _ _ (zw_kne k1 (by decide))).trans (zp_q _ _ (zw_kne h1 (by decide)))))) zwf_LG_244 zd_LG_changeRider_70 ?_
    refine zg_aload_n F.1 zd_LG_changeRider_73 rfl rfl ?_
    refine zg_getI3 F.1 (by decide) k1 5 (by decide) ((st 0 8) - ((zp st s1 2 s0) l1 4)) rfl ((zp_q _ _ (zw_kne' k1 (by decide))).trans ((zp_q _ _ (zw_kne' k1 (by decide))).trans (zp_s _ _ _ _))) zwf_LG_191 zd_LG_changeRider_74 ?_
    refine zg_iadd F.1 zd_LG_changeRider_77 ?_
    refine zg_putI0 F.1 (by decide) rfl 11 (by decide) (Or.inr (Or.inr (Or.inr (Or.inr (Or.inr (Or.inr rfl)))))) .int (by decide) rfl rfl rfl zwf_LG_244 zd_LG_changeRider_78 ?_
    exact zg_le (zw_len (zw_len (zw_len zw_le0))) (zl_LG_changeRider_81 F (zp (zp (zp (zp (zp st s1 2 s0) l1 5 ((st 0 8) - ((zp st s1 2 s0) l1 4))) 0 9 ((st 0 9) + 1)) 0 10 (if (st 0 10) < ((st 0 8) - ((zp st s1 2 s0) l1 4)) then ((st 0 8) - ((zp st s1 2 s0) l1 4)) else (st 0 10))) 0 11 ((st 0 11) + ((st 0 8) - ((zp st s1 2 s0) l1 4)))) h)
def zf_LG_changeRider (N : Nat) (a1 : Nat) (a2 : Int32) (st : zS) : Option zS := (if a2 = 2 then some (zp st a1 2 1) else (if a2 = 3 then zf_LG_changeRider_22 N a1 a2 2 a1 st else zf_LG_changeRider_22 N a1 a2 3 a1 st))
set_option maxHeartbeats 4000000 in
theorem zl_LG_changeRider_0 (F : zw_X p m c zo_LG_changeRider 3 s args zR0 E 10 A meth none) {N : Nat} {rst : zS} (a1 : Nat) (a2 : Int32) (st : zS) (k1 : zw_kind a1 = 3) (h : zf_LG_changeRider N a1 a2 st = some rst) : zw_G p l e zrm_LG_changeRider s m args below meth c (MQ below (zw_Q E none rst A) args s 0 0 A) E A 3 0 0 [some (.ref 0), some (.ref a1), some (.int a2)] [] st := by
  unfold zf_LG_changeRider at h
  refine zg_iload_n F.1 zd_LG_changeRider_0 rfl rfl ?_
  refine zg_iconst F.1 2 2 (by decide) zd_LG_changeRider_1 ?_
  refine zg_icmp_ne F.1 11 zd_LG_changeRider_2 rfl (fun hc => ?_) (fun hc => ?_)
  · rw [if_neg hc] at h
    refine zg_aload_n F.1 zd_LG_changeRider_11 rfl rfl ?_
    refine zg_iload_n F.1 zd_LG_changeRider_12 rfl rfl ?_
    refine zg_iconst F.1 3 3 (by decide) zd_LG_changeRider_13 ?_
    refine zg_icmp_ne F.1 21 zd_LG_changeRider_14 rfl (fun hc => ?_) (fun hc => ?_)
    · rw [if_neg hc] at h
      refine zg_iconst F.1 3 3 (by decide) zd_LG_changeRider_21 ?_
      exact zl_LG_changeRider_22 F a1 a2 3 a1 st k1 k1 h
    · rw [if_pos hc] at h
      refine zg_iconst F.1 2 2 (by decide) zd_LG_changeRider_17 ?_
      refine zg_goto F.1 22 zd_LG_changeRider_18 rfl ?_
      exact zl_LG_changeRider_22 F a1 a2 2 a1 st k1 k1 h
  · rw [if_pos hc] at h
    refine zg_aload_n F.1 zd_LG_changeRider_5 rfl rfl ?_
    refine zg_iconst F.1 1 1 (by decide) zd_LG_changeRider_6 ?_
    refine zg_putI3 F.1 (by decide) k1 2 (by decide) (Or.inr (Or.inr (Or.inl rfl))) .int (by decide) rfl rfl rfl zwf_LG_179 zd_LG_changeRider_7 ?_
    cases h
    exact zg_vret F zd_LG_changeRider_10
theorem zk_LG_changeRider {E : zE} (hn : zw_n E 10) (N : Nat) (a1 : Nat) (a2 : Int32) (st : zS) (k1 : zw_kind a1 = 3) {rst : zS} (h : zf_LG_changeRider N a1 a2 st = some rst) : zw_M l zy_LG_changeRider (Cond.code zy_LG_changeRider zo_LG_changeRider 3 none :: zwAll) zrm_LG_changeRider E [.ref 0, .ref a1, .int a2] st none rst :=
  zw_enter (by decide) rfl hn (Nat.le_of_ble_eq_true rfl) (by simp [Value.category]) 0 (fun p e s m args below meth c A F => zl_LG_changeRider_0 F a1 a2 st k1 h)
theorem zcal_LG_changeRider : zw_cal zR0 zy_LG_changeRider zo_LG_changeRider 3 none 2 := ⟨zw_at 522 rfl rfl, zw_at 21 rfl rfl, zw_at 47 rfl rfl, zw_at 523 rfl rfl, rfl, by decide, by decide, by decide +kernel⟩
theorem zml_LG_285 : Cond.methodLink zR0 285 zy_LG_changeRider ∈ zwAll := zw_at 520 rfl rfl
/-! LiftGroup.noteAll(III)V -/
abbrev zrm_LG_noteAll : Room := { frames := 2, cells := 0, slots := 0, locals := 43 }
def zf_LG_noteAll_48 (N : Nat) (r3 : Int32 → Int32 → Int32 → Int32 → zS → Option zS) (l1 : Int32) (l2 : Int32) (l3 : Int32) (l4 : Int32) (st : zS) : Option zS := r3 l1 l2 l3 (l4 + 1) st
set_option maxHeartbeats 4000000 in
theorem zl_LG_noteAll_48 (F : zw_X p m c zo_LG_noteAll 5 s args zR0 E 10 A meth none) {N : Nat} {rst : zS} {r3 : Int32 → Int32 → Int32 → Int32 → zS → Option zS} (hr3 : ∀ (l1 : Int32) (l2 : Int32) (l3 : Int32) (l4 : Int32) (st : zS) , r3 l1 l2 l3 l4 st = some rst → zw_G p l e zrm_LG_noteAll s m args below meth c (MQ below (zw_Q E none rst A) args s 0 0 A) E A 5 0 3 [some (.ref 0), some (.int l1), some (.int l2), some (.int l3), some (.int l4)] [] st) (l1 : Int32) (l2 : Int32) (l3 : Int32) (l4 : Int32) (st : zS)  (h : zf_LG_noteAll_48 N r3 l1 l2 l3 l4 st = some rst) : zw_G p l e zrm_LG_noteAll s m args below meth c (MQ below (zw_Q E none rst A) args s 0 0 A) E A 5 0 48 [some (.ref 0), some (.int l1), some (.int l2), some (.int l3), some (.int l4)] [] st := by
  unfold zf_LG_noteAll_48 at h
  refine zg_iinc F.1 (l4 + 1) [some (.ref 0), some (.int l1), some (.int l2), some (.int l3), some (.int (l4 + 1))] zd_LG_noteAll_48 rfl (by rw [lit1]) (by decide) rfl ?_
  refine zg_goto F.1 3 zd_LG_noteAll_51 rfl ?_
  exact hr3 l1 l2 l3 (l4 + 1) st h
def zb_LG_noteAll_3 (N : Nat) (r3 : Int32 → Int32 → Int32 → Int32 → zS → Option zS) (l1 : Int32) (l2 : Int32) (l3 : Int32) (l4 : Int32) (st : zS) : Option zS := (if (st 0 6) ≤ l4 then some st else (if (l1 &&& (1 <<< (l4 &&& 31))) = 0 then zf_LG_noteAll_48 N r3 l1 l2 l3 l4 st else (if l4 < 0 ∨ 24 ≤ l4.toNatClampNeg then none else ((zf_LG_changeRider N (11 + l4.toNatClampNeg) l2 st).bind fun t30 => ((zf_Lo_note N (t30 0 8) l2 l4 l3 t30).bind fun t45 => zf_LG_noteAll_48 N r3 l1 l2 l3 l4 t45)))))
set_option maxHeartbeats 4000000 in
theorem zlb_LG_noteAll_3 (F : zw_X p m c zo_LG_noteAll 5 s args zR0 E 10 A meth none) {N : Nat} {rst : zS} {r3 : Int32 → Int32 → Int32 → Int32 → zS → Option zS} (hr3 : ∀ (l1 : Int32) (l2 : Int32) (l3 : Int32) (l4 : Int32) (st : zS) , r3 l1 l2 l3 l4 st = some rst → zw_G p l e zrm_LG_noteAll s m args below meth c (MQ below (zw_Q E none rst A) args s 0 0 A) E A 5 0 3 [some (.ref 0), some (.int l1), some (.int l2), some (.int l3), some (.int l4)] [] st) (l1 : Int32) (l2 : Int32) (l3 : Int32) (l4 : Int32) (st : zS)  (h : zb_LG_noteAll_3 N r3 l1 l2 l3 l4 st = some rst) : zw_G p l e zrm_LG_noteAll s m args below meth c (MQ below (zw_Q E none rst A) args s 0 0 A) E A 5 0 3 [some (.ref 0), some (.int l1), some (.int l2), some (.int l3), some (.int l4)] [] st := by
  unfold zb_LG_noteAll_3 at h
  refine zg_iload F.1 zd_LG_noteAll_3 rfl ?_
  refine zg_aload_n F.1 zd_LG_noteAll_5 rfl rfl ?_
  refine zg_getI0 F.1 (by decide) rfl 6 (by decide) (st 0 6) rfl rfl zwf_LG_71 zd_LG_noteAll_6 ?_
  refine zg_icmp_ge F.1 54 zd_LG_noteAll_9 rfl (fun hc => ?_) (fun hc => ?_)
  · rw [if_pos hc] at h
    cases h
    exact zg_vret F zd_LG_noteAll_54
  · rw [if_neg hc] at h
    refine zg_iload_n F.1 zd_LG_noteAll_12 rfl rfl ?_
    refine zg_iconst F.1 1 1 (by decide) zd_LG_noteAll_13 ?_
    refine zg_iload F.1 zd_LG_noteAll_14 rfl ?_
    refine zg_ishl F.1 zd_LG_noteAll_16 ?_
    refine zg_iand F.1 zd_LG_noteAll_17 ?_
    refine zg_if_eq F.1 48 zd_LG_noteAll_18 rfl (fun hc => ?_) (fun hc => ?_)
    · rw [if_pos hc] at h
      exact zl_LG_noteAll_48 F hr3 l1 l2 l3 l4 st h
    · rw [if_neg hc] at h
      refine zg_aload_n F.1 zd_LG_noteAll_21 rfl rfl ?_
      refine zg_aload_n F.1 zd_LG_noteAll_22 rfl rfl ?_
      refine zg_getR0 F.1 (by decide) rfl 3 (by decide) 10 rfl zwf_LG_29 zd_LG_noteAll_23 ?_
      refine zg_iload F.1 zd_LG_noteAll_26 rfl ?_
      by_cases hi28 : l4 < 0 ∨ 24 ≤ l4.toNatClampNeg
      case pos => rw [if_pos hi28] at h; cases h
      rw [if_neg hi28] at h
      refine zg_ald7 F.1 (by decide) rfl hi28 l4.toNatClampNeg rfl zd_LG_noteAll_28 ?_
      refine zg_iload_n F.1 zd_LG_noteAll_29 rfl rfl ?_
      obtain ⟨t30, hc30, h⟩ := Option.bind_eq_some_iff.mp h
      refine zg_callV F (As := [.ref (11 + l4.toNatClampNeg), .int l2]) (rest := []) (zk_LG_changeRider F.1.2.2 N (11 + l4.toNatClampNeg) l2 st (zw_riderI hi28) hc30) rfl rfl zcal_LG_changeRider zml_LG_285 ⟨(Nat.le_of_ble_eq_true rfl), (Nat.le_of_ble_eq_true rfl)⟩ (zg_rec0 F.1 (by decide) rfl) rfl (Nat.le_of_ble_eq_true rfl) ⟨(Nat.le_of_ble_eq_true rfl), (Nat.le_of_ble_eq_true rfl)⟩ zd_LG_noteAll_30 ?_
      refine zg_aload_n F.1 zd_LG_noteAll_33 rfl rfl ?_
      refine zg_getR0 F.1 (by decide) rfl 4 (by decide) 35 rfl zwf_LG_37 zd_LG_noteAll_34 ?_
      refine zg_aload_n F.1 zd_LG_noteAll_37 rfl rfl ?_
      refine zg_getI0 F.1 (by decide) rfl 8 (by decide) (t30 0 8) rfl rfl zwf_LG_80 zd_LG_noteAll_38 ?_
      refine zg_iload_n F.1 zd_LG_noteAll_41 rfl rfl ?_
      refine zg_iload F.1 zd_LG_noteAll_42 rfl ?_
      refine zg_iload_n F.1 zd_LG_noteAll_44 rfl rfl ?_
      obtain ⟨t45, hc45, h⟩ := Option.bind_eq_some_iff.mp h
      refine zg_callV F (As := [.int (t30 0 8), .int l2, .int l4, .int l3]) (rest := []) (zk_Lo_note F.1.2.2 N (t30 0 8) l2 l4 l3 t30 hc45) rfl rfl zcal_Lo_note zml_LG_272 ⟨(Nat.le_of_ble_eq_true rfl), (Nat.le_of_ble_eq_true rfl)⟩ (zg_rec4 F.1 (by decide) rfl) rfl (Nat.le_of_ble_eq_true rfl) ⟨(Nat.le_of_ble_eq_true rfl), (Nat.le_of_ble_eq_true rfl)⟩ zd_LG_noteAll_45 ?_
      exact zl_LG_noteAll_48 F hr3 l1 l2 l3 l4 t45 h
def zf_LG_noteAll_3 (N : Nat)  : Nat → Int32 → Int32 → Int32 → Int32 → zS → Option zS
  | 0, _, _, _, _, _ => none
  | n + 1, l1, l2, l3, l4, st => zb_LG_noteAll_3 N  (zf_LG_noteAll_3 N  n) l1 l2 l3 l4 st
theorem zl_LG_noteAll_3 (F : zw_X p m c zo_LG_noteAll 5 s args zR0 E 10 A meth none) {N : Nat} {rst : zS}   : ∀ (n : Nat) (l1 : Int32) (l2 : Int32) (l3 : Int32) (l4 : Int32) (st : zS)  (h : zf_LG_noteAll_3 N  n l1 l2 l3 l4 st = some rst), zw_G p l e zrm_LG_noteAll s m args below meth c (MQ below (zw_Q E none rst A) args s 0 0 A) E A 5 0 3 [some (.ref 0), some (.int l1), some (.int l2), some (.int l3), some (.int l4)] [] st := by
  intro n
  induction n with
  | zero => intro l1 l2 l3 l4 st  h; cases h
  | succ n ih => intro l1 l2 l3 l4 st  h; exact zlb_LG_noteAll_3 F  ih l1 l2 l3 l4 st  h
def zf_LG_noteAll (N : Nat) (a1 : Int32) (a2 : Int32) (a3 : Int32) (st : zS) : Option zS := zf_LG_noteAll_3 N N a1 a2 a3 0 st
set_option maxHeartbeats 4000000 in
theorem zl_LG_noteAll_0 (F : zw_X p m c zo_LG_noteAll 5 s args zR0 E 10 A meth none) {N : Nat} {rst : zS} (a1 : Int32) (a2 : Int32) (a3 : Int32) (st : zS)  (h : zf_LG_noteAll N a1 a2 a3 st = some rst) : zw_G p l e zrm_LG_noteAll s m args below meth c (MQ below (zw_Q E none rst A) args s 0 0 A) E A 5 0 0 [some (.ref 0), some (.int a1), some (.int a2), some (.int a3), none] [] st := by
  unfold zf_LG_noteAll at h
  refine zg_iconst F.1 0 0 (by decide) zd_LG_noteAll_0 ?_
  refine zg_istore F.1 [some (.ref 0), some (.int a1), some (.int a2), some (.int a3), some (.int 0)] zd_LG_noteAll_1 (by decide) rfl ?_
  exact zl_LG_noteAll_3 F N a1 a2 a3 0 st h
theorem zk_LG_noteAll {E : zE} (hn : zw_n E 10) (N : Nat) (a1 : Int32) (a2 : Int32) (a3 : Int32) (st : zS)  {rst : zS} (h : zf_LG_noteAll N a1 a2 a3 st = some rst) : zw_M l zy_LG_noteAll (Cond.code zy_LG_noteAll zo_LG_noteAll 5 none :: zwAll) zrm_LG_noteAll E [.ref 0, .int a1, .int a2, .int a3] st none rst :=
  zw_enter (by decide) rfl hn (Nat.le_of_ble_eq_true rfl) (by simp [Value.category]) 1 (fun p e s m args below meth c A F => zl_LG_noteAll_0 F a1 a2 a3 st  h)
theorem zwf_LG_203 : Cond.fieldLink zR0 203 (zT2 10).1 (zT2 10).2.1 (zT2 10).2.2.1 ∈ zwAll := zw_at 128 rfl rfl
theorem zcal_LG_noteAll : zw_cal zR0 zy_LG_noteAll zo_LG_noteAll 5 none 3 := ⟨zw_at 518 rfl rfl, zw_at 20 rfl rfl, zw_at 47 rfl rfl, zw_at 519 rfl rfl, rfl, by decide, by decide, by decide +kernel⟩
theorem zml_LG_279 : Cond.methodLink zR0 279 zy_LG_noteAll ∈ zwAll := zw_at 516 rfl rfl
theorem zwf_LG_282 : Cond.fieldLink zR0 282 (zT2 12).1 (zT2 12).2.1 (zT2 12).2.2.1 ∈ zwAll := zw_at 132 rfl rfl
/-! LiftGroup.noteExchange(I)V -/
abbrev zrm_LG_noteExchange : Room := { frames := 3, cells := 0, slots := 0, locals := 67 }
def zf_LG_noteExchange_58 (N : Nat)   (st : zS) : Option zS := some st
set_option maxHeartbeats 4000000 in
theorem zl_LG_noteExchange_58 (F : zw_X p m c zo_LG_noteExchange 3 s args zR0 E 10 A meth none) {N : Nat} {rst : zS}    (st : zS)  (h : zf_LG_noteExchange_58 N   st = some rst) : zw_G p l e zrm_LG_noteExchange s m args below meth c (MQ below (zw_Q E none rst A) args s 0 0 A) E A 3 0 58 [none, none, none] [] st := by
  unfold zf_LG_noteExchange_58 at h
  cases h
  exact zg_vret F zd_LG_noteExchange_58
def zf_LG_noteExchange_41 (N : Nat)  (l1 : Int32) (l2 : Nat) (st : zS) : Option zS := (if (st l2 12) = 0 then zf_LG_noteExchange_58 N st else ((zf_LG_noteAll N (st l2 12) 2 l1 st).bind fun t55 => zf_LG_noteExchange_58 N t55))
set_option maxHeartbeats 4000000 in
theorem zl_LG_noteExchange_41 (F : zw_X p m c zo_LG_noteExchange 3 s args zR0 E 10 A meth none) {N : Nat} {rst : zS}   (l1 : Int32) (l2 : Nat) (st : zS) (k2 : zw_kind l2 = 2) (h : zf_LG_noteExchange_41 N  l1 l2 st = some rst) : zw_G p l e zrm_LG_noteExchange s m args below meth c (MQ below (zw_Q E none rst A) args s 0 0 A) E A 3 0 41 [some (.ref 0), some (.int l1), some (.ref l2)] [] st := by
  unfold zf_LG_noteExchange_41 at h
  refine zg_aload_n F.1 zd_LG_noteExchange_41 rfl rfl ?_
  refine zg_getI2 F.1 (by decide) k2 12 (by decide) (st l2 12) rfl rfl zwf_LG_282 zd_LG_noteExchange_42 ?_
  refine zg_if_eq F.1 58 zd_LG_noteExchange_45 rfl (fun hc => ?_) (fun hc => ?_)
  · rw [if_pos hc] at h
    exact zg_le (zw_len (zw_len (zw_len zw_le0))) (zl_LG_noteExchange_58 F st h)
  · rw [if_neg hc] at h
    refine zg_aload_n F.1 zd_LG_noteExchange_48 rfl rfl ?_
    refine zg_aload_n F.1 zd_LG_noteExchange_49 rfl rfl ?_
    refine zg_getI2 F.1 (by decide) k2 12 (by decide) (st l2 12) rfl rfl zwf_LG_282 zd_LG_noteExchange_50 ?_
    refine zg_iconst F.1 2 2 (by decide) zd_LG_noteExchange_53 ?_
    refine zg_iload_n F.1 zd_LG_noteExchange_54 rfl rfl ?_
    obtain ⟨t55, hc55, h⟩ := Option.bind_eq_some_iff.mp h
    refine zg_callV F (As := [.int (st l2 12), .int 2, .int l1]) (rest := []) (zk_LG_noteAll F.1.2.2 N (st l2 12) 2 l1 st hc55) rfl rfl zcal_LG_noteAll zml_LG_279 ⟨(Nat.le_of_ble_eq_true rfl), (Nat.le_of_ble_eq_true rfl)⟩ (zg_rec0 F.1 (by decide) rfl) rfl (Nat.le_of_ble_eq_true rfl) ⟨(Nat.le_of_ble_eq_true rfl), (Nat.le_of_ble_eq_true rfl)⟩ zd_LG_noteExchange_55 ?_
    exact zg_le (zw_len (zw_len (zw_len zw_le0))) (zl_LG_noteExchange_58 F t55 h)
def zf_LG_noteExchange_24 (N : Nat)  (l1 : Int32) (l2 : Nat) (st : zS) : Option zS := (if (st l2 11) = 0 then zf_LG_noteExchange_41 N l1 l2 st else ((zf_LG_noteAll N (st l2 11) 4 l1 st).bind fun t38 => zf_LG_noteExchange_41 N l1 l2 t38))
set_option maxHeartbeats 4000000 in
theorem zl_LG_noteExchange_24 (F : zw_X p m c zo_LG_noteExchange 3 s args zR0 E 10 A meth none) {N : Nat} {rst : zS}   (l1 : Int32) (l2 : Nat) (st : zS) (k2 : zw_kind l2 = 2) (h : zf_LG_noteExchange_24 N  l1 l2 st = some rst) : zw_G p l e zrm_LG_noteExchange s m args below meth c (MQ below (zw_Q E none rst A) args s 0 0 A) E A 3 0 24 [some (.ref 0), some (.int l1), some (.ref l2)] [] st := by
  unfold zf_LG_noteExchange_24 at h
  refine zg_aload_n F.1 zd_LG_noteExchange_24 rfl rfl ?_
  refine zg_getI2 F.1 (by decide) k2 11 (by decide) (st l2 11) rfl rfl zwf_LG_206 zd_LG_noteExchange_25 ?_
  refine zg_if_eq F.1 41 zd_LG_noteExchange_28 rfl (fun hc => ?_) (fun hc => ?_)
  · rw [if_pos hc] at h
    exact zl_LG_noteExchange_41 F l1 l2 st k2 h
  · rw [if_neg hc] at h
    refine zg_aload_n F.1 zd_LG_noteExchange_31 rfl rfl ?_
    refine zg_aload_n F.1 zd_LG_noteExchange_32 rfl rfl ?_
    refine zg_getI2 F.1 (by decide) k2 11 (by decide) (st l2 11) rfl rfl zwf_LG_206 zd_LG_noteExchange_33 ?_
    refine zg_iconst F.1 4 4 (by decide) zd_LG_noteExchange_36 ?_
    refine zg_iload_n F.1 zd_LG_noteExchange_37 rfl rfl ?_
    obtain ⟨t38, hc38, h⟩ := Option.bind_eq_some_iff.mp h
    refine zg_callV F (As := [.int (st l2 11), .int 4, .int l1]) (rest := []) (zk_LG_noteAll F.1.2.2 N (st l2 11) 4 l1 st hc38) rfl rfl zcal_LG_noteAll zml_LG_279 ⟨(Nat.le_of_ble_eq_true rfl), (Nat.le_of_ble_eq_true rfl)⟩ (zg_rec0 F.1 (by decide) rfl) rfl (Nat.le_of_ble_eq_true rfl) ⟨(Nat.le_of_ble_eq_true rfl), (Nat.le_of_ble_eq_true rfl)⟩ zd_LG_noteExchange_38 ?_
    exact zl_LG_noteExchange_41 F l1 l2 t38 k2 h
def zf_LG_noteExchange (N : Nat) (a1 : Int32) (st : zS) : Option zS := (if a1 < 0 ∨ 4 ≤ a1.toNatClampNeg then none else (if (st (5 + a1.toNatClampNeg) 10) = 0 then zf_LG_noteExchange_24 N a1 (5 + a1.toNatClampNeg) st else ((zf_LG_noteAll N (st (5 + a1.toNatClampNeg) 10) 3 a1 st).bind fun t21 => zf_LG_noteExchange_24 N a1 (5 + a1.toNatClampNeg) t21)))
set_option maxHeartbeats 4000000 in
theorem zl_LG_noteExchange_0 (F : zw_X p m c zo_LG_noteExchange 3 s args zR0 E 10 A meth none) {N : Nat} {rst : zS} (a1 : Int32) (st : zS)  (h : zf_LG_noteExchange N a1 st = some rst) : zw_G p l e zrm_LG_noteExchange s m args below meth c (MQ below (zw_Q E none rst A) args s 0 0 A) E A 3 0 0 [some (.ref 0), some (.int a1), none] [] st := by
  unfold zf_LG_noteExchange at h
  refine zg_aload_n F.1 zd_LG_noteExchange_0 rfl rfl ?_
  refine zg_getR0 F.1 (by decide) rfl 1 (by decide) 4 rfl zwf_LG_18 zd_LG_noteExchange_1 ?_
  refine zg_iload_n F.1 zd_LG_noteExchange_4 rfl rfl ?_
  by_cases hi5 : a1 < 0 ∨ 4 ≤ a1.toNatClampNeg
  case pos => rw [if_pos hi5] at h; cases h
  rw [if_neg hi5] at h
  refine zg_ald6 F.1 (by decide) rfl hi5 a1.toNatClampNeg rfl zd_LG_noteExchange_5 ?_
  refine zg_astore_n F.1 [some (.ref 0), some (.int a1), some (.ref (5 + a1.toNatClampNeg))] zd_LG_noteExchange_6 rfl (by decide) rfl ?_
  refine zg_aload_n F.1 zd_LG_noteExchange_7 rfl rfl ?_
  refine zg_getI2 F.1 (by decide) (zw_carI hi5) 10 (by decide) (st (5 + a1.toNatClampNeg) 10) rfl rfl zwf_LG_203 zd_LG_noteExchange_8 ?_
  refine zg_if_eq F.1 24 zd_LG_noteExchange_11 rfl (fun hc => ?_) (fun hc => ?_)
  · rw [if_pos hc] at h
    exact zl_LG_noteExchange_24 F a1 (5 + a1.toNatClampNeg) st (zw_carI hi5) h
  · rw [if_neg hc] at h
    refine zg_aload_n F.1 zd_LG_noteExchange_14 rfl rfl ?_
    refine zg_aload_n F.1 zd_LG_noteExchange_15 rfl rfl ?_
    refine zg_getI2 F.1 (by decide) (zw_carI hi5) 10 (by decide) (st (5 + a1.toNatClampNeg) 10) rfl rfl zwf_LG_203 zd_LG_noteExchange_16 ?_
    refine zg_iconst F.1 3 3 (by decide) zd_LG_noteExchange_19 ?_
    refine zg_iload_n F.1 zd_LG_noteExchange_20 rfl rfl ?_
    obtain ⟨t21, hc21, h⟩ := Option.bind_eq_some_iff.mp h
    refine zg_callV F (As := [.int (st (5 + a1.toNatClampNeg) 10), .int 3, .int a1]) (rest := []) (zk_LG_noteAll F.1.2.2 N (st (5 + a1.toNatClampNeg) 10) 3 a1 st hc21) rfl rfl zcal_LG_noteAll zml_LG_279 ⟨(Nat.le_of_ble_eq_true rfl), (Nat.le_of_ble_eq_true rfl)⟩ (zg_rec0 F.1 (by decide) rfl) rfl (Nat.le_of_ble_eq_true rfl) ⟨(Nat.le_of_ble_eq_true rfl), (Nat.le_of_ble_eq_true rfl)⟩ zd_LG_noteExchange_21 ?_
    exact zl_LG_noteExchange_24 F a1 (5 + a1.toNatClampNeg) t21 (zw_carI hi5) h
theorem zk_LG_noteExchange {E : zE} (hn : zw_n E 10) (N : Nat) (a1 : Int32) (st : zS)  {rst : zS} (h : zf_LG_noteExchange N a1 st = some rst) : zw_M l zy_LG_noteExchange (Cond.code zy_LG_noteExchange zo_LG_noteExchange 3 none :: zwAll) zrm_LG_noteExchange E [.ref 0, .int a1] st none rst :=
  zw_enter (by decide) rfl hn (Nat.le_of_ble_eq_true rfl) (by simp [Value.category]) 1 (fun p e s m args below meth c A F => zl_LG_noteExchange_0 F a1 st  h)
theorem zcal_LG_takeCarsFromWaiting : zw_cal zR0 zy_LG_takeCarsFromWaiting zo_LG_takeCarsFromWaiting 2 none 0 := ⟨zw_at 278 rfl rfl, zw_at 2 rfl rfl, zw_at 47 rfl rfl, zw_at 279 rfl rfl, rfl, by decide, by decide, by decide +kernel⟩
theorem zml_LG_135 : Cond.methodLink zR0 135 zy_LG_takeCarsFromWaiting ∈ zwAll := zw_at 276 rfl rfl
theorem zcal_LG_chooseForAll : zw_cal zR0 zy_LG_chooseForAll zo_LG_chooseForAll 3 none 1 := ⟨zw_at 290 rfl rfl, zw_at 5 rfl rfl, zw_at 47 rfl rfl, zw_at 291 rfl rfl, rfl, by decide, by decide, by decide +kernel⟩
theorem zml_LG_129 : Cond.methodLink zR0 129 zy_LG_chooseForAll ∈ zwAll := zw_at 288 rfl rfl
/-! LiftGroup.recall(Z)V -/
abbrev zrm_LG_recall : Room := { frames := 6, cells := 0, slots := 0, locals := 139 }
def zf_LG_recall_39 (N : Nat)   (st : zS) : Option zS := some st
set_option maxHeartbeats 4000000 in
theorem zl_LG_recall_39 (F : zw_X p m c zo_LG_recall 2 s args zR0 E 10 A meth none) {N : Nat} {rst : zS}    (st : zS)  (h : zf_LG_recall_39 N   st = some rst) : zw_G p l e zrm_LG_recall s m args below meth c (MQ below (zw_Q E none rst A) args s 0 0 A) E A 2 0 39 [none, none] [] st := by
  unfold zf_LG_recall_39 at h
  cases h
  exact zg_vret F zd_LG_recall_39
def zf_LG_recall (N : Nat) (a1 : Int32) (st : zS) : Option zS := (if (st 1 4) = a1 then some st else (if a1 = 0 ∨ a1 = 1 then (if a1 = 0 then ((zf_LG_takeWaitingForNone N (zp st 1 4 a1)).bind fun y33 => ((zf_LG_chooseForAll N y33.1 y33.2).bind fun t36 => zf_LG_recall_39 N t36)) else ((zf_LG_takeCarsFromWaiting N (zp st 1 4 a1)).bind fun t25 => zf_LG_recall_39 N t25)) else none))
set_option maxHeartbeats 4000000 in
theorem zl_LG_recall_0 (F : zw_X p m c zo_LG_recall 2 s args zR0 E 10 A meth none) {N : Nat} {rst : zS} (a1 : Int32) (st : zS)  (h : zf_LG_recall N a1 st = some rst) : zw_G p l e zrm_LG_recall s m args below meth c (MQ below (zw_Q E none rst A) args s 0 0 A) E A 2 0 0 [some (.ref 0), some (.int a1)] [] st := by
  unfold zf_LG_recall at h
  refine zg_aload_n F.1 zd_LG_recall_0 rfl rfl ?_
  refine zg_getR0 F.1 (by decide) rfl 0 (by decide) 1 rfl zwf_LG_10 zd_LG_recall_1 ?_
  refine zg_getI1 F.1 (by decide) rfl 4 (by decide) (st 1 4) rfl rfl zwf_LG_132 zd_LG_recall_4 ?_
  refine zg_iload_n F.1 zd_LG_recall_7 rfl rfl ?_
  refine zg_icmp_ne F.1 12 zd_LG_recall_8 rfl (fun hc => ?_) (fun hc => ?_)
  · rw [if_neg hc] at h
    refine zg_aload_n F.1 zd_LG_recall_12 rfl rfl ?_
    refine zg_getR0 F.1 (by decide) rfl 0 (by decide) 1 rfl zwf_LG_10 zd_LG_recall_13 ?_
    refine zg_iload_n F.1 zd_LG_recall_16 rfl rfl ?_
    by_cases hb17 : a1 = 0 ∨ a1 = 1
    case neg => rw [if_neg hb17] at h; cases h
    rw [if_pos hb17] at h
    refine zg_putI1 F.1 (by decide) rfl 4 (by decide) (Or.inr (Or.inr rfl)) .boolean (by decide) rfl (zw_nb hb17) (zw_fb hb17) zwf_LG_132 zd_LG_recall_17 ?_
    refine zg_iload_n F.1 zd_LG_recall_20 rfl rfl ?_
    refine zg_if_eq F.1 31 zd_LG_recall_21 rfl (fun hc => ?_) (fun hc => ?_)
    · rw [if_pos hc] at h
      refine zg_aload_n F.1 zd_LG_recall_31 rfl rfl ?_
      refine zg_aload_n F.1 zd_LG_recall_32 rfl rfl ?_
      obtain ⟨y33, hc33, h⟩ := Option.bind_eq_some_iff.mp h
      refine zg_callV F (As := []) (rest := [.ref 0]) (zk_LG_takeWaitingForNone F.1.2.2 N (zp st 1 4 a1) hc33) rfl rfl zcal_LG_takeWaitingForNone zml_LG_138 ⟨(Nat.le_of_ble_eq_true rfl), (Nat.le_of_ble_eq_true rfl)⟩ (zg_rec0 F.1 (by decide) rfl) rfl (Nat.le_of_ble_eq_true rfl) ⟨(Nat.le_of_ble_eq_true rfl), (Nat.le_of_ble_eq_true rfl)⟩ zd_LG_recall_33 ?_
      obtain ⟨t36, hc36, h⟩ := Option.bind_eq_some_iff.mp h
      refine zg_callV F (As := [.int y33.1]) (rest := []) (zk_LG_chooseForAll F.1.2.2 N y33.1 y33.2 hc36) rfl rfl zcal_LG_chooseForAll zml_LG_129 ⟨(Nat.le_of_ble_eq_true rfl), (Nat.le_of_ble_eq_true rfl)⟩ (zg_rec0 F.1 (by decide) rfl) rfl (Nat.le_of_ble_eq_true rfl) ⟨(Nat.le_of_ble_eq_true rfl), (Nat.le_of_ble_eq_true rfl)⟩ zd_LG_recall_36 ?_
      exact zg_le (zw_len (zw_len zw_le0)) (zl_LG_recall_39 F t36 h)
    · rw [if_neg hc] at h
      refine zg_aload_n F.1 zd_LG_recall_24 rfl rfl ?_
      obtain ⟨t25, hc25, h⟩ := Option.bind_eq_some_iff.mp h
      refine zg_callV F (As := []) (rest := []) (zk_LG_takeCarsFromWaiting F.1.2.2 N (zp st 1 4 a1) hc25) rfl rfl zcal_LG_takeCarsFromWaiting zml_LG_135 ⟨(Nat.le_of_ble_eq_true rfl), (Nat.le_of_ble_eq_true rfl)⟩ (zg_rec0 F.1 (by decide) rfl) rfl (Nat.le_of_ble_eq_true rfl) ⟨(Nat.le_of_ble_eq_true rfl), (Nat.le_of_ble_eq_true rfl)⟩ zd_LG_recall_25 ?_
      refine zg_goto F.1 39 zd_LG_recall_28 rfl ?_
      exact zg_le (zw_len (zw_len zw_le0)) (zl_LG_recall_39 F t25 h)
  · rw [if_pos hc] at h
    cases h
    exact zg_vret F zd_LG_recall_11
theorem zk_LG_recall {E : zE} (hn : zw_n E 10) (N : Nat) (a1 : Int32) (st : zS)  {rst : zS} (h : zf_LG_recall N a1 st = some rst) : zw_M l zy_LG_recall (Cond.code zy_LG_recall zo_LG_recall 2 none :: zwAll) zrm_LG_recall E [.ref 0, .int a1] st none rst :=
  zw_enter (by decide) rfl hn (Nat.le_of_ble_eq_true rfl) (by simp [Value.category]) 0 (fun p e s m args below meth c A F => zl_LG_recall_0 F a1 st  h)
/-! LiftGroup.about(I)I -/
abbrev zrm_LG_about : Room := { frames := 0, cells := 0, slots := 0, locals := 0 }
def zf_LG_about (N : Nat) (a1 : Int32) (st : zS) : Option (Int32 × zS) := (if a1 = 0 then some ((st 0 8), st) else (if a1 = 1 then some ((st 0 6), st) else (if a1 = 2 then some ((st 35 4), st) else (if a1 = 3 then some ((st 0 9), st) else (if a1 = 4 then some ((st 0 10), st) else (if a1 = 5 then some ((st 0 11), st) else some ((-1), st)))))))
set_option maxHeartbeats 4000000 in
theorem zl_LG_about_0 (F : zw_X p m c zo_LG_about 2 s args zR0 E 10 A meth (some .int)) {N : Nat} {rv : Int32} {rst : zS} (a1 : Int32) (st : zS)  (h : zf_LG_about N a1 st = some (rv, rst)) : zw_G p l e zrm_LG_about s m args below meth c (MQ below (zw_Q E (some (.int rv)) rst A) args s 0 0 A) E A 2 0 0 [some (.ref 0), some (.int a1)] [] st := by
  unfold zf_LG_about at h
  refine zg_iload_n F.1 zd_LG_about_0 rfl rfl ?_
  by_cases hc0 : a1 = 0
  · rw [if_pos hc0] at h
    refine zg_tabIn F.1 40 zd_LG_about_1 (by rw [hc0]; decide) (by rw [hc0]; decide) (by rw [hc0]; rfl) rfl ?_
    refine zg_aload_n F.1 zd_LG_about_40 rfl rfl ?_
    refine zg_getI0 F.1 (by decide) rfl 8 (by decide) (st 0 8) rfl rfl zwf_LG_80 zd_LG_about_41 ?_
    cases h
    exact zg_iret F zd_LG_about_44
  · rw [if_neg hc0] at h
    by_cases hc1 : a1 = 1
    · rw [if_pos hc1] at h
      refine zg_tabIn F.1 45 zd_LG_about_1 (by rw [hc1]; decide) (by rw [hc1]; decide) (by rw [hc1]; rfl) rfl ?_
      refine zg_aload_n F.1 zd_LG_about_45 rfl rfl ?_
      refine zg_getI0 F.1 (by decide) rfl 6 (by decide) (st 0 6) rfl rfl zwf_LG_71 zd_LG_about_46 ?_
      cases h
      exact zg_iret F zd_LG_about_49
    · rw [if_neg hc1] at h
      by_cases hc2 : a1 = 2
      · rw [if_pos hc2] at h
        refine zg_tabIn F.1 50 zd_LG_about_1 (by rw [hc2]; decide) (by rw [hc2]; decide) (by rw [hc2]; rfl) rfl ?_
        refine zg_aload_n F.1 zd_LG_about_50 rfl rfl ?_
        refine zg_getR0 F.1 (by decide) rfl 4 (by decide) 35 rfl zwf_LG_37 zd_LG_about_51 ?_
        refine zg_getI4 F.1 (by decide) rfl 4 (by decide) (st 35 4) rfl rfl zwf_LG_235 zd_LG_about_54 ?_
        cases h
        exact zg_iret F zd_LG_about_57
      · rw [if_neg hc2] at h
        by_cases hc3 : a1 = 3
        · rw [if_pos hc3] at h
          refine zg_tabIn F.1 58 zd_LG_about_1 (by rw [hc3]; decide) (by rw [hc3]; decide) (by rw [hc3]; rfl) rfl ?_
          refine zg_aload_n F.1 zd_LG_about_58 rfl rfl ?_
          refine zg_getI0 F.1 (by decide) rfl 9 (by decide) (st 0 9) rfl rfl zwf_LG_238 zd_LG_about_59 ?_
          cases h
          exact zg_iret F zd_LG_about_62
        · rw [if_neg hc3] at h
          by_cases hc4 : a1 = 4
          · rw [if_pos hc4] at h
            refine zg_tabIn F.1 63 zd_LG_about_1 (by rw [hc4]; decide) (by rw [hc4]; decide) (by rw [hc4]; rfl) rfl ?_
            refine zg_aload_n F.1 zd_LG_about_63 rfl rfl ?_
            refine zg_getI0 F.1 (by decide) rfl 10 (by decide) (st 0 10) rfl rfl zwf_LG_241 zd_LG_about_64 ?_
            cases h
            exact zg_iret F zd_LG_about_67
          · rw [if_neg hc4] at h
            by_cases hc5 : a1 = 5
            · rw [if_pos hc5] at h
              refine zg_tabIn F.1 68 zd_LG_about_1 (by rw [hc5]; decide) (by rw [hc5]; decide) (by rw [hc5]; rfl) rfl ?_
              refine zg_aload_n F.1 zd_LG_about_68 rfl rfl ?_
              refine zg_getI0 F.1 (by decide) rfl 11 (by decide) (st 0 11) rfl rfl zwf_LG_244 zd_LG_about_69 ?_
              cases h
              exact zg_iret F zd_LG_about_72
            · rw [if_neg hc5] at h
              refine zg_tabOut F.1 73 zd_LG_about_1 (zw_sw0_5 hc0 hc1 hc2 hc3 hc4 hc5) rfl ?_
              refine zg_iconst F.1 (-1) (-1) (by decide) zd_LG_about_73 ?_
              cases h
              exact zg_iret F zd_LG_about_74
theorem zk_LG_about {E : zE} (hn : zw_n E 10) (N : Nat) (a1 : Int32) (st : zS)  {rv : Int32} {rst : zS} (h : zf_LG_about N a1 st = some (rv, rst)) : zw_M l zy_LG_about (Cond.code zy_LG_about zo_LG_about 2 (some .int) :: zwAll) zrm_LG_about E [.ref 0, .int a1] st (some (.int rv)) rst :=
  zw_enter (by decide) rfl hn (Nat.le_of_ble_eq_true rfl) (by simp [Value.category]) 0 (fun p e s m args below meth c A F => zl_LG_about_0 F a1 st  h)
end ZC5
end
