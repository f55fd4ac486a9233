abbrev zo_La_building : ByteArray := method_3_code
abbrev zy_La_building : MethodName := ⟨"LiftGroupLaw", "building", "(LLiftGroup;III)I"⟩
theorem zd_La_building_0 : decode zo_La_building 0 = .ok (.aload_n 0, 1) := by decide +kernel
theorem zd_La_building_1 : decode zo_La_building 1 = .ok (.iload_n 1, 1) := by decide +kernel
theorem zd_La_building_2 : decode zo_La_building 2 = .ok (.iload_n 2, 1) := by decide +kernel
theorem zd_La_building_3 : decode zo_La_building 3 = .ok (.iload_n 3, 1) := by decide +kernel
theorem zd_La_building_4 : decode zo_La_building 4 = .ok (.invokevirtual 7, 3) := by decide +kernel
theorem zd_La_building_7 : decode zo_La_building 7 = .ok (.goto 7, 3) := by decide +kernel
theorem zd_La_building_10 : decode zo_La_building 10 = .ok (.astore 4, 2) := by decide +kernel
theorem zd_La_building_12 : decode zo_La_building 12 = .ok (.iconst 1, 1) := by decide +kernel
theorem zd_La_building_13 : decode zo_La_building 13 = .ok (.ireturn, 1) := by decide +kernel
theorem zd_La_building_14 : decode zo_La_building 14 = .ok (.iconst 0, 1) := by decide +kernel
theorem zd_La_building_15 : decode zo_La_building 15 = .ok (.ireturn, 1) := by decide +kernel
abbrev zo_La_call : ByteArray := method_4_code
abbrev zy_La_call : MethodName := ⟨"LiftGroupLaw", "call", "(LLiftGroup;II[J)I"⟩
theorem zd_La_call_0 : decode zo_La_call 0 = .ok (.aload_n 3, 1) := by decide +kernel
theorem zd_La_call_1 : decode zo_La_call 1 = .ok (.iconst 0, 1) := by decide +kernel
theorem zd_La_call_2 : decode zo_La_call 2 = .ok (.aload_n 0, 1) := by decide +kernel
theorem zd_La_call_3 : decode zo_La_call 3 = .ok (.iload_n 1, 1) := by decide +kernel
theorem zd_La_call_4 : decode zo_La_call 4 = .ok (.iload_n 2, 1) := by decide +kernel
theorem zd_La_call_5 : decode zo_La_call 5 = .ok (.invokevirtual 15, 3) := by decide +kernel
theorem zd_La_call_8 : decode zo_La_call 8 = .ok (.i2l, 1) := by decide +kernel
theorem zd_La_call_9 : decode zo_La_call 9 = .ok (.lastore, 1) := by decide +kernel
theorem zd_La_call_10 : decode zo_La_call 10 = .ok (.goto 15, 3) := by decide +kernel
theorem zd_La_call_13 : decode zo_La_call 13 = .ok (.astore 4, 2) := by decide +kernel
theorem zd_La_call_15 : decode zo_La_call 15 = .ok (.iconst 1, 1) := by decide +kernel
theorem zd_La_call_16 : decode zo_La_call 16 = .ok (.ireturn, 1) := by decide +kernel
theorem zd_La_call_17 : decode zo_La_call 17 = .ok (.astore 4, 2) := by decide +kernel
theorem zd_La_call_19 : decode zo_La_call 19 = .ok (.iconst 2, 1) := by decide +kernel
theorem zd_La_call_20 : decode zo_La_call 20 = .ok (.ireturn, 1) := by decide +kernel
theorem zd_La_call_21 : decode zo_La_call 21 = .ok (.astore 4, 2) := by decide +kernel
theorem zd_La_call_23 : decode zo_La_call 23 = .ok (.iconst 3, 1) := by decide +kernel
theorem zd_La_call_24 : decode zo_La_call 24 = .ok (.ireturn, 1) := by decide +kernel
theorem zd_La_call_25 : decode zo_La_call 25 = .ok (.iconst 0, 1) := by decide +kernel
theorem zd_La_call_26 : decode zo_La_call 26 = .ok (.ireturn, 1) := by decide +kernel
abbrev zo_La_step : ByteArray := method_5_code
abbrev zy_La_step : MethodName := ⟨"LiftGroupLaw", "step", "(LLiftGroup;I)I"⟩
theorem zd_La_step_0 : decode zo_La_step 0 = .ok (.aload_n 0, 1) := by decide +kernel
theorem zd_La_step_1 : decode zo_La_step 1 = .ok (.iload_n 1, 1) := by decide +kernel
theorem zd_La_step_2 : decode zo_La_step 2 = .ok (.invokevirtual 23, 3) := by decide +kernel
theorem zd_La_step_5 : decode zo_La_step 5 = .ok (.goto 6, 3) := by decide +kernel
theorem zd_La_step_8 : decode zo_La_step 8 = .ok (.astore_n 2, 1) := by decide +kernel
theorem zd_La_step_9 : decode zo_La_step 9 = .ok (.iconst 1, 1) := by decide +kernel
theorem zd_La_step_10 : decode zo_La_step 10 = .ok (.ireturn, 1) := by decide +kernel
theorem zd_La_step_11 : decode zo_La_step 11 = .ok (.iconst 0, 1) := by decide +kernel
theorem zd_La_step_12 : decode zo_La_step 12 = .ok (.ireturn, 1) := by decide +kernel
abbrev zo_La_curtain : ByteArray := method_6_code
abbrev zy_La_curtain : MethodName := ⟨"LiftGroupLaw", "curtain", "(LLiftGroup;IZ)I"⟩
theorem zd_La_curtain_0 : decode zo_La_curtain 0 = .ok (.aload_n 0, 1) := by decide +kernel
theorem zd_La_curtain_1 : decode zo_La_curtain 1 = .ok (.iload_n 1, 1) := by decide +kernel
theorem zd_La_curtain_2 : decode zo_La_curtain 2 = .ok (.iload_n 2, 1) := by decide +kernel
theorem zd_La_curtain_3 : decode zo_La_curtain 3 = .ok (.invokevirtual 27, 3) := by decide +kernel
theorem zd_La_curtain_6 : decode zo_La_curtain 6 = .ok (.goto 6, 3) := by decide +kernel
theorem zd_La_curtain_9 : decode zo_La_curtain 9 = .ok (.astore_n 3, 1) := by decide +kernel
theorem zd_La_curtain_10 : decode zo_La_curtain 10 = .ok (.iconst 1, 1) := by decide +kernel
theorem zd_La_curtain_11 : decode zo_La_curtain 11 = .ok (.ireturn, 1) := by decide +kernel
theorem zd_La_curtain_12 : decode zo_La_curtain 12 = .ok (.iconst 0, 1) := by decide +kernel
theorem zd_La_curtain_13 : decode zo_La_curtain 13 = .ok (.ireturn, 1) := by decide +kernel
abbrev zo_La_lock : ByteArray := method_7_code
abbrev zy_La_lock : MethodName := ⟨"LiftGroupLaw", "lock", "(LLiftGroup;IZ)I"⟩
theorem zd_La_lock_0 : decode zo_La_lock 0 = .ok (.aload_n 0, 1) := by decide +kernel
theorem zd_La_lock_1 : decode zo_La_lock 1 = .ok (.iload_n 1, 1) := by decide +kernel
theorem zd_La_lock_2 : decode zo_La_lock 2 = .ok (.iload_n 2, 1) := by decide +kernel
theorem zd_La_lock_3 : decode zo_La_lock 3 = .ok (.invokevirtual 33, 3) := by decide +kernel
theorem zd_La_lock_6 : decode zo_La_lock 6 = .ok (.goto 6, 3) := by decide +kernel
theorem zd_La_lock_9 : decode zo_La_lock 9 = .ok (.astore_n 3, 1) := by decide +kernel
theorem zd_La_lock_10 : decode zo_La_lock 10 = .ok (.iconst 1, 1) := by decide +kernel
theorem zd_La_lock_11 : decode zo_La_lock 11 = .ok (.ireturn, 1) := by decide +kernel
theorem zd_La_lock_12 : decode zo_La_lock 12 = .ok (.iconst 0, 1) := by decide +kernel
theorem zd_La_lock_13 : decode zo_La_lock 13 = .ok (.ireturn, 1) := by decide +kernel
abbrev zo_La_fail : ByteArray := method_8_code
abbrev zy_La_fail : MethodName := ⟨"LiftGroupLaw", "fail", "(LLiftGroup;IZ)I"⟩
theorem zd_La_fail_0 : decode zo_La_fail 0 = .ok (.aload_n 0, 1) := by decide +kernel
theorem zd_La_fail_1 : decode zo_La_fail 1 = .ok (.iload_n 1, 1) := by decide +kernel
theorem zd_La_fail_2 : decode zo_La_fail 2 = .ok (.iload_n 2, 1) := by decide +kernel
theorem zd_La_fail_3 : decode zo_La_fail 3 = .ok (.invokevirtual 36, 3) := by decide +kernel
theorem zd_La_fail_6 : decode zo_La_fail 6 = .ok (.goto 6, 3) := by decide +kernel
theorem zd_La_fail_9 : decode zo_La_fail 9 = .ok (.astore_n 3, 1) := by decide +kernel
theorem zd_La_fail_10 : decode zo_La_fail 10 = .ok (.iconst 1, 1) := by decide +kernel
theorem zd_La_fail_11 : decode zo_La_fail 11 = .ok (.ireturn, 1) := by decide +kernel
theorem zd_La_fail_12 : decode zo_La_fail 12 = .ok (.iconst 0, 1) := by decide +kernel
theorem zd_La_fail_13 : decode zo_La_fail 13 = .ok (.ireturn, 1) := by decide +kernel
abbrev zo_La_car : ByteArray := method_9_code
abbrev zy_La_car : MethodName := ⟨"LiftGroupLaw", "car", "(LLiftGroup;II[J)I"⟩
theorem zd_La_car_0 : decode zo_La_car 0 = .ok (.aload_n 3, 1) := by decide +kernel
theorem zd_La_car_1 : decode zo_La_car 1 = .ok (.iconst 0, 1) := by decide +kernel
theorem zd_La_car_2 : decode zo_La_car 2 = .ok (.aload_n 0, 1) := by decide +kernel
theorem zd_La_car_3 : decode zo_La_car 3 = .ok (.iload_n 1, 1) := by decide +kernel
theorem zd_La_car_4 : decode zo_La_car 4 = .ok (.iload_n 2, 1) := by decide +kernel
theorem zd_La_car_5 : decode zo_La_car 5 = .ok (.invokevirtual 39, 3) := by decide +kernel
theorem zd_La_car_8 : decode zo_La_car 8 = .ok (.i2l, 1) := by decide +kernel
theorem zd_La_car_9 : decode zo_La_car 9 = .ok (.lastore, 1) := by decide +kernel
theorem zd_La_car_10 : decode zo_La_car 10 = .ok (.goto 11, 3) := by decide +kernel
theorem zd_La_car_13 : decode zo_La_car 13 = .ok (.astore 4, 2) := by decide +kernel
theorem zd_La_car_15 : decode zo_La_car 15 = .ok (.iconst 1, 1) := by decide +kernel
theorem zd_La_car_16 : decode zo_La_car 16 = .ok (.ireturn, 1) := by decide +kernel
theorem zd_La_car_17 : decode zo_La_car 17 = .ok (.astore 4, 2) := by decide +kernel
theorem zd_La_car_19 : decode zo_La_car 19 = .ok (.iconst 2, 1) := by decide +kernel
theorem zd_La_car_20 : decode zo_La_car 20 = .ok (.ireturn, 1) := by decide +kernel
theorem zd_La_car_21 : decode zo_La_car 21 = .ok (.iconst 0, 1) := by decide +kernel
theorem zd_La_car_22 : decode zo_La_car 22 = .ok (.ireturn, 1) := by decide +kernel
abbrev zo_La_stop : ByteArray := method_10_code
abbrev zy_La_stop : MethodName := ⟨"LiftGroupLaw", "stop", "(LLiftGroup;II[J)I"⟩
theorem zd_La_stop_0 : decode zo_La_stop 0 = .ok (.aload_n 3, 1) := by decide +kernel
theorem zd_La_stop_1 : decode zo_La_stop 1 = .ok (.iconst 0, 1) := by decide +kernel
theorem zd_La_stop_2 : decode zo_La_stop 2 = .ok (.aload_n 0, 1) := by decide +kernel
theorem zd_La_stop_3 : decode zo_La_stop 3 = .ok (.iload_n 1, 1) := by decide +kernel
theorem zd_La_stop_4 : decode zo_La_stop 4 = .ok (.iload_n 2, 1) := by decide +kernel
theorem zd_La_stop_5 : decode zo_La_stop 5 = .ok (.invokevirtual 42, 3) := by decide +kernel
theorem zd_La_stop_8 : decode zo_La_stop 8 = .ok (.ifCond .eq 7, 3) := by decide +kernel
theorem zd_La_stop_11 : decode zo_La_stop 11 = .ok (.lconst 1, 1) := by decide +kernel
theorem zd_La_stop_12 : decode zo_La_stop 12 = .ok (.goto 4, 3) := by decide +kernel
theorem zd_La_stop_15 : decode zo_La_stop 15 = .ok (.lconst 0, 1) := by decide +kernel
theorem zd_La_stop_16 : decode zo_La_stop 16 = .ok (.lastore, 1) := by decide +kernel
theorem zd_La_stop_17 : decode zo_La_stop 17 = .ok (.goto 11, 3) := by decide +kernel
theorem zd_La_stop_20 : decode zo_La_stop 20 = .ok (.astore 4, 2) := by decide +kernel
theorem zd_La_stop_22 : decode zo_La_stop 22 = .ok (.iconst 1, 1) := by decide +kernel
theorem zd_La_stop_23 : decode zo_La_stop 23 = .ok (.ireturn, 1) := by decide +kernel
theorem zd_La_stop_24 : decode zo_La_stop 24 = .ok (.astore 4, 2) := by decide +kernel
theorem zd_La_stop_26 : decode zo_La_stop 26 = .ok (.iconst 2, 1) := by decide +kernel
theorem zd_La_stop_27 : decode zo_La_stop 27 = .ok (.ireturn, 1) := by decide +kernel
theorem zd_La_stop_28 : decode zo_La_stop 28 = .ok (.iconst 0, 1) := by decide +kernel
theorem zd_La_stop_29 : decode zo_La_stop 29 = .ok (.ireturn, 1) := by decide +kernel
abbrev zo_La_worst : ByteArray := method_11_code
abbrev zy_La_worst : MethodName := ⟨"LiftGroupLaw", "worst", "(LLiftGroup;I[J)I"⟩
theorem zd_La_worst_0 : decode zo_La_worst 0 = .ok (.aload_n 2, 1) := by decide +kernel
theorem zd_La_worst_1 : decode zo_La_worst 1 = .ok (.iconst 0, 1) := by decide +kernel
theorem zd_La_worst_2 : decode zo_La_worst 2 = .ok (.aload_n 0, 1) := by decide +kernel
theorem zd_La_worst_3 : decode zo_La_worst 3 = .ok (.iload_n 1, 1) := by decide +kernel
theorem zd_La_worst_4 : decode zo_La_worst 4 = .ok (.invokevirtual 46, 3) := by decide +kernel
theorem zd_La_worst_7 : decode zo_La_worst 7 = .ok (.i2l, 1) := by decide +kernel
theorem zd_La_worst_8 : decode zo_La_worst 8 = .ok (.lastore, 1) := by decide +kernel
theorem zd_La_worst_9 : decode zo_La_worst 9 = .ok (.goto 6, 3) := by decide +kernel
theorem zd_La_worst_12 : decode zo_La_worst 12 = .ok (.astore_n 3, 1) := by decide +kernel
theorem zd_La_worst_13 : decode zo_La_worst 13 = .ok (.iconst 1, 1) := by decide +kernel
theorem zd_La_worst_14 : decode zo_La_worst 14 = .ok (.ireturn, 1) := by decide +kernel
theorem zd_La_worst_15 : decode zo_La_worst 15 = .ok (.iconst 0, 1) := by decide +kernel
theorem zd_La_worst_16 : decode zo_La_worst 16 = .ok (.ireturn, 1) := by decide +kernel
abbrev zo_La_rider : ByteArray := method_12_code
abbrev zy_La_rider : MethodName := ⟨"LiftGroupLaw", "rider", "(LLiftGroup;II[J)I"⟩
theorem zd_La_rider_0 : decode zo_La_rider 0 = .ok (.aload_n 3, 1) := by decide +kernel
theorem zd_La_rider_1 : decode zo_La_rider 1 = .ok (.iconst 0, 1) := by decide +kernel
theorem zd_La_rider_2 : decode zo_La_rider 2 = .ok (.aload_n 0, 1) := by decide +kernel
theorem zd_La_rider_3 : decode zo_La_rider 3 = .ok (.iload_n 1, 1) := by decide +kernel
theorem zd_La_rider_4 : decode zo_La_rider 4 = .ok (.iload_n 2, 1) := by decide +kernel
theorem zd_La_rider_5 : decode zo_La_rider 5 = .ok (.invokevirtual 50, 3) := by decide +kernel
theorem zd_La_rider_8 : decode zo_La_rider 8 = .ok (.i2l, 1) := by decide +kernel
theorem zd_La_rider_9 : decode zo_La_rider 9 = .ok (.lastore, 1) := by decide +kernel
theorem zd_La_rider_10 : decode zo_La_rider 10 = .ok (.goto 11, 3) := by decide +kernel
theorem zd_La_rider_13 : decode zo_La_rider 13 = .ok (.astore 4, 2) := by decide +kernel
theorem zd_La_rider_15 : decode zo_La_rider 15 = .ok (.iconst 1, 1) := by decide +kernel
theorem zd_La_rider_16 : decode zo_La_rider 16 = .ok (.ireturn, 1) := by decide +kernel
theorem zd_La_rider_17 : decode zo_La_rider 17 = .ok (.astore 4, 2) := by decide +kernel
theorem zd_La_rider_19 : decode zo_La_rider 19 = .ok (.iconst 2, 1) := by decide +kernel
theorem zd_La_rider_20 : decode zo_La_rider 20 = .ok (.ireturn, 1) := by decide +kernel
theorem zd_La_rider_21 : decode zo_La_rider 21 = .ok (.iconst 0, 1) := by decide +kernel
theorem zd_La_rider_22 : decode zo_La_rider 22 = .ok (.ireturn, 1) := by decide +kernel
abbrev zo_La_promise : ByteArray := method_13_code
abbrev zy_La_promise : MethodName := ⟨"LiftGroupLaw", "promise", "(LLiftGroup;I[J)I"⟩
theorem zd_La_promise_0 : decode zo_La_promise 0 = .ok (.aload_n 2, 1) := by decide +kernel
theorem zd_La_promise_1 : decode zo_La_promise 1 = .ok (.iconst 0, 1) := by decide +kernel
theorem zd_La_promise_2 : decode zo_La_promise 2 = .ok (.aload_n 0, 1) := by decide +kernel
theorem zd_La_promise_3 : decode zo_La_promise 3 = .ok (.iload_n 1, 1) := by decide +kernel
theorem zd_La_promise_4 : decode zo_La_promise 4 = .ok (.invokevirtual 53, 3) := by decide +kernel
theorem zd_La_promise_7 : decode zo_La_promise 7 = .ok (.i2l, 1) := by decide +kernel
theorem zd_La_promise_8 : decode zo_La_promise 8 = .ok (.lastore, 1) := by decide +kernel
theorem zd_La_promise_9 : decode zo_La_promise 9 = .ok (.goto 6, 3) := by decide +kernel
theorem zd_La_promise_12 : decode zo_La_promise 12 = .ok (.astore_n 3, 1) := by decide +kernel
theorem zd_La_promise_13 : decode zo_La_promise 13 = .ok (.iconst 1, 1) := by decide +kernel
theorem zd_La_promise_14 : decode zo_La_promise 14 = .ok (.ireturn, 1) := by decide +kernel
theorem zd_La_promise_15 : decode zo_La_promise 15 = .ok (.iconst 0, 1) := by decide +kernel
theorem zd_La_promise_16 : decode zo_La_promise 16 = .ok (.ireturn, 1) := by decide +kernel
abbrev zo_La_event : ByteArray := method_14_code
abbrev zy_La_event : MethodName := ⟨"LiftGroupLaw", "event", "(LLiftGroup;II[J)I"⟩
theorem zd_La_event_0 : decode zo_La_event 0 = .ok (.aload_n 3, 1) := by decide +kernel
theorem zd_La_event_1 : decode zo_La_event 1 = .ok (.iconst 0, 1) := by decide +kernel
theorem zd_La_event_2 : decode zo_La_event 2 = .ok (.aload_n 0, 1) := by decide +kernel
theorem zd_La_event_3 : decode zo_La_event 3 = .ok (.iload_n 1, 1) := by decide +kernel
theorem zd_La_event_4 : decode zo_La_event 4 = .ok (.iload_n 2, 1) := by decide +kernel
theorem zd_La_event_5 : decode zo_La_event 5 = .ok (.invokevirtual 56, 3) := by decide +kernel
theorem zd_La_event_8 : decode zo_La_event 8 = .ok (.i2l, 1) := by decide +kernel
theorem zd_La_event_9 : decode zo_La_event 9 = .ok (.lastore, 1) := by decide +kernel
theorem zd_La_event_10 : decode zo_La_event 10 = .ok (.goto 11, 3) := by decide +kernel
theorem zd_La_event_13 : decode zo_La_event 13 = .ok (.astore 4, 2) := by decide +kernel
theorem zd_La_event_15 : decode zo_La_event 15 = .ok (.iconst 1, 1) := by decide +kernel
theorem zd_La_event_16 : decode zo_La_event 16 = .ok (.ireturn, 1) := by decide +kernel
theorem zd_La_event_17 : decode zo_La_event 17 = .ok (.astore 4, 2) := by decide +kernel
theorem zd_La_event_19 : decode zo_La_event 19 = .ok (.iconst 2, 1) := by decide +kernel
theorem zd_La_event_20 : decode zo_La_event 20 = .ok (.ireturn, 1) := by decide +kernel
theorem zd_La_event_21 : decode zo_La_event 21 = .ok (.iconst 0, 1) := by decide +kernel
theorem zd_La_event_22 : decode zo_La_event 22 = .ok (.ireturn, 1) := by decide +kernel
section ZC12
variable {p : Program} {l : Launch} {e : Env} {s : State} {m : MethodId} {args : Array Value} {below : List Frame} {meth : Method} {c : Code} {E : zE} {A : Nat → Prop}
set_option maxRecDepth 100000 in
theorem zhl_13 : Cond.classLink "LiftGroupLaw" 13 (zx_n 1) ∈ zwAll := zw_at 369 rfl rfl
set_option maxRecDepth 100000 in
theorem zcal_LG_building : zw_cal zR0 zy_LG_building zo_LG_building 4 none 3 := ⟨zw_at 371 rfl rfl, zw_at 372 rfl rfl, zw_at 47 rfl rfl, zw_at 373 rfl rfl, rfl, by decide, by decide, by decide +kernel⟩
set_option maxRecDepth 100000 in
theorem zml_La_7 : Cond.methodLink "LiftGroupLaw" 7 zy_LG_building ∈ zwAll := zw_at 370 rfl rfl
abbrev zrm_La_building : Room := { frames := 7, cells := 1, slots := 6, locals := 113 }
def zf_La_building (N : Nat) (a1 : Int32) (a2 : Int32) (a3 : Int32) (st : zS) : Option (Int32 × zS) := ((zf_LG_building N a1 a2 a3 st).bind fun y4 => (if y4.1 = 0 then some (0, y4.2) else (if y4.1 = 1 then some (1, y4.2) else none)))
set_option maxHeartbeats 4000000 in
theorem zl_La_building_0 (F : zw_X p m c zo_La_building 5 s args "LiftGroupLaw" E 20 A meth (some .int)) (Y : zh_X zx_ss l s A c [(0, 7, 10, 13)]) {N : Nat} {rv : Int32} {rst : zS} (a1 : Int32) (a2 : Int32) (a3 : Int32) (st : zS)  (h : zf_La_building N a1 a2 a3 st = some (rv, rst)) : zw_G p l e zrm_La_building s m args below meth c (MQ below (zw_Q E (some (.int rv)) rst A) args s 1 6 A) E A 5 0 0 [some (.ref 0), some (.int a1), some (.int a2), some (.int a3), none] [] st := by
  unfold zf_La_building at h
  refine zg_aload_n F.1 zd_La_building_0 rfl rfl ?_
  refine zg_iload_n F.1 zd_La_building_1 rfl rfl ?_
  refine zg_iload_n F.1 zd_La_building_2 rfl rfl ?_
  refine zg_iload_n F.1 zd_La_building_3 rfl rfl ?_
  obtain ⟨y4, hc4, h⟩ := Option.bind_eq_some_iff.mp h
  by_cases hz4 : y4.1 = 0
  case neg =>
    rw [if_neg hz4] at h
    by_cases hx0 : y4.1 = 1
    · rw [if_pos hx0] at h
      refine zh_catch F Y (As := [.int a1, .int a2, .int a3]) (rest := []) (zx_LG_building Y.1 (zw_nle (by decide) F.1.2.2) N a1 a2 a3 st (xx := 1) (by decide) (hc4.trans (congrArg some (zw_yw hx0)))) rfl rfl zcal_LG_building zml_La_7 ⟨(Nat.le_of_ble_eq_true rfl), (Nat.le_of_ble_eq_true rfl)⟩ (zg_rec0 F.1 (by decide) rfl) rfl (Nat.le_of_ble_eq_true rfl) ⟨(Nat.le_of_ble_eq_true rfl), (Nat.le_of_ble_eq_true rfl)⟩ zd_La_building_4 (hpc := 10) ⟨rfl, by decide, 1, F.1.1.2.2.2.2 _ zhl_13, Or.inl ⟨rfl, rfl, zh_cast Y.2.1 1 (by simp [zx_tab])⟩⟩ zd_La_building_10 (by decide) (by intro v hv; cases hv) ?_
      refine zg_iconst F.1 1 1 (by decide) zd_La_building_12 ?_
      cases h
      exact zh_iret F zd_La_building_13
    · rw [if_neg hx0] at h
      cases h
  rw [if_pos hz4] at h
  refine zg_callV F (As := [.int a1, .int a2, .int a3]) (rest := []) (zk_LG_building (zw_nle (by decide) F.1.2.2) N a1 a2 a3 st (hc4.trans (congrArg some (zw_yv hz4)))) rfl rfl zcal_LG_building zml_La_7 ⟨(Nat.le_of_ble_eq_true rfl), (Nat.le_of_ble_eq_true rfl)⟩ (zg_rec0 F.1 (by decide) rfl) rfl (Nat.le_of_ble_eq_true rfl) ⟨(Nat.le_of_ble_eq_true rfl), (Nat.le_of_ble_eq_true rfl)⟩ zd_La_building_4 ?_
  refine zg_goto F.1 14 zd_La_building_7 rfl ?_
  refine zg_iconst F.1 0 0 (by decide) zd_La_building_14 ?_
  cases h
  refine zg_wide (k' := 1) (by decide) ?_
  exact zh_iret F zd_La_building_15
theorem zh_La_building {E : zE} (hst : l.stackTraces = false) (hn : zw_n E 20) (N : Nat) (a1 : Int32) (a2 : Int32) (a3 : Int32) (st : zS)  {rv : Int32} {rst : zS} (h : zf_La_building N a1 a2 a3 st = some (rv, rst)) : zh_M zx_ss l zy_La_building (Cond.codeWith zy_La_building zo_La_building 5 (some .int) [(0, 7, 10, 13)] :: zwAll) zrm_La_building E [.ref 0, .int a1, .int a2, .int a3] st (some (.int rv)) rst :=
  zh_enter hst (by decide) rfl hn (Nat.le_of_ble_eq_true rfl) (by simp [Value.category]) 1 (fun p e s m args below meth c A F Y => zl_La_building_0 F Y a1 a2 a3 st  h)
set_option maxRecDepth 100000 in
theorem zhl_19 : Cond.classLink "LiftGroupLaw" 19 (zx_n 2) ∈ zwAll := zw_at 449 rfl rfl
set_option maxRecDepth 100000 in
theorem zhl_21 : Cond.classLink "LiftGroupLaw" 21 (zx_n 3) ∈ zwAll := zw_at 450 rfl rfl
set_option maxRecDepth 100000 in
theorem zcal_LG_call : zw_cal zR0 zy_LG_call zo_LG_call 4 (some .int) 2 := ⟨zw_at 452 rfl rfl, zw_at 453 rfl rfl, zw_at 47 rfl rfl, zw_at 454 rfl rfl, rfl, by decide, by decide, by decide +kernel⟩
set_option maxRecDepth 100000 in
theorem zml_La_15 : Cond.methodLink "LiftGroupLaw" 15 zy_LG_call ∈ zwAll := zw_at 451 rfl rfl
abbrev zrm_La_call : Room := { frames := 7, cells := 1, slots := 6, locals := 140 }
def zf_La_call (N : Nat) (a1 : Int32) (a2 : Int32) (st : zS) : Option (Int32 × zS) := ((zf_LG_call N a1 a2 st).bind fun y5 => (if y5.1 = 0 then some (0, (zp y5.2.2 56 0 y5.2.1)) else (if y5.1 = 1 then some (1, y5.2.2) else (if y5.1 = 2 then some (2, y5.2.2) else (if y5.1 = 3 then some (3, y5.2.2) else none)))))
set_option maxHeartbeats 4000000 in
theorem zl_La_call_0 (F : zw_X p m c zo_La_call 5 s args "LiftGroupLaw" E 20 A meth (some .int)) (Y : zh_X zx_ss l s A c [(0, 10, 13, 13), (0, 10, 17, 19), (0, 10, 21, 21)]) {N : Nat} {rv : Int32} {rst : zS} (a1 : Int32) (a2 : Int32) (st : zS)  (h : zf_La_call N a1 a2 st = some (rv, rst)) : zw_G p l e zrm_La_call s m args below meth c (MQ below (zw_Q E (some (.int rv)) rst A) args s 1 6 A) E A 5 0 0 [some (.ref 0), some (.int a1), some (.int a2), some (.ref 56), none] [] st := by
  unfold zf_La_call at h
  refine zg_aload_n F.1 zd_La_call_0 rfl rfl ?_
  refine zg_iconst F.1 0 0 (by decide) zd_La_call_1 ?_
  refine zg_aload_n F.1 zd_La_call_2 rfl rfl ?_
  refine zg_iload_n F.1 zd_La_call_3 rfl rfl ?_
  refine zg_iload_n F.1 zd_La_call_4 rfl rfl ?_
  obtain ⟨y5, hc5, h⟩ := Option.bind_eq_some_iff.mp h
  by_cases hz5 : y5.1 = 0
  case neg =>
    rw [if_neg hz5] at h
    by_cases hx0 : y5.1 = 1
    · rw [if_pos hx0] at h
      refine zh_catch F Y (As := [.int a1, .int a2]) (rest := [.int 0, .ref 56]) (zx_LG_call Y.1 (zw_nle (by decide) F.1.2.2) N a1 a2 st (xx := 1) (by decide) (hc5.trans (congrArg some (zw_yx hx0)))) rfl rfl zcal_LG_call zml_La_15 ⟨(Nat.le_of_ble_eq_true rfl), (Nat.le_of_ble_eq_true rfl)⟩ (zg_rec0 F.1 (by decide) rfl) rfl (Nat.le_of_ble_eq_true rfl) ⟨(Nat.le_of_ble_eq_true rfl), (Nat.le_of_ble_eq_true rfl)⟩ zd_La_call_5 (hpc := 13) ⟨rfl, by decide, 1, F.1.1.2.2.2.2 _ zhl_13, Or.inl ⟨rfl, rfl, zh_cast Y.2.1 1 (by simp [zx_tab])⟩⟩ zd_La_call_13 (by decide) (by intro v hv; cases hv) ?_
      refine zg_iconst F.1 1 1 (by decide) zd_La_call_15 ?_
      cases h
      exact zh_iret F zd_La_call_16
    · rw [if_neg hx0] at h
      by_cases hx1 : y5.1 = 2
      · rw [if_pos hx1] at h
        refine zh_catch F Y (As := [.int a1, .int a2]) (rest := [.int 0, .ref 56]) (zx_LG_call Y.1 (zw_nle (by decide) F.1.2.2) N a1 a2 st (xx := 2) (by decide) (hc5.trans (congrArg some (zw_yx hx1)))) rfl rfl zcal_LG_call zml_La_15 ⟨(Nat.le_of_ble_eq_true rfl), (Nat.le_of_ble_eq_true rfl)⟩ (zg_rec0 F.1 (by decide) rfl) rfl (Nat.le_of_ble_eq_true rfl) ⟨(Nat.le_of_ble_eq_true rfl), (Nat.le_of_ble_eq_true rfl)⟩ zd_La_call_5 (hpc := 17) ⟨rfl, by decide, 1, F.1.1.2.2.2.2 _ zhl_13, Or.inr ⟨Y.2.2.2.2.1.1, ⟨rfl, by decide, 2, F.1.1.2.2.2.2 _ zhl_19, Or.inl ⟨rfl, rfl, zh_cast Y.2.1 2 (by simp [zx_tab])⟩⟩⟩⟩ zd_La_call_17 (by decide) (by intro v hv; cases hv) ?_
        refine zg_iconst F.1 2 2 (by decide) zd_La_call_19 ?_
        cases h
        exact zh_iret F zd_La_call_20
      · rw [if_neg hx1] at h
        by_cases hx2 : y5.1 = 3
        · rw [if_pos hx2] at h
          refine zh_catch F Y (As := [.int a1, .int a2]) (rest := [.int 0, .ref 56]) (zx_LG_call Y.1 (zw_nle (by decide) F.1.2.2) N a1 a2 st (xx := 3) (by decide) (hc5.trans (congrArg some (zw_yx hx2)))) rfl rfl zcal_LG_call zml_La_15 ⟨(Nat.le_of_ble_eq_true rfl), (Nat.le_of_ble_eq_true rfl)⟩ (zg_rec0 F.1 (by decide) rfl) rfl (Nat.le_of_ble_eq_true rfl) ⟨(Nat.le_of_ble_eq_true rfl), (Nat.le_of_ble_eq_true rfl)⟩ zd_La_call_5 (hpc := 21) ⟨rfl, by decide, 1, F.1.1.2.2.2.2 _ zhl_13, Or.inr ⟨Y.2.2.2.2.1.2.1, ⟨rfl, by decide, 2, F.1.1.2.2.2.2 _ zhl_19, Or.inr ⟨Y.2.2.2.2.1.2.2.1, ⟨rfl, by decide, 3, F.1.1.2.2.2.2 _ zhl_21, Or.inl ⟨rfl, rfl, zh_cast Y.2.1 3 (by simp [zx_tab])⟩⟩⟩⟩⟩⟩ zd_La_call_21 (by decide) (by intro v hv; cases hv) ?_
          refine zg_iconst F.1 3 3 (by decide) zd_La_call_23 ?_
          cases h
          exact zh_iret F zd_La_call_24
        · rw [if_neg hx2] at h
          cases h
  rw [if_pos hz5] at h
  refine zg_callV F (As := [.int a1, .int a2]) (rest := [.int 0, .ref 56]) (zk_LG_call (zw_nle (by decide) F.1.2.2) N a1 a2 st (hc5.trans (congrArg some (zw_y0 hz5)))) rfl rfl zcal_LG_call zml_La_15 ⟨(Nat.le_of_ble_eq_true rfl), (Nat.le_of_ble_eq_true rfl)⟩ (zg_rec0 F.1 (by decide) rfl) rfl (Nat.le_of_ble_eq_true rfl) ⟨(Nat.le_of_ble_eq_true rfl), (Nat.le_of_ble_eq_true rfl)⟩ zd_La_call_5 ?_
  refine zg_i2l F.1 zd_La_call_8 ?_
  refine zg_last F.1 (by decide) rfl (x := y5.2.1) (by unfold vp_in; decide) (by rfl) 0 (by decide) zd_La_call_9 ?_
  refine zg_goto F.1 25 zd_La_call_10 rfl ?_
  refine zg_iconst F.1 0 0 (by decide) zd_La_call_25 ?_
  cases h
  refine zg_wide (k' := 1) (by decide) ?_
  exact zh_iret F zd_La_call_26
theorem zh_La_call {E : zE} (hst : l.stackTraces = false) (hn : zw_n E 20) (N : Nat) (a1 : Int32) (a2 : Int32) (st : zS)  {rv : Int32} {rst : zS} (h : zf_La_call N a1 a2 st = some (rv, rst)) : zh_M zx_ss l zy_La_call (Cond.codeWith zy_La_call zo_La_call 5 (some .int) [(0, 10, 13, 13), (0, 10, 17, 19), (0, 10, 21, 21)] :: zwAll) zrm_La_call E [.ref 0, .int a1, .int a2, .ref 56] st (some (.int rv)) rst :=
  zh_enter hst (by decide) rfl hn (Nat.le_of_ble_eq_true rfl) (by simp [Value.category]) 1 (fun p e s m args below meth c A F Y => zl_La_call_0 F Y a1 a2 st  h)
set_option maxRecDepth 100000 in
theorem zcal_LG_step : zw_cal zR0 zy_LG_step zo_LG_step 4 none 1 := ⟨zw_at 508 rfl rfl, zw_at 509 rfl rfl, zw_at 47 rfl rfl, zw_at 510 rfl rfl, rfl, by decide, by decide, by decide +kernel⟩
set_option maxRecDepth 100000 in
theorem zml_La_23 : Cond.methodLink "LiftGroupLaw" 23 zy_LG_step ∈ zwAll := zw_at 507 rfl rfl
abbrev zrm_La_step : Room := { frames := 7, cells := 1, slots := 6, locals := 113 }
def zf_La_step (N : Nat) (a1 : Int32) (st : zS) : Option (Int32 × zS) := ((zf_LG_step N a1 st).bind fun y2 => (if y2.1 = 0 then some (0, y2.2) else (if y2.1 = 1 then some (1, y2.2) else none)))
set_option maxHeartbeats 4000000 in
theorem zl_La_step_0 (F : zw_X p m c zo_La_step 3 s args "LiftGroupLaw" E 20 A meth (some .int)) (Y : zh_X zx_ss l s A c [(0, 5, 8, 13)]) {N : Nat} {rv : Int32} {rst : zS} (a1 : Int32) (st : zS)  (h : zf_La_step N a1 st = some (rv, rst)) : zw_G p l e zrm_La_step s m args below meth c (MQ below (zw_Q E (some (.int rv)) rst A) args s 1 6 A) E A 3 0 0 [some (.ref 0), some (.int a1), none] [] st := by
  unfold zf_La_step at h
  refine zg_aload_n F.1 zd_La_step_0 rfl rfl ?_
  refine zg_iload_n F.1 zd_La_step_1 rfl rfl ?_
  obtain ⟨y2, hc2, h⟩ := Option.bind_eq_some_iff.mp h
  by_cases hz2 : y2.1 = 0
  case neg =>
    rw [if_neg hz2] at h
    by_cases hx0 : y2.1 = 1
    · rw [if_pos hx0] at h
      refine zh_catchN F Y (As := [.int a1]) (rest := []) (zx_LG_step Y.1 (zw_nle (by decide) F.1.2.2) N a1 st (xx := 1) (by decide) (hc2.trans (congrArg some (zw_yw hx0)))) rfl rfl zcal_LG_step zml_La_23 ⟨(Nat.le_of_ble_eq_true rfl), (Nat.le_of_ble_eq_true rfl)⟩ (zg_rec0 F.1 (by decide) rfl) rfl (Nat.le_of_ble_eq_true rfl) ⟨(Nat.le_of_ble_eq_true rfl), (Nat.le_of_ble_eq_true rfl)⟩ zd_La_step_2 (hpc := 8) ⟨rfl, by decide, 1, F.1.1.2.2.2.2 _ zhl_13, Or.inl ⟨rfl, rfl, zh_cast Y.2.1 1 (by simp [zx_tab])⟩⟩ zd_La_step_8 rfl (by decide) (by intro v hv; cases hv) ?_
      refine zg_iconst F.1 1 1 (by decide) zd_La_step_9 ?_
      cases h
      exact zh_iret F zd_La_step_10
    · rw [if_neg hx0] at h
      cases h
  rw [if_pos hz2] at h
  refine zg_callV F (As := [.int a1]) (rest := []) (zk_LG_step (zw_nle (by decide) F.1.2.2) N a1 st (hc2.trans (congrArg some (zw_yv hz2)))) rfl rfl zcal_LG_step zml_La_23 ⟨(Nat.le_of_ble_eq_true rfl), (Nat.le_of_ble_eq_true rfl)⟩ (zg_rec0 F.1 (by decide) rfl) rfl (Nat.le_of_ble_eq_true rfl) ⟨(Nat.le_of_ble_eq_true rfl), (Nat.le_of_ble_eq_true rfl)⟩ zd_La_step_2 ?_
  refine zg_goto F.1 11 zd_La_step_5 rfl ?_
  refine zg_iconst F.1 0 0 (by decide) zd_La_step_11 ?_
  cases h
  refine zg_wide (k' := 1) (by decide) ?_
  exact zh_iret F zd_La_step_12
theorem zh_La_step {E : zE} (hst : l.stackTraces = false) (hn : zw_n E 20) (N : Nat) (a1 : Int32) (st : zS)  {rv : Int32} {rst : zS} (h : zf_La_step N a1 st = some (rv, rst)) : zh_M zx_ss l zy_La_step (Cond.codeWith zy_La_step zo_La_step 3 (some .int) [(0, 5, 8, 13)] :: zwAll) zrm_La_step E [.ref 0, .int a1] st (some (.int rv)) rst :=
  zh_enter hst (by decide) rfl hn (Nat.le_of_ble_eq_true rfl) (by simp [Value.category]) 1 (fun p e s m args below meth c A F Y => zl_La_step_0 F Y a1 st  h)
set_option maxRecDepth 100000 in
theorem zhl_31 : Cond.classLink "LiftGroupLaw" 31 (zx_n 4) ∈ zwAll := zw_at 530 rfl rfl
set_option maxRecDepth 100000 in
theorem zcal_LG_curtain : zw_cal zR0 zy_LG_curtain zo_LG_curtain 3 none 2 := ⟨zw_at 532 rfl rfl, zw_at 533 rfl rfl, zw_at 47 rfl rfl, zw_at 534 rfl rfl, rfl, by decide, by decide, by decide +kernel⟩
set_option maxRecDepth 100000 in
theorem zml_La_27 : Cond.methodLink "LiftGroupLaw" 27 zy_LG_curtain ∈ zwAll := zw_at 531 rfl rfl
abbrev zrm_La_curtain : Room := { frames := 8, cells := 1, slots := 6, locals := 133 }
def zf_La_curtain (N : Nat) (a1 : Int32) (a2 : Int32) (st : zS) : Option (Int32 × zS) := ((zf_LG_curtain N a1 a2 st).bind fun y3 => (if y3.1 = 0 then some (0, y3.2) else (if y3.1 = 4 then some (1, y3.2) else none)))
set_option maxHeartbeats 4000000 in
theorem zl_La_curtain_0 (F : zw_X p m c zo_La_curtain 4 s args "LiftGroupLaw" E 20 A meth (some .int)) (Y : zh_X zx_ss l s A c [(0, 6, 9, 31)]) {N : Nat} {rv : Int32} {rst : zS} (a1 : Int32) (a2 : Int32) (st : zS)  (h : zf_La_curtain N a1 a2 st = some (rv, rst)) : zw_G p l e zrm_La_curtain s m args below meth c (MQ below (zw_Q E (some (.int rv)) rst A) args s 1 6 A) E A 4 0 0 [some (.ref 0), some (.int a1), some (.int a2), none] [] st := by
  unfold zf_La_curtain at h
  refine zg_aload_n F.1 zd_La_curtain_0 rfl rfl ?_
  refine zg_iload_n F.1 zd_La_curtain_1 rfl rfl ?_
  refine zg_iload_n F.1 zd_La_curtain_2 rfl rfl ?_
  obtain ⟨y3, hc3, h⟩ := Option.bind_eq_some_iff.mp h
  by_cases hz3 : y3.1 = 0
  case neg =>
    rw [if_neg hz3] at h
    by_cases hx0 : y3.1 = 4
    · rw [if_pos hx0] at h
      refine zh_catchN F Y (As := [.int a1, .int a2]) (rest := []) (zx_LG_curtain Y.1 (zw_nle (by decide) F.1.2.2) N a1 a2 st (xx := 4) (by decide) (hc3.trans (congrArg some (zw_yw hx0)))) rfl rfl zcal_LG_curtain zml_La_27 ⟨(Nat.le_of_ble_eq_true rfl), (Nat.le_of_ble_eq_true rfl)⟩ (zg_rec0 F.1 (by decide) rfl) rfl (Nat.le_of_ble_eq_true rfl) ⟨(Nat.le_of_ble_eq_true rfl), (Nat.le_of_ble_eq_true rfl)⟩ zd_La_curtain_3 (hpc := 9) ⟨rfl, by decide, 4, F.1.1.2.2.2.2 _ zhl_31, Or.inl ⟨rfl, rfl, zh_cast Y.2.1 4 (by simp [zx_tab])⟩⟩ zd_La_curtain_9 rfl (by decide) (by intro v hv; cases hv) ?_
      refine zg_iconst F.1 1 1 (by decide) zd_La_curtain_10 ?_
      cases h
      exact zh_iret F zd_La_curtain_11
    · rw [if_neg hx0] at h
      cases h
  rw [if_pos hz3] at h
  refine zg_callV F (As := [.int a1, .int a2]) (rest := []) (zk_LG_curtain (zw_nle (by decide) F.1.2.2) N a1 a2 st (hc3.trans (congrArg some (zw_yv hz3)))) rfl rfl zcal_LG_curtain zml_La_27 ⟨(Nat.le_of_ble_eq_true rfl), (Nat.le_of_ble_eq_true rfl)⟩ (zg_rec0 F.1 (by decide) rfl) rfl (Nat.le_of_ble_eq_true rfl) ⟨(Nat.le_of_ble_eq_true rfl), (Nat.le_of_ble_eq_true rfl)⟩ zd_La_curtain_3 ?_
  refine zg_goto F.1 12 zd_La_curtain_6 rfl ?_
  refine zg_iconst F.1 0 0 (by decide) zd_La_curtain_12 ?_
  cases h
  refine zg_wide (k' := 1) (by decide) ?_
  exact zh_iret F zd_La_curtain_13
theorem zh_La_curtain {E : zE} (hst : l.stackTraces = false) (hn : zw_n E 20) (N : Nat) (a1 : Int32) (a2 : Int32) (st : zS)  {rv : Int32} {rst : zS} (h : zf_La_curtain N a1 a2 st = some (rv, rst)) : zh_M zx_ss l zy_La_curtain (Cond.codeWith zy_La_curtain zo_La_curtain 4 (some .int) [(0, 6, 9, 31)] :: zwAll) zrm_La_curtain E [.ref 0, .int a1, .int a2] st (some (.int rv)) rst :=
  zh_enter hst (by decide) rfl hn (Nat.le_of_ble_eq_true rfl) (by simp [Value.category]) 1 (fun p e s m args below meth c A F Y => zl_La_curtain_0 F Y a1 a2 st  h)
set_option maxRecDepth 100000 in
theorem zcal_LG_lock : zw_cal zR0 zy_LG_lock zo_LG_lock 4 none 2 := ⟨zw_at 559 rfl rfl, zw_at 560 rfl rfl, zw_at 47 rfl rfl, zw_at 561 rfl rfl, rfl, by decide, by decide, by decide +kernel⟩
set_option maxRecDepth 100000 in
theorem zml_La_33 : Cond.methodLink "LiftGroupLaw" 33 zy_LG_lock ∈ zwAll := zw_at 558 rfl rfl
abbrev zrm_La_lock : Room := { frames := 8, cells := 1, slots := 6, locals := 162 }
def zf_La_lock (N : Nat) (a1 : Int32) (a2 : Int32) (st : zS) : Option (Int32 × zS) := ((zf_LG_lock N a1 a2 st).bind fun y3 => (if y3.1 = 0 then some (0, y3.2) else (if y3.1 = 4 then some (1, y3.2) else none)))
set_option maxHeartbeats 4000000 in
theorem zl_La_lock_0 (F : zw_X p m c zo_La_lock 4 s args "LiftGroupLaw" E 20 A meth (some .int)) (Y : zh_X zx_ss l s A c [(0, 6, 9, 31)]) {N : Nat} {rv : Int32} {rst : zS} (a1 : Int32) (a2 : Int32) (st : zS)  (h : zf_La_lock N a1 a2 st = some (rv, rst)) : zw_G p l e zrm_La_lock s m args below meth c (MQ below (zw_Q E (some (.int rv)) rst A) args s 1 6 A) E A 4 0 0 [some (.ref 0), some (.int a1), some (.int a2), none] [] st := by
  unfold zf_La_lock at h
  refine zg_aload_n F.1 zd_La_lock_0 rfl rfl ?_
  refine zg_iload_n F.1 zd_La_lock_1 rfl rfl ?_
  refine zg_iload_n F.1 zd_La_lock_2 rfl rfl ?_
  obtain ⟨y3, hc3, h⟩ := Option.bind_eq_some_iff.mp h
  by_cases hz3 : y3.1 = 0
  case neg =>
    rw [if_neg hz3] at h
    by_cases hx0 : y3.1 = 4
    · rw [if_pos hx0] at h
      refine zh_catchN F Y (As := [.int a1, .int a2]) (rest := []) (zx_LG_lock Y.1 (zw_nle (by decide) F.1.2.2) N a1 a2 st (xx := 4) (by decide) (hc3.trans (congrArg some (zw_yw hx0)))) rfl rfl zcal_LG_lock zml_La_33 ⟨(Nat.le_of_ble_eq_true rfl), (Nat.le_of_ble_eq_true rfl)⟩ (zg_rec0 F.1 (by decide) rfl) rfl (Nat.le_of_ble_eq_true rfl) ⟨(Nat.le_of_ble_eq_true rfl), (Nat.le_of_ble_eq_true rfl)⟩ zd_La_lock_3 (hpc := 9) ⟨rfl, by decide, 4, F.1.1.2.2.2.2 _ zhl_31, Or.inl ⟨rfl, rfl, zh_cast Y.2.1 4 (by simp [zx_tab])⟩⟩ zd_La_lock_9 rfl (by decide) (by intro v hv; cases hv) ?_
      refine zg_iconst F.1 1 1 (by decide) zd_La_lock_10 ?_
      cases h
      exact zh_iret F zd_La_lock_11
    · rw [if_neg hx0] at h
      cases h
  rw [if_pos hz3] at h
  refine zg_callV F (As := [.int a1, .int a2]) (rest := []) (zk_LG_lock (zw_nle (by decide) F.1.2.2) N a1 a2 st (hc3.trans (congrArg some (zw_yv hz3)))) rfl rfl zcal_LG_lock zml_La_33 ⟨(Nat.le_of_ble_eq_true rfl), (Nat.le_of_ble_eq_true rfl)⟩ (zg_rec0 F.1 (by decide) rfl) rfl (Nat.le_of_ble_eq_true rfl) ⟨(Nat.le_of_ble_eq_true rfl), (Nat.le_of_ble_eq_true rfl)⟩ zd_La_lock_3 ?_
  refine zg_goto F.1 12 zd_La_lock_6 rfl ?_
  refine zg_iconst F.1 0 0 (by decide) zd_La_lock_12 ?_
  cases h
  refine zg_wide (k' := 1) (by decide) ?_
  exact zh_iret F zd_La_lock_13
theorem zh_La_lock {E : zE} (hst : l.stackTraces = false) (hn : zw_n E 20) (N : Nat) (a1 : Int32) (a2 : Int32) (st : zS)  {rv : Int32} {rst : zS} (h : zf_La_lock N a1 a2 st = some (rv, rst)) : zh_M zx_ss l zy_La_lock (Cond.codeWith zy_La_lock zo_La_lock 4 (some .int) [(0, 6, 9, 31)] :: zwAll) zrm_La_lock E [.ref 0, .int a1, .int a2] st (some (.int rv)) rst :=
  zh_enter hst (by decide) rfl hn (Nat.le_of_ble_eq_true rfl) (by simp [Value.category]) 1 (fun p e s m args below meth c A F Y => zl_La_lock_0 F Y a1 a2 st  h)
set_option maxRecDepth 100000 in
theorem zcal_LG_fail : zw_cal zR0 zy_LG_fail zo_LG_fail 4 none 2 := ⟨zw_at 570 rfl rfl, zw_at 571 rfl rfl, zw_at 47 rfl rfl, zw_at 572 rfl rfl, rfl, by decide, by decide, by decide +kernel⟩
set_option maxRecDepth 100000 in
theorem zml_La_36 : Cond.methodLink "LiftGroupLaw" 36 zy_LG_fail ∈ zwAll := zw_at 569 rfl rfl
abbrev zrm_La_fail : Room := { frames := 8, cells := 1, slots := 6, locals := 162 }
def zf_La_fail (N : Nat) (a1 : Int32) (a2 : Int32) (st : zS) : Option (Int32 × zS) := ((zf_LG_fail N a1 a2 st).bind fun y3 => (if y3.1 = 0 then some (0, y3.2) else (if y3.1 = 4 then some (1, y3.2) else none)))
set_option maxHeartbeats 4000000 in
theorem zl_La_fail_0 (F : zw_X p m c zo_La_fail 4 s args "LiftGroupLaw" E 20 A meth (some .int)) (Y : zh_X zx_ss l s A c [(0, 6, 9, 31)]) {N : Nat} {rv : Int32} {rst : zS} (a1 : Int32) (a2 : Int32) (st : zS)  (h : zf_La_fail N a1 a2 st = some (rv, rst)) : zw_G p l e zrm_La_fail s m args below meth c (MQ below (zw_Q E (some (.int rv)) rst A) args s 1 6 A) E A 4 0 0 [some (.ref 0), some (.int a1), some (.int a2), none] [] st := by
  unfold zf_La_fail at h
  refine zg_aload_n F.1 zd_La_fail_0 rfl rfl ?_
  refine zg_iload_n F.1 zd_La_fail_1 rfl rfl ?_
  refine zg_iload_n F.1 zd_La_fail_2 rfl rfl ?_
  obtain ⟨y3, hc3, h⟩ := Option.bind_eq_some_iff.mp h
  by_cases hz3 : y3.1 = 0
  case neg =>
    rw [if_neg hz3] at h
    by_cases hx0 : y3.1 = 4
    · rw [if_pos hx0] at h
      refine zh_catchN F Y (As := [.int a1, .int a2]) (rest := []) (zx_LG_fail Y.1 (zw_nle (by decide) F.1.2.2) N a1 a2 st (xx := 4) (by decide) (hc3.trans (congrArg some (zw_yw hx0)))) rfl rfl zcal_LG_fail zml_La_36 ⟨(Nat.le_of_ble_eq_true rfl), (Nat.le_of_ble_eq_true rfl)⟩ (zg_rec0 F.1 (by decide) rfl) rfl (Nat.le_of_ble_eq_true rfl) ⟨(Nat.le_of_ble_eq_true rfl), (Nat.le_of_ble_eq_true rfl)⟩ zd_La_fail_3 (hpc := 9) ⟨rfl, by decide, 4, F.1.1.2.2.2.2 _ zhl_31, Or.inl ⟨rfl, rfl, zh_cast Y.2.1 4 (by simp [zx_tab])⟩⟩ zd_La_fail_9 rfl (by decide) (by intro v hv; cases hv) ?_
      refine zg_iconst F.1 1 1 (by decide) zd_La_fail_10 ?_
      cases h
      exact zh_iret F zd_La_fail_11
    · rw [if_neg hx0] at h
      cases h
  rw [if_pos hz3] at h
  refine zg_callV F (As := [.int a1, .int a2]) (rest := []) (zk_LG_fail (zw_nle (by decide) F.1.2.2) N a1 a2 st (hc3.trans (congrArg some (zw_yv hz3)))) rfl rfl zcal_LG_fail zml_La_36 ⟨(Nat.le_of_ble_eq_true rfl), (Nat.le_of_ble_eq_true rfl)⟩ (zg_rec0 F.1 (by decide) rfl) rfl (Nat.le_of_ble_eq_true rfl) ⟨(Nat.le_of_ble_eq_true rfl), (Nat.le_of_ble_eq_true rfl)⟩ zd_La_fail_3 ?_
  refine zg_goto F.1 12 zd_La_fail_6 rfl ?_
  refine zg_iconst F.1 0 0 (by decide) zd_La_fail_12 ?_
  cases h
  refine zg_wide (k' := 1) (by decide) ?_
  exact zh_iret F zd_La_fail_13
theorem zh_La_fail {E : zE} (hst : l.stackTraces = false) (hn : zw_n E 20) (N : Nat) (a1 : Int32) (a2 : Int32) (st : zS)  {rv : Int32} {rst : zS} (h : zf_La_fail N a1 a2 st = some (rv, rst)) : zh_M zx_ss l zy_La_fail (Cond.codeWith zy_La_fail zo_La_fail 4 (some .int) [(0, 6, 9, 31)] :: zwAll) zrm_La_fail E [.ref 0, .int a1, .int a2] st (some (.int rv)) rst :=
  zh_enter hst (by decide) rfl hn (Nat.le_of_ble_eq_true rfl) (by simp [Value.category]) 1 (fun p e s m args below meth c A F Y => zl_La_fail_0 F Y a1 a2 st  h)
set_option maxRecDepth 100000 in
theorem zcal_LG_car : zw_cal zR0 zy_LG_car zo_LG_car 4 (some .int) 2 := ⟨zw_at 577 rfl rfl, zw_at 578 rfl rfl, zw_at 47 rfl rfl, zw_at 579 rfl rfl, rfl, by decide, by decide, by decide +kernel⟩
set_option maxRecDepth 100000 in
theorem zml_La_39 : Cond.methodLink "LiftGroupLaw" 39 zy_LG_car ∈ zwAll := zw_at 576 rfl rfl
abbrev zrm_La_car : Room := { frames := 8, cells := 1, slots := 6, locals := 134 }
def zf_La_car (N : Nat) (a1 : Int32) (a2 : Int32) (st : zS) : Option (Int32 × zS) := ((zf_LG_car N a1 a2 st).bind fun y5 => (if y5.1 = 0 then some (0, (zp y5.2.2 56 0 y5.2.1)) else (if y5.1 = 4 then some (1, y5.2.2) else (if y5.1 = 1 then some (2, y5.2.2) else none))))
set_option maxHeartbeats 4000000 in
theorem zl_La_car_0 (F : zw_X p m c zo_La_car 5 s args "LiftGroupLaw" E 20 A meth (some .int)) (Y : zh_X zx_ss l s A c [(0, 10, 13, 31), (0, 10, 17, 13)]) {N : Nat} {rv : Int32} {rst : zS} (a1 : Int32) (a2 : Int32) (st : zS)  (h : zf_La_car N a1 a2 st = some (rv, rst)) : zw_G p l e zrm_La_car s m args below meth c (MQ below (zw_Q E (some (.int rv)) rst A) args s 1 6 A) E A 5 0 0 [some (.ref 0), some (.int a1), some (.int a2), some (.ref 56), none] [] st := by
  unfold zf_La_car at h
  refine zg_aload_n F.1 zd_La_car_0 rfl rfl ?_
  refine zg_iconst F.1 0 0 (by decide) zd_La_car_1 ?_
  refine zg_aload_n F.1 zd_La_car_2 rfl rfl ?_
  refine zg_iload_n F.1 zd_La_car_3 rfl rfl ?_
  refine zg_iload_n F.1 zd_La_car_4 rfl rfl ?_
  obtain ⟨y5, hc5, h⟩ := Option.bind_eq_some_iff.mp h
  by_cases hz5 : y5.1 = 0
  case neg =>
    rw [if_neg hz5] at h
    by_cases hx0 : y5.1 = 4
    · rw [if_pos hx0] at h
      refine zh_catch F Y (As := [.int a1, .int a2]) (rest := [.int 0, .ref 56]) (zx_LG_car Y.1 (zw_nle (by decide) F.1.2.2) N a1 a2 st (xx := 4) (by decide) (hc5.trans (congrArg some (zw_yx hx0)))) rfl rfl zcal_LG_car zml_La_39 ⟨(Nat.le_of_ble_eq_true rfl), (Nat.le_of_ble_eq_true rfl)⟩ (zg_rec0 F.1 (by decide) rfl) rfl (Nat.le_of_ble_eq_true rfl) ⟨(Nat.le_of_ble_eq_true rfl), (Nat.le_of_ble_eq_true rfl)⟩ zd_La_car_5 (hpc := 13) ⟨rfl, by decide, 4, F.1.1.2.2.2.2 _ zhl_31, Or.inl ⟨rfl, rfl, zh_cast Y.2.1 4 (by simp [zx_tab])⟩⟩ zd_La_car_13 (by decide) (by intro v hv; cases hv) ?_
      refine zg_iconst F.1 1 1 (by decide) zd_La_car_15 ?_
      cases h
      exact zh_iret F zd_La_car_16
    · rw [if_neg hx0] at h
      by_cases hx1 : y5.1 = 1
      · rw [if_pos hx1] at h
        refine zh_catch F Y (As := [.int a1, .int a2]) (rest := [.int 0, .ref 56]) (zx_LG_car Y.1 (zw_nle (by decide) F.1.2.2) N a1 a2 st (xx := 1) (by decide) (hc5.trans (congrArg some (zw_yx hx1)))) rfl rfl zcal_LG_car zml_La_39 ⟨(Nat.le_of_ble_eq_true rfl), (Nat.le_of_ble_eq_true rfl)⟩ (zg_rec0 F.1 (by decide) rfl) rfl (Nat.le_of_ble_eq_true rfl) ⟨(Nat.le_of_ble_eq_true rfl), (Nat.le_of_ble_eq_true rfl)⟩ zd_La_car_5 (hpc := 17) ⟨rfl, by decide, 4, F.1.1.2.2.2.2 _ zhl_31, Or.inr ⟨Y.2.2.2.2.1.2.2.2.1, ⟨rfl, by decide, 1, F.1.1.2.2.2.2 _ zhl_13, Or.inl ⟨rfl, rfl, zh_cast Y.2.1 1 (by simp [zx_tab])⟩⟩⟩⟩ zd_La_car_17 (by decide) (by intro v hv; cases hv) ?_
        refine zg_iconst F.1 2 2 (by decide) zd_La_car_19 ?_
        cases h
        exact zh_iret F zd_La_car_20
      · rw [if_neg hx1] at h
        cases h
  rw [if_pos hz5] at h
  refine zg_callV F (As := [.int a1, .int a2]) (rest := [.int 0, .ref 56]) (zk_LG_car (zw_nle (by decide) F.1.2.2) N a1 a2 st (hc5.trans (congrArg some (zw_y0 hz5)))) rfl rfl zcal_LG_car zml_La_39 ⟨(Nat.le_of_ble_eq_true rfl), (Nat.le_of_ble_eq_true rfl)⟩ (zg_rec0 F.1 (by decide) rfl) rfl (Nat.le_of_ble_eq_true rfl) ⟨(Nat.le_of_ble_eq_true rfl), (Nat.le_of_ble_eq_true rfl)⟩ zd_La_car_5 ?_
  refine zg_i2l F.1 zd_La_car_8 ?_
  refine zg_last F.1 (by decide) rfl (x := y5.2.1) (by unfold vp_in; decide) (by rfl) 0 (by decide) zd_La_car_9 ?_
  refine zg_goto F.1 21 zd_La_car_10 rfl ?_
  refine zg_iconst F.1 0 0 (by decide) zd_La_car_21 ?_
  cases h
  refine zg_wide (k' := 1) (by decide) ?_
  exact zh_iret F zd_La_car_22
theorem zh_La_car {E : zE} (hst : l.stackTraces = false) (hn : zw_n E 20) (N : Nat) (a1 : Int32) (a2 : Int32) (st : zS)  {rv : Int32} {rst : zS} (h : zf_La_car N a1 a2 st = some (rv, rst)) : zh_M zx_ss l zy_La_car (Cond.codeWith zy_La_car zo_La_car 5 (some .int) [(0, 10, 13, 31), (0, 10, 17, 13)] :: zwAll) zrm_La_car E [.ref 0, .int a1, .int a2, .ref 56] st (some (.int rv)) rst :=
  zh_enter hst (by decide) rfl hn (Nat.le_of_ble_eq_true rfl) (by simp [Value.category]) 1 (fun p e s m args below meth c A F Y => zl_La_car_0 F Y a1 a2 st  h)
set_option maxRecDepth 100000 in
theorem zcal_LG_stop : zw_cal zR0 zy_LG_stop zo_LG_stop 4 (some .boolean) 2 := ⟨zw_at 586 rfl rfl, zw_at 587 rfl rfl, zw_at 47 rfl rfl, zw_at 588 rfl rfl, rfl, by decide, by decide, by decide +kernel⟩
set_option maxRecDepth 100000 in
theorem zml_La_42 : Cond.methodLink "LiftGroupLaw" 42 zy_LG_stop ∈ zwAll := zw_at 585 rfl rfl
abbrev zrm_La_stop : Room := { frames := 8, cells := 1, slots := 6, locals := 134 }
def zf_La_stop (N : Nat) (a1 : Int32) (a2 : Int32) (st : zS) : Option (Int32 × zS) := ((zf_LG_stop N a1 a2 st).bind fun y5 => (if y5.1 = 0 then (if y5.2.1 = 0 then some (0, (zp y5.2.2 56 0 0)) else some (0, (zp y5.2.2 56 0 1))) else (if y5.1 = 4 then some (1, y5.2.2) else (if y5.1 = 1 then some (2, y5.2.2) else none))))
set_option maxHeartbeats 4000000 in
theorem zl_La_stop_0 (F : zw_X p m c zo_La_stop 5 s args "LiftGroupLaw" E 20 A meth (some .int)) (Y : zh_X zx_ss l s A c [(0, 17, 20, 31), (0, 17, 24, 13)]) {N : Nat} {rv : Int32} {rst : zS} (a1 : Int32) (a2 : Int32) (st : zS)  (h : zf_La_stop N a1 a2 st = some (rv, rst)) : zw_G p l e zrm_La_stop s m args below meth c (MQ below (zw_Q E (some (.int rv)) rst A) args s 1 6 A) E A 5 0 0 [some (.ref 0), some (.int a1), some (.int a2), some (.ref 56), none] [] st := by
  unfold zf_La_stop at h
  refine zg_aload_n F.1 zd_La_stop_0 rfl rfl ?_
  refine zg_iconst F.1 0 0 (by decide) zd_La_stop_1 ?_
  refine zg_aload_n F.1 zd_La_stop_2 rfl rfl ?_
  refine zg_iload_n F.1 zd_La_stop_3 rfl rfl ?_
  refine zg_iload_n F.1 zd_La_stop_4 rfl rfl ?_
  obtain ⟨y5, hc5, h⟩ := Option.bind_eq_some_iff.mp h
  by_cases hz5 : y5.1 = 0
  case neg =>
    rw [if_neg hz5] at h
    by_cases hx0 : y5.1 = 4
    · rw [if_pos hx0] at h
      refine zh_catch F Y (As := [.int a1, .int a2]) (rest := [.int 0, .ref 56]) (zx_LG_stop Y.1 (zw_nle (by decide) F.1.2.2) N a1 a2 st (xx := 4) (by decide) (hc5.trans (congrArg some (zw_yx hx0)))) rfl rfl zcal_LG_stop zml_La_42 ⟨(Nat.le_of_ble_eq_true rfl), (Nat.le_of_ble_eq_true rfl)⟩ (zg_rec0 F.1 (by decide) rfl) rfl (Nat.le_of_ble_eq_true rfl) ⟨(Nat.le_of_ble_eq_true rfl), (Nat.le_of_ble_eq_true rfl)⟩ zd_La_stop_5 (hpc := 20) ⟨rfl, by decide, 4, F.1.1.2.2.2.2 _ zhl_31, Or.inl ⟨rfl, rfl, zh_cast Y.2.1 4 (by simp [zx_tab])⟩⟩ zd_La_stop_20 (by decide) (by intro v hv; cases hv) ?_
      refine zg_iconst F.1 1 1 (by decide) zd_La_stop_22 ?_
      cases h
      exact zh_iret F zd_La_stop_23
    · rw [if_neg hx0] at h
      by_cases hx1 : y5.1 = 1
      · rw [if_pos hx1] at h
        refine zh_catch F Y (As := [.int a1, .int a2]) (rest := [.int 0, .ref 56]) (zx_LG_stop Y.1 (zw_nle (by decide) F.1.2.2) N a1 a2 st (xx := 1) (by decide) (hc5.trans (congrArg some (zw_yx hx1)))) rfl rfl zcal_LG_stop zml_La_42 ⟨(Nat.le_of_ble_eq_true rfl), (Nat.le_of_ble_eq_true rfl)⟩ (zg_rec0 F.1 (by decide) rfl) rfl (Nat.le_of_ble_eq_true rfl) ⟨(Nat.le_of_ble_eq_true rfl), (Nat.le_of_ble_eq_true rfl)⟩ zd_La_stop_5 (hpc := 24) ⟨rfl, by decide, 4, F.1.1.2.2.2.2 _ zhl_31, Or.inr ⟨Y.2.2.2.2.1.2.2.2.1, ⟨rfl, by decide, 1, F.1.1.2.2.2.2 _ zhl_13, Or.inl ⟨rfl, rfl, zh_cast Y.2.1 1 (by simp [zx_tab])⟩⟩⟩⟩ zd_La_stop_24 (by decide) (by intro v hv; cases hv) ?_
        refine zg_iconst F.1 2 2 (by decide) zd_La_stop_26 ?_
        cases h
        exact zh_iret F zd_La_stop_27
      · rw [if_neg hx1] at h
        cases h
  rw [if_pos hz5] at h
  refine zg_callV F (As := [.int a1, .int a2]) (rest := [.int 0, .ref 56]) (zk_LG_stop (zw_nle (by decide) F.1.2.2) N a1 a2 st (hc5.trans (congrArg some (zw_y0 hz5)))) rfl rfl zcal_LG_stop zml_La_42 ⟨(Nat.le_of_ble_eq_true rfl), (Nat.le_of_ble_eq_true rfl)⟩ (zg_rec0 F.1 (by decide) rfl) rfl (Nat.le_of_ble_eq_true rfl) ⟨(Nat.le_of_ble_eq_true rfl), (Nat.le_of_ble_eq_true rfl)⟩ zd_La_stop_5 ?_
  refine zg_if_eq F.1 15 zd_La_stop_8 rfl (fun hc => ?_) (fun hc => ?_)
  · rw [if_pos hc] at h
    refine zg_lconst F.1 0 0 (by decide) zd_La_stop_15 ?_
    refine zg_last F.1 (by decide) rfl (x := 0) (by unfold vp_in; decide) (by rfl) 0 (by decide) zd_La_stop_16 ?_
    refine zg_goto F.1 28 zd_La_stop_17 rfl ?_
    refine zg_iconst F.1 0 0 (by decide) zd_La_stop_28 ?_
    cases h
    refine zg_wide (k' := 1) (by decide) ?_
    exact zh_iret F zd_La_stop_29
  · rw [if_neg hc] at h
    refine zg_lconst F.1 1 1 (by decide) zd_La_stop_11 ?_
    refine zg_goto F.1 16 zd_La_stop_12 rfl ?_
    refine zg_last F.1 (by decide) rfl (x := 1) (by unfold vp_in; decide) (by rfl) 0 (by decide) zd_La_stop_16 ?_
    refine zg_goto F.1 28 zd_La_stop_17 rfl ?_
    refine zg_iconst F.1 0 0 (by decide) zd_La_stop_28 ?_
    cases h
    refine zg_wide (k' := 1) (by decide) ?_
    exact zh_iret F zd_La_stop_29
theorem zh_La_stop {E : zE} (hst : l.stackTraces = false) (hn : zw_n E 20) (N : Nat) (a1 : Int32) (a2 : Int32) (st : zS)  {rv : Int32} {rst : zS} (h : zf_La_stop N a1 a2 st = some (rv, rst)) : zh_M zx_ss l zy_La_stop (Cond.codeWith zy_La_stop zo_La_stop 5 (some .int) [(0, 17, 20, 31), (0, 17, 24, 13)] :: zwAll) zrm_La_stop E [.ref 0, .int a1, .int a2, .ref 56] st (some (.int rv)) rst :=
  zh_enter hst (by decide) rfl hn (Nat.le_of_ble_eq_true rfl) (by simp [Value.category]) 1 (fun p e s m args below meth c A F Y => zl_La_stop_0 F Y a1 a2 st  h)
set_option maxRecDepth 100000 in
theorem zcal_LG_worst : zw_cal zR0 zy_LG_worst zo_LG_worst 2 (some .int) 1 := ⟨zw_at 595 rfl rfl, zw_at 596 rfl rfl, zw_at 47 rfl rfl, zw_at 597 rfl rfl, rfl, by decide, by decide, by decide +kernel⟩
set_option maxRecDepth 100000 in
theorem zml_La_46 : Cond.methodLink "LiftGroupLaw" 46 zy_LG_worst ∈ zwAll := zw_at 594 rfl rfl
abbrev zrm_La_worst : Room := { frames := 8, cells := 1, slots := 6, locals := 132 }
def zf_La_worst (N : Nat) (a1 : Int32) (st : zS) : Option (Int32 × zS) := ((zf_LG_worst N a1 st).bind fun y4 => (if y4.1 = 0 then some (0, (zp y4.2.2 56 0 y4.2.1)) else (if y4.1 = 4 then some (1, y4.2.2) else none)))
set_option maxHeartbeats 4000000 in
theorem zl_La_worst_0 (F : zw_X p m c zo_La_worst 4 s args "LiftGroupLaw" E 20 A meth (some .int)) (Y : zh_X zx_ss l s A c [(0, 9, 12, 31)]) {N : Nat} {rv : Int32} {rst : zS} (a1 : Int32) (st : zS)  (h : zf_La_worst N a1 st = some (rv, rst)) : zw_G p l e zrm_La_worst s m args below meth c (MQ below (zw_Q E (some (.int rv)) rst A) args s 1 6 A) E A 4 0 0 [some (.ref 0), some (.int a1), some (.ref 56), none] [] st := by
  unfold zf_La_worst at h
  refine zg_aload_n F.1 zd_La_worst_0 rfl rfl ?_
  refine zg_iconst F.1 0 0 (by decide) zd_La_worst_1 ?_
  refine zg_aload_n F.1 zd_La_worst_2 rfl rfl ?_
  refine zg_iload_n F.1 zd_La_worst_3 rfl rfl ?_
  obtain ⟨y4, hc4, h⟩ := Option.bind_eq_some_iff.mp h
  by_cases hz4 : y4.1 = 0
  case neg =>
    rw [if_neg hz4] at h
    by_cases hx0 : y4.1 = 4
    · rw [if_pos hx0] at h
      refine zh_catchN F Y (As := [.int a1]) (rest := [.int 0, .ref 56]) (zx_LG_worst Y.1 (zw_nle (by decide) F.1.2.2) N a1 st (xx := 4) (by decide) (hc4.trans (congrArg some (zw_yx hx0)))) rfl rfl zcal_LG_worst zml_La_46 ⟨(Nat.le_of_ble_eq_true rfl), (Nat.le_of_ble_eq_true rfl)⟩ (zg_rec0 F.1 (by decide) rfl) rfl (Nat.le_of_ble_eq_true rfl) ⟨(Nat.le_of_ble_eq_true rfl), (Nat.le_of_ble_eq_true rfl)⟩ zd_La_worst_4 (hpc := 12) ⟨rfl, by decide, 4, F.1.1.2.2.2.2 _ zhl_31, Or.inl ⟨rfl, rfl, zh_cast Y.2.1 4 (by simp [zx_tab])⟩⟩ zd_La_worst_12 rfl (by decide) (by intro v hv; cases hv) ?_
      refine zg_iconst F.1 1 1 (by decide) zd_La_worst_13 ?_
      cases h
      exact zh_iret F zd_La_worst_14
    · rw [if_neg hx0] at h
      cases h
  rw [if_pos hz4] at h
  refine zg_callV F (As := [.int a1]) (rest := [.int 0, .ref 56]) (zk_LG_worst (zw_nle (by decide) F.1.2.2) N a1 st (hc4.trans (congrArg some (zw_y0 hz4)))) rfl rfl zcal_LG_worst zml_La_46 ⟨(Nat.le_of_ble_eq_true rfl), (Nat.le_of_ble_eq_true rfl)⟩ (zg_rec0 F.1 (by decide) rfl) rfl (Nat.le_of_ble_eq_true rfl) ⟨(Nat.le_of_ble_eq_true rfl), (Nat.le_of_ble_eq_true rfl)⟩ zd_La_worst_4 ?_
  refine zg_i2l F.1 zd_La_worst_7 ?_
  refine zg_last F.1 (by decide) rfl (x := y4.2.1) (by unfold vp_in; decide) (by rfl) 0 (by decide) zd_La_worst_8 ?_
  refine zg_goto F.1 15 zd_La_worst_9 rfl ?_
  refine zg_iconst F.1 0 0 (by decide) zd_La_worst_15 ?_
  cases h
  refine zg_wide (k' := 1) (by decide) ?_
  exact zh_iret F zd_La_worst_16
theorem zh_La_worst {E : zE} (hst : l.stackTraces = false) (hn : zw_n E 20) (N : Nat) (a1 : Int32) (st : zS)  {rv : Int32} {rst : zS} (h : zf_La_worst N a1 st = some (rv, rst)) : zh_M zx_ss l zy_La_worst (Cond.codeWith zy_La_worst zo_La_worst 4 (some .int) [(0, 9, 12, 31)] :: zwAll) zrm_La_worst E [.ref 0, .int a1, .ref 56] st (some (.int rv)) rst :=
  zh_enter hst (by decide) rfl hn (Nat.le_of_ble_eq_true rfl) (by simp [Value.category]) 1 (fun p e s m args below meth c A F Y => zl_La_worst_0 F Y a1 st  h)
set_option maxRecDepth 100000 in
theorem zcal_LG_rider : zw_cal zR0 zy_LG_rider zo_LG_rider 4 (some .int) 2 := ⟨zw_at 602 rfl rfl, zw_at 603 rfl rfl, zw_at 47 rfl rfl, zw_at 604 rfl rfl, rfl, by decide, by decide, by decide +kernel⟩
set_option maxRecDepth 100000 in
theorem zml_La_50 : Cond.methodLink "LiftGroupLaw" 50 zy_LG_rider ∈ zwAll := zw_at 601 rfl rfl
abbrev zrm_La_rider : Room := { frames := 8, cells := 1, slots := 6, locals := 134 }
def zf_La_rider (N : Nat) (a1 : Int32) (a2 : Int32) (st : zS) : Option (Int32 × zS) := ((zf_LG_rider N a1 a2 st).bind fun y5 => (if y5.1 = 0 then some (0, (zp y5.2.2 56 0 y5.2.1)) else (if y5.1 = 4 then some (1, y5.2.2) else (if y5.1 = 1 then some (2, y5.2.2) else none))))
set_option maxHeartbeats 4000000 in
theorem zl_La_rider_0 (F : zw_X p m c zo_La_rider 5 s args "LiftGroupLaw" E 20 A meth (some .int)) (Y : zh_X zx_ss l s A c [(0, 10, 13, 31), (0, 10, 17, 13)]) {N : Nat} {rv : Int32} {rst : zS} (a1 : Int32) (a2 : Int32) (st : zS)  (h : zf_La_rider N a1 a2 st = some (rv, rst)) : zw_G p l e zrm_La_rider s m args below meth c (MQ below (zw_Q E (some (.int rv)) rst A) args s 1 6 A) E A 5 0 0 [some (.ref 0), some (.int a1), some (.int a2), some (.ref 56), none] [] st := by
  unfold zf_La_rider at h
  refine zg_aload_n F.1 zd_La_rider_0 rfl rfl ?_
  refine zg_iconst F.1 0 0 (by decide) zd_La_rider_1 ?_
  refine zg_aload_n F.1 zd_La_rider_2 rfl rfl ?_
  refine zg_iload_n F.1 zd_La_rider_3 rfl rfl ?_
  refine zg_iload_n F.1 zd_La_rider_4 rfl rfl ?_
  obtain ⟨y5, hc5, h⟩ := Option.bind_eq_some_iff.mp h
  by_cases hz5 : y5.1 = 0
  case neg =>
    rw [if_neg hz5] at h
    by_cases hx0 : y5.1 = 4
    · rw [if_pos hx0] at h
      refine zh_catch F Y (As := [.int a1, .int a2]) (rest := [.int 0, .ref 56]) (zx_LG_rider Y.1 (zw_nle (by decide) F.1.2.2) N a1 a2 st (xx := 4) (by decide) (hc5.trans (congrArg some (zw_yx hx0)))) rfl rfl zcal_LG_rider zml_La_50 ⟨(Nat.le_of_ble_eq_true rfl), (Nat.le_of_ble_eq_true rfl)⟩ (zg_rec0 F.1 (by decide) rfl) rfl (Nat.le_of_ble_eq_true rfl) ⟨(Nat.le_of_ble_eq_true rfl), (Nat.le_of_ble_eq_true rfl)⟩ zd_La_rider_5 (hpc := 13) ⟨rfl, by decide, 4, F.1.1.2.2.2.2 _ zhl_31, Or.inl ⟨rfl, rfl, zh_cast Y.2.1 4 (by simp [zx_tab])⟩⟩ zd_La_rider_13 (by decide) (by intro v hv; cases hv) ?_
      refine zg_iconst F.1 1 1 (by decide) zd_La_rider_15 ?_
      cases h
      exact zh_iret F zd_La_rider_16
    · rw [if_neg hx0] at h
      by_cases hx1 : y5.1 = 1
      · rw [if_pos hx1] at h
        refine zh_catch F Y (As := [.int a1, .int a2]) (rest := [.int 0, .ref 56]) (zx_LG_rider Y.1 (zw_nle (by decide) F.1.2.2) N a1 a2 st (xx := 1) (by decide) (hc5.trans (congrArg some (zw_yx hx1)))) rfl rfl zcal_LG_rider zml_La_50 ⟨(Nat.le_of_ble_eq_true rfl), (Nat.le_of_ble_eq_true rfl)⟩ (zg_rec0 F.1 (by decide) rfl) rfl (Nat.le_of_ble_eq_true rfl) ⟨(Nat.le_of_ble_eq_true rfl), (Nat.le_of_ble_eq_true rfl)⟩ zd_La_rider_5 (hpc := 17) ⟨rfl, by decide, 4, F.1.1.2.2.2.2 _ zhl_31, Or.inr ⟨Y.2.2.2.2.1.2.2.2.1, ⟨rfl, by decide, 1, F.1.1.2.2.2.2 _ zhl_13, Or.inl ⟨rfl, rfl, zh_cast Y.2.1 1 (by simp [zx_tab])⟩⟩⟩⟩ zd_La_rider_17 (by decide) (by intro v hv; cases hv) ?_
        refine zg_iconst F.1 2 2 (by decide) zd_La_rider_19 ?_
        cases h
        exact zh_iret F zd_La_rider_20
      · rw [if_neg hx1] at h
        cases h
  rw [if_pos hz5] at h
  refine zg_callV F (As := [.int a1, .int a2]) (rest := [.int 0, .ref 56]) (zk_LG_rider (zw_nle (by decide) F.1.2.2) N a1 a2 st (hc5.trans (congrArg some (zw_y0 hz5)))) rfl rfl zcal_LG_rider zml_La_50 ⟨(Nat.le_of_ble_eq_true rfl), (Nat.le_of_ble_eq_true rfl)⟩ (zg_rec0 F.1 (by decide) rfl) rfl (Nat.le_of_ble_eq_true rfl) ⟨(Nat.le_of_ble_eq_true rfl), (Nat.le_of_ble_eq_true rfl)⟩ zd_La_rider_5 ?_
  refine zg_i2l F.1 zd_La_rider_8 ?_
  refine zg_last F.1 (by decide) rfl (x := y5.2.1) (by unfold vp_in; decide) (by rfl) 0 (by decide) zd_La_rider_9 ?_
  refine zg_goto F.1 21 zd_La_rider_10 rfl ?_
  refine zg_iconst F.1 0 0 (by decide) zd_La_rider_21 ?_
  cases h
  refine zg_wide (k' := 1) (by decide) ?_
  exact zh_iret F zd_La_rider_22
theorem zh_La_rider {E : zE} (hst : l.stackTraces = false) (hn : zw_n E 20) (N : Nat) (a1 : Int32) (a2 : Int32) (st : zS)  {rv : Int32} {rst : zS} (h : zf_La_rider N a1 a2 st = some (rv, rst)) : zh_M zx_ss l zy_La_rider (Cond.codeWith zy_La_rider zo_La_rider 5 (some .int) [(0, 10, 13, 31), (0, 10, 17, 13)] :: zwAll) zrm_La_rider E [.ref 0, .int a1, .int a2, .ref 56] st (some (.int rv)) rst :=
  zh_enter hst (by decide) rfl hn (Nat.le_of_ble_eq_true rfl) (by simp [Value.category]) 1 (fun p e s m args below meth c A F Y => zl_La_rider_0 F Y a1 a2 st  h)
set_option maxRecDepth 100000 in
theorem zcal_LG_promise : zw_cal zR0 zy_LG_promise zo_LG_promise 5 (some .int) 1 := ⟨zw_at 619 rfl rfl, zw_at 620 rfl rfl, zw_at 47 rfl rfl, zw_at 621 rfl rfl, rfl, by decide, by decide, by decide +kernel⟩
set_option maxRecDepth 100000 in
theorem zml_La_53 : Cond.methodLink "LiftGroupLaw" 53 zy_LG_promise ∈ zwAll := zw_at 618 rfl rfl
abbrev zrm_La_promise : Room := { frames := 8, cells := 1, slots := 6, locals := 135 }
def zf_La_promise (N : Nat) (a1 : Int32) (st : zS) : Option (Int32 × zS) := ((zf_LG_promise N a1 st).bind fun y4 => (if y4.1 = 0 then some (0, (zp y4.2.2 56 0 y4.2.1)) else (if y4.1 = 4 then some (1, y4.2.2) else none)))
set_option maxHeartbeats 4000000 in
theorem zl_La_promise_0 (F : zw_X p m c zo_La_promise 4 s args "LiftGroupLaw" E 20 A meth (some .int)) (Y : zh_X zx_ss l s A c [(0, 9, 12, 31)]) {N : Nat} {rv : Int32} {rst : zS} (a1 : Int32) (st : zS)  (h : zf_La_promise N a1 st = some (rv, rst)) : zw_G p l e zrm_La_promise s m args below meth c (MQ below (zw_Q E (some (.int rv)) rst A) args s 1 6 A) E A 4 0 0 [some (.ref 0), some (.int a1), some (.ref 56), none] [] st := by
  unfold zf_La_promise at h
  refine zg_aload_n F.1 zd_La_promise_0 rfl rfl ?_
  refine zg_iconst F.1 0 0 (by decide) zd_La_promise_1 ?_
  refine zg_aload_n F.1 zd_La_promise_2 rfl rfl ?_
  refine zg_iload_n F.1 zd_La_promise_3 rfl rfl ?_
  obtain ⟨y4, hc4, h⟩ := Option.bind_eq_some_iff.mp h
  by_cases hz4 : y4.1 = 0
  case neg =>
    rw [if_neg hz4] at h
    by_cases hx0 : y4.1 = 4
    · rw [if_pos hx0] at h
      refine zh_catchN F Y (As := [.int a1]) (rest := [.int 0, .ref 56]) (zx_LG_promise Y.1 (zw_nle (by decide) F.1.2.2) N a1 st (xx := 4) (by decide) (hc4.trans (congrArg some (zw_yx hx0)))) rfl rfl zcal_LG_promise zml_La_53 ⟨(Nat.le_of_ble_eq_true rfl), (Nat.le_of_ble_eq_true rfl)⟩ (zg_rec0 F.1 (by decide) rfl) rfl (Nat.le_of_ble_eq_true rfl) ⟨(Nat.le_of_ble_eq_true rfl), (Nat.le_of_ble_eq_true rfl)⟩ zd_La_promise_4 (hpc := 12) ⟨rfl, by decide, 4, F.1.1.2.2.2.2 _ zhl_31, Or.inl ⟨rfl, rfl, zh_cast Y.2.1 4 (by simp [zx_tab])⟩⟩ zd_La_promise_12 rfl (by decide) (by intro v hv; cases hv) ?_
      refine zg_iconst F.1 1 1 (by decide) zd_La_promise_13 ?_
      cases h
      exact zh_iret F zd_La_promise_14
    · rw [if_neg hx0] at h
      cases h
  rw [if_pos hz4] at h
  refine zg_callV F (As := [.int a1]) (rest := [.int 0, .ref 56]) (zk_LG_promise (zw_nle (by decide) F.1.2.2) N a1 st (hc4.trans (congrArg some (zw_y0 hz4)))) rfl rfl zcal_LG_promise zml_La_53 ⟨(Nat.le_of_ble_eq_true rfl), (Nat.le_of_ble_eq_true rfl)⟩ (zg_rec0 F.1 (by decide) rfl) rfl (Nat.le_of_ble_eq_true rfl) ⟨(Nat.le_of_ble_eq_true rfl), (Nat.le_of_ble_eq_true rfl)⟩ zd_La_promise_4 ?_
  refine zg_i2l F.1 zd_La_promise_7 ?_
  refine zg_last F.1 (by decide) rfl (x := y4.2.1) (by unfold vp_in; decide) (by rfl) 0 (by decide) zd_La_promise_8 ?_
  refine zg_goto F.1 15 zd_La_promise_9 rfl ?_
  refine zg_iconst F.1 0 0 (by decide) zd_La_promise_15 ?_
  cases h
  refine zg_wide (k' := 1) (by decide) ?_
  exact zh_iret F zd_La_promise_16
theorem zh_La_promise {E : zE} (hst : l.stackTraces = false) (hn : zw_n E 20) (N : Nat) (a1 : Int32) (st : zS)  {rv : Int32} {rst : zS} (h : zf_La_promise N a1 st = some (rv, rst)) : zh_M zx_ss l zy_La_promise (Cond.codeWith zy_La_promise zo_La_promise 4 (some .int) [(0, 9, 12, 31)] :: zwAll) zrm_La_promise E [.ref 0, .int a1, .ref 56] st (some (.int rv)) rst :=
  zh_enter hst (by decide) rfl hn (Nat.le_of_ble_eq_true rfl) (by simp [Value.category]) 1 (fun p e s m args below meth c A F Y => zl_La_promise_0 F Y a1 st  h)
set_option maxRecDepth 100000 in
theorem zhl_59 : Cond.classLink "LiftGroupLaw" 59 (zx_n 5) ∈ zwAll := zw_at 625 rfl rfl
set_option maxRecDepth 100000 in
theorem zcal_LG_event : zw_cal zR0 zy_LG_event zo_LG_event 4 (some .int) 2 := ⟨zw_at 627 rfl rfl, zw_at 628 rfl rfl, zw_at 47 rfl rfl, zw_at 629 rfl rfl, rfl, by decide, by decide, by decide +kernel⟩
set_option maxRecDepth 100000 in
theorem zml_La_56 : Cond.methodLink "LiftGroupLaw" 56 zy_LG_event ∈ zwAll := zw_at 626 rfl rfl
abbrev zrm_La_event : Room := { frames := 7, cells := 1, slots := 6, locals := 113 }
def zf_La_event (N : Nat) (a1 : Int32) (a2 : Int32) (st : zS) : Option (Int32 × zS) := ((zf_LG_event N a1 a2 st).bind fun y5 => (if y5.1 = 0 then some (0, (zp y5.2.2 56 0 y5.2.1)) else (if y5.1 = 5 then some (1, y5.2.2) else (if y5.1 = 1 then some (2, y5.2.2) else none))))
set_option maxHeartbeats 4000000 in
theorem zl_La_event_0 (F : zw_X p m c zo_La_event 5 s args "LiftGroupLaw" E 20 A meth (some .int)) (Y : zh_X zx_ss l s A c [(0, 10, 13, 59), (0, 10, 17, 13)]) {N : Nat} {rv : Int32} {rst : zS} (a1 : Int32) (a2 : Int32) (st : zS)  (h : zf_La_event N a1 a2 st = some (rv, rst)) : zw_G p l e zrm_La_event s m args below meth c (MQ below (zw_Q E (some (.int rv)) rst A) args s 1 6 A) E A 5 0 0 [some (.ref 0), some (.int a1), some (.int a2), some (.ref 56), none] [] st := by
  unfold zf_La_event at h
  refine zg_aload_n F.1 zd_La_event_0 rfl rfl ?_
  refine zg_iconst F.1 0 0 (by decide) zd_La_event_1 ?_
  refine zg_aload_n F.1 zd_La_event_2 rfl rfl ?_
  refine zg_iload_n F.1 zd_La_event_3 rfl rfl ?_
  refine zg_iload_n F.1 zd_La_event_4 rfl rfl ?_
  obtain ⟨y5, hc5, h⟩ := Option.bind_eq_some_iff.mp h
  by_cases hz5 : y5.1 = 0
  case neg =>
    rw [if_neg hz5] at h
    by_cases hx0 : y5.1 = 5
    · rw [if_pos hx0] at h
      refine zh_catch F Y (As := [.int a1, .int a2]) (rest := [.int 0, .ref 56]) (zx_LG_event Y.1 (zw_nle (by decide) F.1.2.2) N a1 a2 st (xx := 5) (by decide) (hc5.trans (congrArg some (zw_yx hx0)))) rfl rfl zcal_LG_event zml_La_56 ⟨(Nat.le_of_ble_eq_true rfl), (Nat.le_of_ble_eq_true rfl)⟩ (zg_rec0 F.1 (by decide) rfl) rfl (Nat.le_of_ble_eq_true rfl) ⟨(Nat.le_of_ble_eq_true rfl), (Nat.le_of_ble_eq_true rfl)⟩ zd_La_event_5 (hpc := 13) ⟨rfl, by decide, 5, F.1.1.2.2.2.2 _ zhl_59, Or.inl ⟨rfl, rfl, zh_cast Y.2.1 5 (by simp [zx_tab])⟩⟩ zd_La_event_13 (by decide) (by intro v hv; cases hv) ?_
      refine zg_iconst F.1 1 1 (by decide) zd_La_event_15 ?_
      cases h
      exact zh_iret F zd_La_event_16
    · rw [if_neg hx0] at h
      by_cases hx1 : y5.1 = 1
      · rw [if_pos hx1] at h
        refine zh_catch F Y (As := [.int a1, .int a2]) (rest := [.int 0, .ref 56]) (zx_LG_event Y.1 (zw_nle (by decide) F.1.2.2) N a1 a2 st (xx := 1) (by decide) (hc5.trans (congrArg some (zw_yx hx1)))) rfl rfl zcal_LG_event zml_La_56 ⟨(Nat.le_of_ble_eq_true rfl), (Nat.le_of_ble_eq_true rfl)⟩ (zg_rec0 F.1 (by decide) rfl) rfl (Nat.le_of_ble_eq_true rfl) ⟨(Nat.le_of_ble_eq_true rfl), (Nat.le_of_ble_eq_true rfl)⟩ zd_La_event_5 (hpc := 17) ⟨rfl, by decide, 5, F.1.1.2.2.2.2 _ zhl_59, Or.inr ⟨Y.2.2.2.2.1.2.2.2.2, ⟨rfl, by decide, 1, F.1.1.2.2.2.2 _ zhl_13, Or.inl ⟨rfl, rfl, zh_cast Y.2.1 1 (by simp [zx_tab])⟩⟩⟩⟩ zd_La_event_17 (by decide) (by intro v hv; cases hv) ?_
        refine zg_iconst F.1 2 2 (by decide) zd_La_event_19 ?_
        cases h
        exact zh_iret F zd_La_event_20
      · rw [if_neg hx1] at h
        cases h
  rw [if_pos hz5] at h
  refine zg_callV F (As := [.int a1, .int a2]) (rest := [.int 0, .ref 56]) (zk_LG_event (zw_nle (by decide) F.1.2.2) N a1 a2 st (hc5.trans (congrArg some (zw_y0 hz5)))) rfl rfl zcal_LG_event zml_La_56 ⟨(Nat.le_of_ble_eq_true rfl), (Nat.le_of_ble_eq_true rfl)⟩ (zg_rec0 F.1 (by decide) rfl) rfl (Nat.le_of_ble_eq_true rfl) ⟨(Nat.le_of_ble_eq_true rfl), (Nat.le_of_ble_eq_true rfl)⟩ zd_La_event_5 ?_
  refine zg_i2l F.1 zd_La_event_8 ?_
  refine zg_last F.1 (by decide) rfl (x := y5.2.1) (by unfold vp_in; decide) (by rfl) 0 (by decide) zd_La_event_9 ?_
  refine zg_goto F.1 21 zd_La_event_10 rfl ?_
  refine zg_iconst F.1 0 0 (by decide) zd_La_event_21 ?_
  cases h
  refine zg_wide (k' := 1) (by decide) ?_
  exact zh_iret F zd_La_event_22
theorem zh_La_event {E : zE} (hst : l.stackTraces = false) (hn : zw_n E 20) (N : Nat) (a1 : Int32) (a2 : Int32) (st : zS)  {rv : Int32} {rst : zS} (h : zf_La_event N a1 a2 st = some (rv, rst)) : zh_M zx_ss l zy_La_event (Cond.codeWith zy_La_event zo_La_event 5 (some .int) [(0, 10, 13, 59), (0, 10, 17, 13)] :: zwAll) zrm_La_event E [.ref 0, .int a1, .int a2, .ref 56] st (some (.int rv)) rst :=
  zh_enter hst (by decide) rfl hn (Nat.le_of_ble_eq_true rfl) (by simp [Value.category]) 1 (fun p e s m args below meth c A F Y => zl_La_event_0 F Y a1 a2 st  h)
end ZC12
