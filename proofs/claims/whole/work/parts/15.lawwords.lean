def R_law : String := "LiftGroupLaw"
def lw_P (b : Addr) (xs : List Int32) (args : Array Value) (s : State) : Prop := args = #[.ref b] ∧ s.IntsAt b xs ∧ xs.length ≤ 2048 ∧ (Jvm.Cond.and given_1 narrow_1).before args s = true
def lw_Q (_ : Array Value) (s : State) (o : Outcome) (t : State) : Prop := o = .returned (some (.int 1)) ∧ Framed s o t [] 635238 7190391
def lw_Z (below : List Frame) (a : Array Value) (s : State) : State → Prop := fun t => ∃ o, t.status = .running ∧ Ended t below o ∧ lw_Q a s o t
theorem lw_ret {p : Program} {l : Launch} {e : Env} {s : State} {m : MethodId} {below : List Frame} {meth : Method} {c : Code} {b : Nat} (hx : p.tables.exec = Jvm.exec) (hb : c.code = code) (hr : meth.sig.returnType = ret) (hlocks : meth.locks = false) {pc : Nat} {H : Heap} {ls : Array Slot} (hdg : decode code pc = .ok (.ireturn, 1)) : W p l e room_1 s m #[Value.ref b] below meth c H [] 635238 7190391 (lw_Z below #[Value.ref b] s) (F0 m pc ls [.int 1]) := by
  intro T hT X
  obtain ⟨fs, hret, hrun, hended, hW, hframe⟩ := X.leave (v := some (.int 1)) (hlocks := hlocks) (fun h => by rw [hr] at h; cases h)
  have hmeth' : T.vm.method? m = some meth := X.method'
  refine ⟨T.setFrames fs, ?_, .returned (some (.int 1)), hrun, hended, rfl, ⟨_, rfl⟩, hW, hframe⟩
  jvm_step X.here [X.here.top, hx, hb, hdg, hmeth', hr, ret, narrow_b1]
  (try refine ⟨rfl, ?_⟩); (try refine ⟨rfl, ?_⟩)
  first | (intro acts; rw [hret _ acts rfl rfl rfl]) | rw [hret _ _ rfl rfl rfl]
  exact Steps.refl _
def lw_At (p : Program) (s : State) (m : MethodId) (meth : Method) (c : Code) (b L : Nat) (xs : Nat → Int32) : Prop :=
  p.tables.exec = Jvm.exec ∧ c.code = code ∧ meth.sig.returnType = ret ∧ c.maxLocals = 7 ∧ s.vm.findClass R_law = some m.cls ∧ (∀ w ∈ lw_tbl, w.before #[Value.ref b] s = true) ∧ va_X b L xs s s.heap ∧ b < s.heap.size ∧ meth.locks = false ∧ (Jvm.Cond.and given_1 narrow_1).before #[Value.ref b] s = true
theorem zl_ret1 {p : Program} {l : Launch} {e : Env} {s : State} {m : MethodId} {below : List Frame} {meth : Method} {c : Code} {b nL kM k pc : Nat} {E : zE} {L : List (Option Value)} {st : zS} (F : zw_X p m c code nL s #[Value.ref b] "LiftGroupLaw" E kM (fun q => s.heap.size ≤ q) meth (some .boolean)) (hk : k ≤ 700) (hd : decode code pc = .ok (.ireturn, 1)) : zw_G p l e room_1 s m #[Value.ref b] below meth c (lw_Z below #[Value.ref b] s) E (fun q => s.heap.size ≤ q) nL k pc L [.int 1] st := fun H locs ls hJ hL =>
  va_forget (fun q hq => hJ.2.2.2.2 q hq) (W.widen (show k ≤ 635238 by omega) (show 6 * k ≤ 7190391 by omega) (lw_ret F.1.1.1 F.1.1.2.1 F.2.2.1 F.2.2.2 hd))
set_option maxRecDepth 100000 in
theorem zcal_La_building : zw_calW zy_La_building zo_La_building 5 (some .int) [(0, 7, 10, 13)] 4 := ⟨zw_at 367 rfl rfl, zw_at 46 rfl rfl, zw_at 368 rfl rfl, by decide, by decide, by decide +kernel⟩
set_option maxRecDepth 100000 in
theorem zml_La_65 : Cond.methodLink "LiftGroupLaw" 65 zy_La_building ∈ zwAll := zw_at 366 rfl rfl
set_option maxRecDepth 100000 in
theorem zcal_Mo_building : zw_cal zR10 zy_Mo_building zo_Mo_building 5 none 3 := ⟨zw_at 741 rfl rfl, zw_at 742 rfl rfl, zw_at 52 rfl rfl, zw_at 743 rfl rfl, rfl, by decide, by decide, by decide +kernel⟩
set_option maxRecDepth 100000 in
theorem zml_La_70 : Cond.methodLink "LiftGroupLaw" 70 zy_Mo_building ∈ zwAll := zw_at 740 rfl rfl
set_option maxRecDepth 100000 in
theorem zcal_Mo_thrown : zw_cal zR10 zy_Mo_thrown zo_Mo_thrown 1 (some .int) 0 := ⟨zw_at 737 rfl rfl, zw_at 738 rfl rfl, zw_at 52 rfl rfl, zw_at 739 rfl rfl, rfl, by decide, by decide, by decide +kernel⟩
set_option maxRecDepth 100000 in
theorem zml_La_71 : Cond.methodLink "LiftGroupLaw" 71 zy_Mo_thrown ∈ zwAll := zw_at 736 rfl rfl
set_option maxRecDepth 100000 in
theorem zcal_La_call : zw_calW zy_La_call zo_La_call 5 (some .int) [(0, 10, 13, 13), (0, 10, 17, 19), (0, 10, 21, 21)] 4 := ⟨zw_at 447 rfl rfl, zw_at 46 rfl rfl, zw_at 448 rfl rfl, by decide, by decide, by decide +kernel⟩
set_option maxRecDepth 100000 in
theorem zml_La_75 : Cond.methodLink "LiftGroupLaw" 75 zy_La_call ∈ zwAll := zw_at 446 rfl rfl
set_option maxRecDepth 100000 in
theorem zcal_Mo_call : zw_cal zR10 zy_Mo_call zo_Mo_call 6 (some .int) 2 := ⟨zw_at 752 rfl rfl, zw_at 753 rfl rfl, zw_at 52 rfl rfl, zw_at 754 rfl rfl, rfl, by decide, by decide, by decide +kernel⟩
set_option maxRecDepth 100000 in
theorem zml_La_78 : Cond.methodLink "LiftGroupLaw" 78 zy_Mo_call ∈ zwAll := zw_at 751 rfl rfl
set_option maxRecDepth 100000 in
theorem zcal_La_step : zw_calW zy_La_step zo_La_step 3 (some .int) [(0, 5, 8, 13)] 2 := ⟨zw_at 505 rfl rfl, zw_at 46 rfl rfl, zw_at 506 rfl rfl, by decide, by decide, by decide +kernel⟩
set_option maxRecDepth 100000 in
theorem zml_La_79 : Cond.methodLink "LiftGroupLaw" 79 zy_La_step ∈ zwAll := zw_at 504 rfl rfl
set_option maxRecDepth 100000 in
theorem zcal_Mo_step : zw_cal zR10 zy_Mo_step zo_Mo_step 4 none 1 := ⟨zw_at 824 rfl rfl, zw_at 825 rfl rfl, zw_at 52 rfl rfl, zw_at 826 rfl rfl, rfl, by decide, by decide, by decide +kernel⟩
set_option maxRecDepth 100000 in
theorem zml_La_82 : Cond.methodLink "LiftGroupLaw" 82 zy_Mo_step ∈ zwAll := zw_at 823 rfl rfl
set_option maxRecDepth 100000 in
theorem zcal_La_curtain : zw_calW zy_La_curtain zo_La_curtain 4 (some .int) [(0, 6, 9, 31)] 3 := ⟨zw_at 528 rfl rfl, zw_at 46 rfl rfl, zw_at 529 rfl rfl, by decide, by decide, by decide +kernel⟩
set_option maxRecDepth 100000 in
theorem zml_La_83 : Cond.methodLink "LiftGroupLaw" 83 zy_La_curtain ∈ zwAll := zw_at 527 rfl rfl
set_option maxRecDepth 100000 in
theorem zcal_Mo_curtain : zw_cal zR10 zy_Mo_curtain zo_Mo_curtain 3 none 2 := ⟨zw_at 828 rfl rfl, zw_at 829 rfl rfl, zw_at 52 rfl rfl, zw_at 830 rfl rfl, rfl, by decide, by decide, by decide +kernel⟩
set_option maxRecDepth 100000 in
theorem zml_La_86 : Cond.methodLink "LiftGroupLaw" 86 zy_Mo_curtain ∈ zwAll := zw_at 827 rfl rfl
set_option maxRecDepth 100000 in
theorem zcal_La_lock : zw_calW zy_La_lock zo_La_lock 4 (some .int) [(0, 6, 9, 31)] 3 := ⟨zw_at 556 rfl rfl, zw_at 46 rfl rfl, zw_at 557 rfl rfl, by decide, by decide, by decide +kernel⟩
set_option maxRecDepth 100000 in
theorem zml_La_87 : Cond.methodLink "LiftGroupLaw" 87 zy_La_lock ∈ zwAll := zw_at 555 rfl rfl
set_option maxRecDepth 100000 in
theorem zcal_Mo_lock : zw_cal zR10 zy_Mo_lock zo_Mo_lock 4 none 2 := ⟨zw_at 836 rfl rfl, zw_at 837 rfl rfl, zw_at 52 rfl rfl, zw_at 838 rfl rfl, rfl, by decide, by decide, by decide +kernel⟩
set_option maxRecDepth 100000 in
theorem zml_La_89 : Cond.methodLink "LiftGroupLaw" 89 zy_Mo_lock ∈ zwAll := zw_at 835 rfl rfl
set_option maxRecDepth 100000 in
theorem zcal_La_fail : zw_calW zy_La_fail zo_La_fail 4 (some .int) [(0, 6, 9, 31)] 3 := ⟨zw_at 567 rfl rfl, zw_at 46 rfl rfl, zw_at 568 rfl rfl, by decide, by decide, by decide +kernel⟩
set_option maxRecDepth 100000 in
theorem zml_La_90 : Cond.methodLink "LiftGroupLaw" 90 zy_La_fail ∈ zwAll := zw_at 566 rfl rfl
set_option maxRecDepth 100000 in
theorem zcal_Mo_fail : zw_cal zR10 zy_Mo_fail zo_Mo_fail 4 none 2 := ⟨zw_at 848 rfl rfl, zw_at 849 rfl rfl, zw_at 52 rfl rfl, zw_at 850 rfl rfl, rfl, by decide, by decide, by decide +kernel⟩
set_option maxRecDepth 100000 in
theorem zml_La_92 : Cond.methodLink "LiftGroupLaw" 92 zy_Mo_fail ∈ zwAll := zw_at 847 rfl rfl
set_option maxRecDepth 100000 in
theorem zcal_LG_recall : zw_cal zR0 zy_LG_recall zo_LG_recall 2 none 1 := ⟨zw_at 273 rfl rfl, zw_at 274 rfl rfl, zw_at 47 rfl rfl, zw_at 275 rfl rfl, rfl, by decide, by decide, by decide +kernel⟩
set_option maxRecDepth 100000 in
theorem zml_La_93 : Cond.methodLink "LiftGroupLaw" 93 zy_LG_recall ∈ zwAll := zw_at 272 rfl rfl
set_option maxRecDepth 100000 in
theorem zcal_Mo_recall : zw_cal zR10 zy_Mo_recall zo_Mo_recall 3 none 1 := ⟨zw_at 852 rfl rfl, zw_at 853 rfl rfl, zw_at 52 rfl rfl, zw_at 854 rfl rfl, rfl, by decide, by decide, by decide +kernel⟩
set_option maxRecDepth 100000 in
theorem zml_La_97 : Cond.methodLink "LiftGroupLaw" 97 zy_Mo_recall ∈ zwAll := zw_at 851 rfl rfl
set_option maxRecDepth 100000 in
theorem zcal_La_car : zw_calW zy_La_car zo_La_car 5 (some .int) [(0, 10, 13, 31), (0, 10, 17, 13)] 4 := ⟨zw_at 574 rfl rfl, zw_at 46 rfl rfl, zw_at 575 rfl rfl, by decide, by decide, by decide +kernel⟩
set_option maxRecDepth 100000 in
theorem zml_La_98 : Cond.methodLink "LiftGroupLaw" 98 zy_La_car ∈ zwAll := zw_at 573 rfl rfl
set_option maxRecDepth 100000 in
theorem zcal_Mo_car : zw_cal zR10 zy_Mo_car zo_Mo_car 3 (some .int) 2 := ⟨zw_at 856 rfl rfl, zw_at 857 rfl rfl, zw_at 52 rfl rfl, zw_at 858 rfl rfl, rfl, by decide, by decide, by decide +kernel⟩
set_option maxRecDepth 100000 in
theorem zml_La_100 : Cond.methodLink "LiftGroupLaw" 100 zy_Mo_car ∈ zwAll := zw_at 855 rfl rfl
set_option maxRecDepth 100000 in
theorem zcal_La_stop : zw_calW zy_La_stop zo_La_stop 5 (some .int) [(0, 17, 20, 31), (0, 17, 24, 13)] 4 := ⟨zw_at 583 rfl rfl, zw_at 46 rfl rfl, zw_at 584 rfl rfl, by decide, by decide, by decide +kernel⟩
set_option maxRecDepth 100000 in
theorem zml_La_101 : Cond.methodLink "LiftGroupLaw" 101 zy_La_stop ∈ zwAll := zw_at 582 rfl rfl
set_option maxRecDepth 100000 in
theorem zcal_Mo_stop : zw_cal zR10 zy_Mo_stop zo_Mo_stop 3 (some .boolean) 2 := ⟨zw_at 860 rfl rfl, zw_at 861 rfl rfl, zw_at 52 rfl rfl, zw_at 862 rfl rfl, rfl, by decide, by decide, by decide +kernel⟩
set_option maxRecDepth 100000 in
theorem zml_La_103 : Cond.methodLink "LiftGroupLaw" 103 zy_Mo_stop ∈ zwAll := zw_at 859 rfl rfl
set_option maxRecDepth 100000 in
theorem zcal_La_worst : zw_calW zy_La_worst zo_La_worst 4 (some .int) [(0, 9, 12, 31)] 3 := ⟨zw_at 592 rfl rfl, zw_at 46 rfl rfl, zw_at 593 rfl rfl, by decide, by decide, by decide +kernel⟩
set_option maxRecDepth 100000 in
theorem zml_La_104 : Cond.methodLink "LiftGroupLaw" 104 zy_La_worst ∈ zwAll := zw_at 591 rfl rfl
set_option maxRecDepth 100000 in
theorem zcal_Mo_worst : zw_cal zR10 zy_Mo_worst zo_Mo_worst 2 (some .int) 1 := ⟨zw_at 864 rfl rfl, zw_at 865 rfl rfl, zw_at 52 rfl rfl, zw_at 866 rfl rfl, rfl, by decide, by decide, by decide +kernel⟩
set_option maxRecDepth 100000 in
theorem zml_La_107 : Cond.methodLink "LiftGroupLaw" 107 zy_Mo_worst ∈ zwAll := zw_at 863 rfl rfl
set_option maxRecDepth 100000 in
theorem zcal_La_rider : zw_calW zy_La_rider zo_La_rider 5 (some .int) [(0, 10, 13, 31), (0, 10, 17, 13)] 4 := ⟨zw_at 599 rfl rfl, zw_at 46 rfl rfl, zw_at 600 rfl rfl, by decide, by decide, by decide +kernel⟩
set_option maxRecDepth 100000 in
theorem zml_La_108 : Cond.methodLink "LiftGroupLaw" 108 zy_La_rider ∈ zwAll := zw_at 598 rfl rfl
set_option maxRecDepth 100000 in
theorem zcal_Mo_rider : zw_cal zR10 zy_Mo_rider zo_Mo_rider 3 (some .int) 2 := ⟨zw_at 868 rfl rfl, zw_at 869 rfl rfl, zw_at 52 rfl rfl, zw_at 870 rfl rfl, rfl, by decide, by decide, by decide +kernel⟩
set_option maxRecDepth 100000 in
theorem zml_La_110 : Cond.methodLink "LiftGroupLaw" 110 zy_Mo_rider ∈ zwAll := zw_at 867 rfl rfl
set_option maxRecDepth 100000 in
theorem zcal_La_promise : zw_calW zy_La_promise zo_La_promise 4 (some .int) [(0, 9, 12, 31)] 3 := ⟨zw_at 616 rfl rfl, zw_at 46 rfl rfl, zw_at 617 rfl rfl, by decide, by decide, by decide +kernel⟩
set_option maxRecDepth 100000 in
theorem zml_La_111 : Cond.methodLink "LiftGroupLaw" 111 zy_La_promise ∈ zwAll := zw_at 615 rfl rfl
set_option maxRecDepth 100000 in
theorem zcal_Mo_promise : zw_cal zR10 zy_Mo_promise zo_Mo_promise 2 (some .int) 1 := ⟨zw_at 872 rfl rfl, zw_at 873 rfl rfl, zw_at 52 rfl rfl, zw_at 874 rfl rfl, rfl, by decide, by decide, by decide +kernel⟩
set_option maxRecDepth 100000 in
theorem zml_La_113 : Cond.methodLink "LiftGroupLaw" 113 zy_Mo_promise ∈ zwAll := zw_at 871 rfl rfl
set_option maxRecDepth 100000 in
theorem zcal_La_event : zw_calW zy_La_event zo_La_event 5 (some .int) [(0, 10, 13, 59), (0, 10, 17, 13)] 4 := ⟨zw_at 623 rfl rfl, zw_at 46 rfl rfl, zw_at 624 rfl rfl, by decide, by decide, by decide +kernel⟩
set_option maxRecDepth 100000 in
theorem zml_La_114 : Cond.methodLink "LiftGroupLaw" 114 zy_La_event ∈ zwAll := zw_at 622 rfl rfl
set_option maxRecDepth 100000 in
theorem zcal_Mo_event : zw_cal zR10 zy_Mo_event zo_Mo_event 4 (some .int) 2 := ⟨zw_at 876 rfl rfl, zw_at 877 rfl rfl, zw_at 52 rfl rfl, zw_at 878 rfl rfl, rfl, by decide, by decide, by decide +kernel⟩
set_option maxRecDepth 100000 in
theorem zml_La_116 : Cond.methodLink "LiftGroupLaw" 116 zy_Mo_event ∈ zwAll := zw_at 875 rfl rfl
set_option maxRecDepth 100000 in
theorem zcal_LG_about : zw_cal zR0 zy_LG_about zo_LG_about 2 (some .int) 1 := ⟨zw_at 363 rfl rfl, zw_at 364 rfl rfl, zw_at 47 rfl rfl, zw_at 365 rfl rfl, rfl, by decide, by decide, by decide +kernel⟩
set_option maxRecDepth 100000 in
theorem zml_La_117 : Cond.methodLink "LiftGroupLaw" 117 zy_LG_about ∈ zwAll := zw_at 362 rfl rfl
set_option maxRecDepth 100000 in
theorem zcal_Mo_about : zw_cal zR10 zy_Mo_about zo_Mo_about 6 (some .int) 1 := ⟨zw_at 880 rfl rfl, zw_at 881 rfl rfl, zw_at 52 rfl rfl, zw_at 882 rfl rfl, rfl, by decide, by decide, by decide +kernel⟩
set_option maxRecDepth 100000 in
theorem zml_La_120 : Cond.methodLink "LiftGroupLaw" 120 zy_Mo_about ∈ zwAll := zw_at 879 rfl rfl
