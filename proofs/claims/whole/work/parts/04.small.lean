abbrev zo_Ho_startAnew : ByteArray := prog_3_method_2_code
abbrev zy_Ho_startAnew : MethodName := ⟨"LiftGroup$House", "startAnew", "(II)V"⟩
theorem zd_Ho_startAnew_0 : decode zo_Ho_startAnew 0 = .ok (.aload_n 0, 1) := by decide +kernel
theorem zd_Ho_startAnew_1 : decode zo_Ho_startAnew 1 = .ok (.iload_n 1, 1) := by decide +kernel
theorem zd_Ho_startAnew_2 : decode zo_Ho_startAnew 2 = .ok (.putfield 18, 3) := by decide +kernel
theorem zd_Ho_startAnew_5 : decode zo_Ho_startAnew 5 = .ok (.aload_n 0, 1) := by decide +kernel
theorem zd_Ho_startAnew_6 : decode zo_Ho_startAnew 6 = .ok (.iload_n 2, 1) := by decide +kernel
theorem zd_Ho_startAnew_7 : decode zo_Ho_startAnew 7 = .ok (.putfield 22, 3) := by decide +kernel
theorem zd_Ho_startAnew_10 : decode zo_Ho_startAnew 10 = .ok (.aload_n 0, 1) := by decide +kernel
theorem zd_Ho_startAnew_11 : decode zo_Ho_startAnew 11 = .ok (.iconst 0, 1) := by decide +kernel
theorem zd_Ho_startAnew_12 : decode zo_Ho_startAnew 12 = .ok (.putfield 25, 3) := by decide +kernel
theorem zd_Ho_startAnew_15 : decode zo_Ho_startAnew 15 = .ok (.iconst 0, 1) := by decide +kernel
theorem zd_Ho_startAnew_16 : decode zo_Ho_startAnew 16 = .ok (.istore_n 3, 1) := by decide +kernel
theorem zd_Ho_startAnew_17 : decode zo_Ho_startAnew 17 = .ok (.iload_n 3, 1) := by decide +kernel
theorem zd_Ho_startAnew_18 : decode zo_Ho_startAnew 18 = .ok (.bipush 10, 2) := by decide +kernel
theorem zd_Ho_startAnew_20 : decode zo_Ho_startAnew 20 = .ok (.if_icmp .ge 23, 3) := by decide +kernel
theorem zd_Ho_startAnew_23 : decode zo_Ho_startAnew 23 = .ok (.aload_n 0, 1) := by decide +kernel
theorem zd_Ho_startAnew_24 : decode zo_Ho_startAnew 24 = .ok (.getfield 9, 3) := by decide +kernel
theorem zd_Ho_startAnew_27 : decode zo_Ho_startAnew 27 = .ok (.iload_n 3, 1) := by decide +kernel
theorem zd_Ho_startAnew_28 : decode zo_Ho_startAnew 28 = .ok (.iconst 0, 1) := by decide +kernel
theorem zd_Ho_startAnew_29 : decode zo_Ho_startAnew 29 = .ok (.iastore, 1) := by decide +kernel
theorem zd_Ho_startAnew_30 : decode zo_Ho_startAnew 30 = .ok (.aload_n 0, 1) := by decide +kernel
theorem zd_Ho_startAnew_31 : decode zo_Ho_startAnew 31 = .ok (.getfield 15, 3) := by decide +kernel
theorem zd_Ho_startAnew_34 : decode zo_Ho_startAnew 34 = .ok (.iload_n 3, 1) := by decide +kernel
theorem zd_Ho_startAnew_35 : decode zo_Ho_startAnew 35 = .ok (.iconst 0, 1) := by decide +kernel
theorem zd_Ho_startAnew_36 : decode zo_Ho_startAnew 36 = .ok (.iastore, 1) := by decide +kernel
theorem zd_Ho_startAnew_37 : decode zo_Ho_startAnew 37 = .ok (.iinc 3 1, 3) := by decide +kernel
theorem zd_Ho_startAnew_40 : decode zo_Ho_startAnew 40 = .ok (.goto (-23), 3) := by decide +kernel
theorem zd_Ho_startAnew_43 : decode zo_Ho_startAnew 43 = .ok (.return_, 1) := by decide +kernel
abbrev zo_Ho_addRider : ByteArray := prog_3_method_3_code
abbrev zy_Ho_addRider : MethodName := ⟨"LiftGroup$House", "addRider", "(III)V"⟩
theorem zd_Ho_addRider_0 : decode zo_Ho_addRider 0 = .ok (.aload_n 0, 1) := by decide +kernel
theorem zd_Ho_addRider_1 : decode zo_Ho_addRider 1 = .ok (.getfield 9, 3) := by decide +kernel
theorem zd_Ho_addRider_4 : decode zo_Ho_addRider 4 = .ok (.iload_n 2, 1) := by decide +kernel
theorem zd_Ho_addRider_5 : decode zo_Ho_addRider 5 = .ok (.dup2, 1) := by decide +kernel
theorem zd_Ho_addRider_6 : decode zo_Ho_addRider 6 = .ok (.iaload, 1) := by decide +kernel
theorem zd_Ho_addRider_7 : decode zo_Ho_addRider 7 = .ok (.iload_n 1, 1) := by decide +kernel
theorem zd_Ho_addRider_8 : decode zo_Ho_addRider 8 = .ok (.ior, 1) := by decide +kernel
theorem zd_Ho_addRider_9 : decode zo_Ho_addRider 9 = .ok (.iastore, 1) := by decide +kernel
theorem zd_Ho_addRider_10 : decode zo_Ho_addRider 10 = .ok (.aload_n 0, 1) := by decide +kernel
theorem zd_Ho_addRider_11 : decode zo_Ho_addRider 11 = .ok (.getfield 15, 3) := by decide +kernel
theorem zd_Ho_addRider_14 : decode zo_Ho_addRider 14 = .ok (.iload_n 3, 1) := by decide +kernel
theorem zd_Ho_addRider_15 : decode zo_Ho_addRider 15 = .ok (.dup2, 1) := by decide +kernel
theorem zd_Ho_addRider_16 : decode zo_Ho_addRider 16 = .ok (.iaload, 1) := by decide +kernel
theorem zd_Ho_addRider_17 : decode zo_Ho_addRider 17 = .ok (.iload_n 1, 1) := by decide +kernel
theorem zd_Ho_addRider_18 : decode zo_Ho_addRider 18 = .ok (.ior, 1) := by decide +kernel
theorem zd_Ho_addRider_19 : decode zo_Ho_addRider 19 = .ok (.iastore, 1) := by decide +kernel
theorem zd_Ho_addRider_20 : decode zo_Ho_addRider 20 = .ok (.return_, 1) := by decide +kernel
abbrev zo_Ri_begin : ByteArray := prog_5_method_2_code
abbrev zy_Ri_begin : MethodName := ⟨"LiftGroup$Rider", "begin", "(III)V"⟩
theorem zd_Ri_begin_0 : decode zo_Ri_begin 0 = .ok (.aload_n 0, 1) := by decide +kernel
theorem zd_Ri_begin_1 : decode zo_Ri_begin 1 = .ok (.iload_n 1, 1) := by decide +kernel
theorem zd_Ri_begin_2 : decode zo_Ri_begin 2 = .ok (.putfield 9, 3) := by decide +kernel
theorem zd_Ri_begin_5 : decode zo_Ri_begin 5 = .ok (.aload_n 0, 1) := by decide +kernel
theorem zd_Ri_begin_6 : decode zo_Ri_begin 6 = .ok (.iload_n 2, 1) := by decide +kernel
theorem zd_Ri_begin_7 : decode zo_Ri_begin 7 = .ok (.putfield 15, 3) := by decide +kernel
theorem zd_Ri_begin_10 : decode zo_Ri_begin 10 = .ok (.aload_n 0, 1) := by decide +kernel
theorem zd_Ri_begin_11 : decode zo_Ri_begin 11 = .ok (.iconst 0, 1) := by decide +kernel
theorem zd_Ri_begin_12 : decode zo_Ri_begin 12 = .ok (.putfield 18, 3) := by decide +kernel
theorem zd_Ri_begin_15 : decode zo_Ri_begin 15 = .ok (.aload_n 0, 1) := by decide +kernel
theorem zd_Ri_begin_16 : decode zo_Ri_begin 16 = .ok (.iconst (-1), 1) := by decide +kernel
theorem zd_Ri_begin_17 : decode zo_Ri_begin 17 = .ok (.putfield 21, 3) := by decide +kernel
theorem zd_Ri_begin_20 : decode zo_Ri_begin 20 = .ok (.aload_n 0, 1) := by decide +kernel
theorem zd_Ri_begin_21 : decode zo_Ri_begin 21 = .ok (.iload_n 3, 1) := by decide +kernel
theorem zd_Ri_begin_22 : decode zo_Ri_begin 22 = .ok (.putfield 24, 3) := by decide +kernel
theorem zd_Ri_begin_25 : decode zo_Ri_begin 25 = .ok (.aload_n 0, 1) := by decide +kernel
theorem zd_Ri_begin_26 : decode zo_Ri_begin 26 = .ok (.iconst 0, 1) := by decide +kernel
theorem zd_Ri_begin_27 : decode zo_Ri_begin 27 = .ok (.putfield 27, 3) := by decide +kernel
theorem zd_Ri_begin_30 : decode zo_Ri_begin 30 = .ok (.return_, 1) := by decide +kernel
abbrev zo_Ri_ended : ByteArray := prog_5_method_3_code
abbrev zy_Ri_ended : MethodName := ⟨"LiftGroup$Rider", "ended", "()Z"⟩
theorem zd_Ri_ended_0 : decode zo_Ri_ended 0 = .ok (.aload_n 0, 1) := by decide +kernel
theorem zd_Ri_ended_1 : decode zo_Ri_ended 1 = .ok (.getfield 18, 3) := by decide +kernel
theorem zd_Ri_ended_4 : decode zo_Ri_ended 4 = .ok (.iconst 2, 1) := by decide +kernel
theorem zd_Ri_ended_5 : decode zo_Ri_ended 5 = .ok (.if_icmp .eq 11, 3) := by decide +kernel
theorem zd_Ri_ended_8 : decode zo_Ri_ended 8 = .ok (.aload_n 0, 1) := by decide +kernel
theorem zd_Ri_ended_9 : decode zo_Ri_ended 9 = .ok (.getfield 18, 3) := by decide +kernel
theorem zd_Ri_ended_12 : decode zo_Ri_ended 12 = .ok (.iconst 3, 1) := by decide +kernel
theorem zd_Ri_ended_13 : decode zo_Ri_ended 13 = .ok (.if_icmp .ne 7, 3) := by decide +kernel
theorem zd_Ri_ended_16 : decode zo_Ri_ended 16 = .ok (.iconst 1, 1) := by decide +kernel
theorem zd_Ri_ended_17 : decode zo_Ri_ended 17 = .ok (.goto 4, 3) := by decide +kernel
theorem zd_Ri_ended_20 : decode zo_Ri_ended 20 = .ok (.iconst 0, 1) := by decide +kernel
theorem zd_Ri_ended_21 : decode zo_Ri_ended 21 = .ok (.ireturn, 1) := by decide +kernel
abbrev zo_Lo_note : ByteArray := prog_4_method_2_code
abbrev zy_Lo_note : MethodName := ⟨"LiftGroup$Log", "note", "(IIII)V"⟩
theorem zd_Lo_note_0 : decode zo_Lo_note 0 = .ok (.aload_n 0, 1) := by decide +kernel
theorem zd_Lo_note_1 : decode zo_Lo_note 1 = .ok (.getfield 22, 3) := by decide +kernel
theorem zd_Lo_note_4 : decode zo_Lo_note 4 = .ok (.bipush 30, 2) := by decide +kernel
theorem zd_Lo_note_6 : decode zo_Lo_note 6 = .ok (.irem, 1) := by decide +kernel
theorem zd_Lo_note_7 : decode zo_Lo_note 7 = .ok (.istore 5, 2) := by decide +kernel
theorem zd_Lo_note_9 : decode zo_Lo_note 9 = .ok (.aload_n 0, 1) := by decide +kernel
theorem zd_Lo_note_10 : decode zo_Lo_note 10 = .ok (.getfield 9, 3) := by decide +kernel
theorem zd_Lo_note_13 : decode zo_Lo_note 13 = .ok (.iload 5, 2) := by decide +kernel
theorem zd_Lo_note_15 : decode zo_Lo_note 15 = .ok (.iload_n 1, 1) := by decide +kernel
theorem zd_Lo_note_16 : decode zo_Lo_note 16 = .ok (.iastore, 1) := by decide +kernel
theorem zd_Lo_note_17 : decode zo_Lo_note 17 = .ok (.aload_n 0, 1) := by decide +kernel
theorem zd_Lo_note_18 : decode zo_Lo_note 18 = .ok (.getfield 13, 3) := by decide +kernel
theorem zd_Lo_note_21 : decode zo_Lo_note 21 = .ok (.iload 5, 2) := by decide +kernel
theorem zd_Lo_note_23 : decode zo_Lo_note 23 = .ok (.iload_n 2, 1) := by decide +kernel
theorem zd_Lo_note_24 : decode zo_Lo_note 24 = .ok (.iastore, 1) := by decide +kernel
theorem zd_Lo_note_25 : decode zo_Lo_note 25 = .ok (.aload_n 0, 1) := by decide +kernel
theorem zd_Lo_note_26 : decode zo_Lo_note 26 = .ok (.getfield 16, 3) := by decide +kernel
theorem zd_Lo_note_29 : decode zo_Lo_note 29 = .ok (.iload 5, 2) := by decide +kernel
theorem zd_Lo_note_31 : decode zo_Lo_note 31 = .ok (.iload_n 3, 1) := by decide +kernel
theorem zd_Lo_note_32 : decode zo_Lo_note 32 = .ok (.iastore, 1) := by decide +kernel
theorem zd_Lo_note_33 : decode zo_Lo_note 33 = .ok (.aload_n 0, 1) := by decide +kernel
theorem zd_Lo_note_34 : decode zo_Lo_note 34 = .ok (.getfield 19, 3) := by decide +kernel
theorem zd_Lo_note_37 : decode zo_Lo_note 37 = .ok (.iload 5, 2) := by decide +kernel
theorem zd_Lo_note_39 : decode zo_Lo_note 39 = .ok (.iload 4, 2) := by decide +kernel
theorem zd_Lo_note_41 : decode zo_Lo_note 41 = .ok (.iastore, 1) := by decide +kernel
theorem zd_Lo_note_42 : decode zo_Lo_note 42 = .ok (.aload_n 0, 1) := by decide +kernel
theorem zd_Lo_note_43 : decode zo_Lo_note 43 = .ok (.dup, 1) := by decide +kernel
theorem zd_Lo_note_44 : decode zo_Lo_note 44 = .ok (.getfield 22, 3) := by decide +kernel
theorem zd_Lo_note_47 : decode zo_Lo_note 47 = .ok (.iconst 1, 1) := by decide +kernel
theorem zd_Lo_note_48 : decode zo_Lo_note 48 = .ok (.iadd, 1) := by decide +kernel
theorem zd_Lo_note_49 : decode zo_Lo_note 49 = .ok (.putfield 22, 3) := by decide +kernel
theorem zd_Lo_note_52 : decode zo_Lo_note 52 = .ok (.return_, 1) := by decide +kernel
abbrev zo_Lo_keptCount : ByteArray := prog_4_method_3_code
abbrev zy_Lo_keptCount : MethodName := ⟨"LiftGroup$Log", "keptCount", "()I"⟩
theorem zd_Lo_keptCount_0 : decode zo_Lo_keptCount 0 = .ok (.aload_n 0, 1) := by decide +kernel
theorem zd_Lo_keptCount_1 : decode zo_Lo_keptCount 1 = .ok (.getfield 22, 3) := by decide +kernel
theorem zd_Lo_keptCount_4 : decode zo_Lo_keptCount 4 = .ok (.bipush 30, 2) := by decide +kernel
theorem zd_Lo_keptCount_6 : decode zo_Lo_keptCount 6 = .ok (.invokestatic 26, 3) := by decide +kernel
theorem zd_Lo_keptCount_9 : decode zo_Lo_keptCount 9 = .ok (.ireturn, 1) := by decide +kernel
abbrev zo_Lo_placeOf : ByteArray := prog_4_method_4_code
abbrev zy_Lo_placeOf : MethodName := ⟨"LiftGroup$Log", "placeOf", "(I)I"⟩
theorem zd_Lo_placeOf_0 : decode zo_Lo_placeOf 0 = .ok (.aload_n 0, 1) := by decide +kernel
theorem zd_Lo_placeOf_1 : decode zo_Lo_placeOf 1 = .ok (.getfield 22, 3) := by decide +kernel
theorem zd_Lo_placeOf_4 : decode zo_Lo_placeOf 4 = .ok (.aload_n 0, 1) := by decide +kernel
theorem zd_Lo_placeOf_5 : decode zo_Lo_placeOf 5 = .ok (.invokevirtual 32, 3) := by decide +kernel
theorem zd_Lo_placeOf_8 : decode zo_Lo_placeOf 8 = .ok (.isub, 1) := by decide +kernel
theorem zd_Lo_placeOf_9 : decode zo_Lo_placeOf 9 = .ok (.iload_n 1, 1) := by decide +kernel
theorem zd_Lo_placeOf_10 : decode zo_Lo_placeOf 10 = .ok (.iadd, 1) := by decide +kernel
theorem zd_Lo_placeOf_11 : decode zo_Lo_placeOf 11 = .ok (.bipush 30, 2) := by decide +kernel
theorem zd_Lo_placeOf_13 : decode zo_Lo_placeOf 13 = .ok (.irem, 1) := by decide +kernel
theorem zd_Lo_placeOf_14 : decode zo_Lo_placeOf 14 = .ok (.ireturn, 1) := by decide +kernel
section ZC4
variable {p : Program} {l : Launch} {e : Env} {s : State} {m : MethodId} {args : Array Value} {below : List Frame} {meth : Method} {c : Code} {E : zE} {A : Nat → Prop}
set_option maxRecDepth 100000 in
theorem zwf_Ho_18 : Cond.fieldLink zR1 18 (zT1 2).1 (zT1 2).2.1 (zT1 2).2.2.1 ∈ zwAll := zw_at 81 rfl rfl
set_option maxRecDepth 100000 in
theorem zwf_Ho_22 : Cond.fieldLink zR1 22 (zT1 3).1 (zT1 3).2.1 (zT1 3).2.2.1 ∈ zwAll := zw_at 84 rfl rfl
set_option maxRecDepth 100000 in
theorem zwf_Ho_25 : Cond.fieldLink zR1 25 (zT1 4).1 (zT1 4).2.1 (zT1 4).2.2.1 ∈ zwAll := zw_at 86 rfl rfl
set_option maxRecDepth 100000 in
theorem zwf_Ho_9 : Cond.fieldLink zR1 9 (zT1 0).1 (zT1 0).2.1 (zT1 0).2.2.1 ∈ zwAll := zw_at 77 rfl rfl
set_option maxRecDepth 100000 in
theorem zwf_Ho_15 : Cond.fieldLink zR1 15 (zT1 1).1 (zT1 1).2.1 (zT1 1).2.2.1 ∈ zwAll := zw_at 79 rfl rfl
abbrev zrm_Ho_startAnew : Room := { frames := 0, cells := 0, slots := 0, locals := 0 }
def zb_Ho_startAnew_17 (N : Nat) (r17 : Int32 → zS → Option zS) (l3 : Int32) (st : zS) : Option zS := (if 10 ≤ l3 then some st else (if l3 < 0 ∨ 10 ≤ l3.toNatClampNeg then none else (if l3 < 0 ∨ 10 ≤ l3.toNatClampNeg then none else r17 (l3 + 1) (zp (zp st 2 l3.toNatClampNeg 0) 3 l3.toNatClampNeg 0))))
set_option maxHeartbeats 4000000 in
theorem zlb_Ho_startAnew_17 (F : zw_X p m c zo_Ho_startAnew 4 s args zR1 E 10 A meth none) {N : Nat} {rst : zS} {r17 : Int32 → zS → Option zS} (hr17 : ∀ (l3 : Int32) (st : zS) , r17 l3 st = some rst → zw_G p l e zrm_Ho_startAnew s m args below meth c (MQ below (zw_Q E none rst A) args s 0 0 A) E A 4 0 17 [some (.ref 1), none, none, some (.int l3)] [] st) (l3 : Int32) (st : zS)  (h : zb_Ho_startAnew_17 N r17 l3 st = some rst) : zw_G p l e zrm_Ho_startAnew s m args below meth c (MQ below (zw_Q E none rst A) args s 0 0 A) E A 4 0 17 [some (.ref 1), none, none, some (.int l3)] [] st := by
  unfold zb_Ho_startAnew_17 at h
  refine zg_iload_n F.1 zd_Ho_startAnew_17 rfl rfl ?_
  refine zg_bipush F.1 10 10 (by decide) zd_Ho_startAnew_18 ?_
  refine zg_icmp_ge F.1 43 zd_Ho_startAnew_20 rfl (fun hc => ?_) (fun hc => ?_)
  · rw [if_pos hc] at h
    cases h
    exact zg_vret F zd_Ho_startAnew_43
  · rw [if_neg hc] at h
    refine zg_aload_n F.1 zd_Ho_startAnew_23 rfl rfl ?_
    refine zg_getR1 F.1 (by decide) rfl 0 (by decide) 2 rfl zwf_Ho_9 zd_Ho_startAnew_24 ?_
    refine zg_iload_n F.1 zd_Ho_startAnew_27 rfl rfl ?_
    refine zg_iconst F.1 0 0 (by decide) zd_Ho_startAnew_28 ?_
    by_cases hi29 : l3 < 0 ∨ 10 ≤ l3.toNatClampNeg
    case pos => rw [if_pos hi29] at h; cases h
    rw [if_neg hi29] at h
    refine zg_ast5 F.1 (by decide) rfl hi29 l3.toNatClampNeg rfl zd_Ho_startAnew_29 ?_
    refine zg_aload_n F.1 zd_Ho_startAnew_30 rfl rfl ?_
    refine zg_getR1 F.1 (by decide) rfl 1 (by decide) 3 rfl zwf_Ho_15 zd_Ho_startAnew_31 ?_
    refine zg_iload_n F.1 zd_Ho_startAnew_34 rfl rfl ?_
    refine zg_iconst F.1 0 0 (by decide) zd_Ho_startAnew_35 ?_
    by_cases hi36 : l3 < 0 ∨ 10 ≤ l3.toNatClampNeg
    case pos => rw [if_pos hi36] at h; cases h
    rw [if_neg hi36] at h
    refine zg_ast5 F.1 (by decide) rfl hi36 l3.toNatClampNeg rfl zd_Ho_startAnew_36 ?_
    refine zg_iinc F.1 (l3 + 1) [some (.ref 1), none, none, some (.int (l3 + 1))] zd_Ho_startAnew_37 rfl (by rw [lit1]) (by decide) rfl ?_
    refine zg_goto F.1 17 zd_Ho_startAnew_40 rfl ?_
    exact hr17 (l3 + 1) (zp (zp st 2 l3.toNatClampNeg 0) 3 l3.toNatClampNeg 0) h
def zf_Ho_startAnew_17 (N : Nat)  : Nat → Int32 → zS → Option zS
  | 0, _, _ => none
  | n + 1, l3, st => zb_Ho_startAnew_17 N  (zf_Ho_startAnew_17 N  n) l3 st
theorem zl_Ho_startAnew_17 (F : zw_X p m c zo_Ho_startAnew 4 s args zR1 E 10 A meth none) {N : Nat} {rst : zS}   : ∀ (n : Nat) (l3 : Int32) (st : zS)  (h : zf_Ho_startAnew_17 N  n l3 st = some rst), zw_G p l e zrm_Ho_startAnew s m args below meth c (MQ below (zw_Q E none rst A) args s 0 0 A) E A 4 0 17 [some (.ref 1), none, none, some (.int l3)] [] st := by
  intro n
  induction n with
  | zero => intro l3 st  h; cases h
  | succ n ih => intro l3 st  h; exact zlb_Ho_startAnew_17 F  ih l3 st  h
def zf_Ho_startAnew (N : Nat) (a1 : Int32) (a2 : Int32) (st : zS) : Option zS := zf_Ho_startAnew_17 N N 0 (zp (zp (zp st 1 2 a1) 1 3 a2) 1 4 0)
set_option maxHeartbeats 4000000 in
theorem zl_Ho_startAnew_0 (F : zw_X p m c zo_Ho_startAnew 4 s args zR1 E 10 A meth none) {N : Nat} {rst : zS} (a1 : Int32) (a2 : Int32) (st : zS)  (h : zf_Ho_startAnew N a1 a2 st = some rst) : zw_G p l e zrm_Ho_startAnew s m args below meth c (MQ below (zw_Q E none rst A) args s 0 0 A) E A 4 0 0 [some (.ref 1), some (.int a1), some (.int a2), none] [] st := by
  unfold zf_Ho_startAnew at h
  refine zg_aload_n F.1 zd_Ho_startAnew_0 rfl rfl ?_
  refine zg_iload_n F.1 zd_Ho_startAnew_1 rfl rfl ?_
  refine zg_putI1 F.1 (by decide) rfl 2 (by decide) (Or.inl rfl) .int (by decide) rfl rfl rfl zwf_Ho_18 zd_Ho_startAnew_2 ?_
  refine zg_aload_n F.1 zd_Ho_startAnew_5 rfl rfl ?_
  refine zg_iload_n F.1 zd_Ho_startAnew_6 rfl rfl ?_
  refine zg_putI1 F.1 (by decide) rfl 3 (by decide) (Or.inr (Or.inl rfl)) .int (by decide) rfl rfl rfl zwf_Ho_22 zd_Ho_startAnew_7 ?_
  refine zg_aload_n F.1 zd_Ho_startAnew_10 rfl rfl ?_
  refine zg_iconst F.1 0 0 (by decide) zd_Ho_startAnew_11 ?_
  refine zg_putI1 F.1 (by decide) rfl 4 (by decide) (Or.inr (Or.inr rfl)) .boolean (by decide) rfl rfl rfl zwf_Ho_25 zd_Ho_startAnew_12 ?_
  refine zg_iconst F.1 0 0 (by decide) zd_Ho_startAnew_15 ?_
  refine zg_istore_n F.1 [some (.ref 1), some (.int a1), some (.int a2), some (.int 0)] zd_Ho_startAnew_16 rfl (by decide) rfl ?_
  exact zg_le (zw_les (zw_len (zw_len (zw_les zw_le0)))) (zl_Ho_startAnew_17 F N 0 (zp (zp (zp st 1 2 a1) 1 3 a2) 1 4 0) h)
theorem zk_Ho_startAnew {E : zE} (hn : zw_n E 10) (N : Nat) (a1 : Int32) (a2 : Int32) (st : zS)  {rst : zS} (h : zf_Ho_startAnew N a1 a2 st = some rst) : zw_M l zy_Ho_startAnew (Cond.code zy_Ho_startAnew zo_Ho_startAnew 4 none :: zwAll) zrm_Ho_startAnew E [.ref 1, .int a1, .int a2] st none rst :=
  zw_enter (by decide) rfl hn (Nat.le_of_ble_eq_true rfl) (by simp [Value.category]) 1 (fun p e s m args below meth c A F => zl_Ho_startAnew_0 F a1 a2 st  h)
abbrev zrm_Ho_addRider : Room := { frames := 0, cells := 0, slots := 0, locals := 0 }
def zf_Ho_addRider (N : Nat) (a1 : Int32) (a2 : Int32) (a3 : Int32) (st : zS) : Option zS := (if a2 < 0 ∨ 10 ≤ a2.toNatClampNeg then none else (if a2 < 0 ∨ 10 ≤ a2.toNatClampNeg then none else (if a3 < 0 ∨ 10 ≤ a3.toNatClampNeg then none else (if a3 < 0 ∨ 10 ≤ a3.toNatClampNeg then none else some (zp (zp st 2 a2.toNatClampNeg ((st 2 a2.toNatClampNeg) ||| a1)) 3 a3.toNatClampNeg ((st 3 a3.toNatClampNeg) ||| a1))))))
set_option maxHeartbeats 4000000 in
theorem zl_Ho_addRider_0 (F : zw_X p m c zo_Ho_addRider 4 s args zR1 E 10 A meth none) {N : Nat} {rst : zS} (a1 : Int32) (a2 : Int32) (a3 : Int32) (st : zS)  (h : zf_Ho_addRider N a1 a2 a3 st = some rst) : zw_G p l e zrm_Ho_addRider s m args below meth c (MQ below (zw_Q E none rst A) args s 0 0 A) E A 4 0 0 [some (.ref 1), some (.int a1), some (.int a2), some (.int a3)] [] st := by
  unfold zf_Ho_addRider at h
  refine zg_aload_n F.1 zd_Ho_addRider_0 rfl rfl ?_
  refine zg_getR1 F.1 (by decide) rfl 0 (by decide) 2 rfl zwf_Ho_9 zd_Ho_addRider_1 ?_
  refine zg_iload_n F.1 zd_Ho_addRider_4 rfl rfl ?_
  refine zg_dup2 F.1 zd_Ho_addRider_5 rfl rfl ?_
  by_cases hi6 : a2 < 0 ∨ 10 ≤ a2.toNatClampNeg
  case pos => rw [if_pos hi6] at h; cases h
  rw [if_neg hi6] at h
  refine zg_ald5 F.1 (by decide) rfl hi6 a2.toNatClampNeg rfl (st 2 a2.toNatClampNeg) rfl zd_Ho_addRider_6 ?_
  refine zg_iload_n F.1 zd_Ho_addRider_7 rfl rfl ?_
  refine zg_ior F.1 zd_Ho_addRider_8 ?_
  by_cases hi9 : a2 < 0 ∨ 10 ≤ a2.toNatClampNeg
  case pos => rw [if_pos hi9] at h; cases h
  rw [if_neg hi9] at h
  refine zg_ast5 F.1 (by decide) rfl hi9 a2.toNatClampNeg rfl zd_Ho_addRider_9 ?_
  refine zg_aload_n F.1 zd_Ho_addRider_10 rfl rfl ?_
  refine zg_getR1 F.1 (by decide) rfl 1 (by decide) 3 rfl zwf_Ho_15 zd_Ho_addRider_11 ?_
  refine zg_iload_n F.1 zd_Ho_addRider_14 rfl rfl ?_
  refine zg_dup2 F.1 zd_Ho_addRider_15 rfl rfl ?_
  by_cases hi16 : a3 < 0 ∨ 10 ≤ a3.toNatClampNeg
  case pos => rw [if_pos hi16] at h; cases h
  rw [if_neg hi16] at h
  refine zg_ald5 F.1 (by decide) rfl hi16 a3.toNatClampNeg rfl (st 3 a3.toNatClampNeg) (zp_q _ _ (by decide)) zd_Ho_addRider_16 ?_
  refine zg_iload_n F.1 zd_Ho_addRider_17 rfl rfl ?_
  refine zg_ior F.1 zd_Ho_addRider_18 ?_
  by_cases hi19 : a3 < 0 ∨ 10 ≤ a3.toNatClampNeg
  case pos => rw [if_pos hi19] at h; cases h
  rw [if_neg hi19] at h
  refine zg_ast5 F.1 (by decide) rfl hi19 a3.toNatClampNeg rfl zd_Ho_addRider_19 ?_
  cases h
  exact zg_vret F zd_Ho_addRider_20
theorem zk_Ho_addRider {E : zE} (hn : zw_n E 10) (N : Nat) (a1 : Int32) (a2 : Int32) (a3 : Int32) (st : zS)  {rst : zS} (h : zf_Ho_addRider N a1 a2 a3 st = some rst) : zw_M l zy_Ho_addRider (Cond.code zy_Ho_addRider zo_Ho_addRider 4 none :: zwAll) zrm_Ho_addRider E [.ref 1, .int a1, .int a2, .int a3] st none rst :=
  zw_enter (by decide) rfl hn (Nat.le_of_ble_eq_true rfl) (by simp [Value.category]) 0 (fun p e s m args below meth c A F => zl_Ho_addRider_0 F a1 a2 a3 st  h)
set_option maxRecDepth 100000 in
theorem zwf_Ri_9 : Cond.fieldLink zR3 9 (zT3 0).1 (zT3 0).2.1 (zT3 0).2.2.1 ∈ zwAll := zw_at 167 rfl rfl
set_option maxRecDepth 100000 in
theorem zwf_Ri_15 : Cond.fieldLink zR3 15 (zT3 1).1 (zT3 1).2.1 (zT3 1).2.2.1 ∈ zwAll := zw_at 169 rfl rfl
set_option maxRecDepth 100000 in
theorem zwf_Ri_18 : Cond.fieldLink zR3 18 (zT3 2).1 (zT3 2).2.1 (zT3 2).2.2.1 ∈ zwAll := zw_at 171 rfl rfl
set_option maxRecDepth 100000 in
theorem zwf_Ri_21 : Cond.fieldLink zR3 21 (zT3 3).1 (zT3 3).2.1 (zT3 3).2.2.1 ∈ zwAll := zw_at 173 rfl rfl
set_option maxRecDepth 100000 in
theorem zwf_Ri_24 : Cond.fieldLink zR3 24 (zT3 4).1 (zT3 4).2.1 (zT3 4).2.2.1 ∈ zwAll := zw_at 175 rfl rfl
set_option maxRecDepth 100000 in
theorem zwf_Ri_27 : Cond.fieldLink zR3 27 (zT3 5).1 (zT3 5).2.1 (zT3 5).2.2.1 ∈ zwAll := zw_at 177 rfl rfl
abbrev zrm_Ri_begin : Room := { frames := 0, cells := 0, slots := 0, locals := 0 }
def zf_Ri_begin (N : Nat) (a0 : Nat) (a1 : Int32) (a2 : Int32) (a3 : Int32) (st : zS) : Option zS := some (zp (zp (zp (zp (zp (zp st a0 0 a1) a0 1 a2) a0 2 0) a0 3 (-1)) a0 4 a3) a0 5 0)
set_option maxHeartbeats 4000000 in
theorem zl_Ri_begin_0 (F : zw_X p m c zo_Ri_begin 4 s args zR3 E 10 A meth none) {N : Nat} {rst : zS} (a0 : Nat) (a1 : Int32) (a2 : Int32) (a3 : Int32) (st : zS) (k0 : zw_kind a0 = 3) (h : zf_Ri_begin N a0 a1 a2 a3 st = some rst) : zw_G p l e zrm_Ri_begin s m args below meth c (MQ below (zw_Q E none rst A) args s 0 0 A) E A 4 0 0 [some (.ref a0), some (.int a1), some (.int a2), some (.int a3)] [] st := by
  unfold zf_Ri_begin at h
  refine zg_aload_n F.1 zd_Ri_begin_0 rfl rfl ?_
  refine zg_iload_n F.1 zd_Ri_begin_1 rfl rfl ?_
  refine zg_putI3 F.1 (by decide) k0 0 (by decide) (Or.inl rfl) .int (by decide) rfl rfl rfl zwf_Ri_9 zd_Ri_begin_2 ?_
  refine zg_aload_n F.1 zd_Ri_begin_5 rfl rfl ?_
  refine zg_iload_n F.1 zd_Ri_begin_6 rfl rfl ?_
  refine zg_putI3 F.1 (by decide) k0 1 (by decide) (Or.inr (Or.inl rfl)) .int (by decide) rfl rfl rfl zwf_Ri_15 zd_Ri_begin_7 ?_
  refine zg_aload_n F.1 zd_Ri_begin_10 rfl rfl ?_
  refine zg_iconst F.1 0 0 (by decide) zd_Ri_begin_11 ?_
  refine zg_putI3 F.1 (by decide) k0 2 (by decide) (Or.inr (Or.inr (Or.inl rfl))) .int (by decide) rfl rfl rfl zwf_Ri_18 zd_Ri_begin_12 ?_
  refine zg_aload_n F.1 zd_Ri_begin_15 rfl rfl ?_
  refine zg_iconst F.1 (-1) (-1) (by decide) zd_Ri_begin_16 ?_
  refine zg_putI3 F.1 (by decide) k0 3 (by decide) (Or.inr (Or.inr (Or.inr (Or.inl rfl)))) .int (by decide) rfl rfl rfl zwf_Ri_21 zd_Ri_begin_17 ?_
  refine zg_aload_n F.1 zd_Ri_begin_20 rfl rfl ?_
  refine zg_iload_n F.1 zd_Ri_begin_21 rfl rfl ?_
  refine zg_putI3 F.1 (by decide) k0 4 (by decide) (Or.inr (Or.inr (Or.inr (Or.inr (Or.inl rfl))))) .int (by decide) rfl rfl rfl zwf_Ri_24 zd_Ri_begin_22 ?_
  refine zg_aload_n F.1 zd_Ri_begin_25 rfl rfl ?_
  refine zg_iconst F.1 0 0 (by decide) zd_Ri_begin_26 ?_
  refine zg_putI3 F.1 (by decide) k0 5 (by decide) (Or.inr (Or.inr (Or.inr (Or.inr (Or.inr rfl))))) .int (by decide) rfl rfl rfl zwf_Ri_27 zd_Ri_begin_27 ?_
  cases h
  exact zg_vret F zd_Ri_begin_30
theorem zk_Ri_begin {E : zE} (hn : zw_n E 10) (N : Nat) (a0 : Nat) (a1 : Int32) (a2 : Int32) (a3 : Int32) (st : zS) (k0 : zw_kind a0 = 3) {rst : zS} (h : zf_Ri_begin N a0 a1 a2 a3 st = some rst) : zw_M l zy_Ri_begin (Cond.code zy_Ri_begin zo_Ri_begin 4 none :: zwAll) zrm_Ri_begin E [.ref a0, .int a1, .int a2, .int a3] st none rst :=
  zw_enter (by decide) rfl hn (Nat.le_of_ble_eq_true rfl) (by simp [Value.category]) 0 (fun p e s m args below meth c A F => zl_Ri_begin_0 F a0 a1 a2 a3 st k0 h)
abbrev zrm_Ri_ended : Room := { frames := 0, cells := 0, slots := 0, locals := 0 }
def zf_Ri_ended_21 (N : Nat)  (s0 : Int32) (st : zS) : Option (Int32 × zS) := (if s0 = 0 ∨ s0 = 1 then some (s0, st) else none)
set_option maxHeartbeats 4000000 in
theorem zl_Ri_ended_21 (F : zw_X p m c zo_Ri_ended 1 s args zR3 E 10 A meth (some .boolean)) {N : Nat} {rv : Int32} {rst : zS}   (s0 : Int32) (st : zS)  (h : zf_Ri_ended_21 N  s0 st = some (rv, rst)) : zw_G p l e zrm_Ri_ended s m args below meth c (MQ below (zw_Q E (some (.int rv)) rst A) args s 0 0 A) E A 1 0 21 [none] [.int s0] st := by
  unfold zf_Ri_ended_21 at h
  by_cases hb21 : s0 = 0 ∨ s0 = 1
  case neg => rw [if_neg hb21] at h; cases h
  rw [if_pos hb21] at h
  cases h
  exact zg_zret F hb21 zd_Ri_ended_21
def zf_Ri_ended_16 (N : Nat)   (st : zS) : Option (Int32 × zS) := zf_Ri_ended_21 N 1 st
set_option maxHeartbeats 4000000 in
theorem zl_Ri_ended_16 (F : zw_X p m c zo_Ri_ended 1 s args zR3 E 10 A meth (some .boolean)) {N : Nat} {rv : Int32} {rst : zS}    (st : zS)  (h : zf_Ri_ended_16 N   st = some (rv, rst)) : zw_G p l e zrm_Ri_ended s m args below meth c (MQ below (zw_Q E (some (.int rv)) rst A) args s 0 0 A) E A 1 0 16 [none] [] st := by
  unfold zf_Ri_ended_16 at h
  refine zg_iconst F.1 1 1 (by decide) zd_Ri_ended_16 ?_
  refine zg_goto F.1 21 zd_Ri_ended_17 rfl ?_
  exact zl_Ri_ended_21 F 1 st h
def zf_Ri_ended (N : Nat) (a0 : Nat) (st : zS) : Option (Int32 × zS) := (if (st a0 2) = 2 then zf_Ri_ended_16 N st else (if (st a0 2) = 3 then zf_Ri_ended_16 N st else zf_Ri_ended_21 N 0 st))
set_option maxHeartbeats 4000000 in
theorem zl_Ri_ended_0 (F : zw_X p m c zo_Ri_ended 1 s args zR3 E 10 A meth (some .boolean)) {N : Nat} {rv : Int32} {rst : zS} (a0 : Nat) (st : zS) (k0 : zw_kind a0 = 3) (h : zf_Ri_ended N a0 st = some (rv, rst)) : zw_G p l e zrm_Ri_ended s m args below meth c (MQ below (zw_Q E (some (.int rv)) rst A) args s 0 0 A) E A 1 0 0 [some (.ref a0)] [] st := by
  unfold zf_Ri_ended at h
  refine zg_aload_n F.1 zd_Ri_ended_0 rfl rfl ?_
  refine zg_getI3 F.1 (by decide) k0 2 (by decide) (st a0 2) rfl rfl zwf_Ri_18 zd_Ri_ended_1 ?_
  refine zg_iconst F.1 2 2 (by decide) zd_Ri_ended_4 ?_
  refine zg_icmp_eq F.1 16 zd_Ri_ended_5 rfl (fun hc => ?_) (fun hc => ?_)
  · rw [if_pos hc] at h
    exact zg_le (zw_len zw_le0) (zl_Ri_ended_16 F st h)
  · rw [if_neg hc] at h
    refine zg_aload_n F.1 zd_Ri_ended_8 rfl rfl ?_
    refine zg_getI3 F.1 (by decide) k0 2 (by decide) (st a0 2) rfl rfl zwf_Ri_18 zd_Ri_ended_9 ?_
    refine zg_iconst F.1 3 3 (by decide) zd_Ri_ended_12 ?_
    refine zg_icmp_ne F.1 20 zd_Ri_ended_13 rfl (fun hc => ?_) (fun hc => ?_)
    · rw [if_neg hc] at h
      refine zg_iconst F.1 0 0 (by decide) zd_Ri_ended_20 ?_
      exact zg_le (zw_len zw_le0) (zl_Ri_ended_21 F 0 st h)
    · rw [if_pos hc] at h
      exact zg_le (zw_len zw_le0) (zl_Ri_ended_16 F st h)
theorem zk_Ri_ended {E : zE} (hn : zw_n E 10) (N : Nat) (a0 : Nat) (st : zS) (k0 : zw_kind a0 = 3) {rv : Int32} {rst : zS} (h : zf_Ri_ended N a0 st = some (rv, rst)) : zw_M l zy_Ri_ended (Cond.code zy_Ri_ended zo_Ri_ended 1 (some .boolean) :: zwAll) zrm_Ri_ended E [.ref a0] st (some (.int rv)) rst :=
  zw_enter (by decide) rfl hn (Nat.le_of_ble_eq_true rfl) (by simp [Value.category]) 0 (fun p e s m args below meth c A F => zl_Ri_ended_0 F a0 st k0 h)
set_option maxRecDepth 100000 in
theorem zwf_Lo_22 : Cond.fieldLink zR4 22 (zT4 4).1 (zT4 4).2.1 (zT4 4).2.2.1 ∈ zwAll := zw_at 206 rfl rfl
set_option maxRecDepth 100000 in
theorem zwf_Lo_9 : Cond.fieldLink zR4 9 (zT4 0).1 (zT4 0).2.1 (zT4 0).2.2.1 ∈ zwAll := zw_at 198 rfl rfl
set_option maxRecDepth 100000 in
theorem zwf_Lo_13 : Cond.fieldLink zR4 13 (zT4 1).1 (zT4 1).2.1 (zT4 1).2.2.1 ∈ zwAll := zw_at 200 rfl rfl
set_option maxRecDepth 100000 in
theorem zwf_Lo_16 : Cond.fieldLink zR4 16 (zT4 2).1 (zT4 2).2.1 (zT4 2).2.2.1 ∈ zwAll := zw_at 202 rfl rfl
set_option maxRecDepth 100000 in
theorem zwf_Lo_19 : Cond.fieldLink zR4 19 (zT4 3).1 (zT4 3).2.1 (zT4 3).2.2.1 ∈ zwAll := zw_at 204 rfl rfl
abbrev zrm_Lo_note : Room := { frames := 0, cells := 0, slots := 0, locals := 0 }
def zf_Lo_note (N : Nat) (a1 : Int32) (a2 : Int32) (a3 : Int32) (a4 : Int32) (st : zS) : Option zS := (if ((st 35 4) - (st 35 4) / 30 * 30) < 0 ∨ 30 ≤ ((st 35 4) - (st 35 4) / 30 * 30).toNatClampNeg then none else (if ((st 35 4) - (st 35 4) / 30 * 30) < 0 ∨ 30 ≤ ((st 35 4) - (st 35 4) / 30 * 30).toNatClampNeg then none else (if ((st 35 4) - (st 35 4) / 30 * 30) < 0 ∨ 30 ≤ ((st 35 4) - (st 35 4) / 30 * 30).toNatClampNeg then none else (if ((st 35 4) - (st 35 4) / 30 * 30) < 0 ∨ 30 ≤ ((st 35 4) - (st 35 4) / 30 * 30).toNatClampNeg then none else some (zp (zp (zp (zp (zp st 36 (((st 35 4) - (st 35 4) / 30 * 30).toNatClampNeg) a1) 37 (((st 35 4) - (st 35 4) / 30 * 30).toNatClampNeg) a2) 38 (((st 35 4) - (st 35 4) / 30 * 30).toNatClampNeg) a3) 39 (((st 35 4) - (st 35 4) / 30 * 30).toNatClampNeg) a4) 35 4 ((st 35 4) + 1))))))
set_option maxHeartbeats 4000000 in
theorem zl_Lo_note_0 (F : zw_X p m c zo_Lo_note 6 s args zR4 E 10 A meth none) {N : Nat} {rst : zS} (a1 : Int32) (a2 : Int32) (a3 : Int32) (a4 : Int32) (st : zS)  (h : zf_Lo_note N a1 a2 a3 a4 st = some rst) : zw_G p l e zrm_Lo_note s m args below meth c (MQ below (zw_Q E none rst A) args s 0 0 A) E A 6 0 0 [some (.ref 35), some (.int a1), some (.int a2), some (.int a3), some (.int a4), none] [] st := by
  unfold zf_Lo_note at h
  refine zg_aload_n F.1 zd_Lo_note_0 rfl rfl ?_
  refine zg_getI4 F.1 (by decide) rfl 4 (by decide) (st 35 4) rfl rfl zwf_Lo_22 zd_Lo_note_1 ?_
  refine zg_bipush F.1 30 30 (by decide) zd_Lo_note_4 ?_
  refine zg_irem F.1 zd_Lo_note_6 (by decide) ?_
  refine zg_istore F.1 [some (.ref 35), some (.int a1), some (.int a2), some (.int a3), some (.int a4), some (.int ((st 35 4) - (st 35 4) / 30 * 30))] zd_Lo_note_7 (by decide) rfl ?_
  refine zg_aload_n F.1 zd_Lo_note_9 rfl rfl ?_
  refine zg_getR4 F.1 (by decide) rfl 0 (by decide) 36 rfl zwf_Lo_9 zd_Lo_note_10 ?_
  refine zg_iload F.1 zd_Lo_note_13 rfl ?_
  refine zg_iload_n F.1 zd_Lo_note_15 rfl rfl ?_
  by_cases hi16 : ((st 35 4) - (st 35 4) / 30 * 30) < 0 ∨ 30 ≤ ((st 35 4) - (st 35 4) / 30 * 30).toNatClampNeg
  case pos => rw [if_pos hi16] at h; cases h
  rw [if_neg hi16] at h
  refine zg_ast8 F.1 (by decide) rfl hi16 (((st 35 4) - (st 35 4) / 30 * 30).toNatClampNeg) rfl zd_Lo_note_16 ?_
  refine zg_aload_n F.1 zd_Lo_note_17 rfl rfl ?_
  refine zg_getR4 F.1 (by decide) rfl 1 (by decide) 37 rfl zwf_Lo_13 zd_Lo_note_18 ?_
  refine zg_iload F.1 zd_Lo_note_21 rfl ?_
  refine zg_iload_n F.1 zd_Lo_note_23 rfl rfl ?_
  by_cases hi24 : ((st 35 4) - (st 35 4) / 30 * 30) < 0 ∨ 30 ≤ ((st 35 4) - (st 35 4) / 30 * 30).toNatClampNeg
  case pos => rw [if_pos hi24] at h; cases h
  rw [if_neg hi24] at h
  refine zg_ast8 F.1 (by decide) rfl hi24 (((st 35 4) - (st 35 4) / 30 * 30).toNatClampNeg) rfl zd_Lo_note_24 ?_
  refine zg_aload_n F.1 zd_Lo_note_25 rfl rfl ?_
  refine zg_getR4 F.1 (by decide) rfl 2 (by decide) 38 rfl zwf_Lo_16 zd_Lo_note_26 ?_
  refine zg_iload F.1 zd_Lo_note_29 rfl ?_
  refine zg_iload_n F.1 zd_Lo_note_31 rfl rfl ?_
  by_cases hi32 : ((st 35 4) - (st 35 4) / 30 * 30) < 0 ∨ 30 ≤ ((st 35 4) - (st 35 4) / 30 * 30).toNatClampNeg
  case pos => rw [if_pos hi32] at h; cases h
  rw [if_neg hi32] at h
  refine zg_ast8 F.1 (by decide) rfl hi32 (((st 35 4) - (st 35 4) / 30 * 30).toNatClampNeg) rfl zd_Lo_note_32 ?_
  refine zg_aload_n F.1 zd_Lo_note_33 rfl rfl ?_
  refine zg_getR4 F.1 (by decide) rfl 3 (by decide) 39 rfl zwf_Lo_19 zd_Lo_note_34 ?_
  refine zg_iload F.1 zd_Lo_note_37 rfl ?_
  refine zg_iload F.1 zd_Lo_note_39 rfl ?_
  by_cases hi41 : ((st 35 4) - (st 35 4) / 30 * 30) < 0 ∨ 30 ≤ ((st 35 4) - (st 35 4) / 30 * 30).toNatClampNeg
  case pos => rw [if_pos hi41] at h; cases h
  rw [if_neg hi41] at h
  refine zg_ast8 F.1 (by decide) rfl hi41 (((st 35 4) - (st 35 4) / 30 * 30).toNatClampNeg) rfl zd_Lo_note_41 ?_
  refine zg_aload_n F.1 zd_Lo_note_42 rfl rfl ?_
  refine zg_dup F.1 zd_Lo_note_43 rfl ?_
  refine zg_getI4 F.1 (by decide) rfl 4 (by decide) (st 35 4) rfl ((zp_q _ _ (by decide)).trans ((zp_q _ _ (by decide)).trans ((zp_q _ _ (by decide)).trans (zp_q _ _ (by decide))))) zwf_Lo_22 zd_Lo_note_44 ?_
  refine zg_iconst F.1 1 1 (by decide) zd_Lo_note_47 ?_
  refine zg_iadd F.1 zd_Lo_note_48 ?_
  refine zg_putI4 F.1 (by decide) rfl 4 (by decide) rfl .int (by decide) rfl rfl rfl zwf_Lo_22 zd_Lo_note_49 ?_
  cases h
  exact zg_vret F zd_Lo_note_52
theorem zk_Lo_note {E : zE} (hn : zw_n E 10) (N : Nat) (a1 : Int32) (a2 : Int32) (a3 : Int32) (a4 : Int32) (st : zS)  {rst : zS} (h : zf_Lo_note N a1 a2 a3 a4 st = some rst) : zw_M l zy_Lo_note (Cond.code zy_Lo_note zo_Lo_note 6 none :: zwAll) zrm_Lo_note E [.ref 35, .int a1, .int a2, .int a3, .int a4] st none rst :=
  zw_enter (by decide) rfl hn (Nat.le_of_ble_eq_true rfl) (by simp [Value.category]) 1 (fun p e s m args below meth c A F => zl_Lo_note_0 F a1 a2 a3 a4 st  h)
set_option maxRecDepth 100000 in
theorem zml_Lo_26 : Cond.methodLink zR4 26 Lib.Math.min.name ∈ zwAll := zw_at 634 rfl rfl
set_option maxRecDepth 100000 in
theorem zwm_min_1 : Cond.static Lib.Math.min.name ∈ zwAll := zw_at 635 rfl rfl
set_option maxRecDepth 100000 in
theorem zwm_min_2 : Cond.initialized "java/lang/Math" ∈ zwAll := zw_at 60 rfl rfl
set_option maxRecDepth 100000 in
theorem zwm_min_3 : Cond.code Lib.Math.min.name Lib.Math.min.code 2 (some .int) ∈ zwAll := zw_at 636 rfl rfl
abbrev zrm_Lo_keptCount : Room := { frames := 1, cells := 0, slots := 0, locals := 21 }
def zf_Lo_keptCount (N : Nat)  (st : zS) : Option (Int32 × zS) := some ((if 30 < (st 35 4) then 30 else (st 35 4)), st)
set_option maxHeartbeats 4000000 in
theorem zl_Lo_keptCount_0 (F : zw_X p m c zo_Lo_keptCount 1 s args zR4 E 10 A meth (some .int)) {N : Nat} {rv : Int32} {rst : zS}  (st : zS)  (h : zf_Lo_keptCount N  st = some (rv, rst)) : zw_G p l e zrm_Lo_keptCount s m args below meth c (MQ below (zw_Q E (some (.int rv)) rst A) args s 0 0 A) E A 1 0 0 [some (.ref 35)] [] st := by
  unfold zf_Lo_keptCount at h
  refine zg_aload_n F.1 zd_Lo_keptCount_0 rfl rfl ?_
  refine zg_getI4 F.1 (by decide) rfl 4 (by decide) (st 35 4) rfl rfl zwf_Lo_22 zd_Lo_keptCount_1 ?_
  refine zg_bipush F.1 30 30 (by decide) zd_Lo_keptCount_4 ?_
  refine zg_mmin F.1 zml_Lo_26 zwm_min_1 zwm_min_2 zwm_min_3 (Nat.le_of_ble_eq_true rfl) (Nat.le_of_ble_eq_true rfl) (Nat.le_of_ble_eq_true rfl) (Nat.le_of_ble_eq_true rfl) zd_Lo_keptCount_6 ?_
  cases h
  exact zg_iret F zd_Lo_keptCount_9
theorem zk_Lo_keptCount {E : zE} (hn : zw_n E 10) (N : Nat)  (st : zS)  {rv : Int32} {rst : zS} (h : zf_Lo_keptCount N  st = some (rv, rst)) : zw_M l zy_Lo_keptCount (Cond.code zy_Lo_keptCount zo_Lo_keptCount 1 (some .int) :: zwAll) zrm_Lo_keptCount E [.ref 35] st (some (.int rv)) rst :=
  zw_enter (by decide) rfl hn (Nat.le_of_ble_eq_true rfl) (by simp [Value.category]) 0 (fun p e s m args below meth c A F => zl_Lo_keptCount_0 F  st  h)
set_option maxRecDepth 100000 in
theorem zcal_Lo_keptCount : zw_cal zR4 zy_Lo_keptCount zo_Lo_keptCount 1 (some .int) 0 := ⟨zw_at 631 rfl rfl, zw_at 632 rfl rfl, zw_at 51 rfl rfl, zw_at 633 rfl rfl, rfl, by decide, by decide, by decide +kernel⟩
set_option maxRecDepth 100000 in
theorem zml_Lo_32 : Cond.methodLink zR4 32 zy_Lo_keptCount ∈ zwAll := zw_at 657 rfl rfl
abbrev zrm_Lo_placeOf : Room := { frames := 2, cells := 0, slots := 0, locals := 41 }
def zf_Lo_placeOf (N : Nat) (a1 : Int32) (st : zS) : Option (Int32 × zS) := ((zf_Lo_keptCount N st).bind fun y5 => some (((((st 35 4) - y5.1) + a1) - (((st 35 4) - y5.1) + a1) / 30 * 30), y5.2))
set_option maxHeartbeats 4000000 in
theorem zl_Lo_placeOf_0 (F : zw_X p m c zo_Lo_placeOf 2 s args zR4 E 10 A meth (some .int)) {N : Nat} {rv : Int32} {rst : zS} (a1 : Int32) (st : zS)  (h : zf_Lo_placeOf N a1 st = some (rv, rst)) : zw_G p l e zrm_Lo_placeOf s m args below meth c (MQ below (zw_Q E (some (.int rv)) rst A) args s 0 0 A) E A 2 0 0 [some (.ref 35), some (.int a1)] [] st := by
  unfold zf_Lo_placeOf at h
  refine zg_aload_n F.1 zd_Lo_placeOf_0 rfl rfl ?_
  refine zg_getI4 F.1 (by decide) rfl 4 (by decide) (st 35 4) rfl rfl zwf_Lo_22 zd_Lo_placeOf_1 ?_
  refine zg_aload_n F.1 zd_Lo_placeOf_4 rfl rfl ?_
  obtain ⟨y5, hc5, h⟩ := Option.bind_eq_some_iff.mp h
  refine zg_callV F (As := []) (rest := [.int (st 35 4)]) (zk_Lo_keptCount F.1.2.2 N st hc5) rfl rfl zcal_Lo_keptCount zml_Lo_32 ⟨(Nat.le_of_ble_eq_true rfl), (Nat.le_of_ble_eq_true rfl)⟩ (zg_rec4 F.1 (by decide) rfl) rfl (Nat.le_of_ble_eq_true rfl) ⟨(Nat.le_of_ble_eq_true rfl), (Nat.le_of_ble_eq_true rfl)⟩ zd_Lo_placeOf_5 ?_
  refine zg_isub F.1 zd_Lo_placeOf_8 ?_
  refine zg_iload_n F.1 zd_Lo_placeOf_9 rfl rfl ?_
  refine zg_iadd F.1 zd_Lo_placeOf_10 ?_
  refine zg_bipush F.1 30 30 (by decide) zd_Lo_placeOf_11 ?_
  refine zg_irem F.1 zd_Lo_placeOf_13 (by decide) ?_
  cases h
  exact zg_iret F zd_Lo_placeOf_14
theorem zk_Lo_placeOf {E : zE} (hn : zw_n E 10) (N : Nat) (a1 : Int32) (st : zS)  {rv : Int32} {rst : zS} (h : zf_Lo_placeOf N a1 st = some (rv, rst)) : zw_M l zy_Lo_placeOf (Cond.code zy_Lo_placeOf zo_Lo_placeOf 2 (some .int) :: zwAll) zrm_Lo_placeOf E [.ref 35, .int a1] st (some (.int rv)) rst :=
  zw_enter (by decide) rfl hn (Nat.le_of_ble_eq_true rfl) (by simp [Value.category]) 0 (fun p e s m args below meth c A F => zl_Lo_placeOf_0 F a1 st  h)
end ZC4
