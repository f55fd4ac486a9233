set_option maxRecDepth 100000 in
theorem zn_l1 : Cond.methodLink zR0 1 Lib.objectInit ∈ zwAll := zw_at 68 rfl rfl
set_option maxRecDepth 100000 in
theorem zn_Ho_init_1 : Cond.classLink zR0 7 zR1 ∈ zwAll := zw_at 71 rfl rfl
set_option maxRecDepth 100000 in
theorem zn_Ho_init_2 : Cond.instantiable zR1 5 ∈ zwAll := zw_at 72 rfl rfl
set_option maxRecDepth 100000 in
theorem zn_Ho_init_3 : Cond.initialized zR1 ∈ zwAll := zw_at 48 rfl rfl
set_option maxRecDepth 100000 in
theorem zn_Ho_init_4 : Cond.code zy_Ho_init zo_Ho_init 1 none ∈ zwAll := zw_at 75 rfl rfl
set_option maxRecDepth 100000 in
theorem zn_Ho_init_5 : Cond.instanceMethod zy_Ho_init ∈ zwAll := zw_at 74 rfl rfl
set_option maxRecDepth 100000 in
theorem zn_Ca_init_1 : Cond.classLink zR0 16 zR2 ∈ zwAll := zw_at 101 rfl rfl
set_option maxRecDepth 100000 in
theorem zn_Ca_init_2 : Cond.instantiable zR2 13 ∈ zwAll := zw_at 103 rfl rfl
set_option maxRecDepth 100000 in
theorem zn_Ca_init_3 : Cond.initialized zR2 ∈ zwAll := zw_at 49 rfl rfl
set_option maxRecDepth 100000 in
theorem zn_Ca_init_4 : Cond.code zy_Ca_init zo_Ca_init 1 none ∈ zwAll := zw_at 106 rfl rfl
set_option maxRecDepth 100000 in
theorem zn_Ca_init_5 : Cond.instanceMethod zy_Ca_init ∈ zwAll := zw_at 105 rfl rfl
set_option maxRecDepth 100000 in
theorem zn_Ri_init_1 : Cond.classLink zR0 27 zR3 ∈ zwAll := zw_at 160 rfl rfl
set_option maxRecDepth 100000 in
theorem zn_Ri_init_2 : Cond.instantiable zR3 6 ∈ zwAll := zw_at 162 rfl rfl
set_option maxRecDepth 100000 in
theorem zn_Ri_init_3 : Cond.initialized zR3 ∈ zwAll := zw_at 50 rfl rfl
set_option maxRecDepth 100000 in
theorem zn_Ri_init_4 : Cond.code zy_Ri_init zo_Ri_init 1 none ∈ zwAll := zw_at 165 rfl rfl
set_option maxRecDepth 100000 in
theorem zn_Ri_init_5 : Cond.instanceMethod zy_Ri_init ∈ zwAll := zw_at 164 rfl rfl
set_option maxRecDepth 100000 in
theorem zn_Lo_init_1 : Cond.classLink zR0 34 zR4 ∈ zwAll := zw_at 192 rfl rfl
set_option maxRecDepth 100000 in
theorem zn_Lo_init_2 : Cond.instantiable zR4 5 ∈ zwAll := zw_at 193 rfl rfl
set_option maxRecDepth 100000 in
theorem zn_Lo_init_3 : Cond.initialized zR4 ∈ zwAll := zw_at 51 rfl rfl
set_option maxRecDepth 100000 in
theorem zn_Lo_init_4 : Cond.code zy_Lo_init zo_Lo_init 1 none ∈ zwAll := zw_at 196 rfl rfl
set_option maxRecDepth 100000 in
theorem zn_Lo_init_5 : Cond.instanceMethod zy_Lo_init ∈ zwAll := zw_at 195 rfl rfl
set_option maxRecDepth 100000 in
theorem zn_f10 : Cond.fieldLink zR0 10 (zT0 0).1 (zT0 0).2.1 (zT0 0).2.2.1 ∈ zwAll := zw_at 235 rfl rfl
set_option maxRecDepth 100000 in
theorem zn_f18 : Cond.fieldLink zR0 18 (zT0 1).1 (zT0 1).2.1 (zT0 1).2.2.1 ∈ zwAll := zw_at 236 rfl rfl
set_option maxRecDepth 100000 in
theorem zn_f23 : Cond.fieldLink zR0 23 (zT0 2).1 (zT0 2).2.1 (zT0 2).2.2.1 ∈ zwAll := zw_at 237 rfl rfl
set_option maxRecDepth 100000 in
theorem zn_f29 : Cond.fieldLink zR0 29 (zT0 3).1 (zT0 3).2.1 (zT0 3).2.2.1 ∈ zwAll := zw_at 238 rfl rfl
set_option maxRecDepth 100000 in
theorem zn_f37 : Cond.fieldLink zR0 37 (zT0 4).1 (zT0 4).2.1 (zT0 4).2.2.1 ∈ zwAll := zw_at 239 rfl rfl
def zn_f (ca : Nat → Nat) (i : Nat) : Nat → Option Nat := fun j => if j < i then some (ca j) else none
def zn_C (ca : Nat → Nat) (i : Nat) (en : va_E) : va_W := (List.range i).map (fun k => (ca k, en))
theorem zn_snoc (ca : Nat → Nat) (i q : Nat) (en : va_E) : zn_C ca i en ++ [(q, en)] = zn_C (va_up ca i q) (i + 1) en := by
  unfold zn_C
  rw [List.range_succ, List.map_append]
  congr 1
  · refine List.map_congr_left (fun k hk => ?_)
    rw [va_up_ne _ _ (Nat.ne_of_lt (List.mem_range.mp hk))]
  · simp [va_up]
theorem zn_fup (ca : Nat → Nat) (i q : Nat) : va_up (zn_f ca i) i (some q) = zn_f (va_up ca i q) (i + 1) := by
  funext j
  unfold zn_f va_up
  by_cases h : j = i
  · simp [h]
  · by_cases h2 : j < i
    · simp [h, h2, Nat.lt_succ_of_lt h2]
    · simp [h, h2, show ¬ j < i + 1 by omega]
theorem zn_f0 (ca : Nat → Nat) : (fun _ => none : Nat → Option Nat) = zn_f ca 0 := by funext j; simp [zn_f]
theorem zn_Cat (ca : Nat → Nat) {i k : Nat} (en : va_E) (h : k < i) : (zn_C ca i en)[k]? = some (ca k, en) := by
  unfold zn_C
  rw [List.getElem?_map, List.getElem?_range h]
  rfl
section ZO
variable {p : Program} {l : Launch} {e : Env} {R : Room} {s : State} {m : MethodId} {args : Array Value} {below : List Frame} {meth : Method} {c : Code} {A : Nat → Prop} {D : va_G} {tys : List (ClassId × FieldType)} {Q : State → Prop}
set_option maxRecDepth 100000 in
set_option maxHeartbeats 4000000 in
theorem zn_cars (S0 : CallFix p m c zo_LG_init 2 s args zwAll zR0) (hNw : va_Nw (.methodLinkNest zR0 22 zy_Ca_init "LiftGroup") s) (hK : va_K D zwCl tys s) (hA : ∀ q, s.heap.size ≤ q → A q) (tC : Nat) {cC : ClassId} (hT : tys[tC]? = some (cC, .object zR2)) {h0 h1 a2 a3 a4 : Nat} {e1 e2 e3 : va_E} {c0 s0 : Nat} (hR : 2 ≤ R.frames ∧ 34 ≤ R.locals) (hc : c0 + 4 ≤ R.cells) (hs : s0 + 52 ≤ R.slots)
    (kk : ∀ (ca : Nat → Nat) (H : Heap) (locs : List Loc) (ls : Array Slot), lv_has ls 2 [(0, .ref h0)] → va_P D zwCl ((h0, .inr (0, [.ref h1, .ref a4, .null, .null, .null, .int 0, .int 0, .int 0, .int 0, .int 0, .int 0, .int 0])) :: (h1, e1) :: (a2, e2) :: (a3, e3) :: (a4, .inl (cC, 4, .inr (.inr (.inr (.inr (zn_f ca 4)))))) :: zn_C ca 4 (.inr (2, [.int 0, .int 0, .int 0, .int 0, .int 0, .int 0, .int 0, .int 0, .int 0, .int 0, .int 0, .int 0, .int 0]))) H → va_D A ((h0, .inr (0, [.ref h1, .ref a4, .null, .null, .null, .int 0, .int 0, .int 0, .int 0, .int 0, .int 0, .int 0])) :: (h1, e1) :: (a2, e2) :: (a3, e3) :: (a4, .inl (cC, 4, .inr (.inr (.inr (.inr (zn_f ca 4)))))) :: zn_C ca 4 (.inr (2, [.int 0, .int 0, .int 0, .int 0, .int 0, .int 0, .int 0, .int 0, .int 0, .int 0, .int 0, .int 0, .int 0]))) → va_S A s.heap H locs → W p l e R s m args below meth c H locs (c0 + 4) (s0 + 52) Q (F0 m 49 ls [])) :
    ∀ (j i : Nat), i + j = 4 → ∀ (ca : Nat → Nat) (H : Heap) (locs : List Loc) (ls : Array Slot), lv_has ls 2 [(0, .ref h0), (1, .int (nI i))] → va_P D zwCl ((h0, .inr (0, [.ref h1, .ref a4, .null, .null, .null, .int 0, .int 0, .int 0, .int 0, .int 0, .int 0, .int 0])) :: (h1, e1) :: (a2, e2) :: (a3, e3) :: (a4, .inl (cC, 4, .inr (.inr (.inr (.inr (zn_f ca i)))))) :: zn_C ca i (.inr (2, [.int 0, .int 0, .int 0, .int 0, .int 0, .int 0, .int 0, .int 0, .int 0, .int 0, .int 0, .int 0, .int 0]))) H → va_D A ((h0, .inr (0, [.ref h1, .ref a4, .null, .null, .null, .int 0, .int 0, .int 0, .int 0, .int 0, .int 0, .int 0])) :: (h1, e1) :: (a2, e2) :: (a3, e3) :: (a4, .inl (cC, 4, .inr (.inr (.inr (.inr (zn_f ca i)))))) :: zn_C ca i (.inr (2, [.int 0, .int 0, .int 0, .int 0, .int 0, .int 0, .int 0, .int 0, .int 0, .int 0, .int 0, .int 0, .int 0]))) → va_S A s.heap H locs → W p l e R s m args below meth c H locs (c0 + i) (s0 + 13 * i) Q (F0 m 25 ls []) := by
  obtain ⟨hx, hb, hml, hown, hts⟩ := id S0
  intro j
  induction j with
  | zero =>
    intro i hi ca H locs ls hl hP hD hS
    obtain rfl : i = 4 := by omega
    refine lv_iload_n hx hb zd_LG_init_25 rfl (lv_at hl 1 rfl) ?_
    refine lv_iconst (v := 4) hx hb zd_LG_init_26 (by decide) ?_
    refine lv_icmp_ge (tgt := 49) hx hb zd_LG_init_27 rfl (fun _ => ?_) (fun h => absurd (by decide) h)
    exact kk ca H locs ls (lv_sub hl [0] rfl) hP hD hS
  | succ j ih =>
    intro i hi ca H locs ls hl hP hD hS
    refine lv_iload_n hx hb zd_LG_init_25 rfl (lv_at hl 1 rfl) ?_
    refine lv_iconst (v := 4) hx hb zd_LG_init_26 (by decide) ?_
    refine lv_icmp_ge (tgt := 49) hx hb zd_LG_init_27 rfl (fun h => absurd h (nI_ge (a := i) (b := 4) (by omega) (by decide))) (fun _ => ?_)
    refine lv_aload_n hx hb zd_LG_init_30 rfl (lv_at hl 0 rfl) ?_
    refine va_get (D := D) (ci := 0) (fs := [.ref h1, .ref a4, .null, .null, .null, .int 0, .int 0, .int 0, .int 0, .int 0, .int 0, .int 0]) (v := .ref a4) (C := zR0) (T := zT0) (N := 12) hx hb hts zw_in0 hown hK hP 0 rfl rfl 1 (by decide) (hts _ zn_f18) (fun _ h9 => h9) rfl zd_LG_init_31 ?_
    refine lv_iload_n hx hb zd_LG_init_34 rfl (lv_at hl 1 rfl) ?_
    refine zn_mk (S := (Nat → Nat) × (Nat → ClassId)) (ci := 2) (N := 13) (ik := 16) (iL := 22) (C := zR2) (T := zT2) (ty := zY2) (fs := [.int 0, .int 0, .int 0, .int 0, .int 0, .int 0, .int 0, .int 0, .int 0, .int 0, .int 0, .int 0, .int 0]) (y := zy_Ca_init) (bytes := zo_Ca_init) (maxL := 1) (mc := 0) (ms := 0) (rm := zrm_Ca_init) (post := fun h0 u => [(h0, .inr (2, [.int 0, .int 0, .int 0, .int 0, .int 0, .int 0, .int 0, .int 0, .int 0, .int 0, .int 0, .int 0, .int 0]))]) (tysP := fun u => []) S0 hl.1 (fun h0 sz => zi_Ca_init l D h0 sz) zw_in2 zw_ty2 rfl (by decide +kernel) zn_Ca_init_1 zn_Ca_init_2 zn_Ca_init_3 zn_Ca_init_4 zn_Ca_init_5 hNw rfl rfl (by decide +kernel) rfl rfl ⟨by show 1 + 1 ≤ _; omega, by show 8 + (1 + 11) + 14 ≤ _; omega⟩ (Nat.le_of_ble_eq_true rfl) (by omega) (by omega) zd_LG_init_35 zd_LG_init_38 zd_LG_init_39 hK hP hD hS hA (fun q u H locs hK2 hP hD hS => ?_)
    have hP : va_P D zwCl ((h0, .inr (0, [.ref h1, .ref a4, .null, .null, .null, .int 0, .int 0, .int 0, .int 0, .int 0, .int 0, .int 0])) :: (h1, e1) :: (a2, e2) :: (a3, e3) :: (a4, .inl (cC, 4, .inr (.inr (.inr (.inr (zn_f ca i)))))) :: (zn_C ca i (.inr (2, [.int 0, .int 0, .int 0, .int 0, .int 0, .int 0, .int 0, .int 0, .int 0, .int 0, .int 0, .int 0, .int 0])) ++ [(q, .inr (2, [.int 0, .int 0, .int 0, .int 0, .int 0, .int 0, .int 0, .int 0, .int 0, .int 0, .int 0, .int 0, .int 0]))])) H := hP
    have hD : va_D A ((h0, .inr (0, [.ref h1, .ref a4, .null, .null, .null, .int 0, .int 0, .int 0, .int 0, .int 0, .int 0, .int 0])) :: (h1, e1) :: (a2, e2) :: (a3, e3) :: (a4, .inl (cC, 4, .inr (.inr (.inr (.inr (zn_f ca i)))))) :: (zn_C ca i (.inr (2, [.int 0, .int 0, .int 0, .int 0, .int 0, .int 0, .int 0, .int 0, .int 0, .int 0, .int 0, .int 0, .int 0])) ++ [(q, .inr (2, [.int 0, .int 0, .int 0, .int 0, .int 0, .int 0, .int 0, .int 0, .int 0, .int 0, .int 0, .int 0, .int 0]))])) := hD
    rw [zn_snoc] at hP hD
    have hv : ((h0, .inr (0, [.ref h1, .ref a4, .null, .null, .null, .int 0, .int 0, .int 0, .int 0, .int 0, .int 0, .int 0])) :: (h1, e1) :: (a2, e2) :: (a3, e3) :: (a4, .inl (cC, 4, .inr (.inr (.inr (.inr (zn_f ca i)))))) :: zn_C (va_up ca i q) (i + 1) (.inr (2, [.int 0, .int 0, .int 0, .int 0, .int 0, .int 0, .int 0, .int 0, .int 0, .int 0, .int 0, .int 0, .int 0])) : va_W)[4 + 1 + i]? = some (q, .inr (2, [.int 0, .int 0, .int 0, .int 0, .int 0, .int 0, .int 0, .int 0, .int 0, .int 0, .int 0, .int 0, .int 0])) := by
      rw [show 4 + 1 + i = i + 5 by omega]
      show (zn_C (va_up ca i q) (i + 1) (.inr (2, [.int 0, .int 0, .int 0, .int 0, .int 0, .int 0, .int 0, .int 0, .int 0, .int 0, .int 0, .int 0, .int 0])))[i]? = _
      rw [zn_Cat _ _ (Nat.lt_succ_self i), va_up_self]
    refine va_astq (D := D) (cl := zwCl) hx hb hK hP hD hS 4 tC (4 + 1 + i) 2 (r := (zR2, zT2, 13)) rfl hT hv rfl (i := nI i) (vp_in_nI (by omega) (by decide)) zd_LG_init_42 (fun H locs hP hD hS => ?_)
    rw [nI_clamp (show i < 2 ^ 31 by omega), zn_fup] at hP hD
    have hP : va_P D zwCl ((h0, .inr (0, [.ref h1, .ref a4, .null, .null, .null, .int 0, .int 0, .int 0, .int 0, .int 0, .int 0, .int 0])) :: (h1, e1) :: (a2, e2) :: (a3, e3) :: (a4, .inl (cC, 4, .inr (.inr (.inr (.inr (zn_f (va_up ca i q) (i + 1))))))) :: zn_C (va_up ca i q) (i + 1) (.inr (2, [.int 0, .int 0, .int 0, .int 0, .int 0, .int 0, .int 0, .int 0, .int 0, .int 0, .int 0, .int 0, .int 0]))) H := hP
    have hD : va_D A ((h0, .inr (0, [.ref h1, .ref a4, .null, .null, .null, .int 0, .int 0, .int 0, .int 0, .int 0, .int 0, .int 0])) :: (h1, e1) :: (a2, e2) :: (a3, e3) :: (a4, .inl (cC, 4, .inr (.inr (.inr (.inr (zn_f (va_up ca i q) (i + 1))))))) :: zn_C (va_up ca i q) (i + 1) (.inr (2, [.int 0, .int 0, .int 0, .int 0, .int 0, .int 0, .int 0, .int 0, .int 0, .int 0, .int 0, .int 0, .int 0]))) := hD
    refine lv_iinc (lv := [(0, .ref h0), (1, .int (nI i))]) (v := nI (i + 1)) (k := 1) hx hb zd_LG_init_43 hl rfl (by rw [nI_succ, lit1]) (by decide) rfl (fun ls' hl' => ?_)
    refine lv_goto (tgt := 25) hx hb zd_LG_init_46 rfl ?_
    refine W.cs (cells' := c0 + (i + 1)) (slots' := s0 + 13 * (i + 1)) (by omega) (by omega) ?_
    exact ih (i + 1) (by omega) (va_up ca i q) H locs ls' (lv_sub hl' [1, 0] rfl) hP hD hS
set_option maxRecDepth 100000 in
set_option maxHeartbeats 4000000 in
theorem zn_riders (S0 : CallFix p m c zo_LG_init 2 s args zwAll zR0) (hNw : va_Nw (.methodLinkNest zR0 33 zy_Ri_init "LiftGroup") s) (hK : va_K D zwCl tys s) (hA : ∀ q, s.heap.size ≤ q → A q) (tC : Nat) {cC : ClassId} (hT : tys[tC]? = some (cC, .object zR3)) {h0 h1 a2 a3 a4 a9 a10 b0 b1 b2 b3 : Nat} {e1 e2 e3 e4 e9 g0 g1 g2 g3 : va_E} {c0 s0 : Nat} (hR : 2 ≤ R.frames ∧ 34 ≤ R.locals) (hc : c0 + 24 ≤ R.cells) (hs : s0 + 144 ≤ R.slots)
    (kk : ∀ (ca : Nat → Nat) (H : Heap) (locs : List Loc) (ls : Array Slot), lv_has ls 2 [(0, .ref h0)] → va_P D zwCl ((h0, .inr (0, [.ref h1, .ref a4, .ref a9, .ref a10, .null, .int 0, .int 0, .int 0, .int 0, .int 0, .int 0, .int 0])) :: (h1, e1) :: (a2, e2) :: (a3, e3) :: (a4, e4) :: (b0, g0) :: (b1, g1) :: (b2, g2) :: (b3, g3) :: (a9, e9) :: (a10, .inl (cC, 24, .inr (.inr (.inr (.inr (zn_f ca 24)))))) :: zn_C ca 24 (.inr (3, [.int 0, .int 0, .int 0, .int 0, .int 0, .int 0]))) H → va_D A ((h0, .inr (0, [.ref h1, .ref a4, .ref a9, .ref a10, .null, .int 0, .int 0, .int 0, .int 0, .int 0, .int 0, .int 0])) :: (h1, e1) :: (a2, e2) :: (a3, e3) :: (a4, e4) :: (b0, g0) :: (b1, g1) :: (b2, g2) :: (b3, g3) :: (a9, e9) :: (a10, .inl (cC, 24, .inr (.inr (.inr (.inr (zn_f ca 24)))))) :: zn_C ca 24 (.inr (3, [.int 0, .int 0, .int 0, .int 0, .int 0, .int 0]))) → va_S A s.heap H locs → W p l e R s m args below meth c H locs (c0 + 24) (s0 + 144) Q (F0 m 96 ls [])) :
    ∀ (j i : Nat), i + j = 24 → ∀ (ca : Nat → Nat) (H : Heap) (locs : List Loc) (ls : Array Slot), lv_has ls 2 [(0, .ref h0), (1, .int (nI i))] → va_P D zwCl ((h0, .inr (0, [.ref h1, .ref a4, .ref a9, .ref a10, .null, .int 0, .int 0, .int 0, .int 0, .int 0, .int 0, .int 0])) :: (h1, e1) :: (a2, e2) :: (a3, e3) :: (a4, e4) :: (b0, g0) :: (b1, g1) :: (b2, g2) :: (b3, g3) :: (a9, e9) :: (a10, .inl (cC, 24, .inr (.inr (.inr (.inr (zn_f ca i)))))) :: zn_C ca i (.inr (3, [.int 0, .int 0, .int 0, .int 0, .int 0, .int 0]))) H → va_D A ((h0, .inr (0, [.ref h1, .ref a4, .ref a9, .ref a10, .null, .int 0, .int 0, .int 0, .int 0, .int 0, .int 0, .int 0])) :: (h1, e1) :: (a2, e2) :: (a3, e3) :: (a4, e4) :: (b0, g0) :: (b1, g1) :: (b2, g2) :: (b3, g3) :: (a9, e9) :: (a10, .inl (cC, 24, .inr (.inr (.inr (.inr (zn_f ca i)))))) :: zn_C ca i (.inr (3, [.int 0, .int 0, .int 0, .int 0, .int 0, .int 0]))) → va_S A s.heap H locs → W p l e R s m args below meth c H locs (c0 + i) (s0 + 6 * i) Q (F0 m 71 ls []) := by
  obtain ⟨hx, hb, hml, hown, hts⟩ := id S0
  intro j
  induction j with
  | zero =>
    intro i hi ca H locs ls hl hP hD hS
    obtain rfl : i = 24 := by omega
    refine lv_iload_n hx hb zd_LG_init_71 rfl (lv_at hl 1 rfl) ?_
    refine lv_bipush (v := 24) hx hb zd_LG_init_72 (by decide) ?_
    refine lv_icmp_ge (tgt := 96) hx hb zd_LG_init_74 rfl (fun _ => ?_) (fun h => absurd (by decide) h)
    exact kk ca H locs ls (lv_sub hl [0] rfl) hP hD hS
  | succ j ih =>
    intro i hi ca H locs ls hl hP hD hS
    refine lv_iload_n hx hb zd_LG_init_71 rfl (lv_at hl 1 rfl) ?_
    refine lv_bipush (v := 24) hx hb zd_LG_init_72 (by decide) ?_
    refine lv_icmp_ge (tgt := 96) hx hb zd_LG_init_74 rfl (fun h => absurd h (nI_ge (a := i) (b := 24) (by omega) (by decide))) (fun _ => ?_)
    refine lv_aload_n hx hb zd_LG_init_77 rfl (lv_at hl 0 rfl) ?_
    refine va_get (D := D) (ci := 0) (fs := [.ref h1, .ref a4, .ref a9, .ref a10, .null, .int 0, .int 0, .int 0, .int 0, .int 0, .int 0, .int 0]) (v := .ref a10) (C := zR0) (T := zT0) (N := 12) hx hb hts zw_in0 hown hK hP 0 rfl rfl 3 (by decide) (hts _ zn_f29) (fun _ h9 => h9) rfl zd_LG_init_78 ?_
    refine lv_iload_n hx hb zd_LG_init_81 rfl (lv_at hl 1 rfl) ?_
    refine zn_mk (S := (Nat → Nat) × (Nat → ClassId)) (ci := 3) (N := 6) (ik := 27) (iL := 33) (C := zR3) (T := zT3) (ty := zY3) (fs := [.int 0, .int 0, .int 0, .int 0, .int 0, .int 0]) (y := zy_Ri_init) (bytes := zo_Ri_init) (maxL := 1) (mc := 0) (ms := 0) (rm := zrm_Ri_init) (post := fun h0 u => [(h0, .inr (3, [.int 0, .int 0, .int 0, .int 0, .int 0, .int 0]))]) (tysP := fun u => []) S0 hl.1 (fun h0 sz => zi_Ri_init l D h0 sz) zw_in3 zw_ty3 rfl (by decide +kernel) zn_Ri_init_1 zn_Ri_init_2 zn_Ri_init_3 zn_Ri_init_4 zn_Ri_init_5 hNw rfl rfl (by decide +kernel) rfl rfl ⟨by show 1 + 1 ≤ _; omega, by show 8 + (1 + 11) + 14 ≤ _; omega⟩ (Nat.le_of_ble_eq_true rfl) (by omega) (by omega) zd_LG_init_82 zd_LG_init_85 zd_LG_init_86 hK hP hD hS hA (fun q u H locs hK2 hP hD hS => ?_)
    have hP : va_P D zwCl ((h0, .inr (0, [.ref h1, .ref a4, .ref a9, .ref a10, .null, .int 0, .int 0, .int 0, .int 0, .int 0, .int 0, .int 0])) :: (h1, e1) :: (a2, e2) :: (a3, e3) :: (a4, e4) :: (b0, g0) :: (b1, g1) :: (b2, g2) :: (b3, g3) :: (a9, e9) :: (a10, .inl (cC, 24, .inr (.inr (.inr (.inr (zn_f ca i)))))) :: (zn_C ca i (.inr (3, [.int 0, .int 0, .int 0, .int 0, .int 0, .int 0])) ++ [(q, .inr (3, [.int 0, .int 0, .int 0, .int 0, .int 0, .int 0]))])) H := hP
    have hD : va_D A ((h0, .inr (0, [.ref h1, .ref a4, .ref a9, .ref a10, .null, .int 0, .int 0, .int 0, .int 0, .int 0, .int 0, .int 0])) :: (h1, e1) :: (a2, e2) :: (a3, e3) :: (a4, e4) :: (b0, g0) :: (b1, g1) :: (b2, g2) :: (b3, g3) :: (a9, e9) :: (a10, .inl (cC, 24, .inr (.inr (.inr (.inr (zn_f ca i)))))) :: (zn_C ca i (.inr (3, [.int 0, .int 0, .int 0, .int 0, .int 0, .int 0])) ++ [(q, .inr (3, [.int 0, .int 0, .int 0, .int 0, .int 0, .int 0]))])) := hD
    rw [zn_snoc] at hP hD
    have hv : ((h0, .inr (0, [.ref h1, .ref a4, .ref a9, .ref a10, .null, .int 0, .int 0, .int 0, .int 0, .int 0, .int 0, .int 0])) :: (h1, e1) :: (a2, e2) :: (a3, e3) :: (a4, e4) :: (b0, g0) :: (b1, g1) :: (b2, g2) :: (b3, g3) :: (a9, e9) :: (a10, .inl (cC, 24, .inr (.inr (.inr (.inr (zn_f ca i)))))) :: zn_C (va_up ca i q) (i + 1) (.inr (3, [.int 0, .int 0, .int 0, .int 0, .int 0, .int 0])) : va_W)[10 + 1 + i]? = some (q, .inr (3, [.int 0, .int 0, .int 0, .int 0, .int 0, .int 0])) := by
      rw [show 10 + 1 + i = i + 11 by omega]
      show (zn_C (va_up ca i q) (i + 1) (.inr (3, [.int 0, .int 0, .int 0, .int 0, .int 0, .int 0])))[i]? = _
      rw [zn_Cat _ _ (Nat.lt_succ_self i), va_up_self]
    refine va_astq (D := D) (cl := zwCl) hx hb hK hP hD hS 10 tC (10 + 1 + i) 3 (r := (zR3, zT3, 6)) rfl hT hv rfl (i := nI i) (vp_in_nI (by omega) (by decide)) zd_LG_init_89 (fun H locs hP hD hS => ?_)
    rw [nI_clamp (show i < 2 ^ 31 by omega), zn_fup] at hP hD
    have hP : va_P D zwCl ((h0, .inr (0, [.ref h1, .ref a4, .ref a9, .ref a10, .null, .int 0, .int 0, .int 0, .int 0, .int 0, .int 0, .int 0])) :: (h1, e1) :: (a2, e2) :: (a3, e3) :: (a4, e4) :: (b0, g0) :: (b1, g1) :: (b2, g2) :: (b3, g3) :: (a9, e9) :: (a10, .inl (cC, 24, .inr (.inr (.inr (.inr (zn_f (va_up ca i q) (i + 1))))))) :: zn_C (va_up ca i q) (i + 1) (.inr (3, [.int 0, .int 0, .int 0, .int 0, .int 0, .int 0]))) H := hP
    have hD : va_D A ((h0, .inr (0, [.ref h1, .ref a4, .ref a9, .ref a10, .null, .int 0, .int 0, .int 0, .int 0, .int 0, .int 0, .int 0])) :: (h1, e1) :: (a2, e2) :: (a3, e3) :: (a4, e4) :: (b0, g0) :: (b1, g1) :: (b2, g2) :: (b3, g3) :: (a9, e9) :: (a10, .inl (cC, 24, .inr (.inr (.inr (.inr (zn_f (va_up ca i q) (i + 1))))))) :: zn_C (va_up ca i q) (i + 1) (.inr (3, [.int 0, .int 0, .int 0, .int 0, .int 0, .int 0]))) := hD
    refine lv_iinc (lv := [(0, .ref h0), (1, .int (nI i))]) (v := nI (i + 1)) (k := 1) hx hb zd_LG_init_90 hl rfl (by rw [nI_succ, lit1]) (by decide) rfl (fun ls' hl' => ?_)
    refine lv_goto (tgt := 71) hx hb zd_LG_init_93 rfl ?_
    refine W.cs (cells' := c0 + (i + 1)) (slots' := s0 + 6 * (i + 1)) (by omega) (by omega) ?_
    exact ih (i + 1) (by omega) (va_up ca i q) H locs ls' (lv_sub hl' [1, 0] rfl) hP hD hS
end ZO
