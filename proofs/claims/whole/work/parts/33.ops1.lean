def zI2 (j : Nat) (sc sr : zS) : Prop := ∃ F p m n t k o, zInv F p m n t k o (fun _ => false) sc sr ∧ t ≤ 1000 * j ∧ k ≤ 100000 * j ∧ o ≤ 1000 * j
def zOp (j : Nat) (fC : zS → Option (Nat × Int32 × zS)) (fM : zS → Option (Int32 × zS)) (okc : Nat → Prop) (cv : Nat → Int32) : Prop :=
  ∀ sc sr, zI2 j sc sr → ∃ code v sc' v' sr', fC sc = some (code, v, sc') ∧ fM sr = some (v', sr') ∧ okc code ∧ sr' 40 0 = cv code ∧ (code = 0 → v = v') ∧ zI2 (j + 1) sc' sr' ∧ hiF sc sc' ∧ (∀ q, q < 40 → sr' q = sr q) ∧ sr' 56 = sr 56
section OP
variable {N F p m n t k o c j : Nat} {T : Nat → Bool} {sc sr : zS}
theorem zInv_thr (v : Int32) (h : zInv F p m n t k o T sc sr) : zInv F p m n t k o T sc (zp sr 40 0 v) := zInv_fr h (fun _ _ _ => rfl) (fun q j _ _ h3 _ _ => by unfold zp; rw [if_neg h3])
theorem m_in (a lo hi : Int32) (s : zS) : zf_Mo_in N a lo hi s = some (if a < lo then 0 else if hi < a then 0 else 1, s) := by
  unfold zf_Mo_in zf_Mo_in_14 zf_Mo_in_15
  by_cases h1 : a < lo
  · simp [h1]
  · by_cases h2 : hi < a <;> simp [h1, h2]
theorem m_refuse (a b : Int32) (s : zS) : zf_Mo_refuse N a b s = some (if a = 0 then (if b = 0 then 0 else 1) else 1, zp s 40 0 (if a = 0 then (if b = 0 then 0 else 2) else 1)) := by
  unfold zf_Mo_refuse zf_Mo_refuse_18 zf_Mo_refuse_33
  by_cases h1 : a = 0
  · by_cases h2 : b = 0 <;> simp [h1, h2]
  · simp [h1]
theorem num_cases (a : Int32) (m : Nat) (hm : m < 1000) : (∃ c, c < m ∧ a = zi c) ∨ ((a < 0 ∨ ¬ a < zi m) ∧ (a < 0 ∨ zi m - 1 < a)) := by
  by_cases h0 : a < 0
  · exact Or.inr ⟨Or.inl h0, Or.inl h0⟩
  · obtain ⟨c, hc, rfl⟩ := zi_of (x := a) (by rw [← Int32.not_lt]; exact h0)
    by_cases h1 : c < m
    · exact Or.inl ⟨c, h1, rfl⟩
    · refine Or.inr ⟨Or.inr (fun h => h1 ((zi_lt (by omega) (by omega)).mp h)), Or.inr ?_⟩
      rw [Int32.lt_iff_toInt_lt, Int32.toInt_sub, zi_int (by omega), zi_int (by omega)]
      have : (1 : Int32).toInt = 1 := by decide
      rw [this]
      simp only [Int.bmod]
      omega
theorem num_in {m c : Nat} (hm : m < 1000) (hc : c < m) : ¬ zi c < 0 ∧ zi c < zi m ∧ ¬ zi m - 1 < zi c := by
  refine ⟨zi_neg (by omega), (zi_lt (by omega) (by omega)).mpr hc, ?_⟩
  have e : zi m - 1 = zi (m - 1) := zi_sub (b := 1) (by omega)
  rw [e]
  intro h
  have := (zi_lt (by omega) (by omega)).mp h
  omega
theorem c_car_ok (hm : m ≤ 4) (h5 : sc 0 5 = zi m) (hc : c < m) : zf_LG_carNumbered N (zi c) sc = some (0, 5 + c, sc) := by
  unfold zf_LG_carNumbered zf_LG_carNumbered_12
  obtain ⟨h1, h2, -⟩ := num_in (show m < 1000 by omega) hc
  have i4 : ¬ (zi c < 0 ∨ 4 ≤ c) := zi_inn (by omega) (by decide)
  rw [if_neg h1, h5, if_pos h2, zi_nat (by omega), if_neg i4]
theorem c_car_no {a : Int32} (h5 : sc 0 5 = zi m) (h : a < 0 ∨ ¬ a < zi m) : zf_LG_carNumbered N a sc = some (4, 0, sc) := by
  unfold zf_LG_carNumbered zf_LG_carNumbered_12
  rw [h5]
  by_cases h0 : a < 0
  · rw [if_pos h0]
  · rw [if_neg h0, if_neg (h.resolve_left h0)]
theorem m_noCar_ok (hm : m ≤ 4) (h2 : sr 40 2 = zi m) (hc : c < m) : zf_Mo_noCar N (zi c) sr = some (0, zp sr 40 0 0) := by
  unfold zf_Mo_noCar zf_Mo_noCar_20
  obtain ⟨h1, -, h3⟩ := num_in (show m < 1000 by omega) hc
  simp only [m_in, h2, if_neg h1, if_neg h3, Option.bind_some, m_refuse]
  simp
theorem m_noCar_no {a : Int32} (h2 : sr 40 2 = zi m) (h : a < 0 ∨ zi m - 1 < a) : zf_Mo_noCar N a sr = some (1, zp sr 40 0 1) := by
  unfold zf_Mo_noCar zf_Mo_noCar_20
  have e : (if a < 0 then (0 : Int32) else if zi m - 1 < a then 0 else 1) = 0 := by
    by_cases h0 : a < 0
    · rw [if_pos h0]
    · rw [if_neg h0, if_pos (h.resolve_left h0)]
  simp only [m_in, h2, e, Option.bind_some, m_refuse]
  simp
theorem st_cars (hN : 60 ≤ N) {l1 l2 : Int32} {rC : Int32 → Int32 → zS → Option (Nat × zS)} {rM : Int32 → Int32 → zS → Option zS} :
    ∀ (kk c fc fr k o : Nat) (sc sr : zS), c + kk = m → kk < fc → kk < fr → o + kk < 900000000 → k + 72 * kk < 800000000 → zInv F p m n t k o (fun _ => false) sc sr →
    ∃ sc' sr' k', zf_LG_step_40 N rC fc l1 l2 (zi c) sc = rC l1 (l2 + 1) sc' ∧ zf_Mo_step_44 N rM fr l1 l2 (zi c) sr = rM l1 (l2 + 1) sr' ∧ k' ≤ k + 72 * kk ∧ zInv F p m n t k' (o + kk) (fun _ => false) sc' sr' ∧ hiF sc sc' ∧ loF sr sr' := by
  intro kk
  induction kk with
  | zero =>
    intro c fc fr k o sc sr hc hfc hfr ho hk hI
    obtain ⟨fc, rfl⟩ : ∃ f', fc = f' + 1 := ⟨fc - 1, by omega⟩
    obtain ⟨fr, rfl⟩ : ∃ f', fr = f' + 1 := ⟨fr - 1, by omega⟩
    obtain ⟨-, s2, s3, s4, s5, s6, s7⟩ := id hI.1
    have hcm : c = m := by omega
    subst hcm
    refine ⟨sc, sr, k, ?_, ?_, by omega, hI, hiF.refl _, loF.refl _⟩
    · show zb_LG_step_40 N _ _ _ _ _ _ = _
      unfold zb_LG_step_40
      rw [s5.1, if_pos (Int32.le_refl _)]
    · show zb_Mo_step_44 N _ _ _ _ _ _ = _
      unfold zb_Mo_step_44
      rw [s5.2, if_pos (Int32.le_refl _)]
  | succ kk ih =>
    intro c fc fr k o sc sr hc hfc hfr ho hk hI
    obtain ⟨fc, rfl⟩ : ∃ f', fc = f' + 1 := ⟨fc - 1, by omega⟩
    obtain ⟨fr, rfl⟩ : ∃ f', fr = f' + 1 := ⟨fr - 1, by omega⟩
    obtain ⟨⟨f2, f10, p1, p5, m1, m4, n24⟩, s2, s3, s4, s5, s6, s7⟩ := id hI.1
    have hcm : c < m := by omega
    obtain ⟨⟨d0, d1, d2, d3, d4, d5, d6, d7⟩, -⟩ := id (hI.2.2.2.1 c hcm)
    have gm : ¬ (zi m ≤ zi c) := fun h => by have := (zi_le (by omega) (by omega)).mp h; omega
    have i4 : ¬ (zi c < 0 ∨ 4 ≤ c) := zi_inn (by omega) (by decide)
    have i5 : ¬ (zi c < 0 ∨ 5 ≤ c) := zi_inn (by omega) (by decide)
    have e1 : zf_LG_step_40 N rC (fc + 1) l1 l2 (zi c) sc = if sc (5 + c) 6 = 0 then ((zf_Ca_advance N (5 + c) sc).bind fun t70 => ((zf_LG_noteExchange N (zi c) t70).bind fun t75 => zf_LG_step_40 N rC fc l1 l2 (zi (c + 1)) t75)) else zf_LG_step_40 N rC fc l1 l2 (zi (c + 1)) sc := by
      show zb_LG_step_40 N _ _ _ _ _ _ = _
      unfold zb_LG_step_40 zf_LG_step_78
      rw [s5.1, if_neg gm]
      simp only [zi_nat (show c < 2147483648 by omega), i4, if_false, zi_succ]
    have e2 : zf_Mo_step_44 N rM (fr + 1) l1 l2 (zi c) sr = if sc (5 + c) 6 = 0 then ((zf_Mo_stepCar N (zi c) (zi 0) sr).bind fun t64 => zf_Mo_step_44 N rM fr l1 l2 (zi (c + 1)) t64) else zf_Mo_step_44 N rM fr l1 l2 (zi (c + 1)) sr := by
      show zb_Mo_step_44 N _ _ _ _ _ _ = _
      unfold zb_Mo_step_44 zf_Mo_step_67
      rw [s5.2, if_neg gm]
      simp only [zi_nat (show c < 2147483648 by omega), i5, if_false, zi_succ, ← d6]
      rfl
    rw [e1, e2]
    by_cases h6 : sc (5 + c) 6 = 0
    · rw [if_pos h6, if_pos h6]
      obtain ⟨sc1, sc', sr', k', a1, a2, a3, a4, a5, a6, a7⟩ := st_car (N := N) hN (by omega) (by omega) hI hcm
      rw [a1]
      simp only [Option.bind_some]
      rw [a2, a3]
      simp only [Option.bind_some]
      obtain ⟨sc2, sr2, k2, b1, b2, b3, b4, b5, b6⟩ := ih (c + 1) fc fr k' (o + 1) sc' sr' (by omega) (by omega) (by omega) (by omega) (by omega) a5
      refine ⟨sc2, sr2, k2, b1, b2, by omega, ?_, a6.trans b5, a7.trans b6⟩
      rw [show o + (kk + 1) = o + 1 + kk by omega]
      exact b4
    · rw [if_neg h6, if_neg h6]
      have hI' : zInv F p m n t k (o + 1) (fun _ => false) sc sr := by
        obtain ⟨hS, hR, hH, hC, hN', hT, hL, hA⟩ := hI
        refine ⟨hS, hR, hH, fun c' hc' => ?_, hN', hT, hL, hA⟩
        obtain ⟨x1, x2, x3, x4, x5, x6⟩ := hC c' hc'
        exact ⟨x1, x2, rOK_up (by omega) x3, x4, x5, x6⟩
      obtain ⟨sc2, sr2, k2, b1, b2, b3, b4, b5, b6⟩ := ih (c + 1) fc fr k (o + 1) sc sr (by omega) (by omega) (by omega) (by omega) (by omega) hI'
      refine ⟨sc2, sr2, k2, b1, b2, by omega, ?_, b5, b6⟩
      rw [show o + (kk + 1) = o + 1 + kk by omega]
      exact b4
theorem zInv_tick (hI : zInv F p m n t k o T sc sr) : zInv F p m n (t + 1) k o T (zp sc 0 8 (zi (t + 1))) (zp sr 40 20 (zi (t + 1))) := by
  obtain ⟨hS, hR, hH, hC, hN, hT, hL, hA⟩ := hI
  obtain ⟨s1, s2, s3, s4, s5, s6, s7⟩ := hS
  have q : ∀ a, a ≠ 0 → zp sc 0 8 (zi (t + 1)) a = sc a := fun a h => zp_row _ _ h
  have q0 : ∀ i, i ≠ 8 → zp sc 0 8 (zi (t + 1)) 0 i = sc 0 i := fun i h => zp_o _ _ h
  have r : ∀ a, a ≠ 40 → zp sr 40 20 (zi (t + 1)) a = sr a := fun a h => zp_row _ _ h
  have r0 : ∀ i, i ≠ 20 → zp sr 40 20 (zi (t + 1)) 40 i = sr 40 i := fun i h => zp_o _ _ h
  refine ⟨⟨s1, ?_, ?_, ?_, ?_, ?_, ⟨zp_s _ _ _ _, zp_s _ _ _ _⟩⟩, fun r' h9 => ?_, fun f r' hf => ?_, fun c' hc' => ?_, fun r' => ?_, fun r' h9 => ?_, ?_, ?_⟩
  · rw [q 1 (by decide), r0 _ (by decide)]; exact s2
  · rw [q 1 (by decide), r0 _ (by decide)]; exact s3
  · rw [q 1 (by decide), r0 _ (by decide)]; exact s4
  · rw [q0 _ (by decide), r0 _ (by decide)]; exact s5
  · rw [q0 _ (by decide), r0 _ (by decide)]; exact s6
  · rw [q (11 + r') (by omega), r 51 (by decide), r 52 (by decide), r 49 (by decide), r 50 (by decide), r 53 (by decide), r 54 (by decide)]
    exact hR r' h9
  · exact hH f r' hf
  · obtain ⟨d1, d2, d3, d4, d5, d6⟩ := hC c' hc'
    unfold iC1 iU
    rw [q (5 + c') (by omega), q 1 (by decide), r 41 (by decide), r 42 (by decide), r 43 (by decide), r 44 (by decide), r 45 (by decide), r 46 (by decide), r 47 (by decide), r 48 (by decide)]
    exact ⟨d1, d2, d3, d4, d5, d6⟩
  · rw [q0 _ (by decide)]; exact hN r'
  · obtain ⟨a, b, d⟩ := hT r' h9
    refine ⟨a, b, ?_⟩
    rcases d with d | ⟨c', h1, h2, h3⟩
    · exact Or.inl d
    · refine Or.inr ⟨c', h1, h2, ?_⟩
      unfold iU
      rw [q (5 + c') (by omega), q 1 (by decide)]
      exact h3
  · obtain ⟨a, b, d⟩ := hL
    refine ⟨by rw [q 35 (by decide)]; exact a, by rw [r0 _ (by decide)]; exact b, fun i hi => ?_⟩
    rw [q 36 (by decide), q 37 (by decide), q 38 (by decide), q 39 (by decide), r 55 (by decide)]
    exact d i hi
  · unfold iA
    rw [q0 _ (by decide), q0 _ (by decide), q0 _ (by decide), r 49 (by decide), r 54 (by decide)]
    exact hA
theorem st_steps (hN : 300 ≤ N) {J : Nat} (hJ : J ≤ 200) :
    ∀ (kk i fc fr t k o : Nat) (sc sr : zS), i + kk = J → kk < fc → kk < fr → t + kk < 900000000 → o + 4 * kk < 900000000 → k + 288 * kk < 800000000 → zInv F p m n t k o (fun _ => false) sc sr →
    ∃ sc' sr' k' o', zf_LG_step_23 N fc (zi J) (zi i) sc = some (0, sc') ∧ zf_Mo_step_27 N fr (zi J) (zi i) sr = some sr' ∧ k' ≤ k + 288 * kk ∧ o' ≤ o + 4 * kk ∧ zInv F p m n (t + kk) k' o' (fun _ => false) sc' sr' ∧ hiF sc sc' ∧ loF sr sr' := by
  intro kk
  induction kk with
  | zero =>
    intro i fc fr t k o sc sr hi hfc hfr ht ho hk hI
    obtain ⟨fc, rfl⟩ : ∃ f', fc = f' + 1 := ⟨fc - 1, by omega⟩
    obtain ⟨fr, rfl⟩ : ∃ f', fr = f' + 1 := ⟨fr - 1, by omega⟩
    have : i = J := by omega
    subst this
    refine ⟨sc, sr, k, o, ?_, ?_, by omega, by omega, hI, hiF.refl _, loF.refl _⟩
    · show zb_LG_step_23 N _ _ _ _ = _
      unfold zb_LG_step_23
      rw [if_pos (Int32.le_refl _)]
    · show zb_Mo_step_27 N _ _ _ _ = _
      unfold zb_Mo_step_27
      rw [if_pos (Int32.le_refl _)]
  | succ kk ih =>
    intro i fc fr t k o sc sr hi hfc hfr ht ho hk hI
    obtain ⟨fc, rfl⟩ : ∃ f', fc = f' + 1 := ⟨fc - 1, by omega⟩
    obtain ⟨fr, rfl⟩ : ∃ f', fr = f' + 1 := ⟨fr - 1, by omega⟩
    obtain ⟨⟨f2, f10, p1, p5, m1, m4, n24⟩, s2, s3, s4, s5, s6, s7⟩ := id hI.1
    have gJ : ¬ (zi J ≤ zi i) := fun h => by have := (zi_le (by omega) (by omega)).mp h; omega
    have e1 : zf_LG_step_23 N (fc + 1) (zi J) (zi i) sc = zf_LG_step_40 N (zf_LG_step_23 N fc) N (zi J) (zi i) (zi 0) (zp sc 0 8 (zi (t + 1))) := by
      show zb_LG_step_23 N _ _ _ _ = _
      unfold zb_LG_step_23
      rw [if_neg gJ, s7.1, zi_succ]
      rfl
    have e2 : zf_Mo_step_27 N (fr + 1) (zi J) (zi i) sr = zf_Mo_step_44 N (zf_Mo_step_27 N fr) N (zi J) (zi i) (zi 0) (zp sr 40 20 (zi (t + 1))) := by
      show zb_Mo_step_27 N _ _ _ _ = _
      unfold zb_Mo_step_27
      rw [if_neg gJ, s7.2, zi_succ]
      rfl
    rw [e1, e2]
    obtain ⟨sc1, sr1, k1, a1, a2, a3, a4, a5, a6⟩ := st_cars (N := N) (l1 := zi J) (l2 := zi i) (rC := zf_LG_step_23 N fc) (rM := zf_Mo_step_27 N fr) (by omega) m 0 N N k o _ _ (by omega) (by omega) (by omega) (by omega) (by omega) (zInv_tick hI)
    rw [a1, a2, zi_succ]
    obtain ⟨sc2, sr2, k2, o2, b1, b2, b3, b4, b5, b6, b7⟩ := ih (i + 1) fc fr (t + 1) k1 (o + m) sc1 sr1 (by omega) (by omega) (by omega) (by omega) (by omega) (by omega) a4
    refine ⟨sc2, sr2, k2, o2, b1, b2, by omega, by omega, ?_, (hiF_zp (by decide)).trans (a5.trans b6), (loF_zp (by decide) (by decide) (Or.inr (by decide))).trans (a6.trans b7)⟩
    rw [show t + (kk + 1) = t + 1 + kk by omega]
    exact b5
theorem op_step (hN : 300 ≤ N) (hj : j ≤ 600) (a : Int32) : zOp j (fun s => (zf_LG_step N a s).map (fun y => (y.1, 0, y.2))) (fun s => (zf_Mo_step N a s).map (fun y => (0, y))) (fun x => x = 0 ∨ x = 1) (fun x => if x = 0 then 0 else 1) := by
  intro sc sr ⟨F, p, m, n, t, k, o, hI, ht, hk, ho⟩
  have bad : (a < 0 ∨ ¬ a ≤ 200) → zf_LG_step N a sc = some (1, sc) ∧ zf_Mo_step N a sr = some (zp sr 40 0 1) := fun h => by
    constructor
    · unfold zf_LG_step zf_LG_step_11
      by_cases h0 : a < 0
      · rw [if_pos h0]
      · rw [if_neg h0, if_neg (h.resolve_left h0)]
    · unfold zf_Mo_step zf_Mo_step_17
      have e : (if a < 0 then (0 : Int32) else if 200 < a then 0 else 1) = 0 := by
        by_cases h0 : a < 0
        · rw [if_pos h0]
        · rw [if_neg h0, if_pos (by rw [← Int32.not_le]; exact h.resolve_left h0)]
      simp only [m_in, e, Option.bind_some, m_refuse]
      simp
  by_cases h : a < 0 ∨ ¬ a ≤ 200
  · obtain ⟨e1, e2⟩ := bad h
    refine ⟨1, 0, sc, 0, zp sr 40 0 1, by simp only [e1, Option.map_some], by simp only [e2, Option.map_some], Or.inr rfl, by simp [zp], fun h => absurd h (by decide), ⟨F, p, m, n, t, k, o, zInv_thr _ hI, by omega, by omega, by omega⟩, hiF.refl _, fun q hq => zp_row _ _ (by omega), zp_row _ _ (by decide)⟩
  · have h0 : ¬ a < 0 := fun x => h (Or.inl x)
    have h2 : a ≤ 200 := Classical.byContradiction (fun x => h (Or.inr x))
    obtain ⟨J, hJ, rfl⟩ := zi_of (x := a) (by rw [← Int32.not_lt]; exact h0)
    have hJ2 : J ≤ 200 := (zi_le (b := 200) (by omega) (by decide)).mp h2
    obtain ⟨sc', sr', k', o', a1, a2, a3, a4, a5, a6, a7⟩ := st_steps (N := N) hN hJ2 J 0 N N t k o sc (zp sr 40 0 0) (by omega) (by omega) (by omega) (by omega) (by omega) (by omega) (zInv_thr 0 hI)
    have e1 : zf_LG_step N (zi J) sc = some (0, sc') := by
      unfold zf_LG_step
      rw [if_neg h0, if_pos h2]
      exact a1
    have e2 : zf_Mo_step N (zi J) sr = some sr' := by
      unfold zf_Mo_step zf_Mo_step_17
      have e : (if zi J < 0 then (0 : Int32) else if 200 < zi J then 0 else 1) = 1 := by
        rw [if_neg h0, if_neg (by rw [Int32.not_lt]; exact h2)]
      simp only [m_in, e, Option.bind_some, m_refuse]
      simp
      exact a2
    refine ⟨0, 0, sc', 0, sr', by simp only [e1, Option.map_some], by simp only [e2, Option.map_some], Or.inl rfl, by rw [a7.2.2]; simp [zp], fun _ => rfl, ⟨F, p, m, n, t + J, k', o', a5, by omega, by omega, by omega⟩, a6, fun q hq => by rw [a7.1 q hq]; exact zp_row _ _ (by omega), by rw [a7.2.1]; exact zp_row _ _ (by decide)⟩
end OP
