section OD
variable {N F p m n t k o c j : Nat} {T T' : Nat → Bool} {sc sr : zS}
theorem zInv_flag {i : Nat} {v w : Int32} (hi : i = 5 ∨ i = 6 ∨ i = 7) (hv : v = 0 ∨ v = 1) (hc : c < m) (hI : zInv F p m n t k o (fun _ => false) sc sr)
    (hw : ∀ r, zbit w r = (decide (r < n) && mW sr c 0 r && !T' r)) (h9 : iU (zp sc (5 + c) i v) c ∨ w = 0) (hT' : ∀ r, T' r = true → r < n ∧ sr 49 r = 0 ∧ sr 50 r = zi c ∧ ¬ iU (zp sc (5 + c) i v) c) :
    zInv F p m n t k o T' (zp (zp sc (5 + c) i v) (5 + c) 9 w) (zp sr (41 + i) c v) := by
  obtain ⟨⟨⟨f2, f10, p1, p5, m1, m4, n24⟩, s2, s3, s4, s5, s6, s7⟩, hR, hH, hC, hN, hT, hL, hA⟩ := hI
  have q : ∀ a, a ≠ 5 + c → zp (zp sc (5 + c) i v) (5 + c) 9 w a = sc a := fun a h => by rw [zp_row _ _ h, zp_row _ _ h]
  have r' : ∀ a, a ≠ 41 + i → zp sr (41 + i) c v a = sr a := fun a h => zp_row _ _ h
  have bz : ∀ a b : Nat, a < 4 → b < 4 → (zi a = zi b ↔ a = b) := fun a b h1 h2 => zi_eq (by omega) (by omega)
  have u9 : ∀ c', iU (zp (zp sc (5 + c) i v) (5 + c) 9 w) c' ↔ iU (zp sc (5 + c) i v) c' := fun c' => by
    unfold iU
    have : ∀ a x, x ≠ 9 → zp (zp sc (5 + c) i v) (5 + c) 9 w a x = zp sc (5 + c) i v a x := fun a x h => by
      by_cases e : a = 5 + c
      · subst e; rw [zp_o _ _ h]
      · rw [zp_row _ _ e]
    rw [this _ 5 (by decide), this _ 6 (by decide), this _ 4 (by decide)]
  refine ⟨⟨⟨f2, f10, p1, p5, m1, m4, n24⟩, ?_, ?_, ?_, ?_, ?_, ?_⟩, fun r hr => ?_, fun f' r hf' => ?_, fun c' hc' => ?_, fun r => ?_, fun r hr => ?_, ?_, ?_⟩
  · rw [q 1 (by omega), r' 40 (by omega)]; exact s2
  · rw [q 1 (by omega), r' 40 (by omega)]; exact s3
  · rw [q 1 (by omega), r' 40 (by omega)]; exact s4
  · rw [q 0 (by omega), r' 40 (by omega)]; exact s5
  · rw [q 0 (by omega), r' 40 (by omega)]; exact s6
  · rw [q 0 (by omega), r' 40 (by omega)]; exact s7
  · rw [q (11 + r) (by omega), r' 51 (by omega), r' 52 (by omega), r' 49 (by omega), r' 50 (by omega), r' 53 (by omega), r' 54 (by omega)]
    exact hR r hr
  · rw [q 2 (by omega), q 3 (by omega), r' 51 (by omega), r' 52 (by omega)]; exact hH f' r hf'
  · have eA : mA (zp sr (41 + i) c v) c' 0 = mA sr c' 0 := by unfold mA; rw [r' 49 (by omega), r' 50 (by omega)]
    have eW : mW (zp sr (41 + i) c v) c' 0 = mW sr c' 0 := by unfold mW; rw [r' 49 (by omega), r' 50 (by omega)]
    unfold iC1
    rw [eA, eW, u9]
    by_cases e : c' = c
    · subst e
      obtain ⟨⟨a0, a1, a2, a3, a4, a5, a6, a7⟩, ⟨b5, b6, b7⟩, d3, d4, d5, d6⟩ := hC c' hc'
      have row : ∀ x, x ≠ i → x ≠ 9 → zp (zp sc (5 + c') i v) (5 + c') 9 w (5 + c') x = sc (5 + c') x := fun x h1 h2 => by rw [zp_o _ _ h2, zp_o _ _ h1]
      have at' : i ≠ 9 → zp (zp sc (5 + c') i v) (5 + c') 9 w (5 + c') i = v := fun h => by rw [zp_o _ _ h, zp_s]
      have ok : rOK F o (zp (zp sc (5 + c') i v) (5 + c') 9 w (5 + c')) := by
        unfold rOK
        rw [row 0 (by omega) (by omega), row 1 (by omega) (by omega), row 2 (by omega) (by omega), row 3 (by omega) (by omega), row 4 (by omega) (by omega)]
        exact d3
      have nine : zp (zp sc (5 + c') i v) (5 + c') 9 w (5 + c') 9 = w := zp_s _ _ _ _
      rw [nine, row 8 (by omega) (by omega)]
      refine ⟨?_, ?_, ok, d4, hw, h9⟩
      · rw [row 0 (by omega) (by omega), row 1 (by omega) (by omega), row 2 (by omega) (by omega), row 3 (by omega) (by omega), row 4 (by omega) (by omega), r' 41 (by omega), r' 42 (by omega), r' 43 (by omega), r' 44 (by omega), r' 45 (by omega)]
        rcases hi with rfl | rfl | rfl
        · rw [at' (by decide), row 6 (by decide) (by decide), row 7 (by decide) (by decide), r' 47 (by decide), r' 48 (by decide)]
          exact ⟨a0, a1, a2, a3, a4, (zp_s _ _ _ _).symm, a6, a7⟩
        · rw [at' (by decide), row 5 (by decide) (by decide), row 7 (by decide) (by decide), r' 46 (by decide), r' 48 (by decide)]
          exact ⟨a0, a1, a2, a3, a4, a5, (zp_s _ _ _ _).symm, a7⟩
        · rw [at' (by decide), row 5 (by decide) (by decide), row 6 (by decide) (by decide), r' 46 (by decide), r' 47 (by decide)]
          exact ⟨a0, a1, a2, a3, a4, a5, a6, (zp_s _ _ _ _).symm⟩
      · rcases hi with rfl | rfl | rfl
        · rw [at' (by decide), row 6 (by decide) (by decide), row 7 (by decide) (by decide)]; exact ⟨hv, b6, b7⟩
        · rw [at' (by decide), row 5 (by decide) (by decide), row 7 (by decide) (by decide)]; exact ⟨b5, hv, b7⟩
        · rw [at' (by decide), row 5 (by decide) (by decide), row 6 (by decide) (by decide)]; exact ⟨b5, b6, hv⟩
    · obtain ⟨⟨a0, a1, a2, a3, a4, a5, a6, a7⟩, b, d3, d4, d5, d6⟩ := hC c' hc'
      have rr : ∀ a, zp sr (41 + i) c v a c' = sr a c' := fun a => by unfold zp; rw [if_neg (by omega)]
      have uc : iU (zp sc (5 + c) i v) c' ↔ iU sc c' := by unfold iU; rw [zp_row _ _ (show 5 + c' ≠ 5 + c by omega), zp_row _ _ (show 1 ≠ 5 + c by omega)]
      rw [q (5 + c') (by omega), rr, rr, rr, rr, rr, rr, rr, rr, uc]
      refine ⟨⟨a0, a1, a2, a3, a4, a5, a6, a7⟩, b, d3, d4, fun r => ?_, d6⟩
      rw [d5]
      cases h : T' r with
      | false => simp
      | true =>
        have := (hT' r h).2.2.1
        have : mW sr c' 0 r = false := by
          unfold mW
          rw [Nat.zero_add, this]
          have : ¬ (zi c = zi c') := fun h => e ((bz c c' (by omega) (by omega)).mp h).symm
          simp [this]
        simp [this]
  · rw [q 0 (by omega), r' 49 (by omega), r' 50 (by omega), hN]
    cases h : T' r with
    | false => simp
    | true =>
      have h5 := (hT' r h).2.2.1
      have : ¬ (zi c = -1) := fun h => zi_m1 (c := c) (by omega) h.symm
      simp [h5, this]
  · obtain ⟨h1, h2, h3, h4⟩ := hT' r hr
    rw [r' 49 (by omega), r' 50 (by omega)]
    exact ⟨h1, h2, Or.inr ⟨c, hc, h3, fun h => h4 ((u9 c).mp h)⟩⟩
  · obtain ⟨a, b, d⟩ := hL
    refine ⟨by rw [q 35 (by omega)]; exact a, by rw [r' 40 (by omega)]; exact b, fun x hx => ?_⟩
    rw [q 36 (by omega), q 37 (by omega), q 38 (by omega), q 39 (by omega), r' 55 (by omega)]
    exact d x hx
  · unfold iA
    rw [q 0 (by omega), r' 49 (by omega), r' 54 (by omega)]
    exact hA
theorem zp_id (s : zS) (a b : Nat) : zp s a b (s a b) = s := by
  funext x y; unfold zp; split
  · rename_i h; rw [h.1, h.2]
  · rfl
theorem zInv_flag0 {i : Nat} {v : Int32} (hi : i = 5 ∨ i = 6 ∨ i = 7) (hv : v = 0 ∨ v = 1) (hc : c < m) (hI : zInv F p m n t k o (fun _ => false) sc sr) (h9 : iU (zp sc (5 + c) i v) c ∨ sc (5 + c) 9 = 0) : zInv F p m n t k o (fun _ => false) (zp sc (5 + c) i v) (zp sr (41 + i) c v) := by
  have h := zInv_flag (T' := fun _ => false) hi hv hc hI (hI.2.2.2.1 c hc).2.2.2.2.1 h9 (fun r h => by cases h)
  have : zp (zp sc (5 + c) i v) (5 + c) 9 (sc (5 + c) 9) = zp sc (5 + c) i v := by
    have e := zp_id (zp sc (5 + c) i v) (5 + c) 9
    rw [zp_o _ _ (by omega)] at e
    exact e
  rw [this] at h
  exact h
theorem op_curtain {v : Int32} (hv : v = 0 ∨ v = 1) (a : Int32) : zOp j (fun s => (zf_LG_curtain N a v s).map (fun y => (y.1, 0, y.2))) (fun s => (zf_Mo_curtain N a v s).map (fun y => (0, y))) (fun x => x = 0 ∨ x = 4) (fun x => if x = 0 then 0 else 1) := by
  intro sc sr hI2
  obtain ⟨F, p, m, n, t, k, o, hI, ht, hk, ho⟩ := id hI2
  obtain ⟨⟨f2, f10, p1, p5, m1, m4, n24⟩, s2, s3, s4, s5, s6, s7⟩ := id hI.1
  rcases num_cases a m (by omega) with ⟨c, hc, rfl⟩ | ⟨h1, h2⟩
  · have i5 : ¬ (zi c < 0 ∨ 5 ≤ c) := zi_inn (by omega) (by decide)
    have e1 : zf_LG_curtain N (zi c) v sc = some (0, zp sc (5 + c) 7 v) := by
      unfold zf_LG_curtain
      simp only [c_car_ok (N := N) m4 s5.1 hc, Option.bind_some, if_true, if_pos hv]
    have e2 : zf_Mo_curtain N (zi c) v sr = some (zp (zp sr 40 0 0) (41 + 7) c v) := by
      unfold zf_Mo_curtain zf_Mo_curtain_15
      simp only [m_noCar_ok (N := N) m4 s5.2 hc, Option.bind_some, if_true, if_pos hv, zi_nat (show c < 2147483648 by omega), i5, if_false]
    have u : iU (zp sc (5 + c) 7 v) c ↔ iU sc c := by
      unfold iU; rw [zp_o _ _ (by decide), zp_o _ _ (by decide), zp_q _ _ (by omega)]
    have hI' := zInv_flag0 (i := 7) (v := v) (Or.inr (Or.inr rfl)) hv hc (zInv_thr 0 hI) (by rw [u]; exact (hI.2.2.2.1 c hc).2.2.2.2.2)
    exact ⟨0, 0, _, 0, _, by simp only [e1, Option.map_some], by simp only [e2, Option.map_some], Or.inl rfl, by rw [zp_q _ _ (by decide), zp_s]; rfl, fun _ => rfl, ⟨F, p, m, n, t, k, o, hI', by omega, by omega, by omega⟩, hiF_zp (by omega), fun q hq => by rw [zp_row _ _ (by omega), zp_row _ _ (by omega)], by rw [zp_row _ _ (by decide), zp_row _ _ (by decide)]⟩
  · have e1 : zf_LG_curtain N a v sc = some (4, sc) := by
      unfold zf_LG_curtain
      simp only [c_car_no (N := N) s5.1 h1, Option.bind_some]
      rfl
    have e2 : zf_Mo_curtain N a v sr = some (zp sr 40 0 1) := by
      unfold zf_Mo_curtain zf_Mo_curtain_15
      simp only [m_noCar_no (N := N) s5.2 h2, Option.bind_some]
      rfl
    exact zOp_no (fC := fun s => (zf_LG_curtain N a v s).map (fun y => (y.1, 0, y.2))) (fM := fun s => (zf_Mo_curtain N a v s).map (fun y => (0, y))) (okc := fun x => x = 0 ∨ x = 4) (cv := fun x => if x = 0 then 0 else 1) hI2 (code := 4) (v := 0) (v' := 0) (x := 1) (by simp only [e1, Option.map_some]) (by simp only [e2, Option.map_some]) rfl (Or.inr rfl) (fun h => absurd h (by decide))
theorem c_all0 (hn24 : n ≤ 24) (h6 : sc 0 6 = zi n) : ∀ (kk r f : Nat), r + kk = n → kk < f → zf_LG_chooseForAll_2 N f 0 (zi r) sc = some sc := by
  intro kk
  induction kk with
  | zero =>
    intro r f hr hf
    obtain ⟨f, rfl⟩ : ∃ f', f = f' + 1 := ⟨f - 1, by omega⟩
    have : r = n := by omega
    subst this
    show zb_LG_chooseForAll_2 N _ _ _ _ = _
    unfold zb_LG_chooseForAll_2
    rw [h6, if_pos (Int32.le_refl _)]
  | succ kk ih =>
    intro r f hr hf
    obtain ⟨f, rfl⟩ : ∃ f', f = f' + 1 := ⟨f - 1, by omega⟩
    show zb_LG_chooseForAll_2 N _ _ _ _ = _
    unfold zb_LG_chooseForAll_2 zf_LG_chooseForAll_23
    have g : ¬ (zi n ≤ zi r) := fun h => by have := (zi_le (by omega) (by omega)).mp h; omega
    rw [h6, if_neg g, if_pos ((zbit_test 0 (by omega)).mpr (zbit_zero r)), zi_succ]
    exact ih (r + 1) f (by omega) (by omega)
theorem zInv_none (hI : zInv F p m n t k o (fun _ => false) sc sr) : zInv F p m n t k o (zbit (sc 0 7)) (zp sc 0 7 0) sr := by
  obtain ⟨⟨⟨f2, f10, p1, p5, m1, m4, n24⟩, s2, s3, s4, s5, s6, s7⟩, hR, hH, hC, hN, hT, hL, hA⟩ := hI
  have q : ∀ a, a ≠ 0 → zp sc 0 7 0 a = sc a := fun a h => by rw [zp_row _ _ h]
  have q0 : ∀ i, i ≠ 7 → zp sc 0 7 0 0 i = sc 0 i := fun i h => by rw [zp_o _ _ h]
  have hb : ∀ r, zbit (sc 0 7) r = true → r < n ∧ sr 49 r = 0 ∧ sr 50 r = -1 := fun r h => by
    rw [hN r] at h
    simp only [Bool.and_eq_true, decide_eq_true_eq] at h
    exact ⟨h.1.1.1, h.1.1.2, h.1.2⟩
  refine ⟨⟨⟨f2, f10, p1, p5, m1, m4, n24⟩, ?_, ?_, ?_, ?_, ?_, ?_⟩, fun r hr => ?_, fun f' r hf' => ?_, fun c' hc' => ?_, fun r => ?_, fun r hr => ?_, ?_, ?_⟩
  · rw [q 1 (by omega)]; exact s2
  · rw [q 1 (by omega)]; exact s3
  · rw [q 1 (by omega)]; exact s4
  · rw [q0 _ (by omega)]; exact s5
  · rw [q0 _ (by omega)]; exact s6
  · rw [q0 _ (by omega)]; exact s7
  · rw [q (11 + r) (by omega)]; exact hR r hr
  · rw [q 2 (by omega), q 3 (by omega)]; exact hH f' r hf'
  · obtain ⟨d1, d2, d3, d4, d5, d6⟩ := hC c' hc'
    unfold iC1 iU
    rw [q (5 + c') (by omega), q 1 (by omega)]
    refine ⟨d1, d2, d3, d4, fun r => ?_, d6⟩
    rw [d5]
    cases h : zbit (sc 0 7) r with
    | false => simp
    | true =>
      have := (hb r h).2.2
      have : mW sr c' 0 r = false := by
        unfold mW
        rw [Nat.zero_add, this]
        have : ¬ ((-1 : Int32) = zi c') := zi_m1 (by omega)
        simp [this]
      simp [this]
  · rw [zp_s, zbit_zero, hN]
    cases h : (decide (r < n) && decide (sr 49 r = 0) && decide (sr 50 r = -1)) <;> simp
  · obtain ⟨h1, h2, h3⟩ := hb r hr
    exact ⟨h1, h2, Or.inl h3⟩
  · obtain ⟨a, b, d⟩ := hL
    refine ⟨by rw [q 35 (by omega)]; exact a, b, fun x hx => ?_⟩
    rw [q 36 (by omega), q 37 (by omega), q 38 (by omega), q 39 (by omega)]
    exact d x hx
  · unfold iA
    rw [q0 _ (by omega), q0 _ (by omega), q0 _ (by omega)]
    exact hA
theorem ch_none (hN : 1010 ≤ N) (ho : o < 900000000) (hk : k < 1800000000) (hI : zInv F p m n t k o (fun _ => false) sc sr) : ∃ sc' sr' k', zf_LG_chooseForAll N (sc 0 7) (zp sc 0 7 0) = some sc' ∧ zf_Mo_chooseFor N (-1) sr = some sr' ∧ k' ≤ k + 24 ∧ zInv F p m n t k' o (fun _ => false) sc' sr' ∧ hiF sc sc' ∧ loF sr sr' := by
  have n24 := hI.1.1.2.2.2.2.2.2
  obtain ⟨sc', sr', k', b1, b2, b3, b4, b5, b6⟩ := ch_all (N := N) (set := sc 0 7) (cc := -1) hN ho n 0 N N k _ _ _ (by omega) (by omega) (by omega) (by omega) (zInv_none hI) (fun i => by simp) (fun i h1 h2 => by
    rw [hI.2.2.2.2.1 i]
    simp [h2])
  exact ⟨sc', sr', k', b1, b2, by omega, b4, (hiF_zp (by decide)).trans b5, b6⟩
end OD
