section OG
variable {N F p m n t k o c j : Nat} {T T' : Nat → Bool} {sc sr : zS}
theorem c_give (hm : m ≤ 4) : ∀ (kk i f : Nat) (s : zS), i + kk = m → kk < f → s 0 5 = zi m → ∃ s', zf_LG_takeCarsFromWaiting_2 N f (zi i) s = zf_LG_takeCarsFromWaiting_37 N N 0 s' ∧ (∀ q, q ≠ 0 → (q < 5 + i ∨ 5 + m ≤ q) → s' q = s q) ∧ (∀ x, x ≠ 7 → s' 0 x = s 0 x) ∧ (∀ c, i ≤ c → c < m → s' (5 + c) = up (s (5 + c)) 9 0) ∧ (∀ r, zbit (s' 0 7) r = true ↔ (zbit (s 0 7) r = true ∨ ∃ c, i ≤ c ∧ c < m ∧ zbit (s (5 + c) 9) r = true)) := by
  intro kk
  induction kk with
  | zero =>
    intro i f s hi hf h5
    obtain ⟨f, rfl⟩ : ∃ f', f = f' + 1 := ⟨f - 1, by omega⟩
    have : i = m := by omega
    subst this
    refine ⟨s, ?_, fun _ _ _ => rfl, fun _ _ => rfl, fun c h1 h2 => by omega, fun r => ?_⟩
    · show zb_LG_takeCarsFromWaiting_2 N _ _ _ = _
      unfold zb_LG_takeCarsFromWaiting_2
      rw [h5, if_pos (Int32.le_refl _)]
    · constructor
      · exact Or.inl
      · rintro (h | ⟨c, h1, h2, h3⟩)
        · exact h
        · omega
  | succ kk ih =>
    intro i f s hi hf h5
    obtain ⟨f, rfl⟩ : ∃ f', f = f' + 1 := ⟨f - 1, by omega⟩
    obtain ⟨s', a1, a2, a3, a4, a5⟩ := ih (i + 1) f (zp (zp s (5 + i) 9 0) 0 7 (s 0 7 ||| s (5 + i) 9)) (by omega) (by omega) (by rw [zp_o _ _ (by decide), zp_q _ _ (by omega)]; exact h5)
    refine ⟨s', ?_, fun q h0 hq => ?_, fun x hx => ?_, fun c h1 h2 => ?_, fun r => ?_⟩
    · show zb_LG_takeCarsFromWaiting_2 N _ _ _ = _
      unfold zb_LG_takeCarsFromWaiting_2 zf_LG_takeWaitingFor
      have g : ¬ (zi m ≤ zi i) := fun h => by have := (zi_le (by omega) (by omega)).mp h; omega
      have i4 : ¬ (zi i < 0 ∨ 4 ≤ i) := zi_inn (by omega) (by decide)
      rw [h5, if_neg g]
      simp only [zi_nat (show i < 2147483648 by omega), i4, if_false, zi_succ, Option.bind_some]
      exact a1
    · rw [a2 q h0 (by omega), zp_row _ _ h0, zp_row _ _ (by omega)]
    · rw [a3 x hx, zp_o _ _ hx, zp_q _ _ (by omega)]
    · by_cases e : c = i
      · subst e
        rw [a2 (5 + c) (by omega) (by omega), zp_row _ _ (by omega), zp_zr, zr_at]
      · rw [a4 c (by omega) h2, zp_row _ _ (by omega), zp_row _ _ (by omega)]
    · rw [a5 r, zp_s, zbit_or]
      constructor
      · rintro (h | ⟨c, h1, h2, h3⟩)
        · rcases Bool.or_eq_true_iff.mp h with h | h
          · exact Or.inl h
          · exact Or.inr ⟨i, by omega, by omega, h⟩
        · rw [zp_row _ _ (by omega), zp_row _ _ (by omega)] at h3
          exact Or.inr ⟨c, by omega, h2, h3⟩
      · rintro (h | ⟨c, h1, h2, h3⟩)
        · exact Or.inl (by rw [h]; rfl)
        · by_cases e : c = i
          · subst e; exact Or.inl (by rw [h3]; simp)
          · refine Or.inr ⟨c, by omega, h2, ?_⟩
            rw [zp_row _ _ (by omega), zp_row _ _ (by omega)]
            exact h3
theorem c_take (hn : n ≤ 24) : ∀ (kk i f : Nat) (s : zS), i + kk = n → kk < f → s 0 6 = zi n → ∃ s', zf_LG_takeCarsFromWaiting_37 N f (zi i) s = some s' ∧ (∀ q, (q < 11 + i ∨ 11 + n ≤ q) → s' q = s q) ∧ (∀ r, i ≤ r → r < n → s' (11 + r) = if s (11 + r) 2 = 0 then up (s (11 + r)) 3 (-1) else s (11 + r)) := by
  intro kk
  induction kk with
  | zero =>
    intro i f s hi hf h6
    obtain ⟨f, rfl⟩ : ∃ f', f = f' + 1 := ⟨f - 1, by omega⟩
    have : i = n := by omega
    subst this
    refine ⟨s, ?_, fun _ _ => rfl, fun c h1 h2 => by omega⟩
    show zb_LG_takeCarsFromWaiting_37 N _ _ _ = _
    unfold zb_LG_takeCarsFromWaiting_37
    rw [h6, if_pos (Int32.le_refl _)]
  | succ kk ih =>
    intro i f s hi hf h6
    obtain ⟨f, rfl⟩ : ∃ f', f = f' + 1 := ⟨f - 1, by omega⟩
    have g : ¬ (zi n ≤ zi i) := fun h => by have := (zi_le (by omega) (by omega)).mp h; omega
    have i4 : ¬ (zi i < 0 ∨ 24 ≤ i) := zi_inn (by omega) (by decide)
    by_cases h0 : s (11 + i) 2 = 0
    · obtain ⟨s', a1, a2, a3⟩ := ih (i + 1) f (zp s (11 + i) 3 (-1)) (by omega) (by omega) (by rw [zp_q _ _ (by omega)]; exact h6)
      refine ⟨s', ?_, fun q hq => by rw [a2 q (by omega), zp_row _ _ (by omega)], fun r h1 h2 => ?_⟩
      · show zb_LG_takeCarsFromWaiting_37 N _ _ _ = _
        unfold zb_LG_takeCarsFromWaiting_37 zf_LG_takeCarsFromWaiting_67
        rw [h6, if_neg g]
        simp only [zi_nat (show i < 2147483648 by omega), i4, if_false, zi_succ, h0, if_true]
        exact a1
      · by_cases e : r = i
        · subst e; rw [a2 (11 + r) (by omega), zp_zr, zr_at, if_pos h0]
        · rw [a3 r (by omega) h2, zp_row _ _ (by omega)]
    · obtain ⟨s', a1, a2, a3⟩ := ih (i + 1) f s (by omega) (by omega) h6
      refine ⟨s', ?_, fun q hq => a2 q (by omega), fun r h1 h2 => ?_⟩
      · show zb_LG_takeCarsFromWaiting_37 N _ _ _ = _
        unfold zb_LG_takeCarsFromWaiting_37 zf_LG_takeCarsFromWaiting_67
        rw [h6, if_neg g]
        simp only [zi_nat (show i < 2147483648 by omega), i4, if_false, zi_succ, h0]
        exact a1
      · by_cases e : r = i
        · subst e; rw [a2 (11 + r) (by omega), if_neg h0]
        · exact a3 r (by omega) h2
theorem m_take (hn : n ≤ 24) : ∀ (kk i f : Nat) (s : zS), i + kk = n → kk < f → s 40 19 = zi n → ∃ s', zf_Mo_recall_31 N f (zi i) s = some s' ∧ (∀ q, q ≠ 50 → s' q = s q) ∧ (∀ r, (r < i ∨ n ≤ r) → s' 50 r = s 50 r) ∧ (∀ r, i ≤ r → r < n → s' 50 r = if s 49 r = 0 then -1 else s 50 r) := by
  intro kk
  induction kk with
  | zero =>
    intro i f s hi hf h6
    obtain ⟨f, rfl⟩ : ∃ f', f = f' + 1 := ⟨f - 1, by omega⟩
    have : i = n := by omega
    subst this
    refine ⟨s, ?_, fun _ _ => rfl, fun _ _ => rfl, fun c h1 h2 => by omega⟩
    show zb_Mo_recall_31 N _ _ _ = _
    unfold zb_Mo_recall_31
    rw [h6, if_pos (Int32.le_refl _)]
  | succ kk ih =>
    intro i f s hi hf h6
    obtain ⟨f, rfl⟩ : ∃ f', f = f' + 1 := ⟨f - 1, by omega⟩
    have g : ¬ (zi n ≤ zi i) := fun h => by have := (zi_le (by omega) (by omega)).mp h; omega
    have i4 : ¬ (zi i < 0 ∨ 48 ≤ i) := zi_inn (by omega) (by decide)
    obtain ⟨s', a1, a2, a3, a4⟩ := ih (i + 1) f (zp s 50 i (if s 49 i = 0 then -1 else s 50 i)) (by omega) (by omega) (by rw [zp_q _ _ (by omega)]; exact h6)
    refine ⟨s', ?_, fun q hq => by rw [a2 q hq, zp_row _ _ hq], fun r h => by rw [a3 r (by omega), zp_o _ _ (by omega)], fun r h1 h2 => ?_⟩
    · show zb_Mo_recall_31 N _ _ _ = _
      unfold zb_Mo_recall_31 zf_Mo_recall_63
      rw [h6, if_neg g]
      simp only [zi_nat (show i < 2147483648 by omega), i4, if_false, zi_succ]
      rw [← a1]
      by_cases h0 : s 49 i = 0
      · simp only [h0, if_true]
      · simp only [h0, if_false]
    · by_cases e : r = i
      · subst e; rw [a3 r (by omega), zp_s]
      · rw [a4 r (by omega) h2, zp_row _ _ (by decide), zp_o _ _ e]
theorem zInv_mark {v : Int32} (hv : v = 0 ∨ v = 1) (hI : zInv F p m n t k o (fun _ => false) sc sr) (h9 : ∀ c, c < m → sc (5 + c) 9 = 0) : zInv F p m n t k o (fun _ => false) (zp sc 1 4 v) (zp sr 40 12 v) := by
  obtain ⟨⟨⟨f2, f10, p1, p5, m1, m4, n24⟩, s2, s3, s4, s5, s6, s7⟩, hR, hH, hC, hN, hT, hL, hA⟩ := hI
  have q : ∀ a, a ≠ 1 → zp sc 1 4 v a = sc a := fun a h => zp_row _ _ h
  have q1 : ∀ i, i ≠ 4 → zp sc 1 4 v 1 i = sc 1 i := fun i h => zp_o _ _ h
  have r' : ∀ a, a ≠ 40 → zp sr 40 12 v a = sr a := fun a h => zp_row _ _ h
  have r0 : ∀ i, i ≠ 12 → zp sr 40 12 v 40 i = sr 40 i := fun i h => zp_o _ _ h
  refine ⟨⟨⟨f2, f10, p1, p5, m1, m4, n24⟩, ?_, ?_, ⟨?_, ?_⟩, ?_, ?_, ?_⟩, fun r hr => ?_, fun f' r hf' => ?_, fun c' hc' => ?_, fun r => ?_, fun r hr => (by cases hr), ?_, ?_⟩
  · rw [q1 _ (by omega), r0 _ (by omega)]; exact s2
  · rw [q1 _ (by omega), r0 _ (by omega)]; exact s3
  · rw [zp_s, zp_s]
  · rw [zp_s]; exact hv
  · rw [q 0 (by omega), r0 _ (by omega)]; exact s5
  · rw [q 0 (by omega), r0 _ (by omega)]; exact s6
  · rw [q 0 (by omega), r0 _ (by omega)]; exact s7
  · rw [q (11 + r) (by omega), r' 51 (by omega), r' 52 (by omega), r' 49 (by omega), r' 50 (by omega), r' 53 (by omega), r' 54 (by omega)]
    exact hR r hr
  · exact hH f' r hf'
  · obtain ⟨d1, d2, d3, d4, d5, d6⟩ := hC c' hc'
    unfold iC1
    rw [q (5 + c') (by omega), r' 41 (by omega), r' 42 (by omega), r' 43 (by omega), r' 44 (by omega), r' 45 (by omega), r' 46 (by omega), r' 47 (by omega), r' 48 (by omega)]
    exact ⟨d1, d2, d3, d4, d5, Or.inr (h9 c' hc')⟩
  · rw [q 0 (by omega), r' 49 (by omega), r' 50 (by omega)]; exact hN r
  · obtain ⟨a, b, d⟩ := hL
    refine ⟨by rw [q 35 (by omega)]; exact a, by rw [r0 _ (by omega)]; exact b, fun x hx => ?_⟩
    rw [q 36 (by omega), q 37 (by omega), q 38 (by omega), q 39 (by omega), r' 55 (by omega)]
    exact d x hx
  · unfold iA
    rw [q 0 (by omega), r' 49 (by omega), r' 54 (by omega)]
    exact hA
theorem zInv_give {s1 s2 s3 : zS} (hI : zInv F p m n t k o (fun _ => false) sc sr)
    (a2 : ∀ q, q ≠ 0 → (q < 5 ∨ 5 + m ≤ q) → s1 q = sc q) (a3 : ∀ x, x ≠ 7 → s1 0 x = sc 0 x) (a4 : ∀ c, c < m → s1 (5 + c) = up (sc (5 + c)) 9 0) (a5 : ∀ r, zbit (s1 0 7) r = true ↔ (zbit (sc 0 7) r = true ∨ ∃ c, c < m ∧ zbit (sc (5 + c) 9) r = true))
    (b2 : ∀ q, (q < 11 ∨ 11 + n ≤ q) → s2 q = s1 q) (b3 : ∀ r, r < n → s2 (11 + r) = if s1 (11 + r) 2 = 0 then up (s1 (11 + r)) 3 (-1) else s1 (11 + r))
    (e2 : ∀ q, q ≠ 50 → s3 q = sr q) (e4 : ∀ r, r < n → s3 50 r = if sr 49 r = 0 then -1 else sr 50 r) :
    zInv F p m n t k o (fun _ => false) s2 s3 ∧ ∀ c, c < m → s2 (5 + c) 9 = 0 := by
  obtain ⟨⟨⟨f2, f10, p1, p5, m1, m4, n24⟩, z2, z3, z4, z5, z6, z7⟩, hR, hH, hC, hN, hT, hL, hA⟩ := hI
  have q1 : ∀ a, a ≠ 0 → (a < 5 ∨ 11 + n ≤ a) → s2 a = sc a := fun a h h' => by rw [b2 a (by omega), a2 a h (by omega)]
  have q0 : ∀ i, i ≠ 7 → s2 0 i = sc 0 i := fun i h => by rw [b2 0 (by omega), a3 i h]
  have qc : ∀ c, c < m → s2 (5 + c) = up (sc (5 + c)) 9 0 := fun c h => by rw [b2 _ (by omega), a4 c h]
  have x0 : ∀ c, c < 4 → ¬ ((-1 : Int32) = zi c) := fun c h => zi_m1 (by omega)
  refine ⟨⟨⟨⟨f2, f10, p1, p5, m1, m4, n24⟩, ?_, ?_, ?_, ?_, ?_, ?_⟩, fun r hr => ?_, fun f' r hf' => ?_, fun c' hc' => ?_, fun r => ?_, fun r hr => (by cases hr), ?_, ?_⟩, fun c h => by rw [qc c h, up_s]⟩
  · rw [q1 1 (by omega) (by omega), e2 40 (by omega)]; exact z2
  · rw [q1 1 (by omega) (by omega), e2 40 (by omega)]; exact z3
  · rw [q1 1 (by omega) (by omega), e2 40 (by omega)]; exact z4
  · rw [q0 _ (by omega), e2 40 (by omega)]; exact z5
  · rw [q0 _ (by omega), e2 40 (by omega)]; exact z6
  · rw [q0 _ (by omega), e2 40 (by omega)]; exact z7
  · obtain ⟨⟨y0, y1, y2, y3, y4, y5⟩, y6, y7⟩ := hR r hr
    rw [b3 r hr, a2 (11 + r) (by omega) (by omega), e2 51 (by omega), e2 52 (by omega), e2 49 (by omega), e4 r hr, e2 53 (by omega), e2 54 (by omega), y2]
    by_cases h : sr 49 r = 0
    · rw [if_pos h, if_pos h]
      rw [up_o _ _ (by decide), up_o _ _ (by decide), up_o _ _ (by decide), up_s, up_o _ _ (by decide), up_o _ _ (by decide)]
      exact ⟨⟨y0, y1, y2, rfl, y4, y5⟩, y6, Or.inl rfl⟩
    · rw [if_neg h, if_neg h]
      exact ⟨⟨y0, y1, y2, y3, y4, y5⟩, y6, y7⟩
  · rw [q1 2 (by omega) (by omega), q1 3 (by omega) (by omega), e2 51 (by omega), e2 52 (by omega)]; exact hH f' r hf'
  · obtain ⟨d1, d2, d3, d4, d5, d6⟩ := hC c' hc'
    unfold iC1
    rw [qc c' hc', e2 41 (by omega), e2 42 (by omega), e2 43 (by omega), e2 44 (by omega), e2 45 (by omega), e2 46 (by omega), e2 47 (by omega), e2 48 (by omega), up_s, up_o _ _ (show 0 ≠ 9 by decide), up_o _ _ (show 1 ≠ 9 by decide), up_o _ _ (show 2 ≠ 9 by decide), up_o _ _ (show 3 ≠ 9 by decide), up_o _ _ (show 4 ≠ 9 by decide), up_o _ _ (show 5 ≠ 9 by decide), up_o _ _ (show 6 ≠ 9 by decide), up_o _ _ (show 7 ≠ 9 by decide), up_o _ _ (show 8 ≠ 9 by decide)]
    refine ⟨d1, d2, ?_, fun r => ?_, fun r => ?_, Or.inr rfl⟩
    · unfold rOK
      rw [up_o _ _ (show 0 ≠ 9 by decide), up_o _ _ (show 1 ≠ 9 by decide), up_o _ _ (show 2 ≠ 9 by decide), up_o _ _ (show 3 ≠ 9 by decide), up_o _ _ (show 4 ≠ 9 by decide)]
      exact d3
    · rw [d4]
      by_cases h : r < n
      · unfold mA
        rw [Nat.zero_add, e2 49 (by omega), e4 r h]
        by_cases h0 : sr 49 r = 0
        · simp [h0]
        · simp [h0]
      · simp [h]
    · rw [zbit_zero]
      by_cases h : r < n
      · unfold mW
        rw [Nat.zero_add, e2 49 (by omega), e4 r h]
        by_cases h0 : sr 49 r = 0
        · simp [h0, x0 c' (by omega)]
        · simp [h0]
      · simp [h]
  · rw [b2 0 (by omega)]
    have key : zbit (s1 0 7) r = true ↔ (decide (r < n) && decide (s3 49 r = 0) && decide (s3 50 r = -1) && !false) = true := by
      rw [a5 r, e2 49 (by omega)]
      simp only [Bool.and_eq_true, decide_eq_true_eq, Bool.not_false, and_true]
      constructor
      · rintro (h | ⟨c, h1, h2⟩)
        · rw [hN r] at h
          simp only [Bool.and_eq_true, decide_eq_true_eq, Bool.not_false, and_true] at h
          refine ⟨h.1, ?_⟩
          rw [e4 r h.1.1, if_pos h.1.2]
        · rw [(hC c h1).2.2.2.2.1 r] at h2
          unfold mW at h2
          simp only [Bool.and_eq_true, decide_eq_true_eq, Bool.not_false, and_true, Nat.zero_add] at h2
          refine ⟨⟨h2.1, h2.2.1⟩, ?_⟩
          rw [e4 r h2.1, if_pos h2.2.1]
      · rintro ⟨⟨h1, h2⟩, -⟩
        rcases (hR r h1).2.2 with h3 | ⟨c, hc, h3⟩
        · refine Or.inl ?_
          rw [hN r]; simp [h1, h2, h3]
        · refine Or.inr ⟨c, hc, ?_⟩
          rw [(hC c hc).2.2.2.2.1 r]
          unfold mW
          simp [h1, h2, h3]
    cases h : zbit (s1 0 7) r with
    | true => rw [h] at key; exact (key.mp rfl).symm
    | false =>
      rw [h] at key
      cases h' : (decide (r < n) && decide (s3 49 r = 0) && decide (s3 50 r = -1) && !false) with
      | false => rfl
      | true => exact absurd (key.mpr h') (by decide)
  · obtain ⟨a, b, d⟩ := hL
    refine ⟨by rw [q1 35 (by omega) (by omega)]; exact a, by rw [e2 40 (by omega)]; exact b, fun x hx => ?_⟩
    rw [q1 36 (by omega) (by omega), q1 37 (by omega) (by omega), q1 38 (by omega) (by omega), q1 39 (by omega) (by omega), e2 55 (by omega)]
    exact d x hx
  · unfold iA
    rw [q0 _ (by omega), q0 _ (by omega), q0 _ (by omega), e2 49 (by omega), e2 54 (by omega)]
    exact hA
theorem op_recall {v : Int32} (hN : 1010 ≤ N) (hj : j ≤ 600) (hv : v = 0 ∨ v = 1) : zOp j (fun s => (zf_LG_recall N v s).map (fun y => (0, 0, y))) (fun s => (zf_Mo_recall N v s).map (fun y => (0, y))) (fun x => x = 0) (fun _ => 0) := by
  intro sc sr hI2
  obtain ⟨F, p, m, n, t, k, o, hI, ht, hk, ho⟩ := id hI2
  obtain ⟨⟨f2, f10, p1, p5, m1, m4, n24⟩, s2, s3, s4, s5, s6, s7⟩ := id hI.1
  have x1 : ¬ ((1 : Int32) = 0) := by decide
  by_cases hs : sc 1 4 = v
  · have e1 : zf_LG_recall N v sc = some sc := by unfold zf_LG_recall; rw [if_pos hs]
    have e2 : zf_Mo_recall N v sr = some (zp sr 40 0 0) := by unfold zf_Mo_recall; rw [if_pos (by rw [s4.1, hs])]
    exact zOp_no (fC := fun s => (zf_LG_recall N v s).map (fun y => (0, 0, y))) (fM := fun s => (zf_Mo_recall N v s).map (fun y => (0, y))) (okc := fun x => x = 0) (cv := fun _ => 0) hI2 (code := 0) (v := 0) (v' := 0) (x := 0) (by simp only [e1, Option.map_some]) (by simp only [e2, Option.map_some]) rfl rfl (fun _ => rfl)
  · have hs' : ¬ (v = sr 40 12) := fun h => hs (by rw [← s4.1, ← h])
    rcases hv with rfl | rfl
    · have h1 : sc 1 4 = 1 := s4.2.resolve_left hs
      have hI' := zInv_mark (v := 0) (Or.inl rfl) (zInv_thr 0 hI) (fun c hc => (hI.2.2.2.1 c hc).2.2.2.2.2.resolve_left (fun hu => by rw [hu.2.2] at h1; cases h1))
      obtain ⟨sc', sr', k', c1, c2, c3, c4, c5, c6⟩ := ch_none (N := N) hN (by omega) (by omega) hI'
      have e1 : zf_LG_recall N 0 sc = some sc' := by
        unfold zf_LG_recall zf_LG_recall_39 zf_LG_takeWaitingForNone
        rw [if_neg hs]
        simp only [if_true, Option.bind_some, true_or, c1]
      have e2 : zf_Mo_recall N 0 sr = some sr' := by
        unfold zf_Mo_recall
        rw [if_neg hs']
        simp only [if_true, Option.bind_some, true_or, c2]
      exact ⟨0, 0, sc', 0, sr', by simp only [e1, Option.map_some], by simp only [e2, Option.map_some], rfl, by rw [c6.2.2, zp_o _ _ (by decide), zp_s], fun _ => rfl, ⟨F, p, m, n, t, k', o, c4, by omega, by omega, by omega⟩, (hiF_zp (by decide)).trans c5, fun q hq => by rw [c6.1 q hq, zp_row _ _ (by omega), zp_row _ _ (by omega)], by rw [c6.2.1, zp_row _ _ (by decide), zp_row _ _ (by decide)]⟩
    · obtain ⟨u1, a1, a2, a3, a4, a5⟩ := c_give (N := N) m4 m 0 N (zp sc 1 4 1) (by omega) (by omega) (by rw [zp_q _ _ (by decide)]; exact s5.1)
      obtain ⟨u2, b1, b2, b3⟩ := c_take (N := N) n24 n 0 N u1 (by omega) (by omega) (by rw [a3 6 (by decide), zp_q _ _ (by decide)]; exact s6.1)
      obtain ⟨u3, d1, d2, d3, d4⟩ := m_take (N := N) n24 n 0 N (zp (zp sr 40 0 0) 40 12 1) (by omega) (by omega) (by rw [zp_o _ _ (by decide), zp_o _ _ (by decide)]; exact s6.2)
      have e1 : zf_LG_recall N 1 sc = some u2 := by
        unfold zf_LG_recall zf_LG_recall_39 zf_LG_takeCarsFromWaiting
        rw [if_neg hs, if_pos (Or.inr rfl), if_neg x1]
        have a1' : zf_LG_takeCarsFromWaiting_2 N N 0 (zp sc 1 4 1) = some u2 := a1.trans b1
        simp only [a1', Option.bind_some]
      have e2 : zf_Mo_recall N 1 sr = some u3 := by
        unfold zf_Mo_recall
        rw [if_neg hs', if_pos (Or.inr rfl), if_neg x1]
        exact d1
      have r1 : ∀ q, q ≠ 1 → zp sc 1 4 1 q = sc q := fun q h => zp_row _ _ h
      have q1 : u2 1 = up (sc 1) 4 1 := by rw [b2 1 (by omega), a2 1 (by decide) (by omega), zp_zr, zr_at]
      have hG := zInv_give (s1 := zp u1 1 4 (sc 1 4)) (s2 := zp u2 1 4 (sc 1 4)) (s3 := zp u3 40 12 (sr 40 12)) (zInv_thr 0 hI)
        (fun q h0 hq => by
          by_cases e : q = 1
          · subst e
            rw [zp_zr, zr_at, a2 1 (by decide) (by omega), zp_zr, zr_at]
            funext x
            unfold up
            split
            · rename_i h; rw [h]
            · rfl
          · rw [zp_row _ _ e, a2 q h0 (by omega), r1 q e])
        (fun x hx => by rw [zp_q _ _ (by decide), a3 x hx, zp_q _ _ (by decide)])
        (fun c hc => by rw [zp_row _ _ (by omega), a4 c (by omega) hc, r1 (5 + c) (by omega)])
        (fun r => by
          rw [zp_q _ _ (by decide), a5 r, zp_q _ _ (by decide)]
          constructor
          · rintro (h | ⟨c, h1, h2, h3⟩)
            · exact Or.inl h
            · rw [r1 (5 + c) (by omega)] at h3; exact Or.inr ⟨c, h2, h3⟩
          · rintro (h | ⟨c, h2, h3⟩)
            · exact Or.inl h
            · exact Or.inr ⟨c, by omega, h2, by rw [r1 (5 + c) (by omega)]; exact h3⟩)
        (fun q hq => by
          by_cases e : q = 1
          · subst e
            rw [zp_zr, zr_at, zp_zr, zr_at, b2 1 (by omega)]
          · rw [zp_row _ _ e, zp_row _ _ e, b2 q (by omega)])
        (fun r hr => by rw [zp_row _ _ (by omega), zp_row _ _ (by omega)]; exact b3 r (by omega) hr)
        (fun q hq => by
          by_cases e : q = 40
          · subst e
            rw [zp_zr, zr_at, d2 40 (by decide), zp_zr, zr_at]
            funext x
            by_cases e : x = 12
            · subst e; rw [up_s, zp_o _ _ (by decide)]
            · rw [up_o _ _ e, up_o _ _ e]
          · rw [zp_row _ _ e, d2 q hq, zp_row _ _ e])
        (fun r hr => by
          rw [zp_q _ _ (by decide), d4 r (by omega) hr, zp_q _ _ (by decide), zp_q _ _ (by decide)]
          rw [zp_q _ _ (by decide), zp_q _ _ (by decide)])
      have hI' := zInv_mark (v := 1) (Or.inr rfl) hG.1 hG.2
      rw [zp_zp, zp_zp] at hI'
      have f1 : zp u2 1 4 1 = u2 := by
        have := zp_id u2 1 4
        rw [q1, up_s] at this
        exact this
      have f3 : zp u3 40 12 1 = u3 := by
        have := zp_id u3 40 12
        rw [d2 40 (by decide), zp_s] at this
        exact this
      rw [f1, f3] at hI'
      refine ⟨0, 0, u2, 0, u3, by simp only [e1, Option.map_some], by simp only [e2, Option.map_some], rfl, ?_, fun _ => rfl, ⟨F, p, m, n, t, k, o, hI', by omega, by omega, by omega⟩, fun q hq => ?_, fun q hq => ?_, ?_⟩
      · rw [d2 40 (by decide), zp_o _ _ (by decide), zp_s]
      · rw [b2 q (by omega), a2 q (by omega) (by omega), zp_row _ _ (by omega)]
      · rw [d2 q (by omega), zp_row _ _ (by omega), zp_row _ _ (by omega)]
      · rw [d2 56 (by omega), zp_row _ _ (by omega), zp_row _ _ (by omega)]
end OG
