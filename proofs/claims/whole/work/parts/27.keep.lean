section MK
variable {N c first n p F h : Nat} {sr : zS} {G St Go R : Nat → Int32}
def vGo (R R' : Nat → Int32) : Prop := ∀ r, r < 32 →
  (zbit (R' 8) r = ((zbit (R 8) r && !zbit (R' 10) r && !zbit (R' 11) r) || zbit (R' 12) r)) ∧ (zbit (R' 9) r = (zbit (R 9) r && !zbit (R' 12) r)) ∧
  (zbit (R' 10) r = true → zbit (R 8) r = true) ∧ (zbit (R' 11) r = true → zbit (R 8) r = true ∧ zbit (R' 10) r = false) ∧ (zbit (R' 12) r = true → zbit (R 9) r = true)
theorem vGo_same {R R' : Nat → Int32} (h8 : R' 8 = R 8) (h9 : R' 9 = R 9) (h10 : R' 10 = 0) (h11 : R' 11 = 0) (h12 : R' 12 = 0) : vGo R R' := fun r _ => by
  rw [h8, h9, h10, h11, h12, zbit_zero]
  simp
theorem vGo_exch {R0 : Nat → Int32} (h8 : R 8 = R0 8) (h9 : R 9 = R0 9) (h11 : R 11 = 0) (h12 : R 12 = 0) : vGo R0 (vExch G St Go p h R) := fun r hr => by
  rw [vExch_10, vExch_11 h11, vExch_12 h12]
  have hx8 : vExch G St Go p h R 8 = if G 4 = 0 then vAb Go h R ||| vBrd St Go p h R else if h / 2 = 0 then 0 else vAb Go h R := by
    unfold vExch; split <;> (try split) <;> simp [up]
  have hx9 : vExch G St Go p h R 9 = if G 4 = 0 then R 9 &&& (vBrd St Go p h R ^^^ (-1)) else R 9 := by
    unfold vExch; split <;> (try split) <;> simp [up]
  rw [hx8, hx9, ← h8, ← h9]
  have eb : zbit (vBrd St Go p h R) r = true → zbit (R 9) r = true := fun h => by
    unfold vBrd at h
    rw [vFst_bit _ _ _ _ _ (by decide), zbit_and] at h
    simp only [Bool.and_eq_true] at h
    exact h.1.2.1
  have ea : zbit (vArr Go h R) r = true → zbit (R 8) r = true := fun h => by
    unfold vArr at h
    rw [zbit_and] at h
    simp only [Bool.and_eq_true] at h
    exact h.1
  have eab : zbit (vAb Go h R) r = (zbit (R 8) r && !zbit (vArr Go h R) r) := by
    unfold vAb
    rw [zbit_and, zbit_not _ hr]
  have no : ∀ P : Prop, false = true → P := fun P h => by cases h
  by_cases g : G 4 = 0
  · have o0 : vOut G Go h R = 0 := by unfold vOut; rw [if_pos g]
    have b0 : vBr G St Go p h R = vBrd St Go p h R := by unfold vBr; rw [if_pos g]
    rw [if_pos g, if_pos g, o0, b0]
    refine ⟨?_, ?_, ea, ?_, eb⟩
    · rw [zbit_or, eab, zbit_zero]; simp
    · rw [zbit_and, zbit_not _ hr]
    · rw [zbit_zero]; exact no _
  · have b0 : vBr G St Go p h R = 0 := by unfold vBr; rw [if_neg g]
    by_cases e : h / 2 = 0
    · have o0 : vOut G Go h R = vAb Go h R := by unfold vOut; rw [if_neg g, if_pos e]
      rw [if_neg g, if_neg g, if_pos e, o0, b0]
      refine ⟨?_, ?_, ea, ?_, ?_⟩
      · rw [zbit_zero, eab]; cases zbit (R 8) r <;> cases zbit (vArr Go h R) r <;> rfl
      · rw [zbit_zero]; simp
      · rw [eab]; simp
      · rw [zbit_zero]; exact no _
    · have o0 : vOut G Go h R = 0 := by unfold vOut; rw [if_neg g, if_neg e]
      rw [if_neg g, if_neg g, if_neg e, o0, b0]
      refine ⟨?_, ?_, ea, ?_, ?_⟩
      · rw [zbit_zero, eab]; simp
      · rw [zbit_zero]; simp
      · rw [zbit_zero]; exact no _
      · rw [zbit_zero]; exact no _
theorem vGo_stay {R R' : Nat → Int32} {x : Int32} (hg : vGo R R') : vGo R (vStay x R') := fun r hr => by
  have w : ∀ j, j ≠ 2 → j ≠ 3 → j ≠ 4 → vStay x R' j = R' j := fun j h2 h3 h4 => by unfold vStay; split <;> (try split) <;> (try split) <;> simp [up, h2, h3, h4]
  rw [w 8 (by decide) (by decide) (by decide), w 9 (by decide) (by decide) (by decide), w 10 (by decide) (by decide) (by decide), w 11 (by decide) (by decide) (by decide), w 12 (by decide) (by decide) (by decide)]
  exact hg r hr
theorem vMove_o {m : Int32} {j : Nat} (h0 : j ≠ 0) (h1 : j ≠ 1) (h2 : j ≠ 2) (h3 : j ≠ 3) : vMove m h R j = R j := by
  unfold vMove; split <;> (try split) <;> simp [up, h0, h1, h2, h3]
theorem vShut_o {j : Nat} (h2 : j ≠ 2) (h3 : j ≠ 3) : vShut R j = R j := by unfold vShut; split <;> simp [up, h2, h3]
theorem vAdv_go : vGo R (vAdv G St Go F p h R) := by
  have r8 : vfM R 8 = R 8 := rfl
  have r9 : vfM R 9 = R 9 := rfl
  have r10 : vfM R 10 = 0 := rfl
  have r11 : vfM R 11 = 0 := rfl
  have r12 : vfM R 12 = 0 := rfl
  unfold vAdv
  generalize vfM R = Q at r8 r9 r10 r11 r12 ⊢
  unfold vAdv1
  by_cases d0 : Q 2 = 0
  · rw [if_pos d0]
    exact vGo_same (by rw [vMove_o (by decide) (by decide) (by decide) (by decide), r8]) (by rw [vMove_o (by decide) (by decide) (by decide) (by decide), r9]) (by rw [vMove_o (by decide) (by decide) (by decide) (by decide), r10]) (by rw [vMove_o (by decide) (by decide) (by decide) (by decide), r11]) (by rw [vMove_o (by decide) (by decide) (by decide) (by decide), r12])
  · rw [if_neg d0]
    by_cases d1 : Q 2 = 1
    · rw [if_pos d1]
      by_cases l0 : Q 3 - 1 = 0
      · rw [if_pos l0]
        exact vGo_exch (by simp [up, r8]) (by simp [up, r9]) (by simp [up, r11]) (by simp [up, r12])
      · rw [if_neg l0]
        exact vGo_same (by simp [up, r8]) (by simp [up, r9]) (by simp [up, r10]) (by simp [up, r11]) (by simp [up, r12])
    · rw [if_neg d1]
      by_cases d2 : Q 2 = 2
      · rw [if_pos d2]
        exact vGo_stay (vGo_exch r8 r9 r11 r12)
      · rw [if_neg d2]
        have hs : vGo R (vShut Q) := vGo_same (by rw [vShut_o (by decide) (by decide), r8]) (by rw [vShut_o (by decide) (by decide), r9]) (by rw [vShut_o (by decide) (by decide), r10]) (by rw [vShut_o (by decide) (by decide), r11]) (by rw [vShut_o (by decide) (by decide), r12])
        by_cases d3 : Q 2 = 3
        · rw [if_pos d3]
          by_cases b7 : Q 7 = 0
          · rw [if_pos b7]; exact hs
          · rw [if_neg b7]
            exact vGo_same (by simp [up, r8]) (by simp [up, r9]) (by simp [up, r10]) (by simp [up, r11]) (by simp [up, r12])
        · rw [if_neg d3]; exact hs
theorem vAdv_567 {j : Nat} (hj : j = 5 ∨ j = 6 ∨ j = 7) : vAdv G St Go F p h R j = R j := by
  have h0 : vfM R j = R j := by unfold vfM; rw [up_o _ _ (by omega), up_o _ _ (by omega), up_o _ _ (by omega)]
  unfold vAdv
  rw [← h0]
  generalize vfM R = Q
  unfold vAdv1
  have hx : ∀ Q : Nat → Int32, vExch G St Go p h Q j = Q j := fun Q => vExch_o (by omega) (by omega) (by omega) (by omega) (by omega)
  have hw : ∀ (x : Int32) (Q : Nat → Int32), vStay x Q j = Q j := fun x Q => by
    unfold vStay; split <;> (try split) <;> (try split) <;> simp [up, show j ≠ 2 by omega, show j ≠ 3 by omega, show j ≠ 4 by omega]
  have hs : vShut Q j = Q j := vShut_o (by omega) (by omega)
  split
  · exact vMove_o (by omega) (by omega) (by omega) (by omega)
  · split
    · split
      · rw [hx]; simp [up, show j ≠ 2 by omega, show j ≠ 3 by omega, show j ≠ 4 by omega]
      · simp [up, show j ≠ 3 by omega]
    · split
      · rw [hw, hx]
      · split
        · split
          · exact hs
          · simp [up, show j ≠ 2 by omega, show j ≠ 3 by omega]
        · exact hs
def rOK (F o : Nat) (R : Nat → Int32) : Prop := (∃ h, h + 2 ≤ 2 * F ∧ R 0 = zi h) ∧ (R 1 = 0 ∨ R 1 = 1 ∨ R 1 = -1) ∧ (∃ o', o' ≤ o ∧ R 4 = zi o') ∧ (R 2 = 0 → R 3 = 0)
theorem vDir_ok {m : Int32} {d : Int32} (hd : d = 0 ∨ d = 1 ∨ d = -1) (hm : ∃ i, zbit m i = true) (hh : zbit m h = false) : (vDir m h d = 0) ∨ (vDir m h d = 1 ∧ ∃ i, h < i ∧ zbit m i = true) ∨ (vDir m h d = -1 ∧ ∃ i, i < h ∧ zbit m i = true) := by
  unfold vDir
  obtain ⟨i0, hi0⟩ := hm
  have hi32 : i0 < 32 := by
    by_cases e : i0 < 32
    · exact e
    · rw [zbit_ge _ (by omega)] at hi0; cases hi0
  have hne : i0 ≠ h := fun e => by rw [e, hh] at hi0; cases hi0
  by_cases d0 : d = 0
  · rw [if_pos d0]
    rcases aNear_val (Q := zbit m) (h := h) 18 1 (by omega) with ⟨h1, -⟩ | h1 | h1
    · exact Or.inl h1
    · exact Or.inr (Or.inr h1)
    · exact Or.inr (Or.inl h1)
  · rw [if_neg d0]
    rcases hd.resolve_left d0 with rfl | rfl
    · cases ha : aAhead (zbit m) h 1 with
      | true =>
        unfold aAhead at ha
        rw [if_pos (by decide)] at ha
        obtain ⟨i, -, h2⟩ := (zany_iff _ _).mp ha
        simp only [Bool.and_eq_true, decide_eq_true_eq] at h2
        have : i ≠ h := fun e => by rw [e, hh] at h2; cases h2.2
        exact Or.inr (Or.inl ⟨rfl, i, by omega, h2.2⟩)
      | false =>
        unfold aAhead at ha
        rw [if_pos (by decide), zany_no] at ha
        have h3 := ha i0 hi32
        simp only [hi0, Bool.and_true, decide_eq_false_iff_not] at h3
        exact Or.inr (Or.inr ⟨rfl, i0, by omega, hi0⟩)
    · cases ha : aAhead (zbit m) h (-1) with
      | true =>
        unfold aAhead at ha
        rw [if_neg (by decide)] at ha
        obtain ⟨i, h1, h2⟩ := (zany_iff _ _).mp ha
        exact Or.inr (Or.inr ⟨rfl, i, h1, h2⟩)
      | false =>
        unfold aAhead at ha
        rw [if_neg (by decide), zany_no] at ha
        have : ¬ i0 < h := fun e => by rw [ha i0 e] at hi0; cases hi0
        exact Or.inr (Or.inl ⟨by decide, i0, by omega, hi0⟩)
theorem vSS_bnd (hF : 1 ≤ F) (hF10 : F ≤ 10) : ∀ i, zbit (vSS G St Go F R) i = true → i + 2 ≤ 2 * F := by
  intro i hi
  unfold vSS at hi
  split at hi
  · rw [vMask_bit _ _ _ (by omega)] at hi
    simp only [Bool.and_eq_true, decide_eq_true_eq] at hi
    omega
  · have := zbit_shl (r := 0) (by decide) i
    rw [show ((1 : Int32) <<< (zi 0 &&& 31)) = 1 by decide] at this
    rw [this] at hi
    simp only [decide_eq_true_eq] at hi
    omega
theorem zi_pred {h : Nat} (h0 : 0 < h) : zi h + -1 = zi (h - 1) := by
  obtain ⟨k, rfl⟩ : ∃ k, h = k + 1 := ⟨h - 1, by omega⟩
  rw [← zi_succ, Int32.add_assoc, show (1 : Int32) + -1 = 0 by decide, Int32.add_zero]
  rfl
theorem vAdv_ok {o : Nat} (hF : 2 ≤ F) (hF10 : F ≤ 10) (hR : rOK F o R) (hh : R 0 = zi h) (hh9 : h + 2 ≤ 2 * F) : rOK F (o + 1) (vAdv G St Go F p h R) := by
  have hR' : rOK F o (vfM R) := hR
  have hh' : vfM R 0 = zi h := hh
  unfold vAdv
  generalize vfM R = Q at hR' hh' ⊢
  obtain ⟨-, hd, ⟨o', ho', hQ4⟩, hl⟩ := hR'
  have wk : ∃ o'', o'' ≤ o + 1 ∧ Q 4 = zi o'' := ⟨o', by omega, hQ4⟩
  have wk1 : ∃ o'', o'' ≤ o + 1 ∧ Q 4 + 1 = zi o'' := ⟨o' + 1, by omega, by rw [hQ4, zi_succ]⟩
  have i10 : ¬ (1 : Int32) = 0 := by decide
  unfold vAdv1
  by_cases d0 : Q 2 = 0
  · rw [if_pos d0]
    unfold vMove
    by_cases m0 : vSS G St Go F Q = 0
    · rw [if_pos m0]
      exact ⟨⟨h, hh9, by simp [up, hh']⟩, Or.inl (by simp [up]), by simpa [up] using wk, fun _ => by simp [up, hl d0]⟩
    · rw [if_neg m0]
      cases hb : zbit (vSS G St Go F Q) h with
      | true =>
        rw [if_pos rfl]
        exact ⟨⟨h, hh9, by simp [up, hh']⟩, by simpa [up] using hd, by simpa [up] using wk, fun h9 => by simp [up] at h9⟩
      | false =>
        rw [if_neg (by decide)]
        have hex : ∃ i, zbit (vSS G St Go F Q) i = true := by
          cases hz : zany (zbit (vSS G St Go F Q)) 32 with
          | true => obtain ⟨i, -, h1⟩ := (zany_iff _ _).mp hz; exact ⟨i, h1⟩
          | false => exact absurd ((zbit_eq0 _).mpr (zany_no.mp hz)) m0
        have e2 : ∀ v w : Int32, up (up Q 1 v) 0 w 2 = Q 2 := fun v w => by simp [up]
        have e3 : ∀ v w : Int32, up (up Q 1 v) 0 w 3 = Q 3 := fun v w => by simp [up]
        have e4 : ∀ v w : Int32, up (up Q 1 v) 0 w 4 = Q 4 := fun v w => by simp [up]
        have e1 : ∀ v w : Int32, up (up Q 1 v) 0 w 1 = v := fun v w => by simp [up]
        have e0 : ∀ v w : Int32, up (up Q 1 v) 0 w 0 = w := fun v w => by simp [up]
        unfold rOK
        rw [e0, e1, e2, e3, e4, hh']
        rcases vDir_ok hd hex hb with hv | ⟨hv, i, h1, h2⟩ | ⟨hv, i, h1, h2⟩
        · rw [hv, Int32.add_zero]
          exact ⟨⟨h, hh9, rfl⟩, Or.inl rfl, wk, hl⟩
        · rw [hv, zi_succ]
          have := vSS_bnd (by omega) hF10 i h2
          exact ⟨⟨h + 1, by omega, rfl⟩, Or.inr (Or.inl rfl), wk, hl⟩
        · rw [hv, zi_pred (by omega)]
          exact ⟨⟨h - 1, by omega, rfl⟩, Or.inr (Or.inr rfl), wk, hl⟩
  · rw [if_neg d0]
    by_cases d1 : Q 2 = 1
    · rw [if_pos d1]
      by_cases l0 : Q 3 - 1 = 0
      · rw [if_pos l0]
        unfold rOK
        rw [vExch_o (by decide) (by decide) (by decide) (by decide) (by decide), vExch_o (by decide) (by decide) (by decide) (by decide) (by decide), vExch_o (by decide) (by decide) (by decide) (by decide) (by decide), vExch_o (by decide) (by decide) (by decide) (by decide) (by decide), vExch_o (by decide) (by decide) (by decide) (by decide) (by decide)]
        exact ⟨⟨h, hh9, by simp [up, hh']⟩, by simpa [up] using hd, ⟨0, by omega, by simp [up]; rfl⟩, fun h9 => by simp [up] at h9⟩
      · rw [if_neg l0]
        exact ⟨⟨h, hh9, by simp [up, hh']⟩, by simpa [up] using hd, by simpa [up] using wk, fun h9 => by simp [up, d1, i10] at h9⟩
    · rw [if_neg d1]
      by_cases d2 : Q 2 = 2
      · rw [if_pos d2]
        have x : ∀ j, j < 8 → vExch G St Go p h Q j = Q j := fun j hj => vExch_o (by omega) (by omega) (by omega) (by omega) (by omega)
        have x0 := x 0 (by decide)
        have x1 := x 1 (by decide)
        have x2 := x 2 (by decide)
        have x3 := x 3 (by decide)
        have x4 := x 4 (by decide)
        generalize vExch G St Go p h Q = E at x0 x1 x2 x3 x4 ⊢
        generalize (if G 4 = 0 then (0 : Int32) else if Q 0 = 0 then 1 else 0) = xx
        have i20 : ¬ (2 : Int32) = 0 := by decide
        unfold vStay
        split
        · exact ⟨⟨h, hh9, by simp [up, x0, hh']⟩, by simpa [up, x1] using hd, by simpa [up, x4] using wk1, fun h9 => by simp [up, x2, d2, i20] at h9⟩
        · split
          · split
            · exact ⟨⟨h, hh9, by simp [up, x0, hh']⟩, by simpa [up, x1] using hd, by simpa [up, x4] using wk1, fun h9 => by simp [up] at h9⟩
            · exact ⟨⟨h, hh9, by simp [up, x0, hh']⟩, by simpa [up, x1] using hd, by simpa [up, x4] using wk1, fun h9 => by simp [up] at h9⟩
          · exact ⟨⟨h, hh9, by simp [up, x0, hh']⟩, by simpa [up, x1] using hd, by simpa [up, x4] using wk1, fun h9 => by simp [up, x2, d2, i20] at h9⟩
      · rw [if_neg d2]
        have hs : rOK F (o + 1) (vShut Q) := by
          unfold vShut
          split
          · rename_i l0
            exact ⟨⟨h, hh9, by simp [up, hh']⟩, by simpa [up] using hd, by simpa [up] using wk, fun h9 => by simp [up, l0]⟩
          · exact ⟨⟨h, hh9, by simp [up, hh']⟩, by simpa [up] using hd, by simpa [up] using wk, fun h9 => by simp [up, d0] at h9⟩
        by_cases d3 : Q 2 = 3
        · rw [if_pos d3]
          by_cases b7 : Q 7 = 0
          · rw [if_pos b7]; exact hs
          · rw [if_neg b7]
            exact ⟨⟨h, hh9, by simp [up, hh']⟩, by simpa [up] using hd, by simpa [up] using wk, fun h9 => by simp [up] at h9⟩
        · rw [if_neg d3]; exact hs
theorem mSet_row {s : zS} {q : Nat} (h : q < 41 ∨ 45 < q) : mSet c R s q = s q := by
  funext j
  unfold mSet
  split
  · rw [if_neg (by omega), if_neg (by omega), if_neg (by omega), if_neg (by omega), if_neg (by omega)]
  · rfl
theorem mRel_step {R' : Nat → Int32} {real : Bool} (ok : mOK F p n c first) (hM : mRel G St Go R F p n c first sr) (hg : vGo R R') (h7 : R' 7 = R 7) : mRel G St Go R' F p n c first (mSet c R' (mX real (R' 10) (R' 11) (R' 12) c first n sr)) := by
  obtain ⟨f2, f10, p5, n24, c5, hf⟩ := ok
  obtain ⟨⟨hF, hp, hrec, hn⟩, ⟨q0, q1, q2, q3, q4, q7⟩, hA, hW, hSt, hGo⟩ := hM
  obtain ⟨s', hs'⟩ : ∃ s', s' = mSet c R' (mX real (R' 10) (R' 11) (R' 12) c first n sr) := ⟨_, rfl⟩
  rw [← hs']
  have t40 : ∀ j, j ≠ 22 → s' 40 j = sr 40 j := fun j hj => by rw [hs', mSet_row (by omega), mX_40 hj]
  have t50 : s' 50 = sr 50 := by rw [hs', mSet_row (by omega), mX_row (by decide) (by decide) (by decide) (by decide)]
  have t51 : s' 51 = sr 51 := by rw [hs', mSet_row (by omega), mX_row (by decide) (by decide) (by decide) (by decide)]
  have t52 : s' 52 = sr 52 := by rw [hs', mSet_row (by omega), mX_row (by decide) (by decide) (by decide) (by decide)]
  have t48 : s' 48 = sr 48 := by rw [hs', mSet_row (by omega), mX_row (by decide) (by decide) (by decide) (by decide)]
  have t49 : ∀ r, r < n → s' 49 (first + r) = if zbit (R' 12) r = true then 1 else if zbit (R' 11) r = true then 3 else if zbit (R' 10) r = true then 2 else sr 49 (first + r) := fun r hr => by rw [hs', mSet_row (by omega), mX_49 hr]
  have i01 : ¬ (0 : Int32) = 1 := by decide
  have i10 : ¬ (1 : Int32) = 0 := by decide
  have i30 : ¬ (3 : Int32) = 0 := by decide
  have i31 : ¬ (3 : Int32) = 1 := by decide
  have i20 : ¬ (2 : Int32) = 0 := by decide
  have i21 : ¬ (2 : Int32) = 1 := by decide
  have big : ∀ r, ¬ r < n → zbit (R' 8) r = false ∧ zbit (R' 9) r = false := fun r hr => by
    by_cases e : r < 32
    · obtain ⟨g8, g9, -, -, g12⟩ := hg r e
      have a8 : zbit (R 8) r = false := by rw [hA]; simp [hr]
      have a9 : zbit (R 9) r = false := by rw [hW]; simp [hr]
      have b12 : zbit (R' 12) r = false := by
        cases hz : zbit (R' 12) r with
        | false => rfl
        | true => rw [g12 hz] at a9; cases a9
      rw [g8, g9, a8, a9, b12]
      simp
    · exact ⟨zbit_ge _ (by omega), zbit_ge _ (by omega)⟩
  refine ⟨⟨by rw [t40 _ (by decide), hF], by rw [t40 _ (by decide), hp], by rw [t40 _ (by decide), hrec], by rw [t40 _ (by decide), hn]⟩, ⟨by rw [hs']; simp [mSet], by rw [hs']; simp [mSet], by rw [hs']; simp [mSet], by rw [hs']; simp [mSet], by rw [hs']; simp [mSet], by rw [t48, q7, h7]⟩, fun r => ?_, fun r => ?_, fun f r hf => by rw [t51, hSt f r hf], fun f r hf => by rw [t52, hGo f r hf]⟩
  · by_cases hr : r < n
    · obtain ⟨g8, g9, g10, g11, g12⟩ := hg r (by omega)
      have hAr := hA r
      have hWr := hW r
      unfold mA mW at *
      simp only [hr, decide_true, Bool.true_and] at hAr hWr ⊢
      rw [g8, t49 r hr, t50]
      cases b12 : zbit (R' 12) r with
      | true =>
        rw [g12 b12] at hWr
        simp only [Bool.true_eq, Bool.and_eq_true, decide_eq_true_eq] at hWr
        simp [hWr.2]
      | false =>
        cases b11 : zbit (R' 11) r with
        | true => simp [i31]
        | false =>
          cases b10 : zbit (R' 10) r with
          | true => simp [i21]
          | false => simp [hAr]
    · simp [hr, (big r hr).1]
  · by_cases hr : r < n
    · obtain ⟨g8, g9, g10, g11, g12⟩ := hg r (by omega)
      have hAr := hA r
      have hWr := hW r
      unfold mA mW at *
      simp only [hr, decide_true, Bool.true_and] at hAr hWr ⊢
      rw [g9, t49 r hr, t50]
      cases b12 : zbit (R' 12) r with
      | true => simp [i10]
      | false =>
        cases b11 : zbit (R' 11) r with
        | true =>
          rw [(g11 b11).1] at hAr
          simp only [Bool.true_eq, Bool.and_eq_true, decide_eq_true_eq] at hAr
          rw [hWr, hAr.1]
          simp [i30, i10]
        | false =>
          cases b10 : zbit (R' 10) r with
          | true =>
            rw [g10 b10] at hAr
            simp only [Bool.true_eq, Bool.and_eq_true, decide_eq_true_eq] at hAr
            rw [hWr, hAr.1]
            simp [i20, i10]
          | false => simp [hWr]
    · simp [hr, (big r hr).2]
end MK
