def mRel (G St Go R : Nat → Int32) (F p n c first : Nat) (sr : zS) : Prop :=
  (sr 40 1 = zi F ∧ sr 40 3 = zi p ∧ sr 40 12 = G 4 ∧ sr 40 19 = zi n) ∧
  (sr 41 c = R 0 ∧ sr 42 c = R 1 ∧ sr 43 c = R 2 ∧ sr 44 c = R 3 ∧ sr 45 c = R 4 ∧ sr 48 c = R 7) ∧
  (∀ r, zbit (R 8) r = (decide (r < n) && mA sr c first r)) ∧ (∀ r, zbit (R 9) r = (decide (r < n) && mW sr c first r)) ∧
  (∀ f r, f < 10 → zbit (St f) r = (decide (r < n) && decide (sr 51 (first + r) = zi f))) ∧ (∀ f r, f < 10 → zbit (Go f) r = (decide (r < n) && decide (sr 52 (first + r) = zi f)))
def mOK (F p n c first : Nat) : Prop := 2 ≤ F ∧ F ≤ 10 ∧ p ≤ 5 ∧ n ≤ 24 ∧ c < 5 ∧ (first = 0 ∨ first = 24)
def mX (real : Bool) (arr out brd : Int32) (c first n : Nat) (s : zS) : zS := zfold (zbit brd) (mE3 real c first) n (zfold (zbit out) (mE2 real first) n (zfold (zbit arr) (mE1 real first) n s))
def vOut (G Go : Nat → Int32) (h : Nat) (R : Nat → Int32) : Int32 := if G 4 = 0 then 0 else if h / 2 = 0 then vAb Go h R else 0
def vBr (G St Go : Nat → Int32) (p h : Nat) (R : Nat → Int32) : Int32 := if G 4 = 0 then vBrd St Go p h R else 0
section MS
variable {N c first n p F h : Nat} {sr : zS} {G St Go R : Nat → Int32}
theorem mX_row {real : Bool} {arr out brd : Int32} {s : zS} {q : Nat} (h : q ≠ 55) (h2 : q ≠ 40) (h3 : q ≠ 54) (h4 : q ≠ 49) : mX real arr out brd c first n s q = s q := by
  unfold mX
  rw [zfold_row (fun r s => mE3_row h h2 h4), zfold_row (fun r s => mE2_row h h2 h3 h4), zfold_row (fun r s => mE1_row h h2 h3 h4)]
theorem mX_40 {real : Bool} {arr out brd : Int32} {s : zS} {j : Nat} (h : j ≠ 22) : mX real arr out brd c first n s 40 j = s 40 j := by
  unfold mX
  rw [zfold_cell (fun r s => mE3_40 h), zfold_cell (fun r s => mE2_40 h), zfold_cell (fun r s => mE1_40 h)]
theorem mX_49 {real : Bool} {arr out brd : Int32} {s : zS} {i : Nat} (hi : i < n) : mX real arr out brd c first n s 49 (first + i) = if zbit brd i = true then 1 else if zbit out i = true then 3 else if zbit arr i = true then 2 else s 49 (first + i) := by
  unfold mX
  rw [zfold_at mE3_49, zfold_at mE2_49, zfold_at mE1_49]
  simp [hi]
theorem mX_49o {real : Bool} {arr out brd : Int32} {s : zS} {j : Nat} (hj : j < first ∨ first + n ≤ j) : mX real arr out brd c first n s 49 j = s 49 j := by
  unfold mX
  rw [zfold_out mE3_49 _ _ _ hj, zfold_out mE2_49 _ _ _ hj, zfold_out mE1_49 _ _ _ hj]
theorem mX_0 {real : Bool} {s : zS} : mX real 0 0 0 c first n s = s := by
  unfold mX
  rw [zfold_none (fun r _ => zbit_zero r), zfold_none (fun r _ => zbit_zero r), zfold_none (fun r _ => zbit_zero r)]
theorem zc_32 {m : Int32} {n : Nat} (hn : n ≤ 32) (h : ∀ r, n ≤ r → zbit m r = false) : zc (zbit m) 32 = zc (zbit m) n := by
  have := zc_none (p := zbit m) (a := n) (32 - n) h
  rw [show n + (32 - n) = 32 by omega] at this
  exact this
theorem m_exchange {K : Nat} (hN : 50 ≤ N) (ok : mOK F p n c first) (hM : mRel G St Go R F p n c first sr) (hh : R 0 = zi h) (hh9 : h + 2 ≤ 2 * F) (hK : mK (decide (first = 0)) sr K) (hK9 : K < 900000000) :
    zf_Mo_exchange N (zi c) (zi first) sr = some (mX (decide (first = 0)) (vArr Go h R) (vOut G Go h R) (vBr G St Go p h R) c first n sr) := by
  obtain ⟨f2, f10, p5, n24, c5, hf⟩ := ok
  obtain ⟨⟨hF, hp, hrec, hn⟩, ⟨q0, q1, q2, q3, q4, q7⟩, hA, hW, hSt, hGo⟩ := hM
  have hfn : first + n ≤ 48 := by omega
  have hreal : decide (first = 0) = true → first + n ≤ 24 := fun h => by simp at h; omega
  unfold zf_Mo_exchange zf_Mo_exchange_18
  have hin : ¬ (zi c < 0 ∨ 5 ≤ c) := zi_inn (by omega) (by decide)
  have e2 : zi h / 2 = zi (h / 2) := zi_div (b := 2) (by omega) (by decide)
  have es : (if zi first = 0 then zf_Mo_exchange_23 N N (zi c) (zi first) (zi (h / 2)) 1 (zi first) sr else zf_Mo_exchange_23 N N (zi c) (zi first) (zi (h / 2)) 0 (zi first) sr) = zf_Mo_exchange_23 N N (zi c) (zi first) (zi (h / 2)) (if decide (first = 0) = true then 1 else 0) (zi first) sr := by
    by_cases e : first = 0
    · subst e; rfl
    · have : ¬ zi first = 0 := fun h => e ((zi_eq (b := 0) (by omega) (by decide)).mp h)
      rw [if_neg this]; simp [e]
  simp only [zi_nat (show c < 2147483648 by omega), hin, if_false, q0, hh, e2, es]
  have hArr : ∀ r, zbit (vArr Go h R) r = (decide (r < n) && mA sr c first r && decide (sr 52 (first + r) = zi (h / 2))) := fun r => by
    unfold vArr
    rw [zbit_and, hA, hGo (h / 2) r (by omega)]
    cases decide (r < n) <;> simp
  have h1 := m_x1 (N := N) (c := c) (fl := h / 2) (P := zbit (vArr Go h R)) hreal hn hfn hK (by omega) (fun r hr => by rw [hArr]; simp [hr]) n 0 N (by omega) (by omega)
  rw [show zfold (zbit (vArr Go h R)) (mE1 (decide (first = 0)) first) 0 sr = sr from rfl, Nat.add_zero] at h1
  rw [h1]
  obtain ⟨s1, hs1⟩ : ∃ s1, s1 = zfold (zbit (vArr Go h R)) (mE1 (decide (first = 0)) first) n sr := ⟨_, rfl⟩
  have s1_19 : s1 40 19 = zi n := by rw [hs1, zfold_cell (fun r s => mE1_40 (by decide)), hn]
  have s1_12 : s1 40 12 = G 4 := by rw [hs1, zfold_cell (fun r s => mE1_40 (by decide)), hrec]
  have s1_3 : s1 40 3 = zi p := by rw [hs1, zfold_cell (fun r s => mE1_40 (by decide)), hp]
  have s1_50 : s1 50 = sr 50 := by rw [hs1]; exact zfold_row (fun r s => mE1_row (by decide) (by decide) (by decide) (by decide)) _ _
  have s1_51 : s1 51 = sr 51 := by rw [hs1]; exact zfold_row (fun r s => mE1_row (by decide) (by decide) (by decide) (by decide)) _ _
  have s1_49 : ∀ r, r < n → s1 49 (first + r) = if zbit (vArr Go h R) r = true then 2 else sr 49 (first + r) := fun r hr => by rw [hs1, zfold_at mE1_49]; simp [hr]
  have s1_K : mK (decide (first = 0)) s1 (K + n) := by rw [hs1]; exact mK_fold (fun h r s => by rw [h]; exact mE1_22) hK n
  have i21 : ¬ (2 : Int32) = 1 := by decide
  have i20 : ¬ (2 : Int32) = 0 := by decide
  have hAb : ∀ r, r < n → zbit (vAb Go h R) r = mA s1 c first r := fun r hr => by
    unfold vAb
    rw [zbit_and, zbit_not _ (by omega), hA]
    have e1 := s1_49 r hr
    have e2 := hArr r
    unfold mA at e2 ⊢
    rw [e1, s1_50]
    cases hz : zbit (vArr Go h R) r with
    | true => simp [hz, i21]
    | false => simp [hz, hr]
  have hAb0 : ∀ r, n ≤ r → zbit (vAb Go h R) r = false := fun r hr => by
    unfold vAb
    rw [zbit_and, hA]
    simp [show ¬ r < n by omega]
  have h2 := m_x2 (N := N) (c := c) (n := n) (fl := h / 2) (P := zbit (vOut G Go h R)) (by omega) hN hreal s1_19 hfn s1_K (by omega) (fun r hr => by
    unfold vOut
    rw [s1_12]
    by_cases g : G 4 = 0
    · simp [g, zbit_zero]
    · by_cases e : h / 2 = 0
      · simp [g, e, hAb r hr]
      · simp [g, e, zbit_zero])
  rw [← hs1, h2]
  obtain ⟨s2, hs2⟩ : ∃ s2, s2 = zfold (zbit (vOut G Go h R)) (mE2 (decide (first = 0)) first) n s1 := ⟨_, rfl⟩
  have s2_19 : s2 40 19 = zi n := by rw [hs2, zfold_cell (fun r s => mE2_40 (by decide)), s1_19]
  have s2_12 : s2 40 12 = G 4 := by rw [hs2, zfold_cell (fun r s => mE2_40 (by decide)), s1_12]
  have s2_3 : s2 40 3 = zi p := by rw [hs2, zfold_cell (fun r s => mE2_40 (by decide)), s1_3]
  have s2_K : mK (decide (first = 0)) s2 (K + n + n) := by rw [hs2]; exact mK_fold (fun h r s => by rw [h]; exact mE2_22) s1_K n
  rw [← hs2]
  have hz2 : G 4 = 0 → s2 = s1 := fun g => by rw [hs2]; exact zfold_none (fun r _ => by unfold vOut; rw [if_pos g, zbit_zero])
  have h3 := m_x3 (N := N) (c := c) (fl := h / 2) (p := p) (P := zbit (vBr G St Go p h R)) hN hreal s2_19 s2_3 (by omega) hfn s2_K (by omega) (fun r hr => by
    unfold vBr
    rw [s2_12]
    by_cases g : G 4 = 0
    · rw [if_pos g, hz2 g]
      have hm : ∀ i, i < n → zbit (R 9 &&& St (h / 2)) i = mM s1 c first (h / 2) i := fun i hi => by
        unfold mM mW
        rw [zbit_and, hW, hSt (h / 2) i (by omega), s1_50, s1_51, s1_49 i hi]
        unfold mW
        cases hz : zbit (vArr Go h R) i with
        | true =>
          have := hArr i
          rw [hz] at this
          unfold mA at this
          simp only [Bool.true_eq, Bool.and_eq_true, decide_eq_true_eq] at this
          simp [this.1.2.1, i20]
        | false => simp [hi]
      unfold vBrd
      rw [vFst_bit _ _ _ _ _ (by decide), hm r hr]
      have e1 : zc (zbit (vAb Go h R)) 32 = zc (mA s1 c first) n := by
        rw [zc_32 (n := n) (by omega) hAb0]
        exact zc_congr hAb
      have e2 : zc (zbit (R 9 &&& St (h / 2))) r = zc (mM s1 c first (h / 2)) r := zc_congr (fun i hi => hm i (by omega))
      rw [e1, e2]
      simp [g, show r < 24 by omega]
    · simp [g, zbit_zero])
  rw [h3]
  show _ = some (mX _ _ _ _ _ _ _ _)
  unfold mX
  rw [← hs1, ← hs2]
theorem zany_eq {a b : Nat → Bool} {n m : Nat} (h1 : ∀ r, r < n → a r = true → ∃ i, i < m ∧ b i = true) (h2 : ∀ r, r < m → b r = true → ∃ i, i < n ∧ a i = true) : zany a n = zany b m := by
  cases hb : zany b m with
  | true =>
    obtain ⟨r, e1, e2⟩ := (zany_iff _ _).mp hb
    obtain ⟨i, e3, e4⟩ := h2 r e1 e2
    exact (zany_iff _ _).mpr ⟨i, e3, e4⟩
  | false =>
    rw [zany_no] at hb ⊢
    intro r hr
    cases ha : a r with
    | false => rfl
    | true =>
      obtain ⟨i, e3, e4⟩ := h1 r hr ha
      rw [hb i e3] at e4
      cases e4
theorem z_and0 (a b : Int32) : (decide (a &&& b = 0)) = !zany (fun r => zbit a r && zbit b r) 32 := by
  cases hz : zany (fun r => zbit a r && zbit b r) 32 with
  | false =>
    rw [zany_no] at hz
    simp only [Bool.not_false, decide_eq_true_eq]
    exact (zbit_eq0 _).mpr (fun r hr => by rw [zbit_and]; exact hz r hr)
  | true =>
    obtain ⟨r, e1, e2⟩ := (zany_iff _ _).mp hz
    simp only [Bool.not_true, decide_eq_false_iff_not]
    intro h0
    have := (zbit_eq0 _).mp h0 r e1
    rw [zbit_and] at this
    simp only [e2] at this
    cases this
theorem m_stops (ok : mOK F p n c first) (hM : mRel G St Go R F p n c first sr) (hG3 : G 3 = zi p) : ∀ i, zbit (vSS G St Go F R) i = mQ sr c first p n F i := by
  obtain ⟨f2, f10, p5, n24, c5, hf⟩ := ok
  obtain ⟨⟨hF, hp, hrec, hn⟩, -, hA, hW, hSt, hGo⟩ := hM
  intro i
  unfold vSS mQ mStop
  rw [hrec]
  by_cases g : G 4 = 0
  · rw [if_pos g, if_pos g, vMask_bit _ _ _ (by omega)]
    by_cases c1 : i % 2 = 0
    · by_cases c2 : i / 2 < F
      · simp only [c1, c2, show i < 2 * F by omega, decide_true, Bool.true_and]
        generalize hf9 : i / 2 = f at c2 ⊢
        have e1 : zc (zbit (R 8)) 32 = zc (mA sr c first) n := by
          rw [zc_32 (n := n) (by omega) (fun r hr => by rw [hA]; simp [show ¬ r < n by omega])]
          exact zc_congr (fun r hr => by rw [hA]; simp [hr])
        have hz := zc_le (mA sr c first) n
        have e2 : ∀ r, zbit (vFetch (G 3) R) r = (decide (r < n) && mW sr c first r && decide (zc (mA sr c first) n < p)) := fun r => by
          unfold vFetch
          rw [e1, hG3]
          by_cases c3 : p ≤ zc (mA sr c first) n
          · rw [if_pos ((zi_le (by omega) (by omega)).mpr c3), zbit_zero]; simp [show ¬ zc (mA sr c first) n < p by omega]
          · rw [if_neg (fun h => c3 ((zi_le (by omega) (by omega)).mp h)), hW]; simp [show zc (mA sr c first) n < p by omega]
        unfold vStop
        rw [z_and0, z_and0, ← Bool.not_or, Bool.not_not]
        have e3 : (zany (fun r => zbit (R 8) r && zbit (Go f) r) 32 || zany (fun r => zbit (vFetch (G 3) R) r && zbit (St f) r) 32) = zany (fun r => (zbit (R 8) r && zbit (Go f) r) || (zbit (vFetch (G 3) R) r && zbit (St f) r)) 32 := by
          have : ∀ (a b : Nat → Bool) n, (zany a n || zany b n) = zany (fun r => a r || b r) n := by
            intro a b n
            induction n with
            | zero => rfl
            | succ n ih =>
              simp only [zany, ← ih]
              cases zany a n <;> cases zany b n <;> cases a n <;> cases b n <;> rfl
          exact this _ _ _
        rw [e3]
        refine zany_eq (fun r hr h => ?_) (fun r hr h => ?_)
        · rw [hA, e2, hGo f r (by omega), hSt f r (by omega)] at h
          have hrn : r < n := by
            by_cases e : r < n
            · exact e
            · simp [e] at h
          refine ⟨r, hrn, ?_⟩
          unfold mStop1
          simp only [hrn, decide_true, Bool.true_and] at h
          rw [← h]
          cases mW sr c first r <;> cases decide (zc (mA sr c first) n < p) <;> cases decide (sr 51 (first + r) = zi f) <;> rfl
        · refine ⟨r, by omega, ?_⟩
          rw [hA, e2, hGo f r (by omega), hSt f r (by omega)]
          unfold mStop1 at h
          simp only [hr, decide_true, Bool.true_and]
          rw [← h]
          cases mW sr c first r <;> cases decide (zc (mA sr c first) n < p) <;> cases decide (sr 51 (first + r) = zi f) <;> rfl
      · simp [c2, show ¬ i < 2 * F by omega]
    · simp [c1]
  · rw [if_neg g, if_neg g]
    have := zbit_shl (r := 0) (by decide) i
    rw [show ((1 : Int32) <<< (zi 0 &&& 31)) = 1 by decide] at this
    rw [this]
    by_cases e : i = 0
    · subst e; simp; omega
    · by_cases e2 : i % 2 = 0
      · simp [e, e2, show ¬ i / 2 = 0 by omega]
      · simp [e, e2]
theorem aNear_congr {Q Q' : Nat → Bool} (h : ∀ i, Q i = Q' i) : Q = Q' := funext h
theorem aNear_more {Q : Nat → Bool} {h B : Nat} (hB : ∀ i, B ≤ i → Q i = false) (hhB : h < B) : ∀ (k g j : Nat), B ≤ g + k → aNear Q h (k + j) g = aNear Q h k g := by
  intro k
  induction k with
  | zero =>
    intro g j hg
    rw [Nat.zero_add]
    show aNear Q h j g = 0
    induction j generalizing g with
    | zero => rfl
    | succ j ihj =>
      rw [aNear_succ, if_neg (by omega), hB (h + g) (by omega), if_neg (by decide)]
      exact ihj (g + 1) (by omega)
  | succ k ih =>
    intro g j hg
    rw [show k + 1 + j = (k + j) + 1 by omega, aNear_succ, aNear_succ, ih (g + 1) j (by omega)]
theorem aNear_val {Q : Nat → Bool} {h : Nat} : ∀ (k g : Nat), 0 < g → (aNear Q h k g = 0 ∧ ∀ i, g ≤ i → i < g + k → (i ≤ h → Q (h - i) = false) ∧ Q (h + i) = false) ∨ (aNear Q h k g = -1 ∧ ∃ i, i < h ∧ Q i = true) ∨ (aNear Q h k g = 1 ∧ ∃ i, h < i ∧ Q i = true) := by
  intro k
  induction k with
  | zero => intro g hg; exact Or.inl ⟨rfl, fun i h1 h2 => by omega⟩
  | succ k ih =>
    intro g hg
    rw [aNear_succ]
    by_cases c1 : g ≤ h ∧ Q (h - g) = true
    · rw [if_pos c1]; exact Or.inr (Or.inl ⟨rfl, h - g, by omega, c1.2⟩)
    · rw [if_neg c1]
      by_cases c2 : Q (h + g) = true
      · rw [if_pos c2]; exact Or.inr (Or.inr ⟨rfl, h + g, by omega, c2⟩)
      · rw [if_neg c2]
        rcases ih (g + 1) (by omega) with ⟨h1, h2⟩ | h1 | h1
        · refine Or.inl ⟨h1, fun i h3 h4 => ?_⟩
          by_cases e : i = g
          · subst e
            refine ⟨fun h5 => ?_, by simpa using c2⟩
            cases hq : Q (h - i) with
            | false => rfl
            | true => exact absurd ⟨h5, hq⟩ c1
          · exact h2 i (by omega) (by omega)
        · exact Or.inr (Or.inl h1)
        · exact Or.inr (Or.inr h1)
def mSet (c : Nat) (R : Nat → Int32) (s : zS) : zS := fun q j => if j = c then (if q = 41 then R 0 else if q = 42 then R 1 else if q = 43 then R 2 else if q = 44 then R 3 else if q = 45 then R 4 else s q j) else s q j
theorem mSet_eq {s' s : zS} {c : Nat} {R : Nat → Int32} (h0 : s' 41 c = R 0) (h1 : s' 42 c = R 1) (h2 : s' 43 c = R 2) (h3 : s' 44 c = R 3) (h4 : s' 45 c = R 4) (hq : ∀ q, q ≠ 41 → q ≠ 42 → q ≠ 43 → q ≠ 44 → q ≠ 45 → s' q c = s q c) (hj : ∀ q j, j ≠ c → s' q j = s q j) : s' = mSet c R s := by
  funext q j
  unfold mSet
  by_cases e : j = c
  · subst e
    rw [if_pos rfl]
    by_cases e1 : q = 41
    · subst e1; exact h0
    · by_cases e2 : q = 42
      · subst e2; exact h1
      · by_cases e3 : q = 43
        · subst e3; exact h2
        · by_cases e4 : q = 44
          · subst e4; exact h3
          · by_cases e5 : q = 45
            · subst e5; exact h4
            · simp [e1, e2, e3, e4, e5]; exact hq q e1 e2 e3 e4 e5
  · rw [if_neg e]; exact hj q j e
theorem m_closed (hN : 50 ≤ N) (ok : mOK F p n c first) (hM : mRel G St Go R F p n c first sr) (hG3 : G 3 = zi p) (hh : R 0 = zi h) (hh9 : h + 2 ≤ 2 * F) (hd : R 1 = 0 ∨ R 1 = 1 ∨ R 1 = -1) :
    zf_Mo_closed N (zi c) (zi first) sr = some (mSet c (vMove (vSS G St Go F R) h R) sr) := by
  have hQ := m_stops ok hM hG3
  obtain ⟨f2, f10, p5, n24, c5, hf⟩ := ok
  obtain ⟨⟨hF, hp, hrec, hn⟩, ⟨q0, q1, q2, q3, q4, q7⟩, -, -, -, -⟩ := hM
  have hfn : first + n ≤ 48 := by omega
  have hin : ¬ (zi c < 0 ∨ 5 ≤ c) := zi_inn (by omega) (by decide)
  have e2 : zi h / 2 = zi (h / 2) := zi_div (b := 2) (by omega) (by decide)
  have hmQ : mQ sr c first p n F = zbit (vSS G St Go F R) := funext (fun i => (hQ i).symm)
  unfold zf_Mo_closed
  rw [m_isThere (q0.trans hh) (by omega) c5]
  simp only [Option.bind_some, zi_nat (show c < 2147483648 by omega), hin, if_false, q0, hh, e2]
  rw [m_isStop (by omega) hN hp (by omega) hn hfn]
  simp only [Option.bind_some]
  have hhere : zbit (vSS G St Go F R) h = (decide (h % 2 = 0) && mStop sr c first p n (h / 2)) := by
    rw [hQ]; unfold mQ; simp [show h / 2 < F by omega]
  have i10 : ¬ (1 : Int32) = 0 := by decide
  unfold vMove
  cases hb : zbit (vSS G St Go F R) h with
  | true =>
    rw [hb] at hhere
    simp only [Bool.true_eq, Bool.and_eq_true, decide_eq_true_eq] at hhere
    have hm0 : ¬ vSS G St Go F R = 0 := fun h0 => by rw [h0, zbit_zero] at hb; cases hb
    simp only [hhere.1, hhere.2, if_true, i10, if_false, hm0]
    refine congrArg some (mSet_eq ?_ ?_ ?_ ?_ ?_ (fun q h1 h2 h3 h4 h5 => ?_) (fun q j hj => ?_)) <;> simp [zp, up, *]
  | false =>
    have h40 : (if (if h % 2 = 0 then (1 : Int32) else 0) = 0 then zf_Mo_closed_40 N (zi c) (zi first) sr else if (if mStop sr c first p n (h / 2) = true then (1 : Int32) else 0) = 0 then zf_Mo_closed_40 N (zi c) (zi first) sr else some (zp (zp sr 43 c 1) 44 c 3)) = zf_Mo_closed_40 N (zi c) (zi first) sr := by
      by_cases c1 : h % 2 = 0
      · rw [hb] at hhere
        simp only [c1, decide_true, Bool.true_and] at hhere
        simp [c1, ← hhere]
      · simp [c1]
    rw [h40]
    unfold zf_Mo_closed_40 zf_Mo_closed_100
    rw [m_nearest (q0.trans hh) hh9 c5 hF f10 hN hp (by omega) hn hfn, hmQ]
    simp only [Option.bind_some, zi_nat (show c < 2147483648 by omega), hin, if_false]
    obtain ⟨m, hm⟩ : ∃ m, m = vSS G St Go F R := ⟨_, rfl⟩
    rw [← hm] at hb hmQ hQ ⊢
    have hBnd : ∀ i, 2 * F - 1 ≤ i → zbit m i = false := fun i hi => by
      rw [hQ]; unfold mQ
      by_cases c1 : i % 2 = 0
      · simp [c1, show ¬ i / 2 < F by omega]
      · simp [c1]
    have hmore : aNear (zbit m) h 18 1 = aNear (zbit m) h (2 * F - 1) 1 := by
      rcases Nat.le_total (2 * F - 1) 18 with hle | hle
      · have := aNear_more (B := 2 * F - 1) (h := h) hBnd (by omega) (2 * F - 1) 1 (18 - (2 * F - 1)) (by omega)
        rw [show 2 * F - 1 + (18 - (2 * F - 1)) = 18 by omega] at this
        exact this
      · have := aNear_more (B := 2 * F - 1) (h := h) hBnd (by omega) 18 1 (2 * F - 1 - 18) (by omega)
        rw [show 18 + (2 * F - 1 - 18) = 2 * F - 1 by omega] at this
        exact this.symm
    by_cases hm0 : m = 0
    · have hz : aNear (zbit m) h (2 * F - 1) 1 = 0 := by
        rcases aNear_val (Q := zbit m) (h := h) (2 * F - 1) 1 (by omega) with ⟨h1, -⟩ | ⟨-, i, -, h1⟩ | ⟨-, i, -, h1⟩
        · exact h1
        · rw [hm0, zbit_zero] at h1; cases h1
        · rw [hm0, zbit_zero] at h1; cases h1
      rw [hz]
      simp only [hm0, if_true]
      refine congrArg some (mSet_eq ?_ ?_ ?_ ?_ ?_ (fun q h1 h2 h3 h4 h5 => ?_) (fun q j hj => ?_)) <;> simp [zp, up, *]
    · obtain ⟨i0, hi0, hq0⟩ : ∃ i, i < 32 ∧ zbit m i = true := by
        cases hz : zany (zbit m) 32 with
        | true => exact (zany_iff _ _).mp hz
        | false => exact absurd ((zbit_eq0 m).mpr (zany_no.mp hz)) hm0
      have hi0h : i0 ≠ h := fun e => by rw [e, hb] at hq0; cases hq0
      have hi0b : i0 < 2 * F - 1 := by
        by_cases e : i0 < 2 * F - 1
        · exact e
        · rw [hBnd i0 (by omega)] at hq0; cases hq0
      have hnz : ¬ aNear (zbit m) h (2 * F - 1) 1 = 0 := by
        rcases aNear_val (Q := zbit m) (h := h) (2 * F - 1) 1 (by omega) with ⟨h1, h2⟩ | ⟨h1, -⟩ | ⟨h1, -⟩
        · exfalso
          rcases Nat.lt_or_ge i0 h with hlt | hge
          · have := (h2 (h - i0) (by omega) (by omega)).1 (by omega)
            rw [show h - (h - i0) = i0 by omega, hq0] at this; cases this
          · have := (h2 (i0 - h) (by omega) (by omega)).2
            rw [show h + (i0 - h) = i0 by omega, hq0] at this; cases this
        · rw [h1]; decide
        · rw [h1]; decide
      have hdir : (if sr 42 c = 0 then some (zp (zp sr 42 c (aNear (zbit m) h (2 * F - 1) 1)) 41 c (sr 41 c + zp sr 42 c (aNear (zbit m) h (2 * F - 1) 1) 42 c)) else (zf_Mo_hasStop N (zi c) (sr 42 c) (zi first) sr).bind fun y86 => if y86.fst = 0 then some (zp (zp y86.snd 42 c (-sr 42 c)) 41 c (y86.snd 41 c + zp y86.snd 42 c (-sr 42 c) 42 c)) else some (zp (zp y86.snd 42 c (sr 42 c)) 41 c (y86.snd 41 c + zp y86.snd 42 c (sr 42 c) 42 c))) = some (zp (zp sr 42 c (vDir m h (R 1))) 41 c (zi h + vDir m h (R 1))) := by
        unfold vDir
        rw [q1, q0, hh, hmore]
        by_cases d0 : R 1 = 0
        · simp [d0, zp]
        · have hw : R 1 = 1 ∨ R 1 = -1 := hd.resolve_left d0
          rw [if_neg d0, if_neg d0, m_hasStop hw (q0.trans hh) (by omega) c5 hF f10 hN hp (by omega) hn hfn]
          have hah : zany (fun f => mAh (R 1) h f && mStop sr c first p n f) F = aAhead (zbit m) h (R 1) := by
            unfold aAhead
            rcases hw with hw | hw
            · rw [hw, if_pos (by decide)]
              refine zany_eq (fun f hf h9 => ?_) (fun i hi h9 => ?_)
              · simp only [mAh, if_true, Bool.and_eq_true, decide_eq_true_eq] at h9
                refine ⟨2 * f, by omega, ?_⟩
                rw [hQ]; unfold mQ
                simp only [show 2 * f % 2 = 0 by omega, show 2 * f / 2 = f by omega, hf, h9.2, show h ≤ 2 * f by omega, decide_true, Bool.and_self]
              · simp only [Bool.and_eq_true, decide_eq_true_eq] at h9
                have h8 := h9.2
                rw [hQ] at h8
                unfold mQ at h8
                simp only [Bool.and_eq_true, decide_eq_true_eq] at h8
                have hne : i ≠ h := fun e => by rw [e, hb] at h9; cases h9.2
                refine ⟨i / 2, h8.1.2, ?_⟩
                simp only [mAh, if_true, Bool.and_eq_true, decide_eq_true_eq]
                exact ⟨by omega, h8.2⟩
            · rw [hw, if_neg (by decide)]
              refine zany_eq (fun f hf h9 => ?_) (fun i hi h9 => ?_)
              · simp only [mAh, show ¬ ((-1 : Int32) = 1) by decide, if_false, Bool.and_eq_true, decide_eq_true_eq] at h9
                refine ⟨2 * f, by omega, ?_⟩
                rw [hQ]; unfold mQ
                simp only [show 2 * f % 2 = 0 by omega, show 2 * f / 2 = f by omega, hf, h9.2, decide_true, Bool.and_self]
              · have h8 := h9
                rw [hQ] at h8
                unfold mQ at h8
                simp only [Bool.and_eq_true, decide_eq_true_eq] at h8
                refine ⟨i / 2, h8.1.2, ?_⟩
                simp only [mAh, show ¬ ((-1 : Int32) = 1) by decide, if_false, Bool.and_eq_true, decide_eq_true_eq]
                exact ⟨by omega, h8.2⟩
          rw [hah]
          simp only [Option.bind_some, q0, hh]
          cases hA9 : aAhead (zbit m) h (R 1) <;> simp [zp]
      simp only [hnz, if_false]
      rw [hdir]
      simp only [hm0, if_false, Bool.false_eq_true]
      generalize vDir m h (R 1) = dd
      refine congrArg some (mSet_eq ?_ ?_ ?_ ?_ ?_ (fun q h1 h2 h3 h4 h5 => ?_) (fun q j hj => ?_)) <;> simp [zp, up, *]
theorem zp_swap (s : zS) {a q : Nat} (b j : Nat) (x v : Int32) (h : a ≠ q) : zp (zp s q j v) a b x = zp (zp s a b x) q j v := by
  funext A B
  unfold zp
  by_cases e1 : A = a
  · subst e1; simp [h]
  · simp [e1]
theorem mN_comm {kind r cc : Int32} {s : zS} {q j : Nat} {v : Int32} (h : q ≠ 55) (h2 : q ≠ 40) : mN kind r cc (zp s q j v) = zp (mN kind r cc s) q j v := by
  unfold mN
  rw [zp_row s v (show (40 : Nat) ≠ q from fun e => h2 e.symm), zp_swap _ _ _ _ _ (Ne.symm h), zp_swap _ _ _ _ _ (Ne.symm h), zp_swap _ _ _ _ _ (Ne.symm h), zp_swap _ _ _ _ _ (Ne.symm h), zp_swap _ _ _ _ _ (Ne.symm h2)]
theorem mLv_comm {real : Bool} {r : Nat} {kind : Int32} {s : zS} {q j : Nat} {v : Int32} (h : 41 ≤ q) (h2 : q ≤ 48) : mLv real r kind (zp s q j v) = zp (mLv real r kind s) q j v := by
  unfold mLv
  split
  · rw [zp_row s v (show (40 : Nat) ≠ q by omega), zp_row s v (show (50 : Nat) ≠ q by omega), zp_row s v (show (53 : Nat) ≠ q by omega), zp_swap _ _ _ _ _ (show (54 : Nat) ≠ q by omega), mN_comm (by omega) (by omega)]
  · rfl
theorem mX_comm {real : Bool} {arr out brd : Int32} {s : zS} {q j : Nat} {v : Int32} (h : 41 ≤ q) (h2 : q ≤ 48) : mX real arr out brd c first n (zp s q j v) = zp (mX real arr out brd c first n s) q j v := by
  have c1 : ∀ r s v, mE1 real first r (zp s q j v) = zp (mE1 real first r s) q j v := fun r s v => by
    unfold mE1; rw [zp_swap _ _ _ _ _ (show (49 : Nat) ≠ q by omega), mLv_comm h h2]
  have c2 : ∀ r s v, mE2 real first r (zp s q j v) = zp (mE2 real first r s) q j v := fun r s v => by
    unfold mE2; rw [zp_swap _ _ _ _ _ (show (49 : Nat) ≠ q by omega), mLv_comm h h2]
  have c3 : ∀ r s v, mE3 real c first r (zp s q j v) = zp (mE3 real c first r s) q j v := fun r s v => by
    unfold mE3
    split
    · rw [zp_swap _ _ _ _ _ (show (49 : Nat) ≠ q by omega), mN_comm (by omega) (by omega)]
    · rw [zp_swap _ _ _ _ _ (show (49 : Nat) ≠ q by omega)]
  unfold mX
  rw [zfold_comm c1, zfold_comm c2, zfold_comm c3]
theorem vExch_o {j : Nat} (h8 : j ≠ 8) (h9 : j ≠ 9) (h10 : j ≠ 10) (h11 : j ≠ 11) (h12 : j ≠ 12) : vExch G St Go p h R j = R j := by
  unfold vExch
  split
  · simp [up, h8, h9, h10, h11, h12]
  · split <;> simp [up, h8, h9, h10, h11, h12]
theorem vExch_10 : vExch G St Go p h R 10 = vArr Go h R := by unfold vExch; split <;> (try split) <;> simp [up]
theorem vExch_11 (h11 : R 11 = 0) : vExch G St Go p h R 11 = vOut G Go h R := by
  unfold vExch vOut
  by_cases g : G 4 = 0
  · simp [g, up, h11]
  · by_cases e : h / 2 = 0
    · simp [g, e, up]
    · simp [g, e, up, h11]
theorem vExch_12 (h12 : R 12 = 0) : vExch G St Go p h R 12 = vBr G St Go p h R := by
  unfold vExch vBr
  by_cases g : G 4 = 0
  · simp [g, up]
  · by_cases e : h / 2 = 0 <;> simp [g, e, up, h12]
theorem mRel_fM (hM : mRel G St Go R F p n c first sr) : mRel G St Go (vfM R) F p n c first sr := hM
theorem m_stepCar {K o : Nat} (hN : 50 ≤ N) (ok : mOK F p n c first) (hM0 : mRel G St Go R F p n c first sr) (hG3 : G 3 = zi p) (hh : R 0 = zi h) (hh9 : h + 2 ≤ 2 * F) (hd : R 1 = 0 ∨ R 1 = 1 ∨ R 1 = -1) (ho : R 4 = zi o) (ho9 : o < 1000000000) (hK : mK (decide (first = 0)) sr K) (hK9 : K < 900000000) :
    zf_Mo_stepCar N (zi c) (zi first) sr = some (mSet c (vAdv G St Go F p h R) (mX (decide (first = 0)) (vAdv G St Go F p h R 10) (vAdv G St Go F p h R 11) (vAdv G St Go F p h R 12) c first n sr)) := by
  unfold vAdv
  have hM := mRel_fM hM0
  have r10 : vfM R 10 = 0 := rfl
  have r11 : vfM R 11 = 0 := rfl
  have r12 : vfM R 12 = 0 := rfl
  have hh : vfM R 0 = zi h := hh
  have hd : vfM R 1 = 0 ∨ vfM R 1 = 1 ∨ vfM R 1 = -1 := hd
  have ho : vfM R 4 = zi o := ho
  generalize vfM R = R at hM r10 r11 r12 hh hd ho ⊢
  clear hM0
  have hMc := hM
  have okc := ok
  obtain ⟨f2, f10, p5, n24, c5, hf⟩ := ok
  obtain ⟨⟨hF, hp, hrec, hn⟩, ⟨q0, q1, q2, q3, q4, q7⟩, hA, hW, hSt, hGo⟩ := hM
  have hin : ¬ (zi c < 0 ∨ 5 ≤ c) := zi_inn (by omega) (by decide)
  have i10 : ¬ (1 : Int32) = 0 := by decide
  have i20 : ¬ (2 : Int32) = 0 := by decide
  have i21 : ¬ (2 : Int32) = 1 := by decide
  have i30 : ¬ (3 : Int32) = 0 := by decide
  have i31 : ¬ (3 : Int32) = 1 := by decide
  have i32 : ¬ (3 : Int32) = 2 := by decide
  unfold zf_Mo_stepCar zf_Mo_stepCar_122 zf_Mo_stepCar_123 zf_Mo_stepCar_171 vAdv1
  have bs : ∀ x : Option zS, (x.bind fun t => some t) = x := fun x => by cases x <;> rfl
  simp only [zi_nat (show c < 2147483648 by omega), hin, if_false, q2, q3, q7, bs]
  by_cases d0 : R 2 = 0
  · have e10 : vMove (vSS G St Go F R) h R 10 = 0 := by unfold vMove; split <;> (try split) <;> simp [up, r10]
    have e11 : vMove (vSS G St Go F R) h R 11 = 0 := by unfold vMove; split <;> (try split) <;> simp [up, r11]
    have e12 : vMove (vSS G St Go F R) h R 12 = 0 := by unfold vMove; split <;> (try split) <;> simp [up, r12]
    simp only [d0, if_true, e10, e11, e12, mX_0]
    rw [m_closed hN okc hMc hG3 hh hh9 hd]
  · by_cases d1 : R 2 = 1
    · simp only [d1, i10, if_true, if_false]
      by_cases l0 : R 3 - 1 = 0
      · simp only [l0, if_true]
        obtain ⟨R2, hR2⟩ : ∃ R2, R2 = up (up (up R 2 2) 3 4) 4 0 := ⟨_, rfl⟩
        rw [← hR2]
        have hM2 : mRel G St Go R2 F p n c first (zp (zp (zp (zp sr 44 c 0) 43 c 2) 44 c 4) 45 c 0) := by
          subst hR2
          refine ⟨⟨hF, hp, hrec, hn⟩, ⟨by simp [zp, up, q0], by simp [zp, up, q1], by simp [zp, up], by simp [zp, up], by simp [zp, up], by simp [zp, up, q7]⟩, hA, hW, hSt, hGo⟩
        have hK2 : mK (decide (first = 0)) (zp (zp (zp (zp sr 44 c 0) 43 c 2) 44 c 4) 45 c 0) K := hK
        rw [m_exchange (h := h) hN okc hM2 (by rw [hR2]; simp [up, hh]) hh9 hK2 hK9]
        rw [mX_comm (by omega) (by omega), mX_comm (by omega) (by omega), mX_comm (by omega) (by omega), mX_comm (by omega) (by omega)]
        rw [vExch_10, vExch_11 (by rw [hR2]; simp [up, r11]), vExch_12 (by rw [hR2]; simp [up, r12])]
        have eA : vArr Go h R2 = vArr Go h R := by rw [hR2]; simp [vArr, up]
        refine congrArg some (mSet_eq ?_ ?_ ?_ ?_ ?_ (fun q h1 h2 h3 h4 h5 => ?_) (fun q j hj => ?_))
        · rw [vExch_o (by decide) (by decide) (by decide) (by decide) (by decide)]
          simp [zp, hR2, up]
          rw [mX_row (by decide) (by decide) (by decide) (by decide)]; exact q0
        · rw [vExch_o (by decide) (by decide) (by decide) (by decide) (by decide)]
          simp [zp, hR2, up]
          rw [mX_row (by decide) (by decide) (by decide) (by decide)]; exact q1
        · rw [vExch_o (by decide) (by decide) (by decide) (by decide) (by decide)]
          simp [zp, hR2, up]
        · rw [vExch_o (by decide) (by decide) (by decide) (by decide) (by decide)]
          simp [zp, hR2, up]
        · rw [vExch_o (by decide) (by decide) (by decide) (by decide) (by decide)]
          simp [zp, hR2, up]
        · simp [zp, h3, h4, h5]
        · simp [zp, hj]
      · simp only [l0, if_false]
        have e10 : up R 3 (R 3 - 1) 10 = 0 := by simp [up, r10]
        have e11 : up R 3 (R 3 - 1) 11 = 0 := by simp [up, r11]
        have e12 : up R 3 (R 3 - 1) 12 = 0 := by simp [up, r12]
        rw [e10, e11, e12, mX_0]
        refine congrArg some (mSet_eq ?_ ?_ ?_ ?_ ?_ (fun q h1 h2 h3 h4 h5 => ?_) (fun q j hj => ?_)) <;> simp [zp, up, *]
    · by_cases d2 : R 2 = 2
      · simp only [d2, i20, i21, if_true, if_false]
        unfold zf_Mo_open
        rw [m_exchange (h := h) hN okc hMc hh hh9 hK hK9]
        simp only [Option.bind_some]
        obtain ⟨E, hE⟩ : ∃ E, E = vExch G St Go p h R := ⟨_, rfl⟩
        have x10 : E 10 = vArr Go h R := by rw [hE, vExch_10]
        have x11 : E 11 = vOut G Go h R := by rw [hE, vExch_11 r11]
        have x12 : E 12 = vBr G St Go p h R := by rw [hE, vExch_12 r12]
        have x0 : E 0 = R 0 := by rw [hE, vExch_o (by decide) (by decide) (by decide) (by decide) (by decide)]
        have x1 : E 1 = R 1 := by rw [hE, vExch_o (by decide) (by decide) (by decide) (by decide) (by decide)]
        have x2 : E 2 = 2 := by rw [hE, vExch_o (by decide) (by decide) (by decide) (by decide) (by decide), d2]
        have x3 : E 3 = R 3 := by rw [hE, vExch_o (by decide) (by decide) (by decide) (by decide) (by decide)]
        have x4 : E 4 = zi o := by rw [hE, vExch_o (by decide) (by decide) (by decide) (by decide) (by decide), ho]
        have x7 : E 7 = R 7 := by rw [hE, vExch_o (by decide) (by decide) (by decide) (by decide) (by decide)]
        rw [← hE]
        have w10 : ∀ x, vStay x E 10 = E 10 := fun x => by unfold vStay; split <;> (try split) <;> (try split) <;> simp [up]
        have w11 : ∀ x, vStay x E 11 = E 11 := fun x => by unfold vStay; split <;> (try split) <;> (try split) <;> simp [up]
        have w12 : ∀ x, vStay x E 12 = E 12 := fun x => by unfold vStay; split <;> (try split) <;> (try split) <;> simp [up]
        rw [w10, w11, w12, x10, x11, x12]
        obtain ⟨s3, hs3⟩ : ∃ s3, s3 = mX (decide (first = 0)) (vArr Go h R) (vOut G Go h R) (vBr G St Go p h R) c first n sr := ⟨_, rfl⟩
        rw [← hs3]
        have y0 : s3 41 c = zi h := by rw [hs3, mX_row (by decide) (by decide) (by decide) (by decide), q0, hh]
        have y1 : s3 42 c = R 1 := by rw [hs3, mX_row (by decide) (by decide) (by decide) (by decide), q1]
        have y2 : s3 43 c = 2 := by rw [hs3, mX_row (by decide) (by decide) (by decide) (by decide), q2, d2]
        have y3 : s3 44 c = R 3 := by rw [hs3, mX_row (by decide) (by decide) (by decide) (by decide), q3]
        have y4 : s3 45 c = zi o := by rw [hs3, mX_row (by decide) (by decide) (by decide) (by decide), q4, ho]
        have y7 : s3 48 c = R 7 := by rw [hs3, mX_row (by decide) (by decide) (by decide) (by decide), q7]
        have y12 : s3 40 12 = G 4 := by rw [hs3, mX_40 (by decide), hrec]
        clear hs3 hE w10 w11 w12
        have t48 : ∀ v : Int32, zp s3 45 c v 48 c = R 7 := fun v => by rw [zp_row _ _ (show (48 : Nat) ≠ 45 by decide), y7]
        have t44 : ∀ v : Int32, zp s3 45 c v 44 c = R 3 := fun v => by rw [zp_row _ _ (show (44 : Nat) ≠ 45 by decide), y3]
        have u48 : ∀ v w : Int32, zp (zp s3 45 c v) 44 c w 48 c = R 7 := fun v w => by rw [zp_row _ _ (show (48 : Nat) ≠ 44 by decide), t48]
        have ev : (20 < zi o + 1) ↔ ¬ (zi o < 20) := by
          rw [zi_succ, show (20 : Int32) = zi 20 from rfl, zi_lt (by omega) (by omega), zi_lt (by omega) (by omega)]; omega
        have hx0 : (if G 4 = 0 then (0 : Int32) else if R 0 = 0 then 1 else 0) = if G 4 = 0 ∨ ¬ zi h = 0 then 0 else 1 := by
          rw [hh]
          by_cases g : G 4 = 0 <;> by_cases e : zi h = 0 <;> simp [g, e]
        rw [hx0]
        unfold zf_Mo_open_32 zf_Mo_open_52 zf_Mo_open_56 zf_Mo_open_57 zf_Mo_open_101 zf_Mo_open_122 zf_Mo_open_123
        simp only [zi_nat (show c < 2147483648 by omega), hin, if_false, y0, y4, y12, t48, t44, u48, zp_s, ev, i10, if_true]
        have main : ∀ (x : Int32), (x ≠ 0 ∨ (R 7 ≠ 0 ∧ zi o < 20)) → zp s3 45 c (zi o + 1) = mSet c (vStay x E) s3 := by
          intro x hx
          have hc : x ≠ 0 ∨ (E 7 ≠ 0 ∧ E 4 < 20) := by rw [x7, x4]; exact hx
          unfold vStay
          rw [if_pos hc]
          refine mSet_eq ?_ ?_ ?_ ?_ ?_ (fun q h1 h2 h3 h4 h5 => ?_) (fun q j hj => ?_) <;> simp [zp, up, *]
        have main2 : ¬ (R 7 ≠ 0 ∧ zi o < 20) → (if R 3 - 1 = 0 then (if R 7 = 0 then some (zp (zp (zp (zp s3 45 c (zi o + 1)) 44 c (R 3 - 1)) 43 c 3) 44 c 3) else some (zp (zp (zp (zp s3 45 c (zi o + 1)) 44 c (R 3 - 1)) 43 c 4) 44 c 6)) else some (zp (zp s3 45 c (zi o + 1)) 44 c (R 3 - 1))) = some (mSet c (vStay 0 E) s3) := by
          intro hx
          have hc : ¬ ((0 : Int32) ≠ 0 ∨ (E 7 ≠ 0 ∧ E 4 < 20)) := by rw [x7, x4]; rintro (h | h); exact h rfl; exact hx h
          unfold vStay
          rw [if_neg hc, x3, x7]
          by_cases l0 : R 3 - 1 = 0
          · by_cases b7 : R 7 = 0
            · simp only [l0, b7, if_true]
              refine congrArg some (mSet_eq ?_ ?_ ?_ ?_ ?_ (fun q h1 h2 h3 h4 h5 => ?_) (fun q j hj => ?_)) <;> simp [zp, up, *]
            · simp only [l0, b7, if_true, if_false]
              refine congrArg some (mSet_eq ?_ ?_ ?_ ?_ ?_ (fun q h1 h2 h3 h4 h5 => ?_) (fun q j hj => ?_)) <;> simp [zp, up, *]
          · simp only [l0, if_false]
            refine congrArg some (mSet_eq ?_ ?_ ?_ ?_ ?_ (fun q h1 h2 h3 h4 h5 => ?_) (fun q j hj => ?_)) <;> simp [zp, up, *]
        by_cases g : G 4 = 0 ∨ ¬ zi h = 0
        · rw [if_pos g]
          have hsel : ∀ a b d : Option zS, (if G 4 = 0 then a else if zi h = 0 then b else a) = a := fun a b d => by
            rcases g with g | g
            · simp [g]
            · by_cases g2 : G 4 = 0 <;> simp [g, g2]
          rw [hsel _ _ none]
          by_cases b7 : R 7 = 0
          · have := main2 (fun h => h.1 b7)
            rw [← this]
            simp only [b7, if_true]
          · by_cases b20 : zi o < 20
            · simp only [b7, b20, not_true, if_false]
              rw [main 0 (Or.inr ⟨b7, b20⟩)]
            · have := main2 (fun h => b20 h.2)
              rw [← this]
              simp only [b7, b20, not_false_eq_true, if_false, if_true]
        · have g1 : ¬ G 4 = 0 := fun h => g (Or.inl h)
          have g2 : zi h = 0 := Classical.byContradiction (fun h => g (Or.inr h))
          rw [if_neg g]
          simp only [g1, g2, if_true, if_false]
          rw [main 1 (Or.inl (by decide))]
      · by_cases d3 : R 2 = 3
        · simp only [d3, i30, i31, i32, if_true, if_false]
          by_cases b7 : R 7 = 0
          · simp only [b7, if_true]
            unfold vShut
            by_cases l0 : R 3 - 1 = 0
            · simp only [l0, if_true]
              rw [show up (up R 3 0) 2 0 10 = 0 by simp [up, r10], show up (up R 3 0) 2 0 11 = 0 by simp [up, r11], show up (up R 3 0) 2 0 12 = 0 by simp [up, r12], mX_0]
              refine congrArg some (mSet_eq ?_ ?_ ?_ ?_ ?_ (fun q h1 h2 h3 h4 h5 => ?_) (fun q j hj => ?_)) <;> simp [zp, up, *]
            · simp only [l0, if_false]
              rw [show up R 3 (R 3 - 1) 10 = 0 by simp [up, r10], show up R 3 (R 3 - 1) 11 = 0 by simp [up, r11], show up R 3 (R 3 - 1) 12 = 0 by simp [up, r12], mX_0]
              refine congrArg some (mSet_eq ?_ ?_ ?_ ?_ ?_ (fun q h1 h2 h3 h4 h5 => ?_) (fun q j hj => ?_)) <;> simp [zp, up, *]
          · simp only [b7, if_false, i10]
            rw [show up (up R 2 1) 3 3 10 = 0 by simp [up, r10], show up (up R 2 1) 3 3 11 = 0 by simp [up, r11], show up (up R 2 1) 3 3 12 = 0 by simp [up, r12], mX_0]
            refine congrArg some (mSet_eq ?_ ?_ ?_ ?_ ?_ (fun q h1 h2 h3 h4 h5 => ?_) (fun q j hj => ?_)) <;> simp [zp, up, *]
        · simp only [d0, d1, d2, d3, if_false, if_true]
          unfold vShut
          by_cases l0 : R 3 - 1 = 0
          · simp only [l0, if_true]
            rw [show up (up R 3 0) 2 0 10 = 0 by simp [up, r10], show up (up R 3 0) 2 0 11 = 0 by simp [up, r11], show up (up R 3 0) 2 0 12 = 0 by simp [up, r12], mX_0]
            refine congrArg some (mSet_eq ?_ ?_ ?_ ?_ ?_ (fun q h1 h2 h3 h4 h5 => ?_) (fun q j hj => ?_)) <;> simp [zp, up, *]
          · simp only [l0, if_false]
            rw [show up R 3 (R 3 - 1) 10 = 0 by simp [up, r10], show up R 3 (R 3 - 1) 11 = 0 by simp [up, r11], show up R 3 (R 3 - 1) 12 = 0 by simp [up, r12], mX_0]
            refine congrArg some (mSet_eq ?_ ?_ ?_ ?_ ?_ (fun q h1 h2 h3 h4 h5 => ?_) (fun q j hj => ?_)) <;> simp [zp, up, *]
end MS
