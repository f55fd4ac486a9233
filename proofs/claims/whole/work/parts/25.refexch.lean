def zfold (P : Nat → Bool) (eff : Nat → zS → zS) : Nat → zS → zS
  | 0, s => s
  | r + 1, s => if P r = true then eff r (zfold P eff r s) else zfold P eff r s
theorem zfold_succ (P : Nat → Bool) (eff : Nat → zS → zS) (r : Nat) (s : zS) : zfold P eff (r + 1) s = if P r = true then eff r (zfold P eff r s) else zfold P eff r s := rfl
theorem zfold_row {P : Nat → Bool} {eff : Nat → zS → zS} {q : Nat} (h : ∀ r s, eff r s q = s q) (n : Nat) (s : zS) : zfold P eff n s q = s q := by
  induction n with
  | zero => rfl
  | succ n ih => rw [zfold_succ]; split; rw [h, ih]; exact ih
theorem zfold_cell {P : Nat → Bool} {eff : Nat → zS → zS} {q j : Nat} (h : ∀ r s, eff r s q j = s q j) (n : Nat) (s : zS) : zfold P eff n s q j = s q j := by
  induction n with
  | zero => rfl
  | succ n ih => rw [zfold_succ]; split; rw [h, ih]; exact ih
theorem zfold_none {P : Nat → Bool} {eff : Nat → zS → zS} {n : Nat} {s : zS} (h : ∀ r, r < n → P r = false) : zfold P eff n s = s := by
  induction n with
  | zero => rfl
  | succ n ih => rw [zfold_succ, h n (by omega), ih (fun r hr => h r (by omega))]; rfl
theorem zfold_comm {P : Nat → Bool} {eff : Nat → zS → zS} {q j : Nat} (h : ∀ r s v, eff r (zp s q j v) = zp (eff r s) q j v) (n : Nat) (s : zS) (v : Int32) : zfold P eff n (zp s q j v) = zp (zfold P eff n s) q j v := by
  induction n with
  | zero => rfl
  | succ n ih => rw [zfold_succ, zfold_succ, ih]; split; rw [h]; rfl
theorem zfold_at {P : Nat → Bool} {eff : Nat → zS → zS} {q first : Nat} {v : Int32} (h : ∀ r s, eff r s q = up (s q) (first + r) v) (n : Nat) (s : zS) (i : Nat) : zfold P eff n s q (first + i) = if i < n ∧ P i = true then v else s q (first + i) := by
  induction n with
  | zero => simp [zfold]
  | succ n ih =>
    rw [zfold_succ]
    by_cases hP : P n = true
    · rw [if_pos hP, h]
      unfold up
      by_cases e : i = n
      · subst e; simp [hP]
      · rw [if_neg (by omega), ih]
        by_cases c : i < n
        · simp [c, show i < n + 1 by omega]
        · simp [c, show ¬ i < n + 1 by omega]
    · rw [if_neg hP, ih]
      by_cases e : i = n
      · subst e; simp [hP]
      · by_cases c : i < n
        · simp [c, show i < n + 1 by omega]
        · simp [c, show ¬ i < n + 1 by omega]
theorem zfold_out {P : Nat → Bool} {eff : Nat → zS → zS} {q first : Nat} {v : Int32} (h : ∀ r s, eff r s q = up (s q) (first + r) v) (n : Nat) (s : zS) (j : Nat) (hj : j < first ∨ first + n ≤ j) : zfold P eff n s q j = s q j := by
  induction n with
  | zero => rfl
  | succ n ih =>
    rw [zfold_succ]
    split
    · rw [h]; unfold up; rw [if_neg (by omega), ih (by omega)]
    · exact ih (by omega)
def mN (kind r c : Int32) (s : zS) : zS := zp (zp (zp (zp (zp s 55 ((s 40 22).toNatClampNeg % 30 * 4) (s 40 20)) 55 ((s 40 22).toNatClampNeg % 30 * 4 + 1) kind) 55 ((s 40 22).toNatClampNeg % 30 * 4 + 2) r) 55 ((s 40 22).toNatClampNeg % 30 * 4 + 3) c) 40 22 (s 40 22 + 1)
def mLv (real : Bool) (r : Nat) (kind : Int32) (s : zS) : zS := if real = true then mN kind (zi r) (s 50 r) (zp s 54 r (s 40 20 - s 53 r)) else s
def mE1 (real : Bool) (first r : Nat) (s : zS) : zS := mLv real (first + r) 3 (zp s 49 (first + r) 2)
def mE2 (real : Bool) (first r : Nat) (s : zS) : zS := mLv real (first + r) 4 (zp s 49 (first + r) 3)
def mE3 (real : Bool) (c first r : Nat) (s : zS) : zS := if real = true then mN 2 (zi (first + r)) (zi c) (zp s 49 (first + r) 1) else zp s 49 (first + r) 1
theorem mN_row {kind r c : Int32} {s : zS} {q : Nat} (h : q ≠ 55) (h2 : q ≠ 40) : mN kind r c s q = s q := by
  unfold mN
  rw [zp_row _ _ h2, zp_row _ _ h, zp_row _ _ h, zp_row _ _ h, zp_row _ _ h]
theorem mN_40 {kind r c : Int32} {s : zS} {j : Nat} (h : j ≠ 22) : mN kind r c s 40 j = s 40 j := by
  unfold mN
  simp [zp, h]
theorem mN_22 {kind r c : Int32} {s : zS} : mN kind r c s 40 22 = s 40 22 + 1 := by
  unfold mN
  simp [zp]
theorem mLv_row {real : Bool} {r : Nat} {kind : Int32} {s : zS} {q : Nat} (h : q ≠ 55) (h2 : q ≠ 40) (h3 : q ≠ 54) : mLv real r kind s q = s q := by
  unfold mLv
  split
  · rw [mN_row h h2, zp_row _ _ h3]
  · rfl
theorem mLv_40 {real : Bool} {r : Nat} {kind : Int32} {s : zS} {j : Nat} (h : j ≠ 22) : mLv real r kind s 40 j = s 40 j := by
  unfold mLv
  split
  · rw [mN_40 h, zp_row _ _ (show (40 : Nat) ≠ 54 by decide)]
  · rfl
theorem mLv_22 {r : Nat} {kind : Int32} {s : zS} : mLv true r kind s 40 22 = s 40 22 + 1 := by
  unfold mLv
  rw [if_pos rfl, mN_22, zp_row _ _ (show (40 : Nat) ≠ 54 by decide)]
theorem mE1_row {real : Bool} {first r : Nat} {s : zS} {q : Nat} (h : q ≠ 55) (h2 : q ≠ 40) (h3 : q ≠ 54) (h4 : q ≠ 49) : mE1 real first r s q = s q := by unfold mE1; rw [mLv_row h h2 h3, zp_row _ _ h4]
theorem mE2_row {real : Bool} {first r : Nat} {s : zS} {q : Nat} (h : q ≠ 55) (h2 : q ≠ 40) (h3 : q ≠ 54) (h4 : q ≠ 49) : mE2 real first r s q = s q := by unfold mE2; rw [mLv_row h h2 h3, zp_row _ _ h4]
theorem mE3_row {real : Bool} {c first r : Nat} {s : zS} {q : Nat} (h : q ≠ 55) (h2 : q ≠ 40) (h4 : q ≠ 49) : mE3 real c first r s q = s q := by
  unfold mE3
  split
  · rw [mN_row h h2, zp_row _ _ h4]
  · rw [zp_row _ _ h4]
theorem mE1_40 {real : Bool} {first r : Nat} {s : zS} {j : Nat} (h : j ≠ 22) : mE1 real first r s 40 j = s 40 j := by unfold mE1; rw [mLv_40 h, zp_row _ _ (show (40 : Nat) ≠ 49 by decide)]
theorem mE2_40 {real : Bool} {first r : Nat} {s : zS} {j : Nat} (h : j ≠ 22) : mE2 real first r s 40 j = s 40 j := by unfold mE2; rw [mLv_40 h, zp_row _ _ (show (40 : Nat) ≠ 49 by decide)]
theorem mE3_40 {real : Bool} {c first r : Nat} {s : zS} {j : Nat} (h : j ≠ 22) : mE3 real c first r s 40 j = s 40 j := by
  unfold mE3
  split
  · rw [mN_40 h, zp_row _ _ (show (40 : Nat) ≠ 49 by decide)]
  · rw [zp_row _ _ (show (40 : Nat) ≠ 49 by decide)]
theorem zp_up (s : zS) (q j : Nat) (v : Int32) : zp s q j v q = up (s q) j v := by funext b; simp [zp, up]
theorem mE1_49 {real : Bool} {first : Nat} (r : Nat) (s : zS) : mE1 real first r s 49 = up (s 49) (first + r) 2 := by unfold mE1; rw [mLv_row (by decide) (by decide) (by decide), zp_up]
theorem mE2_49 {real : Bool} {first : Nat} (r : Nat) (s : zS) : mE2 real first r s 49 = up (s 49) (first + r) 3 := by unfold mE2; rw [mLv_row (by decide) (by decide) (by decide), zp_up]
theorem mE3_49 {real : Bool} {c first : Nat} (r : Nat) (s : zS) : mE3 real c first r s 49 = up (s 49) (first + r) 1 := by
  unfold mE3
  split
  · rw [mN_row (by decide) (by decide), zp_up]
  · rw [zp_up]
theorem mE1_22 {first r : Nat} {s : zS} : mE1 true first r s 40 22 = s 40 22 + 1 := by unfold mE1; rw [mLv_22, zp_row _ _ (show (40 : Nat) ≠ 49 by decide)]
theorem mE2_22 {first r : Nat} {s : zS} : mE2 true first r s 40 22 = s 40 22 + 1 := by unfold mE2; rw [mLv_22, zp_row _ _ (show (40 : Nat) ≠ 49 by decide)]
theorem mE3_22 {c first r : Nat} {s : zS} : mE3 true c first r s 40 22 = s 40 22 + 1 := by unfold mE3; rw [if_pos rfl, mN_22, zp_row _ _ (show (40 : Nat) ≠ 49 by decide)]
theorem zfold_22 {P : Nat → Bool} {eff : Nat → zS → zS} (h : ∀ r s, eff r s 40 22 = s 40 22 + 1) (n : Nat) (s : zS) {k : Nat} (hk : s 40 22 = zi k) : zfold P eff n s 40 22 = zi (k + zc P n) := by
  induction n with
  | zero => exact hk
  | succ n ih =>
    rw [zfold_succ, zc_succ]
    split
    · rw [h, ih, zi_succ, Nat.add_assoc]
    · exact ih
def mK (real : Bool) (s : zS) (K : Nat) : Prop := real = true → ∃ k, k ≤ K ∧ s 40 22 = zi k
theorem mK_fold {real : Bool} {P : Nat → Bool} {eff : Nat → zS → zS} {s : zS} {K : Nat} (h : real = true → ∀ r s, eff r s 40 22 = s 40 22 + 1) (hK : mK real s K) (n : Nat) : mK real (zfold P eff n s) (K + n) := by
  intro hr
  obtain ⟨k, h1, h2⟩ := hK hr
  exact ⟨k + zc P n, by have := zc_le P n; omega, zfold_22 (h hr) n s h2⟩
section MX
variable {N c first n p : Nat} {real : Bool} {sr : zS}
theorem m_note {k : Nat} (kind r cc : Int32) (hk : sr 40 22 = zi k) (hk9 : k < 2000000000) : zf_Mo_note N kind r cc sr = some (mN kind r cc sr) := by
  unfold zf_Mo_note mN
  have e30 : zi k - zi k / 30 * 30 = zi (k % 30) := by
    rw [show zi k / 30 = zi (k / 30) from zi_div (b := 30) (by omega) (by decide), show zi (k / 30) * 30 = zi (k / 30 * 30) from zi_mul _ 30, zi_sub (by omega)]
    congr 1; omega
  have e4 : zi (k % 30) * 4 = zi (k % 30 * 4) := zi_mul _ 4
  have h0 : ¬ (zi (k % 30 * 4) < 0 ∨ 120 ≤ k % 30 * 4) := zi_inn (by omega) (by decide)
  have h1 : ¬ (zi (k % 30 * 4 + 1) < 0 ∨ 120 ≤ k % 30 * 4 + 1) := zi_inn (by omega) (by decide)
  have h2 : ¬ (zi (k % 30 * 4 + 2) < 0 ∨ 120 ≤ k % 30 * 4 + 2) := zi_inn (by omega) (by decide)
  have h3 : ¬ (zi (k % 30 * 4 + 3) < 0 ∨ 120 ≤ k % 30 * 4 + 3) := zi_inn (by omega) (by decide)
  have a1 : zi (k % 30 * 4) + 1 = zi (k % 30 * 4 + 1) := zi_succ _
  have a2 : zi (k % 30 * 4) + 2 = zi (k % 30 * 4 + 2) := zi_add _ 2
  have a3 : zi (k % 30 * 4) + 3 = zi (k % 30 * 4 + 3) := zi_add _ 3
  simp only [hk, e30, e4, a1, a2, a3, zi_nat (show k % 30 * 4 < 2147483648 by omega), zi_nat (show k % 30 * 4 + 1 < 2147483648 by omega), zi_nat (show k % 30 * 4 + 2 < 2147483648 by omega), zi_nat (show k % 30 * 4 + 3 < 2147483648 by omega), h0, h1, h2, h3, if_false, zi_nat (show k < 2147483648 by omega)]
theorem m_leave {r K : Nat} (kind : Int32) (hr : real = true → r < 24) (hK : mK real sr K) (hK9 : K < 2000000000) : zf_Mo_leave N (zi r) kind (if real = true then 1 else 0) sr = some (mLv real r kind sr) := by
  unfold zf_Mo_leave zf_Mo_leave_33 mLv
  cases real with
  | false => simp
  | true =>
    have hr := hr rfl
    obtain ⟨k, h1, h2⟩ := hK rfl
    have i24 : ¬ (zi r < 0 ∨ 24 ≤ r) := zi_inn (by omega) (by decide)
    have i48 : ¬ (zi r < 0 ∨ 48 ≤ r) := zi_inn (by omega) (by decide)
    have i10 : ¬ (1 : Int32) = 0 := by decide
    simp only [if_true, i10, if_false, zi_nat (show r < 2147483648 by omega), i24, i48]
    rw [m_note (k := k) _ _ _ (by rw [zp_row _ _ (show (40 : Nat) ≠ 54 by decide)]; exact h2) (by omega)]
    rfl
theorem m_x1 {fl K : Nat} {P : Nat → Bool} (hreal : real = true → first + n ≤ 24) (hn : sr 40 19 = zi n) (hfn : first + n ≤ 48) (hK : mK real sr K) (hK9 : K < 1000000000)
    (hP : ∀ r, r < n → P r = (mA sr c first r && decide (sr 52 (first + r) = zi fl))) :
    ∀ (k r fu : Nat), r + k = n → k < fu → zf_Mo_exchange_23 N fu (zi c) (zi first) (zi fl) (if real = true then 1 else 0) (zi (first + r)) (zfold P (mE1 real first) r sr) = zf_Mo_exchange_105 N N (zi c) (zi first) (zi fl) (if real = true then 1 else 0) (zi first) (zfold P (mE1 real first) n sr) := by
  intro k
  induction k with
  | zero =>
    intro r fu hr hf
    obtain ⟨fu, rfl⟩ : ∃ f', fu = f' + 1 := ⟨fu - 1, by omega⟩
    show zb_Mo_exchange_23 N _ _ _ _ _ _ _ = _
    unfold zb_Mo_exchange_23
    rw [zfold_cell (fun r s => mE1_40 (by decide)), hn, zi_add, if_pos ((zi_le (by omega) (by omega)).mpr (by omega)), show r = n by omega]
  | succ k ih =>
    intro r fu hr hf
    obtain ⟨fu, rfl⟩ : ∃ f', fu = f' + 1 := ⟨fu - 1, by omega⟩
    show zb_Mo_exchange_23 N _ _ _ _ _ _ _ = _
    unfold zb_Mo_exchange_23 zf_Mo_exchange_60 zf_Mo_exchange_61 zf_Mo_exchange_96
    have hin : ¬ (zi (first + r) < 0 ∨ 48 ≤ first + r) := zi_inn (by omega) (by decide)
    have hle : ¬ (zi (first + n) ≤ zi (first + r)) := fun h => by have := (zi_le (by omega) (by omega)).mp h; omega
    have ih2 := ih (r + 1) fu (by omega) (by omega)
    rw [zfold_succ, ← Nat.add_assoc] at ih2
    have r19 : zfold P (mE1 real first) r sr 40 19 = zi n := by rw [zfold_cell (fun r s => mE1_40 (by decide)), hn]
    have r50 : zfold P (mE1 real first) r sr 50 = sr 50 := zfold_row (fun r s => mE1_row (by decide) (by decide) (by decide) (by decide)) _ _
    have r52 : zfold P (mE1 real first) r sr 52 = sr 52 := zfold_row (fun r s => mE1_row (by decide) (by decide) (by decide) (by decide)) _ _
    have r49 : zfold P (mE1 real first) r sr 49 (first + r) = sr 49 (first + r) := by rw [zfold_at mE1_49, if_neg (by omega)]
    have i10 : ¬ (1 : Int32) = 0 := by decide
    have hKr : mK real (zfold P (mE1 real first) r sr) (K + r) := mK_fold (fun h r s => by subst h; exact mE1_22) hK r
    have hlv : zf_Mo_leave N (zi (first + r)) 3 (if real = true then 1 else 0) (zp (zfold P (mE1 real first) r sr) 49 (first + r) 2) = some (mE1 real first r (zfold P (mE1 real first) r sr)) := by
      refine m_leave (K := K + r) 3 (fun h => ?_) (fun h => ?_) (by omega)
      · have := hreal h; omega
      · obtain ⟨k1, h1, h2⟩ := hKr h
        exact ⟨k1, h1, by rw [zp_row _ _ (show (40 : Nat) ≠ 49 by decide)]; exact h2⟩
    simp only [r19, zi_add, hle, if_false, zi_nat (show first + r < 2147483648 by omega), hin, r50, r49, r52, zi_succ, hlv, Option.bind_some, if_true, i10]
    rw [← ih2]
    have hPr := hP r (by omega)
    unfold mA at hPr
    by_cases c1 : sr 50 (first + r) = zi c
    · by_cases c2 : sr 49 (first + r) = 1
      · by_cases c3 : sr 52 (first + r) = zi fl <;> simp [c1, c2, c3] at hPr <;> simp [c1, c2, c3, hPr]
      · simp [c1, c2] at hPr; simp [c1, c2, hPr]
    · simp [c1] at hPr; simp [c1, hPr]
theorem m_x2 {fl K : Nat} {P : Nat → Bool} (hfl : fl < 100) (hN : 50 ≤ N) (hreal : real = true → first + n ≤ 24) (hn : sr 40 19 = zi n) (hfn : first + n ≤ 48) (hK : mK real sr K) (hK9 : K < 1000000000)
    (hP : ∀ r, r < n → P r = (mA sr c first r && !decide (sr 40 12 = 0) && decide (fl = 0))) :
    zf_Mo_exchange_105 N N (zi c) (zi first) (zi fl) (if real = true then 1 else 0) (zi first) sr = zf_Mo_exchange_172 N (zi c) (zi first) (zi fl) (if real = true then 1 else 0) (zfold P (mE2 real first) n sr) := by
  by_cases c0 : sr 40 12 = 0 ∨ ¬ fl = 0
  · have hz : zfold P (mE2 real first) n sr = sr := zfold_none (fun r hr => by
      rw [hP r hr]
      rcases c0 with c0 | c0 <;> simp [c0])
    rw [hz]
    obtain ⟨N', rfl⟩ : ∃ f', N = f' + 1 := ⟨N - 1, by omega⟩
    show zb_Mo_exchange_105 (N' + 1) _ _ _ _ _ _ _ = _
    unfold zb_Mo_exchange_105
    rcases c0 with c0 | c0
    · simp only [c0, if_true]
      split <;> rfl
    · have hz : ¬ zi fl = 0 := fun h => c0 ((zi_eq (b := 0) (by omega) (by decide)).mp h)
      simp only [hz, if_false]
      split
      · rfl
      · split <;> rfl
  · have c1 : ¬ sr 40 12 = 0 := fun h => c0 (Or.inl h)
    have c2 : fl = 0 := by
      by_cases h : fl = 0
      · exact h
      · exact absurd (Or.inr h) c0
    subst c2
    have main : ∀ (k r fu : Nat), r + k = n → k < fu → zf_Mo_exchange_105 N fu (zi c) (zi first) (zi 0) (if real = true then 1 else 0) (zi (first + r)) (zfold P (mE2 real first) r sr) = zf_Mo_exchange_172 N (zi c) (zi first) (zi 0) (if real = true then 1 else 0) (zfold P (mE2 real first) n sr) := by
      intro k
      induction k with
      | zero =>
        intro r fu hr hf
        obtain ⟨fu, rfl⟩ : ∃ f', fu = f' + 1 := ⟨fu - 1, by omega⟩
        show zb_Mo_exchange_105 N _ _ _ _ _ _ _ = _
        unfold zb_Mo_exchange_105
        rw [zfold_cell (fun r s => mE2_40 (by decide)), hn, zi_add, if_pos ((zi_le (by omega) (by omega)).mpr (by omega)), show r = n by omega]
      | succ k ih =>
        intro r fu hr hf
        obtain ⟨fu, rfl⟩ : ∃ f', fu = f' + 1 := ⟨fu - 1, by omega⟩
        show zb_Mo_exchange_105 N _ _ _ _ _ _ _ = _
        unfold zb_Mo_exchange_105 zf_Mo_exchange_166
        have hin : ¬ (zi (first + r) < 0 ∨ 48 ≤ first + r) := zi_inn (by omega) (by decide)
        have hle : ¬ (zi (first + n) ≤ zi (first + r)) := fun h => by have := (zi_le (by omega) (by omega)).mp h; omega
        have ih2 := ih (r + 1) fu (by omega) (by omega)
        rw [zfold_succ, ← Nat.add_assoc] at ih2
        have r19 : zfold P (mE2 real first) r sr 40 19 = zi n := by rw [zfold_cell (fun r s => mE2_40 (by decide)), hn]
        have r12 : zfold P (mE2 real first) r sr 40 12 = sr 40 12 := zfold_cell (fun r s => mE2_40 (by decide)) _ _
        have r50 : zfold P (mE2 real first) r sr 50 = sr 50 := zfold_row (fun r s => mE2_row (by decide) (by decide) (by decide) (by decide)) _ _
        have r49 : zfold P (mE2 real first) r sr 49 (first + r) = sr 49 (first + r) := by rw [zfold_at mE2_49, if_neg (by omega)]
        have z00 : zi 0 = 0 := rfl
        have hKr : mK real (zfold P (mE2 real first) r sr) (K + r) := mK_fold (fun h r s => by subst h; exact mE2_22) hK r
        have hlv : zf_Mo_leave N (zi (first + r)) 4 (if real = true then 1 else 0) (zp (zfold P (mE2 real first) r sr) 49 (first + r) 3) = some (mE2 real first r (zfold P (mE2 real first) r sr)) := by
          refine m_leave (K := K + r) 4 (fun h => ?_) (fun h => ?_) (by omega)
          · have := hreal h; omega
          · obtain ⟨k1, h1, h2⟩ := hKr h
            exact ⟨k1, h1, by rw [zp_row _ _ (show (40 : Nat) ≠ 49 by decide)]; exact h2⟩
        simp only [r19, r12, c1, z00, zi_add, hle, if_false, zi_nat (show first + r < 2147483648 by omega), hin, r50, r49, zi_succ, hlv, Option.bind_some, if_true] at ih2 ⊢
        rw [← ih2]
        have hPr := hP r (by omega)
        unfold mA at hPr
        by_cases d1 : sr 50 (first + r) = zi c
        · by_cases d2 : sr 49 (first + r) = 1 <;> simp [c1, d1, d2] at hPr <;> simp [d1, d2, hPr]
        · simp [d1] at hPr; simp [d1, hPr]
    exact main n 0 N (by omega) (by omega)
theorem zc_room {m : Nat → Bool} {p c : Nat} (r : Nat) : (zc (fun i => m i && decide (c + zc m i < p)) r = zc m r ∧ c + zc m r ≤ p) ∨ (p ≤ c + zc (fun i => m i && decide (c + zc m i < p)) r ∧ p ≤ c + zc m r) ∨ (p < c ∧ zc (fun i => m i && decide (c + zc m i < p)) r = 0) := by
  induction r with
  | zero =>
    by_cases h : c ≤ p
    · exact Or.inl ⟨rfl, h⟩
    · exact Or.inr (Or.inr ⟨by omega, rfl⟩)
  | succ r ih =>
    rw [zc_succ, zc_succ]
    cases hm : m r with
    | false => simpa using ih
    | true =>
      by_cases h : c + zc m r < p
      · simp only [h, decide_true, Bool.and_self, if_true]
        omega
      · simp only [h, decide_false, Bool.and_false, Bool.false_eq_true, if_false, if_true]
        omega
theorem zc_or {a b d : Nat → Bool} {n : Nat} (h : ∀ r, r < n → (if d r = true then 1 else 0) = (if a r = true then 1 else 0) + (if b r = true then 1 else 0)) : zc d n = zc a n + zc b n := by
  induction n with
  | zero => rfl
  | succ n ih =>
    rw [zc_succ, zc_succ, zc_succ, ih (fun r hr => h r (by omega)), h n (by omega)]
    omega
def mM (sr : zS) (c first fl : Nat) : Nat → Bool := fun r => mW sr c first r && decide (sr 51 (first + r) = zi fl)
theorem m_x3 {fl K : Nat} {P : Nat → Bool} (hN : 50 ≤ N) (hreal : real = true → first + n ≤ 24) (hn : sr 40 19 = zi n) (hp : sr 40 3 = zi p) (hp9 : p < 100000) (hfn : first + n ≤ 48) (hK : mK real sr K) (hK9 : K < 1000000000)
    (hP : ∀ r, r < n → P r = (mM sr c first fl r && decide (zc (mA sr c first) n + zc (mM sr c first fl) r < p) && decide (sr 40 12 = 0))) :
    zf_Mo_exchange_172 N (zi c) (zi first) (zi fl) (if real = true then 1 else 0) sr = some (zfold P (mE3 real c first) n sr) := by
  unfold zf_Mo_exchange_172
  by_cases c0 : sr 40 12 = 0
  · have main : ∀ (k r fu : Nat), r + k = n → k < fu → zf_Mo_exchange_175 N fu (zi c) (zi first) (zi fl) (if real = true then 1 else 0) (zi (first + r)) (zfold P (mE3 real c first) r sr) = some (zfold P (mE3 real c first) n sr) := by
      intro k
      induction k with
      | zero =>
        intro r fu hr hf
        obtain ⟨fu, rfl⟩ : ∃ f', fu = f' + 1 := ⟨fu - 1, by omega⟩
        show zb_Mo_exchange_175 N _ _ _ _ _ _ _ = _
        unfold zb_Mo_exchange_175 zf_Mo_exchange_265
        rw [zfold_cell (fun r s => mE3_40 (by decide)), hn, zi_add, if_pos ((zi_le (by omega) (by omega)).mpr (by omega)), show r = n by omega]
      | succ k ih =>
        intro r fu hr hf
        obtain ⟨fu, rfl⟩ : ∃ f', fu = f' + 1 := ⟨fu - 1, by omega⟩
        show zb_Mo_exchange_175 N _ _ _ _ _ _ _ = _
        unfold zb_Mo_exchange_175 zf_Mo_exchange_259
        have hin : ¬ (zi (first + r) < 0 ∨ 48 ≤ first + r) := zi_inn (by omega) (by decide)
        have hle : ¬ (zi (first + n) ≤ zi (first + r)) := fun h => by have := (zi_le (by omega) (by omega)).mp h; omega
        have ih2 := ih (r + 1) fu (by omega) (by omega)
        rw [zfold_succ, ← Nat.add_assoc] at ih2
        have r19 : zfold P (mE3 real c first) r sr 40 19 = zi n := by rw [zfold_cell (fun r s => mE3_40 (by decide)), hn]
        have r12 : zfold P (mE3 real c first) r sr 40 12 = sr 40 12 := zfold_cell (fun r s => mE3_40 (by decide)) _ _
        have r3 : zfold P (mE3 real c first) r sr 40 3 = zi p := by rw [zfold_cell (fun r s => mE3_40 (by decide)), hp]
        have r50 : zfold P (mE3 real c first) r sr 50 = sr 50 := zfold_row (fun r s => mE3_row (by decide) (by decide) (by decide)) _ _
        have r51 : zfold P (mE3 real c first) r sr 51 = sr 51 := zfold_row (fun r s => mE3_row (by decide) (by decide) (by decide)) _ _
        have r49 : zfold P (mE3 real c first) r sr 49 (first + r) = sr 49 (first + r) := by rw [zfold_at mE3_49, if_neg (by omega)]
        have hab : zf_Mo_aboard N (zi c) (zi first) (zfold P (mE3 real c first) r sr) = some (zi (zc (mA (zfold P (mE3 real c first) r sr) c first) n), zfold P (mE3 real c first) r sr) := m_aboard hN r19 hfn
        have hKr : mK real (zfold P (mE3 real c first) r sr) (K + r) := mK_fold (fun h r s => by subst h; exact mE3_22) hK r
        have i10 : ¬ (1 : Int32) = 0 := by decide
        have hcnt : zc (mA (zfold P (mE3 real c first) r sr) c first) n = zc (mA sr c first) n + zc (fun i => decide (i < r) && P i) n := by
          refine zc_or (fun i hi => ?_)
          unfold mA
          rw [zfold_at mE3_49, r50]
          by_cases e : i < r ∧ P i = true
          · have hPi := hP i hi
            rw [e.2] at hPi
            unfold mM mW at hPi
            simp only [Bool.true_eq, Bool.and_eq_true, decide_eq_true_eq] at hPi
            simp [e, hPi.1.1.1.1, hPi.1.1.1.2]
          · rw [if_neg e]
            have : (decide (i < r) && P i) = false := by
              cases hpi : P i with
              | false => simp
              | true => simp only [Bool.and_true, decide_eq_false_iff_not]; exact fun h => e ⟨h, hpi⟩
            rw [this]; simp
        have hcut : zc (fun i => decide (i < r) && P i) n = zc (fun i => mM sr c first fl i && decide (zc (mA sr c first) n + zc (mM sr c first fl) i < p)) r := by
          have h1 : zc (fun i => decide (i < r) && P i) n = zc (fun i => decide (i < r) && P i) r := by
            have := zc_none (p := fun i => decide (i < r) && P i) (a := r) (n - r) (fun i hi => by simp [show ¬ i < r by omega])
            rw [show r + (n - r) = n by omega] at this
            exact this
          rw [h1]
          exact zc_congr (fun i hi => by rw [hP i (by omega)]; simp [hi, c0])
        rw [hcut] at hcnt
        have hroom := zc_room (m := mM sr c first fl) (p := p) (c := zc (mA sr c first) n) r
        have hle1 := zc_le (mA (zfold P (mE3 real c first) r sr) c first) n
        have hcmp : (zi p ≤ zi (zc (mA (zfold P (mE3 real c first) r sr) c first) n)) ↔ ¬ (zc (mA sr c first) n + zc (mM sr c first fl) r < p) := by
          rw [zi_le (by omega) (by omega)]
          omega
        have hnote : (if (if real = true then (1 : Int32) else 0) = 0 then zf_Mo_exchange_175 N fu (zi c) (zi first) (zi fl) (if real = true then 1 else 0) (zi (first + r + 1)) (zp (zfold P (mE3 real c first) r sr) 49 (first + r) 1) else ((zf_Mo_note N 2 (zi (first + r)) (zi c) (zp (zfold P (mE3 real c first) r sr) 49 (first + r) 1)).bind fun t256 => zf_Mo_exchange_175 N fu (zi c) (zi first) (zi fl) (if real = true then 1 else 0) (zi (first + r + 1)) t256)) = zf_Mo_exchange_175 N fu (zi c) (zi first) (zi fl) (if real = true then 1 else 0) (zi (first + r + 1)) (mE3 real c first r (zfold P (mE3 real c first) r sr)) := by
          cases real with
          | false => simp [mE3]
          | true =>
            obtain ⟨k1, h1, h2⟩ := hKr rfl
            rw [if_neg (by decide), m_note (k := k1) _ _ _ (by rw [zp_row _ _ (show (40 : Nat) ≠ 49 by decide)]; exact h2) (by omega)]
            simp [mE3]
        simp only [r19, r12, c0, r3, zi_add, hle, if_false, zi_nat (show first + r < 2147483648 by omega), hin, r50, r51, r49, zi_succ, hab, Option.bind_some, if_true, hnote] at ih2 ⊢
        rw [← ih2]
        have hPr := hP r (by omega)
        unfold mM mW at hPr
        by_cases d1 : sr 50 (first + r) = zi c
        · by_cases d2 : sr 49 (first + r) = 0
          · by_cases d3 : sr 51 (first + r) = zi fl
            · by_cases d4 : zc (mA sr c first) n + zc (mM sr c first fl) r < p
              · have hP1 : P r = true := by rw [hPr]; simp [d1, d2, d3, c0]; exact d4
                rw [if_pos d1, if_pos d2, if_pos d3, if_neg (fun h => hcmp.mp h d4), if_pos hP1]
              · have hP1 : P r = false := by rw [hPr]; simp [d1, d2, d3, c0]; exact Nat.le_of_not_lt d4
                rw [if_pos d1, if_pos d2, if_pos d3, if_pos (hcmp.mpr d4), hP1]
                simp
            · have hP1 : P r = false := by rw [hPr]; simp [d3]
              rw [if_pos d1, if_pos d2, if_neg d3, hP1]
              simp
          · have hP1 : P r = false := by rw [hPr]; simp [d2]
            rw [if_pos d1, if_neg d2, hP1]
            simp
        · have hP1 : P r = false := by rw [hPr]; simp [d1]
          rw [if_neg d1, hP1]
          simp
    exact main n 0 N (by omega) (by omega)
  · have hz : zfold P (mE3 real c first) n sr = sr := zfold_none (fun r hr => by rw [hP r hr]; simp [c0])
    rw [hz]
    obtain ⟨N', rfl⟩ : ∃ f', N = f' + 1 := ⟨N - 1, by omega⟩
    show zb_Mo_exchange_175 (N' + 1) _ _ _ _ _ _ _ = _
    unfold zb_Mo_exchange_175 zf_Mo_exchange_265
    simp only [c0, if_false]
    split <;> rfl
end MX
