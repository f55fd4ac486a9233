def zmax (a b : Int32) : Int32 := if a < b then b else a
theorem zmax_int (a b : Int32) : (zmax a b).toInt = if a.toInt < b.toInt then b.toInt else a.toInt := by
  unfold zmax
  by_cases h : a < b
  · rw [if_pos h, if_pos (Int32.lt_iff_toInt_lt.mp h)]
  · rw [if_neg h, if_neg (fun h2 => h (Int32.lt_iff_toInt_lt.mpr h2))]
theorem zmax_comm (a b c : Int32) : zmax (zmax a b) c = zmax (zmax a c) b := by
  rw [← Int32.toInt_inj]
  simp only [zmax_int]
  repeat' split
  all_goals omega
theorem aC_set {S : Nat → Int32} {r n : Nat} (hr : r < n) (h : S r ≠ 2) : aC (up S r 2) n = aC S n + 1 := by
  induction n with
  | zero => omega
  | succ n ih =>
    by_cases e : r = n
    · subst e
      have e1 : aC (up S r 2) r = aC S r := aC_congr (fun i hi => up_o _ _ (by omega))
      show (if up S r 2 r = 2 then aC (up S r 2) r + 1 else aC (up S r 2) r) = (if S r = 2 then aC S r + 1 else aC S r) + 1
      rw [up_s, if_pos rfl, if_neg h, e1]
    · show (if up S r 2 n = 2 then aC (up S r 2) n + 1 else aC (up S r 2) n) = (if S n = 2 then aC S n + 1 else aC S n) + 1
      rw [up_o _ _ (Ne.symm e), ih (by omega)]
      split <;> rfl
theorem aM_set {S K : Nat → Int32} {r n : Nat} {v : Int32} (hr : r < n) (h : S r ≠ 2) : aM (up S r 2) (up K r v) n = zmax (aM S K n) v := by
  induction n with
  | zero => omega
  | succ n ih =>
    by_cases e : r = n
    · subst e
      have e1 : aM (up S r 2) (up K r v) r = aM S K r := aM_congr (fun i hi => up_o _ _ (by omega)) (fun i hi => up_o _ _ (by omega))
      show (if up S r 2 r = 2 then zmax (aM (up S r 2) (up K r v) r) (up K r v r) else aM (up S r 2) (up K r v) r) = zmax (if S r = 2 then _ else aM S K r) v
      rw [up_s, up_s, if_pos rfl, if_neg h, e1]
    · show (if up S r 2 n = 2 then zmax (aM (up S r 2) (up K r v) n) (up K r v n) else aM (up S r 2) (up K r v) n) = zmax (if S n = 2 then zmax (aM S K n) (K n) else aM S K n) v
      rw [up_o _ _ (Ne.symm e), up_o _ _ (Ne.symm e), ih (by omega)]
      split
      · exact zmax_comm _ _ _
      · rfl
theorem aS_set {S K : Nat → Int32} {r n : Nat} {v : Int32} (hr : r < n) (h : S r ≠ 2) : aS (up S r 2) (up K r v) n = aS S K n + v := by
  induction n with
  | zero => omega
  | succ n ih =>
    by_cases e : r = n
    · subst e
      have e1 : aS (up S r 2) (up K r v) r = aS S K r := aS_congr (fun i hi => up_o _ _ (by omega)) (fun i hi => up_o _ _ (by omega))
      show (if up S r 2 r = 2 then aS (up S r 2) (up K r v) r + up K r v r else aS (up S r 2) (up K r v) r) = (if S r = 2 then _ else aS S K r) + v
      rw [up_s, up_s, if_pos rfl, if_neg h, e1]
    · show (if up S r 2 n = 2 then aS (up S r 2) (up K r v) n + up K r v n else aS (up S r 2) (up K r v) n) = (if S n = 2 then aS S K n + K n else aS S K n) + v
      rw [up_o _ _ (Ne.symm e), up_o _ _ (Ne.symm e), ih (by omega)]
      split
      · rw [Int32.add_assoc, Int32.add_assoc, Int32.add_comm v]
      · rfl
theorem aC_same {S : Nat → Int32} {r n : Nat} {w : Int32} (h : S r ≠ 2) (hw : w ≠ 2) : aC (up S r w) n = aC S n := by
  induction n with
  | zero => rfl
  | succ n ih =>
    show (if up S r w n = 2 then aC (up S r w) n + 1 else aC (up S r w) n) = (if S n = 2 then aC S n + 1 else aC S n)
    by_cases e : n = r
    · subst e; rw [up_s, if_neg hw, if_neg h, ih]
    · rw [up_o _ _ e, ih]
theorem aM_same {S K : Nat → Int32} {r n : Nat} {w v : Int32} (h : S r ≠ 2) (hw : w ≠ 2) : aM (up S r w) (up K r v) n = aM S K n := by
  induction n with
  | zero => rfl
  | succ n ih =>
    show (if up S r w n = 2 then zmax (aM (up S r w) (up K r v) n) (up K r v n) else aM (up S r w) (up K r v) n) = (if S n = 2 then zmax (aM S K n) (K n) else aM S K n)
    by_cases e : n = r
    · subst e; rw [up_s, if_neg hw, if_neg h, ih]
    · rw [up_o _ _ e, up_o _ _ e, ih]
theorem aS_same {S K : Nat → Int32} {r n : Nat} {w v : Int32} (h : S r ≠ 2) (hw : w ≠ 2) : aS (up S r w) (up K r v) n = aS S K n := by
  induction n with
  | zero => rfl
  | succ n ih =>
    show (if up S r w n = 2 then aS (up S r w) (up K r v) n + up K r v n else aS (up S r w) (up K r v) n) = (if S n = 2 then aS S K n + K n else aS S K n)
    by_cases e : n = r
    · subst e; rw [up_s, if_neg hw, if_neg h, ih]
    · rw [up_o _ _ e, up_o _ _ e, ih]
def cG3 (r : Nat) (s : zS) : zS := zp (zp (zp (zp (zp s (11 + r) 2 2) (11 + r) 5 (s 0 8 - s (11 + r) 4)) 0 9 (s 0 9 + 1)) 0 10 (zmax (s 0 10) (s 0 8 - s (11 + r) 4))) 0 11 (s 0 11 + (s 0 8 - s (11 + r) 4))
def cG4 (r : Nat) (s : zS) : zS := zp (zp s (11 + r) 2 3) (11 + r) 5 (s 0 8 - s (11 + r) 4)
def cG2 (r : Nat) (s : zS) : zS := zp s (11 + r) 2 1
def cE (g : Nat → zS → zS) (kind c : Int32) (r : Nat) (s : zS) : zS := cN (g r s 0 8) kind (zi r) c (g r s)
theorem c_chg3 {N r : Nat} {s : zS} : zf_LG_changeRider N (11 + r) 3 s = some (cG3 r s) := by
  unfold zf_LG_changeRider zf_LG_changeRider_22 zf_LG_changeRider_81 cG3 zmax
  rw [if_neg (by decide), if_pos rfl, if_pos rfl, zp_o _ _ (show (4 : Nat) ≠ 2 by decide)]
theorem c_chg4 {N r : Nat} {s : zS} : zf_LG_changeRider N (11 + r) 4 s = some (cG4 r s) := by
  unfold zf_LG_changeRider zf_LG_changeRider_22 zf_LG_changeRider_81 cG4
  rw [if_neg (by decide), if_neg (by decide), if_neg (by decide), zp_o _ _ (show (4 : Nat) ≠ 2 by decide)]
theorem c_chg2 {N r : Nat} {s : zS} : zf_LG_changeRider N (11 + r) 2 s = some (cG2 r s) := by
  unfold zf_LG_changeRider cG2
  rw [if_pos rfl]
def gOK (g : Nat → zS → zS) : Prop := (∀ r s q, q ≠ 0 → q ≠ 11 + r → g r s q = s q) ∧ (∀ r s j, j < 9 → g r s 0 j = s 0 j)
theorem gOK3 : gOK cG3 := ⟨fun r s q h0 h1 => by unfold cG3; rw [zp_row _ _ h0, zp_row _ _ h0, zp_row _ _ h0, zp_row _ _ h1, zp_row _ _ h1], fun r s j hj => by unfold cG3; rw [zp_o _ _ (by omega), zp_o _ _ (by omega), zp_o _ _ (by omega), zp_row _ _ (by omega), zp_row _ _ (by omega)]⟩
theorem gOK4 : gOK cG4 := ⟨fun r s q h0 h1 => by unfold cG4; rw [zp_row _ _ h1, zp_row _ _ h1], fun r s j hj => by unfold cG4; rw [zp_row _ _ (by omega), zp_row _ _ (by omega)]⟩
theorem gOK2 : gOK cG2 := ⟨fun r s q h0 h1 => by unfold cG2; rw [zp_row _ _ h1], fun r s j hj => by unfold cG2; rw [zp_row _ _ (by omega)]⟩
theorem cE_row {g : Nat → zS → zS} (hg : gOK g) {kind c : Int32} {r q : Nat} {s : zS} (h0 : q ≠ 0) (h1 : q < 11 ∨ 39 < q) (hr : r < 24) : cE g kind c r s q = s q := by
  unfold cE
  rw [cN_row (by omega), hg.1 r s q h0 (by omega)]
theorem cE_0 {g : Nat → zS → zS} (hg : gOK g) {kind c : Int32} {r j : Nat} {s : zS} (h : j < 9) : cE g kind c r s 0 j = s 0 j := by
  unfold cE
  rw [cN_row (by omega), hg.2 r s j h]
theorem cE_35 {g : Nat → zS → zS} (hg : gOK g) {kind c : Int32} {r : Nat} {s : zS} (hr : r < 24) : cE g kind c r s 35 4 = s 35 4 + 1 := by
  unfold cE cN
  rw [zp_s, hg.1 r s 35 (by omega) (by omega)]
theorem zfold_rowL {P : Nat → Bool} {eff : Nat → zS → zS} {q B : Nat} (h : ∀ r s, r < B → eff r s q = s q) (n : Nat) (hn : n ≤ B) (s : zS) : zfold P eff n s q = s q := by
  induction n with
  | zero => rfl
  | succ n ih => rw [zfold_succ]; split; rw [h n _ (by omega), ih (by omega)]; exact ih (by omega)
section ST
variable {N F p m n t k o c : Nat} {T : Nat → Bool} {sc sr : zS}
theorem zfold_35 {g : Nat → zS → zS} (hg : gOK g) {P : Nat → Bool} {kind cc : Int32} (hn : n ≤ 24) (hk : sc 35 4 = zi k) : zfold P (cE g kind cc) n sc 35 4 = zi (k + zc P n) := by
  induction n with
  | zero => exact hk
  | succ n ih =>
    rw [zfold_succ, zc_succ]
    split
    · rw [cE_35 hg (by omega), ih (by omega), zi_succ, Nat.add_assoc]
    · exact ih (by omega)
theorem c_noteAll {g : Nat → zS → zS} (hg : gOK g) {set kind cc : Int32} (hchg : ∀ r s, zf_LG_changeRider N (11 + r) kind s = some (g r s)) (hN : 30 ≤ N) (hn : sc 0 6 = zi n) (hn24 : n ≤ 24) (hk : sc 35 4 = zi k) (hk9 : k < 1900000000) :
    zf_LG_noteAll N set kind cc sc = some (zfold (zbit set) (cE g kind cc) n sc) := by
  have main : ∀ (j r f : Nat), r + j = n → j < f → zf_LG_noteAll_3 N f set kind cc (zi r) (zfold (zbit set) (cE g kind cc) r sc) = some (zfold (zbit set) (cE g kind cc) n sc) := by
    intro j
    induction j with
    | zero =>
      intro r f hr hf
      obtain ⟨f, rfl⟩ : ∃ f', f = f' + 1 := ⟨f - 1, by omega⟩
      show zb_LG_noteAll_3 N _ _ _ _ _ _ = _
      unfold zb_LG_noteAll_3
      rw [zfold_cell (fun r s => cE_0 hg (by decide)), hn, if_pos ((zi_le (by omega) (by omega)).mpr (by omega)), show r = n by omega]
    | succ j ih =>
      intro r f hr hf
      obtain ⟨f, rfl⟩ : ∃ f', f = f' + 1 := ⟨f - 1, by omega⟩
      show zb_LG_noteAll_3 N _ _ _ _ _ _ = _
      unfold zb_LG_noteAll_3 zf_LG_noteAll_48
      have gn : ¬ (zi n ≤ zi r) := fun h => by have := (zi_le (by omega) (by omega)).mp h; omega
      have i24 : ¬ (zi r < 0 ∨ 24 ≤ r) := zi_inn (by omega) (by decide)
      have ih2 := ih (r + 1) f (by omega) (by omega)
      rw [zfold_succ] at ih2
      rw [zfold_cell (fun r s => cE_0 hg (by decide)), hn, if_neg gn]
      simp only [zi_nat (show r < 2147483648 by omega), i24, if_false, hchg, Option.bind_some, zi_succ]
      cases hb : zbit set r with
      | true =>
        rw [if_neg (fun h9 => by rw [(zbit_test set (by omega)).mp h9] at hb; cases hb)]
        rw [hb, if_pos rfl] at ih2
        have h35 : g r (zfold (zbit set) (cE g kind cc) r sc) 35 4 = zi (k + zc (zbit set) r) := by rw [hg.1 _ _ 35 (by omega) (by omega)]; exact zfold_35 hg (by omega) hk
        rw [c_note h35 (by have := zc_le (zbit set) r; omega)]
        exact ih2
      | false =>
        rw [if_pos ((zbit_test set (by omega)).mpr hb)]
        rw [hb, if_neg (by decide)] at ih2
        exact ih2
  exact main n 0 N (by omega) (by omega)
def zJ (F p m n t k : Nat) (sc sr : zS) : Prop := iS F p m n t sc sr ∧ iR m n sc sr ∧ iL k sc sr ∧ iA n sc sr
theorem zJ_eff {g : Nat → zS → zS} (hg : gOK g) {kind w v : Int32} {r : Nat} {s' : zS} (hk9 : k < 1900000000) (hr : r < n) (hJ : zJ F p m n t k sc sr) (hw : w = 0 ∨ w = 1 ∨ w = 2 ∨ w = 3)
    (hs40 : ∀ j, s' 40 j = sr 40 j) (hsq : ∀ q, q ≠ 49 → q ≠ 54 → s' q = sr q) (hs49 : s' 49 = up (sr 49) r w) (hs54 : s' 54 = up (sr 54) r v)
    (g2 : g r sc (11 + r) 2 = w) (g5 : g r sc (11 + r) 5 = v) (go : ∀ j, j ≠ 2 → j ≠ 5 → g r sc (11 + r) j = sc (11 + r) j) (hA : g r sc 0 9 = aC (s' 49) n ∧ g r sc 0 10 = aM (s' 49) (s' 54) n ∧ g r sc 0 11 = aS (s' 49) (s' 54) n) (cc : Int32) :
    zJ F p m n t (k + 1) (cE g kind cc r sc) (mN kind (zi r) cc s') := by
  obtain ⟨hS, hR, hL, -⟩ := hJ
  obtain ⟨⟨f2, f10, p1, p5, m1, m4, n24⟩, s2, s3, s4, s5, s6, s7⟩ := id hS
  have r40 : ∀ j, j ≠ 22 → mN kind (zi r) cc s' 40 j = sr 40 j := fun j hj => by rw [mN_40 hj, hs40]
  have rq : ∀ q, 41 ≤ q → q ≤ 54 → mN kind (zi r) cc s' q = s' q := fun q h1 h2 => mN_row (by omega) (by omega)
  have c1 : cE g kind cc r sc 1 = sc 1 := cE_row hg (by decide) (by omega) (by omega)
  have c0 : ∀ j, j < 9 → cE g kind cc r sc 0 j = sc 0 j := fun j hj => cE_0 hg hj
  have e8 : g r sc 0 8 = zi t := by rw [hg.2 r sc 8 (by decide), s7.1]
  refine ⟨⟨⟨f2, f10, p1, p5, m1, m4, n24⟩, ?_, ?_, ?_, ?_, ?_, ?_⟩, fun r' h9 => ?_, ?_, ?_⟩
  · rw [c1, r40 _ (by decide)]; exact s2
  · rw [c1, r40 _ (by decide)]; exact s3
  · rw [c1, r40 _ (by decide)]; exact s4
  · rw [c0 5 (by decide), r40 _ (by decide)]; exact s5
  · rw [c0 6 (by decide), r40 _ (by decide)]; exact s6
  · rw [c0 8 (by decide), r40 _ (by decide)]; exact s7
  · obtain ⟨⟨a0, a1, a2, a3, a4, a5⟩, a6, a7⟩ := hR r' h9
    rw [rq 51 (by omega) (by omega), rq 52 (by omega) (by omega), rq 49 (by omega) (by omega), rq 50 (by omega) (by omega), rq 53 (by omega) (by omega), rq 54 (by omega) (by omega), hsq 51 (by decide) (by decide), hsq 52 (by decide) (by decide), hsq 50 (by decide) (by decide), hsq 53 (by decide) (by decide), hs49, hs54]
    have cr : cE g kind cc r sc (11 + r') = g r sc (11 + r') := by unfold cE; exact cN_row (by omega)
    rw [cr]
    by_cases e : r' = r
    · subst e
      rw [up_s, up_s, g2, g5, go 0 (by decide) (by decide), go 1 (by decide) (by decide), go 3 (by decide) (by decide), go 4 (by decide) (by decide)]
      exact ⟨⟨a0, a1, rfl, a3, a4, rfl⟩, hw, a7⟩
    · rw [up_o _ _ e, up_o _ _ e, hg.1 r sc (11 + r') (by omega) (by omega)]
      exact ⟨⟨a0, a1, a2, a3, a4, a5⟩, a6, a7⟩
  · unfold cE
    rw [e8]
    refine iL_note (by omega) ?_ (by rw [hs40]; exact s7.2)
    obtain ⟨a, b, d⟩ := hL
    refine ⟨by rw [hg.1 r sc 35 (by omega) (by omega)]; exact a, by rw [hs40]; exact b, fun j hj => ?_⟩
    rw [hg.1 r sc 36 (by omega) (by omega), hg.1 r sc 37 (by omega) (by omega), hg.1 r sc 38 (by omega) (by omega), hg.1 r sc 39 (by omega) (by omega), hsq 55 (by decide) (by decide)]
    exact d j hj
  · unfold iA
    have cr : ∀ j, cE g kind cc r sc 0 j = g r sc 0 j := fun j => by unfold cE; rw [cN_row (by omega)]
    rw [cr, cr, cr, rq 49 (by omega) (by omega), rq 54 (by omega) (by omega)]
    exact hA
theorem zJ_3 {r : Nat} (hk9 : k < 1900000000) (hr : r < n) (hJ : zJ F p m n t k sc sr) (h1 : sr 49 r = 1) (hc : sr 50 r = zi c) : zJ F p m n t (k + 1) (cE cG3 3 (zi c) r sc) (mE1 true 0 r sr) := by
  have hRr := hJ.2.1 r hr
  have s7 := hJ.1.2.2.2.2.2.2
  obtain ⟨a9, a10, a11⟩ := hJ.2.2.2
  have n24 := hJ.1.1.2.2.2.2.2.2
  have hn2 : sr 49 r ≠ 2 := by rw [h1]; decide
  obtain ⟨s', hs'⟩ : ∃ s', s' = zp (zp sr 49 r 2) 54 r (sr 40 20 - sr 53 r) := ⟨_, rfl⟩
  have e49 : s' 49 = up (sr 49) r 2 := by rw [hs', zp_row _ _ (by decide), zp_up]
  have e54 : s' 54 = up (sr 54) r (sr 40 20 - sr 53 r) := by rw [hs', zp_up, zp_row _ _ (by decide)]
  have ev : sc 0 8 - sc (11 + r) 4 = sr 40 20 - sr 53 r := by rw [s7.1, s7.2, hRr.1.2.2.2.2.1]
  have eE : mE1 true 0 r sr = mN 3 (zi r) (zi c) s' := by
    unfold mE1 mLv
    rw [if_pos rfl, Nat.zero_add, zp_row _ _ (show (50 : Nat) ≠ 49 by decide), zp_row _ _ (show (40 : Nat) ≠ 49 by decide), zp_row _ _ (show (53 : Nat) ≠ 49 by decide), hc, ← hs']
  rw [eE]
  refine zJ_eff gOK3 hk9 hr hJ (Or.inr (Or.inr (Or.inl rfl))) (fun j => by rw [hs', zp_row _ _ (by decide), zp_row _ _ (by decide)]) (fun q h1 h2 => by rw [hs', zp_row _ _ h2, zp_row _ _ h1]) e49 e54 ?_ ?_ (fun j h2 h5 => ?_) ⟨?_, ?_, ?_⟩ _
  · unfold cG3; rw [zp_row _ _ (by omega), zp_row _ _ (by omega), zp_row _ _ (by omega), zp_o _ _ (by decide), zp_s]
  · unfold cG3; rw [zp_row _ _ (by omega), zp_row _ _ (by omega), zp_row _ _ (by omega), zp_s, ev]
  · unfold cG3; rw [zp_row _ _ (by omega), zp_row _ _ (by omega), zp_row _ _ (by omega), zp_o _ _ h5, zp_o _ _ h2]
  · unfold cG3; rw [zp_o _ _ (by decide), zp_o _ _ (by decide), zp_s, e49, aC_set hr hn2, a9]
  · unfold cG3; rw [zp_o _ _ (by decide), zp_s, e49, e54, aM_set hr hn2, a10, ev]
  · unfold cG3; rw [zp_s, e49, e54, aS_set hr hn2, a11, ev]
theorem zJ_4 {r : Nat} (hk9 : k < 1900000000) (hr : r < n) (hJ : zJ F p m n t k sc sr) (h1 : sr 49 r = 1) (hc : sr 50 r = zi c) : zJ F p m n t (k + 1) (cE cG4 4 (zi c) r sc) (mE2 true 0 r sr) := by
  have hRr := hJ.2.1 r hr
  have s7 := hJ.1.2.2.2.2.2.2
  obtain ⟨a9, a10, a11⟩ := hJ.2.2.2
  have n24 := hJ.1.1.2.2.2.2.2.2
  have hn2 : sr 49 r ≠ 2 := by rw [h1]; decide
  obtain ⟨s', hs'⟩ : ∃ s', s' = zp (zp sr 49 r 3) 54 r (sr 40 20 - sr 53 r) := ⟨_, rfl⟩
  have e49 : s' 49 = up (sr 49) r 3 := by rw [hs', zp_row _ _ (by decide), zp_up]
  have e54 : s' 54 = up (sr 54) r (sr 40 20 - sr 53 r) := by rw [hs', zp_up, zp_row _ _ (by decide)]
  have ev : sc 0 8 - sc (11 + r) 4 = sr 40 20 - sr 53 r := by rw [s7.1, s7.2, hRr.1.2.2.2.2.1]
  have eE : mE2 true 0 r sr = mN 4 (zi r) (zi c) s' := by
    unfold mE2 mLv
    rw [if_pos rfl, Nat.zero_add, zp_row _ _ (show (50 : Nat) ≠ 49 by decide), zp_row _ _ (show (40 : Nat) ≠ 49 by decide), zp_row _ _ (show (53 : Nat) ≠ 49 by decide), hc, ← hs']
  rw [eE]
  refine zJ_eff gOK4 hk9 hr hJ (Or.inr (Or.inr (Or.inr rfl))) (fun j => by rw [hs', zp_row _ _ (by decide), zp_row _ _ (by decide)]) (fun q h1 h2 => by rw [hs', zp_row _ _ h2, zp_row _ _ h1]) e49 e54 ?_ ?_ (fun j h2 h5 => ?_) ⟨?_, ?_, ?_⟩ _
  · unfold cG4; rw [zp_o _ _ (by decide), zp_s]
  · unfold cG4; rw [zp_s, ev]
  · unfold cG4; rw [zp_o _ _ h5, zp_o _ _ h2]
  · unfold cG4; rw [zp_row _ _ (by omega), zp_row _ _ (by omega), e49, aC_same hn2 (by decide), a9]
  · unfold cG4; rw [zp_row _ _ (by omega), zp_row _ _ (by omega), e49, e54, aM_same hn2 (by decide), a10]
  · unfold cG4; rw [zp_row _ _ (by omega), zp_row _ _ (by omega), e49, e54, aS_same hn2 (by decide), a11]
theorem zJ_2 {r : Nat} (hk9 : k < 1900000000) (hr : r < n) (hJ : zJ F p m n t k sc sr) (h1 : sr 49 r = 0) : zJ F p m n t (k + 1) (cE cG2 2 (zi c) r sc) (mE3 true c 0 r sr) := by
  have hRr := hJ.2.1 r hr
  have s7 := hJ.1.2.2.2.2.2.2
  obtain ⟨a9, a10, a11⟩ := hJ.2.2.2
  have n24 := hJ.1.1.2.2.2.2.2.2
  have hn2 : sr 49 r ≠ 2 := by rw [h1]; decide
  obtain ⟨s', hs'⟩ : ∃ s', s' = zp sr 49 r 1 := ⟨_, rfl⟩
  have e49 : s' 49 = up (sr 49) r 1 := by rw [hs', zp_up]
  have e54 : s' 54 = up (sr 54) r (sr 54 r) := by rw [hs', zp_row _ _ (by decide), up_id]
  have eE : mE3 true c 0 r sr = mN 2 (zi r) (zi c) s' := by
    unfold mE3
    rw [if_pos rfl, Nat.zero_add, ← hs']
  rw [eE]
  refine zJ_eff gOK2 hk9 hr hJ (Or.inr (Or.inl rfl)) (fun j => by rw [hs', zp_row _ _ (by decide)]) (fun q h1 h2 => by rw [hs', zp_row _ _ h1]) e49 e54 ?_ ?_ (fun j h2 h5 => ?_) ⟨?_, ?_, ?_⟩ _
  · unfold cG2; rw [zp_s]
  · unfold cG2; rw [zp_o _ _ (by decide)]; exact hRr.1.2.2.2.2.2
  · unfold cG2; rw [zp_o _ _ h2]
  · unfold cG2; rw [zp_row _ _ (by omega), e49, aC_same hn2 (by decide), a9]
  · unfold cG2; rw [zp_row _ _ (by omega), e49, e54, aM_same hn2 (by decide), a10]
  · unfold cG2; rw [zp_row _ _ (by omega), e49, e54, aS_same hn2 (by decide), a11]
theorem zJ_fold {P : Nat → Bool} {ec er : Nat → zS → zS} {v : Int32} (h49 : ∀ r s, er r s 49 = up (s 49) (0 + r) v) (h50 : ∀ r s, er r s 50 = s 50)
    (he : ∀ (r k : Nat) (s s' : zS), r < n → P r = true → k < 1900000000 → zJ F p m n t k s s' → s' 49 r = sr 49 r → s' 50 r = sr 50 r → zJ F p m n t (k + 1) (ec r s) (er r s')) (hk9 : k + n < 1900000000) (hJ : zJ F p m n t k sc sr) :
    ∀ r, r ≤ n → zJ F p m n t (k + zc P r) (zfold P ec r sc) (zfold P er r sr) := by
  intro r
  induction r with
  | zero => intro _; exact hJ
  | succ r ih =>
    intro hr
    have ih2 := ih (by omega)
    rw [zfold_succ, zfold_succ, zc_succ]
    have hz := zc_le P r
    by_cases hP : P r = true
    · rw [if_pos hP, if_pos hP, if_pos hP, ← Nat.add_assoc]
      refine he r _ _ _ (by omega) hP (by omega) ih2 ?_ ?_
      · have := zfold_at (P := P) h49 r sr r
        rw [Nat.zero_add] at this
        rw [this, if_neg (by omega)]
      · rw [zfold_row h50]
    · rw [if_neg hP, if_neg hP, if_neg hP]
      exact ih2
def cX (arr out brd : Int32) (c : Int32) (n : Nat) (s : zS) : zS := zfold (zbit brd) (cE cG2 2 c) n (zfold (zbit out) (cE cG4 4 c) n (zfold (zbit arr) (cE cG3 3 c) n s))
theorem cX_row {arr out brd cc : Int32} {s : zS} {q : Nat} (hn : n ≤ 24) (h0 : q ≠ 0) (h1 : q < 11 ∨ 39 < q) : cX arr out brd cc n s q = s q := by
  unfold cX
  rw [zfold_rowL (B := 24) (fun r s hr => cE_row gOK2 h0 h1 hr) n hn, zfold_rowL (B := 24) (fun r s hr => cE_row gOK4 h0 h1 hr) n hn, zfold_rowL (B := 24) (fun r s hr => cE_row gOK3 h0 h1 hr) n hn]
theorem cX_0 {arr out brd cc : Int32} {s : zS} {j : Nat} (h : j < 9) : cX arr out brd cc n s 0 j = s 0 j := by
  unfold cX
  rw [zfold_cell (fun r s => cE_0 gOK2 h), zfold_cell (fun r s => cE_0 gOK4 h), zfold_cell (fun r s => cE_0 gOK3 h)]
theorem c_noteExchange (hN : 30 ≤ N) (hc : c < 4) (hn : sc 0 6 = zi n) (hn24 : n ≤ 24) (hk : sc 35 4 = zi k) (hk9 : k < 1800000000) : zf_LG_noteExchange N (zi c) sc = some (cX (sc (5 + c) 10) (sc (5 + c) 11) (sc (5 + c) 12) (zi c) n sc) := by
  unfold zf_LG_noteExchange zf_LG_noteExchange_24 zf_LG_noteExchange_41 zf_LG_noteExchange_58 cX
  have i4 : ¬ (zi c < 0 ∨ 4 ≤ c) := zi_inn (by omega) (by decide)
  simp only [zi_nat (show c < 2147483648 by omega), i4, if_false]
  have a1 : ∀ s : zS, s 0 6 = zi n → ∀ k, s 35 4 = zi k → k < 1900000000 → ∀ set cc, zf_LG_noteAll N set 3 cc s = some (zfold (zbit set) (cE cG3 3 cc) n s) := fun s h1 k h2 h3 set cc => c_noteAll gOK3 (fun r s => c_chg3) hN h1 hn24 h2 h3
  have a2 : ∀ s : zS, s 0 6 = zi n → ∀ k, s 35 4 = zi k → k < 1900000000 → ∀ set cc, zf_LG_noteAll N set 4 cc s = some (zfold (zbit set) (cE cG4 4 cc) n s) := fun s h1 k h2 h3 set cc => c_noteAll gOK4 (fun r s => c_chg4) hN h1 hn24 h2 h3
  have a3 : ∀ s : zS, s 0 6 = zi n → ∀ k, s 35 4 = zi k → k < 1900000000 → ∀ set cc, zf_LG_noteAll N set 2 cc s = some (zfold (zbit set) (cE cG2 2 cc) n s) := fun s h1 k h2 h3 set cc => c_noteAll gOK2 (fun r s => c_chg2) hN h1 hn24 h2 h3
  have z0 : ∀ (ec : Nat → zS → zS) (s : zS), zfold (zbit 0) ec n s = s := fun ec s => zfold_none (fun r _ => zbit_zero r)
  obtain ⟨s1, hs1⟩ : ∃ s1, s1 = zfold (zbit (sc (5 + c) 10)) (cE cG3 3 (zi c)) n sc := ⟨_, rfl⟩
  have e1 : (if sc (5 + c) 10 = 0 then some sc else zf_LG_noteAll N (sc (5 + c) 10) 3 (zi c) sc) = some s1 := by
    by_cases e : sc (5 + c) 10 = 0
    · rw [if_pos e, hs1, e, z0]
    · rw [if_neg e, a1 sc hn k hk (by omega), hs1]
  have r1 : s1 (5 + c) = sc (5 + c) := by rw [hs1]; exact zfold_rowL (B := 24) (fun r s hr => cE_row gOK3 (by omega) (by omega) hr) n hn24 sc
  have n1 : s1 0 6 = zi n := by rw [hs1, zfold_cell (fun r s => cE_0 gOK3 (by decide)), hn]
  have k1 : s1 35 4 = zi (k + zc (zbit (sc (5 + c) 10)) n) := by rw [hs1]; exact zfold_35 gOK3 hn24 hk
  have l1 := zc_le (zbit (sc (5 + c) 10)) n
  obtain ⟨s2, hs2⟩ : ∃ s2, s2 = zfold (zbit (sc (5 + c) 11)) (cE cG4 4 (zi c)) n s1 := ⟨_, rfl⟩
  have e2 : (if s1 (5 + c) 11 = 0 then some s1 else zf_LG_noteAll N (s1 (5 + c) 11) 4 (zi c) s1) = some s2 := by
    rw [r1]
    by_cases e : sc (5 + c) 11 = 0
    · rw [if_pos e, hs2, e, z0]
    · rw [if_neg e, a2 s1 n1 _ k1 (by omega), hs2]
  have r2 : s2 (5 + c) = sc (5 + c) := by rw [hs2, zfold_rowL (B := 24) (fun r s hr => cE_row gOK4 (by omega) (by omega) hr) n hn24 s1, r1]
  have n2 : s2 0 6 = zi n := by rw [hs2, zfold_cell (fun r s => cE_0 gOK4 (by decide)), n1]
  have k2 : s2 35 4 = zi (k + zc (zbit (sc (5 + c) 10)) n + zc (zbit (sc (5 + c) 11)) n) := by rw [hs2]; exact zfold_35 gOK4 hn24 k1
  have l2 := zc_le (zbit (sc (5 + c) 11)) n
  have e3 : (if s2 (5 + c) 12 = 0 then some s2 else zf_LG_noteAll N (s2 (5 + c) 12) 2 (zi c) s2) = some (zfold (zbit (sc (5 + c) 12)) (cE cG2 2 (zi c)) n s2) := by
    rw [r2]
    by_cases e : sc (5 + c) 12 = 0
    · rw [if_pos e, e, z0]
    · rw [if_neg e, a3 s2 n2 _ k2 (by omega)]
  have bs : ∀ x : Option zS, (x.bind fun t => some t) = x := fun x => by cases x <;> rfl
  have pull : ∀ (q : Prop) [Decidable q] (s : zS) (x : Option zS) (f : zS → Option zS), (if q then f s else x.bind f) = (if q then some s else x).bind f := fun q _ s x f => by split <;> rfl
  simp only [bs]
  rw [pull (sc (5 + c) 10 = 0) sc _ (fun s => if s (5 + c) 11 = 0 then (if s (5 + c) 12 = 0 then some s else zf_LG_noteAll N (s (5 + c) 12) 2 (zi c) s) else (zf_LG_noteAll N (s (5 + c) 11) 4 (zi c) s).bind fun t38 => if t38 (5 + c) 12 = 0 then some t38 else zf_LG_noteAll N (t38 (5 + c) 12) 2 (zi c) t38), e1]
  simp only [Option.bind_some]
  rw [pull (s1 (5 + c) 11 = 0) s1 _ (fun s => if s (5 + c) 12 = 0 then some s else zf_LG_noteAll N (s (5 + c) 12) 2 (zi c) s), e2]
  simp only [Option.bind_some]
  rw [e3, hs2, hs1]
theorem mX_50 {real : Bool} {arr out brd : Int32} {first : Nat} {s : zS} {q : Nat} (h : q ≠ 55) (h2 : q ≠ 40) (h3 : q ≠ 54) (h4 : q ≠ 49) : mX real arr out brd c first n s q = s q := mX_row h h2 h3 h4
theorem rOK_up {R : Nat → Int32} {o o' : Nat} (h : o ≤ o') (hR : rOK F o R) : rOK F o' R := ⟨hR.1, hR.2.1, by obtain ⟨a, b, d⟩ := hR.2.2.1; exact ⟨a, by omega, d⟩, hR.2.2.2⟩
theorem zInv_rel (hI : zInv F p m n t k o (fun _ => false) sc sr) (hc : c < m) : mRel (sc 1) (sc 2) (sc 3) (sc (5 + c)) F p n c 0 sr := by
  obtain ⟨hS, hR, hH, hC, hN, hT, hL, hA⟩ := hI
  obtain ⟨-, s2, s3, s4, s5, s6, s7⟩ := hS
  obtain ⟨⟨d0, d1, d2, d3, d4, d5, d6, d7⟩, -, -, dA, dW, -⟩ := hC c hc
  refine ⟨⟨s2.2, s3.2, s4.1, s6.2⟩, ⟨d0.symm, d1.symm, d2.symm, d3.symm, d4.symm, d7.symm⟩, dA, fun r => by rw [dW]; simp, fun f r hf => by rw [(hH f r hf).1, Nat.zero_add], fun f r hf => by rw [(hH f r hf).2, Nat.zero_add]⟩
theorem st_car (hN : 60 ≤ N) (ho : o < 900000000) (hk9 : k < 800000000) (hI : zInv F p m n t k o (fun _ => false) sc sr) (hc : c < m) :
    ∃ sc1 sc' sr' k', zf_Ca_advance N (5 + c) sc = some sc1 ∧ zf_LG_noteExchange N (zi c) sc1 = some sc' ∧ zf_Mo_stepCar N (zi c) (zi 0) sr = some sr' ∧ k' ≤ k + 72 ∧ zInv F p m n t k' (o + 1) (fun _ => false) sc' sr' ∧ hiF sc sc' ∧ loF sr sr' := by
  have hM := zInv_rel hI hc
  obtain ⟨hS, hR, hH, hC, hNo, hT, hL, hA⟩ := id hI
  obtain ⟨⟨f2, f10, p1, p5, m1, m4, n24⟩, s2, s3, s4, s5, s6, s7⟩ := id hS
  obtain ⟨⟨d0, d1, d2, d3, d4, d5, d6, d7⟩, ⟨b5, b6, b7⟩, dok, dA, dW, dU⟩ := hC c hc
  have ok : mOK F p n c 0 := ⟨f2, f10, p5, n24, by omega, Or.inl rfl⟩
  obtain ⟨h, hh9, hh⟩ := dok.1
  obtain ⟨R', hR'⟩ : ∃ R', R' = vAdv (sc 1) (sc 2) (sc 3) F p h (sc (5 + c)) := ⟨_, rfl⟩
  have hgo : vGo (sc (5 + c)) R' := by rw [hR']; exact vAdv_go
  have h5 : R' 5 = sc (5 + c) 5 := by rw [hR']; exact vAdv_567 (Or.inl rfl)
  have h6 : R' 6 = sc (5 + c) 6 := by rw [hR']; exact vAdv_567 (Or.inr (Or.inl rfl))
  have h7 : R' 7 = sc (5 + c) 7 := by rw [hR']; exact vAdv_567 (Or.inr (Or.inr rfl))
  have hok' : rOK F (o + 1) R' := by rw [hR']; exact vAdv_ok f2 f10 dok hh hh9
  have hadv : zf_Ca_advance N (5 + c) sc = some (zr sc (5 + c) R') := by
    have := c_advance (N := N) (a := 5 + c) (st := sc) (R := sc (5 + c)) (by omega) (by omega) s2.1 f10 s3.1 (by omega) hh (by omega)
    rw [zr_self] at this
    rw [this, hR']
  obtain ⟨o', ho', hR4⟩ := dok.2.2.1
  have hst := m_stepCar (N := N) (K := k) (by omega) ok hM s3.1 hh hh9 dok.2.1 hR4 (by omega) (fun _ => ⟨k, Nat.le_refl _, hL.2.1⟩) (by omega)
  rw [← hR'] at hst
  obtain ⟨sc1, hsc1⟩ : ∃ sc1, sc1 = zr sc (5 + c) R' := ⟨_, rfl⟩
  rw [← hsc1] at hadv
  have q1 : ∀ q, q ≠ 5 + c → sc1 q = sc q := fun q hq => by rw [hsc1]; exact zr_ne _ _ hq
  have q1c : sc1 (5 + c) = R' := by rw [hsc1, zr_at]
  have hne := c_noteExchange (N := N) (c := c) (sc := sc1) (n := n) (k := k) (by omega) (by omega) (by rw [q1 0 (by omega)]; exact s6.1) n24 (by rw [q1 35 (by omega)]; exact hL.1) (by omega)
  rw [q1c] at hne
  have real0 : decide ((0 : Nat) = 0) = true := rfl
  rw [real0] at hst
  obtain ⟨sc', hsc'⟩ : ∃ sc', sc' = cX (R' 10) (R' 11) (R' 12) (zi c) n sc1 := ⟨_, rfl⟩
  obtain ⟨sx, hsx⟩ : ∃ sx, sx = mX true (R' 10) (R' 11) (R' 12) c 0 n sr := ⟨_, rfl⟩
  rw [← hsc'] at hne
  have hM' := mRel_step (real := true) ok hM hgo h7
  rw [← hsx] at hst hM'
  obtain ⟨sr', hsr'⟩ : ∃ sr', sr' = mSet c R' sx := ⟨_, rfl⟩
  rw [← hsr'] at hst hM'
  have cq : ∀ q, q ≠ 0 → (q < 11 ∨ 39 < q) → sc' q = sc1 q := fun q h0 h1 => by rw [hsc']; exact cX_row n24 h0 h1
  have rx : ∀ q, q ≠ 55 → q ≠ 40 → q ≠ 54 → q ≠ 49 → sx q = sr q := fun q a b d e => by rw [hsx]; exact mX_row a b d e
  have rs : ∀ q, (q < 41 ∨ 45 < q) → sr' q = sx q := fun q hq => by rw [hsr']; exact mSet_row hq
  have r40 : ∀ j, j ≠ 22 → sr' 40 j = sr 40 j := fun j hj => by rw [rs 40 (by omega), hsx]; exact mX_40 hj
  have rco : ∀ q c', 41 ≤ q → q ≤ 48 → c' ≠ c → sr' q c' = sr q c' := fun q c' h1 h2 h3 => by
    rw [hsr']; unfold mSet; rw [if_neg h3, rx q (by omega) (by omega) (by omega) (by omega)]
  have r50 : sr' 50 = sr 50 := by rw [rs 50 (by omega), rx 50 (by decide) (by decide) (by decide) (by decide)]
  have r49 : ∀ r, r < n → sr' 49 r = if zbit (R' 12) r = true then 1 else if zbit (R' 11) r = true then 3 else if zbit (R' 10) r = true then 2 else sr 49 r := fun r hr => by
    rw [rs 49 (by omega), hsx]
    have := mX_49 (real := true) (arr := R' 10) (out := R' 11) (brd := R' 12) (c := c) (first := 0) (s := sr) hr
    rw [Nat.zero_add] at this
    exact this
  have hbits : ∀ r, r < n → (zbit (R' 10) r = true → sr 49 r = 1 ∧ sr 50 r = zi c) ∧ (zbit (R' 11) r = true → sr 49 r = 1 ∧ sr 50 r = zi c ∧ zbit (R' 10) r = false) ∧ (zbit (R' 12) r = true → sr 49 r = 0 ∧ sr 50 r = zi c ∧ zbit (R' 10) r = false ∧ zbit (R' 11) r = false) := fun r hr => by
    obtain ⟨g8, g9, g10, g11, g12⟩ := hgo r (by omega)
    have tA : zbit (sc (5 + c) 8) r = true → sr 49 r = 1 ∧ sr 50 r = zi c := fun h => by
      rw [dA] at h
      unfold mA at h
      simp only [Nat.zero_add, Bool.and_eq_true, decide_eq_true_eq] at h
      exact h.2
    have tW : zbit (sc (5 + c) 9) r = true → sr 49 r = 0 ∧ sr 50 r = zi c := fun h => by
      rw [dW] at h
      unfold mW at h
      simp only [Nat.zero_add, Bool.and_eq_true, decide_eq_true_eq] at h
      exact h.1.2
    refine ⟨fun h => tA (g10 h), fun h => ⟨(tA (g11 h).1).1, (tA (g11 h).1).2, (g11 h).2⟩, fun h => ?_⟩
    obtain ⟨w0, wc⟩ := tW (g12 h)
    refine ⟨w0, wc, ?_, ?_⟩
    · cases hz : zbit (R' 10) r with
      | false => rfl
      | true => have := (tA (g10 hz)).1; rw [w0] at this; exact absurd this (by decide)
    · cases hz : zbit (R' 11) r with
      | false => rfl
      | true => have := (tA (g11 hz).1).1; rw [w0] at this; exact absurd this (by decide)
  have J0 : zJ F p m n t k sc1 sr := by
    refine ⟨⟨⟨f2, f10, p1, p5, m1, m4, n24⟩, ?_, ?_, ?_, ?_, ?_, ?_⟩, fun r h9 => ?_, ?_, ?_⟩
    · rw [q1 1 (by omega)]; exact s2
    · rw [q1 1 (by omega)]; exact s3
    · rw [q1 1 (by omega)]; exact s4
    · rw [q1 0 (by omega)]; exact s5
    · rw [q1 0 (by omega)]; exact s6
    · rw [q1 0 (by omega)]; exact s7
    · rw [q1 (11 + r) (by omega)]; exact hR r h9
    · unfold iL; rw [q1 35 (by omega), q1 36 (by omega), q1 37 (by omega), q1 38 (by omega), q1 39 (by omega)]; exact hL
    · unfold iA; rw [q1 0 (by omega)]; exact hA
  have l10 := zc_le (zbit (R' 10)) n
  have l11 := zc_le (zbit (R' 11)) n
  have l12 := zc_le (zbit (R' 12)) n
  have J1 := zJ_fold (P := zbit (R' 10)) (ec := cE cG3 3 (zi c)) (er := mE1 true 0) (v := 2) (fun r s => mE1_49 r s) (fun r s => mE1_row (by decide) (by decide) (by decide) (by decide)) (fun r k s s' hr hP hk hJ e1 e2 => zJ_3 hk hr hJ (by rw [e1]; exact ((hbits r hr).1 hP).1) (by rw [e2]; exact ((hbits r hr).1 hP).2)) (by omega) J0 n (Nat.le_refl n)
  obtain ⟨t1, ht1⟩ : ∃ t1, t1 = zfold (zbit (R' 10)) (mE1 true 0) n sr := ⟨_, rfl⟩
  have t1_49 : ∀ r, t1 49 r = if r < n ∧ zbit (R' 10) r = true then 2 else sr 49 r := fun r => by
    have := zfold_at (P := zbit (R' 10)) (first := 0) (fun r s => mE1_49 (real := true) (first := 0) r s) n sr r
    rw [Nat.zero_add] at this
    rw [ht1, this]
  have t1_50 : t1 50 = sr 50 := by rw [ht1]; exact zfold_row (fun r s => mE1_row (by decide) (by decide) (by decide) (by decide)) _ _
  rw [← ht1] at J1
  have J2 := zJ_fold (P := zbit (R' 11)) (ec := cE cG4 4 (zi c)) (er := mE2 true 0) (v := 3) (fun r s => mE2_49 r s) (fun r s => mE2_row (by decide) (by decide) (by decide) (by decide)) (fun r k s s' hr hP hk hJ e1 e2 => zJ_4 hk hr hJ (by rw [e1, t1_49, if_neg (fun h => by rw [((hbits r hr).2.1 hP).2.2] at h; cases h.2)]; exact ((hbits r hr).2.1 hP).1) (by rw [e2, t1_50]; exact ((hbits r hr).2.1 hP).2.1)) (by omega) J1 n (Nat.le_refl n)
  obtain ⟨t2, ht2⟩ : ∃ t2, t2 = zfold (zbit (R' 11)) (mE2 true 0) n t1 := ⟨_, rfl⟩
  have t2_49 : ∀ r, t2 49 r = if r < n ∧ zbit (R' 11) r = true then 3 else t1 49 r := fun r => by
    have := zfold_at (P := zbit (R' 11)) (first := 0) (fun r s => mE2_49 (real := true) (first := 0) r s) n t1 r
    rw [Nat.zero_add] at this
    rw [ht2, this]
  rw [← ht2] at J2
  have J3 := zJ_fold (P := zbit (R' 12)) (ec := cE cG2 2 (zi c)) (er := mE3 true c 0) (v := 1) (fun r s => mE3_49 r s) (fun r s => mE3_row (by decide) (by decide) (by decide)) (fun r k s s' hr hP hk hJ e1 e2 => zJ_2 hk hr hJ (by
    obtain ⟨w0, wc, n10, n11⟩ := (hbits r hr).2.2 hP
    rw [e1, t2_49, if_neg (fun h => by rw [n11] at h; cases h.2), t1_49, if_neg (fun h => by rw [n10] at h; cases h.2)]; exact w0)) (by omega) J2 n (Nat.le_refl n)
  have ex : zfold (zbit (R' 12)) (mE3 true c 0) n t2 = sx := by rw [hsx, ht2, ht1]; rfl
  have ec : zfold (zbit (R' 12)) (cE cG2 2 (zi c)) n (zfold (zbit (R' 11)) (cE cG4 4 (zi c)) n (zfold (zbit (R' 10)) (cE cG3 3 (zi c)) n sc1)) = sc' := by rw [hsc']; rfl
  rw [ex, ec] at J3
  obtain ⟨jS, jR, jL, jA⟩ := J3
  refine ⟨sc1, sc', sr', k + zc (zbit (R' 10)) n + zc (zbit (R' 11)) n + zc (zbit (R' 12)) n, hadv, hne, hst, ?_, ⟨?_, ?_, ?_, ?_, ?_, ?_, ?_, ?_⟩, ?_, ?_⟩
  · omega
  · -- iS
    obtain ⟨a0, a2, a3, a4, a5, a6, a7⟩ := jS
    refine ⟨a0, ?_, ?_, ?_, ?_, ?_, ?_⟩
    · rw [rs 40 (by omega)]; exact a2
    · rw [rs 40 (by omega)]; exact a3
    · rw [rs 40 (by omega)]; exact a4
    · rw [rs 40 (by omega)]; exact a5
    · rw [rs 40 (by omega)]; exact a6
    · rw [rs 40 (by omega)]; exact a7
  · intro r h9
    rw [rs 51 (by omega), rs 52 (by omega), rs 49 (by omega), rs 50 (by omega), rs 53 (by omega), rs 54 (by omega)]
    exact jR r h9
  · intro f r hf
    rw [cq 2 (by decide) (by omega), cq 3 (by decide) (by omega), q1 2 (by omega), q1 3 (by omega), rs 51 (by omega), rs 52 (by omega), rx 51 (by decide) (by decide) (by decide) (by decide), rx 52 (by decide) (by decide) (by decide) (by decide)]
    exact hH f r hf
  · intro c' hc'
    obtain ⟨⟨e0, e1, e2, e3, e4, e5, e6, e7⟩, ⟨y5, y6, y7⟩, yok, yA, yW, yU⟩ := hC c' hc'
    have c1 : sc' 1 = sc 1 := by rw [cq 1 (by decide) (by omega), q1 1 (by omega)]
    by_cases e : c' = c
    · subst e
      obtain ⟨-, ⟨w0, w1, w2, w3, w4, w7⟩, wA, wW, -, -⟩ := hM'
      have c5 : sc' (5 + c') = R' := by rw [cq (5 + c') (by omega) (by omega), q1c]
      have r46 : sr' 46 c' = sr 46 c' := by rw [rs 46 (by omega), rx 46 (by decide) (by decide) (by decide) (by decide)]
      have r47 : sr' 47 c' = sr 47 c' := by rw [rs 47 (by omega), rx 47 (by decide) (by decide) (by decide) (by decide)]
      unfold iC1 iU
      rw [c5, c1, w0, w1, w2, w3, w4, w7, r46, r47, h5, h6, h7]
      refine ⟨⟨rfl, rfl, rfl, rfl, rfl, e5, e6, rfl⟩, ⟨y5, y6, y7⟩, hok', wA, fun r => by rw [wW]; simp, ?_⟩
      rcases yU with yU | yU
      · exact Or.inl yU
      · refine Or.inr ((zbit_eq0 _).mpr (fun r hr => ?_))
        rw [(hgo r hr).2.1, yU, zbit_zero]
        rfl
    · have c5 : sc' (5 + c') = sc (5 + c') := by rw [cq (5 + c') (by omega) (by omega), q1 (5 + c') (by omega)]
      have hne2 : ∀ r, r < n → sr 50 r = zi c' → sr' 49 r = sr 49 r := fun r hr h50 => by
        have hno : ¬ sr 50 r = zi c := fun h => by rw [h] at h50; exact e ((zi_eq (by omega) (by omega)).mp h50).symm
        rw [r49 r hr]
        have n12 : zbit (R' 12) r = false := by
          cases hz : zbit (R' 12) r with
          | false => rfl
          | true => exact absurd ((hbits r hr).2.2 hz).2.1 hno
        have n11 : zbit (R' 11) r = false := by
          cases hz : zbit (R' 11) r with
          | false => rfl
          | true => exact absurd ((hbits r hr).2.1 hz).2.1 hno
        have n10 : zbit (R' 10) r = false := by
          cases hz : zbit (R' 10) r with
          | false => rfl
          | true => exact absurd ((hbits r hr).1 hz).2 hno
        simp [n10, n11, n12]
      unfold iC1 iU
      rw [c5, c1, rco 41 c' (by omega) (by omega) e, rco 42 c' (by omega) (by omega) e, rco 43 c' (by omega) (by omega) e, rco 44 c' (by omega) (by omega) e, rco 45 c' (by omega) (by omega) e, rco 46 c' (by omega) (by omega) e, rco 47 c' (by omega) (by omega) e, rco 48 c' (by omega) (by omega) e]
      refine ⟨⟨e0, e1, e2, e3, e4, e5, e6, e7⟩, ⟨y5, y6, y7⟩, rOK_up (by omega) yok, fun r => ?_, fun r => ?_, yU⟩
      · rw [yA]
        by_cases hr : r < n
        · unfold mA
          rw [Nat.zero_add, r50]
          by_cases h50 : sr 50 r = zi c'
          · rw [hne2 r hr h50]
          · simp [h50]
        · simp [hr]
      · rw [yW]
        by_cases hr : r < n
        · unfold mW
          rw [Nat.zero_add, r50]
          by_cases h50 : sr 50 r = zi c'
          · rw [hne2 r hr h50]
          · simp [h50]
        · simp [hr]
  · intro r
    have c07 : sc' 0 7 = sc 0 7 := by rw [hsc', cX_0 (by decide), q1 0 (by omega)]
    rw [c07, hNo r, r50]
    by_cases hr : r < n
    · by_cases h50 : sr 50 r = -1
      · have hno : ¬ sr 50 r = zi c := fun h => by rw [h] at h50; exact zi_m1 (by omega) h50.symm
        rw [r49 r hr]
        have n12 : zbit (R' 12) r = false := by
          cases hz : zbit (R' 12) r with
          | false => rfl
          | true => exact absurd ((hbits r hr).2.2 hz).2.1 hno
        have n11 : zbit (R' 11) r = false := by
          cases hz : zbit (R' 11) r with
          | false => rfl
          | true => exact absurd ((hbits r hr).2.1 hz).2.1 hno
        have n10 : zbit (R' 10) r = false := by
          cases hz : zbit (R' 10) r with
          | false => rfl
          | true => exact absurd ((hbits r hr).1 hz).2 hno
        simp [n10, n11, n12]
      · simp [h50]
    · simp [hr]
  · intro r h; cases h
  · obtain ⟨a, b, d⟩ := jL
    refine ⟨a, by rw [rs 40 (by omega)]; exact b, fun j hj => ?_⟩
    rw [rs 55 (by omega)]
    exact d j hj
  · unfold iA
    rw [rs 49 (by omega), rs 54 (by omega)]
    exact jA
  · intro q hq
    rw [cq q (by omega) (by omega), q1 q (by omega)]
  · refine ⟨fun q hq => ?_, ?_, ?_⟩
    · rw [rs q (by omega), rx q (by omega) (by omega) (by omega) (by omega)]
    · rw [rs 56 (by omega), rx 56 (by omega) (by omega) (by omega) (by omega)]
    · exact r40 0 (by decide)
end ST
