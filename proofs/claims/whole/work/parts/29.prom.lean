def mFr (s s' : zS) : Prop := ∀ q j, ¬ ((41 ≤ q ∧ q ≤ 45 ∨ q = 48) ∧ j = 4) → ¬ (49 ≤ q ∧ q ≤ 52 ∧ 24 ≤ j) → s' q j = s q j
theorem mFr.refl (s : zS) : mFr s s := fun _ _ _ _ => rfl
theorem mFr.trans {a b d : zS} (h1 : mFr a b) (h2 : mFr b d) : mFr a d := fun q j x y => (h2 q j x y).trans (h1 q j x y)
def mCp1 (c r : Nat) (s : zS) : zS := zp (zp (zp (zp s 49 (24 + r) (s 49 r)) 50 (24 + r) (if s 50 r = zi c then 4 else -1)) 51 (24 + r) (s 51 r)) 52 (24 + r) (s 52 r)
def mCp (c : Nat) : Nat → zS → zS
  | 0, s => s
  | r + 1, s => mCp1 c r (mCp c r s)
section PR
variable {N F p n c : Nat} {G St Go R : Nat → Int32} {s : zS}
theorem mCp_spec : ∀ r, r ≤ 24 → (∀ q j, ¬ (49 ≤ q ∧ q ≤ 52 ∧ 24 ≤ j) → mCp c r s q j = s q j) ∧ ∀ i, i < r → mCp c r s 49 (24 + i) = s 49 i ∧ mCp c r s 50 (24 + i) = (if s 50 i = zi c then 4 else -1) ∧ mCp c r s 51 (24 + i) = s 51 i ∧ mCp c r s 52 (24 + i) = s 52 i := by
  intro r
  induction r with
  | zero => intro _; exact ⟨fun _ _ _ => rfl, fun i h => by omega⟩
  | succ r ih =>
    intro hr
    obtain ⟨h1, h2⟩ := ih (by omega)
    have e : mCp c (r + 1) s = mCp1 c r (mCp c r s) := rfl
    have o : ∀ q, mCp c r s q r = s q r := fun q => h1 q r (by omega)
    refine ⟨fun q j h => ?_, fun i hi => ?_⟩
    · rw [e]
      unfold mCp1 zp
      rw [if_neg (by omega), if_neg (by omega), if_neg (by omega), if_neg (by omega)]
      exact h1 q j h
    · rw [e]
      by_cases ei : i = r
      · subst ei
        unfold mCp1
        rw [o, o, o, o]
        simp [zp]
      · obtain ⟨a, b, d, f⟩ := h2 i (by omega)
        unfold mCp1
        refine ⟨?_, ?_, ?_, ?_⟩ <;> simp [zp, ei, a, b, d, f]
theorem m_copyL (hn : s 40 19 = zi n) (hn24 : n ≤ 24) : ∀ (k r f : Nat), r + k = n → k < f → zf_Mo_copy_74 N f (zi c) (zi r) (mCp c r s) = some (mCp c n s) := by
  intro k
  induction k with
  | zero =>
    intro r f hr hf
    obtain ⟨f, rfl⟩ : ∃ f', f = f' + 1 := ⟨f - 1, by omega⟩
    show zb_Mo_copy_74 N _ _ _ _ = _
    unfold zb_Mo_copy_74
    rw [(mCp_spec (c := c) (s := s) r (by omega)).1 40 19 (by omega), hn, if_pos ((zi_le (by omega) (by omega)).mpr (by omega)), show r = n by omega]
  | succ k ih =>
    intro r f hr hf
    obtain ⟨f, rfl⟩ : ∃ f', f = f' + 1 := ⟨f - 1, by omega⟩
    show zb_Mo_copy_74 N _ _ _ _ = _
    unfold zb_Mo_copy_74 zf_Mo_copy_120
    have h1 := (mCp_spec (c := c) (s := s) r (by omega)).1
    have ih2 := ih (r + 1) f (by omega) (by omega)
    have e24 : (24 : Int32) + zi r = zi (24 + r) := zi_add 24 r
    have i48 : ¬ (zi r < 0 ∨ 48 ≤ r) := zi_inn (by omega) (by decide)
    have j48 : ¬ (zi (24 + r) < 0 ∨ 48 ≤ 24 + r) := zi_inn (by omega) (by decide)
    have hle : ¬ (zi n ≤ zi r) := fun h => by have := (zi_le (by omega) (by omega)).mp h; omega
    rw [h1 40 19 (by omega), hn, if_neg hle]
    simp only [e24, zi_nat (show r < 2147483648 by omega), zi_nat (show 24 + r < 2147483648 by omega), i48, j48, if_false, zi_succ]
    rw [← ih2]
    have e : mCp c (r + 1) s = mCp1 c r (mCp c r s) := rfl
    rw [e]
    unfold mCp1
    have z50 : ∀ v : Int32, zp (mCp c r s) 49 (24 + r) v 50 = mCp c r s 50 := fun v => zp_row _ _ (by decide)
    have z51 : ∀ v w : Int32, zp (zp (mCp c r s) 49 (24 + r) v) 50 (24 + r) w 51 = mCp c r s 51 := fun v w => by rw [zp_row _ _ (by decide), zp_row _ _ (by decide)]
    have z51' : ∀ v : Int32, zp (mCp c r s) 49 (24 + r) v 51 = mCp c r s 51 := fun v => zp_row _ _ (by decide)
    have z52' : ∀ v : Int32, zp (mCp c r s) 49 (24 + r) v 52 = mCp c r s 52 := fun v => zp_row _ _ (by decide)
    simp only [z50, z51', z52']
    by_cases c1 : mCp c r s 50 r = zi c
    · simp only [c1, if_true]
    · simp only [c1, if_false]
theorem m_copy (hN : 50 ≤ N) (hc : c < 4) (hn : s 40 19 = zi n) (hn24 : n ≤ 24) (hb : s 48 c = 0 ∨ s 48 c = 1) (hM : mRel G St Go R F p n c 0 s) : ∃ s', zf_Mo_copy N (zi c) s = some s' ∧ mFr s s' ∧ mRel G St Go R F p n 4 24 s' ∧ (∀ i, i < n → s' 49 (24 + i) = s 49 i) := by
  obtain ⟨s1, hs1⟩ : ∃ s1, s1 = (zp (zp (zp (zp (zp (zp s 41 4 (s 41 c)) 42 4 (s 42 c)) 43 4 (s 43 c)) 44 4 (s 44 c)) 45 4 (s 45 c)) 48 4 (s 48 c)) := ⟨_, rfl⟩
  have hn1 : s1 40 19 = zi n := by rw [hs1]; simp [zp, hn]
  have hl := m_copyL (N := N) (c := c) hn1 hn24 n 0 N (by omega) (by omega)
  obtain ⟨sp1, sp2⟩ := mCp_spec (c := c) (s := s1) n hn24
  refine ⟨mCp c n s1, ?_, fun q j h1 h2 => ?_, ?_, fun i hi => ?_⟩
  · unfold zf_Mo_copy
    have hin : ¬ (zi c < 0 ∨ 5 ≤ c) := zi_inn (by omega) (by decide)
    simp only [zi_nat (show c < 2147483648 by omega), hin, if_false]
    rw [if_pos hb, ← hs1]
    exact hl
  · rw [sp1 q j h2, hs1]
    simp only [zp]
    rw [if_neg (by omega), if_neg (by omega), if_neg (by omega), if_neg (by omega), if_neg (by omega), if_neg (by omega)]
  · obtain ⟨⟨hF, hp, hrec, hn9⟩, ⟨q0, q1, q2, q3, q4, q7⟩, hA, hW, hSt, hGo⟩ := hM
    have o40 : ∀ j, mCp c n s1 40 j = s 40 j := fun j => by rw [sp1 40 j (by omega), hs1]; simp [zp]
    have o4 : ∀ q, q < 49 → mCp c n s1 q 4 = s1 q 4 := fun q hq => sp1 q 4 (by omega)
    have r49 : ∀ i, s1 49 i = s 49 i := fun i => by rw [hs1]; simp [zp]
    have r50 : ∀ i, s1 50 i = s 50 i := fun i => by rw [hs1]; simp [zp]
    have r51 : ∀ i, s1 51 i = s 51 i := fun i => by rw [hs1]; simp [zp]
    have r52 : ∀ i, s1 52 i = s 52 i := fun i => by rw [hs1]; simp [zp]
    have e4 : ∀ i, ((if s 50 i = zi c then (4 : Int32) else -1) = zi 4) ↔ s 50 i = zi c := fun i => by
      by_cases e : s 50 i = zi c
      · simp [e]; rfl
      · simp only [e, if_false, iff_false]; decide
    refine ⟨⟨by rw [o40, hF], by rw [o40, hp], by rw [o40, hrec], by rw [o40, hn9]⟩, ⟨?_, ?_, ?_, ?_, ?_, ?_⟩, fun r => ?_, fun r => ?_, fun f r hf => ?_, fun f r hf => ?_⟩
    · rw [o4 _ (by decide), hs1, ← q0]; simp [zp]
    · rw [o4 _ (by decide), hs1, ← q1]; simp [zp]
    · rw [o4 _ (by decide), hs1, ← q2]; simp [zp]
    · rw [o4 _ (by decide), hs1, ← q3]; simp [zp]
    · rw [o4 _ (by decide), hs1, ← q4]; simp [zp]
    · rw [o4 _ (by decide), hs1, ← q7]; simp [zp]
    · rw [hA]
      by_cases hr : r < n
      · obtain ⟨a, b, d, f⟩ := sp2 r hr
        unfold mA
        rw [a, b, r49, r50, Nat.zero_add]
        simp [e4]
      · simp [hr]
    · rw [hW]
      by_cases hr : r < n
      · obtain ⟨a, b, d, f⟩ := sp2 r hr
        unfold mW
        rw [a, b, r49, r50, Nat.zero_add]
        simp [e4]
      · simp [hr]
    · rw [hSt f r hf]
      by_cases hr : r < n
      · rw [(sp2 r hr).2.2.1, r51, Nat.zero_add]
      · simp [hr]
    · rw [hGo f r hf]
      by_cases hr : r < n
      · rw [(sp2 r hr).2.2.2, r52, Nat.zero_add]
      · simp [hr]
  · rw [(sp2 i hi).1, hs1]; simp [zp]
theorem mX_false {arr out brd : Int32} {c first n : Nat} {s : zS} {q : Nat} (h : q ≠ 49) : mX false arr out brd c first n s q = s q := by
  unfold mX
  rw [zfold_row (fun r s => by unfold mE3; simp only [Bool.false_eq_true, if_false]; exact zp_row _ _ h), zfold_row (fun r s => by unfold mE2 mLv; simp only [Bool.false_eq_true, if_false]; exact zp_row _ _ h), zfold_row (fun r s => by unfold mE1 mLv; simp only [Bool.false_eq_true, if_false]; exact zp_row _ _ h)]
theorem m_promL {r : Nat} (hN : 50 ≤ N) (hF2 : 2 ≤ F) (hF10 : F ≤ 10) (hp5 : p ≤ 5) (hn24 : n ≤ 24) (hr : r < n) (hG3 : G 3 = zi p) :
    ∀ (k m f o : Nat) (R : Nat → Int32) (s : zS), m + k = 1001 → 0 < m → k < f → o + k < 1000000000 → rOK F o R → vDis R → mRel G St Go R F p n 4 24 s → s 49 (24 + r) ≠ 2 →
    ∃ s', zf_Mo_promiseOf_25 N f (zi r) (zi m) s = some (if pN G St Go F p r k m R = 0 then -1 else zi (pN G St Go F p r k m R), s') ∧ mFr s s' := by
  intro k
  induction k with
  | zero =>
    intro m f o R s hm h0 hf ho hR hD hM h2
    obtain ⟨f, rfl⟩ : ∃ f', f = f' + 1 := ⟨f - 1, by omega⟩
    refine ⟨s, ?_, mFr.refl s⟩
    show zb_Mo_promiseOf_25 N _ _ _ _ = _
    unfold zb_Mo_promiseOf_25
    have : (1000 : Int32) < zi m := (zi_lt (a := 1000) (by decide) (by omega)).mpr (by omega)
    rw [if_pos this]
    rfl
  | succ k ih =>
    intro m f o R s hm h0 hf ho hR hD hM h2
    obtain ⟨f, rfl⟩ : ∃ f', f = f' + 1 := ⟨f - 1, by omega⟩
    have ok : mOK F p n 4 24 := ⟨hF2, hF10, hp5, hn24, by decide, Or.inr rfl⟩
    obtain ⟨h, hh9, hh, hv⟩ := vA_eq (G := G) (St := St) (Go := Go) (p := p) hF10 hR
    obtain ⟨-, hd, ⟨o', ho', hR4⟩, -⟩ := id hR
    have hst := m_stepCar (N := N) (K := 0) hN ok hM hG3 hh hh9 hd hR4 (by omega) (fun h => by cases h) (by decide)
    rw [← hv] at hst
    obtain ⟨R', hR'⟩ : ∃ R', R' = vA G St Go F p R := ⟨_, rfl⟩
    have hgo : vGo R R' := by rw [hR']; exact vA_go R
    have hok' : rOK F (o + 1) R' := by rw [hR']; exact vA_ok hF2 hF10 hR
    rw [← hR'] at hst
    obtain ⟨t, ht⟩ : ∃ t, t = mSet 4 R' (mX (decide (24 = 0)) (R' 10) (R' 11) (R' 12) 4 24 n s) := ⟨_, rfl⟩
    rw [← ht] at hst
    have h7 : R' 7 = R 7 := by rw [hR', hv]; exact vAdv_567 (Or.inr (Or.inr rfl))
    have hM' : mRel G St Go R' F p n 4 24 t := by rw [ht]; exact mRel_step ok hM hgo h7
    have hfr : mFr s t := fun q j x y => by
      rw [ht]
      unfold mSet
      by_cases ej : j = 4
      · rw [if_pos ej, if_neg (by omega), if_neg (by omega), if_neg (by omega), if_neg (by omega), if_neg (by omega)]
        by_cases eq : q = 49
        · subst eq; exact mX_49o (by omega)
        · exact congrFun (mX_false eq) j
      · rw [if_neg ej]
        by_cases eq : q = 49
        · subst eq; exact mX_49o (by omega)
        · exact congrFun (mX_false eq) j
    have t49 : t 49 (24 + r) = if zbit (R' 12) r = true then 1 else if zbit (R' 11) r = true then 3 else if zbit (R' 10) r = true then 2 else s 49 (24 + r) := by
      rw [ht, mSet_row (by omega), mX_49 hr]
    have hiff : (t 49 (24 + r) = 2) ↔ zbit (R' 10) r = true := by
      obtain ⟨g8, g9, g10, g11, g12⟩ := hgo r (by omega)
      rw [t49]
      cases b10 : zbit (R' 10) r with
      | true =>
        have hA := g10 b10
        have b12 : zbit (R' 12) r = false := by
          cases hz : zbit (R' 12) r with
          | false => rfl
          | true => exact (hD r (by omega) hA (g12 hz)).elim
        have b11 : zbit (R' 11) r = false := by
          cases hz : zbit (R' 11) r with
          | false => rfl
          | true => have := (g11 hz).2; rw [b10] at this; cases this
        simp [b12, b11]
      | false =>
        simp only [Bool.false_eq_true, if_false, iff_false]
        split
        · decide
        · split
          · decide
          · exact h2
    have hm1 : ¬ ((1000 : Int32) < zi m) := fun h => by have := (zi_lt (a := 1000) (by decide) (by omega)).mp h; omega
    have e24 : (24 : Int32) + zi r = zi (24 + r) := zi_add 24 r
    have j48 : ¬ (zi (24 + r) < 0 ∨ 48 ≤ 24 + r) := zi_inn (by omega) (by decide)
    have e : zf_Mo_promiseOf_25 N (f + 1) (zi r) (zi m) s = if t 49 (24 + r) = 2 then some (zi m, t) else zf_Mo_promiseOf_25 N f (zi r) (zi (m + 1)) t := by
      show zb_Mo_promiseOf_25 N _ _ _ _ = _
      unfold zb_Mo_promiseOf_25
      rw [if_neg hm1, show (4 : Int32) = zi 4 from rfl, show (24 : Int32) = zi 24 from rfl, hst]
      simp only [Option.bind_some, zi_add, zi_nat (show 24 + r < 2147483648 by omega), j48, if_false, zi_succ]
    rw [e, pN_succ, ← hR']
    cases b10 : zbit (R' 10) r with
    | true =>
      rw [if_pos (hiff.mpr b10), if_pos rfl, if_neg (by omega)]
      exact ⟨t, rfl, hfr⟩
    | false =>
      have hne : t 49 (24 + r) ≠ 2 := fun h => by rw [hiff.mp h] at b10; cases b10
      rw [if_neg hne]
      simp only [Bool.false_eq_true, if_false]
      obtain ⟨s', h1, h3⟩ := ih (m + 1) f (o + 1) R' t (by omega) (by omega) (by omega) (by omega) hok' (vDis_go hgo hD) hM' hne
      exact ⟨s', h1, hfr.trans h3⟩
theorem mRel_fr {s' : zS} (hc : c < 4) (hn24 : n ≤ 24) (hM : mRel G St Go R F p n c 0 s) (hf : mFr s s') : mRel G St Go R F p n c 0 s' := by
  obtain ⟨⟨hF, hp, hrec, hn9⟩, ⟨q0, q1, q2, q3, q4, q7⟩, hA, hW, hSt, hGo⟩ := hM
  have o : ∀ q j, ¬ ((41 ≤ q ∧ q ≤ 45 ∨ q = 48) ∧ j = 4) → ¬ (49 ≤ q ∧ q ≤ 52 ∧ 24 ≤ j) → s' q j = s q j := hf
  refine ⟨⟨by rw [o _ _ (by omega) (by omega), hF], by rw [o _ _ (by omega) (by omega), hp], by rw [o _ _ (by omega) (by omega), hrec], by rw [o _ _ (by omega) (by omega), hn9]⟩, ⟨by rw [o _ _ (by omega) (by omega), q0], by rw [o _ _ (by omega) (by omega), q1], by rw [o _ _ (by omega) (by omega), q2], by rw [o _ _ (by omega) (by omega), q3], by rw [o _ _ (by omega) (by omega), q4], by rw [o _ _ (by omega) (by omega), q7]⟩, fun r => ?_, fun r => ?_, fun f r hf => ?_, fun f r hf => ?_⟩
  · rw [hA]
    by_cases hr : r < n
    · unfold mA; rw [o 49 _ (by omega) (by omega), o 50 _ (by omega) (by omega)]
    · simp [hr]
  · rw [hW]
    by_cases hr : r < n
    · unfold mW; rw [o 49 _ (by omega) (by omega), o 50 _ (by omega) (by omega)]
    · simp [hr]
  · rw [hSt f r hf]
    by_cases hr : r < n
    · rw [o 51 _ (by omega) (by omega)]
    · simp [hr]
  · rw [hGo f r hf]
    by_cases hr : r < n
    · rw [o 52 _ (by omega) (by omega)]
    · simp [hr]
theorem mRel_dis (hn24 : n ≤ 24) {first : Nat} (hM : mRel G St Go R F p n c first s) : vDis R := fun r hr h8 h9 => by
  obtain ⟨-, -, hA, hW, -, -⟩ := hM
  rw [hA] at h8
  rw [hW] at h9
  unfold mA at h8
  unfold mW at h9
  simp only [Bool.and_eq_true, decide_eq_true_eq] at h8 h9
  have := h8.2.1
  rw [h9.2.1] at this
  exact absurd this (by decide)
def pM (G St Go : Nat → Int32) (F p : Nat) (fa : Int32) (R : Nat → Int32) (r : Nat) : Nat := if fa = 0 then pN G St Go F p r 1000 1 R else 0
theorem m_promiseOf {r o : Nat} (hN : 1010 ≤ N) (hF2 : 2 ≤ F) (hF10 : F ≤ 10) (hp5 : p ≤ 5) (hn24 : n ≤ 24) (hr : r < n) (hG3 : G 3 = zi p) (hc : c < 4) (hb : s 48 c = 0 ∨ s 48 c = 1) (ho : o < 900000000) (hR : rOK F o R) (hM : mRel G St Go R F p n c 0 s) (hC : s 50 r = zi c) (h2 : s 49 r ≠ 2) :
    ∃ s', zf_Mo_promiseOf N (zi r) s = some (if pM G St Go F p (s 47 c) R r = 0 then -1 else zi (pM G St Go F p (s 47 c) R r), s') ∧ mFr s s' := by
  unfold zf_Mo_promiseOf pM
  have i48 : ¬ (zi r < 0 ∨ 48 ≤ r) := zi_inn (by omega) (by decide)
  have i5 : ¬ (zi c < 0 ∨ 5 ≤ c) := zi_inn (by omega) (by decide)
  simp only [zi_nat (show r < 2147483648 by omega), i48, if_false, hC, zi_nat (show c < 2147483648 by omega), i5]
  by_cases c47 : s 47 c = 0
  · rw [if_pos c47, if_pos c47]
    obtain ⟨s1, h1, h3, h4, h5⟩ := m_copy (N := N) (by omega) hc hM.1.2.2.2 hn24 hb hM
    rw [h1]
    simp only [Option.bind_some]
    obtain ⟨s', h6, h7⟩ := m_promL (N := N) (by omega) hF2 hF10 hp5 hn24 hr hG3 1000 1 N o R s1 (by omega) (by omega) (by omega) (by omega) hR (mRel_dis hn24 hM) h4 (by rw [h5 r hr]; exact h2)
    exact ⟨s', h6, h3.trans h7⟩
  · rw [if_neg c47, if_neg c47]
    exact ⟨s, rfl, mFr.refl s⟩
def zmx (P : Nat → Bool) (q : Nat → Nat) : Nat → Nat
  | 0 => 0
  | r + 1 => if P r = true then (if q r ≤ zmx P q r then zmx P q r else q r) else zmx P q r
theorem zmx_le {P : Nat → Bool} {q : Nat → Nat} {B : Nat} (h : ∀ r, P r = true → q r ≤ B) (n : Nat) : zmx P q n ≤ B := by
  induction n with
  | zero => exact Nat.zero_le _
  | succ n ih =>
    show (if P n = true then _ else _) ≤ B
    split
    · rename_i hP
      have := h n hP
      split <;> omega
    · exact ih
theorem zmx_ge {P : Nat → Bool} {q : Nat → Nat} {n r : Nat} (hr : r < n) (hP : P r = true) : q r ≤ zmx P q n := by
  induction n with
  | zero => omega
  | succ n ih =>
    show q r ≤ (if P n = true then _ else _)
    by_cases e : r = n
    · subst e
      rw [if_pos hP]
      split <;> omega
    · have := ih (by omega)
      split
      · split <;> omega
      · exact this
theorem zmx_0 {P : Nat → Bool} {q : Nat → Nat} {n : Nat} (h : ∀ r, r < n → P r = false) : zmx P q n = 0 := by
  induction n with
  | zero => rfl
  | succ n ih =>
    show (if P n = true then _ else zmx P q n) = 0
    rw [h n (by omega), if_neg (by decide)]
    exact ih (fun r hr => h r (by omega))
theorem m_worstL {o : Nat} (hN : 1010 ≤ N) (hF2 : 2 ≤ F) (hF10 : F ≤ 10) (hp5 : p ≤ 5) (hn24 : n ≤ 24) (hG3 : G 3 = zi p) (hc : c < 4) (ho : o < 900000000) (hR : rOK F o R) {fa : Int32} :
    ∀ (k r f : Nat) (s : zS), r + k = n → k < f → mRel G St Go R F p n c 0 s → (s 48 c = 0 ∨ s 48 c = 1) → s 47 c = fa → 
    ∃ s', zf_Mo_worstOf_4 N f (zi c) (zi (zmx (vIn R) (fun r => pQ (pM G St Go F p fa R r)) r)) (zi r) s = some (zi (zmx (vIn R) (fun r => pQ (pM G St Go F p fa R r)) n), s') ∧ mFr s s' := by
  intro k
  induction k with
  | zero =>
    intro r f s hr hf hM hb h47
    obtain ⟨f, rfl⟩ : ∃ f', f = f' + 1 := ⟨f - 1, by omega⟩
    refine ⟨s, ?_, mFr.refl s⟩
    show zb_Mo_worstOf_4 N _ _ _ _ _ = _
    unfold zb_Mo_worstOf_4
    rw [hM.1.2.2.2, if_pos ((zi_le (by omega) (by omega)).mpr (by omega)), show r = n by omega]
  | succ k ih =>
    intro r f s hr hf hM hb h47
    obtain ⟨f, rfl⟩ : ∃ f', f = f' + 1 := ⟨f - 1, by omega⟩
    have i48 : ¬ (zi r < 0 ∨ 48 ≤ r) := zi_inn (by omega) (by decide)
    have hle : ¬ (zi n ≤ zi r) := fun h => by have := (zi_le (by omega) (by omega)).mp h; omega
    obtain ⟨-, -, hA, hW, -, -⟩ := id hM
    have es : zmx (vIn R) (fun r => pQ (pM G St Go F p fa R r)) (r + 1) = if vIn R r = true then (if pQ (pM G St Go F p fa R r) ≤ zmx (vIn R) (fun r => pQ (pM G St Go F p fa R r)) r then zmx (vIn R) (fun r => pQ (pM G St Go F p fa R r)) r else pQ (pM G St Go F p fa R r)) else zmx (vIn R) (fun r => pQ (pM G St Go F p fa R r)) r := rfl
    have hin : vIn R r = (decide (s 50 r = zi c) && (decide (s 49 r = 0) || decide (s 49 r = 1))) := by
      unfold vIn
      rw [hA, hW]
      unfold mA mW
      rw [Nat.zero_add]
      simp only [show r < n by omega, decide_true, Bool.true_and]
      cases decide (s 50 r = zi c) <;> cases decide (s 49 r = 0) <;> cases decide (s 49 r = 1) <;> rfl
    have hB : ∀ i, pQ (pM G St Go F p fa R i) ≤ 1000 := fun i => by
      unfold pM
      split
      · exact pQ_le i 1000 1 R (by omega) (by omega)
      · decide
    have hz : zmx (vIn R) (fun r => pQ (pM G St Go F p fa R r)) r ≤ 1000 := zmx_le (fun i _ => hB i) r
    show ∃ s', zb_Mo_worstOf_4 N _ _ _ _ _ = _ ∧ _
    unfold zb_Mo_worstOf_4 zf_Mo_worstOf_65
    simp only [hM.1.2.2.2, hle, if_false, zi_nat (show r < 2147483648 by omega), i48, zi_succ]
    have skip : vIn R r = false → ∃ s', zf_Mo_worstOf_4 N f (zi c) (zi (zmx (vIn R) (fun r => pQ (pM G St Go F p fa R r)) r)) (zi (r + 1)) s = some (zi (zmx (vIn R) (fun r => pQ (pM G St Go F p fa R r)) n), s') ∧ mFr s s' := fun h0 => by
      have := ih (r + 1) f s (by omega) (by omega) hM hb h47
      rw [es, h0, if_neg (by decide)] at this
      exact this
    by_cases c1 : s 50 r = zi c
    · rw [if_pos c1]
      have hir : zf_Mo_isRider N (zi r) s = some (if s 49 r = 0 ∨ s 49 r = 1 then 1 else 0, s) := by
        unfold zf_Mo_isRider zf_Mo_isRider_32 zf_Mo_isRider_28 zf_Mo_isRider_33
        simp only [zi_nat (show r < 2147483648 by omega), i48, if_false, c1, zi_neg (show c < 2147483648 by omega)]
        by_cases d0 : s 49 r = 0
        · simp [d0]
        · by_cases d1 : s 49 r = 1
          · simp [d1]
          · simp [d0, d1]
      rw [hir]
      simp only [Option.bind_some]
      by_cases d : s 49 r = 0 ∨ s 49 r = 1
      · rw [if_pos d, if_neg (by decide)]
        have hv : vIn R r = true := by rw [hin]; rcases d with d | d <;> simp [c1, d]
        obtain ⟨s1, h1, h2⟩ := m_promiseOf (N := N) hN hF2 hF10 hp5 hn24 (show r < n by omega) hG3 hc hb ho hR hM c1 (fun h => by rcases d with d | d <;> rw [d] at h <;> exact absurd h (by decide))
        rw [h1, h47]
        simp only [Option.bind_some]
        have hM1 := mRel_fr hc hn24 hM h2
        have hb1 : s1 48 c = 0 ∨ s1 48 c = 1 := by rw [h2 48 c (by omega) (by omega)]; exact hb
        have h471 : s1 47 c = fa := by rw [h2 47 c (by omega) (by omega)]; exact h47
        obtain ⟨s', h3, h4⟩ := ih (r + 1) f s1 (by omega) (by omega) hM1 hb1 h471
        rw [es, hv, if_pos rfl] at h3
        refine ⟨s', ?_, h2.trans h4⟩
        rw [← h3]
        unfold zf_Mo_worstOf_50 zf_Mo_worstOf_64 zf_Mo_worstOf_65
        have hfin : ∀ x : Nat, x ≤ 1000 → (if zi x ≤ zi (zmx (vIn R) (fun r => pQ (pM G St Go F p fa R r)) r) then zf_Mo_worstOf_4 N f (zi c) (zi (zmx (vIn R) (fun r => pQ (pM G St Go F p fa R r)) r)) (zi (r + 1)) s1 else zf_Mo_worstOf_4 N f (zi c) (zi x) (zi (r + 1)) s1) = zf_Mo_worstOf_4 N f (zi c) (zi (if x ≤ zmx (vIn R) (fun r => pQ (pM G St Go F p fa R r)) r then zmx (vIn R) (fun r => pQ (pM G St Go F p fa R r)) r else x)) (zi (r + 1)) s1 := fun x hx => by
          by_cases e : x ≤ zmx (vIn R) (fun r => pQ (pM G St Go F p fa R r)) r
          · rw [if_pos ((zi_le (by omega) (by omega)).mpr e), if_pos e]
          · rw [if_neg (fun h => e ((zi_le (by omega) (by omega)).mp h)), if_neg e]
        have hpl : pM G St Go F p fa R r ≤ 1000 := by
          have := hB r
          unfold pQ at this
          split at this <;> omega
        by_cases e0 : pM G St Go F p fa R r = 0
        · have eq1 : pQ (pM G St Go F p fa R r) = 1000 := by unfold pQ; rw [if_pos e0]
          rw [if_pos e0, if_neg (by decide), eq1]
          simp only [zi_succ]
          exact hfin 1000 (by omega)
        · have eq1 : pQ (pM G St Go F p fa R r) = pM G St Go F p fa R r := by unfold pQ; rw [if_neg e0]
          have hge : (0 : Int32) ≤ zi (pM G St Go F p fa R r) := (zi_le (a := 0) (by decide) (by omega)).mpr (by omega)
          rw [if_neg e0, if_pos hge, eq1]
          simp only [zi_succ]
          exact hfin _ hpl
      · rw [if_neg d, if_pos rfl]
        exact skip (by rw [hin]; simp only [not_or] at d; simp [d.1, d.2])
    · rw [if_neg c1]
      exact skip (by rw [hin]; simp [c1])
theorem m_worstOf {o : Nat} (hN : 1010 ≤ N) (hF2 : 2 ≤ F) (hF10 : F ≤ 10) (hp5 : p ≤ 5) (hn24 : n ≤ 24) (hG3 : G 3 = zi p) (hc : c < 4) (ho : o < 900000000) (hR : rOK F o R) (hM : mRel G St Go R F p n c 0 s) (hb : s 48 c = 0 ∨ s 48 c = 1) :
    ∃ s', zf_Mo_worstOf N (zi c) s = some (zi (wC G St Go F p (s 47 c) R), s') ∧ mFr s s' := by
  obtain ⟨s', h1, h2⟩ := m_worstL (N := N) hN hF2 hF10 hp5 hn24 hG3 hc ho hR n 0 N s (by omega) (by omega) hM hb rfl
  refine ⟨s', ?_, h2⟩
  have h1' : zf_Mo_worstOf N (zi c) s = some (zi (zmx (vIn R) (fun r => pQ (pM G St Go F p (s 47 c) R r)) n), s') := h1
  rw [h1']
  have hhi : ∀ r, n ≤ r → vIn R r = false := fun r hr => by
    obtain ⟨-, -, hA, hW, -, -⟩ := hM
    unfold vIn
    rw [hA, hW]
    simp [show ¬ r < n by omega]
  congr 3
  unfold wC
  by_cases e : R 8 ||| R 9 = 0
  · rw [if_pos e]
    exact zmx_0 (fun r hr => (vIn_or R).mp e r (by omega))
  · rw [if_neg e]
    have hne : ∃ r, r < 32 ∧ vIn R r = true := by
      cases hz : zany (vIn R) 32 with
      | true => exact (zany_iff _ _).mp hz
      | false => exact absurd ((vIn_or _).mpr (zany_no.mp hz)) e
    have hlt : ∀ r, vIn R r = true → r < n := fun r hr => by
      by_cases e : r < n
      · exact e
      · rw [hhi r (by omega)] at hr; cases hr
    by_cases h47 : s 47 c = 0
    · rw [if_pos h47]
      obtain ⟨⟨r1, hr1, hi1, hq1⟩, hall, -⟩ := wL_spec (G := G) (St := St) (Go := Go) (F := F) (p := p) 1000 1 R (by omega) (by omega) (mRel_dis hn24 hM) hne
      have ep : ∀ r, pM G St Go F p (s 47 c) R r = pN G St Go F p r 1000 1 R := fun r => by unfold pM; rw [if_pos h47]
      apply Nat.le_antisymm
      · refine zmx_le (fun r hr => ?_) n
        rw [ep]
        exact hall r (by have := hlt r hr; omega) hr
      · rw [← hq1, ← ep]
        exact zmx_ge (q := fun r => pQ (pM G St Go F p (s 47 c) R r)) (hlt r1 hi1) hi1
    · rw [if_neg h47]
      obtain ⟨r1, hr1, hi1⟩ := hne
      have ep : ∀ r, pQ (pM G St Go F p (s 47 c) R r) = 1000 := fun r => by unfold pM; rw [if_neg h47]; rfl
      apply Nat.le_antisymm
      · exact zmx_le (fun r _ => by rw [ep]; exact Nat.le_refl _) n
      · have := zmx_ge (q := fun r => pQ (pM G St Go F p (s 47 c) R r)) (hlt r1 hi1) hi1
        rw [ep] at this
        exact this
end PR
