section LR
variable {N L : Nat} {xs : Nat → Int32}
theorem law_run (hN : 1010 ≤ N) (hL : L ≤ 2048) : ∀ (f i : Nat) (st : zS), 0 < f → L < 4 * i + 4 * f → 4 * i ≤ L + 4 → zI2 i st st → zf_La_law_23 N L xs f (zi (4 * i)) st = some 1 := by
  intro f
  induction f with
  | zero => intro i st h; omega
  | succ f ih =>
    intro i st h0 h1 h2 hI
    show zb_La_law_23 N L xs (zf_La_law_23 N L xs f) (zi (4 * i)) st = some 1
    unfold zb_La_law_23
    have gd : (Int32.ofNat L - 4 < zi (4 * i)) ↔ L < 4 * i + 4 := by
      show zi L - zi 4 < zi (4 * i) ↔ _
      rw [Int32.lt_iff_toInt_lt, Int32.toInt_sub, zi_int (by omega), zi_int (by omega), zi_int (by omega)]
      simp only [Int.bmod]
      omega
    by_cases g : L < 4 * i + 4
    · rw [if_pos (gd.mpr g)]
    · rw [if_neg (fun h => g (gd.mp h))]
      have e1 : zi (4 * i) + 1 = zi (4 * i + 1) := zi_add _ 1
      have e2 : zi (4 * i) + 2 = zi (4 * i + 2) := zi_add _ 2
      have e3 : zi (4 * i) + 3 = zi (4 * i + 3) := zi_add _ 3
      have e4 : zi (4 * i) + 4 = zi (4 * (i + 1)) := zi_add _ 4
      have n0 : (zi (4 * i)).toNatClampNeg = 4 * i := zi_nat (by omega)
      have n1 : (zi (4 * i + 1)).toNatClampNeg = 4 * i + 1 := zi_nat (by omega)
      have n2 : (zi (4 * i + 2)).toNatClampNeg = 4 * i + 2 := zi_nat (by omega)
      have n3 : (zi (4 * i + 3)).toNatClampNeg = 4 * i + 3 := zi_nat (by omega)
      have b0 : ¬ (zi (4 * i) < 0 ∨ L ≤ 4 * i) := zi_inn (by omega) (by omega)
      have b1 : ¬ (zi (4 * i + 1) < 0 ∨ L ≤ 4 * i + 1) := zi_inn (by omega) (by omega)
      have b2 : ¬ (zi (4 * i + 2) < 0 ∨ L ≤ 4 * i + 2) := zi_inn (by omega) (by omega)
      have b3 : ¬ (zi (4 * i + 3) < 0 ∨ L ≤ 4 * i + 3) := zi_inn (by omega) (by omega)
      have go : ∀ st' : zS, zI2 (i + 1) st' st' → zf_La_law_919 N L xs (zf_La_law_23 N L xs f) (zi (4 * i)) st' = some 1 := fun st' h => by
        unfold zf_La_law_919
        rw [e4]
        exact ih (i + 1) st' (by omega) (by omega) (by omega) h
      have hj : i ≤ 600 := by omega
      have ans : ∀ (c v : Int32) (s : zS), s 40 0 = c → (c = 0 → s 56 0 = v) → zI2 (i + 1) s s → (if s 40 0 = c then (if c = 0 then (if lg_cmp (s 56 0).toInt64 v.toInt64 = 0 then zf_La_law_919 N L xs (zf_La_law_23 N L xs f) (zi (4 * i)) s else some 0) else zf_La_law_919 N L xs (zf_La_law_23 N L xs f) (zi (4 * i)) s) else some 0) = some 1 := fun c v s q1 q2 q3 => by
        rw [if_pos q1]
        by_cases hc : c = 0
        · rw [if_pos hc, q2 hc, lg_cmp_self, if_pos rfl]; exact go s q3
        · rw [if_neg hc]; exact go s q3
      have bb : ∀ x : Int32, ∃ v : Int32, (v = 0 ∨ v = 1) ∧ ∀ {α : Type} (y : Int32 → α), (if x = 0 then y 0 else y 1) = y v := fun x => by
        by_cases h : x = 0
        · exact ⟨0, Or.inl rfl, fun y => by rw [if_pos h]⟩
        · exact ⟨1, Or.inr rfl, fun y => by rw [if_neg h]⟩
      simp only [e1, e2, e3, n0, n1, n2, n3, b0, b1, b2, b3, if_false]
      by_cases c0 : xs (4 * i) &&& 15 = 0
      · rw [if_pos c0]
        obtain ⟨c, s1, a1, s2, a2, a3, a4⟩ := law_void (st := st) (by decide) (op_building (N := N) (j := i) (by omega) (xs (4 * i + 1)) (xs (4 * i + 2)) (xs (4 * i + 3))) hI
        have a1' : zf_La_building N (xs (4 * i + 1)) (xs (4 * i + 2)) (xs (4 * i + 3)) st = some (c, s1) := a1
        simp only [a1', a2, Option.bind_some, zf_Mo_thrown, a3, if_true]
        exact go s2 a4
      rw [if_neg c0]
      by_cases c1 : xs (4 * i) &&& 15 = 1
      · rw [if_pos c1]
        obtain ⟨c, s1, a1, v, s2, a2, a3, a4, a5⟩ := law_call (N := N) hN hj hI (xs (4 * i + 1)) (xs (4 * i + 2))
        simp only [a1, a2, Option.bind_some, zf_Mo_thrown, zf_La_law_233]
        exact ans c v s2 a3 a4 a5
      rw [if_neg c1]
      by_cases c2 : xs (4 * i) &&& 15 = 2
      · rw [if_pos c2]
        obtain ⟨c, s1, a1, s2, a2, a3, a4⟩ := law_void (st := st) (by decide) (op_step (N := N) (j := i) (by omega) hj (xs (4 * i + 1))) hI
        have a1' : zf_La_step N (xs (4 * i + 1)) st = some (c, s1) := a1
        simp only [a1', a2, Option.bind_some, zf_Mo_thrown, a3, if_true]
        exact go s2 a4
      rw [if_neg c2]
      by_cases c3 : xs (4 * i) &&& 15 = 3
      · rw [if_pos c3]
        unfold zf_La_law_293 zf_La_law_319
        simp only [e1, e2, n1, n2, b1, b2, if_false]
        by_cases hz : xs (4 * i + 2) = 0
        · obtain ⟨c, s1, a1, s2, a2, a3, a4⟩ := law_void (st := st) (by decide) (op_curtain (N := N) (j := i) (v := 0) (Or.inl rfl) (xs (4 * i + 1))) hI
          have a1' : zf_La_curtain N (xs (4 * i + 1)) 0 st = some (c, s1) := a1
          simp only [hz, if_true, a1', a2, Option.bind_some, zf_Mo_thrown, a3]
          exact go s2 a4
        · obtain ⟨c, s1, a1, s2, a2, a3, a4⟩ := law_void (st := st) (by decide) (op_curtain (N := N) (j := i) (v := 1) (Or.inr rfl) (xs (4 * i + 1))) hI
          have a1' : zf_La_curtain N (xs (4 * i + 1)) 1 st = some (c, s1) := a1
          simp only [hz, if_false, if_true, a1', a2, Option.bind_some, zf_Mo_thrown, a3]
          exact go s2 a4
      rw [if_neg c3]
      by_cases c4 : xs (4 * i) &&& 15 = 4
      · rw [if_pos c4]
        unfold zf_La_law_357 zf_La_law_383
        simp only [e1, e2, n1, n2, b1, b2, if_false]
        by_cases hz : xs (4 * i + 2) = 0
        · obtain ⟨c, s1, a1, s2, a2, a3, a4⟩ := law_void (st := st) (by decide) (op_lock (N := N) (j := i) (v := 0) hN hj (Or.inl rfl) (xs (4 * i + 1))) hI
          have a1' : zf_La_lock N (xs (4 * i + 1)) 0 st = some (c, s1) := a1
          simp only [hz, if_true, a1', a2, Option.bind_some, zf_Mo_thrown, a3]
          exact go s2 a4
        · obtain ⟨c, s1, a1, s2, a2, a3, a4⟩ := law_void (st := st) (by decide) (op_lock (N := N) (j := i) (v := 1) hN hj (Or.inr rfl) (xs (4 * i + 1))) hI
          have a1' : zf_La_lock N (xs (4 * i + 1)) 1 st = some (c, s1) := a1
          simp only [hz, if_false, if_true, a1', a2, Option.bind_some, zf_Mo_thrown, a3]
          exact go s2 a4
      rw [if_neg c4]
      by_cases c5 : xs (4 * i) &&& 15 = 5
      · rw [if_pos c5]
        unfold zf_La_law_421 zf_La_law_447
        simp only [e1, e2, n1, n2, b1, b2, if_false]
        by_cases hz : xs (4 * i + 2) = 0
        · obtain ⟨c, s1, a1, s2, a2, a3, a4⟩ := law_void (st := st) (by decide) (op_fail (N := N) (j := i) (v := 0) hN hj (Or.inl rfl) (xs (4 * i + 1))) hI
          have a1' : zf_La_fail N (xs (4 * i + 1)) 0 st = some (c, s1) := a1
          simp only [hz, if_true, a1', a2, Option.bind_some, zf_Mo_thrown, a3]
          exact go s2 a4
        · obtain ⟨c, s1, a1, s2, a2, a3, a4⟩ := law_void (st := st) (by decide) (op_fail (N := N) (j := i) (v := 1) hN hj (Or.inr rfl) (xs (4 * i + 1))) hI
          have a1' : zf_La_fail N (xs (4 * i + 1)) 1 st = some (c, s1) := a1
          simp only [hz, if_false, if_true, a1', a2, Option.bind_some, zf_Mo_thrown, a3]
          exact go s2 a4
      rw [if_neg c5]
      by_cases c6 : xs (4 * i) &&& 15 = 6
      · rw [if_pos c6]
        unfold zf_La_law_479 zf_La_law_497
        simp only [e1, n1, b1, if_false]
        by_cases hz : xs (4 * i + 1) = 0
        · obtain ⟨s1, a1, s2, a2, a4⟩ := law_recall (N := N) (v := 0) hN hj (Or.inl rfl) hI
          simp only [hz, if_true, a1, a2, Option.bind_some]
          exact go s2 a4
        · obtain ⟨s1, a1, s2, a2, a4⟩ := law_recall (N := N) (v := 1) hN hj (Or.inr rfl) hI
          simp only [hz, if_false, a1, a2, Option.bind_some]
          exact go s2 a4
      rw [if_neg c6]
      by_cases c7 : xs (4 * i) &&& 15 = 7
      · rw [if_pos c7]
        obtain ⟨c, s1, a1, v, s2, a2, a3, a4, a5⟩ := law_car (N := N) hN hI (xs (4 * i + 1)) (xs (4 * i + 2))
        simp only [a1, a2, Option.bind_some, zf_Mo_thrown, zf_La_law_568]
        exact ans c v s2 a3 a4 a5
      rw [if_neg c7]
      by_cases c8 : xs (4 * i) &&& 15 = 8
      · rw [if_pos c8]
        obtain ⟨c, s1, a1, v, s2, a2, a3, a4, a5⟩ := law_stop (N := N) hN hI (xs (4 * i + 1)) (xs (4 * i + 2))
        simp only [a1, a2, Option.bind_some, zf_Mo_thrown, zf_La_law_643]
        rw [if_pos a3]
        by_cases hc : c = 0
        · rw [if_pos hc]
          have a4' := a4 hc
          by_cases hv : v = 0
          · rw [if_pos hv, a4', if_pos hv]
            rw [if_pos (show lg_cmp (0 : Int32).toInt64 0 = 0 by decide)]
            exact go s2 a5
          · rw [if_neg hv, a4', if_neg hv]
            rw [if_pos (show lg_cmp (1 : Int32).toInt64 1 = 0 by decide)]
            exact go s2 a5
        · rw [if_neg hc]; exact go s2 a5
      rw [if_neg c8]
      by_cases c9 : xs (4 * i) &&& 15 = 9
      · rw [if_pos c9]
        obtain ⟨c, s1, a1, v, s2, a2, a3, a4, a5⟩ := law_worst (N := N) hN hj hI (xs (4 * i + 1))
        simp only [a1, a2, Option.bind_some, zf_Mo_thrown, zf_La_law_699]
        exact ans c v s2 a3 a4 a5
      rw [if_neg c9]
      by_cases c10 : xs (4 * i) &&& 15 = 10
      · rw [if_pos c10]
        obtain ⟨c, s1, a1, v, s2, a2, a3, a4, a5⟩ := law_rider (N := N) hN hI (xs (4 * i + 1)) (xs (4 * i + 2))
        simp only [a1, a2, Option.bind_some, zf_Mo_thrown, zf_La_law_767]
        exact ans c v s2 a3 a4 a5
      rw [if_neg c10]
      by_cases c11 : xs (4 * i) &&& 15 = 11
      · rw [if_pos c11]
        obtain ⟨c, s1, a1, v, s2, a2, a3, a4, a5⟩ := law_promise (N := N) hN hj hI (xs (4 * i + 1))
        simp only [a1, a2, Option.bind_some, zf_Mo_thrown, zf_La_law_823]
        exact ans c v s2 a3 a4 a5
      rw [if_neg c11]
      by_cases c12 : xs (4 * i) &&& 15 = 12
      · rw [if_pos c12]
        obtain ⟨c, s1, a1, v, s2, a2, a3, a4, a5⟩ := law_event (N := N) hj hI (xs (4 * i + 1)) (xs (4 * i + 2))
        simp only [a1, a2, Option.bind_some, zf_Mo_thrown, zf_La_law_891]
        exact ans c v s2 a3 a4 a5
      rw [if_neg c12]
      by_cases c13 : xs (4 * i) &&& 15 = 13
      · rw [if_pos c13]
        obtain ⟨v, s1, a1, s2, a2, a4⟩ := law_about (N := N) hN hI (xs (4 * i + 1))
        simp only [a1, a2, Option.bind_some, if_true]
        exact go s2 a4
      rw [if_neg c13]
      exact go st (zI2_up hI)
end LR
theorem law_first {N : Nat} (hN : 30 ≤ N) : ∃ st1, zf_LG_startAnew N 2 1 1 (fun _ _ => 0) = some st1 ∧ zI2 0 (zs_st st1) (zs_st st1) := by
  obtain ⟨st1, h1, h2⟩ := c_anew (N := N) (F := 2) (p := 1) (m := 1) (sc := fun _ _ => 0) hN
  refine ⟨st1, h1, 2, 1, 1, 0, 0, 0, 0, ?_, by omega, by omega, by omega⟩
  have lo : ∀ q, q < 40 → zs_st st1 q = st1 q := fun q hq => by funext j; simp [zs_st, hq]
  have hi : ∀ q j, 40 < q → zs_st st1 q j = 0 := fun q j hq => by simp [zs_st, show ¬ q < 40 by omega, show ¬ q = 40 by omega]
  have I0 : zInv 2 1 1 0 0 0 0 (fun _ => false) st1 (zs_st st1) := by
    refine zF_new (s0 := fun _ _ => 0) (s1 := zs_st st1) ⟨by omega, by omega, by omega, by omega, by omega, by omega⟩ h2 ⟨?_, fun x hx => ?_, rfl⟩ (fun j hj => ?_)
    · simp [zs_st]; decide
    · exact ⟨hi _ _ (by omega), hi _ _ (by omega), hi _ _ (by omega), hi _ _ (by omega), hi _ _ (by omega), hi _ _ (by omega), hi _ _ (by omega), hi _ _ (by omega)⟩
    · exact ⟨(hi _ _ (by omega)).symm, (hi _ _ (by omega)).symm, (hi _ _ (by omega)).symm, (hi _ _ (by omega)).symm⟩
  exact zInv_fr I0 (fun q hq _ => lo q hq) (fun q j _ _ _ _ _ => rfl)
theorem law_all {N L : Nat} {xs : Nat → Int32} (hN : 1010 ≤ N) (hL : L ≤ 2048) : ∃ st1, zf_LG_startAnew N 2 1 1 (fun _ _ => 0) = some st1 ∧ zf_La_law_23 N L xs 520 0 (zs_st st1) = some 1 := by
  obtain ⟨st1, h1, h2⟩ := law_first (N := N) (by omega)
  exact ⟨st1, h1, law_run hN hL 520 0 _ (by omega) (by omega) (by omega) h2⟩
