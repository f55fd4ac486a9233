section OJ
variable {N F p m n t k o c j : Nat} {T T' : Nat → Bool} {sc sr : zS}
def cv512 : Nat → Int32 := fun x => if x = 0 then 0 else if x = 5 then 1 else 2
theorem z_mod (x : Nat) (h : x < 2000000000) : zi x - zi x / 30 * 30 = zi (x % 30) := by
  rw [show zi x / 30 = zi (x / 30) from zi_div (b := 30) (by omega) (by decide), show zi (x / 30) * 30 = zi (x / 30 * 30) from zi_mul _ 30, zi_sub (by omega)]
  congr 1; omega
theorem op_event (hj : j ≤ 600) (a b : Int32) : zOp j (zf_LG_event N a b) (zf_Mo_event N a b) (fun x => x = 0 ∨ x = 5 ∨ x = 1) cv512 := by
  intro sc sr hI2
  obtain ⟨F, p, m, n, t, k, o, hI, ht, hk, ho⟩ := id hI2
  obtain ⟨k1, k2, kl⟩ := id hI.2.2.2.2.2.2.1
  have x1 : ¬ ((1 : Int32) = 0) := by decide
  have fin : ∀ {code : Nat} {v v' x : Int32}, zf_LG_event N a b sc = some (code, v, sc) → zf_Mo_event N a b sr = some (v', zp sr 40 0 x) → x = cv512 code → (code = 0 ∨ code = 5 ∨ code = 1) → (code = 0 → v = v') → _ := fun {code v v' x} h1 h2 h3 h4 h5 => zOp_no (fC := zf_LG_event N a b) (fM := zf_Mo_event N a b) (okc := fun x => x = 0 ∨ x = 5 ∨ x = 1) (cv := cv512) (j := j) hI2 h1 h2 h3 h4 h5
  have ⟨kt, hkt1, hkt2, hkt3⟩ : ∃ kt, kt ≤ 30 ∧ kt ≤ k ∧ ((k < 30 → kt = k) ∧ (30 ≤ k → kt = 30)) := ⟨if k < 30 then k else 30, by split <;> omega, by split <;> omega, fun h => if_pos h, fun h => if_neg (by omega)⟩
  have eK : (if (30 : Int32) < sc 35 4 then 30 else sc 35 4) = zi kt := by
    rw [k1]
    have lk : (30 : Int32) < zi k ↔ 30 < k := zi_lt (a := 30) (by decide) (by omega)
    by_cases h : 30 < k
    · rw [if_pos (lk.mpr h), hkt3.2 (by omega)]; rfl
    · rw [if_neg (fun h' => h (lk.mp h'))]
      congr 1
      by_cases h3 : k < 30
      · exact (hkt3.1 h3).symm
      · rw [hkt3.2 (by omega)]; omega
  have eM0 : zf_Mo_event N a b sr = zf_Mo_event_18 N a b (zi kt) sr := by
    unfold zf_Mo_event
    rw [k2]
    have lk : (30 : Int32) ≤ zi k ↔ 30 ≤ k := zi_le (a := 30) (by decide) (by omega)
    by_cases h : 30 ≤ k
    · rw [if_pos (lk.mpr h), hkt3.2 h]; rfl
    · rw [if_neg (fun h' => h (lk.mp h')), hkt3.1 (by omega)]
  have eC0 : zf_LG_event N a b sc = (if a < 0 then some (5, 0, sc) else if a < zi kt then ((if b = 0 then (if ((zi k - zi kt + a) - (zi k - zi kt + a) / 30 * 30) < 0 ∨ 30 ≤ ((zi k - zi kt + a) - (zi k - zi kt + a) / 30 * 30).toNatClampNeg then none else some (0, (sc 36 ((zi k - zi kt + a) - (zi k - zi kt + a) / 30 * 30).toNatClampNeg), sc)) else (if b = 1 then (if ((zi k - zi kt + a) - (zi k - zi kt + a) / 30 * 30) < 0 ∨ 30 ≤ ((zi k - zi kt + a) - (zi k - zi kt + a) / 30 * 30).toNatClampNeg then none else some (0, (sc 37 ((zi k - zi kt + a) - (zi k - zi kt + a) / 30 * 30).toNatClampNeg), sc)) else (if b = 2 then (if ((zi k - zi kt + a) - (zi k - zi kt + a) / 30 * 30) < 0 ∨ 30 ≤ ((zi k - zi kt + a) - (zi k - zi kt + a) / 30 * 30).toNatClampNeg then none else some (0, (sc 38 ((zi k - zi kt + a) - (zi k - zi kt + a) / 30 * 30).toNatClampNeg), sc)) else (if b = 3 then (if ((zi k - zi kt + a) - (zi k - zi kt + a) / 30 * 30) < 0 ∨ 30 ≤ ((zi k - zi kt + a) - (zi k - zi kt + a) / 30 * 30).toNatClampNeg then none else some (0, (sc 39 ((zi k - zi kt + a) - (zi k - zi kt + a) / 30 * 30).toNatClampNeg), sc)) else some (1, 0, sc)))))) else some (5, 0, sc)) := by
    unfold zf_LG_event zf_LG_event_15 zf_Lo_placeOf zf_Lo_keptCount
    rw [k1] at eK
    simp only [k1, eK, Option.bind_some]
  rcases num_cases a kt (by omega) with ⟨i, hi, rfl⟩ | ⟨h1, h2⟩
  · obtain ⟨w1, w2, w3⟩ := num_in (show kt < 1000 by omega) hi
    have ei : zf_Mo_in N (zi i) 0 (zi kt - 1) sr = some (1, sr) := by rw [m_in, if_neg w1, if_neg w3]
    have epl : (zi k - zi kt + zi i) - (zi k - zi kt + zi i) / 30 * 30 = zi ((k - kt + i) % 30) := by
      rw [zi_sub hkt2, zi_add, z_mod _ (by omega)]
    have hpl : (k - kt + i) % 30 < 30 := Nat.mod_lt _ (by decide)
    generalize hP : (k - kt + i) % 30 = P at epl hpl
    have i30 : ¬ (zi P < 0 ∨ 30 ≤ P) := zi_inn hpl (by decide)
    rw [if_neg w1, if_pos w2] at eC0
    simp only [epl, zi_nat (show P < 2147483648 by omega), i30, if_false] at eC0
    obtain ⟨l0, l1, l2, l3⟩ := kl P hpl
    rcases zin b 0 3 (by decide) (by decide) with ⟨x, x0, x3, rfl⟩ | hb
    · have iF : zf_Mo_in N (zi x) 0 3 sr = some (1, sr) := m_in_ok (lo := 0) (hi := 3) (by decide) (by decide) x0 x3 sr
      have eM : zf_Mo_event N (zi i) (zi x) sr = some (sr 55 (P * 4 + x), zp sr 40 0 0) := by
        rw [eM0]
        unfold zf_Mo_event_18 zf_Mo_event_36 zf_Mo_event_50
        have z22 : zp sr 40 0 0 40 22 = zi k := by rw [zp_o _ _ (by decide)]; exact k2
        have i120 : ¬ (zi (P * 4 + x) < 0 ∨ 120 ≤ P * 4 + x) := zi_inn (by omega) (by decide)
        have e4 : zi P * 4 + zi x = zi (P * 4 + x) := by rw [show zi P * 4 = zi (P * 4) from zi_mul P 4, zi_add]
        simp only [ei, iF, Option.bind_some, x1, if_false, m_refuse, if_true, z22, epl, e4, zi_nat (show P * 4 + x < 2147483648 by omega), i120]
        rw [zp_q _ _ (by decide)]
      have : x = 0 ∨ x = 1 ∨ x = 2 ∨ x = 3 := by omega
      rcases this with rfl | rfl | rfl | rfl
      · exact fin (code := 0) (x := 0) (eC0.trans (if_pos rfl)) eM rfl (Or.inl rfl) (fun _ => l0)
      · rw [if_neg (by decide), if_pos (by decide)] at eC0
        exact fin (code := 0) (x := 0) eC0 eM rfl (Or.inl rfl) (fun _ => l1)
      · rw [if_neg (by decide), if_neg (by decide), if_pos (by decide)] at eC0
        exact fin (code := 0) (x := 0) eC0 eM rfl (Or.inl rfl) (fun _ => l2)
      · rw [if_neg (by decide), if_neg (by decide), if_neg (by decide), if_pos (by decide)] at eC0
        exact fin (code := 0) (x := 0) eC0 eM rfl (Or.inl rfl) (fun _ => l3)
    · have ne : ∀ x : Nat, x ≤ 3 → ¬ (b = zi x) := fun x hx e => by
        subst e
        rcases hb with h | ⟨-, h⟩
        · exact zi_neg (show x < 2147483648 by omega) h
        · exact h ((zi_le (by omega) (by decide)).mpr hx)
      rw [if_neg (show ¬ b = 0 from ne 0 (by omega)), if_neg (show ¬ b = 1 from ne 1 (by omega)), if_neg (show ¬ b = 2 from ne 2 (by omega)), if_neg (show ¬ b = 3 from ne 3 (by omega))] at eC0
      refine fin (code := 1) (x := 2) (v := 0) (v' := 0) eC0 ?_ rfl (Or.inr (Or.inr rfl)) (fun h => absurd h (by decide))
      rw [eM0]
      unfold zf_Mo_event_18 zf_Mo_event_36 zf_Mo_event_50
      have iF : zf_Mo_in N b 0 3 sr = some (0, sr) := m_in_no (N := N) hb sr
      simp only [ei, iF, Option.bind_some, x1, if_false, if_true, m_refuse]
  · refine fin (code := 5) (x := 1) (v := 0) (v' := 0) ?_ ?_ rfl (Or.inr (Or.inl rfl)) (fun h => absurd h (by decide))
    · rw [eC0]
      by_cases h0 : a < 0
      · rw [if_pos h0]
      · rw [if_neg h0, if_neg (h1.resolve_left h0)]
    · rw [eM0]
      have iF : zf_Mo_in N a 0 (zi kt - 1) sr = some (0, sr) := by
        rw [m_in]
        by_cases h0 : a < 0
        · rw [if_pos h0]
        · rw [if_neg h0, if_pos (h2.resolve_left h0)]
      have : ∀ s0 : Int32, zf_Mo_event_50 N a b (zi kt) s0 1 sr = some (0, zp sr 40 0 1) := fun s0 => by
        unfold zf_Mo_event_50
        simp only [m_refuse, Option.bind_some, x1, if_false]
      unfold zf_Mo_event_18 zf_Mo_event_36
      simp only [iF, Option.bind_some, if_true, m_in, this, ite_self]
theorem m_about {l1 : Int32} (hn24 : n ≤ 24) (hn : sr 40 19 = zi n) : ∀ (kk r f : Nat), r + kk = n → kk < f → zf_Mo_about_15 N f l1 (aC (sr 49) r) (aM (sr 49) (sr 54) r) (aS (sr 49) (sr 54) r) (zi r) sr = some (if l1 = 0 then sr 40 20 else if l1 = 1 then zi n else if l1 = 2 then sr 40 22 else if l1 = 3 then aC (sr 49) n else if l1 = 4 then aM (sr 49) (sr 54) n else if l1 = 5 then aS (sr 49) (sr 54) n else -1, sr) := by
  intro kk
  induction kk with
  | zero =>
    intro r f hr hf
    obtain ⟨f, rfl⟩ : ∃ f', f = f' + 1 := ⟨f - 1, by omega⟩
    have : r = n := by omega
    subst this
    show zb_Mo_about_15 N _ _ _ _ _ _ _ = _
    unfold zb_Mo_about_15
    rw [hn, if_pos (Int32.le_refl _)]
    repeat' split
    all_goals rfl
  | succ kk ih =>
    intro r f hr hf
    obtain ⟨f, rfl⟩ : ∃ f', f = f' + 1 := ⟨f - 1, by omega⟩
    rw [← ih (r + 1) f (by omega) (by omega)]
    show zb_Mo_about_15 N _ _ _ _ _ _ _ = _
    unfold zb_Mo_about_15 zf_Mo_about_60 zf_Mo_about_73
    have g : ¬ (zi n ≤ zi r) := fun h => by have := (zi_le (by omega) (by omega)).mp h; omega
    have i48 : ¬ (zi r < 0 ∨ 48 ≤ r) := zi_inn (by omega) (by decide)
    have i24 : ¬ (zi r < 0 ∨ 24 ≤ r) := zi_inn (by omega) (by decide)
    rw [hn, if_neg g]
    simp only [zi_nat (show r < 2147483648 by omega), i48, i24, if_false, zi_succ]
    have u1 : aC (sr 49) (r + 1) = if sr 49 r = 2 then aC (sr 49) r + 1 else aC (sr 49) r := rfl
    have u2 : aM (sr 49) (sr 54) (r + 1) = if sr 49 r = 2 then (if aM (sr 49) (sr 54) r < sr 54 r then sr 54 r else aM (sr 49) (sr 54) r) else aM (sr 49) (sr 54) r := rfl
    have u3 : aS (sr 49) (sr 54) (r + 1) = if sr 49 r = 2 then aS (sr 49) (sr 54) r + sr 54 r else aS (sr 49) (sr 54) r := rfl
    rw [u1, u2, u3]
    by_cases h2 : sr 49 r = 2
    · simp only [h2, if_true]
      by_cases h3 : sr 54 r ≤ aM (sr 49) (sr 54) r
      · rw [if_pos h3, if_neg (by rw [Int32.not_lt]; exact h3)]
      · rw [if_neg h3, if_pos (by rw [← Int32.not_le]; exact h3)]
    · simp only [h2, if_false]
theorem op_about (hN : 1010 ≤ N) (a : Int32) : zOp j (fun s => (zf_LG_about N a s).map (fun y => (0, y.1, y.2))) (zf_Mo_about N a) (fun x => x = 0) (fun _ => 0) := by
  intro sc sr hI2
  obtain ⟨F, p, m, n, t, k, o, hI, ht, hk, ho⟩ := id hI2
  obtain ⟨⟨f2, f10, p1, p5, m1, m4, n24⟩, s2, s3, s4, s5, s6, s7⟩ := id hI.1
  obtain ⟨k1, k2, kl⟩ := id hI.2.2.2.2.2.2.1
  obtain ⟨q9, q10, q11⟩ := id hI.2.2.2.2.2.2.2
  have e2 : zf_Mo_about N a sr = _ := m_about (N := N) (sr := zp sr 40 0 0) (l1 := a) n24 (by rw [zp_o _ _ (by decide)]; exact s6.2) n 0 N (by omega) (by omega)
  rw [zp_o _ _ (by decide), zp_o _ _ (by decide), zp_row _ _ (by decide), zp_row _ _ (by decide), s7.2, k2] at e2
  have e1 : zf_LG_about N a sc = some (if a = 0 then zi t else if a = 1 then zi n else if a = 2 then zi k else if a = 3 then aC (sr 49) n else if a = 4 then aM (sr 49) (sr 54) n else if a = 5 then aS (sr 49) (sr 54) n else -1, sc) := by
    unfold zf_LG_about
    rw [s7.1, s6.1, k1, q9, q10, q11]
    repeat' split
    all_goals rfl
  exact zOp_no (fC := fun s => (zf_LG_about N a s).map (fun y => (0, y.1, y.2))) (fM := zf_Mo_about N a) (okc := fun x => x = 0) (cv := fun _ => 0) hI2 (code := 0) (x := 0) (by simp only [e1, Option.map_some]) e2 rfl rfl (fun _ => rfl)
end OJ
