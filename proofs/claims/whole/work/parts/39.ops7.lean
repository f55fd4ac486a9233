section OH
variable {N F p m n t k o c j : Nat} {T T' : Nat → Bool} {sc sr : zS}
theorem zOp_q {fC : zS → Option (Nat × Int32 × zS)} {fM : zS → Option (Int32 × zS)} {okc : Nat → Prop} {cv : Nat → Int32} {sc sr sc' sr' : zS} {code : Nat} {v v' x : Int32} (h : zI2 j sc sr) (hc : fC sc = some (code, v, sc')) (hm : fM sr = some (v', sr')) (h9 : ∀ q, q ≠ 9 → sc' q = sc q) (hr : mFr (zp sr 40 0 x) sr') (hx : x = cv code) (ho : okc code) (hv : code = 0 → v = v') : ∃ code v sc' v' sr', fC sc = some (code, v, sc') ∧ fM sr = some (v', sr') ∧ okc code ∧ sr' 40 0 = cv code ∧ (code = 0 → v = v') ∧ zI2 (j + 1) sc' sr' ∧ hiF sc sc' ∧ (∀ q, q < 40 → sr' q = sr q) ∧ sr' 56 = sr 56 := by
  obtain ⟨F, p, m, n, t, k, o, hI, ht, hk, ho'⟩ := h
  refine ⟨code, v, sc', v', sr', hc, hm, ho, ?_, hv, ⟨F, p, m, n, t, k, o, zInv_fr (zInv_thr x hI) (fun q _ h => h9 q h) (fun q i h1 h2 _ _ _ => hr q i h1 h2), by omega, by omega, by omega⟩, fun q hq => h9 q (by omega), fun q hq => ?_, ?_⟩
  · rw [hr 40 0 (by omega) (by omega), zp_s]; exact hx
  · funext i; rw [hr q i (by omega) (by omega), zp_q _ _ (by omega)]
  · funext i; rw [hr 56 i (by omega) (by omega), zp_q _ _ (by omega)]
theorem b_aboard (hI : zInv F p m n t k o (fun _ => false) sc sr) (hc : c < m) : zc (zbit (sc (5 + c) 8)) 32 = zc (mA sr c 0) n := by
  have n24 := hI.1.1.2.2.2.2.2.2
  have d4 := (hI.2.2.2.1 c hc).2.2.2.1
  rw [show 32 = n + (32 - n) by omega, zc_none (32 - n) (fun r hr => by rw [d4]; simp [show ¬ r < n by omega])]
  exact zc_congr (fun r hr => by rw [d4]; simp [hr])
def cv412 : Nat → Int32 := fun x => if x = 0 then 0 else if x = 4 then 1 else 2
theorem op_car (hN : 1010 ≤ N) (a b : Int32) : zOp j (zf_LG_car N a b) (zf_Mo_car N a b) (fun x => x = 0 ∨ x = 4 ∨ x = 1) cv412 := by
  intro sc sr hI2
  obtain ⟨F, p, m, n, t, k, o, hI, ht, hk, ho⟩ := id hI2
  obtain ⟨⟨f2, f10, p1, p5, m1, m4, n24⟩, s2, s3, s4, s5, s6, s7⟩ := id hI.1
  have x1 : ¬ ((1 : Int32) = 0) := by decide
  have fin : ∀ {code : Nat} {v v' x : Int32}, zf_LG_car N a b sc = some (code, v, sc) → zf_Mo_car N a b sr = some (v', zp sr 40 0 x) → x = cv412 code → (code = 0 ∨ code = 4 ∨ code = 1) → (code = 0 → v = v') → _ := fun {code v v' x} h1 h2 h3 h4 h5 => zOp_no (fC := zf_LG_car N a b) (fM := zf_Mo_car N a b) (okc := fun x => x = 0 ∨ x = 4 ∨ x = 1) (cv := cv412) (j := j) hI2 h1 h2 h3 h4 h5
  rcases num_cases a m (by omega) with ⟨c, hc, rfl⟩ | ⟨h1, h2⟩
  · obtain ⟨⟨d0, d1, d2, d3, d4, d5, d6, d7⟩, ⟨b5, b6, b7⟩, dk, d8, d9, du⟩ := id (hI.2.2.2.1 c hc)
    have i5 : ¬ (zi c < 0 ∨ 5 ≤ c) := zi_inn (by omega) (by decide)
    have eC := c_car_ok (N := N) m4 s5.1 hc
    have iC' : zf_Mo_in N (zi c) 0 (sr 40 2 - 1) sr = some (1, sr) := by
      obtain ⟨w1, w2, w3⟩ := num_in (show m < 1000 by omega) hc
      rw [m_in, s5.2, if_neg w1, if_neg w3]
    have r41 : ∀ q i, q ≠ 40 → zp sr 40 0 0 q i = sr q i := fun q i h => zp_q _ _ h
    rcases zin b 0 5 (by decide) (by decide) with ⟨x, x0, x5, rfl⟩ | hb
    · have iF : zf_Mo_in N (zi x) 0 5 sr = some (1, sr) := m_in_ok (lo := 0) (hi := 5) (by decide) (by decide) x0 x5 sr
      have eM : zf_Mo_car N (zi c) (zi x) sr = zf_Mo_car_34 N (zi c) (zi x) 0 0 sr := by
        unfold zf_Mo_car zf_Mo_car_20
        simp only [iC', iF, Option.bind_some, x1, if_false]
      have : x = 0 ∨ x = 1 ∨ x = 2 ∨ x = 3 ∨ x = 4 ∨ x = 5 := by omega
      unfold zf_Mo_car_34 at eM
      simp only [m_refuse, Option.bind_some, if_true, zi_nat (show c < 2147483648 by omega), i5, if_false, r41 41 c (by decide), r41 42 c (by decide), r41 43 c (by decide), r41 44 c (by decide), r41 46 c (by decide)] at eM
      have eC' : ∀ b, zf_LG_car N (zi c) b sc = (if b = 0 then some ((0 : Nat), (sc (5 + c) 0), sc) else (if b = 1 then some (0, (sc (5 + c) 1), sc) else (if b = 2 then some (0, (sc (5 + c) 2), sc) else (if b = 3 then some (0, (sc (5 + c) 3), sc) else (if b = 4 then ((zf_In_bitCount N (sc (5 + c) 8) sc).bind fun y68 => some (0, y68.1, y68.2)) else (if b = 5 then (if (sc (5 + c) 5) = 0 then zf_LG_car_84 N (5 + c) 0 sc else zf_LG_car_84 N (5 + c) 1 sc) else some (1, 0, sc))))))) := fun b => by
        unfold zf_LG_car
        simp only [eC, Option.bind_some, if_true]
      rcases this with rfl | rfl | rfl | rfl | rfl | rfl
      · exact fin (code := 0) (x := 0) ((eC' _).trans (if_pos rfl)) (eM.trans (if_pos rfl)) rfl (Or.inl rfl) (fun _ => d0)
      · exact fin (code := 0) (x := 0) (by rw [eC', if_neg (by decide), if_pos (by decide)]) (by rw [eM, if_neg (by decide), if_pos (by decide)]) rfl (Or.inl rfl) (fun _ => d1)
      · exact fin (code := 0) (x := 0) (by rw [eC', if_neg (by decide), if_neg (by decide), if_pos (by decide)]) (by rw [eM, if_neg (by decide), if_neg (by decide), if_pos (by decide)]) rfl (Or.inl rfl) (fun _ => d2)
      · refine fin (code := 0) (x := 0) (v := sc (5 + c) 3) (v' := sr 44 c) (by rw [eC', if_neg (by decide), if_neg (by decide), if_neg (by decide), if_pos (by decide)]) ?_ rfl (Or.inl rfl) (fun _ => d3)
        rw [eM, if_neg (by decide), if_neg (by decide), if_neg (by decide), if_pos (by decide)]
        unfold zf_Mo_car_116
        by_cases h0 : sr 43 c = 0
        · rw [if_pos h0, ← d3, dk.2.2.2 (by rw [d2]; exact h0)]
        · rw [if_neg h0]
      · refine fin (code := 0) (x := 0) (v := zi (zc (zbit (sc (5 + c) 8)) 32)) (v' := zi (zc (mA (zp sr 40 0 0) c 0) n)) ?_ ?_ rfl (Or.inl rfl) (fun _ => by rw [b_aboard (zInv_thr 0 hI) hc])
        · rw [eC', if_neg (by decide), if_neg (by decide), if_neg (by decide), if_neg (by decide), if_pos (by decide), z_bitCount]; rfl
        · rw [eM, if_neg (by decide), if_neg (by decide), if_neg (by decide), if_neg (by decide), if_pos (by decide)]
          have := m_aboard (N := N) (c := c) (first := 0) (n := n) (sr := zp sr 40 0 0) (by omega) (by rw [zp_o _ _ (by decide)]; exact s6.2) (by omega)
          rw [show (0 : Int32) = zi 0 from rfl] at this ⊢
          rw [this]; rfl
      · rw [if_neg (by decide), if_neg (by decide), if_neg (by decide), if_neg (by decide), if_neg (by decide)] at eM
        have eC5 := eC' (zi 5)
        rw [if_neg (by decide), if_neg (by decide), if_neg (by decide), if_neg (by decide), if_neg (by decide), if_pos (by decide)] at eC5
        unfold zf_Mo_car_138 zf_Mo_car_152 zf_Mo_car_167 at eM
        unfold zf_LG_car_84 zf_LG_car_96 zf_LG_car_109 at eC5
        simp only [zi_nat (show c < 2147483648 by omega), i5, if_false, r41 47 c (by decide), r41 48 c (by decide), ← d5, ← d6, ← d7] at eM
        refine fin (code := 0) (x := 0) (v := (if sc (5 + c) 5 = 0 then 0 else 1) + (if sc (5 + c) 6 = 0 then 0 else 2) + (if sc (5 + c) 7 = 0 then 0 else 4)) (v' := (if sc (5 + c) 5 = 0 then 0 else 1) + (if sc (5 + c) 6 = 0 then 0 else 2) + (if sc (5 + c) 7 = 0 then 0 else 4)) ?_ ?_ rfl (Or.inl rfl) (fun _ => rfl)
        · rw [eC5]
          by_cases g5 : sc (5 + c) 5 = 0 <;> by_cases g6 : sc (5 + c) 6 = 0 <;> by_cases g7 : sc (5 + c) 7 = 0 <;> simp only [g5, g6, g7, if_true, if_false]
        · rw [eM]
          by_cases g5 : sc (5 + c) 5 = 0 <;> by_cases g6 : sc (5 + c) 6 = 0 <;> by_cases g7 : sc (5 + c) 7 = 0 <;> simp only [g5, g6, g7, if_true, if_false]
    · have ne : ∀ x : Nat, x ≤ 5 → ¬ (b = zi x) := fun x hx e => by
        subst e
        rcases hb with h | ⟨-, h⟩
        · exact zi_neg (show x < 2147483648 by omega) h
        · exact h ((zi_le (by omega) (by decide)).mpr hx)
      refine fin (code := 1) (x := 2) (v := 0) (v' := 0) ?_ ?_ rfl (Or.inr (Or.inr rfl)) (fun h => absurd h (by decide))
      · unfold zf_LG_car
        simp only [eC, Option.bind_some, if_true]
        rw [if_neg (show ¬ b = 0 from ne 0 (by omega)), if_neg (show ¬ b = 1 from ne 1 (by omega)), if_neg (show ¬ b = 2 from ne 2 (by omega)), if_neg (show ¬ b = 3 from ne 3 (by omega)), if_neg (show ¬ b = 4 from ne 4 (by omega)), if_neg (show ¬ b = 5 from ne 5 (by omega))]
      · unfold zf_Mo_car zf_Mo_car_20 zf_Mo_car_34
        have iF : zf_Mo_in N b 0 5 sr = some (0, sr) := m_in_no (N := N) hb sr
        simp only [iC', iF, Option.bind_some, x1, if_false, if_true, m_refuse]
  · refine fin (code := 4) (x := 1) (v := 0) (v' := 0) ?_ ?_ rfl (Or.inr (Or.inl rfl)) (fun h => absurd h (by decide))
    · unfold zf_LG_car
      simp only [c_car_no (N := N) s5.1 h1, Option.bind_some]
      rfl
    · unfold zf_Mo_car
      have iF : zf_Mo_in N a 0 (sr 40 2 - 1) sr = some (0, sr) := by
        rw [m_in, s5.2]
        by_cases h0 : a < 0
        · rw [if_pos h0]
        · rw [if_neg h0, if_pos (h2.resolve_left h0)]
      have : ∀ s0 : Int32, zf_Mo_car_34 N a b s0 1 sr = some (0, zp sr 40 0 1) := fun s0 => by
        unfold zf_Mo_car_34
        simp only [m_refuse, Option.bind_some, x1, if_false]
      unfold zf_Mo_car_20
      simp only [iF, Option.bind_some, if_true, m_in, this, ite_self]
theorem op_stop (hN : 1010 ≤ N) (a b : Int32) : zOp j (zf_LG_stop N a b) (zf_Mo_stop N a b) (fun x => x = 0 ∨ x = 4 ∨ x = 1) cv412 := by
  intro sc sr hI2
  obtain ⟨F, p, m, n, t, k, o, hI, ht, hk, ho⟩ := id hI2
  obtain ⟨⟨f2, f10, p1, p5, m1, m4, n24⟩, s2, s3, s4, s5, s6, s7⟩ := id hI.1
  have x1 : ¬ ((1 : Int32) = 0) := by decide
  have fin : ∀ {code : Nat} {v v' x : Int32}, zf_LG_stop N a b sc = some (code, v, sc) → zf_Mo_stop N a b sr = some (v', zp sr 40 0 x) → x = cv412 code → (code = 0 ∨ code = 4 ∨ code = 1) → (code = 0 → v = v') → _ := fun {code v v' x} h1 h2 h3 h4 h5 => zOp_no (fC := zf_LG_stop N a b) (fM := zf_Mo_stop N a b) (okc := fun x => x = 0 ∨ x = 4 ∨ x = 1) (cv := cv412) (j := j) hI2 h1 h2 h3 h4 h5
  rcases num_cases a m (by omega) with ⟨c, hc, rfl⟩ | ⟨h1, h2⟩
  · have eC := c_car_ok (N := N) m4 s5.1 hc
    have iC' : zf_Mo_in N (zi c) 0 (sr 40 2 - 1) sr = some (1, sr) := by
      obtain ⟨w1, w2, w3⟩ := num_in (show m < 1000 by omega) hc
      rw [m_in, s5.2, if_neg w1, if_neg w3]
    rcases num_cases b F (by omega) with ⟨f, hf, rfl⟩ | ⟨h1, h2⟩
    · have iF : zf_Mo_in N (zi f) 0 (sr 40 1 - 1) sr = some (1, sr) := by
        obtain ⟨w1, w2, w3⟩ := num_in (show F < 1000 by omega) hf
        rw [m_in, s2.2, if_neg w1, if_neg w3]
      have hM := zInv_rel (zInv_thr 0 hI) hc
      have st := m_stops (F := F) (p := p) (n := n) (c := c) (first := 0) ⟨f2, f10, p5, n24, by omega, by omega⟩ hM s3.1 (2 * f)
      have eS : zf_Ca_stopSet N (5 + c) sc = some (vSS (sc 1) (sc 2) (sc 3) F (sc (5 + c)), sc) := by
        have := c_stopSet (N := N) (a := 5 + c) (st := sc) (R := sc (5 + c)) (F := F) (by omega) (by omega) s2.1 f10
        rw [zr_self] at this
        exact this
      have eQ : mQ (zp sr 40 0 0) c 0 p n F (2 * f) = mStop (zp sr 40 0 0) c 0 p n f := by
        unfold mQ
        rw [show 2 * f % 2 = 0 by omega, show 2 * f / 2 = f by omega]
        simp [hf]
      rw [eQ] at st
      refine fin (code := 0) (x := 0) (v := if mStop (zp sr 40 0 0) c 0 p n f = true then 1 else 0) (v' := if mStop (zp sr 40 0 0) c 0 p n f = true then 1 else 0) ?_ ?_ rfl (Or.inl rfl) (fun _ => rfl)
      · unfold zf_LG_stop zf_LG_stop_46
        simp only [eC, Option.bind_some, if_true, c_isFloor_ok (N := N) s2.1 f10 hf, x1, if_false, eS]
        rw [show (2 : Int32) * zi f = zi (2 * f) from zi_mul 2 f]
        cases hb : mStop (zp sr 40 0 0) c 0 p n f with
        | true =>
          rw [hb] at st
          rw [if_neg (fun h => by rw [(zbit_test _ (by omega)).mp h] at st; cases st)]; rfl
        | false =>
          rw [hb] at st
          rw [if_pos ((zbit_test _ (by omega)).mpr st)]; rfl
      · unfold zf_Mo_stop zf_Mo_stop_20 zf_Mo_stop_39
        have := m_isStop (N := N) (c := c) (first := 0) (n := n) (p := p) (sr := zp sr 40 0 0) (f := f) (by omega) (by omega) (by rw [zp_o _ _ (by decide)]; exact s3.2) (by omega) (by rw [zp_o _ _ (by decide)]; exact s6.2) (by omega)
        have this' : zf_Mo_isStop N (zi c) (zi f) 0 (zp sr 40 0 0) = some (if mStop (zp sr 40 0 0) c 0 p n f = true then 1 else 0, zp sr 40 0 0) := this
        simp only [iC', iF, Option.bind_some, x1, if_false, m_refuse, if_true, this']
        cases mStop (zp sr 40 0 0) c 0 p n f <;> simp
    · refine fin (code := 1) (x := 2) (v := 0) (v' := 0) ?_ ?_ rfl (Or.inr (Or.inr rfl)) (fun h => absurd h (by decide))
      · unfold zf_LG_stop
        simp only [eC, Option.bind_some, if_true, c_isFloor_no (N := N) s2.1 h1]
      · unfold zf_Mo_stop zf_Mo_stop_20 zf_Mo_stop_39
        have iF : zf_Mo_in N b 0 (sr 40 1 - 1) sr = some (0, sr) := by
          rw [m_in, s2.2]
          by_cases h0 : b < 0
          · rw [if_pos h0]
          · rw [if_neg h0, if_pos (h2.resolve_left h0)]
        simp only [iC', iF, Option.bind_some, x1, if_false, if_true, m_refuse]
  · refine fin (code := 4) (x := 1) (v := 0) (v' := 0) ?_ ?_ rfl (Or.inr (Or.inl rfl)) (fun h => absurd h (by decide))
    · unfold zf_LG_stop
      simp only [c_car_no (N := N) s5.1 h1, Option.bind_some]
      rfl
    · unfold zf_Mo_stop
      have iF : zf_Mo_in N a 0 (sr 40 2 - 1) sr = some (0, sr) := by
        rw [m_in, s5.2]
        by_cases h0 : a < 0
        · rw [if_pos h0]
        · rw [if_neg h0, if_pos (h2.resolve_left h0)]
      have : ∀ s0 : Int32, zf_Mo_stop_39 N a b s0 1 sr = some (0, zp sr 40 0 1) := fun s0 => by
        unfold zf_Mo_stop_39
        simp only [m_refuse, Option.bind_some, x1, if_false]
      unfold zf_Mo_stop_20
      simp only [iF, Option.bind_some, if_true, m_in, this, ite_self]
end OH
