section OI
variable {N F p m n t k o c j : Nat} {T T' : Nat → Bool} {sc sr : zS}
def cv41 : Nat → Int32 := fun x => if x = 0 then 0 else 1
theorem rel_like {G St Go R R' : Nat → Int32} {first : Nat} (h : R' 0 = R 0 ∧ R' 1 = R 1 ∧ R' 2 = R 2 ∧ R' 3 = R 3 ∧ R' 4 = R 4 ∧ R' 7 = R 7 ∧ R' 8 = R 8 ∧ R' 9 = R 9) (hM : mRel G St Go R F p n c first sr) : mRel G St Go R' F p n c first sr := by
  obtain ⟨h0, h1, h2, h3, h4, h7, h8, h9⟩ := h
  unfold mRel at hM ⊢
  rw [h0, h1, h2, h3, h4, h7, h8, h9]
  exact hM
theorem ok_like {R R' : Nat → Int32} (h : R' 0 = R 0 ∧ R' 1 = R 1 ∧ R' 2 = R 2 ∧ R' 3 = R 3 ∧ R' 4 = R 4) (hM : rOK F o R) : rOK F o R' := by
  obtain ⟨h0, h1, h2, h3, h4⟩ := h
  unfold rOK at hM ⊢
  rw [h0, h1, h2, h3, h4]
  exact hM
theorem vLike_all (T0 R : Nat → Int32) : vLike T0 R 0 = R 0 ∧ vLike T0 R 1 = R 1 ∧ vLike T0 R 2 = R 2 ∧ vLike T0 R 3 = R 3 ∧ vLike T0 R 4 = R 4 ∧ vLike T0 R 7 = R 7 ∧ vLike T0 R 8 = R 8 ∧ vLike T0 R 9 = R 9 := by
  unfold vLike up
  simp
theorem op_worst (hN : 1010 ≤ N) (hj : j ≤ 600) (a : Int32) : zOp j (zf_LG_worst N a) (zf_Mo_worst N a) (fun x => x = 0 ∨ x = 4) cv41 := by
  intro sc sr hI2
  obtain ⟨F, p, m, n, t, k, o, hI, ht, hk, ho⟩ := id hI2
  obtain ⟨⟨f2, f10, p1, p5, m1, m4, n24⟩, s2, s3, s4, s5, s6, s7⟩ := id hI.1
  rcases num_cases a m (by omega) with ⟨c, hc, rfl⟩ | ⟨h1, h2⟩
  · obtain ⟨⟨d0, d1, d2, d3, d4, d5, d6, d7⟩, ⟨b5, b6, b7⟩, dk, d8, d9, du⟩ := id (hI.2.2.2.1 c hc)
    obtain ⟨R', e1⟩ := c_worstWith (N := N) (F := F) (p := p) (st := sc) (a := 5 + c) (o := o) (x := 0) (by omega) (by omega) hN s2.1 f2 f10 s3.1 (by omega) dk b7
    have v := vLike_all (sc 9) (sc (5 + c))
    have o0 : sc (5 + c) 9 ||| 0 = sc (5 + c) 9 := by apply zbit_ext; intro r _; rw [zbit_or, zbit_zero]; simp
    have lk : ∀ i, i ≠ 9 → up (vLike (sc 9) (sc (5 + c))) 9 (sc (5 + c) 9 ||| 0) i = vLike (sc 9) (sc (5 + c)) i := fun i h => up_o _ _ h
    have l9 : up (vLike (sc 9) (sc (5 + c))) 9 (sc (5 + c) 9 ||| 0) 9 = sc (5 + c) 9 := by rw [up_s, o0]
    have hM := rel_like (R' := up (vLike (sc 9) (sc (5 + c))) 9 (sc (5 + c) 9 ||| 0)) ⟨by rw [lk 0 (by decide)]; exact v.1, by rw [lk 1 (by decide)]; exact v.2.1, by rw [lk 2 (by decide)]; exact v.2.2.1, by rw [lk 3 (by decide)]; exact v.2.2.2.1, by rw [lk 4 (by decide)]; exact v.2.2.2.2.1, by rw [lk 7 (by decide)]; exact v.2.2.2.2.2.1, by rw [lk 8 (by decide)]; exact v.2.2.2.2.2.2.1, l9⟩ (zInv_rel (zInv_thr 0 hI) hc)
    have hK := ok_like (R' := up (vLike (sc 9) (sc (5 + c))) 9 (sc (5 + c) 9 ||| 0)) ⟨by rw [lk 0 (by decide)]; exact v.1, by rw [lk 1 (by decide)]; exact v.2.1, by rw [lk 2 (by decide)]; exact v.2.2.1, by rw [lk 3 (by decide)]; exact v.2.2.2.1, by rw [lk 4 (by decide)]; exact v.2.2.2.2.1⟩ dk
    obtain ⟨s', e2, e3⟩ := m_worstOf (N := N) hN f2 f10 p5 n24 s3.1 (show c < 4 by omega) (show o < 900000000 by omega) hK hM (by rw [zp_q _ _ (by decide), ← d7]; exact b7)
    rw [zp_q _ _ (by decide), ← d6] at e2
    refine zOp_q (fC := zf_LG_worst N (zi c)) (fM := zf_Mo_worst N (zi c)) (okc := fun x => x = 0 ∨ x = 4) (cv := cv41) (v := zi (wC (sc 1) (sc 2) (sc 3) F p (sc (5 + c) 6) (up (vLike (sc 9) (sc (5 + c))) 9 (sc (5 + c) 9 ||| 0)))) (v' := zi (wC (sc 1) (sc 2) (sc 3) F p (sc (5 + c) 6) (up (vLike (sc 9) (sc (5 + c))) 9 (sc (5 + c) 9 ||| 0)))) (sc' := zr sc 9 R') (sr' := s') (x := 0) hI2 ?_ ?_ (fun q h => zr_ne _ _ h) e3 rfl (Or.inl rfl) (fun _ => rfl)
    · unfold zf_LG_worst
      simp only [c_car_ok (N := N) m4 s5.1 hc, Option.bind_some, if_true, e1]
    · unfold zf_Mo_worst
      simp only [m_noCar_ok (N := N) m4 s5.2 hc, Option.bind_some, if_true, e2]
  · refine zOp_no (fC := zf_LG_worst N a) (fM := zf_Mo_worst N a) (okc := fun x => x = 0 ∨ x = 4) (cv := cv41) hI2 (code := 4) (v := 0) (v' := 0) (x := 1) ?_ ?_ rfl (Or.inr rfl) (fun h => absurd h (by decide))
    · unfold zf_LG_worst
      simp only [c_car_no (N := N) s5.1 h1, Option.bind_some]
      rfl
    · unfold zf_Mo_worst
      simp only [m_noCar_no (N := N) s5.2 h2, Option.bind_some]
      rfl
theorem c_rid_ok {r : Nat} (hn : n ≤ 24) (h6 : sc 0 6 = zi n) (hr : r < n) : zf_LG_riderNumbered N (zi r) sc = some (0, 11 + r, sc) := by
  unfold zf_LG_riderNumbered zf_LG_riderNumbered_12
  obtain ⟨h1, h2, -⟩ := num_in (show n < 1000 by omega) hr
  have i4 : ¬ (zi r < 0 ∨ 24 ≤ r) := zi_inn (by omega) (by decide)
  rw [if_neg h1, h6, if_pos h2, zi_nat (by omega), if_neg i4]
theorem c_rid_no {a : Int32} (h6 : sc 0 6 = zi n) (h : a < 0 ∨ ¬ a < zi n) : zf_LG_riderNumbered N a sc = some (4, 0, sc) := by
  unfold zf_LG_riderNumbered zf_LG_riderNumbered_12
  rw [h6]
  by_cases h0 : a < 0
  · rw [if_pos h0]
  · rw [if_neg h0, if_neg (h.resolve_left h0)]
theorem c_ended {a : Nat} {s : zS} : zf_Ri_ended N a s = some (if s a 2 = 2 ∨ s a 2 = 3 then 1 else 0, s) := by
  unfold zf_Ri_ended zf_Ri_ended_16 zf_Ri_ended_21
  by_cases h1 : s a 2 = 2
  · simp [h1]
  · by_cases h2 : s a 2 = 3 <;> simp [h1, h2]
theorem op_rider (hN : 1010 ≤ N) (a b : Int32) : zOp j (zf_LG_rider N a b) (zf_Mo_rider N a b) (fun x => x = 0 ∨ x = 4 ∨ x = 1) cv412 := by
  intro sc sr hI2
  obtain ⟨F, p, m, n, t, k, o, hI, ht, hk, ho⟩ := id hI2
  obtain ⟨⟨f2, f10, p1, p5, m1, m4, n24⟩, s2, s3, s4, s5, s6, s7⟩ := id hI.1
  have x1 : ¬ ((1 : Int32) = 0) := by decide
  have fin : ∀ {code : Nat} {v v' x : Int32}, zf_LG_rider N a b sc = some (code, v, sc) → zf_Mo_rider N a b sr = some (v', zp sr 40 0 x) → x = cv412 code → (code = 0 ∨ code = 4 ∨ code = 1) → (code = 0 → v = v') → _ := fun {code v v' x} h1 h2 h3 h4 h5 => zOp_no (fC := zf_LG_rider N a b) (fM := zf_Mo_rider N a b) (okc := fun x => x = 0 ∨ x = 4 ∨ x = 1) (cv := cv412) (j := j) hI2 h1 h2 h3 h4 h5
  rcases num_cases a n (by omega) with ⟨r, hr, rfl⟩ | ⟨h1, h2⟩
  · obtain ⟨⟨d0, d1, d2, d3, d4, d5⟩, g49, g50⟩ := id (hI.2.1 r hr)
    have i48 : ¬ (zi r < 0 ∨ 48 ≤ r) := zi_inn (by omega) (by decide)
    have i24 : ¬ (zi r < 0 ∨ 24 ≤ r) := zi_inn (by omega) (by decide)
    have eC := c_rid_ok (N := N) n24 s6.1 hr
    have iC' : zf_Mo_in N (zi r) 0 (sr 40 19 - 1) sr = some (1, sr) := by
      obtain ⟨w1, w2, w3⟩ := num_in (show n < 1000 by omega) hr
      rw [m_in, s6.2, if_neg w1, if_neg w3]
    have r41 : ∀ q i, q ≠ 40 → zp sr 40 0 0 q i = sr q i := fun q i h => zp_q _ _ h
    rcases zin b 0 4 (by decide) (by decide) with ⟨x, x0, x5, rfl⟩ | hb
    · have iF : zf_Mo_in N (zi x) 0 4 sr = some (1, sr) := m_in_ok (lo := 0) (hi := 4) (by decide) (by decide) x0 x5 sr
      have eM : zf_Mo_rider N (zi r) (zi x) sr = zf_Mo_rider_34 N (zi r) (zi x) 0 0 sr := by
        unfold zf_Mo_rider zf_Mo_rider_20
        simp only [iC', iF, Option.bind_some, x1, if_false]
      have : x = 0 ∨ x = 1 ∨ x = 2 ∨ x = 3 ∨ x = 4 := by omega
      unfold zf_Mo_rider_34 zf_Mo_rider_130 at eM
      have z20 : zp sr 40 0 0 40 20 = zi t := by rw [zp_o _ _ (by decide)]; exact s7.2
      simp only [m_refuse, Option.bind_some, if_true, zi_nat (show r < 2147483648 by omega), i48, i24, if_false, r41 49 r (by decide), r41 50 r (by decide), r41 51 r (by decide), r41 52 r (by decide), r41 53 r (by decide), r41 54 r (by decide), z20] at eM
      have eC' : ∀ b, zf_LG_rider N (zi r) b sc = (if b = 0 then some ((0 : Nat), (sc (11 + r) 2), sc) else (if b = 1 then some (0, (sc (11 + r) 3), sc) else (if b = 2 then some (0, (sc (11 + r) 0), sc) else (if b = 3 then some (0, (sc (11 + r) 1), sc) else (if b = 4 then (if (if sc (11 + r) 2 = 2 ∨ sc (11 + r) 2 = 3 then (1 : Int32) else 0) = 0 then some (0, sc 0 8 - sc (11 + r) 4, sc) else some (0, sc (11 + r) 5, sc)) else some (1, 0, sc)))))) := fun b => by
        unfold zf_LG_rider zf_LG_rider_83
        simp only [eC, Option.bind_some, if_true, c_ended]
      rcases this with rfl | rfl | rfl | rfl | rfl
      · exact fin (code := 0) (x := 0) ((eC' _).trans (if_pos rfl)) (eM.trans (if_pos rfl)) rfl (Or.inl rfl) (fun _ => d2)
      · exact fin (code := 0) (x := 0) (by rw [eC', if_neg (by decide), if_pos (by decide)]) (by rw [eM, if_neg (by decide), if_pos (by decide)]) rfl (Or.inl rfl) (fun _ => d3)
      · exact fin (code := 0) (x := 0) (by rw [eC', if_neg (by decide), if_neg (by decide), if_pos (by decide)]) (by rw [eM, if_neg (by decide), if_neg (by decide), if_pos (by decide)]) rfl (Or.inl rfl) (fun _ => d0)
      · exact fin (code := 0) (x := 0) (by rw [eC', if_neg (by decide), if_neg (by decide), if_neg (by decide), if_pos (by decide)]) (by rw [eM, if_neg (by decide), if_neg (by decide), if_neg (by decide), if_pos (by decide)]) rfl (Or.inl rfl) (fun _ => d1)
      · have eC4 := eC' (zi 4)
        rw [if_neg (by decide), if_neg (by decide), if_neg (by decide), if_neg (by decide), if_pos (by decide)] at eC4
        rw [if_neg (by decide), if_neg (by decide), if_neg (by decide), if_neg (by decide)] at eM
        rw [d2, s7.1, d4, d5] at eC4
        refine fin (code := 0) (x := 0) (v := if (2 : Int32) ≤ sr 49 r then sr 54 r else zi t - sr 53 r) (v' := if (2 : Int32) ≤ sr 49 r then sr 54 r else zi t - sr 53 r) ?_ ?_ rfl (Or.inl rfl) (fun _ => rfl)
        · rw [eC4]
          rcases g49 with h | h | h | h <;> rw [h] <;> rfl
        · rw [eM]
          rcases g49 with h | h | h | h <;> rw [h] <;> rfl
    · have ne : ∀ x : Nat, x ≤ 4 → ¬ (b = zi x) := fun x hx e => by
        subst e
        rcases hb with h | ⟨-, h⟩
        · exact zi_neg (show x < 2147483648 by omega) h
        · exact h ((zi_le (by omega) (by decide)).mpr hx)
      refine fin (code := 1) (x := 2) (v := 0) (v' := 0) ?_ ?_ rfl (Or.inr (Or.inr rfl)) (fun h => absurd h (by decide))
      · unfold zf_LG_rider
        simp only [eC, Option.bind_some, if_true]
        rw [if_neg (show ¬ b = 0 from ne 0 (by omega)), if_neg (show ¬ b = 1 from ne 1 (by omega)), if_neg (show ¬ b = 2 from ne 2 (by omega)), if_neg (show ¬ b = 3 from ne 3 (by omega)), if_neg (show ¬ b = 4 from ne 4 (by omega))]
      · unfold zf_Mo_rider zf_Mo_rider_20 zf_Mo_rider_34
        have iF : zf_Mo_in N b 0 4 sr = some (0, sr) := m_in_no (N := N) hb sr
        simp only [iC', iF, Option.bind_some, x1, if_false, if_true, m_refuse]
  · refine fin (code := 4) (x := 1) (v := 0) (v' := 0) ?_ ?_ rfl (Or.inr (Or.inl rfl)) (fun h => absurd h (by decide))
    · unfold zf_LG_rider
      simp only [c_rid_no (N := N) s6.1 h1, Option.bind_some]
      rfl
    · unfold zf_Mo_rider
      have iF : zf_Mo_in N a 0 (sr 40 19 - 1) sr = some (0, sr) := by
        rw [m_in, s6.2]
        by_cases h0 : a < 0
        · rw [if_pos h0]
        · rw [if_neg h0, if_pos (h2.resolve_left h0)]
      have : ∀ s0 : Int32, zf_Mo_rider_34 N a b s0 1 sr = some (0, zp sr 40 0 1) := fun s0 => by
        unfold zf_Mo_rider_34
        simp only [m_refuse, Option.bind_some, x1, if_false]
      unfold zf_Mo_rider_20
      simp only [iF, Option.bind_some, if_true, m_in, this, ite_self]
theorem c_promL {st : zS} {r : Nat} (hr : r < 24) (hN : 30 ≤ N) (hF : st 1 2 = zi F) (hF2 : 2 ≤ F) (hF10 : F ≤ 10) (hp : st 1 3 = zi p) (hp9 : p < 100000) :
    ∀ (k n f o : Nat) (R : Nat → Int32), n + k = 1001 → 0 < n → k < f → rOK F o R → vDis R → ∃ R', zf_LG_promise_61 N f (1 <<< (zi r &&& 31)) (zi n) (zr st 9 R) = some (0, (if pN (st 1) (st 2) (st 3) F p r k n R = 0 then -1 else zi (pN (st 1) (st 2) (st 3) F p r k n R)), zr st 9 R') := by
  intro k
  induction k with
  | zero =>
    intro n f o R hn h0 hf hR hD
    obtain ⟨f, rfl⟩ : ∃ f', f = f' + 1 := ⟨f - 1, by omega⟩
    have : n = 1001 := by omega
    subst this
    refine ⟨R, ?_⟩
    show zb_LG_promise_61 N _ _ _ _ = _
    unfold zb_LG_promise_61
    rw [if_pos (by decide)]
    rfl
  | succ k ih =>
    intro n f o R hn h0 hf hR hD
    obtain ⟨f, rfl⟩ : ∃ f', f = f' + 1 := ⟨f - 1, by omega⟩
    have hg := vA_go (G := st 1) (St := st 2) (Go := st 3) (F := F) (p := p) R
    have adv := c_vA (N := N) (st := st) (a := 9) (o := o) (R := R) (by omega) hN hF hF10 hp hp9 hR
    have g1000 : ¬ ((1000 : Int32) < zi n) := fun h => by have := (zi_lt (a := 1000) (by decide) (by omega)).mp h; omega
    have e : zf_LG_promise_61 N (f + 1) (1 <<< (zi r &&& 31)) (zi n) (zr st 9 R) = (if (vA (st 1) (st 2) (st 3) F p R 10 &&& (1 <<< (zi r &&& 31))) = 0 then (if (vA (st 1) (st 2) (st 3) F p R 11 &&& (1 <<< (zi r &&& 31))) = 0 then zf_LG_promise_61 N f (1 <<< (zi r &&& 31)) (zi (n + 1)) (zr st 9 (vA (st 1) (st 2) (st 3) F p R)) else some (0, (-1), zr st 9 (vA (st 1) (st 2) (st 3) F p R))) else some (0, zi n, zr st 9 (vA (st 1) (st 2) (st 3) F p R))) := by
      show zb_LG_promise_61 N _ _ _ _ = _
      unfold zb_LG_promise_61
      rw [if_neg g1000, adv]
      simp only [Option.bind_some, zr_at, zi_succ]
    rw [e, pN_succ]
    cases h10 : zbit (vA (st 1) (st 2) (st 3) F p R 10) r with
    | true =>
      rw [if_neg (fun h => by rw [(zbit_test _ (by omega)).mp h] at h10; cases h10), if_pos rfl, if_neg (by omega)]
      exact ⟨_, rfl⟩
    | false =>
      rw [if_pos ((zbit_test _ (by omega)).mpr h10), if_neg (show ¬ (false = true) by decide)]
      cases h11 : zbit (vA (st 1) (st 2) (st 3) F p R 11) r with
      | true =>
        rw [if_neg (fun h => by rw [(zbit_test _ (by omega)).mp h] at h11; cases h11)]
        obtain ⟨g8, g9, g10, g11, g12⟩ := hg r (by omega)
        have a8 := (g11 h11).1
        have n9 : zbit (R 9) r = false := by
          cases h : zbit (R 9) r with
          | false => rfl
          | true => exact (hD r (by omega) a8 h).elim
        have n12 : zbit (vA (st 1) (st 2) (st 3) F p R 12) r = false := by
          cases h : zbit (vA (st 1) (st 2) (st 3) F p R 12) r with
          | false => rfl
          | true => rw [g12 h] at n9; cases n9
        have hout : vIn (vA (st 1) (st 2) (st 3) F p R) r = false := by
          unfold vIn
          rw [g8, g9, n12, h11, n9]
          simp
        rw [pN_out (by omega) _ _ _ hout, if_pos rfl]
        exact ⟨_, rfl⟩
      | false =>
        rw [if_pos ((zbit_test _ (by omega)).mpr h11)]
        exact ih (n + 1) f (o + 1) _ (by omega) (by omega) (by omega) (vA_ok hF2 hF10 hR) (vDis_go hg hD)
theorem m_isRider {r : Nat} {s : zS} (hr : r < 24) : zf_Mo_isRider N (zi r) s = some (if s 50 r < 0 then 0 else if s 49 r = 0 ∨ s 49 r = 1 then 1 else 0, s) := by
  unfold zf_Mo_isRider zf_Mo_isRider_32 zf_Mo_isRider_28 zf_Mo_isRider_33
  have i48 : ¬ (zi r < 0 ∨ 48 ≤ r) := zi_inn (by omega) (by decide)
  simp only [zi_nat (show r < 2147483648 by omega), i48, if_false]
  by_cases h : s 50 r < 0
  · simp [h]
  · by_cases h0 : s 49 r = 0
    · simp [h, h0]
    · by_cases h1 : s 49 r = 1 <;> simp [h, h0, h1]
theorem op_promise (hN : 1010 ≤ N) (hj : j ≤ 600) (a : Int32) : zOp j (zf_LG_promise N a) (zf_Mo_promise N a) (fun x => x = 0 ∨ x = 4) cv41 := by
  intro sc sr hI2
  obtain ⟨F, p, m, n, t, k, o, hI, ht, hk, ho⟩ := id hI2
  obtain ⟨⟨f2, f10, p1, p5, m1, m4, n24⟩, s2, s3, s4, s5, s6, s7⟩ := id hI.1
  have x1 : ¬ ((1 : Int32) = 0) := by decide
  rcases num_cases a n (by omega) with ⟨r, hr, rfl⟩ | ⟨h1, h2⟩
  · obtain ⟨⟨d0, d1, d2, d3, d4, d5⟩, g49, g50⟩ := id (hI.2.1 r hr)
    have eC := c_rid_ok (N := N) n24 s6.1 hr
    have iC' : zf_Mo_in N (zi r) 0 (sr 40 19 - 1) sr = some (1, sr) := by
      obtain ⟨w1, w2, w3⟩ := num_in (show n < 1000 by omega) hr
      rw [m_in, s6.2, if_neg w1, if_neg w3]
    have z49 : zp sr 40 0 0 49 r = sr 49 r := zp_q _ _ (by decide)
    have z50 : zp sr 40 0 0 50 r = sr 50 r := zp_q _ _ (by decide)
    have eM : zf_Mo_promise N (zi r) sr = (if (if sr 50 r < 0 then (0 : Int32) else if sr 49 r = 0 ∨ sr 49 r = 1 then 1 else 0) = 0 then some (-1, zp sr 40 0 0) else zf_Mo_promiseOf N (zi r) (zp sr 40 0 0)) := by
      unfold zf_Mo_promise zf_Mo_promise_20 zf_Mo_promise_46
      simp only [iC', Option.bind_some, x1, if_false, m_refuse, if_true, m_isRider (N := N) (show r < 24 by omega), z49, z50]
      by_cases h : (if sr 50 r < 0 then (0 : Int32) else if sr 49 r = 0 ∨ sr 49 r = 1 then 1 else 0) = 0
      · rw [if_pos h, if_pos h]
      · rw [if_neg h, if_neg h]
        cases zf_Mo_promiseOf N (zi r) (zp sr 40 0 0) <;> rfl
    have eC0 : zf_LG_promise N (zi r) sc = (if (if sr 49 r = 2 ∨ sr 49 r = 3 then (1 : Int32) else 0) = 0 then (if sr 50 r = (-1) then some (0, -1, sc) else (if sr 50 r < 0 ∨ 4 ≤ (sr 50 r).toNatClampNeg then none else (if (sc (5 + (sr 50 r).toNatClampNeg) 6) = 0 then ((zf_Ca_becomeLike N 9 (5 + (sr 50 r).toNatClampNeg) sc).bind fun t51 => zf_LG_promise_61 N N (1 <<< (zi r &&& 31)) 1 t51) else some (0, -1, sc)))) else some (0, -1, sc)) := by
      unfold zf_LG_promise zf_LG_promise_36
      simp only [eC, Option.bind_some, if_true, c_ended, d2, d3]
      by_cases hq : sr 50 r < 0 ∨ 4 ≤ (sr 50 r).toNatClampNeg
      · simp only [hq, if_true]
      · simp only [hq, if_false]
    have none1 : zf_LG_promise N (zi r) sc = some (0, -1, sc) → zf_Mo_promise N (zi r) sr = some (-1, zp sr 40 0 0) → _ := fun e1 e2 => zOp_no (fC := zf_LG_promise N (zi r)) (fM := zf_Mo_promise N (zi r)) (okc := fun x => x = 0 ∨ x = 4) (cv := cv41) (j := j) hI2 (code := 0) (v := -1) (v' := -1) (x := 0) e1 e2 rfl (Or.inl rfl) (fun _ => rfl)
    by_cases hend : sr 49 r = 2 ∨ sr 49 r = 3
    · refine none1 ?_ ?_
      · rw [eC0, if_pos hend, if_neg x1]
      · have : ¬ (sr 49 r = 0 ∨ sr 49 r = 1) := by rcases hend with h | h <;> rw [h] <;> decide
        rw [eM, if_neg this, ite_self, if_pos rfl]
    · have h01 : sr 49 r = 0 ∨ sr 49 r = 1 := by
        rcases g49 with h | h | h | h
        · exact Or.inl h
        · exact Or.inr h
        · exact absurd (Or.inl h) hend
        · exact absurd (Or.inr h) hend
      rcases g50 with h5 | ⟨c, hc, h5⟩
      · refine none1 ?_ ?_
        · rw [eC0, if_neg hend, if_pos rfl, if_pos h5]
        · rw [eM, h5, if_pos (show (-1 : Int32) < 0 by decide), if_pos rfl]
      · obtain ⟨⟨e0, e1, e2, e3, e4, e5, e6, e7⟩, ⟨b5, b6, b7⟩, dk, d8, d9, du⟩ := id (hI.2.2.2.1 c hc)
        have i4 : ¬ (zi c < 0 ∨ 4 ≤ c) := zi_inn (by omega) (by decide)
        have nm1 : ¬ (zi c = -1) := fun h => zi_m1 (c := c) (by omega) h.symm
        rw [if_neg hend, if_pos rfl, h5, if_neg nm1, zi_nat (by omega), if_neg i4] at eC0
        rw [h5, if_neg (zi_neg (by omega)), if_pos h01, if_neg x1] at eM
        have v := vLike_all (sc 9) (sc (5 + c))
        have hM := rel_like (R' := vLike (sc 9) (sc (5 + c))) v (zInv_rel (zInv_thr 0 hI) hc)
        have hK := ok_like (R' := vLike (sc 9) (sc (5 + c))) ⟨v.1, v.2.1, v.2.2.1, v.2.2.2.1, v.2.2.2.2.1⟩ dk
        obtain ⟨s', m1', m2'⟩ := m_promiseOf (N := N) (r := r) (c := c) (s := zp sr 40 0 0) hN f2 f10 p5 n24 hr s3.1 (by omega) (by rw [zp_q _ _ (by decide), ← e7]; exact b7) (show o < 900000000 by omega) hK hM (by rw [zp_q _ _ (by decide)]; exact h5) (by rw [zp_q _ _ (by decide)]; exact fun h => hend (Or.inl h))
        rw [zp_q _ _ (by decide), ← e6] at m1'
        by_cases h6 : sc (5 + c) 6 = 0
        · obtain ⟨R', c1⟩ := c_promL (N := N) (F := F) (p := p) (st := sc) (r := r) (by omega) (by omega) s2.1 f2 f10 s3.1 (by omega) 1000 1 N o (vLike (sc 9) (sc (5 + c))) (by omega) (by omega) (by omega) hK (mRel_dis n24 hM)
          rw [if_pos h6, c_becomeLike (by omega) b7] at eC0
          have c1' : zf_LG_promise N (zi r) sc = _ := eC0.trans c1
          unfold pM at m1'
          rw [if_pos h6] at m1'
          exact zOp_q (fC := zf_LG_promise N (zi r)) (fM := zf_Mo_promise N (zi r)) (okc := fun x => x = 0 ∨ x = 4) (cv := cv41) (j := j) (sc' := zr sc 9 R') (sr' := s') (x := 0) hI2 c1' (eM.trans m1') (fun q h => zr_ne _ _ h) m2' rfl (Or.inl rfl) (fun _ => rfl)
        · rw [if_neg h6] at eC0
          unfold pM at m1'
          rw [if_neg h6, if_pos rfl] at m1'
          exact zOp_q (fC := zf_LG_promise N (zi r)) (fM := zf_Mo_promise N (zi r)) (okc := fun x => x = 0 ∨ x = 4) (cv := cv41) (j := j) (sc' := sc) (sr' := s') (x := 0) hI2 eC0 (eM.trans m1') (fun q h => rfl) m2' rfl (Or.inl rfl) (fun _ => rfl)
  · refine zOp_no (fC := zf_LG_promise N a) (fM := zf_Mo_promise N a) (okc := fun x => x = 0 ∨ x = 4) (cv := cv41) hI2 (code := 4) (v := 0) (v' := 0) (x := 1) ?_ ?_ rfl (Or.inr rfl) (fun h => absurd h (by decide))
    · unfold zf_LG_promise
      simp only [c_rid_no (N := N) s6.1 h1, Option.bind_some]
      rfl
    · unfold zf_Mo_promise zf_Mo_promise_20
      have iF : zf_Mo_in N a 0 (sr 40 19 - 1) sr = some (0, sr) := by
        rw [m_in, s6.2]
        by_cases h0 : a < 0
        · rw [if_pos h0]
        · rw [if_neg h0, if_pos (h2.resolve_left h0)]
      simp only [iF, Option.bind_some, if_true, m_refuse, x1, if_false]
end OI
