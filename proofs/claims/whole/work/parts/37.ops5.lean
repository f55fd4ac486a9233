section OE
variable {N F p m n t k o c j : Nat} {T T' : Nat → Bool} {sc sr : zS}
def gC (N i c : Nat) (v : Int32) (sc : zS) : Option zS := if sc (5 + c) i = v then some sc else if v = 0 then (zf_LG_takeWaitingForNoneIfUsable N (5 + c) (zp sc (5 + c) i v)).bind fun y => zf_LG_chooseForAll N y.1 y.2 else (zf_LG_takeWaitingFor N (5 + c) (zp sc (5 + c) i v)).bind fun y => zf_LG_chooseForAll N y.1 y.2
def gM (N i c : Nat) (v : Int32) (sr : zS) : Option zS := (zf_Mo_isUsable N (zi c) sr).bind fun y10 => zf_Mo_changed N (zi c) y10.1 (zp y10.2 (41 + i) c v)
theorem m_us (hc : c < 5) (s : zS) : zf_Mo_isUsable N (zi c) s = some (if uM s c = true then 1 else 0, s) := by
  rw [m_isUsable hc]
  unfold uM
  simp only [decide_eq_true_eq]
theorem gU_iff (hI : zInv F p m n t k o T sc sr) (hc : c < m) : uM sr c = true ↔ iU sc c := by
  obtain ⟨⟨d0, d1, d2, d3, d4, d5, d6, d7⟩, -⟩ := hI.2.2.2.1 c hc
  unfold uM iU
  rw [d5, d6, hI.1.2.2.2.1.1, decide_eq_true_eq]
theorem fl_op {i : Nat} {v : Int32} (hi : i = 5 ∨ i = 6) (hv : v = 0 ∨ v = 1) (hc : c < m) (hN : 1010 ≤ N) (ho : o < 900000000) (hk : k < 1800000000) (hI : zInv F p m n t k o (fun _ => false) sc sr) :
    ∃ sc' sr' k', gC N i c v sc = some sc' ∧ gM N i c v sr = some sr' ∧ k' ≤ k + 24 ∧ zInv F p m n t k' o (fun _ => false) sc' sr' ∧ hiF sc sc' ∧ loF sr sr' := by
  obtain ⟨⟨f2, f10, p1, p5, m1, m4, n24⟩, s2, s3, s4, s5, s6, s7⟩ := id hI.1
  obtain ⟨⟨d0, d1, d2, d3, d4, d5, d6, d7⟩, ⟨b5, b6, b7⟩, dk, d8, d9, du⟩ := id (hI.2.2.2.1 c hc)
  have x1 : ¬ ((1 : Int32) = 0) := by decide
  have hi' : i = 5 ∨ i = 6 ∨ i = 7 := by omega
  have fi : sc (5 + c) i = sr (41 + i) c ∧ (sc (5 + c) i = 0 ∨ sc (5 + c) i = 1) := by
    rcases hi with rfl | rfl
    · exact ⟨d5, b5⟩
    · exact ⟨d6, b6⟩
  have nU : sc (5 + c) i = 1 → ¬ iU sc c := fun h hu => by
    rcases hi with rfl | rfl
    · rw [hu.1] at h; cases h
    · rw [hu.2.1] at h; cases h
  have eM : gM N i c v sr = zf_Mo_changed N (zi c) (if uM sr c = true then 1 else 0) (zp sr (41 + i) c v) := by
    unfold gM; rw [m_us (by omega)]; rfl
  have lo : loF sr (zp sr (41 + i) c v) := loF_zp (by omega) (by omega) (Or.inl (by omega))
  by_cases hs : sc (5 + c) i = v
  · -- nothing changes
    refine ⟨sc, sr, k, by unfold gC; rw [if_pos hs], ?_, by omega, hI, hiF.refl _, loF.refl _⟩
    have e : zp sr (41 + i) c v = sr := by rw [← hs, fi.1, zp_id]
    rw [eM, e]
    unfold zf_Mo_changed zf_Mo_changed_20 zf_Mo_changed_37
    by_cases hu : uM sr c = true
    · simp only [m_us (N := N) (show c < 5 by omega), Bool.false_eq_true, hu, if_true, x1, if_false, Option.bind_some]
    · simp only [m_us (N := N) (show c < 5 by omega), Bool.false_eq_true, hu, if_true, if_false, Option.bind_some]
  · rcases hv with rfl | rfl
    · -- off
      have h1 : sc (5 + c) i = 1 := fi.2.resolve_left hs
      have hu0 : ¬ iU sc c := nU h1
      have h9 : sc (5 + c) 9 = 0 := du.resolve_left hu0
      have hg0 : ¬ uM sr c = true := fun h => hu0 ((gU_iff hI hc).mp h)
      have hI' := zInv_flag0 (i := i) (v := 0) hi' (Or.inl rfl) hc hI (Or.inr h9)
      rw [if_neg hg0] at eM
      have eC : gC N i c 0 sc = (zf_LG_takeWaitingForNoneIfUsable N (5 + c) (zp sc (5 + c) i 0)).bind fun y => zf_LG_chooseForAll N y.1 y.2 := by
        unfold gC; rw [if_neg hs, if_pos rfl]
      unfold zf_LG_takeWaitingForNoneIfUsable zf_LG_takeWaitingForNone zf_LG_takeWaitingForNoneIfUsable_16 at eC
      unfold zf_Mo_changed zf_Mo_changed_20 zf_Mo_changed_37 at eM
      simp only [c_isUsable, Option.bind_some] at eC
      by_cases hu : iU (zp sc (5 + c) i 0) c
      · have hg : uM (zp sr (41 + i) c 0) c = true := (gU_iff hI' hc).mpr hu
        obtain ⟨sc', sr', k', c1, c2, c3, c4, c5, c6⟩ := ch_none (N := N) hN ho hk hI'
        refine ⟨sc', sr', k', ?_, ?_, c3, c4, (hiF_zp (by omega)).trans c5, lo.trans c6⟩
        · rw [eC, if_pos hu]
          simp only [x1, if_false, Option.bind_some]
          exact c1
        · rw [eM]
          simp only [m_us (N := N) (show c < 5 by omega), Bool.false_eq_true, hg, if_true, x1, if_false, Option.bind_some, c2]
      · have hg : ¬ uM (zp sr (41 + i) c 0) c = true := fun h => hu ((gU_iff hI' hc).mp h)
        refine ⟨_, _, k, ?_, ?_, by omega, hI', hiF_zp (by omega), lo⟩
        · rw [eC, if_neg hu]
          simp only [if_true, Option.bind_some]
          exact c_all0 (N := N) n24 hI'.1.2.2.2.2.2.1.1 n 0 N (by omega) (by omega)
        · rw [eM]
          simp only [m_us (N := N) (show c < 5 by omega), Bool.false_eq_true, hg, if_true, x1, if_false, Option.bind_some]
    · -- on
      have h0 : sc (5 + c) i = 0 := fi.2.resolve_right hs
      have nu : ¬ iU (zp sc (5 + c) i 1) c := fun h => by
        have e : zp sc (5 + c) i 1 (5 + c) i = 1 := zp_s _ _ _ _
        rcases hi with rfl | rfl
        · rw [h.1] at e; cases e
        · rw [h.2.1] at e; cases e
      have hb : ∀ r, zbit (sc (5 + c) 9) r = true → r < n ∧ sr 49 r = 0 ∧ sr 50 r = zi c := fun r h => by
        rw [d9 r] at h
        unfold mW at h
        simp only [Bool.and_eq_true, decide_eq_true_eq, Nat.zero_add] at h
        exact ⟨h.1.1, h.1.2.1, h.1.2.2⟩
      have hI' := zInv_flag (T' := zbit (sc (5 + c) 9)) (w := 0) (i := i) (v := 1) hi' (Or.inr rfl) hc hI (fun r => by
        rw [zbit_zero, d9]
        cases h : (decide (r < n) && mW sr c 0 r) <;> simp) (Or.inr rfl) (fun r h => ⟨(hb r h).1, (hb r h).2.1, (hb r h).2.2, nu⟩)
      have eC : gC N i c 1 sc = zf_LG_chooseForAll N (sc (5 + c) 9) (zp (zp sc (5 + c) i 1) (5 + c) 9 0) := by
        unfold gC zf_LG_takeWaitingFor; rw [if_neg hs, if_neg x1]
        simp only [Option.bind_some]
        rw [zp_o _ _ (by omega)]
      have hiZ : hiF sc (zp (zp sc (5 + c) i 1) (5 + c) 9 0) := (hiF_zp (by omega)).trans (hiF_zp (by omega))
      have hg1 : ¬ uM (zp sr (41 + i) c 1) c = true := fun h => by
        have := (gU_iff hI' hc).mp h
        apply nu
        unfold iU at this ⊢
        rw [zp_o (j := 9) (j' := 5) _ _ (by decide), zp_o (j := 9) (j' := 6) _ _ (by decide), zp_q (j := 9) _ _ (show 1 ≠ 5 + c by omega)] at this
        exact this
      by_cases hu : iU sc c
      · have hg : uM sr c = true := (gU_iff hI hc).mpr hu
        obtain ⟨sc', sr', k', c1, c2, c3, c4, c5, c6⟩ := ch_all (N := N) (set := sc (5 + c) 9) (cc := zi c) hN ho n 0 N N k _ _ _ (by omega) (by omega) (by omega) (by omega) hI' (fun i => by simp) (fun r h1 h2 => by
          rw [d9 r, zp_row _ _ (by omega), zp_row _ _ (by omega)]
          unfold mW
          simp [h2])
        refine ⟨sc', sr', k', by rw [eC]; exact c1, ?_, by omega, c4, hiZ.trans c5, lo.trans c6⟩
        rw [eM]
        have c2' : zf_Mo_chooseFor N (zi c) (zp sr (41 + i) c 1) = some sr' := c2
        unfold zf_Mo_changed zf_Mo_changed_37
        simp only [m_us (N := N) (show c < 5 by omega), Bool.false_eq_true, hg, hg1, if_true, x1, if_false, Option.bind_some, c2']
      · have hg : ¬ uM sr c = true := fun h => hu ((gU_iff hI hc).mp h)
        have h9 : sc (5 + c) 9 = 0 := du.resolve_left hu
        rw [h9] at hI' eC
        have eT : zbit (0 : Int32) = fun _ => false := by funext r; exact zbit_zero r
        rw [eT] at hI'
        refine ⟨_, _, k, ?_, ?_, by omega, hI', hiZ, lo⟩
        · rw [eC]
          exact c_all0 (N := N) n24 hI'.1.2.2.2.2.2.1.1 n 0 N (by omega) (by omega)
        · rw [eM]
          unfold zf_Mo_changed zf_Mo_changed_20 zf_Mo_changed_37
          simp only [m_us (N := N) (show c < 5 by omega), Bool.false_eq_true, hg, hg1, if_true, x1, if_false, Option.bind_some]
theorem op_lock {v : Int32} (hN : 1010 ≤ N) (hj : j ≤ 600) (hv : v = 0 ∨ v = 1) (a : Int32) : zOp j (fun s => (zf_LG_lock N a v s).map (fun y => (y.1, 0, y.2))) (fun s => (zf_Mo_lock N a v s).map (fun y => (0, y))) (fun x => x = 0 ∨ x = 4) (fun x => if x = 0 then 0 else 1) := by
  intro sc sr hI2
  obtain ⟨F, p, m, n, t, k, o, hI, ht, hk, ho⟩ := id hI2
  obtain ⟨⟨f2, f10, p1, p5, m1, m4, n24⟩, s2, s3, s4, s5, s6, s7⟩ := id hI.1
  rcases num_cases a m (by omega) with ⟨c, hc, rfl⟩ | ⟨h1, h2⟩
  · have i5 : ¬ (zi c < 0 ∨ 5 ≤ c) := zi_inn (by omega) (by decide)
    obtain ⟨sc', sr', k', c1, c2, c3, c4, c5, c6⟩ := fl_op (N := N) (i := 5) (v := v) (Or.inl rfl) hv hc hN (by omega) (by omega) (zInv_thr 0 hI)
    have e1 : zf_LG_lock N (zi c) v sc = some (0, sc') := by
      have : zf_LG_lock N (zi c) v sc = (gC N 5 c v sc).bind fun t => some (0, t) := by
        unfold zf_LG_lock zf_LG_lock_40 zf_LG_lock_37 zf_LG_lock_40 gC
        simp only [c_car_ok (N := N) m4 s5.1 hc, Option.bind_some, if_true, if_pos hv]
        by_cases e : sc (5 + c) 5 = v
        · rw [if_pos e, if_pos e]; rfl
        · rw [if_neg e, if_neg e]
          by_cases e0 : v = 0
          · rw [if_pos e0, if_pos e0, Option.bind_assoc]
          · rw [if_neg e0, if_neg e0, Option.bind_assoc]
      rw [this, c1]; rfl
    have e2 : zf_Mo_lock N (zi c) v sr = some sr' := by
      have : zf_Mo_lock N (zi c) v sr = gM N 5 c v (zp sr 40 0 0) := by
        unfold zf_Mo_lock zf_Mo_lock_27 gM
        simp only [m_noCar_ok (N := N) m4 s5.2 hc, Option.bind_some, if_true, if_pos hv, zi_nat (show c < 2147483648 by omega), i5, if_false, m_us (N := N) (show c < 5 by omega)]
        show (zf_Mo_changed N _ _ _).bind some = _
        cases zf_Mo_changed N (zi c) _ _ <;> rfl
      rw [this, c2]
    refine ⟨0, 0, sc', 0, sr', by simp only [e1, Option.map_some], by simp only [e2, Option.map_some], Or.inl rfl, by rw [c6.2.2, zp_s]; rfl, fun _ => rfl, ⟨F, p, m, n, t, k', o, c4, by omega, by omega, by omega⟩, c5, fun q hq => by rw [c6.1 q hq, zp_row _ _ (by omega)], by rw [c6.2.1, zp_row _ _ (by decide)]⟩
  · have e1 : zf_LG_lock N a v sc = some (4, sc) := by
      unfold zf_LG_lock
      simp only [c_car_no (N := N) s5.1 h1, Option.bind_some]
      rfl
    have e2 : zf_Mo_lock N a v sr = some (zp sr 40 0 1) := by
      unfold zf_Mo_lock zf_Mo_lock_27
      simp only [m_noCar_no (N := N) s5.2 h2, Option.bind_some]
      rfl
    exact zOp_no (fC := fun s => (zf_LG_lock N a v s).map (fun y => (y.1, 0, y.2))) (fM := fun s => (zf_Mo_lock N a v s).map (fun y => (0, y))) (okc := fun x => x = 0 ∨ x = 4) (cv := fun x => if x = 0 then 0 else 1) hI2 (code := 4) (v := 0) (v' := 0) (x := 1) (by simp only [e1, Option.map_some]) (by simp only [e2, Option.map_some]) rfl (Or.inr rfl) (fun h => absurd h (by decide))
theorem op_fail {v : Int32} (hN : 1010 ≤ N) (hj : j ≤ 600) (hv : v = 0 ∨ v = 1) (a : Int32) : zOp j (fun s => (zf_LG_fail N a v s).map (fun y => (y.1, 0, y.2))) (fun s => (zf_Mo_fail N a v s).map (fun y => (0, y))) (fun x => x = 0 ∨ x = 4) (fun x => if x = 0 then 0 else 1) := by
  intro sc sr hI2
  obtain ⟨F, p, m, n, t, k, o, hI, ht, hk, ho⟩ := id hI2
  obtain ⟨⟨f2, f10, p1, p5, m1, m4, n24⟩, s2, s3, s4, s5, s6, s7⟩ := id hI.1
  rcases num_cases a m (by omega) with ⟨c, hc, rfl⟩ | ⟨h1, h2⟩
  · have i5 : ¬ (zi c < 0 ∨ 5 ≤ c) := zi_inn (by omega) (by decide)
    obtain ⟨sc', sr', k', c1, c2, c3, c4, c5, c6⟩ := fl_op (N := N) (i := 6) (v := v) (Or.inr rfl) hv hc hN (by omega) (by omega) (zInv_thr 0 hI)
    have e1 : zf_LG_fail N (zi c) v sc = some (0, sc') := by
      have : zf_LG_fail N (zi c) v sc = (gC N 6 c v sc).bind fun t => some (0, t) := by
        unfold zf_LG_fail zf_LG_fail_40 zf_LG_fail_37 zf_LG_fail_40 gC
        simp only [c_car_ok (N := N) m4 s5.1 hc, Option.bind_some, if_true, if_pos hv]
        by_cases e : sc (5 + c) 6 = v
        · rw [if_pos e, if_pos e]; rfl
        · rw [if_neg e, if_neg e]
          by_cases e0 : v = 0
          · rw [if_pos e0, if_pos e0, Option.bind_assoc]
          · rw [if_neg e0, if_neg e0, Option.bind_assoc]
      rw [this, c1]; rfl
    have e2 : zf_Mo_fail N (zi c) v sr = some sr' := by
      have : zf_Mo_fail N (zi c) v sr = gM N 6 c v (zp sr 40 0 0) := by
        unfold zf_Mo_fail zf_Mo_fail_27 gM
        simp only [m_noCar_ok (N := N) m4 s5.2 hc, Option.bind_some, if_true, if_pos hv, zi_nat (show c < 2147483648 by omega), i5, if_false, m_us (N := N) (show c < 5 by omega)]
        show (zf_Mo_changed N _ _ _).bind some = _
        cases zf_Mo_changed N (zi c) _ _ <;> rfl
      rw [this, c2]
    refine ⟨0, 0, sc', 0, sr', by simp only [e1, Option.map_some], by simp only [e2, Option.map_some], Or.inl rfl, by rw [c6.2.2, zp_s]; rfl, fun _ => rfl, ⟨F, p, m, n, t, k', o, c4, by omega, by omega, by omega⟩, c5, fun q hq => by rw [c6.1 q hq, zp_row _ _ (by omega)], by rw [c6.2.1, zp_row _ _ (by decide)]⟩
  · have e1 : zf_LG_fail N a v sc = some (4, sc) := by
      unfold zf_LG_fail
      simp only [c_car_no (N := N) s5.1 h1, Option.bind_some]
      rfl
    have e2 : zf_Mo_fail N a v sr = some (zp sr 40 0 1) := by
      unfold zf_Mo_fail zf_Mo_fail_27
      simp only [m_noCar_no (N := N) s5.2 h2, Option.bind_some]
      rfl
    exact zOp_no (fC := fun s => (zf_LG_fail N a v s).map (fun y => (y.1, 0, y.2))) (fM := fun s => (zf_Mo_fail N a v s).map (fun y => (0, y))) (okc := fun x => x = 0 ∨ x = 4) (cv := fun x => if x = 0 then 0 else 1) hI2 (code := 4) (v := 0) (v' := 0) (x := 1) (by simp only [e1, Option.map_some]) (by simp only [e2, Option.map_some]) rfl (Or.inr rfl) (fun h => absurd h (by decide))
end OE
