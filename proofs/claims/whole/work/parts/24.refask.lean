def mA (sr : zS) (c first : Nat) : Nat → Bool := fun r => decide (sr 49 (first + r) = 1) && decide (sr 50 (first + r) = zi c)
def mW (sr : zS) (c first : Nat) : Nat → Bool := fun r => decide (sr 49 (first + r) = 0) && decide (sr 50 (first + r) = zi c)
def mStop1 (sr : zS) (c first p n f : Nat) : Nat → Bool := fun r => (mA sr c first r && decide (sr 52 (first + r) = zi f)) || (mW sr c first r && decide (sr 51 (first + r) = zi f) && decide (zc (mA sr c first) n < p))
def mStop (sr : zS) (c first p n f : Nat) : Bool := if sr 40 12 = 0 then zany (mStop1 sr c first p n f) n else decide (f = 0)
def mQ (sr : zS) (c first p n F : Nat) (i : Nat) : Bool := decide (i % 2 = 0) && decide (i / 2 < F) && mStop sr c first p n (i / 2)
section MO
variable {N c first n p F : Nat} {sr : zS}
theorem m_aboardL (hn : sr 40 19 = zi n) (hfn : first + n ≤ 48) : ∀ (k r f : Nat), r + k = n → k < f → zf_Mo_aboard_5 N f (zi c) (zi first) (zi (zc (mA sr c first) r)) (zi (first + r)) sr = some (zi (zc (mA sr c first) n), sr) := by
  intro k
  induction k with
  | zero =>
    intro r f hr hf
    obtain ⟨f, rfl⟩ : ∃ f', f = f' + 1 := ⟨f - 1, by omega⟩
    show zb_Mo_aboard_5 N _ _ _ _ _ _ = _
    unfold zb_Mo_aboard_5
    rw [hn, zi_add, if_pos ((zi_le (by omega) (by omega)).mpr (by omega)), show r = n by omega]
  | succ k ih =>
    intro r f hr hf
    obtain ⟨f, rfl⟩ : ∃ f', f = f' + 1 := ⟨f - 1, by omega⟩
    show zb_Mo_aboard_5 N _ _ _ _ _ _ = _
    unfold zb_Mo_aboard_5 zf_Mo_aboard_43 zf_Mo_aboard_44
    have hin : ¬ (zi (first + r) < 0 ∨ 48 ≤ first + r) := zi_inn (by omega) (by decide)
    have hle : ¬ (zi (first + n) ≤ zi (first + r)) := fun h => by have := (zi_le (by omega) (by omega)).mp h; omega
    have ih2 := ih (r + 1) f (by omega) (by omega)
    rw [zc_succ] at ih2
    rw [← Nat.add_assoc] at ih2
    simp only [hn, zi_add, hle, if_false, zi_nat (show first + r < 2147483648 by omega), hin, zi_succ, Int32.add_zero] at ih2 ⊢
    unfold mA at ih2 ⊢
    by_cases c1 : sr 49 (first + r) = 1 <;> by_cases c2 : sr 50 (first + r) = zi c <;> simp [c1, c2] at ih2 ⊢ <;> exact ih2
theorem m_aboard (hN : 50 ≤ N) (hn : sr 40 19 = zi n) (hfn : first + n ≤ 48) : zf_Mo_aboard N (zi c) (zi first) sr = some (zi (zc (mA sr c first) n), sr) :=
  m_aboardL hn hfn n 0 N (by omega) (by omega)
theorem m_isStopL {f : Nat} {room : Int32} (hf10 : f < 100) (hroom : room = if zc (mA sr c first) n < p then 1 else 0) (hn : sr 40 19 = zi n) (hfn : first + n ≤ 48) :
    ∀ (k r fu : Nat), r + k = n → k < fu → zf_Mo_isStop_43 N fu (zi c) (zi f) (zi first) room (if zany (mStop1 sr c first p n f) r = true then 1 else 0) (zi (first + r)) sr = some (if zany (mStop1 sr c first p n f) n = true then 1 else 0, sr) := by
  intro k
  induction k with
  | zero =>
    intro r fu hr hf
    obtain ⟨fu, rfl⟩ : ∃ f', fu = f' + 1 := ⟨fu - 1, by omega⟩
    show zb_Mo_isStop_43 N _ _ _ _ _ _ _ _ = _
    unfold zb_Mo_isStop_43
    rw [hn, zi_add, if_pos ((zi_le (by omega) (by omega)).mpr (by omega)), show r = n by omega]
    split <;> simp
  | succ k ih =>
    intro r fu hr hf
    obtain ⟨fu, rfl⟩ : ∃ f', fu = f' + 1 := ⟨fu - 1, by omega⟩
    show zb_Mo_isStop_43 N _ _ _ _ _ _ _ _ = _
    unfold zb_Mo_isStop_43 zf_Mo_isStop_70 zf_Mo_isStop_104 zf_Mo_isStop_139 zf_Mo_isStop_135 zf_Mo_isStop_140
    have hin : ¬ (zi (first + r) < 0 ∨ 48 ≤ first + r) := zi_inn (by omega) (by decide)
    have hle : ¬ (zi (first + n) ≤ zi (first + r)) := fun h => by have := (zi_le (by omega) (by omega)).mp h; omega
    have ih2 := ih (r + 1) fu (by omega) (by omega)
    have es : zany (mStop1 sr c first p n f) (r + 1) = (zany (mStop1 sr c first p n f) r || mStop1 sr c first p n f r) := rfl
    rw [es] at ih2
    simp only [hn, zi_add, hle, if_false, zi_nat (show first + r < 2147483648 by omega), hin, zi_succ] at ih2 ⊢
    rw [← Nat.add_assoc] at ih2
    have i10 : ¬ (1 : Int32) = 0 := by decide
    cases hz : zany (mStop1 sr c first p n f) r with
    | true =>
      simp [hz, i10] at ih2 ⊢
      exact ih2
    | false =>
      have em : mStop1 sr c first p n f r = ((decide (sr 49 (first + r) = 1) && decide (sr 50 (first + r) = zi c)) && decide (sr 52 (first + r) = zi f) || (decide (sr 49 (first + r) = 0) && decide (sr 50 (first + r) = zi c)) && decide (sr 51 (first + r) = zi f) && decide (zc (mA sr c first) n < p)) := rfl
      rw [hz, em] at ih2
      by_cases c2 : sr 50 (first + r) = zi c
      · by_cases c1 : sr 49 (first + r) = 1
        · by_cases c3 : sr 52 (first + r) = zi f <;> simp [c1, c2, c3, i10] at ih2 ⊢ <;> exact ih2
        · by_cases c0 : sr 49 (first + r) = 0
          · by_cases c4 : sr 51 (first + r) = zi f <;> by_cases c5 : zc (mA sr c first) n < p <;> simp only [c5, if_true, if_false] at hroom <;> subst hroom <;> simp [c0, c1, c2, c4, c5, i10] at ih2 ⊢ <;> exact ih2
          · simp [c0, c1, c2, i10] at ih2 ⊢
            exact ih2
      · simp [c2] at ih2 ⊢
        exact ih2
theorem m_isStop {f : Nat} (hf10 : f < 100) (hN : 50 ≤ N) (hp : sr 40 3 = zi p) (hp9 : p < 100000) (hn : sr 40 19 = zi n) (hfn : first + n ≤ 48) : zf_Mo_isStop N (zi c) (zi f) (zi first) sr = some (if mStop sr c first p n f = true then 1 else 0, sr) := by
  unfold zf_Mo_isStop mStop
  by_cases c0 : sr 40 12 = 0
  · simp only [c0, if_true]
    rw [m_aboard hN hn hfn]
    simp only [Option.bind_some, hp]
    unfold zf_Mo_isStop_35
    have hz := zc_le (mA sr c first) n
    have hl := fun room hroom => m_isStopL (N := N) (c := c) (p := p) (f := f) (room := room) hf10 hroom hn hfn n 0 N (by omega) (by omega)
    by_cases c1 : p ≤ zc (mA sr c first) n
    · rw [if_pos ((zi_le (by omega) (by omega)).mpr c1)]
      exact hl 0 (by rw [if_neg (by omega)])
    · rw [if_neg (fun h => c1 ((zi_le (by omega) (by omega)).mp h))]
      exact hl 1 (by rw [if_pos (by omega)])
  · simp only [c0, if_false]
    unfold zf_Mo_isStop_16
    by_cases c1 : f = 0
    · subst c1
      rw [if_pos (show zi 0 = 0 from rfl)]
      simp
    · have h0 : ¬ zi f = 0 := fun h => c1 ((zi_eq (b := 0) (by omega) (by decide)).mp h)
      rw [if_neg h0]
      simp [c1]
def mAh (way : Int32) (h f : Nat) : Bool := if way = 1 then decide (h < 2 * f) else decide (2 * f < h)
theorem m_hasStopL {way : Int32} {h : Nat} (hw : way = 1 ∨ way = -1) (hh : sr 41 c = zi h) (hh9 : h ≤ 18) (hc : c < 5) (hF : sr 40 1 = zi F) (hF10 : F ≤ 10) (hN : 50 ≤ N) (hp : sr 40 3 = zi p) (hp9 : p < 100000) (hn : sr 40 19 = zi n) (hfn : first + n ≤ 48) :
    ∀ (k f fu : Nat), f + k = F → k < fu → zf_Mo_hasStop_6 N fu (zi c) way (zi first) (if zany (fun f => mAh way h f && mStop sr c first p n f) f = true then 1 else 0) (zi f) sr = some (if zany (fun f => mAh way h f && mStop sr c first p n f) F = true then 1 else 0, sr) := by
  intro k
  induction k with
  | zero =>
    intro f fu hf hfu
    obtain ⟨fu, rfl⟩ : ∃ f', fu = f' + 1 := ⟨fu - 1, by omega⟩
    show zb_Mo_hasStop_6 N _ _ _ _ _ _ _ = _
    unfold zb_Mo_hasStop_6
    rw [hF, if_pos ((zi_le (by omega) (by omega)).mpr (by omega)), show f = F by omega]
    split <;> simp
  | succ k ih =>
    intro f fu hf hfu
    obtain ⟨fu, rfl⟩ : ∃ f', fu = f' + 1 := ⟨fu - 1, by omega⟩
    show zb_Mo_hasStop_6 N _ _ _ _ _ _ _ = _
    unfold zb_Mo_hasStop_6 zf_Mo_hasStop_51 zf_Mo_hasStop_47 zf_Mo_hasStop_52
    have hin : ¬ (zi c < 0 ∨ 5 ≤ c) := zi_inn (by omega) (by decide)
    have hle : ¬ (zi F ≤ zi f) := fun h => by have := (zi_le (by omega) (by omega)).mp h; omega
    have ih2 := ih (f + 1) fu (by omega) (by omega)
    have es : zany (fun f => mAh way h f && mStop sr c first p n f) (f + 1) = (zany (fun f => mAh way h f && mStop sr c first p n f) f || (mAh way h f && mStop sr c first p n f)) := rfl
    rw [es] at ih2
    have e2 : (2 : Int32) * zi f = zi (2 * f) := zi_mul 2 f
    have ea : ((zi (2 * f) - zi h) * way ≤ 0) ↔ mAh way h f = false := by
      unfold mAh
      rcases hw with rfl | rfl
      · rw [Int32.mul_one, zi_sle (by omega) (by omega)]
        simp
      · have em : (zi (2 * f) - zi h) * (-1) = zi h - zi (2 * f) := by rw [Int32.mul_neg, Int32.mul_one, Int32.neg_sub]
        rw [em, zi_sle (by omega) (by omega), if_neg (by decide)]
        simp
    simp only [hF, hle, if_false, zi_nat (show c < 2147483648 by omega), hin, zi_succ, hh, e2] at ih2 ⊢
    rw [m_isStop (by omega) hN hp hp9 hn hfn]
    simp only [Option.bind_some]
    have i10 : ¬ (1 : Int32) = 0 := by decide
    cases hz : zany (fun f => mAh way h f && mStop sr c first p n f) f with
    | true =>
      rw [hz] at ih2
      simp only [Bool.true_or, if_true, i10, if_false] at ih2 ⊢
      exact ih2
    | false =>
      rw [hz] at ih2
      cases ha : mAh way h f with
      | false =>
        rw [ha] at ih2
        simp only [Bool.false_or, Bool.false_and, Bool.false_eq_true, if_false, if_true, ea.mpr ha] at ih2 ⊢
        exact ih2
      | true =>
        have hna : ¬ ((zi (2 * f) - zi h) * way ≤ 0) := fun h9 => by rw [ea.mp h9] at ha; cases ha
        rw [ha] at ih2
        cases hs : mStop sr c first p n f with
        | false =>
          rw [hs] at ih2
          simp only [Bool.false_or, Bool.true_and, Bool.false_eq_true, if_false, if_true, hna] at ih2 ⊢
          exact ih2
        | true =>
          rw [hs] at ih2
          simp only [Bool.false_or, Bool.true_and, Bool.false_eq_true, if_false, if_true, hna, i10] at ih2 ⊢
          exact ih2
theorem m_hasStop {way : Int32} {h : Nat} (hw : way = 1 ∨ way = -1) (hh : sr 41 c = zi h) (hh9 : h ≤ 18) (hc : c < 5) (hF : sr 40 1 = zi F) (hF10 : F ≤ 10) (hN : 50 ≤ N) (hp : sr 40 3 = zi p) (hp9 : p < 100000) (hn : sr 40 19 = zi n) (hfn : first + n ≤ 48) : zf_Mo_hasStop N (zi c) way (zi first) sr = some (if zany (fun f => mAh way h f && mStop sr c first p n f) F = true then 1 else 0, sr) :=
  m_hasStopL hw hh hh9 hc hF hF10 hN hp hp9 hn hfn F 0 N (by omega) (by omega)
theorem m_nearestL {h : Nat} (hh : sr 41 c = zi h) (hh9 : h + 2 ≤ 2 * F) (hc : c < 5) (hF : sr 40 1 = zi F) (hF10 : F ≤ 10) (hN : 50 ≤ N) (hp : sr 40 3 = zi p) (hp9 : p < 100000) (hn : sr 40 19 = zi n) (hfn : first + n ≤ 48) :
    ∀ (k g fu : Nat), g + k = 2 * F → k < fu → 0 < g → zf_Mo_nearest_2 N fu (zi c) (zi first) (zi g) sr = some (aNear (mQ sr c first p n F) h k g, sr) := by
  intro k
  induction k with
  | zero =>
    intro g fu hg hfu _
    obtain ⟨fu, rfl⟩ : ∃ f', fu = f' + 1 := ⟨fu - 1, by omega⟩
    show zb_Mo_nearest_2 N _ _ _ _ _ = _
    unfold zb_Mo_nearest_2
    have e2 : (2 : Int32) * zi F = zi (2 * F) := zi_mul 2 F
    rw [hF, e2, if_pos ((zi_le (by omega) (by omega)).mpr (by omega))]
    rfl
  | succ k ih =>
    intro g fu hg hfu h0
    obtain ⟨fu, rfl⟩ : ∃ f', fu = f' + 1 := ⟨fu - 1, by omega⟩
    show zb_Mo_nearest_2 N _ _ _ _ _ = _
    have hin : ¬ (zi c < 0 ∨ 5 ≤ c) := zi_inn (by omega) (by decide)
    have e2 : (2 : Int32) * zi F = zi (2 * F) := zi_mul 2 F
    have hle : ¬ (zi (2 * F) ≤ zi g) := fun h => by have := (zi_le (by omega) (by omega)).mp h; omega
    have ih2 := ih (g + 1) fu (by omega) (by omega) (by omega)
    have dv : ∀ x : Nat, x < 1000 → zi x / 2 = zi (x / 2) := fun x hx => zi_div (b := 2) (by omega) (by decide)
    have md : ∀ x : Nat, x < 1000 → (zi x - zi x / 2 * 2 = 0 ↔ x % 2 = 0) := fun x hx => by
      rw [dv x hx, show zi (x / 2) * 2 = zi (x / 2 * 2) from zi_mul _ 2, zi_sub (by omega)]
      have := zi_eq (a := x - x / 2 * 2) (b := 0) (by omega) (by decide)
      rw [show zi 0 = 0 from rfl] at this
      rw [this]
      omega
    have hup : zf_Mo_nearest_59 N (zf_Mo_nearest_2 N fu) (zi c) (zi first) (zi g) (zi (h + g)) sr = some (if mQ sr c first p n F (h + g) = true then 1 else aNear (mQ sr c first p n F) h k (g + 1), sr) := by
      unfold zf_Mo_nearest_59 zf_Mo_nearest_92 mQ
      rw [zi_succ]
      by_cases c1 : (h + g) % 2 = 0
      · rw [if_pos ((md _ (by omega)).mpr c1), dv _ (by omega), hF]
        by_cases c2 : (h + g) / 2 < F
        · have hnl : ¬ (zi F ≤ zi ((h + g) / 2)) := fun h => by have := (zi_le (by omega) (by omega)).mp h; omega
          rw [if_neg hnl, m_isStop (by omega) hN hp hp9 hn hfn]
          simp only [Option.bind_some]
          cases hs : mStop sr c first p n ((h + g) / 2) with
          | true => simp [c1, c2, ih2]
          | false => simp only [c1, c2, decide_true, Bool.true_and, Bool.false_eq_true, if_false, if_true]; exact ih2
        · rw [if_pos ((zi_le (by omega) (by omega)).mpr (by omega))]
          simp only [c1, c2, decide_true, decide_false, Bool.true_and, Bool.false_and, Bool.false_eq_true, if_false]; exact ih2
      · rw [if_neg (fun h9 => c1 ((md _ (by omega)).mp h9))]
        simp only [c1, decide_false, Bool.false_and, Bool.false_eq_true, if_false]; exact ih2
    unfold zb_Mo_nearest_2
    simp only [hF, e2, hle, if_false, zi_nat (show c < 2147483648 by omega), hin, hh, zi_add]
    rw [hup, aNear_succ]
    by_cases c1 : g ≤ h
    · have hneg : ¬ (zi h - zi g < 0) := by rw [zi_sub c1]; exact zi_neg (by omega)
      rw [if_neg hneg, zi_sub c1]
      by_cases c2 : (h - g) % 2 = 0
      · rw [if_pos ((md _ (by omega)).mpr c2), dv _ (by omega), m_isStop (by omega) hN hp hp9 hn hfn]
        simp only [Option.bind_some]
        have hq : mQ sr c first p n F (h - g) = mStop sr c first p n ((h - g) / 2) := by unfold mQ; simp [c2, show (h - g) / 2 < F by omega]
        rw [hq]
        cases hs : mStop sr c first p n ((h - g) / 2) with
        | true => simp [c1]
        | false => simp [hup]
      · rw [if_neg (fun h9 => c2 ((md _ (by omega)).mp h9))]
        have hq : mQ sr c first p n F (h - g) = false := by unfold mQ; simp [c2]
        rw [hq]
        simp
    · have hneg : zi h - zi g < 0 := by
        rw [Int32.lt_iff_toInt_lt, Int32.toInt_sub, zi_int (by omega), zi_int (by omega)]
        have : (0 : Int32).toInt = 0 := by decide
        rw [this]
        simp only [Int.bmod]
        omega
      rw [if_pos hneg]
      simp [c1]
theorem m_nearest {h : Nat} (hh : sr 41 c = zi h) (hh9 : h + 2 ≤ 2 * F) (hc : c < 5) (hF : sr 40 1 = zi F) (hF10 : F ≤ 10) (hN : 50 ≤ N) (hp : sr 40 3 = zi p) (hp9 : p < 100000) (hn : sr 40 19 = zi n) (hfn : first + n ≤ 48) : zf_Mo_nearest N (zi c) (zi first) sr = some (aNear (mQ sr c first p n F) h (2 * F - 1) 1, sr) :=
  m_nearestL hh hh9 hc hF hF10 hN hp hp9 hn hfn (2 * F - 1) 1 N (by omega) (by omega) (by omega)
theorem m_isThere {h : Nat} (hh : sr 41 c = zi h) (hh9 : h ≤ 18) (hc : c < 5) : zf_Mo_isThere N (zi c) sr = some (if h % 2 = 0 then 1 else 0, sr) := by
  unfold zf_Mo_isThere zf_Mo_isThere_16
  have hin : ¬ (zi c < 0 ∨ 5 ≤ c) := zi_inn (by omega) (by decide)
  have dv : zi h / 2 = zi (h / 2) := zi_div (b := 2) (by omega) (by decide)
  have md : (zi h - zi h / 2 * 2 = 0 ↔ h % 2 = 0) := by
    rw [dv, show zi (h / 2) * 2 = zi (h / 2 * 2) from zi_mul _ 2, zi_sub (by omega)]
    have := zi_eq (a := h - h / 2 * 2) (b := 0) (by omega) (by decide)
    rw [show zi 0 = 0 from rfl] at this
    rw [this]
    omega
  simp only [zi_nat (show c < 2147483648 by omega), hin, if_false, hh]
  by_cases c1 : h % 2 = 0
  · rw [if_pos (md.mpr c1)]; simp [c1]
  · rw [if_neg (fun h9 => c1 (md.mp h9))]; simp [c1]
end MO
