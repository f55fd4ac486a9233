def up (R : Nat → Int32) (j : Nat) (v : Int32) : Nat → Int32 := fun b => if b = j then v else R b
def zr (st : zS) (a : Nat) (R : Nat → Int32) : zS := fun q => if q = a then R else st q
theorem zr_at (st : zS) (a : Nat) (R : Nat → Int32) : zr st a R a = R := by simp [zr]
theorem zr_ne (st : zS) {a q : Nat} (R : Nat → Int32) (h : q ≠ a) : zr st a R q = st q := by simp [zr, h]
theorem zr_self (st : zS) (a : Nat) : zr st a (st a) = st := by funext q; by_cases h : q = a <;> simp [zr, h]
theorem zr_zr (st : zS) (a : Nat) (R S : Nat → Int32) : zr (zr st a R) a S = zr st a S := by funext q; by_cases h : q = a <;> simp [zr, h]
theorem zr_zp (st : zS) (a j : Nat) (R : Nat → Int32) (v : Int32) : zp (zr st a R) a j v = zr st a (up R j v) := by
  funext q b
  by_cases h : q = a <;> simp [zp, zr, up, h]
theorem zp_zr (st : zS) (a j : Nat) (v : Int32) : zp st a j v = zr st a (up (st a) j v) := by
  funext q b
  by_cases h : q = a <;> simp [zp, zr, up, h]
theorem up_s (R : Nat → Int32) (j : Nat) (v : Int32) : up R j v j = v := by simp [up]
theorem up_o (R : Nat → Int32) {j i : Nat} (v : Int32) (h : i ≠ j) : up R j v i = R i := by simp [up, h]
theorem up_id (R : Nat → Int32) (j : Nat) : up R j (R j) = R := by funext b; by_cases h : b = j <;> simp [up, h]
def zany (p : Nat → Bool) : Nat → Bool
  | 0 => false
  | n + 1 => zany p n || p n
theorem zany_iff (p : Nat → Bool) (n : Nat) : zany p n = true ↔ ∃ r, r < n ∧ p r = true := by
  induction n with
  | zero => simp [zany]
  | succ n ih =>
    simp only [zany, Bool.or_eq_true, ih]
    constructor
    · rintro (⟨r, h1, h2⟩ | h)
      · exact ⟨r, by omega, h2⟩
      · exact ⟨n, by omega, h⟩
    · rintro ⟨r, h1, h2⟩
      by_cases e : r = n
      · subst e; exact Or.inr h2
      · exact Or.inl ⟨r, by omega, h2⟩
theorem zany_no {p : Nat → Bool} {n : Nat} : zany p n = false ↔ ∀ r, r < n → p r = false := by
  constructor
  · intro h r hr
    cases hp : p r with
    | false => rfl
    | true => rw [(zany_iff p n).mpr ⟨r, hr, hp⟩] at h; cases h
  · intro h
    cases hp : zany p n with
    | false => rfl
    | true => obtain ⟨r, h1, h2⟩ := (zany_iff p n).mp hp; rw [h r h1] at h2; cases h2
theorem zbit_low {h : Nat} (hh : h < 32) (i : Nat) : zbit ((1 <<< (zi h &&& 31)) - 1) i = decide (i < h) := by
  have hs : ∀ h, h < 32 → (((1 : Int32) <<< (zi h &&& 31)) - 1).toBitVec = BitVec.ofNat 32 (2 ^ h - 1) := by decide +kernel
  unfold zbit
  rw [hs h hh, BitVec.getLsbD_ofNat, Nat.testBit_two_pow_sub_one]
  by_cases e : i < h
  · simp [e, show i < 32 by omega]
  · simp [e]
def aNear (Q : Nat → Bool) (h : Nat) : Nat → Nat → Int32
  | 0, _ => 0
  | k + 1, g => if g ≤ h ∧ Q (h - g) = true then -1 else if Q (h + g) = true then 1 else aNear Q h k (g + 1)
theorem aNear_succ (Q : Nat → Bool) (h k g : Nat) : aNear Q h (k + 1) g = if g ≤ h ∧ Q (h - g) = true then -1 else if Q (h + g) = true then 1 else aNear Q h k (g + 1) := rfl
def aAhead (Q : Nat → Bool) (h : Nat) (d : Int32) : Bool := if 0 ≤ d then zany (fun i => decide (h ≤ i) && Q i) 32 else zany Q h
def vfM (R : Nat → Int32) : Nat → Int32 := up (up (up R 10 0) 11 0) 12 0
def vFetch (pl : Int32) (R : Nat → Int32) : Int32 := if pl ≤ zi (zc (zbit (R 8)) 32) then 0 else R 9
def vStop (Go St : Nat → Int32) (ab fe : Int32) (f : Nat) : Bool := !(decide (ab &&& Go f = 0) && decide (fe &&& St f = 0))
def vMask (B : Nat → Bool) : Nat → Int32
  | 0 => 0
  | k + 1 => if B k = true then vMask B k ||| (1 <<< (zi (2 * k) &&& 31)) else vMask B k
def vSS (G St Go : Nat → Int32) (F : Nat) (R : Nat → Int32) : Int32 := if G 4 = 0 then vMask (vStop Go St (R 8) (vFetch (G 3) R)) F else 1
def vDir (m : Int32) (h : Nat) (d : Int32) : Int32 := if d = 0 then aNear (zbit m) h 18 1 else if aAhead (zbit m) h d = true then d else -d
def vMove (m : Int32) (h : Nat) (R : Nat → Int32) : Nat → Int32 := if m = 0 then up R 1 0 else if zbit m h = true then up (up R 2 1) 3 3 else up (up R 1 (vDir m h (R 1))) 0 (R 0 + vDir m h (R 1))
def vStay (x : Int32) (R : Nat → Int32) : Nat → Int32 := if x ≠ 0 ∨ (R 7 ≠ 0 ∧ R 4 < 20) then up R 4 (R 4 + 1) else if R 3 - 1 = 0 then (if R 7 = 0 then up (up (up R 4 (R 4 + 1)) 2 3) 3 3 else up (up (up R 4 (R 4 + 1)) 2 4) 3 6) else up (up R 4 (R 4 + 1)) 3 (R 3 - 1)
def vShut (R : Nat → Int32) : Nat → Int32 := if R 3 - 1 = 0 then up (up R 3 (R 3 - 1)) 2 0 else up R 3 (R 3 - 1)
def vFst (m : Int32) (p c : Nat) : Nat → Int32
  | 0 => 0
  | r + 1 => if zbit m r = true ∧ c + zc (zbit m) r < p then vFst m p c r ||| (m &&& (1 <<< (zi r &&& 31))) else vFst m p c r
def vArr (Go : Nat → Int32) (h : Nat) (R : Nat → Int32) : Int32 := R 8 &&& Go (h / 2)
def vAb (Go : Nat → Int32) (h : Nat) (R : Nat → Int32) : Int32 := R 8 &&& (vArr Go h R ^^^ (-1))
def vBrd (St Go : Nat → Int32) (p h : Nat) (R : Nat → Int32) : Int32 := vFst (R 9 &&& St (h / 2)) p (zc (zbit (vAb Go h R)) 32) 24
def vExch (G St Go : Nat → Int32) (p h : Nat) (R : Nat → Int32) : Nat → Int32 :=
  if G 4 = 0 then up (up (up (up R 10 (vArr Go h R)) 12 (vBrd St Go p h R)) 8 (vAb Go h R ||| vBrd St Go p h R)) 9 (R 9 &&& (vBrd St Go p h R ^^^ (-1)))
  else if h / 2 = 0 then up (up (up R 10 (vArr Go h R)) 11 (vAb Go h R)) 8 0 else up (up R 10 (vArr Go h R)) 8 (vAb Go h R)
def vAdv1 (G St Go : Nat → Int32) (F p h : Nat) (R : Nat → Int32) : Nat → Int32 :=
  if R 2 = 0 then vMove (vSS G St Go F R) h R
  else if R 2 = 1 then (if R 3 - 1 = 0 then vExch G St Go p h (up (up (up R 2 2) 3 4) 4 0) else up R 3 (R 3 - 1))
  else if R 2 = 2 then vStay (if G 4 = 0 then 0 else if R 0 = 0 then 1 else 0) (vExch G St Go p h R)
  else if R 2 = 3 then (if R 7 = 0 then vShut R else up (up R 2 1) 3 3)
  else vShut R
def vAdv (G St Go : Nat → Int32) (F p h : Nat) (R : Nat → Int32) : Nat → Int32 := vAdv1 G St Go F p h (vfM R)
section CA
variable {N a : Nat} {st : zS} {R : Nat → Int32}
theorem c_forgetMoved : zf_Ca_forgetMoved N a (zr st a R) = some (zr st a (vfM R)) := by
  simp only [zf_Ca_forgetMoved, zr_zp, vfM]
theorem c_turnDoor (x y : Int32) : zf_Ca_turnDoor N a x y (zr st a R) = some (zr st a (up (up R 2 x) 3 y)) := by
  simp only [zf_Ca_turnDoor, zr_zp]
theorem c_hasRiders : zf_Ca_hasRiders N a (zr st a R) = some (if R 8 ||| R 9 = 0 then 0 else 1, zr st a R) := by
  unfold zf_Ca_hasRiders zf_Ca_hasRiders_17
  simp only [zr_at]
  split <;> simp
theorem c_shutFurther : zf_Ca_shutFurther N a (zr st a R) = some (zr st a (vShut R)) := by
  unfold zf_Ca_shutFurther zf_Ca_shutFurther_22 vShut
  simp only [zr_at, zr_zp]
  split <;> rfl
theorem c_towards {m : Int32} {h : Nat} (hN : 20 ≤ N) (hR : R 0 = zi h) (hh : h ≤ 18) (hm : ∀ i, 18 < i → zbit m i = false) :
    ∀ (k g f : Nat), g + k = 19 → k < f → 0 < g → zf_Ca_towardsNearest_2 N f a m (zi g) (zr st a R) = some (aNear (zbit m) h k g, zr st a R) := by
  intro k
  induction k with
  | zero =>
    intro g f hg hf _
    obtain ⟨f, rfl⟩ : ∃ f', f = f' + 1 := ⟨f - 1, by omega⟩
    show zb_Ca_towardsNearest_2 N _ a m (zi g) _ = _
    unfold zb_Ca_towardsNearest_2
    rw [show (18 : Int32) = zi 18 from rfl, if_pos ((zi_lt (by omega) (by omega) : (zi 18 < zi g) ↔ _).mpr (by omega))]
    rfl
  | succ k ih =>
    intro g f hg hf h0
    obtain ⟨f, rfl⟩ : ∃ f', f = f' + 1 := ⟨f - 1, by omega⟩
    show zb_Ca_towardsNearest_2 N _ a m (zi g) _ = _
    unfold zb_Ca_towardsNearest_2
    rw [show (18 : Int32) = zi 18 from rfl, if_neg (fun h => absurd ((zi_lt (by omega) (by omega) : (zi 18 < zi g) ↔ _).mp h) (by omega))]
    have hup : zf_Ca_towardsNearest_31 N (zf_Ca_towardsNearest_2 N f) a m (zi g) (zr st a R) = some (if zbit m (h + g) = true then 1 else aNear (zbit m) h k (g + 1), zr st a R) := by
      unfold zf_Ca_towardsNearest_31 zf_Ca_towardsNearest_57
      rw [zi_succ, ih (g + 1) f (by omega) (by omega) (by omega), zr_at, hR]
      have e1 : (18 : Int32) - zi h = zi (18 - h) := zi_sub hh
      rw [e1, zi_add]
      by_cases c1 : 18 - h < g
      · rw [if_pos ((zi_lt (by omega) (by omega)).mpr c1), hm (h + g) (by omega)]; rfl
      · rw [if_neg (fun h => c1 ((zi_lt (by omega) (by omega)).mp h))]
        cases hb : zbit m (h + g) with
        | false => rw [if_pos ((zbit_test m (by omega)).mpr hb)]; rfl
        | true => rw [if_neg (fun h9 => by rw [(zbit_test m (by omega)).mp h9] at hb; cases hb)]; rfl
    rw [hup, zr_at, hR, aNear_succ]
    by_cases c1 : h < g
    · have hc : ¬ (g ≤ h ∧ zbit m (h - g) = true) := fun h9 => by have := h9.1; omega
      rw [if_pos ((zi_lt (by omega) (by omega)).mpr c1), if_neg hc]
    · rw [if_neg (fun h => c1 ((zi_lt (by omega) (by omega)).mp h)), zi_sub (by omega)]
      cases hb : zbit m (h - g) with
      | false =>
        have hc : ¬ (g ≤ h ∧ false = true) := fun h9 => by cases h9.2
        rw [if_pos ((zbit_test m (by omega)).mpr hb), if_neg hc]
      | true =>
        have hc : g ≤ h ∧ true = true := ⟨by omega, rfl⟩
        rw [if_neg (fun h9 => by rw [(zbit_test m (by omega)).mp h9] at hb; cases hb), if_pos hc]
theorem c_liesAhead {m : Int32} {h : Nat} (hR : R 0 = zi h) (hh : h ≤ 18) : zf_Ca_liesAhead N a m (zr st a R) = some (if aAhead (zbit m) h (R 1) = true then 1 else 0, zr st a R) := by
  unfold zf_Ca_liesAhead zf_Ca_liesAhead_40 aAhead
  rw [zr_at, hR]
  by_cases hd : 0 ≤ R 1
  · rw [if_pos hd, if_pos hd]
    have e : (m &&& ((1 <<< (zi h &&& 31)) - 1)) = m ↔ zany (fun i => decide (h ≤ i) && zbit m i) 32 = false := by
      rw [zany_no]
      constructor
      · intro e r hr
        by_cases c : h ≤ r
        · have : zbit m r = false := by
            rw [← e, zbit_and, zbit_low (by omega)]
            simp [show ¬ r < h by omega]
          simp [this]
        · simp [c]
      · intro h1
        refine zbit_ext (fun r hr => ?_)
        rw [zbit_and, zbit_low (by omega)]
        by_cases c : h ≤ r
        · have := h1 r hr
          simp only [c, decide_true, Bool.true_and] at this
          rw [this]; rfl
        · simp [show r < h by omega]
    cases hz : zany (fun i => decide (h ≤ i) && zbit m i) 32 with
    | false => rw [if_pos (e.mpr hz)]; rfl
    | true => rw [if_neg (fun h9 => by rw [e.mp h9] at hz; cases hz)]; rfl
  · rw [if_neg hd, if_neg hd]
    have e : (m &&& ((1 <<< (zi h &&& 31)) - 1)) = 0 ↔ zany (zbit m) h = false := by
      rw [zany_no, zbit_eq0]
      constructor
      · intro e r hr
        have := e r (by omega)
        rw [zbit_and, zbit_low (by omega)] at this
        simpa [hr] using this
      · intro h1 r hr
        rw [zbit_and, zbit_low (by omega)]
        by_cases c : r < h
        · simp [c, h1 r c]
        · simp [c]
    cases hz : zany (zbit m) h with
    | false => rw [if_pos (e.mpr hz)]; rfl
    | true => rw [if_neg (fun h9 => by rw [e.mp h9] at hz; cases hz)]; rfl
theorem c_openOrMove {m : Int32} {h : Nat} (hN : 20 ≤ N) (hR : R 0 = zi h) (hh : h ≤ 18) (hm : ∀ i, 18 < i → zbit m i = false) : zf_Ca_openOrMove N a m (zr st a R) = some (zr st a (vMove m h R)) := by
  unfold zf_Ca_openOrMove zf_Ca_openOrMove_64 vMove vDir
  simp only [zr_at, zr_zp, hR]
  by_cases h0 : m = 0
  · simp only [h0, if_true]
  · cases hb : zbit m h with
    | true =>
      have e1 : ¬ (m &&& 1 <<< (zi h &&& 31)) = 0 := fun h9 => by rw [(zbit_test m (by omega)).mp h9] at hb; cases hb
      simp only [h0, e1, if_false, if_true, c_turnDoor, Option.bind_some]
    | false =>
      have e1 : (m &&& 1 <<< (zi h &&& 31)) = 0 := (zbit_test m (by omega)).mpr hb
      by_cases hd : R 1 = 0
      · unfold zf_Ca_towardsNearest
        have ht := c_towards (N := N) (a := a) (st := st) hN hR hh hm 18 1 N rfl (by omega) (by omega)
        simp only [h0, e1, hd, if_false, if_true, Bool.false_eq_true]
        rw [show (1 : Int32) = zi 1 from rfl, ht]
        simp only [Option.bind_some, zr_zp, zr_at, up_s, up_o _ _ (show (0 : Nat) ≠ 1 by decide), hR]
      · simp only [h0, e1, hd, if_false, if_true, Bool.false_eq_true]
        rw [c_liesAhead hR hh]
        cases hA : aAhead (zbit m) h (R 1) with
        | true => simp [zr_zp, zr_at, hR, up_id]
        | false => simp [zr_zp, zr_at, up_s, up_o _ _ (show (0 : Nat) ≠ 1 by decide), hR]
theorem c_stayOpen (x : Int32) : zf_Ca_stayOpen N a x (zr st a R) = some (zr st a (vStay x R)) := by
  unfold zf_Ca_stayOpen zf_Ca_stayOpen_20 zf_Ca_stayOpen_21 zf_Ca_stayOpen_81 zf_Ca_stayOpen_40 vStay
  simp only [zr_at, zr_zp, c_turnDoor, Option.bind_some]
  have e20 : (20 ≤ R 4) ↔ ¬ (R 4 < 20) := by rw [Int32.not_lt]
  have ez : ∀ v : Int32, v - 1 = 0 → up (up (up R 4 (R 4 + 1)) 3 v) 2 3 = up (up (up R 4 (R 4 + 1)) 3 v) 2 3 := fun _ _ => rfl
  have sw : ∀ (u x y : Int32), up (up (up (up R 4 (R 4 + 1)) 3 u) 2 x) 3 y = up (up (up R 4 (R 4 + 1)) 2 x) 3 y := by
    intro u x y; funext b; simp only [up]; repeat' split <;> simp_all
  simp only [sw]
  by_cases h7 : R 7 = 0 <;> by_cases h20 : R 4 < 20 <;> by_cases hx : x = 0 <;> by_cases h3 : R 3 - 1 = 0 <;> simp [h7, e20, h20, hx, h3]
theorem vMask_bit (B : Nat → Bool) : ∀ (k i : Nat), k ≤ 16 → zbit (vMask B k) i = (decide (i < 2 * k) && decide (i % 2 = 0) && B (i / 2)) := by
  intro k
  induction k with
  | zero => intro i _; show zbit 0 i = _; rw [zbit_zero]; simp
  | succ k ih =>
    intro i hk
    have e : zbit (vMask B (k + 1)) i = if B k = true then (zbit (vMask B k) i || decide (i = 2 * k)) else zbit (vMask B k) i := by
      show zbit (if B k = true then vMask B k ||| (1 <<< (zi (2 * k) &&& 31)) else vMask B k) i = _
      split
      · rw [zbit_or, zbit_shl (by omega)]
      · rfl
    rw [e, ih i (by omega)]
    by_cases c1 : i = 2 * k
    · subst c1
      simp only [show 2 * k / 2 = k by omega, show 2 * k % 2 = 0 by omega]
      cases B k <;> simp
    · by_cases c2 : i < 2 * k
      · simp [c1, c2, show i < 2 * (k + 1) by omega]
      · by_cases c3 : i < 2 * (k + 1)
        · simp [c1, c2, show ¬ i % 2 = 0 by omega]
        · simp [c1, c2, c3]
theorem vMask_zero {B : Nat → Bool} {k : Nat} (h : ∀ f, f < k → B f = false) : vMask B k = 0 := by
  induction k with
  | zero => rfl
  | succ k ih =>
    show (if B k = true then _ else vMask B k) = 0
    rw [h k (by omega), ih (fun f hf => h f (by omega))]
    rfl
theorem c_stopLoop {fe : Int32} {F : Nat} (ha : 5 ≤ a) (hF : st 1 2 = zi F) (hF10 : F ≤ 10) :
    ∀ (k f fu : Nat) , f + k = F → k < fu → zf_Ca_stopSet_46 N fu a fe (vMask (vStop (st 3) (st 2) (R 8) fe) f) (zi f) (zr st a R) = some (vMask (vStop (st 3) (st 2) (R 8) fe) F, zr st a R) := by
  intro k
  induction k with
  | zero =>
    intro f fu hf hfu
    obtain ⟨fu, rfl⟩ : ∃ f', fu = f' + 1 := ⟨fu - 1, by omega⟩
    show zb_Ca_stopSet_46 N _ a fe _ (zi f) _ = _
    unfold zb_Ca_stopSet_46
    rw [zr_ne st R (show (1 : Nat) ≠ a by omega), hF, if_pos ((zi_le (by omega) (by omega)).mpr (by omega)), show f = F by omega]
  | succ k ih =>
    intro f fu hf hfu
    obtain ⟨fu, rfl⟩ : ∃ f', fu = f' + 1 := ⟨fu - 1, by omega⟩
    show zb_Ca_stopSet_46 N _ a fe _ (zi f) _ = _
    unfold zb_Ca_stopSet_46 zf_Ca_stopSet_82 zf_Ca_stopSet_91
    have hin : ¬ (zi f < 0 ∨ 10 ≤ f) := zi_inn (by omega) (by decide)
    have hle : ¬ (zi F ≤ zi f) := fun h => by have := (zi_le (by omega) (by omega)).mp h; omega
    have e2 : (2 : Int32) * zi f = zi (2 * f) := zi_mul 2 f
    simp only [zr_at, zr_ne st R (show (1 : Nat) ≠ a by omega), zr_ne st R (show (2 : Nat) ≠ a by omega), zr_ne st R (show (3 : Nat) ≠ a by omega), hF, hin, hle, if_false, zi_nat (show f < 2147483648 by omega), zi_succ, e2]
    have ih2 := ih (f + 1) fu (by omega) (by omega)
    have es : vMask (vStop (st 3) (st 2) (R 8) fe) (f + 1) = if vStop (st 3) (st 2) (R 8) fe f = true then vMask (vStop (st 3) (st 2) (R 8) fe) f ||| (1 <<< (zi (2 * f) &&& 31)) else vMask (vStop (st 3) (st 2) (R 8) fe) f := rfl
    rw [es] at ih2
    unfold vStop at ih2 ⊢
    by_cases c1 : R 8 &&& st 3 f = 0 <;> by_cases c2 : fe &&& st 2 f = 0 <;> simp [c1, c2] at ih2 ⊢ <;> exact ih2
theorem c_stopSet {F : Nat} (ha : 5 ≤ a) (hN : 20 ≤ N) (hF : st 1 2 = zi F) (hF10 : F ≤ 10) : zf_Ca_stopSet N a (zr st a R) = some (vSS (st 1) (st 2) (st 3) F R, zr st a R) := by
  unfold zf_Ca_stopSet vSS
  rw [zr_ne st R (show (1 : Nat) ≠ a by omega)]
  by_cases c0 : st 1 4 = 0
  · rw [if_pos c0, if_pos c0, c_hasRiders]
    simp only [Option.bind_some]
    by_cases c1 : R 8 ||| R 9 = 0
    · rw [if_pos c1, if_pos rfl]
      have h8 : R 8 = 0 := (zbit_eq0 _).mpr (fun r hr => by have := (zbit_eq0 _).mp c1 r hr; rw [zbit_or] at this; simp at this; exact this.1)
      have h9 : R 9 = 0 := (zbit_eq0 _).mpr (fun r hr => by have := (zbit_eq0 _).mp c1 r hr; rw [zbit_or] at this; simp at this; exact this.2)
      have hf : vFetch (st 1 3) R = 0 := by unfold vFetch; rw [h9]; split <;> rfl
      rw [vMask_zero (fun f _ => by unfold vStop; rw [hf, h8]; simp)]
    · rw [if_neg c1, if_neg (by decide), z_bitCount]
      simp only [Option.bind_some, zr_at, zr_ne st R (show (1 : Nat) ≠ a by omega)]
      unfold zf_Ca_stopSet_40 vFetch
      by_cases c2 : st 1 3 ≤ zi (zc (zbit (R 8)) 32)
      · rw [if_pos c2, if_pos c2]
        exact c_stopLoop ha hF hF10 F 0 N (by omega) (by omega)
      · rw [if_neg c2, if_neg c2]
        exact c_stopLoop ha hF hF10 F 0 N (by omega) (by omega)
  · rw [if_neg c0, if_neg c0]
theorem vFst_bit (m : Int32) (p c : Nat) : ∀ (k i : Nat), k ≤ 32 → zbit (vFst m p c k) i = (decide (i < k) && zbit m i && decide (c + zc (zbit m) i < p)) := by
  intro k
  induction k with
  | zero => intro i _; show zbit 0 i = _; rw [zbit_zero]; simp
  | succ k ih =>
    intro i hk
    have e : zbit (vFst m p c (k + 1)) i = if zbit m k = true ∧ c + zc (zbit m) k < p then (zbit (vFst m p c k) i || (zbit m i && decide (i = k))) else zbit (vFst m p c k) i := by
      show zbit (if zbit m k = true ∧ c + zc (zbit m) k < p then vFst m p c k ||| (m &&& (1 <<< (zi k &&& 31))) else vFst m p c k) i = _
      split
      · rw [zbit_or, zbit_and, zbit_shl (by omega)]
      · rfl
    rw [e, ih i (by omega)]
    by_cases c1 : i = k
    · subst c1
      by_cases c2 : zbit m i = true <;> by_cases c3 : c + zc (zbit m) i < p <;> simp [c2, c3]
    · by_cases c2 : i < k
      · simp [c1, c2, show i < k + 1 by omega]
      · simp [c1, c2, show ¬ i < k + 1 by omega]
theorem vFst_stop {m : Int32} {p c r : Nat} (h : p ≤ c + zc (zbit m) r) : ∀ j, vFst m p c (r + j) = vFst m p c r := by
  intro j
  induction j with
  | zero => rfl
  | succ j ih =>
    have hc : ¬ (zbit m (r + j) = true ∧ c + zc (zbit m) (r + j) < p) := fun h9 => by
      have := zc_mono (zbit m) (show r ≤ r + j by omega)
      have := h9.2
      omega
    show (if zbit m (r + j) = true ∧ c + zc (zbit m) (r + j) < p then _ else vFst m p c (r + j)) = _
    rw [if_neg hc, ih]
theorem c_firstLoop {m : Int32} {p c : Nat} (hp : p < 100000) (hc : c < 100000) (st' : zS) :
    ∀ (k r f : Nat), r + k = 24 → k < f → zf_Ca_firstOf_4 N f m (zi p - zi (c + zc (zbit m) r)) (vFst m p c r) (zi r) st' = some (vFst m p c 24, st') := by
  intro k
  induction k with
  | zero =>
    intro r f hr hf
    obtain ⟨f, rfl⟩ : ∃ f', f = f' + 1 := ⟨f - 1, by omega⟩
    show zb_Ca_firstOf_4 N _ m _ _ (zi r) _ = _
    unfold zb_Ca_firstOf_4 zf_Ca_firstOf_40
    rw [show (24 : Int32) = zi 24 from rfl, if_pos ((zi_le (by omega) (by omega)).mpr (by omega)), show r = 24 by omega]
  | succ k ih =>
    intro r f hr hf
    obtain ⟨f, rfl⟩ : ∃ f', f = f' + 1 := ⟨f - 1, by omega⟩
    show zb_Ca_firstOf_4 N _ m _ _ (zi r) _ = _
    unfold zb_Ca_firstOf_4 zf_Ca_firstOf_40 zf_Ca_firstOf_34
    have h24 : ¬ ((24 : Int32) ≤ zi r) := fun h => by
      have := (zi_le (show 24 < 2147483648 by decide) (show r < 2147483648 by omega)).mp h
      omega
    have hz := zc_le (zbit m) r
    have hle : (zi p - zi (c + zc (zbit m) r) ≤ 0) ↔ p ≤ c + zc (zbit m) r := zi_sle (by omega) (by omega)
    rw [if_neg h24]
    by_cases c1 : p ≤ c + zc (zbit m) r
    · rw [if_pos (hle.mpr c1)]
      have := vFst_stop c1 (24 - r)
      rw [show r + (24 - r) = 24 by omega] at this
      rw [this]
    · rw [if_neg (fun h => c1 (hle.mp h))]
      have ih2 := ih (r + 1) f (by omega) (by omega)
      rw [zc_succ] at ih2
      have es : vFst m p c (r + 1) = if zbit m r = true ∧ c + zc (zbit m) r < p then vFst m p c r ||| (m &&& (1 <<< (zi r &&& 31))) else vFst m p c r := rfl
      rw [es] at ih2
      cases hb : zbit m r with
      | false =>
        rw [if_pos ((zbit_test m (by omega)).mpr hb), zi_succ]
        simp [hb] at ih2
        exact ih2
      | true =>
        have hb2 : ¬ (m &&& 1 <<< (zi r &&& 31)) = 0 := fun h9 => by rw [(zbit_test m (by omega)).mp h9] at hb; cases hb
        rw [if_neg hb2, zi_succ, zi_dec]
        simp [hb, show c + zc (zbit m) r < p by omega] at ih2
        exact ih2
theorem c_exchange {p h : Nat} (ha : 5 ≤ a) (hN : 30 ≤ N) (hR : R 0 = zi h) (hh : h ≤ 18) (hp : st 1 3 = zi p) (hp9 : p < 100000) : zf_Ca_exchange N a (zr st a R) = some (zr st a (vExch (st 1) (st 2) (st 3) p h R)) := by
  unfold zf_Ca_exchange zf_Ca_exchange_124 vExch
  have e2 : zi h / 2 = zi (h / 2) := zi_div (b := 2) (by omega) (by decide)
  have hin : ¬ (zi (h / 2) < 0 ∨ 10 ≤ h / 2) := zi_inn (by omega) (by decide)
  have n1 : (1 : Nat) ≠ a := by omega
  have n2 : (2 : Nat) ≠ a := by omega
  have n3 : (3 : Nat) ≠ a := by omega
  simp only [zr_at, zr_zp, hR, e2, zr_ne st _ n1, zr_ne st _ n2, zr_ne st _ n3, hin, if_false, zi_nat (show h / 2 < 2147483648 by omega), z_bitCount, Option.bind_some]
  by_cases c0 : st 1 4 = 0
  · simp only [c0, if_true]
    unfold zf_Ca_firstOf
    have hl := c_firstLoop (N := N) (m := R 9 &&& st 2 (h / 2)) (p := p) (c := zc (zbit (vAb (st 3) h R)) 32) hp9 (by have := zc_le (zbit (vAb (st 3) h R)) 32; omega) (zr st a (up (up R 10 (vArr (st 3) h R)) 8 (vAb (st 3) h R))) 24 0 N rfl (by omega)
    have e9 : (up (up R 10 (vArr (st 3) h R)) 8 (vAb (st 3) h R)) 9 = R 9 := by simp [up]
    have z0 : zc (zbit (R 9 &&& st 2 (h / 2))) 0 = 0 := rfl
    have v0 : vFst (R 9 &&& st 2 (h / 2)) p (zc (zbit (vAb (st 3) h R)) 32) 0 = 0 := rfl
    rw [z0, v0, Nat.add_zero] at hl
    show (((zf_Ca_firstOf_4 N N ((up (up R 10 (vArr (st 3) h R)) 8 (vAb (st 3) h R)) 9 &&& st 2 (h / 2)) (st 1 3 - zi (zc (zbit (vAb (st 3) h R)) 32)) 0 (zi 0) (zr st a (up (up R 10 (vArr (st 3) h R)) 8 (vAb (st 3) h R)))).bind fun y70 => _) : Option zS) = _
    rw [e9, hp, hl]
    simp only [Option.bind_some, zr_at, zr_zp]
    congr 2
    funext b
    simp only [up, vBrd]
    repeat' split <;> simp_all
  · simp only [c0, if_false]
    by_cases c1 : h / 2 = 0
    · have c1' : zi (h / 2) = 0 := by rw [c1]; rfl
      simp only [c1, show zi 0 = 0 from rfl, if_true]
      congr 2
      funext b
      simp only [up, vArr, vAb, c1]
      repeat' split <;> simp_all
    · have c1' : ¬ zi (h / 2) = 0 := fun h9 => c1 ((zi_eq (b := 0) (by omega) (by decide)).mp h9)
      simp only [c1, c1', if_false, vArr, vAb]
theorem vSS_hi {G St Go : Nat → Int32} {F : Nat} (hF10 : F ≤ 10) : ∀ i, 18 < i → zbit (vSS G St Go F R) i = false := by
  intro i hi
  unfold vSS
  split
  · rw [vMask_bit _ _ _ (by omega)]
    by_cases c : i < 2 * F
    · have : ¬ i % 2 = 0 := by omega
      simp [this]
    · simp [c]
  · have := zbit_shl (r := 0) (by decide) i
    rw [show ((1 : Int32) <<< (zi 0 &&& 31)) = 1 by decide] at this
    rw [this]
    simp
    omega
theorem c_advance {F p h : Nat} (ha : 5 ≤ a) (hN : 30 ≤ N) (hF : st 1 2 = zi F) (hF10 : F ≤ 10) (hp : st 1 3 = zi p) (hp9 : p < 100000) (hR : R 0 = zi h) (hh : h ≤ 18) : zf_Ca_advance N a (zr st a R) = some (zr st a (vAdv (st 1) (st 2) (st 3) F p h R)) := by
  unfold zf_Ca_advance zf_Ca_advance_112 zf_Ca_advance_113 zf_Ca_advance_146 vAdv vAdv1
  have hR2 : vfM R 0 = zi h := by simp [vfM, up, hR]
  rw [c_forgetMoved]
  generalize vfM R = R at hR2 ⊢
  have n1 : (1 : Nat) ≠ a := by omega
  simp only [Option.bind_some, zr_at, zr_zp, zr_ne st _ n1, c_turnDoor, c_shutFurther]
  have i10 : ¬ (1 : Int32) = 0 := by decide
  have i20 : ¬ (2 : Int32) = 0 := by decide
  have i21 : ¬ (2 : Int32) = 1 := by decide
  have i30 : ¬ (3 : Int32) = 0 := by decide
  have i31 : ¬ (3 : Int32) = 1 := by decide
  have i32 : ¬ (3 : Int32) = 2 := by decide
  by_cases d0 : R 2 = 0
  · simp only [d0, if_true]
    rw [c_stopSet ha (by omega) hF hF10]
    simp only [Option.bind_some]
    rw [c_openOrMove (by omega) hR2 hh (vSS_hi hF10)]
    rfl
  · by_cases d1 : R 2 = 1
    · simp only [d1, i10, if_true, if_false]
      by_cases l0 : R 3 - 1 = 0
      · simp only [l0, if_true]
        have er : up (up (up (up R 3 0) 2 2) 3 4) 4 0 = up (up (up R 2 2) 3 4) 4 0 := by
          funext b; simp only [up]; repeat' split <;> simp_all
        rw [er, c_exchange ha (by omega) (h := h) (by simp [up, hR2]) hh hp hp9]
        rfl
      · simp only [l0, if_false]
    · by_cases d2 : R 2 = 2
      · simp only [d2, i20, i21, if_true, if_false]
        rw [c_exchange ha (by omega) hR2 hh hp hp9]
        simp only [Option.bind_some, zr_at, zr_ne st _ n1]
        have e0 : vExch (st 1) (st 2) (st 3) p h R 0 = R 0 := by unfold vExch; split <;> (try split) <;> simp [up]
        rw [e0]
        by_cases c4 : st 1 4 = 0
        · simp only [c4, if_true, c_stayOpen, Option.bind_some]
        · by_cases c5 : R 0 = 0
          · simp only [c4, c5, if_true, if_false, c_stayOpen, Option.bind_some]
          · simp only [c4, c5, if_false, c_stayOpen, Option.bind_some]
      · by_cases d3 : R 2 = 3
        · simp only [d3, i30, i31, i32, if_true, if_false]
          by_cases c7 : R 7 = 0
          · simp only [c7, if_true]
          · simp only [c7, if_false]
        · simp only [d0, d1, d2, d3, if_false]
end CA
