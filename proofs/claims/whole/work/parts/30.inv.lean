def iS (F p m n t : Nat) (sc sr : zS) : Prop := (2 ≤ F ∧ F ≤ 10 ∧ 1 ≤ p ∧ p ≤ 5 ∧ 1 ≤ m ∧ m ≤ 4 ∧ n ≤ 24) ∧ (sc 1 2 = zi F ∧ sr 40 1 = zi F) ∧ (sc 1 3 = zi p ∧ sr 40 3 = zi p) ∧ (sr 40 12 = sc 1 4 ∧ (sc 1 4 = 0 ∨ sc 1 4 = 1)) ∧ (sc 0 5 = zi m ∧ sr 40 2 = zi m) ∧ (sc 0 6 = zi n ∧ sr 40 19 = zi n) ∧ (sc 0 8 = zi t ∧ sr 40 20 = zi t)
def iR (m n : Nat) (sc sr : zS) : Prop := ∀ r, r < n → (sc (11 + r) 0 = sr 51 r ∧ sc (11 + r) 1 = sr 52 r ∧ sc (11 + r) 2 = sr 49 r ∧ sc (11 + r) 3 = sr 50 r ∧ sc (11 + r) 4 = sr 53 r ∧ sc (11 + r) 5 = sr 54 r) ∧ (sr 49 r = 0 ∨ sr 49 r = 1 ∨ sr 49 r = 2 ∨ sr 49 r = 3) ∧ (sr 50 r = -1 ∨ ∃ c, c < m ∧ sr 50 r = zi c)
def iH (n : Nat) (sc sr : zS) : Prop := ∀ f r, f < 10 → zbit (sc 2 f) r = (decide (r < n) && decide (sr 51 r = zi f)) ∧ zbit (sc 3 f) r = (decide (r < n) && decide (sr 52 r = zi f))
abbrev iU (sc : zS) (c : Nat) : Prop := sc (5 + c) 5 = 0 ∧ sc (5 + c) 6 = 0 ∧ sc 1 4 = 0
def iC1 (F o n : Nat) (T : Nat → Bool) (sc sr : zS) (c : Nat) : Prop := (sc (5 + c) 0 = sr 41 c ∧ sc (5 + c) 1 = sr 42 c ∧ sc (5 + c) 2 = sr 43 c ∧ sc (5 + c) 3 = sr 44 c ∧ sc (5 + c) 4 = sr 45 c ∧ sc (5 + c) 5 = sr 46 c ∧ sc (5 + c) 6 = sr 47 c ∧ sc (5 + c) 7 = sr 48 c) ∧ ((sc (5 + c) 5 = 0 ∨ sc (5 + c) 5 = 1) ∧ (sc (5 + c) 6 = 0 ∨ sc (5 + c) 6 = 1) ∧ (sc (5 + c) 7 = 0 ∨ sc (5 + c) 7 = 1)) ∧ rOK F o (sc (5 + c)) ∧ (∀ r, zbit (sc (5 + c) 8) r = (decide (r < n) && mA sr c 0 r)) ∧ (∀ r, zbit (sc (5 + c) 9) r = (decide (r < n) && mW sr c 0 r && !T r)) ∧ (iU sc c ∨ sc (5 + c) 9 = 0)
def iC (F o m n : Nat) (T : Nat → Bool) (sc sr : zS) : Prop := ∀ c, c < m → iC1 F o n T sc sr c
def iN (n : Nat) (T : Nat → Bool) (sc sr : zS) : Prop := ∀ r, zbit (sc 0 7) r = (decide (r < n) && decide (sr 49 r = 0) && decide (sr 50 r = -1) && !T r)
def iT (m n : Nat) (T : Nat → Bool) (sc sr : zS) : Prop := ∀ r, T r = true → r < n ∧ sr 49 r = 0 ∧ (sr 50 r = -1 ∨ ∃ c, c < m ∧ sr 50 r = zi c ∧ ¬ iU sc c)
def iL (k : Nat) (sc sr : zS) : Prop := sc 35 4 = zi k ∧ sr 40 22 = zi k ∧ ∀ j, j < 30 → sc 36 j = sr 55 (j * 4) ∧ sc 37 j = sr 55 (j * 4 + 1) ∧ sc 38 j = sr 55 (j * 4 + 2) ∧ sc 39 j = sr 55 (j * 4 + 3)
def aC (S : Nat → Int32) : Nat → Int32
  | 0 => 0
  | r + 1 => if S r = 2 then aC S r + 1 else aC S r
def aM (S K : Nat → Int32) : Nat → Int32
  | 0 => 0
  | r + 1 => if S r = 2 then (if aM S K r < K r then K r else aM S K r) else aM S K r
def aS (S K : Nat → Int32) : Nat → Int32
  | 0 => 0
  | r + 1 => if S r = 2 then aS S K r + K r else aS S K r
def iA (n : Nat) (sc sr : zS) : Prop := sc 0 9 = aC (sr 49) n ∧ sc 0 10 = aM (sr 49) (sr 54) n ∧ sc 0 11 = aS (sr 49) (sr 54) n
def zInv (F p m n t k o : Nat) (T : Nat → Bool) (sc sr : zS) : Prop := iS F p m n t sc sr ∧ iR m n sc sr ∧ iH n sc sr ∧ iC F o m n T sc sr ∧ iN n T sc sr ∧ iT m n T sc sr ∧ iL k sc sr ∧ iA n sc sr
def hiF (sc sc' : zS) : Prop := ∀ q, 40 ≤ q → sc' q = sc q
def loF (sr sr' : zS) : Prop := (∀ q, q < 40 → sr' q = sr q) ∧ sr' 56 = sr 56 ∧ sr' 40 0 = sr 40 0
theorem hiF.refl (s : zS) : hiF s s := fun _ _ => rfl
theorem loF.refl (s : zS) : loF s s := ⟨fun _ _ => rfl, rfl, rfl⟩
theorem hiF.trans {a b c : zS} (h1 : hiF a b) (h2 : hiF b c) : hiF a c := fun q hq => (h2 q hq).trans (h1 q hq)
theorem loF.trans {a b c : zS} (h1 : loF a b) (h2 : loF b c) : loF a c := ⟨fun q hq => (h2.1 q hq).trans (h1.1 q hq), h2.2.1.trans h1.2.1, h2.2.2.trans h1.2.2⟩
theorem hiF_zp {s : zS} {q j : Nat} {v : Int32} (h : q < 40) : hiF s (zp s q j v) := fun a ha => zp_row _ _ (by omega)
theorem loF_zp {s : zS} {q j : Nat} {v : Int32} (h : 40 ≤ q) (h2 : q ≠ 56) (h3 : q ≠ 40 ∨ j ≠ 0) : loF s (zp s q j v) := ⟨fun a ha => zp_row _ _ (by omega), zp_row _ _ (by omega), by unfold zp; rw [if_neg (by omega)]⟩
theorem hiF_zr {s : zS} {q : Nat} {R : Nat → Int32} (h : q < 40) : hiF s (zr s q R) := fun a ha => zr_ne _ _ (by omega)
theorem aC_congr {S S' : Nat → Int32} {n : Nat} (h : ∀ r, r < n → S' r = S r) : aC S' n = aC S n := by
  induction n with
  | zero => rfl
  | succ n ih => unfold aC; rw [h n (by omega), ih (fun r hr => h r (by omega))]
theorem aM_congr {S S' K K' : Nat → Int32} {n : Nat} (h : ∀ r, r < n → S' r = S r) (hk : ∀ r, r < n → K' r = K r) : aM S' K' n = aM S K n := by
  induction n with
  | zero => rfl
  | succ n ih => unfold aM; rw [h n (by omega), hk n (by omega), ih (fun r hr => h r (by omega)) (fun r hr => hk r (by omega))]
theorem aS_congr {S S' K K' : Nat → Int32} {n : Nat} (h : ∀ r, r < n → S' r = S r) (hk : ∀ r, r < n → K' r = K r) : aS S' K' n = aS S K n := by
  induction n with
  | zero => rfl
  | succ n ih => unfold aS; rw [h n (by omega), hk n (by omega), ih (fun r hr => h r (by omega)) (fun r hr => hk r (by omega))]
section IV
variable {N F p m n t k o : Nat} {T : Nat → Bool} {sc sr : zS}
theorem zInv_fr {sc' sr' : zS} (h : zInv F p m n t k o T sc sr) (hc : ∀ q, q < 40 → q ≠ 9 → sc' q = sc q) (hr : ∀ q j, ¬ ((41 ≤ q ∧ q ≤ 45 ∨ q = 48) ∧ j = 4) → ¬ (49 ≤ q ∧ q ≤ 52 ∧ 24 ≤ j) → ¬ (q = 40 ∧ j = 0) → 40 ≤ q → q ≤ 55 → sr' q j = sr q j) : zInv F p m n t k o T sc' sr' := by
  obtain ⟨hS, hR, hH, hC, hN, hT, hL, hA⟩ := h
  obtain ⟨⟨f2, f10, p1, p5, m1, m4, n24⟩, s2, s3, s4, s5, s6, s7⟩ := hS
  have c0 : sc' 0 = sc 0 := hc 0 (by decide) (by decide)
  have c1 : sc' 1 = sc 1 := hc 1 (by decide) (by decide)
  have c35 : sc' 35 = sc 35 := hc 35 (by decide) (by decide)
  have r40 : ∀ j, j ≠ 0 → sr' 40 j = sr 40 j := fun j hj => hr 40 j (by omega) (by omega) (by omega) (by omega) (by omega)
  have rq : ∀ q i, 41 ≤ q → q ≤ 48 → i < 4 → sr' q i = sr q i := fun q i h1 h2 hi => hr q i (by omega) (by omega) (by omega) (by omega) (by omega)
  have rr : ∀ q i, 49 ≤ q → q ≤ 55 → i < 24 → sr' q i = sr q i := fun q i hq hq2 hi => hr q i (by omega) (by omega) (by omega) (by omega) (by omega)
  have rb : ∀ q i, 53 ≤ q → q ≤ 55 → sr' q i = sr q i := fun q i hq hq2 => hr q i (by omega) (by omega) (by omega) (by omega) (by omega)
  have eA : ∀ c r, r < n → mA sr' c 0 r = mA sr c 0 r := fun c r h => by unfold mA; rw [rr 49 _ (by omega) (by omega) (by omega), rr 50 _ (by omega) (by omega) (by omega)]
  have eW : ∀ c r, r < n → mW sr' c 0 r = mW sr c 0 r := fun c r h => by unfold mW; rw [rr 49 _ (by omega) (by omega) (by omega), rr 50 _ (by omega) (by omega) (by omega)]
  have eU : ∀ c, c < m → (iU sc' c ↔ iU sc c) := fun c hcm => by unfold iU; rw [c1, hc (5 + c) (by omega) (by omega)]
  refine ⟨⟨⟨f2, f10, p1, p5, m1, m4, n24⟩, ?_, ?_, ?_, ?_, ?_, ?_⟩, fun r h9 => ?_, fun f r hf => ?_, fun c hcm => ?_, fun r => ?_, fun r h9 => ?_, ?_, ?_⟩
  · rw [c1, r40 _ (by decide)]; exact s2
  · rw [c1, r40 _ (by decide)]; exact s3
  · rw [c1, r40 _ (by decide)]; exact s4
  · rw [c0, r40 _ (by decide)]; exact s5
  · rw [c0, r40 _ (by decide)]; exact s6
  · rw [c0, r40 _ (by decide)]; exact s7
  · rw [hc (11 + r) (by omega) (by omega), rr 51 r (by omega) (by omega) (by omega), rr 52 r (by omega) (by omega) (by omega), rr 49 r (by omega) (by omega) (by omega), rr 50 r (by omega) (by omega) (by omega), rr 53 r (by omega) (by omega) (by omega), rr 54 r (by omega) (by omega) (by omega)]
    exact hR r h9
  · rw [hc 2 (by omega) (by omega), hc 3 (by omega) (by omega)]
    have := hH f r hf
    by_cases h9 : r < n
    · rw [rr 51 r (by omega) (by omega) (by omega), rr 52 r (by omega) (by omega) (by omega)]; exact this
    · simpa [h9] using this
  · obtain ⟨d1, d2, d3, d4, d5, d6⟩ := hC c hcm
    have e5 := hc (5 + c) (by omega) (by omega)
    unfold iC1
    rw [e5, rq 41 c (by omega) (by omega) (by omega), rq 42 c (by omega) (by omega) (by omega), rq 43 c (by omega) (by omega) (by omega), rq 44 c (by omega) (by omega) (by omega), rq 45 c (by omega) (by omega) (by omega), rq 46 c (by omega) (by omega) (by omega), rq 47 c (by omega) (by omega) (by omega), rq 48 c (by omega) (by omega) (by omega), eU c hcm]
    refine ⟨d1, d2, d3, fun r => ?_, fun r => ?_, d6⟩
    · rw [d4]
      by_cases h9 : r < n
      · rw [eA c r h9]
      · simp [h9]
    · rw [d5]
      by_cases h9 : r < n
      · rw [eW c r h9]
      · simp [h9]
  · rw [c0, hN]
    by_cases h9 : r < n
    · rw [rr 49 r (by omega) (by omega) (by omega), rr 50 r (by omega) (by omega) (by omega)]
    · simp [h9]
  · obtain ⟨a, b, d⟩ := hT r h9
    rw [rr 49 r (by omega) (by omega) (by omega), rr 50 r (by omega) (by omega) (by omega)]
    refine ⟨a, b, ?_⟩
    rcases d with d | ⟨c, h1, h2, h3⟩
    · exact Or.inl d
    · exact Or.inr ⟨c, h1, h2, fun h => h3 ((eU c h1).mp h)⟩
  · obtain ⟨a, b, d⟩ := hL
    refine ⟨by rw [c35]; exact a, by rw [r40 _ (by decide)]; exact b, fun j hj => ?_⟩
    rw [hc 36 (by omega) (by omega), hc 37 (by omega) (by omega), hc 38 (by omega) (by omega), hc 39 (by omega) (by omega), rb 55 _ (by omega) (by omega), rb 55 _ (by omega) (by omega), rb 55 _ (by omega) (by omega), rb 55 _ (by omega) (by omega)]
    exact d j hj
  · obtain ⟨a, b, d⟩ := hA
    unfold iA
    rw [c0, aC_congr (S := sr 49) (fun r h => rr 49 r (by omega) (by omega) (by omega)), aM_congr (S := sr 49) (K := sr 54) (fun r h => rr 49 r (by omega) (by omega) (by omega)) (fun r h => rr 54 r (by omega) (by omega) (by omega)), aS_congr (S := sr 49) (K := sr 54) (fun r h => rr 49 r (by omega) (by omega) (by omega)) (fun r h => rr 54 r (by omega) (by omega) (by omega))]
    exact ⟨a, b, d⟩
def cN (stp kind r c : Int32) (s : zS) : zS := zp (zp (zp (zp (zp s 36 ((s 35 4).toNatClampNeg % 30) stp) 37 ((s 35 4).toNatClampNeg % 30) kind) 38 ((s 35 4).toNatClampNeg % 30) r) 39 ((s 35 4).toNatClampNeg % 30) c) 35 4 (s 35 4 + 1)
theorem c_note {stp kind r c : Int32} (hk : sc 35 4 = zi k) (hk9 : k < 2000000000) : zf_Lo_note N stp kind r c sc = some (cN stp kind r c sc) := by
  unfold zf_Lo_note cN
  have e30 : zi k - zi k / 30 * 30 = zi (k % 30) := by
    rw [show zi k / 30 = zi (k / 30) from zi_div (b := 30) (by omega) (by decide), show zi (k / 30) * 30 = zi (k / 30 * 30) from zi_mul _ 30, zi_sub (by omega)]
    congr 1; omega
  have h0 : ¬ (zi (k % 30) < 0 ∨ 30 ≤ k % 30) := zi_inn (by omega) (by decide)
  simp only [hk, e30, zi_nat (show k % 30 < 2147483648 by omega), h0, if_false, zi_nat (show k < 2147483648 by omega)]
theorem cN_row {stp kind r c : Int32} {s : zS} {q : Nat} (h : q < 35 ∨ 39 < q) : cN stp kind r c s q = s q := by
  unfold cN
  rw [zp_row _ _ (by omega), zp_row _ _ (by omega), zp_row _ _ (by omega), zp_row _ _ (by omega), zp_row _ _ (by omega)]
theorem iL_note {stp kind r c : Int32} (hk9 : k < 2000000000) (hL : iL k sc sr) (hs : sr 40 20 = stp) : iL (k + 1) (cN stp kind r c sc) (mN kind r c sr) := by
  obtain ⟨a, b, d⟩ := hL
  have e1 : (sc 35 4).toNatClampNeg = k := by rw [a]; exact zi_nat (by omega)
  have e2 : (sr 40 22).toNatClampNeg = k := by rw [b]; exact zi_nat (by omega)
  refine ⟨by unfold cN; rw [zp_s, a, zi_succ], by rw [mN_22, b, zi_succ], fun j hj => ?_⟩
  unfold cN mN
  rw [e1, e2, hs]
  have hd := d j hj
  by_cases e : j = k % 30
  · subst e
    refine ⟨?_, ?_, ?_, ?_⟩ <;> simp [zp]
  · have n0 : ¬ j * 4 = k % 30 * 4 := by omega
    have n1 : ∀ i, i < 4 → ∀ i', i' < 4 → ¬ j * 4 + i = k % 30 * 4 + i' := fun i hi i' hi' => by omega
    refine ⟨?_, ?_, ?_, ?_⟩ <;> simp [zp, e, hd, n0, show ¬ j * 4 = k % 30 * 4 + 1 by omega, show ¬ j * 4 = k % 30 * 4 + 2 by omega, show ¬ j * 4 = k % 30 * 4 + 3 by omega, show ¬ j * 4 + 1 = k % 30 * 4 by omega, show ¬ j * 4 + 1 = k % 30 * 4 + 2 by omega, show ¬ j * 4 + 1 = k % 30 * 4 + 3 by omega, show ¬ j * 4 + 2 = k % 30 * 4 by omega, show ¬ j * 4 + 2 = k % 30 * 4 + 1 by omega, show ¬ j * 4 + 2 = k % 30 * 4 + 3 by omega, show ¬ j * 4 + 3 = k % 30 * 4 by omega, show ¬ j * 4 + 3 = k % 30 * 4 + 1 by omega, show ¬ j * 4 + 3 = k % 30 * 4 + 2 by omega]
end IV
