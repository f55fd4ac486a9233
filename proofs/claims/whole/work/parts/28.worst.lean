def vA (G St Go : Nat → Int32) (F p : Nat) (R : Nat → Int32) : Nat → Int32 := vAdv G St Go F p (R 0).toNatClampNeg R
def wL (G St Go : Nat → Int32) (F p : Nat) : Nat → Nat → (Nat → Int32) → Nat
  | 0, _, _ => 1000
  | k + 1, n, R => if vA G St Go F p R 11 = 0 then (if vA G St Go F p R 8 ||| vA G St Go F p R 9 = 0 then n else wL G St Go F p k (n + 1) (vA G St Go F p R)) else 1000
def pN (G St Go : Nat → Int32) (F p : Nat) (r : Nat) : Nat → Nat → (Nat → Int32) → Nat
  | 0, _, _ => 0
  | k + 1, n, R => if zbit (vA G St Go F p R 10) r = true then n else pN G St Go F p r k (n + 1) (vA G St Go F p R)
def pQ (x : Nat) : Nat := if x = 0 then 1000 else x
def vIn (R : Nat → Int32) (r : Nat) : Bool := zbit (R 8) r || zbit (R 9) r
def vDis (R : Nat → Int32) : Prop := ∀ r, r < 32 → zbit (R 8) r = true → zbit (R 9) r = true → False
section WO
variable {G St Go : Nat → Int32} {F p : Nat}
theorem vA_go (R : Nat → Int32) : vGo R (vA G St Go F p R) := vAdv_go
theorem vDis_go {R R' : Nat → Int32} (hg : vGo R R') (hd : vDis R) : vDis R' := fun r hr h8 h9 => by
  obtain ⟨g8, g9, g10, g11, g12⟩ := hg r hr
  rw [g9] at h9
  simp only [Bool.and_eq_true, Bool.not_eq_true'] at h9
  rw [g8, h9.2] at h8
  simp only [Bool.or_false, Bool.and_eq_true] at h8
  exact hd r hr h8.1.1 h9.1
theorem vIn_go {R R' : Nat → Int32} (hg : vGo R R') {r : Nat} (hr : r < 32) (h : vIn R r = false) : vIn R' r = false ∧ zbit (R' 10) r = false := by
  obtain ⟨g8, g9, g10, g11, g12⟩ := hg r hr
  unfold vIn at h ⊢
  simp only [Bool.or_eq_false_iff] at h ⊢
  have b12 : zbit (R' 12) r = false := by
    cases hz : zbit (R' 12) r with
    | false => rfl
    | true => rw [g12 hz] at h; cases h.2
  refine ⟨⟨by rw [g8, h.1, b12]; simp, by rw [g9, h.2]; simp⟩, ?_⟩
  cases hz : zbit (R' 10) r with
  | false => rfl
  | true => rw [g10 hz] at h; cases h.1
theorem pN_out {r : Nat} (hr : r < 32) : ∀ (k n : Nat) (R : Nat → Int32), vIn R r = false → pN G St Go F p r k n R = 0 := by
  intro k
  induction k with
  | zero => intro n R _; rfl
  | succ k ih =>
    intro n R h
    obtain ⟨h1, h2⟩ := vIn_go (vA_go (G := G) (St := St) (Go := Go) (F := F) (p := p) R) hr h
    show (if zbit (vA G St Go F p R 10) r = true then n else _) = 0
    rw [h2, if_neg (by decide)]
    exact ih _ _ h1
theorem pN_le {r : Nat} : ∀ (k n : Nat) (R : Nat → Int32), n + k ≤ 1001 → 0 < n → pN G St Go F p r k n R = 0 ∨ (n ≤ pN G St Go F p r k n R ∧ pN G St Go F p r k n R ≤ 1000) := by
  intro k
  induction k with
  | zero => intro n R _ _; exact Or.inl rfl
  | succ k ih =>
    intro n R h h0
    show (if zbit (vA G St Go F p R 10) r = true then n else pN G St Go F p r k (n + 1) (vA G St Go F p R)) = 0 ∨ (n ≤ (if zbit (vA G St Go F p R 10) r = true then n else pN G St Go F p r k (n + 1) (vA G St Go F p R)) ∧ (if zbit (vA G St Go F p R 10) r = true then n else pN G St Go F p r k (n + 1) (vA G St Go F p R)) ≤ 1000)
    split
    · omega
    · rcases ih (n + 1) (vA G St Go F p R) (by omega) (by omega) with h1 | h1 <;> omega
theorem pN_succ (r k n : Nat) (R : Nat → Int32) : pN G St Go F p r (k + 1) n R = if zbit (vA G St Go F p R 10) r = true then n else pN G St Go F p r k (n + 1) (vA G St Go F p R) := rfl
theorem wL_succ (k n : Nat) (R : Nat → Int32) : wL G St Go F p (k + 1) n R = if vA G St Go F p R 11 = 0 then (if vA G St Go F p R 8 ||| vA G St Go F p R 9 = 0 then n else wL G St Go F p k (n + 1) (vA G St Go F p R)) else 1000 := rfl
theorem pQ_le (r k n : Nat) (R : Nat → Int32) (h : n + k ≤ 1001) (h0 : 0 < n) : pQ (pN G St Go F p r k n R) ≤ 1000 := by
  unfold pQ
  rcases pN_le (G := G) (St := St) (Go := Go) (F := F) (p := p) (r := r) k n R h h0 with h1 | h1
  · rw [h1]; decide
  · rw [if_neg (by omega)]; exact h1.2
theorem vIn_or (R : Nat → Int32) : (R 8 ||| R 9 = 0) ↔ ∀ r, r < 32 → vIn R r = false := by
  rw [zbit_eq0]
  constructor
  · intro h r hr
    have := h r hr
    rw [zbit_or] at this
    exact this
  · intro h r hr
    rw [zbit_or]
    exact h r hr
theorem wL_spec : ∀ (k n : Nat) (R : Nat → Int32), n + k = 1001 → 0 < n → vDis R → (∃ r, r < 32 ∧ vIn R r = true) →
    (∃ r, r < 32 ∧ vIn R r = true ∧ pQ (pN G St Go F p r k n R) = wL G St Go F p k n R) ∧ (∀ r, r < 32 → vIn R r = true → pQ (pN G St Go F p r k n R) ≤ wL G St Go F p k n R) ∧ n ≤ wL G St Go F p k n R + 1 := by
  intro k
  induction k with
  | zero =>
    intro n R hn h0 _ ⟨r, h1, h2⟩
    exact ⟨⟨r, h1, h2, rfl⟩, fun r _ _ => Nat.le_refl 1000, by show n ≤ 1000 + 1; omega⟩
  | succ k ih =>
    intro n R hn h0 hD ⟨r0, hr0, hin0⟩
    have hg := vA_go (G := G) (St := St) (Go := Go) (F := F) (p := p) R
    have hD' := vDis_go hg hD
    have ih2 := ih (n + 1) (vA G St Go F p R) (by omega) (by omega) hD'
    have hout := fun r hr => pN_out (G := G) (St := St) (Go := Go) (F := F) (p := p) (r := r) hr k (n + 1) (vA G St Go F p R)
    have hqle := fun r => pQ_le (G := G) (St := St) (Go := Go) (F := F) (p := p) r (k + 1) n R (by omega) h0
    rw [wL_succ]
    by_cases c11 : vA G St Go F p R 11 = 0
    · rw [if_pos c11]
      have b11 : ∀ r, zbit (vA G St Go F p R 11) r = false := fun r => by rw [c11, zbit_zero]
      by_cases ce : vA G St Go F p R 8 ||| vA G St Go F p R 9 = 0
      · rw [if_pos ce]
        have hall : ∀ r, r < 32 → vIn R r = true → pQ (pN G St Go F p r (k + 1) n R) = n := fun r hr hin => by
          obtain ⟨g8, g9, g10, g11, g12⟩ := hg r hr
          have hno := (vIn_or _).mp ce r hr
          unfold vIn at hno hin
          simp only [Bool.or_eq_false_iff] at hno
          rw [g8, g9, b11 r] at hno
          have b12 : zbit (vA G St Go F p R 12) r = false := by
            cases hz : zbit (vA G St Go F p R 12) r with
            | false => rfl
            | true => rw [hz] at hno; simp at hno
          rw [b12] at hno
          simp only [Bool.not_false, Bool.and_true, Bool.or_false] at hno
          have b10 : zbit (vA G St Go F p R 10) r = true := by
            cases hz : zbit (vA G St Go F p R 10) r with
            | true => rfl
            | false => rw [hz] at hno; rw [hno.2] at hin; simp only [Bool.not_false, Bool.and_true] at hno; rw [hno.1] at hin; cases hin
          rw [pN_succ, b10, if_pos rfl]
          unfold pQ
          rw [if_neg (by omega)]
        exact ⟨⟨r0, hr0, hin0, hall r0 hr0 hin0⟩, fun r hr hin => Nat.le_of_eq (hall r hr hin), by omega⟩
      · rw [if_neg ce]
        have hne : ∃ r, r < 32 ∧ vIn (vA G St Go F p R) r = true := by
          cases hz : zany (vIn (vA G St Go F p R)) 32 with
          | true => exact (zany_iff _ _).mp hz
          | false => exact absurd ((vIn_or _).mpr (zany_no.mp hz)) ce
        obtain ⟨⟨r1, hr1, hin1, hq1⟩, hle, hn1⟩ := ih2 hne
        have keep : ∀ r, r < 32 → vIn (vA G St Go F p R) r = true → vIn R r = true ∧ zbit (vA G St Go F p R 10) r = false := fun r hr hin => by
          obtain ⟨g8, g9, g10, g11, g12⟩ := hg r hr
          have hinR : vIn R r = true := by
            cases hz : vIn R r with
            | true => rfl
            | false => rw [(vIn_go hg hr hz).1] at hin; cases hin
          refine ⟨hinR, ?_⟩
          cases hz : zbit (vA G St Go F p R 10) r with
          | false => rfl
          | true =>
            have hA := g10 hz
            have hW : zbit (R 9) r = false := by
              cases hw : zbit (R 9) r with
              | false => rfl
              | true => exact (hD r hr hA hw).elim
            have b12 : zbit (vA G St Go F p R 12) r = false := by
              cases hw : zbit (vA G St Go F p R 12) r with
              | false => rfl
              | true => rw [g12 hw] at hW; cases hW
            unfold vIn at hin
            rw [g8, g9, hz, hW, b12] at hin
            simp at hin
        refine ⟨⟨r1, hr1, (keep r1 hr1 hin1).1, ?_⟩, fun r hr hin => ?_, by omega⟩
        · rw [pN_succ, (keep r1 hr1 hin1).2, if_neg (by decide)]
          exact hq1
        · rw [pN_succ]
          cases hz : zbit (vA G St Go F p R 10) r with
          | true =>
            rw [if_pos rfl]
            unfold pQ
            rw [if_neg (by omega)]
            omega
          | false =>
            rw [if_neg (by decide)]
            cases hi : vIn (vA G St Go F p R) r with
            | true => exact hle r hr hi
            | false =>
              exfalso
              obtain ⟨g8, g9, g10, g11, g12⟩ := hg r hr
              unfold vIn at hi hin
              simp only [Bool.or_eq_false_iff] at hi
              rw [g8, g9, b11 r, hz] at hi
              have b12 : zbit (vA G St Go F p R 12) r = false := by
                cases hw : zbit (vA G St Go F p R 12) r with
                | false => rfl
                | true => rw [hw] at hi; simp at hi
              rw [b12] at hi
              simp only [Bool.not_false, Bool.and_true, Bool.or_false] at hi
              rw [hi.1, hi.2] at hin
              cases hin
    · rw [if_neg c11]
      obtain ⟨r1, hr1, hz1⟩ : ∃ r, r < 32 ∧ zbit (vA G St Go F p R 11) r = true := by
        cases hz : zany (zbit (vA G St Go F p R 11)) 32 with
        | true => exact (zany_iff _ _).mp hz
        | false => exact absurd ((zbit_eq0 _).mpr (zany_no.mp hz)) c11
      obtain ⟨g8, g9, g10, g11, g12⟩ := hg r1 hr1
      obtain ⟨hA, h10⟩ := g11 hz1
      have hW : zbit (R 9) r1 = false := by
        cases hw : zbit (R 9) r1 with
        | false => rfl
        | true => exact (hD r1 hr1 hA hw).elim
      have b12 : zbit (vA G St Go F p R 12) r1 = false := by
        cases hw : zbit (vA G St Go F p R 12) r1 with
        | false => rfl
        | true => rw [g12 hw] at hW; cases hW
      have hno : vIn (vA G St Go F p R) r1 = false := by
        unfold vIn
        rw [g8, g9, hW, b12, hz1]
        simp
      refine ⟨⟨r1, hr1, by unfold vIn; rw [hA]; rfl, ?_⟩, fun r hr hin => hqle r, by omega⟩
      rw [pN_succ, h10, if_neg (by decide), hout r1 hr1 hno]
      rfl
theorem vA_ok {o : Nat} {R : Nat → Int32} (hF : 2 ≤ F) (hF10 : F ≤ 10) (hR : rOK F o R) : rOK F (o + 1) (vA G St Go F p R) := by
  obtain ⟨h, h9, h0⟩ := hR.1
  have e : (R 0).toNatClampNeg = h := by rw [h0]; exact zi_nat (by omega)
  unfold vA
  rw [e]
  exact vAdv_ok hF hF10 hR h0 h9
theorem vA_eq {o : Nat} {R : Nat → Int32} (hF10 : F ≤ 10) (hR : rOK F o R) : ∃ h, h + 2 ≤ 2 * F ∧ R 0 = zi h ∧ vA G St Go F p R = vAdv G St Go F p h R := by
  obtain ⟨h, h9, h0⟩ := hR.1
  have e : (R 0).toNatClampNeg = h := by rw [h0]; exact zi_nat (by omega)
  exact ⟨h, h9, h0, by unfold vA; rw [e]⟩
end WO
def vLike (T R : Nat → Int32) : Nat → Int32 := up (up (up (up (up (up (up (up T 0 (R 0)) 1 (R 1)) 2 (R 2)) 3 (R 3)) 4 (R 4)) 7 (R 7)) 8 (R 8)) 9 (R 9)
section WC
variable {N F p : Nat} {st : zS}
theorem c_becomeLike {a : Nat} (ha : a ≠ 9) (hb : st a 7 = 0 ∨ st a 7 = 1) : zf_Ca_becomeLike N 9 a st = some (zr st 9 (vLike (st 9) (st a))) := by
  unfold zf_Ca_becomeLike
  rw [if_neg (Ne.symm ha), if_pos hb]
  simp only [zp_zr, zr_at, zr_zr]
  rfl
theorem c_vA {a o : Nat} {R : Nat → Int32} (ha : 5 ≤ a) (hN : 30 ≤ N) (hF : st 1 2 = zi F) (hF10 : F ≤ 10) (hp : st 1 3 = zi p) (hp9 : p < 100000) (hR : rOK F o R) : zf_Ca_advance N a (zr st a R) = some (zr st a (vA (st 1) (st 2) (st 3) F p R)) := by
  obtain ⟨h, h9, h0, e⟩ := vA_eq (G := st 1) (St := st 2) (Go := st 3) (p := p) hF10 hR
  rw [e]
  exact c_advance ha hN hF hF10 hp hp9 h0 (by omega)
theorem c_worstLoop (hN : 30 ≤ N) (hF : st 1 2 = zi F) (hF2 : 2 ≤ F) (hF10 : F ≤ 10) (hp : st 1 3 = zi p) (hp9 : p < 100000) :
    ∀ (k n f o : Nat) (R : Nat → Int32), n + k = 1001 → 0 < n → k < f → rOK F o R → ∃ R', zf_LG_worstWith_46 N f (zi n) (zr st 9 R) = some (zi (wL (st 1) (st 2) (st 3) F p k n R), zr st 9 R') := by
  intro k
  induction k with
  | zero =>
    intro n f o R hn h0 hf hR
    obtain ⟨f, rfl⟩ : ∃ f', f = f' + 1 := ⟨f - 1, by omega⟩
    refine ⟨R, ?_⟩
    show zb_LG_worstWith_46 N _ (zi n) _ = _
    unfold zb_LG_worstWith_46
    have : (1000 : Int32) < zi n := (zi_lt (a := 1000) (by decide) (by omega)).mpr (by omega)
    rw [if_pos this]
    rfl
  | succ k ih =>
    intro n f o R hn h0 hf hR
    obtain ⟨f, rfl⟩ : ∃ f', f = f' + 1 := ⟨f - 1, by omega⟩
    have hR' := vA_ok (G := st 1) (St := st 2) (Go := st 3) (p := p) hF2 hF10 hR
    obtain ⟨R', hr⟩ := ih (n + 1) f (o + 1) (vA (st 1) (st 2) (st 3) F p R) (by omega) (by omega) (by omega) hR'
    have hn1 : ¬ ((1000 : Int32) < zi n) := fun h => by have := (zi_lt (a := 1000) (by decide) (by omega)).mp h; omega
    have hadv := c_vA (a := 9) (by decide) hN hF hF10 hp hp9 hR
    have e : zf_LG_worstWith_46 N (f + 1) (zi n) (zr st 9 R) = if vA (st 1) (st 2) (st 3) F p R 11 = 0 then (if vA (st 1) (st 2) (st 3) F p R 8 ||| vA (st 1) (st 2) (st 3) F p R 9 = 0 then some (zi n, zr st 9 (vA (st 1) (st 2) (st 3) F p R)) else zf_LG_worstWith_46 N f (zi (n + 1)) (zr st 9 (vA (st 1) (st 2) (st 3) F p R))) else some (1000, zr st 9 (vA (st 1) (st 2) (st 3) F p R)) := by
      show zb_LG_worstWith_46 N _ (zi n) _ = _
      unfold zb_LG_worstWith_46
      rw [if_neg hn1, hadv]
      simp only [Option.bind_some, zr_at, c_hasRiders, zi_succ]
      by_cases c1 : vA (st 1) (st 2) (st 3) F p R 11 = 0
      · rw [if_pos c1, if_pos c1]
        by_cases c2 : vA (st 1) (st 2) (st 3) F p R 8 ||| vA (st 1) (st 2) (st 3) F p R 9 = 0
        · simp [c2]
        · simp [c2]
      · rw [if_neg c1, if_neg c1]
    rw [e, wL_succ]
    by_cases c1 : vA (st 1) (st 2) (st 3) F p R 11 = 0
    · rw [if_pos c1, if_pos c1]
      by_cases c2 : vA (st 1) (st 2) (st 3) F p R 8 ||| vA (st 1) (st 2) (st 3) F p R 9 = 0
      · rw [if_pos c2, if_pos c2]; exact ⟨_, rfl⟩
      · rw [if_neg c2, if_neg c2]; exact ⟨R', hr⟩
    · rw [if_neg c1, if_neg c1]; exact ⟨_, rfl⟩
def wC (G St Go : Nat → Int32) (F p : Nat) (fa : Int32) (R : Nat → Int32) : Nat := if R 8 ||| R 9 = 0 then 0 else if fa = 0 then wL G St Go F p 1000 1 R else 1000
theorem c_worstWith {a o : Nat} {x : Int32} (ha : 5 ≤ a) (ha9 : a ≠ 9) (hN : 1010 ≤ N) (hF : st 1 2 = zi F) (hF2 : 2 ≤ F) (hF10 : F ≤ 10) (hp : st 1 3 = zi p) (hp9 : p < 100000) (hR : rOK F o (st a)) (hb : st a 7 = 0 ∨ st a 7 = 1) :
    ∃ R', zf_LG_worstWith N a x st = some (zi (wC (st 1) (st 2) (st 3) F p (st a 6) (up (vLike (st 9) (st a)) 9 (st a 9 ||| x))), zr st 9 R') := by
  unfold zf_LG_worstWith wC
  rw [c_becomeLike ha9 hb]
  simp only [Option.bind_some, zr_zp, zr_at, c_hasRiders]
  have e9 : vLike (st 9) (st a) 9 = st a 9 := by simp [vLike, up]
  rw [e9]
  obtain ⟨T, hT⟩ : ∃ T, T = up (vLike (st 9) (st a)) 9 (st a 9 ||| x) := ⟨_, rfl⟩
  rw [← hT]
  have hRT : rOK F o T := by
    obtain ⟨h1, h2, h3, h4⟩ := hR
    rw [hT]
    refine ⟨?_, ?_, ?_, ?_⟩
    · simpa [vLike, up] using h1
    · simpa [vLike, up] using h2
    · simpa [vLike, up] using h3
    · simpa [vLike, up] using h4
  by_cases c1 : T 8 ||| T 9 = 0
  · rw [if_pos c1, if_pos rfl, if_pos c1]; exact ⟨T, rfl⟩
  · rw [if_neg c1, if_neg (by decide), if_neg c1, zr_ne st _ ha9]
    by_cases c2 : st a 6 = 0
    · rw [if_pos c2, if_pos c2]
      exact c_worstLoop (by omega) hF hF2 hF10 hp hp9 1000 1 N o T (by omega) (by omega) (by omega) hRT
    · rw [if_neg c2, if_neg c2]; exact ⟨T, rfl⟩
end WC
