section OC
variable {N F p m n t k o c j : Nat} {T : Nat → Bool} {sc sr : zS}
theorem c_isFloor_ok {f : Nat} (hF : sc 1 2 = zi F) (hF10 : F ≤ 10) (hf : f < F) : zf_LG_isFloor N (zi f) sc = some (1, sc) := by
  unfold zf_LG_isFloor zf_LG_isFloor_20
  rw [if_neg (zi_neg (by omega)), hF, if_neg (fun h => by have := (zi_le (by omega) (by omega)).mp h; omega)]
  simp
theorem c_isFloor_no {a : Int32} (hF : sc 1 2 = zi F) (h : a < 0 ∨ ¬ a < zi F) : zf_LG_isFloor N a sc = some (0, sc) := by
  unfold zf_LG_isFloor zf_LG_isFloor_19 zf_LG_isFloor_20
  rw [hF]
  by_cases h0 : a < 0
  · rw [if_pos h0]; simp
  · rw [if_neg h0, if_pos (by rw [← Int32.not_lt]; exact h.resolve_left h0)]; simp
def uBc (sc : zS) : Nat → Bool := fun c => decide (iU sc c)
theorem c_any (hm : m ≤ 4) (h5 : sc 0 5 = zi m) : ∀ (kk i f : Nat), i + kk = m → kk < f → zany (uBc sc) i = false → zf_LG_anyUsable_2 N f (zi i) sc = some (if zany (uBc sc) m = true then 1 else 0, sc) := by
  intro kk
  induction kk with
  | zero =>
    intro i f hi hf hz
    obtain ⟨f, rfl⟩ : ∃ f', f = f' + 1 := ⟨f - 1, by omega⟩
    have : i = m := by omega
    subst this
    show zb_LG_anyUsable_2 N _ _ _ = _
    unfold zb_LG_anyUsable_2
    rw [h5, if_pos (Int32.le_refl _), hz]
    rfl
  | succ kk ih =>
    intro i f hi hf hz
    obtain ⟨f, rfl⟩ : ∃ f', f = f' + 1 := ⟨f - 1, by omega⟩
    show zb_LG_anyUsable_2 N _ _ _ = _
    unfold zb_LG_anyUsable_2
    have g : ¬ (zi m ≤ zi i) := fun h => by have := (zi_le (by omega) (by omega)).mp h; omega
    have i4 : ¬ (zi i < 0 ∨ 4 ≤ i) := zi_inn (by omega) (by decide)
    rw [h5, if_neg g]
    simp only [zi_nat (show i < 2147483648 by omega), i4, if_false, zi_succ, c_isUsable, Option.bind_some]
    by_cases hu : iU sc i
    · have hu' : sc (5 + i) 5 = 0 ∧ sc (5 + i) 6 = 0 ∧ sc 1 4 = 0 := hu
      have : zany (uBc sc) m = true := (zany_iff _ _).mpr ⟨i, by omega, by unfold uBc; exact decide_eq_true hu⟩
      simp [hu', this]
    · have hu' : ¬ (sc (5 + i) 5 = 0 ∧ sc (5 + i) 6 = 0 ∧ sc 1 4 = 0) := hu
      rw [if_neg hu']
      simp only [if_true]
      refine ih (i + 1) f (by omega) (by omega) ?_
      rw [zany_no] at hz ⊢
      intro r hr
      by_cases e : r = i
      · subst e; unfold uBc; exact decide_eq_false hu
      · exact hz r (by omega)
theorem zany_succ (q : Nat → Bool) (i : Nat) : zany q (i + 1) = true ↔ (zany q i = true ∨ q i = true) := by
  rw [zany_iff, zany_iff]
  constructor
  · rintro ⟨r, h1, h2⟩
    by_cases e : r = i
    · subst e; exact Or.inr h2
    · exact Or.inl ⟨r, by omega, h2⟩
  · rintro (⟨r, h1, h2⟩ | h)
    · exact ⟨r, by omega, h2⟩
    · exact ⟨i, by omega, h⟩
def uM (sr : zS) : Nat → Bool := fun c => decide (sr 46 c = 0 ∧ sr 47 c = 0 ∧ sr 40 12 = 0)
theorem m_any {l1 l2 l3 : Int32} (hm : m ≤ 4) (h2 : sr 40 2 = zi m) : ∀ (kk i f : Nat), i + kk = m → kk < f → zf_Mo_call_45 N f l1 l2 l3 (if zany (uM sr) i = true then 1 else 0) (zi i) sr = zf_Mo_call_93 N l1 l2 (if zany (uM sr) m = true then 0 else 1) l3 sr := by
  intro kk
  induction kk with
  | zero =>
    intro i f hi hf
    obtain ⟨f, rfl⟩ : ∃ f', f = f' + 1 := ⟨f - 1, by omega⟩
    have : i = m := by omega
    subst this
    show zb_Mo_call_45 N _ _ _ _ _ _ _ = _
    unfold zb_Mo_call_45
    rw [h2, if_pos (Int32.le_refl _)]
    cases zany (uM sr) i <;> simp
  | succ kk ih =>
    intro i f hi hf
    obtain ⟨f, rfl⟩ : ∃ f', f = f' + 1 := ⟨f - 1, by omega⟩
    have ih' := ih (i + 1) f (by omega) (by omega)
    show zb_Mo_call_45 N _ _ _ _ _ _ _ = _
    unfold zb_Mo_call_45 zf_Mo_call_68 zf_Mo_call_73
    have g : ¬ (zi m ≤ zi i) := fun h => by have := (zi_le (by omega) (by omega)).mp h; omega
    rw [h2, if_neg g]
    simp only [m_isUsable (N := N) (s := sr) (show i < 5 by omega), Option.bind_some, zi_succ]
    rw [← ih']
    cases hz : zany (uM sr) i with
    | true =>
      have : zany (uM sr) (i + 1) = true := (zany_succ _ _).mpr (Or.inl hz)
      simp [this]
    | false =>
      by_cases hu : sr 46 i = 0 ∧ sr 47 i = 0 ∧ sr 40 12 = 0
      · have : zany (uM sr) (i + 1) = true := (zany_succ _ _).mpr (Or.inr (by unfold uM; exact decide_eq_true hu))
        simp [this, hu]
      · have : zany (uM sr) (i + 1) = false := by
          cases h : zany (uM sr) (i + 1) with
          | false => rfl
          | true =>
            rcases (zany_succ _ _).mp h with h | h
            · rw [hz] at h; cases h
            · unfold uM at h; exact absurd (of_decide_eq_true h) hu
        simp [this, hu]
theorem uBM (hI : zInv F p m n t k o T sc sr) : zany (uBc sc) m = zany (uM sr) m := by
  have : ∀ c, c < m → uBc sc c = uM sr c := fun c hc => by
    obtain ⟨⟨d0, d1, d2, d3, d4, d5, d6, d7⟩, -⟩ := hI.2.2.2.1 c hc
    unfold uBc uM iU
    rw [d5, d6, hI.1.2.2.2.1.1]
  cases h : zany (uM sr) m with
  | true =>
    obtain ⟨r, h1, h2⟩ := (zany_iff _ _).mp h
    exact (zany_iff _ _).mpr ⟨r, h1, by rw [this r h1]; exact h2⟩
  | false =>
    rw [zany_no] at h ⊢
    intro r hr
    rw [this r hr]; exact h r hr
def cNR (n f g : Nat) (t : Nat) (s : zS) : zS := zp (zp (zp (zp (zp (zp (zp (zp (zp s 0 6 (zi (n + 1))) (11 + n) 0 (zi f)) (11 + n) 1 (zi g)) (11 + n) 2 0) (11 + n) 3 (-1)) (11 + n) 4 (zi t)) (11 + n) 5 0) 2 f (s 2 f ||| (1 <<< (zi n &&& 31)))) 3 g (s 3 g ||| (1 <<< (zi n &&& 31)))
def mNR (n f g : Nat) (t : Nat) (s : zS) : zS := zp (zp (zp (zp (zp (zp (zp s 49 n 0) 50 n (-1)) 51 n (zi f)) 52 n (zi g)) 53 n (zi t)) 54 n 0) 40 19 (zi (n + 1))
theorem cNR_row {f g : Nat} {s : zS} {q : Nat} (h0 : q ≠ 0) (h1 : q ≠ 11 + n) (h2 : q ≠ 2) (h3 : q ≠ 3) : cNR n f g t s q = s q := by
  unfold cNR
  rw [zp_row _ _ h3, zp_row _ _ h2, zp_row _ _ h1, zp_row _ _ h1, zp_row _ _ h1, zp_row _ _ h1, zp_row _ _ h1, zp_row _ _ h1, zp_row _ _ h0]
theorem cNR_0 {f g : Nat} {s : zS} {i : Nat} (h : i ≠ 6) : cNR n f g t s 0 i = s 0 i := by
  unfold cNR
  rw [zp_q _ _ (by decide), zp_q _ _ (by decide), zp_q _ _ (by omega), zp_q _ _ (by omega), zp_q _ _ (by omega), zp_q _ _ (by omega), zp_q _ _ (by omega), zp_q _ _ (by omega), zp_o _ _ h]
theorem mNR_row {f g : Nat} {s : zS} {q : Nat} (h : q ≠ 40) (h1 : q < 49 ∨ 54 < q) : mNR n f g t s q = s q := by
  unfold mNR
  rw [zp_row _ _ h, zp_row _ _ (by omega), zp_row _ _ (by omega), zp_row _ _ (by omega), zp_row _ _ (by omega), zp_row _ _ (by omega), zp_row _ _ (by omega)]
theorem mNR_40 {f g : Nat} {s : zS} {i : Nat} (h : i ≠ 19) : mNR n f g t s 40 i = s 40 i := by
  unfold mNR
  rw [zp_o _ _ h, zp_q _ _ (by omega), zp_q _ _ (by omega), zp_q _ _ (by omega), zp_q _ _ (by omega), zp_q _ _ (by omega), zp_q _ _ (by omega)]
theorem mNR_o {f g : Nat} {s : zS} {q i : Nat} (h : i ≠ n) (hq : q ≠ 40) : mNR n f g t s q i = s q i := by
  unfold mNR zp
  simp only [h, and_false, if_false, hq, false_and]
theorem zInv_rider {f g : Nat} (hI : zInv F p m n t k o (fun _ => false) sc sr) (hn : n < 24) (hf : f < F) (hg : g < F) : zInv F p m (n + 1) t k o (fun r => decide (r = n)) (cNR n f g t sc) (mNR n f g t sr) := by
  obtain ⟨⟨⟨f2, f10, p1, p5, m1, m4, n24⟩, s2, s3, s4, s5, s6, s7⟩, hR, hH, hC, hN, hT, hL, hA⟩ := hI
  have r49 : mNR n f g t sr 49 n = 0 := by simp [mNR, zp]
  have r50 : mNR n f g t sr 50 n = -1 := by simp [mNR, zp]
  have r51 : mNR n f g t sr 51 n = zi f := by simp [mNR, zp]
  have r52 : mNR n f g t sr 52 n = zi g := by simp [mNR, zp]
  have r53 : mNR n f g t sr 53 n = zi t := by simp [mNR, zp]
  have r54 : mNR n f g t sr 54 n = 0 := by simp [mNR, zp]
  have q1 : cNR n f g t sc 1 = sc 1 := cNR_row (by decide) (by omega) (by decide) (by decide)
  refine ⟨⟨⟨f2, f10, p1, p5, m1, m4, by omega⟩, ?_, ?_, ?_, ?_, ⟨?_, ?_⟩, ?_⟩, fun r hr => ?_, fun f' r hf' => ?_, fun c' hc' => ?_, fun r => ?_, fun r hr => ?_, ?_, ?_⟩
  · rw [q1, mNR_40 (by decide)]; exact s2
  · rw [q1, mNR_40 (by decide)]; exact s3
  · rw [q1, mNR_40 (by decide)]; exact s4
  · rw [cNR_0 (by decide), mNR_40 (by decide)]; exact s5
  · unfold cNR
    rw [zp_q _ _ (by decide), zp_q _ _ (by decide), zp_q _ _ (by omega), zp_q _ _ (by omega), zp_q _ _ (by omega), zp_q _ _ (by omega), zp_q _ _ (by omega), zp_q _ _ (by omega), zp_s]
  · unfold mNR; rw [zp_s]
  · rw [cNR_0 (by decide), mNR_40 (by decide)]; exact s7
  · by_cases e : r = n
    · subst e
      rw [r49, r50, r51, r52, r53, r54]
      have x2 : ¬ (11 + r = 2) := by omega
      have x3 : ¬ (11 + r = 3) := by omega
      refine ⟨⟨?_, ?_, ?_, ?_, ?_, ?_⟩, Or.inl rfl, Or.inl rfl⟩ <;> simp [cNR, zp, x2, x3]
    · rw [cNR_row (by omega) (by omega) (by omega) (by omega), mNR_o e (by decide), mNR_o e (by decide), mNR_o e (by decide), mNR_o e (by decide), mNR_o e (by decide), mNR_o e (by decide)]
      exact hR r (by omega)
  · have h2 : cNR n f g t sc 2 f' = if f' = f then (sc 2 f ||| (1 <<< (zi n &&& 31))) else sc 2 f' := by
      unfold cNR
      rw [zp_q _ _ (by decide)]
      by_cases e : f' = f
      · subst e; rw [zp_s, if_pos rfl]
      · rw [zp_o _ _ e, if_neg e, zp_q _ _ (by omega), zp_q _ _ (by omega), zp_q _ _ (by omega), zp_q _ _ (by omega), zp_q _ _ (by omega), zp_q _ _ (by omega), zp_q _ _ (by omega)]
    have h3 : cNR n f g t sc 3 f' = if f' = g then (sc 3 g ||| (1 <<< (zi n &&& 31))) else sc 3 f' := by
      unfold cNR
      by_cases e : f' = g
      · subst e; rw [zp_s, if_pos rfl]
      · rw [zp_o _ _ e, if_neg e, zp_q _ _ (by omega), zp_q _ _ (by omega), zp_q _ _ (by omega), zp_q _ _ (by omega), zp_q _ _ (by omega), zp_q _ _ (by omega), zp_q _ _ (by omega), zp_q _ _ (by omega)]
    have old := hH f' r hf'
    have bn : ∀ a b : Nat, a < 10 → b < 10 → (zi a = zi b ↔ a = b) := fun a b h1 h2 => zi_eq (by omega) (by omega)
    rw [h2, h3]
    by_cases e : r = n
    · subst e
      rw [r51, r52]
      simp only [show r < r + 1 by omega, decide_true, Bool.true_and, Nat.lt_irrefl, decide_false, Bool.false_and] at old ⊢
      constructor
      · by_cases e : f' = f
        · subst e; rw [if_pos rfl, zbit_or, zbit_shl (by omega)]; simp
        · rw [if_neg e, old.1, eq_comm, decide_eq_false_iff_not, bn f f' (by omega) hf']; omega
      · by_cases e : f' = g
        · subst e; rw [if_pos rfl, zbit_or, zbit_shl (by omega)]; simp
        · rw [if_neg e, old.2, eq_comm, decide_eq_false_iff_not, bn g f' (by omega) hf']; omega
    · rw [mNR_o e (by decide), mNR_o e (by decide)]
      have e1 : decide (r < n + 1) = decide (r < n) := by
        by_cases h : r < n
        · simp [h, show r < n + 1 by omega]
        · simp [h, show ¬ r < n + 1 by omega]
      rw [e1, ← old.1, ← old.2]
      constructor
      · by_cases e' : f' = f
        · subst e'; rw [if_pos rfl, zbit_or, zbit_shl (by omega)]; simp [e]
        · rw [if_neg e']
      · by_cases e' : f' = g
        · subst e'; rw [if_pos rfl, zbit_or, zbit_shl (by omega)]; simp [e]
        · rw [if_neg e']
  · obtain ⟨d1, d2, d3, d4, d5, d6⟩ := hC c' hc'
    unfold iC1 iU
    rw [cNR_row (q := 5 + c') (by omega) (by omega) (by omega) (by omega), q1, mNR_row (q := 41) (by decide) (by omega), mNR_row (q := 42) (by decide) (by omega), mNR_row (q := 43) (by decide) (by omega), mNR_row (q := 44) (by decide) (by omega), mNR_row (q := 45) (by decide) (by omega), mNR_row (q := 46) (by decide) (by omega), mNR_row (q := 47) (by decide) (by omega), mNR_row (q := 48) (by decide) (by omega)]
    refine ⟨d1, d2, d3, fun r => ?_, fun r => ?_, d6⟩
    · rw [d4]
      unfold mA
      by_cases e : r = n
      · subst e; simp [r49]
      · rw [Nat.zero_add, mNR_o e (by decide), mNR_o e (by decide)]
        by_cases h : r < n
        · simp [h, show r < n + 1 by omega]
        · simp [h, show ¬ r < n + 1 by omega]
    · rw [d5]
      unfold mW
      by_cases e : r = n
      · subst e; simp
      · rw [Nat.zero_add, mNR_o e (by decide), mNR_o e (by decide)]
        by_cases h : r < n
        · simp [h, show r < n + 1 by omega, e]
        · simp [h, show ¬ r < n + 1 by omega]
  · rw [cNR_0 (by decide), hN]
    by_cases e : r = n
    · subst e; simp
    · rw [mNR_o e (by decide), mNR_o e (by decide)]
      by_cases h : r < n
      · simp [h, show r < n + 1 by omega, e]
      · simp [h, show ¬ r < n + 1 by omega]
  · have e : r = n := of_decide_eq_true hr
    subst e
    exact ⟨by omega, r49, Or.inl r50⟩
  · obtain ⟨a, b, d⟩ := hL
    refine ⟨by rw [cNR_row (by decide) (by omega) (by decide) (by decide)]; exact a, by rw [mNR_40 (by decide)]; exact b, fun i hi => ?_⟩
    rw [cNR_row (q := 36) (by decide) (by omega) (by decide) (by decide), cNR_row (q := 37) (by decide) (by omega) (by decide) (by decide), cNR_row (q := 38) (by decide) (by omega) (by decide) (by decide), cNR_row (q := 39) (by decide) (by omega) (by decide) (by decide), mNR_row (q := 55) (by decide) (by omega)]
    exact d i hi
  · obtain ⟨a, b, d⟩ := hA
    have x0 : ¬ ((0 : Int32) = 2) := by decide
    have y9 : ∀ r, r < n → mNR n f g t sr 49 r = sr 49 r := fun r hr => mNR_o (by omega) (by decide)
    have y4 : ∀ r, r < n → mNR n f g t sr 54 r = sr 54 r := fun r hr => mNR_o (by omega) (by decide)
    unfold iA
    rw [cNR_0 (by decide), cNR_0 (by decide), cNR_0 (by decide), a, b, d]
    refine ⟨?_, ?_, ?_⟩
    · show _ = if mNR n f g t sr 49 n = 2 then _ else _
      rw [r49, if_neg x0, aC_congr y9]
    · show _ = if mNR n f g t sr 49 n = 2 then _ else _
      rw [r49, if_neg x0, aM_congr y9 y4]
    · show _ = if mNR n f g t sr 49 n = 2 then _ else _
      rw [r49, if_neg x0, aS_congr y9 y4]
theorem c_come {f g : Nat} (hf : f < 10) (hg : g < 10) (hn : n < 24) {s : zS} : ((zf_Ri_begin N (11 + n) (zi f) (zi g) (zi t) (zp s 0 6 (zi (n + 1)))).bind fun t94 => zf_Ho_addRider N (1 <<< (zi n &&& 31)) (zi f) (zi g) t94) = some (cNR n f g t s) := by
  unfold zf_Ri_begin zf_Ho_addRider cNR
  have i1 : ¬ (zi f < 0 ∨ 10 ≤ f) := zi_inn (by omega) (by decide)
  have i2 : ¬ (zi g < 0 ∨ 10 ≤ g) := zi_inn (by omega) (by decide)
  simp only [Option.bind_some, zi_nat (show f < 2147483648 by omega), zi_nat (show g < 2147483648 by omega), i1, i2, if_false]
  have h2 : ∀ (x : Nat), 2 ≠ 11 + x := fun x => by omega
  have h3 : ∀ (x : Nat), 3 ≠ 11 + x := fun x => by omega
  congr 2
  · congr 1
    rw [zp_q _ _ (h2 n), zp_q _ _ (h2 n), zp_q _ _ (h2 n), zp_q _ _ (h2 n), zp_q _ _ (h2 n), zp_q _ _ (h2 n), zp_q _ _ (by decide)]
  · rw [zp_q _ _ (h3 n), zp_q _ _ (h3 n), zp_q _ _ (h3 n), zp_q _ _ (h3 n), zp_q _ _ (h3 n), zp_q _ _ (h3 n), zp_q _ _ (by decide)]
theorem zp_zp (s : zS) (q i : Nat) (v w : Int32) : zp (zp s q i v) q i w = zp s q i w := by
  funext a b; unfold zp; split <;> rfl
theorem op_call (hN : 1010 ≤ N) (hj : j ≤ 600) (a b : Int32) : zOp j (zf_LG_call N a b) (zf_Mo_call N a b) (fun x => x = 0 ∨ x = 1 ∨ x = 2 ∨ x = 3) (fun x => if x = 0 then 0 else if x = 1 then 1 else if x = 2 then 2 else 3) := by
  intro sc sr hI2
  obtain ⟨F, p, m, n, t, k, o, hI, ht, hk, ho⟩ := id hI2
  obtain ⟨⟨f2, f10, p1, p5, m1, m4, n24⟩, s2, s3, s4, s5, s6, s7⟩ := id hI.1
  have x1 : ¬ ((1 : Int32) = 0) := by decide
  have any0 : ∀ l3 : Int32, zf_Mo_call_38 N a b l3 sr = zf_Mo_call_93 N a b (if zany (uM sr) m = true then 0 else 1) l3 sr := fun l3 => by
    unfold zf_Mo_call_38
    exact m_any (N := N) (l1 := a) (l2 := b) (l3 := l3) m4 s5.2 m 0 N (by omega) (by omega)
  have r33 : zf_Mo_call_33 N a b sr = some (0, zp sr 40 0 1) := by
    unfold zf_Mo_call_33
    rw [any0]
    unfold zf_Mo_call_93
    simp only [m_refuse, Option.bind_some, x1, if_false]
  have bad : zf_LG_call N a b sc = some (1, 0, sc) → zf_Mo_call N a b sr = some (0, zp sr 40 0 1) → _ := fun h1 h2 => zOp_no (fC := zf_LG_call N a b) (fM := zf_Mo_call N a b) (okc := fun x => x = 0 ∨ x = 1 ∨ x = 2 ∨ x = 3) (cv := fun x => if x = 0 then 0 else if x = 1 then 1 else if x = 2 then 2 else 3) hI2 h1 h2 rfl (Or.inr (Or.inl rfl)) (fun h => absurd h (by decide))
  rcases num_cases a F (by omega) with ⟨f, hf, rfl⟩ | ⟨ha1, ha2⟩
  · have eF := c_isFloor_ok (N := N) s2.1 f10 hf
    have iF : zf_Mo_in N (zi f) 0 (sr 40 1 - 1) sr = some (1, sr) := by
      obtain ⟨w1, w2, w3⟩ := num_in (show F < 1000 by omega) hf
      rw [m_in, s2.2, if_neg w1, if_neg w3]
    rcases num_cases b F (by omega) with ⟨g, hg, rfl⟩ | ⟨hb1, hb2⟩
    · have eG := c_isFloor_ok (N := N) s2.1 f10 hg
      have iG : zf_Mo_in N (zi g) 0 (sr 40 1 - 1) sr = some (1, sr) := by
        obtain ⟨w1, w2, w3⟩ := num_in (show F < 1000 by omega) hg
        rw [m_in, s2.2, if_neg w1, if_neg w3]
      by_cases hfg : zi f = zi g
      · refine bad ?_ ?_
        · unfold zf_LG_call zf_LG_call_21
          simp only [eF, eG, Option.bind_some, x1, if_false, if_pos hfg]
        · unfold zf_Mo_call
          simp only [iF, iG, Option.bind_some, x1, if_false, if_pos hfg]
          exact r33
      · have eU : zf_LG_anyUsable N sc = some (if zany (uM sr) m = true then 1 else 0, sc) := by
          have := c_any (N := N) m4 s5.1 m 0 N (by omega) (by omega) rfl
          rw [← uBM hI]
          exact this
        have eC : zf_LG_call N (zi f) (zi g) sc = (if (if zany (uM sr) m = true then (1 : Int32) else 0) = 0 then some ((2 : Nat), (0 : Int32), sc) else (if (sc 0 6) < 24 then (if (sc 0 6) < 0 ∨ 24 ≤ (sc 0 6).toNatClampNeg then none else ((zf_Ri_begin N (11 + (sc 0 6).toNatClampNeg) (zi f) (zi g) (sc 0 8) (zp sc 0 6 ((sc 0 6) + 1))).bind fun t94 => ((zf_Ho_addRider N (1 <<< ((sc 0 6) &&& 31)) (zi f) (zi g) t94).bind fun t106 => ((zf_LG_chooseCar N (sc 0 6) t106).bind fun t111 => (if (sc 0 6) < 0 ∨ 24 ≤ (sc 0 6).toNatClampNeg then none else some ((0 : Nat), (t111 (11 + (sc 0 6).toNatClampNeg) 3), t111)))))) else some ((3 : Nat), (0 : Int32), sc))) := by
          unfold zf_LG_call
          simp only [eF, eG, eU, Option.bind_some, x1, if_false, if_neg hfg]
        have eM : zf_Mo_call N (zi f) (zi g) sr = zf_Mo_call_93 N (zi f) (zi g) (if zany (uM sr) m = true then 0 else 1) 0 sr := by
          unfold zf_Mo_call
          simp only [iF, iG, Option.bind_some, x1, if_false, if_neg hfg]
          exact any0 0
        cases hz : zany (uM sr) m with
        | false =>
          rw [hz] at eC eM
          refine zOp_no (fC := zf_LG_call N (zi f) (zi g)) (fM := zf_Mo_call N (zi f) (zi g)) (okc := fun x => x = 0 ∨ x = 1 ∨ x = 2 ∨ x = 3) (cv := fun x => if x = 0 then 0 else if x = 1 then 1 else if x = 2 then 2 else 3) hI2 (code := 2) (v := 0) (v' := 0) (x := 2) eC ?_ rfl (Or.inr (Or.inr (Or.inl rfl))) (fun h => absurd h (by decide))
          rw [eM]
          unfold zf_Mo_call_93
          rw [if_neg (by decide)]
          simp only [m_refuse, Option.bind_some, x1, if_false, if_true]
        | true =>
          rw [hz] at eC eM
          rw [if_pos rfl] at eM
          have y1 : ¬ ((if (true = true) then (1 : Int32) else 0) = 0) := by decide
          rw [if_neg y1, s6.1] at eC
          by_cases hn : n < 24
          · have hlt : zi n < 24 := (zi_lt (b := 24) (by omega) (by decide)).mpr hn
            have i24 : ¬ (zi n < 0 ∨ 24 ≤ n) := zi_inn hn (by decide)
            have i48 : ¬ (zi n < 0 ∨ 48 ≤ n) := zi_inn (by omega) (by decide)
            have hI1 := zInv_rider (zInv_thr 0 hI) hn hf hg
            obtain ⟨sc', sr', b1, b2, b3, b4, b5, b6, b7⟩ := ch_car (N := N) hN (by omega) (by omega) hI1 (x := n) (by simp)
            have come := c_come (N := N) (n := n) (t := t) (f := f) (g := g) (by omega) (by omega) hn (s := sc)
            have eT : tOff (fun r => decide (r = n)) n = fun _ => false := by
              funext r; unfold tOff; by_cases e : r = n <;> simp [e]
            rw [eT] at b3
            have eC' : zf_LG_call N (zi f) (zi g) sc = some (0, sc' (11 + n) 3, sc') := by
              rw [eC, if_pos hlt]
              simp only [zi_nat (show n < 2147483648 by omega), i24, if_false, zi_succ, s7.1]
              cases hb : zf_Ri_begin N (11 + n) (zi f) (zi g) (zi t) (zp sc 0 6 (zi (n + 1))) with
              | none => rw [hb] at come; cases come
              | some s9 =>
                rw [hb] at come
                simp only [Option.bind_some] at come ⊢
                rw [come]
                simp only [Option.bind_some]
                rw [b1]
                rfl
            have eM' : zf_Mo_call N (zi f) (zi g) sr = some (sr' 50 n, sr') := by
              rw [eM]
              unfold zf_Mo_call_93
              have z19 : zp sr 40 0 0 40 19 = zi n := by rw [zp_o _ _ (by decide)]; exact s6.2
              have z20 : zp sr 40 0 0 40 20 = zi t := by rw [zp_o _ _ (by decide)]; exact s7.2
              have ne : ¬ (zi n = 24) := fun h => by have := (zi_eq (b := 24) (by omega) (by decide)).mp h; omega
              simp only [m_refuse, Option.bind_some, if_true, z19, z20, ne, if_false, zi_nat (show n < 2147483648 by omega), i24, i48, zi_succ]
              have : zf_Mo_choose N (zi n) (mNR n f g t (zp sr 40 0 0)) = some sr' := b2
              unfold mNR at this
              rw [this]
              rfl
            have hi1 : hiF sc (cNR n f g t sc) := fun q hq => cNR_row (by omega) (by omega) (by omega) (by omega)
            refine ⟨0, _, sc', _, sr', eC', eM', Or.inl rfl, ?_, fun _ => (b3.2.1 n (by omega)).1.2.2.2.1, ⟨F, p, m, n + 1, t, k + 1, o, b3, by omega, by omega, by omega⟩, hi1.trans b4, fun q hq => ?_, ?_⟩
            · rw [b5.2.2, mNR_40 (by decide), zp_s]; rfl
            · rw [b5.1 q hq, mNR_row (by omega) (by omega), zp_row _ _ (by omega)]
            · rw [b5.2.1, mNR_row (by omega) (by omega), zp_row _ _ (by omega)]
          · have : n = 24 := by omega
            subst this
            refine zOp_no (fC := zf_LG_call N (zi f) (zi g)) (fM := zf_Mo_call N (zi f) (zi g)) (okc := fun x => x = 0 ∨ x = 1 ∨ x = 2 ∨ x = 3) (cv := fun x => if x = 0 then 0 else if x = 1 then 1 else if x = 2 then 2 else 3) hI2 (code := 3) (v := 0) (v' := 0) (x := 3) ?_ ?_ rfl (Or.inr (Or.inr (Or.inr rfl))) (fun h => absurd h (by decide))
            · rw [eC, if_neg (by decide)]
            · rw [eM]
              unfold zf_Mo_call_93
              have z19 : zp sr 40 0 0 40 19 = 24 := by rw [zp_o _ _ (by decide)]; exact s6.2
              simp only [m_refuse, Option.bind_some, if_true, z19, zp_zp]
    · refine bad ?_ ?_
      · unfold zf_LG_call zf_LG_call_21
        simp only [eF, c_isFloor_no (N := N) s2.1 hb1, Option.bind_some, x1, if_false, if_true]
      · unfold zf_Mo_call
        have iG : zf_Mo_in N b 0 (sr 40 1 - 1) sr = some (0, sr) := by
          rw [m_in, s2.2]
          by_cases h0 : b < 0
          · rw [if_pos h0]
          · rw [if_neg h0, if_pos (hb2.resolve_left h0)]
        simp only [iF, iG, Option.bind_some, x1, if_false, if_true]
        exact r33
  · refine bad ?_ ?_
    · unfold zf_LG_call zf_LG_call_21
      simp only [c_isFloor_no (N := N) s2.1 ha1, Option.bind_some, x1, if_false, if_true]
    · unfold zf_Mo_call
      have iG : zf_Mo_in N a 0 (sr 40 1 - 1) sr = some (0, sr) := by
        rw [m_in, s2.2]
        by_cases h0 : a < 0
        · rw [if_pos h0]
        · rw [if_neg h0, if_pos (ha2.resolve_left h0)]
      simp only [iG, Option.bind_some, x1, if_false, if_true]
      exact r33
end OC
