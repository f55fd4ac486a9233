section LW
variable {N j : Nat} {st : zS}
theorem zI2_r {sc sr sr' : zS} (h : zI2 j sc sr) (hr : ∀ q, 40 ≤ q → q ≠ 56 → sr' q = sr q) : zI2 j sc sr' := by
  obtain ⟨F, p, m, n, t, k, o, hI, h1, h2, h3⟩ := h
  exact ⟨F, p, m, n, t, k, o, zInv_fr hI (fun _ _ _ => rfl) (fun q i _ _ _ h4 h5 => by rw [hr q h4 (by omega)]), h1, h2, h3⟩
theorem zI2_c {sc sr sc' : zS} (h : zI2 j sc sr) (hc : ∀ q, q < 40 → sc' q = sc q) : zI2 j sc' sr := by
  obtain ⟨F, p, m, n, t, k, o, hI, h1, h2, h3⟩ := h
  exact ⟨F, p, m, n, t, k, o, zInv_fr hI (fun q hq _ => hc q hq) (fun q i _ _ _ _ _ => rfl), h1, h2, h3⟩
theorem zI2_up (h : zI2 j st st) : zI2 (j + 1) st st := by
  obtain ⟨F, p, m, n, t, k, o, hI, h1, h2, h3⟩ := h
  exact ⟨F, p, m, n, t, k, o, hI, by omega, by omega, by omega⟩
theorem law_pair {fC : zS → Option (Nat × Int32 × zS)} {fM : zS → Option (Int32 × zS)} {okc : Nat → Prop} {cv : Nat → Int32} (h : zOp j fC fM okc cv) (hI : zI2 j st st) :
    ∃ code v sc', fC st = some (code, v, sc') ∧ okc code ∧ ∀ stA : zS, (∀ q, q ≠ 56 → stA q = sc' q) → ∃ v' sr', fM stA = some (v', sr') ∧ sr' 40 0 = cv code ∧ (code = 0 → v = v') ∧ zI2 (j + 1) sr' sr' ∧ sr' 56 = stA 56 := by
  obtain ⟨code, v, sc', v0, sr0, h1, -, h3, -, -, -, h7, -⟩ := h st st hI
  refine ⟨code, v, sc', h1, h3, fun stA hA => ?_⟩
  have hIA : zI2 j st stA := zI2_r hI (fun q h4 h5 => by rw [hA q h5, h7 q h4])
  obtain ⟨code', v2, sc2, v', sr', g1, g2, g3, g4, g5, g6, g7, g8, g9⟩ := h st stA hIA
  rw [h1] at g1
  injection g1 with g1
  injection g1 with e1 g1
  injection g1 with e2 e3
  subst e1 e2 e3
  refine ⟨v', sr', g2, g4, g5, zI2_c g6 (fun q hq => ?_), g9⟩
  rw [g8 q hq, hA q (by omega)]
theorem law_void {g : zS → Option (Nat × zS)} {h : zS → Option zS} {X : Nat} (hX : X ≠ 0) (hop : zOp j (fun s => (g s).map (fun y => (y.1, 0, y.2))) (fun s => (h s).map (fun y => (0, y))) (fun x => x = 0 ∨ x = X) (fun x => if x = 0 then 0 else 1)) (hI : zI2 j st st) :
    ∃ c st1, ((g st).bind fun y => (if y.1 = 0 then some ((0 : Int32), y.2) else (if y.1 = X then some (1, y.2) else none))) = some (c, st1) ∧ ∃ st2, h st1 = some st2 ∧ st2 40 0 = c ∧ zI2 (j + 1) st2 st2 := by
  obtain ⟨code, v, sc', h1, h2, h3⟩ := law_pair hop hI
  obtain ⟨v', sr', g1, g2, g3, g4, g5⟩ := h3 sc' (fun _ _ => rfl)
  cases hg : g st with
  | none => simp only [hg, Option.map_none] at h1; cases h1
  | some y =>
    simp only [hg, Option.map_some] at h1
    injection h1 with h1
    injection h1 with e1 h1
    injection h1 with e2 e3
    cases hh : h sc' with
    | none => simp only [hh, Option.map_none] at g1; cases g1
    | some z =>
      simp only [hh, Option.map_some] at g1
      injection g1 with g1
      injection g1 with f1 f2
      subst f2
      refine ⟨if code = 0 then 0 else 1, sc', ?_, z, hh, g2, g4⟩
      simp only [Option.bind_some, e1, e3]
      rcases h2 with h2 | h2
      · simp only [h2, if_true]
      · simp only [h2, hX, if_true, if_false]
theorem law_ans {g : zS → Option (Nat × Int32 × zS)} {h : zS → Option (Int32 × zS)} {okc : Nat → Prop} {cv : Nat → Int32} (La : Option (Int32 × zS)) (w : Int32 → Int32) (hop : zOp j g h okc cv) (hI : zI2 j st st)
    (hcv : ∀ code, okc code → cv code = 0 → code = 0) (hLa : ∀ code v sc', g st = some (code, v, sc') → okc code → La = some (cv code, if code = 0 then zp sc' 56 0 (w v) else sc')) :
    ∃ c st1, La = some (c, st1) ∧ ∃ v' st2, h st1 = some (v', st2) ∧ st2 40 0 = c ∧ (c = 0 → st2 56 0 = w v') ∧ zI2 (j + 1) st2 st2 := by
  obtain ⟨code, v, sc', h1, h2, h3⟩ := law_pair hop hI
  obtain ⟨v', sr', g1, g2, g3, g4, g5⟩ := h3 (if code = 0 then zp sc' 56 0 (w v) else sc') (fun q hq => by
    split
    · exact zp_row _ _ hq
    · rfl)
  refine ⟨cv code, _, hLa code v sc' h1 h2, v', sr', g1, g2, fun hc => ?_, g4⟩
  have h0 := hcv code h2 hc
  rw [g5, if_pos h0, zp_s, g3 h0]
theorem lg_cmp_self (x : Int64) : lg_cmp x x = 0 := by
  unfold lg_cmp
  simp
theorem law_call (hN : 1010 ≤ N) (hj : j ≤ 600) (hI : zI2 j st st) (a b : Int32) : ∃ c st1, zf_La_call N a b st = some (c, st1) ∧ ∃ v' st2, zf_Mo_call N a b st1 = some (v', st2) ∧ st2 40 0 = c ∧ (c = 0 → st2 56 0 = v') ∧ zI2 (j + 1) st2 st2 := by
  refine law_ans (zf_La_call N a b st) id (op_call hN hj a b) hI ?_ ?_
  · rintro code (rfl | rfl | rfl | rfl) h
    · rfl
    · exact absurd h (by decide)
    · exact absurd h (by decide)
    · exact absurd h (by decide)
  · intro code v sc' hg ho
    unfold zf_La_call
    rw [hg]
    rcases ho with rfl | rfl | rfl | rfl <;> rfl
theorem law_car (hN : 1010 ≤ N) (hI : zI2 j st st) (a b : Int32) : ∃ c st1, zf_La_car N a b st = some (c, st1) ∧ ∃ v' st2, zf_Mo_car N a b st1 = some (v', st2) ∧ st2 40 0 = c ∧ (c = 0 → st2 56 0 = v') ∧ zI2 (j + 1) st2 st2 := by
  refine law_ans (zf_La_car N a b st) id (op_car hN a b) hI ?_ ?_
  · rintro code (rfl | rfl | rfl) h
    · rfl
    · exact absurd h (by decide)
    · exact absurd h (by decide)
  · intro code v sc' hg ho
    unfold zf_La_car
    rw [hg]
    rcases ho with rfl | rfl | rfl <;> rfl
theorem law_stop (hN : 1010 ≤ N) (hI : zI2 j st st) (a b : Int32) : ∃ c st1, zf_La_stop N a b st = some (c, st1) ∧ ∃ v' st2, zf_Mo_stop N a b st1 = some (v', st2) ∧ st2 40 0 = c ∧ (c = 0 → st2 56 0 = if v' = 0 then 0 else 1) ∧ zI2 (j + 1) st2 st2 := by
  refine law_ans (zf_La_stop N a b st) (fun v => if v = 0 then 0 else 1) (op_stop hN a b) hI ?_ ?_
  · rintro code (rfl | rfl | rfl) h
    · rfl
    · exact absurd h (by decide)
    · exact absurd h (by decide)
  · intro code v sc' hg ho
    unfold zf_La_stop
    rw [hg]
    rcases ho with rfl | rfl | rfl
    · simp only [Option.bind_some, if_true]
      by_cases h : v = 0
      · simp only [h, if_true]; rfl
      · simp only [h, if_false]; rfl
    · rfl
    · rfl
theorem law_worst (hN : 1010 ≤ N) (hj : j ≤ 600) (hI : zI2 j st st) (a : Int32) : ∃ c st1, zf_La_worst N a st = some (c, st1) ∧ ∃ v' st2, zf_Mo_worst N a st1 = some (v', st2) ∧ st2 40 0 = c ∧ (c = 0 → st2 56 0 = v') ∧ zI2 (j + 1) st2 st2 := by
  refine law_ans (zf_La_worst N a st) id (op_worst hN hj a) hI ?_ ?_
  · rintro code (rfl | rfl) h
    · rfl
    · exact absurd h (by decide)
  · intro code v sc' hg ho
    unfold zf_La_worst
    rw [hg]
    rcases ho with rfl | rfl <;> rfl
theorem law_rider (hN : 1010 ≤ N) (hI : zI2 j st st) (a b : Int32) : ∃ c st1, zf_La_rider N a b st = some (c, st1) ∧ ∃ v' st2, zf_Mo_rider N a b st1 = some (v', st2) ∧ st2 40 0 = c ∧ (c = 0 → st2 56 0 = v') ∧ zI2 (j + 1) st2 st2 := by
  refine law_ans (zf_La_rider N a b st) id (op_rider hN a b) hI ?_ ?_
  · rintro code (rfl | rfl | rfl) h
    · rfl
    · exact absurd h (by decide)
    · exact absurd h (by decide)
  · intro code v sc' hg ho
    unfold zf_La_rider
    rw [hg]
    rcases ho with rfl | rfl | rfl <;> rfl
theorem law_promise (hN : 1010 ≤ N) (hj : j ≤ 600) (hI : zI2 j st st) (a : Int32) : ∃ c st1, zf_La_promise N a st = some (c, st1) ∧ ∃ v' st2, zf_Mo_promise N a st1 = some (v', st2) ∧ st2 40 0 = c ∧ (c = 0 → st2 56 0 = v') ∧ zI2 (j + 1) st2 st2 := by
  refine law_ans (zf_La_promise N a st) id (op_promise hN hj a) hI ?_ ?_
  · rintro code (rfl | rfl) h
    · rfl
    · exact absurd h (by decide)
  · intro code v sc' hg ho
    unfold zf_La_promise
    rw [hg]
    rcases ho with rfl | rfl <;> rfl
theorem law_event (hj : j ≤ 600) (hI : zI2 j st st) (a b : Int32) : ∃ c st1, zf_La_event N a b st = some (c, st1) ∧ ∃ v' st2, zf_Mo_event N a b st1 = some (v', st2) ∧ st2 40 0 = c ∧ (c = 0 → st2 56 0 = v') ∧ zI2 (j + 1) st2 st2 := by
  refine law_ans (zf_La_event N a b st) id (op_event hj a b) hI ?_ ?_
  · rintro code (rfl | rfl | rfl) h
    · rfl
    · exact absurd h (by decide)
    · exact absurd h (by decide)
  · intro code v sc' hg ho
    unfold zf_La_event
    rw [hg]
    rcases ho with rfl | rfl | rfl <;> rfl
theorem law_recall {v : Int32} (hN : 1010 ≤ N) (hj : j ≤ 600) (hv : v = 0 ∨ v = 1) (hI : zI2 j st st) : ∃ st1, zf_LG_recall N v st = some st1 ∧ ∃ st2, zf_Mo_recall N v st1 = some st2 ∧ zI2 (j + 1) st2 st2 := by
  obtain ⟨code, v0, sc', h1, h2, h3⟩ := law_pair (op_recall hN hj hv) hI
  obtain ⟨v', sr', g1, g2, g3, g4, g5⟩ := h3 sc' (fun _ _ => rfl)
  cases hg : zf_LG_recall N v st with
  | none => simp only [hg, Option.map_none] at h1; cases h1
  | some y =>
    simp only [hg, Option.map_some] at h1
    injection h1 with h1
    injection h1 with e1 h1
    injection h1 with e2 e3
    subst e3
    refine ⟨y, rfl, ?_⟩
    cases hh : zf_Mo_recall N v y with
    | none => simp only [hh, Option.map_none] at g1; cases g1
    | some z =>
      simp only [hh, Option.map_some] at g1
      injection g1 with g1
      injection g1 with f1 f2
      subst f2
      exact ⟨z, rfl, g4⟩
theorem law_about (hN : 1010 ≤ N) (hI : zI2 j st st) (a : Int32) : ∃ v st1, zf_LG_about N a st = some (v, st1) ∧ ∃ st2, zf_Mo_about N a st1 = some (v, st2) ∧ zI2 (j + 1) st2 st2 := by
  obtain ⟨code, v0, sc', h1, h2, h3⟩ := law_pair (op_about hN a) hI
  obtain ⟨v', sr', g1, g2, g3, g4, g5⟩ := h3 sc' (fun _ _ => rfl)
  cases hg : zf_LG_about N a st with
  | none => simp only [hg, Option.map_none] at h1; cases h1
  | some y =>
    simp only [hg, Option.map_some] at h1
    injection h1 with h1
    injection h1 with e1 h1
    injection h1 with e2 e3
    have hv := g3 h2
    refine ⟨v0, sc', ?_, sr', ?_, g4⟩
    · rw [← e2, ← e3]
    · rw [g1, hv]
end LW
