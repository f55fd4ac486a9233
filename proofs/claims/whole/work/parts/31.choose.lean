def xC (sc sc' : zS) : Prop := ∀ q, q ≠ 9 → sc' q = sc q
def xR (x : Nat) (sr sr' : zS) : Prop := ∀ q j, ¬ ((41 ≤ q ∧ q ≤ 45 ∨ q = 48) ∧ j = 4) → ¬ (49 ≤ q ∧ q ≤ 52 ∧ 24 ≤ j) → ¬ (q = 50 ∧ j = x) → sr' q j = sr q j
section CH
variable {N F p m n t k o x : Nat} {T : Nat → Bool} {sc sr : zS}
theorem zi_m1 {c : Nat} (h : c < 2147483648) : ¬ ((-1 : Int32) = zi c) := fun e => by
  have h1 : (-1 : Int32) < 0 := by decide
  rw [e] at h1
  exact zi_neg h h1
theorem ch_rel0 (hI : zInv F p m n t k o T sc sr) (hx : T x = true) {c : Nat} (hc : c < m) (hu : iU sc c) {s : zS} (hf : xR x sr s) (h50 : s 50 x = -1) {T0 : Nat → Int32}
    (e0 : T0 0 = sc (5 + c) 0) (e1 : T0 1 = sc (5 + c) 1) (e2 : T0 2 = sc (5 + c) 2) (e3 : T0 3 = sc (5 + c) 3) (e4 : T0 4 = sc (5 + c) 4) (e7 : T0 7 = sc (5 + c) 7) (e8 : T0 8 = sc (5 + c) 8) (e9 : T0 9 = sc (5 + c) 9) : mRel (sc 1) (sc 2) (sc 3) T0 F p n c 0 s := by
  obtain ⟨hS, hR, hH, hC, hN, hT, hL, hA⟩ := hI
  obtain ⟨⟨f2, f10, p1, p5, m1, m4, n24⟩, s2, s3, s4, s5, s6, s7⟩ := hS
  obtain ⟨⟨d0, d1, d2, d3, d4, d5, d6, d7⟩, -, -, dA, dW, -⟩ := hC c hc
  obtain ⟨hxn, hx0, hxc⟩ := hT x hx
  have o40 : ∀ j, s 40 j = sr 40 j := fun j => hf 40 j (by omega) (by omega) (by omega)
  have oc : ∀ q, 41 ≤ q → q ≤ 48 → s q c = sr q c := fun q h1 h2 => hf q c (by omega) (by omega) (by omega)
  have o49 : ∀ r, r < 24 → s 49 r = sr 49 r := fun r h => hf 49 r (by omega) (by omega) (by omega)
  have o50 : ∀ r, r < 24 → r ≠ x → s 50 r = sr 50 r := fun r h h2 => hf 50 r (by omega) (by omega) (by omega)
  have o51 : ∀ r, r < 24 → s 51 r = sr 51 r := fun r h => hf 51 r (by omega) (by omega) (by omega)
  have o52 : ∀ r, r < 24 → s 52 r = sr 52 r := fun r h => hf 52 r (by omega) (by omega) (by omega)
  refine ⟨⟨by rw [o40, s2.2], by rw [o40, s3.2], by rw [o40, s4.1], by rw [o40, s6.2]⟩, ⟨by rw [oc _ (by omega) (by omega), e0, d0], by rw [oc _ (by omega) (by omega), e1, d1], by rw [oc _ (by omega) (by omega), e2, d2], by rw [oc _ (by omega) (by omega), e3, d3], by rw [oc _ (by omega) (by omega), e4, d4], by rw [oc _ (by omega) (by omega), e7, d7]⟩, fun r => ?_, fun r => ?_, fun f r hf9 => ?_, fun f r hf9 => ?_⟩
  · rw [e8, dA]
    by_cases hr : r < n
    · unfold mA
      rw [Nat.zero_add, o49 r (by omega)]
      by_cases e : r = x
      · subst e; rw [hx0]; simp
      · rw [o50 r (by omega) e]
    · simp [hr]
  · rw [e9, dW]
    by_cases hr : r < n
    · unfold mW
      rw [Nat.zero_add, o49 r (by omega)]
      by_cases e : r = x
      · subst e
        rw [hx, h50]
        simp [zi_m1 (show c < 2147483648 by omega)]
      · rw [o50 r (by omega) e]
        cases hTr : T r with
        | false => simp
        | true =>
          obtain ⟨-, -, hcr⟩ := hT r hTr
          have : ¬ sr 50 r = zi c := fun e9 => by
            rcases hcr with h | ⟨c', h1, h2, h3⟩
            · rw [e9] at h; exact zi_m1 (by omega) h.symm
            · rw [e9] at h2
              have := (zi_eq (by omega) (by omega)).mp h2
              subst this
              exact h3 hu
          simp [this]
    · simp [hr]
  · rw [(hH f r hf9).1, Nat.zero_add]
    by_cases hr : r < n
    · rw [o51 r (by omega)]
    · simp [hr]
  · rw [(hH f r hf9).2, Nat.zero_add]
    by_cases hr : r < n
    · rw [o52 r (by omega)]
    · simp [hr]
theorem ch_rel1 (hI : zInv F p m n t k o T sc sr) (hx : T x = true) {c : Nat} (hc : c < m) (hu : iU sc c) {s : zS} (hf : xR x sr s) (h50 : s 50 x = zi c) {T0 : Nat → Int32}
    (e0 : T0 0 = sc (5 + c) 0) (e1 : T0 1 = sc (5 + c) 1) (e2 : T0 2 = sc (5 + c) 2) (e3 : T0 3 = sc (5 + c) 3) (e4 : T0 4 = sc (5 + c) 4) (e7 : T0 7 = sc (5 + c) 7) (e8 : T0 8 = sc (5 + c) 8) (e9 : T0 9 = sc (5 + c) 9 ||| (1 <<< (zi x &&& 31))) : mRel (sc 1) (sc 2) (sc 3) T0 F p n c 0 s := by
  have hT := hI.2.2.2.2.2.1
  obtain ⟨hxn, hx0, hxc⟩ := hT x hx
  have n24 : n ≤ 24 := hI.1.1.2.2.2.2.2.2
  have m4 : m ≤ 4 := hI.1.1.2.2.2.2.2.1
  have hf0 : xR x sr (zp s 50 x (-1)) := fun q j h1 h2 h3 => by
    rw [← hf q j h1 h2 h3]
    unfold zp
    rw [if_neg h3]
  have h0 := ch_rel0 (T0 := up T0 9 (sc (5 + c) 9)) hI hx hc hu hf0 (zp_s _ _ _ _) (by simp [up, e0]) (by simp [up, e1]) (by simp [up, e2]) (by simp [up, e3]) (by simp [up, e4]) (by simp [up, e7]) (by simp [up, e8]) (by simp [up])
  obtain ⟨a, b, hA, hW, hSt, hGo⟩ := h0
  have s0 : s 49 x = 0 := by rw [hf 49 x (by omega) (by omega) (by omega), hx0]
  have e8' : up T0 9 (sc (5 + c) 9) 8 = T0 8 := by simp [up]
  have e9' : up T0 9 (sc (5 + c) 9) 9 = sc (5 + c) 9 := by simp [up]
  rw [e8'] at hA
  rw [e9'] at hW
  have z49 : zp s 50 x (-1) 49 = s 49 := zp_row _ _ (by decide)
  have z50 : ∀ r, r ≠ x → zp s 50 x (-1) 50 r = s 50 r := fun r h => by unfold zp; rw [if_neg (by omega)]
  refine ⟨a, b, fun r => ?_, fun r => ?_, hSt, hGo⟩
  · rw [hA]
    unfold mA
    rw [Nat.zero_add, z49]
    by_cases e : r = x
    · subst e; rw [s0]; simp
    · rw [z50 r e]
  · rw [e9, zbit_or, hW, zbit_shl (by omega)]
    unfold mW
    rw [Nat.zero_add, z49]
    by_cases e : r = x
    · subst e
      rw [s0, h50]
      simp [hxn]
    · rw [z50 r e]
      simp [e]
theorem m_isUsable {c : Nat} {s : zS} (hc : c < 5) : zf_Mo_isUsable N (zi c) s = some (if s 46 c = 0 ∧ s 47 c = 0 ∧ s 40 12 = 0 then 1 else 0, s) := by
  unfold zf_Mo_isUsable zf_Mo_isUsable_29 zf_Mo_isUsable_30
  have hin : ¬ (zi c < 0 ∨ 5 ≤ c) := zi_inn (by omega) (by decide)
  simp only [zi_nat (show c < 2147483648 by omega), hin, if_false]
  by_cases c1 : s 46 c = 0 <;> by_cases c2 : s 47 c = 0 <;> by_cases c3 : s 40 12 = 0 <;> simp [c1, c2, c3]
theorem c_isUsable {a : Nat} {s : zS} : zf_LG_isUsable N a s = some (if s a 5 = 0 ∧ s a 6 = 0 ∧ s 1 4 = 0 then 1 else 0, s) := by
  unfold zf_LG_isUsable zf_LG_isUsable_28 zf_LG_isUsable_29
  by_cases c1 : s a 5 = 0 <;> by_cases c2 : s a 6 = 0 <;> by_cases c3 : s 1 4 = 0 <;> simp [c1, c2, c3]
theorem ch_loop (hN : 1010 ≤ N) (ho : o < 900000000) (hI : zInv F p m n t k o T sc sr) (hx : T x = true) :
    ∀ (kk c fc fr : Nat) (l3 l4 : Int32) (scj srj : zS), c + kk = m → kk < fc → kk < fr → xC sc scj → xR x sr srj → (l3 = -1 ∨ ∃ c', c' < m ∧ l3 = zi c' ∧ iU sc c') →
    ∃ (b : Int32) (scE srE : zS), xC sc scE ∧ xR x sr srE ∧ (b = -1 ∨ ∃ c', c' < m ∧ b = zi c' ∧ iU sc c') ∧
      zf_LG_chooseCar_12 N fc (zi x) (1 <<< (zi x &&& 31)) l3 l4 (zi c) scj = zb_LG_chooseCar_12 N (fun _ _ _ _ _ _ => none) (zi x) (1 <<< (zi x &&& 31)) b 0 (zi m) scE ∧
      zf_Mo_choose_7 N fr (zi x) l3 l4 (zi c) srj = zb_Mo_choose_7 N (fun _ _ _ _ _ => none) (zi x) b 0 (zi m) srE := by
  obtain ⟨hxn, hx0, hxc⟩ := hI.2.2.2.2.2.1 x hx
  obtain ⟨⟨f2, f10, p1, p5, m1, m4, n24⟩, s2, s3, s4, s5, s6, s7⟩ := id hI.1
  intro kk
  induction kk with
  | zero =>
    intro c fc fr l3 l4 scj srj hc hfc hfr hC hR hl
    obtain ⟨fc, rfl⟩ : ∃ f', fc = f' + 1 := ⟨fc - 1, by omega⟩
    obtain ⟨fr, rfl⟩ : ∃ f', fr = f' + 1 := ⟨fr - 1, by omega⟩
    have hcm : c = m := by omega
    subst hcm
    refine ⟨l3, scj, srj, hC, hR, hl, ?_, ?_⟩
    · show zb_LG_chooseCar_12 N _ _ _ _ _ _ _ = _
      unfold zb_LG_chooseCar_12
      have : scj 0 5 ≤ zi c := by rw [hC 0 (by decide), s5.1]; exact Int32.le_refl _
      rw [if_pos this, if_pos this]
    · show zb_Mo_choose_7 N _ _ _ _ _ _ = _
      unfold zb_Mo_choose_7
      have : srj 40 2 ≤ zi c := by rw [hR 40 2 (by omega) (by omega) (by omega), s5.2]; exact Int32.le_refl _
      rw [if_pos this, if_pos this]
  | succ kk ih =>
    intro c fc fr l3 l4 scj srj hc hfc hfr hC hR hl
    obtain ⟨fc, rfl⟩ : ∃ f', fc = f' + 1 := ⟨fc - 1, by omega⟩
    obtain ⟨fr, rfl⟩ : ∃ f', fr = f' + 1 := ⟨fr - 1, by omega⟩
    have hcm : c < m := by omega
    obtain ⟨⟨d0, d1, d2, d3, d4, d5, d6, d7⟩, ⟨b5, b6, b7⟩, dok, dA, dW, dU⟩ := hI.2.2.2.1 c hcm
    have c5 : scj (5 + c) = sc (5 + c) := hC (5 + c) (by omega)
    have c1 : scj 1 = sc 1 := hC 1 (by decide)
    have c2 : scj 2 = sc 2 := hC 2 (by decide)
    have c3 : scj 3 = sc 3 := hC 3 (by decide)
    have gm : ¬ (zi m ≤ zi c) := fun h => by have := (zi_le (by omega) (by omega)).mp h; omega
    have i4 : ¬ (zi c < 0 ∨ 4 ≤ c) := zi_inn (by omega) (by decide)
    have i48 : ¬ (zi x < 0 ∨ 48 ≤ x) := zi_inn (by omega) (by decide)
    have g5 : scj 0 5 = zi m := by rw [hC 0 (by decide), s5.1]
    have g2 : srj 40 2 = zi m := by rw [hR 40 2 (by omega) (by omega) (by omega), s5.2]
    have huc : (scj (5 + c) 5 = 0 ∧ scj (5 + c) 6 = 0 ∧ scj 1 4 = 0) ↔ iU sc c := by unfold iU; rw [c5, c1]
    have hur : (srj 46 c = 0 ∧ srj 47 c = 0 ∧ srj 40 12 = 0) ↔ iU sc c := by
      unfold iU
      rw [hR 46 c (by omega) (by omega) (by omega), hR 47 c (by omega) (by omega) (by omega), hR 40 12 (by omega) (by omega) (by omega), ← d5, ← d6, s4.1]
    have eC : zf_LG_chooseCar_12 N (fc + 1) (zi x) (1 <<< (zi x &&& 31)) l3 l4 (zi c) scj = zb_LG_chooseCar_12 N (zf_LG_chooseCar_12 N fc) (zi x) (1 <<< (zi x &&& 31)) l3 l4 (zi c) scj := rfl
    have eR : zf_Mo_choose_7 N (fr + 1) (zi x) l3 l4 (zi c) srj = zb_Mo_choose_7 N (zf_Mo_choose_7 N fr) (zi x) l3 l4 (zi c) srj := rfl
    rw [eC, eR]
    have eC2 : zb_LG_chooseCar_12 N (zf_LG_chooseCar_12 N fc) (zi x) (1 <<< (zi x &&& 31)) l3 l4 (zi c) scj = (if iU sc c then ((zf_LG_worstWith N (5 + c) (1 <<< (zi x &&& 31)) scj).bind fun y44 => ((zf_LG_worstWith N (5 + c) 0 y44.2).bind fun y56 => if l3 = -1 then zf_LG_chooseCar_12 N fc (zi x) (1 <<< (zi x &&& 31)) (zi c) (y44.1 - y56.1) (zi (c + 1)) y56.2 else if l4 ≤ y44.1 - y56.1 then zf_LG_chooseCar_12 N fc (zi x) (1 <<< (zi x &&& 31)) l3 l4 (zi (c + 1)) y56.2 else zf_LG_chooseCar_12 N fc (zi x) (1 <<< (zi x &&& 31)) (zi c) (y44.1 - y56.1) (zi (c + 1)) y56.2)) else zf_LG_chooseCar_12 N fc (zi x) (1 <<< (zi x &&& 31)) l3 l4 (zi (c + 1)) scj) := by
      unfold zb_LG_chooseCar_12 zf_LG_chooseCar_74 zf_LG_chooseCar_81
      simp only [g5, gm, if_false, zi_nat (show c < 2147483648 by omega), i4, c_isUsable, Option.bind_some, zi_succ, huc]
      by_cases hu : iU sc c
      · rw [if_pos hu, if_neg (by decide), if_pos hu]
      · rw [if_neg hu, if_pos rfl, if_neg hu]
    have eR2 : zb_Mo_choose_7 N (zf_Mo_choose_7 N fr) (zi x) l3 l4 (zi c) srj = (if iU sc c then ((zf_Mo_worstOf N (zi c) (zp srj 50 x (-1))).bind fun y35 => ((zf_Mo_worstOf N (zi c) (zp y35.2 50 x (zi c))).bind fun y51 => if l3 < 0 then zf_Mo_choose_7 N fr (zi x) (zi c) (y51.1 - y35.1) (zi (c + 1)) y51.2 else if l4 ≤ y51.1 - y35.1 then zf_Mo_choose_7 N fr (zi x) l3 l4 (zi (c + 1)) y51.2 else zf_Mo_choose_7 N fr (zi x) (zi c) (y51.1 - y35.1) (zi (c + 1)) y51.2)) else zf_Mo_choose_7 N fr (zi x) l3 l4 (zi (c + 1)) srj) := by
      unfold zb_Mo_choose_7 zf_Mo_choose_69 zf_Mo_choose_75
      simp only [g2, gm, if_false, zi_nat (show x < 2147483648 by omega), i48, m_isUsable (show c < 5 by omega), Option.bind_some, zi_succ, hur]
      by_cases hu : iU sc c
      · rw [if_pos hu, if_neg (by decide), if_pos hu]
      · rw [if_neg hu, if_pos rfl, if_neg hu]
    rw [eC2, eR2]
    by_cases hu : iU sc c
    · rw [if_pos hu, if_pos hu]
      have hF1 : scj 1 2 = zi F := by rw [c1]; exact s2.1
      have hp1 : scj 1 3 = zi p := by rw [c1]; exact s3.1
      obtain ⟨R1, w1⟩ := c_worstWith (N := N) (st := scj) (a := 5 + c) (o := o) (x := 1 <<< (zi x &&& 31)) (by omega) (by omega) hN hF1 f2 f10 hp1 (by omega) (by rw [c5]; exact dok) (by rw [c5]; exact b7)
      obtain ⟨T1, hT1⟩ : ∃ T1, T1 = up (vLike (scj 9) (scj (5 + c))) 9 (scj (5 + c) 9 ||| 1 <<< (zi x &&& 31)) := ⟨_, rfl⟩
      rw [← hT1, c1, c2, c3, c5] at w1
      have z5 : zr scj 9 R1 (5 + c) = sc (5 + c) := by rw [zr_ne _ _ (by omega), c5]
      have z1 : zr scj 9 R1 1 = sc 1 := by rw [zr_ne _ _ (by decide), c1]
      have z2 : zr scj 9 R1 2 = sc 2 := by rw [zr_ne _ _ (by decide), c2]
      have z3 : zr scj 9 R1 3 = sc 3 := by rw [zr_ne _ _ (by decide), c3]
      obtain ⟨R0, w0⟩ := c_worstWith (N := N) (st := zr scj 9 R1) (a := 5 + c) (o := o) (x := 0) (by omega) (by omega) hN (by rw [z1]; exact s2.1) f2 f10 (by rw [z1]; exact s3.1) (by omega) (by rw [z5]; exact dok) (by rw [z5]; exact b7)
      obtain ⟨T0, hT0⟩ : ∃ T0, T0 = up (vLike (zr scj 9 R1 9) (zr scj 9 R1 (5 + c))) 9 (zr scj 9 R1 (5 + c) 9 ||| 0) := ⟨_, rfl⟩
      rw [← hT0, z1, z2, z3, z5, zr_zr] at w0
      have q1 : ∀ j, j ≠ 5 → j ≠ 6 → j < 9 → T1 j = sc (5 + c) j := fun j h5 h6 h9 => by
        rw [hT1, c5]
        simp only [vLike, up]
        rcases (show j = 0 ∨ j = 1 ∨ j = 2 ∨ j = 3 ∨ j = 4 ∨ j = 7 ∨ j = 8 by omega) with rfl | rfl | rfl | rfl | rfl | rfl | rfl <;> rfl
      have q1' : T1 9 = sc (5 + c) 9 ||| 1 <<< (zi x &&& 31) := by rw [hT1, c5]; simp [up]
      have q0 : ∀ j, j ≠ 5 → j ≠ 6 → j < 9 → T0 j = sc (5 + c) j := fun j h5 h6 h9 => by
        rw [hT0, z5]
        simp only [vLike, up]
        rcases (show j = 0 ∨ j = 1 ∨ j = 2 ∨ j = 3 ∨ j = 4 ∨ j = 7 ∨ j = 8 by omega) with rfl | rfl | rfl | rfl | rfl | rfl | rfl <;> rfl
      have q0' : T0 9 = sc (5 + c) 9 := by rw [hT0, z5]; simp [up]
      have rk : ∀ Q : Nat → Int32, (∀ j, j ≠ 5 → j ≠ 6 → j < 9 → Q j = sc (5 + c) j) → rOK F o Q := fun Q hQ => by
        unfold rOK
        rw [hQ 0 (by decide) (by decide) (by decide), hQ 1 (by decide) (by decide) (by decide), hQ 2 (by decide) (by decide) (by decide), hQ 3 (by decide) (by decide) (by decide), hQ 4 (by decide) (by decide) (by decide)]
        exact dok
      have hf0 : xR x sr (zp srj 50 x (-1)) := fun q j h1 h2 h3 => by rw [← hR q j h1 h2 h3]; unfold zp; rw [if_neg h3]
      have M0 := ch_rel0 (T0 := T0) hI hx hcm hu hf0 (zp_s _ _ _ _) (q0 0 (by decide) (by decide) (by decide)) (q0 1 (by decide) (by decide) (by decide)) (q0 2 (by decide) (by decide) (by decide)) (q0 3 (by decide) (by decide) (by decide)) (q0 4 (by decide) (by decide) (by decide)) (q0 7 (by decide) (by decide) (by decide)) (q0 8 (by decide) (by decide) (by decide)) q0'
      have h48 : ∀ s, xR x sr s → (s 48 c = 0 ∨ s 48 c = 1) := fun s h => by rw [h 48 c (by omega) (by omega) (by omega), ← d7]; exact b7
      have h47 : ∀ s, xR x sr s → s 47 c = sc (5 + c) 6 := fun s h => by rw [h 47 c (by omega) (by omega) (by omega), d6]
      obtain ⟨t0, v0, fr0⟩ := m_worstOf (N := N) hN f2 f10 p5 n24 s3.1 (by omega) ho (rk T0 q0) M0 (h48 _ hf0)
      rw [h47 _ hf0] at v0
      have hft : xR x sr t0 := fun q j h1 h2 h3 => by rw [fr0 q j h1 h2]; exact hf0 q j h1 h2 h3
      have hf1 : xR x sr (zp t0 50 x (zi c)) := fun q j h1 h2 h3 => by rw [← hft q j h1 h2 h3]; unfold zp; rw [if_neg h3]
      have M1 := ch_rel1 (T0 := T1) hI hx hcm hu hf1 (zp_s _ _ _ _) (q1 0 (by decide) (by decide) (by decide)) (q1 1 (by decide) (by decide) (by decide)) (q1 2 (by decide) (by decide) (by decide)) (q1 3 (by decide) (by decide) (by decide)) (q1 4 (by decide) (by decide) (by decide)) (q1 7 (by decide) (by decide) (by decide)) (q1 8 (by decide) (by decide) (by decide)) q1'
      obtain ⟨t1, v1, fr1⟩ := m_worstOf (N := N) hN f2 f10 p5 n24 s3.1 (by omega) ho (rk T1 q1) M1 (h48 _ hf1)
      rw [h47 _ hf1] at v1
      have hft1 : xR x sr t1 := fun q j h1 h2 h3 => by rw [fr1 q j h1 h2]; exact hf1 q j h1 h2 h3
      rw [w1]
      simp only [Option.bind_some]
      rw [w0, v0]
      simp only [Option.bind_some]
      rw [v1]
      simp only [Option.bind_some]
      have hCn : xC sc (zr scj 9 R0) := fun q hq => by rw [zr_ne _ _ hq]; exact hC q hq
      generalize zi (wC (sc 1) (sc 2) (sc 3) F p (sc (5 + c) 6) T1) - zi (wC (sc 1) (sc 2) (sc 3) F p (sc (5 + c) 6) T0) = gg
      have take := ih (c + 1) fc fr (zi c) gg (zr scj 9 R0) t1 (by omega) (by omega) (by omega) hCn hft1 (Or.inr ⟨c, hcm, rfl, hu⟩)
      have leave := ih (c + 1) fc fr l3 l4 (zr scj 9 R0) t1 (by omega) (by omega) (by omega) hCn hft1 hl
      rcases hl with hl | ⟨c', hc', hl, hu'⟩
      · have e1 : l3 = -1 := hl
        have e2 : l3 < 0 := by rw [hl]; decide
        rw [if_pos e1, if_pos e2]
        exact take
      · have e1 : ¬ l3 = -1 := fun e => by rw [hl] at e; exact zi_m1 (by omega) e.symm
        have e2 : ¬ l3 < 0 := by rw [hl]; exact zi_neg (by omega)
        rw [if_neg e1, if_neg e2]
        by_cases e3 : l4 ≤ gg
        · rw [if_pos e3, if_pos e3]; exact leave
        · rw [if_neg e3, if_neg e3]; exact take
    · rw [if_neg hu, if_neg hu]
      exact ih (c + 1) fc fr l3 l4 scj srj (by omega) (by omega) (by omega) hC hR hl
theorem zp_rc {s s' : zS} {a q j : Nat} {v : Int32} (h : s' a = s a) : zp s' q j v a = zp s q j v a := by funext b; simp [zp, h]
theorem zp_cc {s s' : zS} {a b q j : Nat} {v : Int32} (h : s' a b = s a b) : zp s' q j v a b = zp s q j v a b := by simp [zp, h]
theorem cN_rc {s s' : zS} {a : Nat} {stp kind r c : Int32} (h : s' a = s a) (h35 : s' 35 4 = s 35 4) : cN stp kind r c s' a = cN stp kind r c s a := by
  unfold cN
  rw [h35]
  exact zp_rc (zp_rc (zp_rc (zp_rc (zp_rc h))))
theorem mN_cc {s s' : zS} {a b : Nat} {kind r c : Int32} (h : s' a b = s a b) (h22 : s' 40 22 = s 40 22) (h20 : s' 40 20 = s 40 20) : mN kind r c s' a b = mN kind r c s a b := by
  unfold mN
  rw [h22, h20]
  exact zp_cc (zp_cc (zp_cc (zp_cc (zp_cc h))))
theorem zInv_note {kind r c : Int32} (hk9 : k < 2000000000) (hI : zInv F p m n t k o T sc sr) : zInv F p m n t (k + 1) o T (cN (zi t) kind r c sc) (mN kind r c sr) := by
  obtain ⟨hS, hR, hH, hC, hN, hT, hL, hA⟩ := hI
  obtain ⟨⟨f2, f10, p1, p5, m1, m4, n24⟩, s2, s3, s4, s5, s6, s7⟩ := id hS
  have rc : ∀ q, q < 35 → cN (zi t) kind r c sc q = sc q := fun q hq => cN_row (Or.inl hq)
  have r40 : ∀ j, j ≠ 22 → mN kind r c sr 40 j = sr 40 j := fun j hj => mN_40 hj
  have rr : ∀ q, 41 ≤ q → q ≤ 54 → mN kind r c sr q = sr q := fun q h1 h2 => mN_row (by omega) (by omega)
  have eA : ∀ c' r', mA (mN kind r c sr) c' 0 r' = mA sr c' 0 r' := fun c' r' => by unfold mA; rw [rr 49 (by omega) (by omega), rr 50 (by omega) (by omega)]
  have eW : ∀ c' r', mW (mN kind r c sr) c' 0 r' = mW sr c' 0 r' := fun c' r' => by unfold mW; rw [rr 49 (by omega) (by omega), rr 50 (by omega) (by omega)]
  have eU : ∀ c', c' < m → (iU (cN (zi t) kind r c sc) c' ↔ iU sc c') := fun c' h => by unfold iU; rw [rc 1 (by omega), rc (5 + c') (by omega)]
  refine ⟨⟨⟨f2, f10, p1, p5, m1, m4, n24⟩, ?_, ?_, ?_, ?_, ?_, ?_⟩, fun r' h9 => ?_, fun f r' hf => ?_, fun c' hc' => ?_, fun r' => ?_, fun r' h9 => ?_, iL_note hk9 hL s7.2, ?_⟩
  · rw [rc 1 (by omega), r40 _ (by decide)]; exact s2
  · rw [rc 1 (by omega), r40 _ (by decide)]; exact s3
  · rw [rc 1 (by omega), r40 _ (by decide)]; exact s4
  · rw [rc 0 (by omega), r40 _ (by decide)]; exact s5
  · rw [rc 0 (by omega), r40 _ (by decide)]; exact s6
  · rw [rc 0 (by omega), r40 _ (by decide)]; exact s7
  · rw [rc (11 + r') (by omega), rr 51 (by omega) (by omega), rr 52 (by omega) (by omega), rr 49 (by omega) (by omega), rr 50 (by omega) (by omega), rr 53 (by omega) (by omega), rr 54 (by omega) (by omega)]
    exact hR r' h9
  · rw [rc 2 (by omega), rc 3 (by omega), rr 51 (by omega) (by omega), rr 52 (by omega) (by omega)]
    exact hH f r' hf
  · obtain ⟨d1, d2, d3, d4, d5, d6⟩ := hC c' hc'
    unfold iC1
    rw [rc (5 + c') (by omega), rr 41 (by omega) (by omega), rr 42 (by omega) (by omega), rr 43 (by omega) (by omega), rr 44 (by omega) (by omega), rr 45 (by omega) (by omega), rr 46 (by omega) (by omega), rr 47 (by omega) (by omega), rr 48 (by omega) (by omega), eU c' hc']
    refine ⟨d1, d2, d3, fun r' => ?_, fun r' => ?_, d6⟩
    · rw [d4, eA]
    · rw [d5, eW]
  · rw [rc 0 (by omega), rr 49 (by omega) (by omega), rr 50 (by omega) (by omega)]
    exact hN r'
  · obtain ⟨a, b, d⟩ := hT r' h9
    rw [rr 49 (by omega) (by omega), rr 50 (by omega) (by omega)]
    refine ⟨a, b, ?_⟩
    rcases d with d | ⟨c', h1, h2, h3⟩
    · exact Or.inl d
    · exact Or.inr ⟨c', h1, h2, fun h => h3 ((eU c' h1).mp h)⟩
  · unfold iA
    rw [rc 0 (by omega), rr 49 (by omega) (by omega), rr 54 (by omega) (by omega)]
    exact hA
def tOff (T : Nat → Bool) (x : Nat) : Nat → Bool := fun r => T r && !decide (r = x)
theorem ch_set (hI : zInv F p m n t k o T sc sr) (hx : T x = true) {c : Nat} (hc : c < m) (hu : iU sc c) :
    zInv F p m n t k o (tOff T x) (zp (zp sc (11 + x) 3 (zi c)) (5 + c) 9 (sc (5 + c) 9 ||| (1 <<< (zi x &&& 31)))) (zp sr 50 x (zi c)) := by
  obtain ⟨hS, hR, hH, hC, hN, hT, hL, hA⟩ := hI
  obtain ⟨⟨f2, f10, p1, p5, m1, m4, n24⟩, s2, s3, s4, s5, s6, s7⟩ := id hS
  obtain ⟨hxn, hx0, hxc⟩ := hT x hx
  obtain ⟨sc', hsc'⟩ : ∃ sc', sc' = zp (zp sc (11 + x) 3 (zi c)) (5 + c) 9 (sc (5 + c) 9 ||| (1 <<< (zi x &&& 31))) := ⟨_, rfl⟩
  rw [← hsc']
  have q : ∀ a, a ≠ 11 + x → a ≠ 5 + c → sc' a = sc a := fun a h1 h2 => by rw [hsc', zp_row _ _ h2, zp_row _ _ h1]
  have qx : ∀ j, j ≠ 3 → sc' (11 + x) j = sc (11 + x) j := fun j h => by rw [hsc', zp_row _ _ (by omega), zp_o _ _ h]
  have qx3 : sc' (11 + x) 3 = zi c := by rw [hsc', zp_row _ _ (by omega), zp_s]
  have qc : ∀ j, j ≠ 9 → sc' (5 + c) j = sc (5 + c) j := fun j h => by rw [hsc', zp_o _ _ h, zp_row _ _ (by omega)]
  have qc9 : sc' (5 + c) 9 = sc (5 + c) 9 ||| (1 <<< (zi x &&& 31)) := by rw [hsc', zp_s]
  have r : ∀ a, a ≠ 50 → zp sr 50 x (zi c) a = sr a := fun a h => zp_row _ _ h
  have rx : zp sr 50 x (zi c) 50 x = zi c := zp_s _ _ _ _
  have ro : ∀ i, i ≠ x → zp sr 50 x (zi c) 50 i = sr 50 i := fun i h => zp_o _ _ h
  have eU : ∀ c', c' < m → (iU sc' c' ↔ iU sc c') := fun c' h => by
    unfold iU
    rw [q 1 (by omega) (by omega)]
    by_cases e : c' = c
    · subst e; rw [qc 5 (by decide), qc 6 (by decide)]
    · rw [q (5 + c') (by omega) (by omega)]
  refine ⟨⟨⟨f2, f10, p1, p5, m1, m4, n24⟩, ?_, ?_, ?_, ?_, ?_, ?_⟩, fun r' h9 => ?_, fun f r' hf => ?_, fun c' hc' => ?_, fun r' => ?_, fun r' h9 => ?_, ?_, ?_⟩
  · rw [q 1 (by omega) (by omega), r 40 (by decide)]; exact s2
  · rw [q 1 (by omega) (by omega), r 40 (by decide)]; exact s3
  · rw [q 1 (by omega) (by omega), r 40 (by decide)]; exact s4
  · rw [q 0 (by omega) (by omega), r 40 (by decide)]; exact s5
  · rw [q 0 (by omega) (by omega), r 40 (by decide)]; exact s6
  · rw [q 0 (by omega) (by omega), r 40 (by decide)]; exact s7
  · rw [r 51 (by decide), r 52 (by decide), r 49 (by decide), r 53 (by decide), r 54 (by decide)]
    obtain ⟨⟨a0, a1, a2, a3, a4, a5⟩, a6, a7⟩ := hR r' h9
    by_cases e : r' = x
    · subst e
      rw [qx 0 (by decide), qx 1 (by decide), qx 2 (by decide), qx3, qx 4 (by decide), qx 5 (by decide), rx]
      exact ⟨⟨a0, a1, a2, rfl, a4, a5⟩, a6, Or.inr ⟨c, hc, rfl⟩⟩
    · rw [q (11 + r') (by omega) (by omega), ro r' e]
      exact ⟨⟨a0, a1, a2, a3, a4, a5⟩, a6, a7⟩
  · rw [q 2 (by omega) (by omega), q 3 (by omega) (by omega), r 51 (by decide), r 52 (by decide)]; exact hH f r' hf
  · obtain ⟨d1, d2, d3, d4, d5, d6⟩ := hC c' hc'
    have eA : ∀ r', mA (zp sr 50 x (zi c)) c' 0 r' = mA sr c' 0 r' := fun r' => by
      unfold mA
      rw [Nat.zero_add, r 49 (by decide)]
      by_cases e : r' = x
      · subst e; rw [hx0]; simp
      · rw [ro r' e]
    have eW : ∀ r', r' ≠ x → mW (zp sr 50 x (zi c)) c' 0 r' = mW sr c' 0 r' := fun r' e => by
      unfold mW; rw [Nat.zero_add, r 49 (by decide), ro r' e]
    have eWx : mW (zp sr 50 x (zi c)) c' 0 x = decide (c = c') := by
      unfold mW
      rw [Nat.zero_add, r 49 (by decide), rx, hx0]
      have : (zi c = zi c') ↔ c = c' := zi_eq (by omega) (by omega)
      simp [this]
    unfold iC1
    rw [r 41 (by decide), r 42 (by decide), r 43 (by decide), r 44 (by decide), r 45 (by decide), r 46 (by decide), r 47 (by decide), r 48 (by decide), eU c' hc']
    by_cases e : c' = c
    · subst e
      have rk : rOK F o (sc' (5 + c')) := by
        unfold rOK
        rw [qc 0 (by decide), qc 1 (by decide), qc 2 (by decide), qc 3 (by decide), qc 4 (by decide)]
        exact d3
      rw [qc 0 (by decide), qc 1 (by decide), qc 2 (by decide), qc 3 (by decide), qc 4 (by decide), qc 5 (by decide), qc 6 (by decide), qc 7 (by decide), qc 8 (by decide), qc9]
      refine ⟨d1, d2, rk, fun r' => ?_, fun r' => ?_, Or.inl hu⟩
      · rw [d4, eA]
      · rw [zbit_or, d5, zbit_shl (by omega)]
        by_cases e : r' = x
        · subst e; rw [eWx]; simp [hxn, tOff]
        · rw [eW r' e]; simp [tOff, e]
    · rw [q (5 + c') (by omega) (by omega)]
      refine ⟨d1, d2, d3, fun r' => ?_, fun r' => ?_, d6⟩
      · rw [d4, eA]
      · rw [d5]
        by_cases e2 : r' = x
        · subst e2; rw [eWx]; simp [hx, Ne.symm e]
        · rw [eW r' e2]; simp [tOff, e2]
  · rw [q 0 (by omega) (by omega), hN, r 49 (by decide)]
    by_cases e : r' = x
    · subst e
      rw [rx, hx]
      have : ¬ zi c = -1 := fun h => zi_m1 (by omega) h.symm
      simp [this]
    · rw [ro r' e]; simp [tOff, e]
  · unfold tOff at h9
    simp only [Bool.and_eq_true, Bool.not_eq_true', decide_eq_false_iff_not] at h9
    obtain ⟨a, b, d⟩ := hT r' h9.1
    rw [r 49 (by decide), ro r' h9.2]
    refine ⟨a, b, ?_⟩
    rcases d with d | ⟨c', h1, h2, h3⟩
    · exact Or.inl d
    · exact Or.inr ⟨c', h1, h2, fun h => h3 ((eU c' h1).mp h)⟩
  · obtain ⟨a, b, d⟩ := hL
    refine ⟨by rw [q 35 (by omega) (by omega)]; exact a, by rw [r 40 (by decide)]; exact b, fun j hj => ?_⟩
    rw [q 36 (by omega) (by omega), q 37 (by omega) (by omega), q 38 (by omega) (by omega), q 39 (by omega) (by omega), r 55 (by decide)]
    exact d j hj
  · unfold iA
    rw [q 0 (by omega) (by omega), r 49 (by decide), r 54 (by decide)]
    exact hA
theorem ch_set0 (hI : zInv F p m n t k o T sc sr) (hx : T x = true) :
    zInv F p m n t k o (tOff T x) (zp (zp sc (11 + x) 3 (-1)) 0 7 (sc 0 7 ||| (1 <<< (zi x &&& 31)))) (zp sr 50 x (-1)) := by
  obtain ⟨hS, hR, hH, hC, hN, hT, hL, hA⟩ := hI
  obtain ⟨⟨f2, f10, p1, p5, m1, m4, n24⟩, s2, s3, s4, s5, s6, s7⟩ := id hS
  obtain ⟨hxn, hx0, hxc⟩ := hT x hx
  obtain ⟨sc', hsc'⟩ : ∃ sc', sc' = zp (zp sc (11 + x) 3 (-1)) 0 7 (sc 0 7 ||| (1 <<< (zi x &&& 31))) := ⟨_, rfl⟩
  rw [← hsc']
  have q : ∀ a, a ≠ 11 + x → a ≠ 0 → sc' a = sc a := fun a h1 h2 => by rw [hsc', zp_row _ _ h2, zp_row _ _ h1]
  have qx : ∀ j, j ≠ 3 → sc' (11 + x) j = sc (11 + x) j := fun j h => by rw [hsc', zp_row _ _ (by omega), zp_o _ _ h]
  have qx3 : sc' (11 + x) 3 = -1 := by rw [hsc', zp_row _ _ (by omega), zp_s]
  have q0 : ∀ j, j ≠ 7 → sc' 0 j = sc 0 j := fun j h => by rw [hsc', zp_o _ _ h, zp_row _ _ (by omega)]
  have q07 : sc' 0 7 = sc 0 7 ||| (1 <<< (zi x &&& 31)) := by rw [hsc', zp_s]
  have r : ∀ a, a ≠ 50 → zp sr 50 x (-1) a = sr a := fun a h => zp_row _ _ h
  have rx : zp sr 50 x (-1) 50 x = -1 := zp_s _ _ _ _
  have ro : ∀ i, i ≠ x → zp sr 50 x (-1) 50 i = sr 50 i := fun i h => zp_o _ _ h
  have eU : ∀ c', c' < m → (iU sc' c' ↔ iU sc c') := fun c' h => by
    unfold iU
    rw [q 1 (by omega) (by omega), q (5 + c') (by omega) (by omega)]
  refine ⟨⟨⟨f2, f10, p1, p5, m1, m4, n24⟩, ?_, ?_, ?_, ?_, ?_, ?_⟩, fun r' h9 => ?_, fun f r' hf => ?_, fun c' hc' => ?_, fun r' => ?_, fun r' h9 => ?_, ?_, ?_⟩
  · rw [q 1 (by omega) (by omega), r 40 (by decide)]; exact s2
  · rw [q 1 (by omega) (by omega), r 40 (by decide)]; exact s3
  · rw [q 1 (by omega) (by omega), r 40 (by decide)]; exact s4
  · rw [q0 5 (by decide), r 40 (by decide)]; exact s5
  · rw [q0 6 (by decide), r 40 (by decide)]; exact s6
  · rw [q0 8 (by decide), r 40 (by decide)]; exact s7
  · rw [r 51 (by decide), r 52 (by decide), r 49 (by decide), r 53 (by decide), r 54 (by decide)]
    obtain ⟨⟨a0, a1, a2, a3, a4, a5⟩, a6, a7⟩ := hR r' h9
    by_cases e : r' = x
    · subst e
      rw [qx 0 (by decide), qx 1 (by decide), qx 2 (by decide), qx3, qx 4 (by decide), qx 5 (by decide), rx]
      exact ⟨⟨a0, a1, a2, rfl, a4, a5⟩, a6, Or.inl rfl⟩
    · rw [q (11 + r') (by omega) (by omega), ro r' e]
      exact ⟨⟨a0, a1, a2, a3, a4, a5⟩, a6, a7⟩
  · rw [q 2 (by omega) (by omega), q 3 (by omega) (by omega), r 51 (by decide), r 52 (by decide)]; exact hH f r' hf
  · obtain ⟨d1, d2, d3, d4, d5, d6⟩ := hC c' hc'
    have eA : ∀ r', mA (zp sr 50 x (-1)) c' 0 r' = mA sr c' 0 r' := fun r' => by
      unfold mA
      rw [Nat.zero_add, r 49 (by decide)]
      by_cases e : r' = x
      · subst e; rw [hx0]; simp
      · rw [ro r' e]
    have eW : ∀ r', r' ≠ x → mW (zp sr 50 x (-1)) c' 0 r' = mW sr c' 0 r' := fun r' e => by
      unfold mW; rw [Nat.zero_add, r 49 (by decide), ro r' e]
    have eWx : mW (zp sr 50 x (-1)) c' 0 x = false := by
      unfold mW
      rw [Nat.zero_add, r 49 (by decide), rx]
      simp [zi_m1 (show c' < 2147483648 by omega)]
    unfold iC1
    rw [r 41 (by decide), r 42 (by decide), r 43 (by decide), r 44 (by decide), r 45 (by decide), r 46 (by decide), r 47 (by decide), r 48 (by decide), eU c' hc', q (5 + c') (by omega) (by omega)]
    refine ⟨d1, d2, d3, fun r' => ?_, fun r' => ?_, d6⟩
    · rw [d4, eA]
    · rw [d5]
      by_cases e2 : r' = x
      · subst e2; rw [eWx]; simp [hx]
      · rw [eW r' e2]; simp [tOff, e2]
  · rw [q07, zbit_or, hN, zbit_shl (by omega), r 49 (by decide)]
    by_cases e : r' = x
    · subst e
      rw [rx, hx0]
      simp [hxn, tOff]
    · rw [ro r' e]; simp [tOff, e]
  · unfold tOff at h9
    simp only [Bool.and_eq_true, Bool.not_eq_true', decide_eq_false_iff_not] at h9
    obtain ⟨a, b, d⟩ := hT r' h9.1
    rw [r 49 (by decide), ro r' h9.2]
    refine ⟨a, b, ?_⟩
    rcases d with d | ⟨c', h1, h2, h3⟩
    · exact Or.inl d
    · exact Or.inr ⟨c', h1, h2, fun h => h3 ((eU c' h1).mp h)⟩
  · obtain ⟨a, b, d⟩ := hL
    refine ⟨by rw [q 35 (by omega) (by omega)]; exact a, by rw [r 40 (by decide)]; exact b, fun j hj => ?_⟩
    rw [q 36 (by omega) (by omega), q 37 (by omega) (by omega), q 38 (by omega) (by omega), q 39 (by omega) (by omega), r 55 (by decide)]
    exact d j hj
  · unfold iA
    rw [q0 9 (by decide), q0 10 (by decide), q0 11 (by decide), r 49 (by decide), r 54 (by decide)]
    exact hA
theorem ch_car (hN : 1010 ≤ N) (ho : o < 900000000) (hk9 : k < 1900000000) (hI : zInv F p m n t k o T sc sr) (hx : T x = true) :
    ∃ sc' sr', zf_LG_chooseCar N (zi x) sc = some sc' ∧ zf_Mo_choose N (zi x) sr = some sr' ∧ zInv F p m n t (k + 1) o (tOff T x) sc' sr' ∧ hiF sc sc' ∧ loF sr sr' ∧ (∀ r, r < 24 → sr' 49 r = sr 49 r) ∧ (∀ r, r < 24 → r ≠ x → sr' 50 r = sr 50 r) := by
  obtain ⟨⟨f2, f10, p1, p5, m1, m4, n24⟩, s2, s3, s4, s5, s6, s7⟩ := id hI.1
  obtain ⟨hxn, hx0, hxc⟩ := hI.2.2.2.2.2.1 x hx
  obtain ⟨b, scE, srE, hC, hR, hb, h1, h2⟩ := ch_loop (N := N) hN ho hI hx m 0 N N (-1) 0 sc sr (by omega) (by omega) (by omega) (fun q _ => rfl) (fun q j _ _ _ => rfl) (Or.inl rfl)
  have e1 : zf_LG_chooseCar N (zi x) sc = zb_LG_chooseCar_12 N (fun _ _ _ _ _ _ => none) (zi x) (1 <<< (zi x &&& 31)) b 0 (zi m) scE := h1
  have e2 : zf_Mo_choose N (zi x) sr = zb_Mo_choose_7 N (fun _ _ _ _ _ => none) (zi x) b 0 (zi m) srE := h2
  have g5 : scE 0 5 ≤ zi m := by rw [hC 0 (by decide), s5.1]; exact Int32.le_refl _
  have g2 : srE 40 2 ≤ zi m := by rw [hR 40 2 (by omega) (by omega) (by omega), s5.2]; exact Int32.le_refl _
  have i24 : ¬ (zi x < 0 ∨ 24 ≤ x) := zi_inn (by omega) (by decide)
  have i48 : ¬ (zi x < 0 ∨ 48 ≤ x) := zi_inn (by omega) (by decide)
  have c8 : scE 0 8 = zi t := by rw [hC 0 (by decide), s7.1]
  have c35 : scE 35 4 = zi k := by rw [hC 35 (by decide)]; exact hI.2.2.2.2.2.2.1.1
  have r22 : srE 40 22 = zi k := by rw [hR 40 22 (by omega) (by omega) (by omega)]; exact hI.2.2.2.2.2.2.1.2.1
  have rd : ∀ v : Int32, xR x sr (zp srE 50 x v) := fun v q j a1 a2 a3 => by rw [← hR q j a1 a2 a3]; unfold zp; rw [if_neg a3]
  have nr : ∀ (v kind c : Int32) r, r < 24 → mN kind (zi x) c (zp srE 50 x v) 49 r = sr 49 r := fun v kind c r hr => by
    rw [mN_row (by decide) (by decide)]; exact rd v 49 r (by omega) (by omega) (by omega)
  have nr5 : ∀ (v kind c : Int32) r, r < 24 → r ≠ x → mN kind (zi x) c (zp srE 50 x v) 50 r = sr 50 r := fun v kind c r hr hx => by
    rw [mN_row (by decide) (by decide)]; exact rd v 50 r (by omega) (by omega) (by omega)
  have lo : ∀ (v kind c : Int32), loF sr (mN kind (zi x) c (zp srE 50 x v)) := fun v kind c => by
    refine ⟨fun q hq => ?_, ?_, ?_⟩
    · rw [mN_row (by omega) (by omega), zp_row _ _ (by omega)]
      funext j
      exact hR q j (by omega) (by omega) (by omega)
    · rw [mN_row (by omega) (by omega), zp_row _ _ (by omega)]
      funext j
      exact hR 56 j (by omega) (by omega) (by omega)
    · rw [mN_40 (by decide), zp_row _ _ (by omega)]
      exact hR 40 0 (by omega) (by omega) (by omega)
  rcases hb with rfl | ⟨c, hc, rfl, hu⟩
  · have E1 : zf_LG_chooseCar N (zi x) sc = some (cN (zi t) 5 (zi x) (-1) (zp (zp scE (11 + x) 3 (-1)) 0 7 (scE 0 7 ||| (1 <<< (zi x &&& 31))))) := by
      rw [e1]
      unfold zb_LG_chooseCar_12 zf_LG_chooseCar_158
      rw [if_pos g5]
      simp only [zi_nat (show x < 2147483648 by omega), i24, if_false, if_true, c8]
      rw [c_note (k := k) (by rw [zp_row _ _ (by decide), zp_row _ _ (by omega)]; exact c35) (by omega)]
      rfl
    have E2 : zf_Mo_choose N (zi x) sr = some (mN 5 (zi x) (-1) (zp srE 50 x (-1))) := by
      rw [e2]
      unfold zb_Mo_choose_7 zf_Mo_choose_98
      rw [if_pos g2]
      simp only [zi_nat (show x < 2147483648 by omega), i48, if_false, show ¬ ((0 : Int32) ≤ -1) by decide]
      rw [m_note (k := k) _ _ _ (by rw [zp_row _ _ (by decide)]; exact r22) (by omega)]
      rfl
    have hfin := zInv_note (kind := 5) (r := zi x) (c := -1) (by omega) (ch_set0 hI hx)
    refine ⟨_, _, E1, E2, zInv_fr hfin (fun q hq h9 => ?_) (fun q j a1 a2 a3 a4 a5 => ?_), fun q hq => ?_, lo _ _ _, nr _ _ _, nr5 _ _ _⟩
    · rw [hC 0 (by decide)]
      exact cN_rc (zp_rc (zp_rc (hC q h9))) (by rw [zp_row _ _ (by decide), zp_row _ _ (by omega), zp_row _ _ (by decide), zp_row _ _ (by omega), hC 35 (by decide)])
    · refine mN_cc ?_ ?_ ?_
      · by_cases e : q = 50 ∧ j = x
        · obtain ⟨rfl, rfl⟩ := e; rw [zp_s, zp_s]
        · exact zp_cc (hR q j a1 a2 e)
      · exact zp_cc (hR 40 22 (by omega) (by omega) (by omega))
      · exact zp_cc (hR 40 20 (by omega) (by omega) (by omega))
    · rw [cN_row (by omega), zp_row _ _ (by omega), zp_row _ _ (by omega)]; exact hC q (by omega)
  · have ne1 : ¬ zi c = -1 := fun h => zi_m1 (by omega) h.symm
    have i4 : ¬ (zi c < 0 ∨ 4 ≤ c) := zi_inn (by omega) (by decide)
    have ge0 : (0 : Int32) ≤ zi c := (zi_le (a := 0) (by decide) (by omega)).mpr (by omega)
    have E1 : zf_LG_chooseCar N (zi x) sc = some (cN (zi t) 1 (zi x) (zi c) (zp (zp scE (11 + x) 3 (zi c)) (5 + c) 9 (scE (5 + c) 9 ||| (1 <<< (zi x &&& 31))))) := by
      rw [e1]
      unfold zb_LG_chooseCar_12 zf_LG_chooseCar_158
      rw [if_pos g5]
      simp only [zi_nat (show x < 2147483648 by omega), zi_nat (show c < 2147483648 by omega), i24, i4, if_false, ne1, c8]
      rw [c_note (k := k) (by rw [zp_row _ _ (by omega), zp_row _ _ (by omega)]; exact c35) (by omega)]
      rfl
    have E2 : zf_Mo_choose N (zi x) sr = some (mN 1 (zi x) (zi c) (zp srE 50 x (zi c))) := by
      rw [e2]
      unfold zb_Mo_choose_7 zf_Mo_choose_98
      rw [if_pos g2]
      simp only [zi_nat (show x < 2147483648 by omega), i48, if_false, ge0, if_true]
      rw [m_note (k := k) _ _ _ (by rw [zp_row _ _ (by decide)]; exact r22) (by omega)]
      rfl
    have hfin := zInv_note (kind := 1) (r := zi x) (c := zi c) (by omega) (ch_set hI hx hc hu)
    refine ⟨_, _, E1, E2, zInv_fr hfin (fun q hq h9 => ?_) (fun q j a1 a2 a3 a4 a5 => ?_), fun q hq => ?_, lo _ _ _, nr _ _ _, nr5 _ _ _⟩
    · rw [hC (5 + c) (by omega)]
      exact cN_rc (zp_rc (zp_rc (hC q h9))) (by rw [zp_row _ _ (by omega), zp_row _ _ (by omega), zp_row _ _ (by omega), zp_row _ _ (by omega), hC 35 (by decide)])
    · refine mN_cc ?_ ?_ ?_
      · by_cases e : q = 50 ∧ j = x
        · obtain ⟨rfl, rfl⟩ := e; rw [zp_s, zp_s]
        · exact zp_cc (hR q j a1 a2 e)
      · exact zp_cc (hR 40 22 (by omega) (by omega) (by omega))
      · exact zp_cc (hR 40 20 (by omega) (by omega) (by omega))
    · rw [cN_row (by omega), zp_row _ _ (by omega), zp_row _ _ (by omega)]; exact hC q (by omega)
theorem ch_all {set : Int32} {cc : Int32} (hN : 1010 ≤ N) (ho : o < 900000000) :
    ∀ (j r fc fr k : Nat) (T : Nat → Bool) (sc sr : zS), r + j = n → j < fc → j < fr → k + j < 1900000000 → zInv F p m n t k o T sc sr → (∀ i, T i = (decide (r ≤ i) && zbit set i)) → (∀ i, r ≤ i → i < n → ((sr 49 i = 0 ∧ sr 50 i = cc) ↔ zbit set i = true)) →
    ∃ sc' sr' k', zf_LG_chooseForAll_2 N fc set (zi r) sc = some sc' ∧ zf_Mo_chooseFor_2 N fr cc (zi r) sr = some sr' ∧ k' ≤ k + j ∧ zInv F p m n t k' o (fun _ => false) sc' sr' ∧ hiF sc sc' ∧ loF sr sr' := by
  intro j
  induction j with
  | zero =>
    intro r fc fr k T sc sr hr hfc hfr hk hI hT hcc
    obtain ⟨fc, rfl⟩ : ∃ f', fc = f' + 1 := ⟨fc - 1, by omega⟩
    obtain ⟨fr, rfl⟩ : ∃ f', fr = f' + 1 := ⟨fr - 1, by omega⟩
    obtain ⟨⟨f2, f10, p1, p5, m1, m4, n24⟩, s2, s3, s4, s5, s6, s7⟩ := id hI.1
    have hrn : r = n := by omega
    subst hrn
    have eT : T = fun _ => false := by
      funext i
      cases h : T i with
      | false => rfl
      | true =>
        have h1 := (hI.2.2.2.2.2.1 i h).1
        rw [hT i] at h
        simp only [Bool.and_eq_true, decide_eq_true_eq] at h
        omega
    rw [eT] at hI
    refine ⟨sc, sr, k, ?_, ?_, by omega, hI, hiF.refl _, loF.refl _⟩
    · show zb_LG_chooseForAll_2 N _ _ _ _ = _
      unfold zb_LG_chooseForAll_2
      rw [s6.1, if_pos (Int32.le_refl _)]
    · show zb_Mo_chooseFor_2 N _ _ _ _ = _
      unfold zb_Mo_chooseFor_2
      rw [s6.2, if_pos (Int32.le_refl _)]
  | succ j ih =>
    intro r fc fr k T sc sr hr hfc hfr hk hI hT hcc
    obtain ⟨fc, rfl⟩ : ∃ f', fc = f' + 1 := ⟨fc - 1, by omega⟩
    obtain ⟨fr, rfl⟩ : ∃ f', fr = f' + 1 := ⟨fr - 1, by omega⟩
    obtain ⟨⟨f2, f10, p1, p5, m1, m4, n24⟩, s2, s3, s4, s5, s6, s7⟩ := id hI.1
    have gn : ¬ (zi n ≤ zi r) := fun h => by have := (zi_le (by omega) (by omega)).mp h; omega
    have i48 : ¬ (zi r < 0 ∨ 48 ≤ r) := zi_inn (by omega) (by decide)
    have e1 : zf_LG_chooseForAll_2 N (fc + 1) set (zi r) sc = if zbit set r = true then (zf_LG_chooseCar N (zi r) sc).bind fun t20 => zf_LG_chooseForAll_2 N fc set (zi (r + 1)) t20 else zf_LG_chooseForAll_2 N fc set (zi (r + 1)) sc := by
      show zb_LG_chooseForAll_2 N _ _ _ _ = _
      unfold zb_LG_chooseForAll_2 zf_LG_chooseForAll_23
      rw [s6.1, if_neg gn]
      cases hb : zbit set r with
      | true => rw [if_neg (fun h9 => by rw [(zbit_test set (by omega)).mp h9] at hb; cases hb), if_pos rfl, zi_succ]
      | false => rw [if_pos ((zbit_test set (by omega)).mpr hb), if_neg (by decide), zi_succ]
    have e2 : zf_Mo_chooseFor_2 N (fr + 1) cc (zi r) sr = if zbit set r = true then (zf_Mo_choose N (zi r) sr).bind fun t31 => zf_Mo_chooseFor_2 N fr cc (zi (r + 1)) t31 else zf_Mo_chooseFor_2 N fr cc (zi (r + 1)) sr := by
      show zb_Mo_chooseFor_2 N _ _ _ _ = _
      unfold zb_Mo_chooseFor_2 zf_Mo_chooseFor_34
      rw [s6.2, if_neg gn]
      simp only [zi_nat (show r < 2147483648 by omega), i48, if_false, zi_succ]
      have hi := hcc r (by omega) (by omega)
      by_cases a1 : sr 49 r = 0
      · by_cases a2 : sr 50 r = cc
        · have := hi.mp ⟨a1, a2⟩; simp [a1, a2, this]
        · have : ¬ zbit set r = true := fun h => a2 (hi.mpr h).2
          simp [a1, a2, this]
      · have : ¬ zbit set r = true := fun h => a1 (hi.mpr h).1
        simp [a1, this]
    rw [e1, e2]
    cases hb : zbit set r with
    | true =>
      have hTr : T r = true := by rw [hT, hb]; simp
      obtain ⟨sc1, sr1, a1, a2, a3, a4, a5, a6, a7⟩ := ch_car (N := N) hN ho (by omega) hI hTr
      rw [if_pos rfl, if_pos rfl, a1, a2]
      simp only [Option.bind_some]
      obtain ⟨sc', sr', k', b1, b2, b3, b4, b5, b6⟩ := ih (r + 1) fc fr (k + 1) (tOff T r) sc1 sr1 (by omega) (by omega) (by omega) (by omega) a3 (fun i => by
        unfold tOff
        rw [hT i]
        by_cases c1 : i = r
        · subst c1; simp [show ¬ i + 1 ≤ i by omega]
        · by_cases c2 : r ≤ i
          · simp [c1, c2, show r + 1 ≤ i by omega]
          · simp [c1, c2, show ¬ r + 1 ≤ i by omega]) (fun i h1 h2 => by rw [a6 i (by omega), a7 i (by omega) (by omega)]; exact hcc i (by omega) h2)
      exact ⟨sc', sr', k', b1, b2, by omega, b4, a4.trans b5, a5.trans b6⟩
    | false =>
      rw [if_neg (by decide), if_neg (by decide)]
      obtain ⟨sc', sr', k', b1, b2, b3, b4, b5, b6⟩ := ih (r + 1) fc fr k T sc sr (by omega) (by omega) (by omega) (by omega) hI (fun i => by
        rw [hT i]
        by_cases c1 : i = r
        · subst c1; simp [hb]
        · by_cases c2 : r ≤ i
          · simp [c2, show r + 1 ≤ i by omega]
          · simp [c2, show ¬ r + 1 ≤ i by omega]) (fun i h1 h2 => hcc i (by omega) h2)
      exact ⟨sc', sr', k', b1, b2, by omega, b4, b5, b6⟩
end CH
