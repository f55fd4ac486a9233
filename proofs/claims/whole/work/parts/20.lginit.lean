def zn_W (U : State) : Prop := va_Nw (.methodLinkNest zR0 9 zy_Ho_init "LiftGroup") U ∧ va_Nw (.methodLinkNest zR0 22 zy_Ca_init "LiftGroup") U ∧ va_Nw (.methodLinkNest zR0 33 zy_Ri_init "LiftGroup") U ∧ va_Nw (.methodLinkNest zR0 36 zy_Lo_init "LiftGroup") U ∧ va_AO zR2 U ∧ va_AO zR3 U
theorem zn_W.warm {s U : State} (hW : s.WarmedH U.vm) (h : zn_W s) : zn_W U := ⟨va_Nw.warmM hW h.1, va_Nw.warmM hW h.2.1, va_Nw.warmM hW h.2.2.1, va_Nw.warmM hW h.2.2.2.1, va_AO.moved hW.alike h.2.2.2.2.1, va_AO.moved hW.alike h.2.2.2.2.2⟩
theorem zn_arrT {args : Array Value} {s : State} {ty : FieldType} (h : (Cond.arrayClass ty).before args s = true) : ∃ cA, ArrOfT s cA ty ∧ s.vm.findClass ("[" ++ ty.toString) = some cA := by
  obtain ⟨cA, kA, comp, h1, h2, h3⟩ := Cond.arrayClass_spec (show (Cond.arrayClass ty).holds args s none s [] = true from h)
  exact ⟨cA, fun n z => ⟨fun k h => (by cases h), kA, h2, comp, h3⟩, h1⟩
theorem zn_vp {cA : ClassId} {n : Nat} {f g : Nat → Option Nat} (h : ∀ j, j < n → f j = g j) : vp_cell cA (n, .inr (.inr (.inr (.inr f)))) = vp_cell cA (n, .inr (.inr (.inr (.inr g)))) := by
  rw [vp_cell_q, vp_cell_q]
  unfold arrV
  congr 1
  refine Array.ext_getElem? (fun i => ?_)
  simp only [Array.getElem?_ofFn]
  by_cases hi : i < n
  · simp [hi, h i hi]
  · simp [hi]
theorem zn_Peq {D : va_G} {ws ws' : va_W} {H : Heap} (h : va_P D zwCl ws H) (he : ∀ (k : Nat) (q : Nat × va_E), ws'[k]? = some q → ∃ q0 : Nat × va_E, ws[k]? = some q0 ∧ q0.1 = q.1 ∧ (q0.2 = q.2 ∨ ∃ (cA : ClassId) (n : Nat) (f g : Nat → Option Nat), q0.2 = .inl (cA, n, .inr (.inr (.inr (.inr f)))) ∧ q.2 = .inl (cA, n, .inr (.inr (.inr (.inr g)))) ∧ ∀ j, j < n → f j = g j)) : va_P D zwCl ws' H := by
  intro k q hk
  obtain ⟨q0, h0, h1, h2⟩ := he k q hk
  have h3 := h k q0 h0
  obtain ⟨a0, e0⟩ := q0
  obtain ⟨a, e⟩ := q
  dsimp only at h1 h2
  subst h1
  rcases h2 with rfl | ⟨cA, n, f, g, rfl, rfl, h4⟩
  · exact h3
  · have h5 : H[a0]? = some (vp_cell cA (n, .inr (.inr (.inr (.inr f))))) := h3
    show H[a0]? = some (vp_cell cA (n, .inr (.inr (.inr (.inr g)))))
    rw [h5, zn_vp h4]
theorem zn_Deq {A : Nat → Prop} {ws ws' : va_W} (h : va_D A ws) (he : ∀ (k : Nat) (q : Nat × va_E), ws'[k]? = some q → ∃ q0 : Nat × va_E, ws[k]? = some q0 ∧ q0.1 = q.1) : va_D A ws' := by
  refine ⟨fun i j x y hx hy hxy => ?_, fun k x hx => ?_⟩
  · obtain ⟨x0, h1, h2⟩ := he i x hx
    obtain ⟨y0, h3, h4⟩ := he j y hy
    exact h.1 i j x0 y0 h1 h3 (by rw [h2, h4]; exact hxy)
  · obtain ⟨x0, h1, h2⟩ := he k x hx
    rw [← h2]
    exact h.2 k x0 h1
abbrev zrm_LG_init : Room := { frames := 6, cells := 70, slots := 420, locals := 200 }
def zn_ad (h0 h1 a2 a3 a4 a9 a10 g35 g36 g37 g38 g39 : Nat) (ca ra : Nat → Nat) : List Nat := [h0, h1, a2, a3, a4, ca 0, ca 1, ca 2, ca 3, a9, a10, ra 0, ra 1, ra 2, ra 3, ra 4, ra 5, ra 6, ra 7, ra 8, ra 9, ra 10, ra 11, ra 12, ra 13, ra 14, ra 15, ra 16, ra 17, ra 18, ra 19, ra 20, ra 21, ra 22, ra 23, g35, g36, g37, g38, g39]
def zn_E (D : va_G) (cI cZ cC cR cJ : ClassId) (ad : List Nat) : zE := (D, fun k => [cI, cZ, cC, cR, cJ].getD k 0, fun k => ad.getD k 0, 40)
def zn_fin (cI cC cR : ClassId) (h0 h1 a2 a3 a4 a9 a10 g35 g36 g37 g38 g39 : Nat) (ca ra : Nat → Nat) : va_W := [(h0, .inr (0, [.ref h1, .ref a4, .ref a9, .ref a10, .ref g35, .int 0, .int 0, .int 0, .int 0, .int 0, .int 0, .int 0])), (h1, .inr (1, [.ref a2, .ref a3, .int 0, .int 0, .int 0])), (a2, .inl (cI, 10, .inl (fun _ => 0))), (a3, .inl (cI, 10, .inl (fun _ => 0))), (a4, .inl (cC, 4, .inr (.inr (.inr (.inr (zn_f ca 4)))))), (ca 0, .inr (2, [.int 0, .int 0, .int 0, .int 0, .int 0, .int 0, .int 0, .int 0, .int 0, .int 0, .int 0, .int 0, .int 0])), (ca 1, .inr (2, [.int 0, .int 0, .int 0, .int 0, .int 0, .int 0, .int 0, .int 0, .int 0, .int 0, .int 0, .int 0, .int 0])), (ca 2, .inr (2, [.int 0, .int 0, .int 0, .int 0, .int 0, .int 0, .int 0, .int 0, .int 0, .int 0, .int 0, .int 0, .int 0])), (ca 3, .inr (2, [.int 0, .int 0, .int 0, .int 0, .int 0, .int 0, .int 0, .int 0, .int 0, .int 0, .int 0, .int 0, .int 0])), (a9, .inr (2, [.int 0, .int 0, .int 0, .int 0, .int 0, .int 0, .int 0, .int 0, .int 0, .int 0, .int 0, .int 0, .int 0])), (a10, .inl (cR, 24, .inr (.inr (.inr (.inr (zn_f ra 24)))))), (ra 0, .inr (3, [.int 0, .int 0, .int 0, .int 0, .int 0, .int 0])), (ra 1, .inr (3, [.int 0, .int 0, .int 0, .int 0, .int 0, .int 0])), (ra 2, .inr (3, [.int 0, .int 0, .int 0, .int 0, .int 0, .int 0])), (ra 3, .inr (3, [.int 0, .int 0, .int 0, .int 0, .int 0, .int 0])), (ra 4, .inr (3, [.int 0, .int 0, .int 0, .int 0, .int 0, .int 0])), (ra 5, .inr (3, [.int 0, .int 0, .int 0, .int 0, .int 0, .int 0])), (ra 6, .inr (3, [.int 0, .int 0, .int 0, .int 0, .int 0, .int 0])), (ra 7, .inr (3, [.int 0, .int 0, .int 0, .int 0, .int 0, .int 0])), (ra 8, .inr (3, [.int 0, .int 0, .int 0, .int 0, .int 0, .int 0])), (ra 9, .inr (3, [.int 0, .int 0, .int 0, .int 0, .int 0, .int 0])), (ra 10, .inr (3, [.int 0, .int 0, .int 0, .int 0, .int 0, .int 0])), (ra 11, .inr (3, [.int 0, .int 0, .int 0, .int 0, .int 0, .int 0])), (ra 12, .inr (3, [.int 0, .int 0, .int 0, .int 0, .int 0, .int 0])), (ra 13, .inr (3, [.int 0, .int 0, .int 0, .int 0, .int 0, .int 0])), (ra 14, .inr (3, [.int 0, .int 0, .int 0, .int 0, .int 0, .int 0])), (ra 15, .inr (3, [.int 0, .int 0, .int 0, .int 0, .int 0, .int 0])), (ra 16, .inr (3, [.int 0, .int 0, .int 0, .int 0, .int 0, .int 0])), (ra 17, .inr (3, [.int 0, .int 0, .int 0, .int 0, .int 0, .int 0])), (ra 18, .inr (3, [.int 0, .int 0, .int 0, .int 0, .int 0, .int 0])), (ra 19, .inr (3, [.int 0, .int 0, .int 0, .int 0, .int 0, .int 0])), (ra 20, .inr (3, [.int 0, .int 0, .int 0, .int 0, .int 0, .int 0])), (ra 21, .inr (3, [.int 0, .int 0, .int 0, .int 0, .int 0, .int 0])), (ra 22, .inr (3, [.int 0, .int 0, .int 0, .int 0, .int 0, .int 0])), (ra 23, .inr (3, [.int 0, .int 0, .int 0, .int 0, .int 0, .int 0])), (g35, .inr (4, [.ref g36, .ref g37, .ref g38, .ref g39, .int 0])), (g36, .inl (cI, 30, .inl (fun _ => 0))), (g37, .inl (cI, 30, .inl (fun _ => 0))), (g38, .inl (cI, 30, .inl (fun _ => 0))), (g39, .inl (cI, 30, .inl (fun _ => 0)))]
set_option maxRecDepth 100000 in
theorem zn_same (D : va_G) (cI cZ cC cR cJ : ClassId) (h0 h1 a2 a3 a4 a9 a10 g35 g36 g37 g38 g39 : Nat) (ca ra : Nat → Nat) : ∀ k, k < 40 → ∃ q0 : Nat × va_E, (zn_fin cI cC cR h0 h1 a2 a3 a4 a9 a10 g35 g36 g37 g38 g39 ca ra)[k]? = some q0 ∧ q0.1 = (zn_E D cI cZ cC cR cJ (zn_ad h0 h1 a2 a3 a4 a9 a10 g35 g36 g37 g38 g39 ca ra)).2.2.1 k ∧ (q0.2 = zw_ent (zn_E D cI cZ cC cR cJ (zn_ad h0 h1 a2 a3 a4 a9 a10 g35 g36 g37 g38 g39 ca ra)) (fun _ _ => 0) k ∨ ∃ (cA : ClassId) (n : Nat) (f g : Nat → Option Nat), q0.2 = .inl (cA, n, .inr (.inr (.inr (.inr f)))) ∧ zw_ent (zn_E D cI cZ cC cR cJ (zn_ad h0 h1 a2 a3 a4 a9 a10 g35 g36 g37 g38 g39 ca ra)) (fun _ _ => 0) k = .inl (cA, n, .inr (.inr (.inr (.inr g)))) ∧ ∀ j, j < n → f j = g j) := by
  intro k hk
  have h4 : ∀ j, j < 4 → zn_f ca 4 j = some ((zn_ad h0 h1 a2 a3 a4 a9 a10 g35 g36 g37 g38 g39 ca ra).getD (5 + j) 0) := by
    intro j hj
    rcases (show j = 0 ∨ j = 1 ∨ j = 2 ∨ j = 3 by omega) with rfl | rfl | rfl | rfl <;> rfl
  have h24 : ∀ j, j < 24 → zn_f ra 24 j = some ((zn_ad h0 h1 a2 a3 a4 a9 a10 g35 g36 g37 g38 g39 ca ra).getD (11 + j) 0) := by
    intro j hj
    rcases (show j = 0 ∨ j = 1 ∨ j = 2 ∨ j = 3 ∨ j = 4 ∨ j = 5 ∨ j = 6 ∨ j = 7 ∨ j = 8 ∨ j = 9 ∨ j = 10 ∨ j = 11 ∨ j = 12 ∨ j = 13 ∨ j = 14 ∨ j = 15 ∨ j = 16 ∨ j = 17 ∨ j = 18 ∨ j = 19 ∨ j = 20 ∨ j = 21 ∨ j = 22 ∨ j = 23 by omega) with rfl | rfl | rfl | rfl | rfl | rfl | rfl | rfl | rfl | rfl | rfl | rfl | rfl | rfl | rfl | rfl | rfl | rfl | rfl | rfl | rfl | rfl | rfl | rfl <;> rfl
  rcases (show k = 0 ∨ k = 1 ∨ k = 2 ∨ k = 3 ∨ k = 4 ∨ k = 5 ∨ k = 6 ∨ k = 7 ∨ k = 8 ∨ k = 9 ∨ k = 10 ∨ k = 11 ∨ k = 12 ∨ k = 13 ∨ k = 14 ∨ k = 15 ∨ k = 16 ∨ k = 17 ∨ k = 18 ∨ k = 19 ∨ k = 20 ∨ k = 21 ∨ k = 22 ∨ k = 23 ∨ k = 24 ∨ k = 25 ∨ k = 26 ∨ k = 27 ∨ k = 28 ∨ k = 29 ∨ k = 30 ∨ k = 31 ∨ k = 32 ∨ k = 33 ∨ k = 34 ∨ k = 35 ∨ k = 36 ∨ k = 37 ∨ k = 38 ∨ k = 39 by omega) with rfl | rfl | rfl | rfl | rfl | rfl | rfl | rfl | rfl | rfl | rfl | rfl | rfl | rfl | rfl | rfl | rfl | rfl | rfl | rfl | rfl | rfl | rfl | rfl | rfl | rfl | rfl | rfl | rfl | rfl | rfl | rfl | rfl | rfl | rfl | rfl | rfl | rfl | rfl | rfl
  · exact ⟨_, rfl, rfl, Or.inl rfl⟩
  · exact ⟨_, rfl, rfl, Or.inl rfl⟩
  · exact ⟨_, rfl, rfl, Or.inl rfl⟩
  · exact ⟨_, rfl, rfl, Or.inl rfl⟩
  · exact ⟨_, rfl, rfl, Or.inr ⟨_, _, _, _, rfl, rfl, h4⟩⟩
  · exact ⟨_, rfl, rfl, Or.inl rfl⟩
  · exact ⟨_, rfl, rfl, Or.inl rfl⟩
  · exact ⟨_, rfl, rfl, Or.inl rfl⟩
  · exact ⟨_, rfl, rfl, Or.inl rfl⟩
  · exact ⟨_, rfl, rfl, Or.inl rfl⟩
  · exact ⟨_, rfl, rfl, Or.inr ⟨_, _, _, _, rfl, rfl, h24⟩⟩
  · exact ⟨_, rfl, rfl, Or.inl rfl⟩
  · exact ⟨_, rfl, rfl, Or.inl rfl⟩
  · exact ⟨_, rfl, rfl, Or.inl rfl⟩
  · exact ⟨_, rfl, rfl, Or.inl rfl⟩
  · exact ⟨_, rfl, rfl, Or.inl rfl⟩
  · exact ⟨_, rfl, rfl, Or.inl rfl⟩
  · exact ⟨_, rfl, rfl, Or.inl rfl⟩
  · exact ⟨_, rfl, rfl, Or.inl rfl⟩
  · exact ⟨_, rfl, rfl, Or.inl rfl⟩
  · exact ⟨_, rfl, rfl, Or.inl rfl⟩
  · exact ⟨_, rfl, rfl, Or.inl rfl⟩
  · exact ⟨_, rfl, rfl, Or.inl rfl⟩
  · exact ⟨_, rfl, rfl, Or.inl rfl⟩
  · exact ⟨_, rfl, rfl, Or.inl rfl⟩
  · exact ⟨_, rfl, rfl, Or.inl rfl⟩
  · exact ⟨_, rfl, rfl, Or.inl rfl⟩
  · exact ⟨_, rfl, rfl, Or.inl rfl⟩
  · exact ⟨_, rfl, rfl, Or.inl rfl⟩
  · exact ⟨_, rfl, rfl, Or.inl rfl⟩
  · exact ⟨_, rfl, rfl, Or.inl rfl⟩
  · exact ⟨_, rfl, rfl, Or.inl rfl⟩
  · exact ⟨_, rfl, rfl, Or.inl rfl⟩
  · exact ⟨_, rfl, rfl, Or.inl rfl⟩
  · exact ⟨_, rfl, rfl, Or.inl rfl⟩
  · exact ⟨_, rfl, rfl, Or.inl rfl⟩
  · exact ⟨_, rfl, rfl, Or.inl rfl⟩
  · exact ⟨_, rfl, rfl, Or.inl rfl⟩
  · exact ⟨_, rfl, rfl, Or.inl rfl⟩
  · exact ⟨_, rfl, rfl, Or.inl rfl⟩
theorem zn_n10 {E : zE} (h : E.2.2.2 = 40) : zw_n E 10 := by
  intro q hq
  rw [h]
  rcases Nat.lt_or_ge q 57 with h1 | h1
  · have : ∀ q, q < 57 → zw_kind q < 10 → q < 40 := by decide
    exact this q h1 hq
  · rw [zw_out h1] at hq; omega
set_option maxRecDepth 100000 in
set_option maxHeartbeats 8000000 in
theorem zi_LG_init (l : Launch) (D : va_G) (h0 sz N : Nat) {st1 : zS} (hst1 : zf_LG_startAnew N 2 1 1 (fun _ _ => 0) = some st1) : Met l zy_LG_init (Cond.code zy_LG_init zo_LG_init 2 none :: zwAll) zrm_LG_init (va_Pc [.ref h0] (fun U => (U.heap.size = sz ∧ va_P D zwCl [(h0, .inr (0, [.null, .null, .null, .null, .null, .int 0, .int 0, .int 0, .int 0, .int 0, .int 0, .int 0]))] U.heap ∧ va_K D zwCl [] U ∧ va_D (fun _ => True) [(h0, .inr (0, [.null, .null, .null, .null, .null, .int 0, .int 0, .int 0, .int 0, .int 0, .int 0, .int 0]))]) ∧ zn_W U)) (va_Qv (fun E : zE => E.1 = D ∧ E.2.2.2 = 40 ∧ E.2.2.1 0 = h0) (fun E t => va_P D zwCl (zw_ws E st1) t.heap ∧ va_K D zwCl (zw_ty E) t ∧ va_D (va_A [(h0, .inr (0, [.null, .null, .null, .null, .null, .int 0, .int 0, .int 0, .int 0, .int 0, .int 0, .int 0]))] sz) (zw_ws E st1)) (va_A [(h0, .inr (0, [.null, .null, .null, .null, .null, .int 0, .int 0, .int 0, .int 0, .int 0, .int 0, .int 0]))] sz)) 70 420 (va_A [(h0, .inr (0, [.null, .null, .null, .null, .null, .int 0, .int 0, .int 0, .int 0, .int 0, .int 0, .int 0]))] sz) := by
  refine Met.ofW (cc := zo_LG_init) (maxL := 2) (ret := none) (by decide) rfl ?_
  intro p e s m args below meth c s₁ B hml hv
  obtain ⟨rfl, ⟨hsz, hP, hK, hD0⟩, hNW⟩ := hv
  obtain ⟨n1, n2, n3, n4, ao1, ao2⟩ := hNW
  have hx := B.exec
  have hb := B.bytes
  have hr := B.returns
  have hts0 := atoms_spec (ws := Cond.code zy_LG_init zo_LG_init 2 none :: zwAll) B.pre
  have hts : ∀ w ∈ zwAll, w.before _ s = true := fun w h => hts0 w (List.mem_cons_of_mem _ h)
  have hown : s.vm.findClass zR0 = some m.cls := findClass_of_methodNamed B.named
  have hlocks := B.notSynchronized
  have hin : meth.name = "<init>" := (name_of_methodNamed B.named B.method).1
  have S0 : CallFix p m c zo_LG_init 2 s _ zwAll zR0 := ⟨hx, hb, hml, hown, hts⟩
  subst hsz
  have hD := hD0.self (sz := s.heap.size)
  generalize hAe : va_A [(h0, .inr (0, [.null, .null, .null, .null, .null, .int 0, .int 0, .int 0, .int 0, .int 0, .int 0, .int 0]))] s.heap.size = A at hD ⊢
  have hA : ∀ q : Nat, s.heap.size ≤ q → A q := fun q h => by rw [← hAe]; exact Or.inr h
  have hS : va_S A s.heap s.heap [] := va_S.rf
  have hP : va_P D zwCl [(h0, .inr (0, [.null, .null, .null, .null, .null, .int 0, .int 0, .int 0, .int 0, .int 0, .int 0, .int 0]))] s.heap := hP
  have hl := lv_entry ([.ref h0]) (n := 2) (Nat.le_of_ble_eq_true rfl)
  rw [lg_entry_eq]
  generalize (lg_sl ([.ref h0]) ++ List.replicate (2 - (lg_sl ([.ref h0])).length) Slot.unset).toArray = ls at hl ⊢
  have hl : lv_has ls 2 [(0, .ref h0)] := hl
  refine lv_aload_n hx hb zd_LG_init_0 rfl (lv_at hl 0 rfl) ?_
  refine W.objInit hx hb hown (hts _ zn_l1) (hts _ zio_1) (hts _ zio_2) rfl (by rw [hml]; exact hl.1) rfl zd_LG_init_1 (Nat.le_of_ble_eq_true rfl) (Nat.le_of_ble_eq_true rfl) ?_
  refine W.eq (g2 := F0 m 4 ls []) rfl ?_
  refine lv_aload_n hx hb zd_LG_init_4 rfl (lv_at hl 0 rfl) ?_
  refine zn_mk (S := (Nat → Nat) × (Nat → ClassId)) (ci := 1) (N := 5) (ik := 7) (iL := 9) (C := zR1) (T := zT1) (ty := zY1) (fs := [.null, .null, .int 0, .int 0, .int 0]) (y := zy_Ho_init) (bytes := zo_Ho_init) (maxL := 1) (mc := 2) (ms := 20) (rm := zrm_Ho_init) (post := fun h0 u => [(h0, .inr (1, [.ref (u.1 1), .ref (u.1 2), .int 0, .int 0, .int 0])), (u.1 1, .inl (u.2 0, 10, .inl (fun _ => 0))), (u.1 2, .inl (u.2 0, 10, .inl (fun _ => 0)))]) (tysP := fun u => [(u.2 0, .int)]) S0 hl.1 (fun h0 sz => zi_Ho_init l D h0 sz) zw_in1 zw_ty1 rfl (by decide +kernel) zn_Ho_init_1 zn_Ho_init_2 zn_Ho_init_3 zn_Ho_init_4 zn_Ho_init_5 n1 rfl rfl (by decide +kernel) rfl rfl ⟨(Nat.le_of_ble_eq_true rfl), (Nat.le_of_ble_eq_true rfl)⟩ (Nat.le_of_ble_eq_true rfl) (Nat.le_of_ble_eq_true rfl) (Nat.le_of_ble_eq_true rfl) zd_LG_init_5 zd_LG_init_8 zd_LG_init_9 hK hP hD hS hA (fun q5 u5 H locs hK hP hD hS => ?_)
  generalize u5.2 0 = cI at hK hP hD
  generalize u5.1 1 = a2 at hP hD
  generalize u5.1 2 = a3 at hP hD
  generalize q5 = h1 at hP hD ⊢
  refine va_putF (D := D) (ci := 0) (v := .ref h1) (ty := .object "LiftGroup$House") (C := zR0) (T := zT0) (N := 12) (fs := [.null, .null, .null, .null, .null, .int 0, .int 0, .int 0, .int 0, .int 0, .int 0, .int 0]) hx hb hts zw_in0 zY0 zw_ty0 zw_nm0 hown hK hP hD hS 0 rfl rfl 0 (by decide) (hts _ zn_f10) (fun _ h9 => h9) rfl hin rfl (by decide +kernel) rfl rfl (Nat.le_of_ble_eq_true rfl) zd_LG_init_12 (fun H locs hP hD hS => ?_)
  have hP : va_P D zwCl [(h0, .inr (0, [.ref h1, .null, .null, .null, .null, .int 0, .int 0, .int 0, .int 0, .int 0, .int 0, .int 0])), (h1, .inr (1, [.ref a2, .ref a3, .int 0, .int 0, .int 0])), (a2, .inl (cI, 10, .inl (fun _ => 0))), (a3, .inl (cI, 10, .inl (fun _ => 0)))] H := hP
  have hD : va_D A [(h0, .inr (0, [.ref h1, .null, .null, .null, .null, .int 0, .int 0, .int 0, .int 0, .int 0, .int 0, .int 0])), (h1, .inr (1, [.ref a2, .ref a3, .int 0, .int 0, .int 0])), (a2, .inl (cI, 10, .inl (fun _ => 0))), (a3, .inl (cI, 10, .inl (fun _ => 0)))] := hD
  have hK : va_K D zwCl [(cI, .int)] s := hK
  refine lv_aload_n hx hb zd_LG_init_15 rfl (lv_at hl 0 rfl) ?_
  refine lv_iconst (v := 4) hx hb zd_LG_init_16 (by decide) ?_
  refine va_newq (D := D) (cl := zwCl) (N' := 4) hx hb hown (hts _ zn_Ca_init_1) ao1 hK hP hD hS hA (by decide) (by decide) (by decide) (Nat.le_of_ble_eq_true rfl) (Nat.le_of_ble_eq_true rfl) zd_LG_init_17 (fun a4 cC H hK hP hD hS => ?_)
  refine va_putF (D := D) (ci := 0) (v := .ref a4) (ty := .array (.object "LiftGroup$Car")) (C := zR0) (T := zT0) (N := 12) (fs := [.ref h1, .null, .null, .null, .null, .int 0, .int 0, .int 0, .int 0, .int 0, .int 0, .int 0]) hx hb hts zw_in0 zY0 zw_ty0 zw_nm0 hown hK hP hD hS 0 rfl rfl 1 (by decide) (hts _ zn_f18) (fun _ h9 => h9) rfl hin rfl (by decide +kernel) rfl rfl (Nat.le_of_ble_eq_true rfl) zd_LG_init_20 (fun H locs hP hD hS => ?_)
  rw [zn_f0 (fun _ => 0)] at hP hD
  have hK : va_K D zwCl [(cI, .int), (cC, .object zR2)] s := hK
  refine lv_iconst (v := 0) hx hb zd_LG_init_23 (by decide) ?_
  refine lv_istore_n (nL := 2) (lv := [(0, .ref h0)]) hx hb zd_LG_init_24 rfl hl (by decide) rfl (fun ls hl => ?_)
  refine W.cs (cells' := 4 + 0) (slots' := 29 + 13 * 0) rfl rfl ?_
  refine zn_cars (D := D) (tys := [(cI, .int), (cC, .object zR2)]) S0 n2 hK hA 1 (cC := cC) rfl (h0 := h0) (h1 := h1) (a2 := a2) (a3 := a3) (a4 := a4) (c0 := 4) (s0 := 29) ⟨Nat.le_of_ble_eq_true rfl, Nat.le_of_ble_eq_true rfl⟩ (Nat.le_of_ble_eq_true rfl) (Nat.le_of_ble_eq_true rfl) ?_ 4 0 rfl (fun _ => 0) H locs ls (lv_sub hl [1, 0] rfl) hP hD hS
  intro ca H locs ls hl hP hD hS
  have hP : va_P D zwCl ((h0, .inr (0, [.ref h1, .ref a4, .null, .null, .null, .int 0, .int 0, .int 0, .int 0, .int 0, .int 0, .int 0])) :: (h1, .inr (1, [.ref a2, .ref a3, .int 0, .int 0, .int 0])) :: (a2, .inl (cI, 10, .inl (fun _ => 0))) :: (a3, .inl (cI, 10, .inl (fun _ => 0))) :: (a4, .inl (cC, 4, .inr (.inr (.inr (.inr (zn_f ca 4)))))) :: (ca 0, .inr (2, [.int 0, .int 0, .int 0, .int 0, .int 0, .int 0, .int 0, .int 0, .int 0, .int 0, .int 0, .int 0, .int 0])) :: (ca 1, .inr (2, [.int 0, .int 0, .int 0, .int 0, .int 0, .int 0, .int 0, .int 0, .int 0, .int 0, .int 0, .int 0, .int 0])) :: (ca 2, .inr (2, [.int 0, .int 0, .int 0, .int 0, .int 0, .int 0, .int 0, .int 0, .int 0, .int 0, .int 0, .int 0, .int 0])) :: (ca 3, .inr (2, [.int 0, .int 0, .int 0, .int 0, .int 0, .int 0, .int 0, .int 0, .int 0, .int 0, .int 0, .int 0, .int 0])) :: []) H := hP
  have hD : va_D A ((h0, .inr (0, [.ref h1, .ref a4, .null, .null, .null, .int 0, .int 0, .int 0, .int 0, .int 0, .int 0, .int 0])) :: (h1, .inr (1, [.ref a2, .ref a3, .int 0, .int 0, .int 0])) :: (a2, .inl (cI, 10, .inl (fun _ => 0))) :: (a3, .inl (cI, 10, .inl (fun _ => 0))) :: (a4, .inl (cC, 4, .inr (.inr (.inr (.inr (zn_f ca 4)))))) :: (ca 0, .inr (2, [.int 0, .int 0, .int 0, .int 0, .int 0, .int 0, .int 0, .int 0, .int 0, .int 0, .int 0, .int 0, .int 0])) :: (ca 1, .inr (2, [.int 0, .int 0, .int 0, .int 0, .int 0, .int 0, .int 0, .int 0, .int 0, .int 0, .int 0, .int 0, .int 0])) :: (ca 2, .inr (2, [.int 0, .int 0, .int 0, .int 0, .int 0, .int 0, .int 0, .int 0, .int 0, .int 0, .int 0, .int 0, .int 0])) :: (ca 3, .inr (2, [.int 0, .int 0, .int 0, .int 0, .int 0, .int 0, .int 0, .int 0, .int 0, .int 0, .int 0, .int 0, .int 0])) :: []) := hD
  refine lv_aload_n hx hb zd_LG_init_49 rfl (lv_at hl 0 rfl) ?_
  refine zn_mk (S := (Nat → Nat) × (Nat → ClassId)) (ci := 2) (N := 13) (ik := 16) (iL := 22) (C := zR2) (T := zT2) (ty := zY2) (fs := [.int 0, .int 0, .int 0, .int 0, .int 0, .int 0, .int 0, .int 0, .int 0, .int 0, .int 0, .int 0, .int 0]) (y := zy_Ca_init) (bytes := zo_Ca_init) (maxL := 1) (mc := 0) (ms := 0) (rm := zrm_Ca_init) (post := fun h0 u => [(h0, .inr (2, [.int 0, .int 0, .int 0, .int 0, .int 0, .int 0, .int 0, .int 0, .int 0, .int 0, .int 0, .int 0, .int 0]))]) (tysP := fun u => []) S0 hl.1 (fun h0 sz => zi_Ca_init l D h0 sz) zw_in2 zw_ty2 rfl (by decide +kernel) zn_Ca_init_1 zn_Ca_init_2 zn_Ca_init_3 zn_Ca_init_4 zn_Ca_init_5 n2 rfl rfl (by decide +kernel) rfl rfl ⟨(Nat.le_of_ble_eq_true rfl), (Nat.le_of_ble_eq_true rfl)⟩ (Nat.le_of_ble_eq_true rfl) (Nat.le_of_ble_eq_true rfl) (Nat.le_of_ble_eq_true rfl) zd_LG_init_50 zd_LG_init_53 zd_LG_init_54 hK hP hD hS hA (fun q50 u50 H locs hK hP hD hS => ?_)
  generalize q50 = a9 at hP hD ⊢
  refine va_putF (D := D) (ci := 0) (v := .ref a9) (ty := .object "LiftGroup$Car") (C := zR0) (T := zT0) (N := 12) (fs := [.ref h1, .ref a4, .null, .null, .null, .int 0, .int 0, .int 0, .int 0, .int 0, .int 0, .int 0]) hx hb hts zw_in0 zY0 zw_ty0 zw_nm0 hown hK hP hD hS 0 rfl rfl 2 (by decide) (hts _ zn_f23) (fun _ h9 => h9) rfl hin rfl (by decide +kernel) rfl rfl (Nat.le_of_ble_eq_true rfl) zd_LG_init_57 (fun H locs hP hD hS => ?_)
  have hP : va_P D zwCl ((h0, .inr (0, [.ref h1, .ref a4, .ref a9, .null, .null, .int 0, .int 0, .int 0, .int 0, .int 0, .int 0, .int 0])) :: (h1, .inr (1, [.ref a2, .ref a3, .int 0, .int 0, .int 0])) :: (a2, .inl (cI, 10, .inl (fun _ => 0))) :: (a3, .inl (cI, 10, .inl (fun _ => 0))) :: (a4, .inl (cC, 4, .inr (.inr (.inr (.inr (zn_f ca 4)))))) :: (ca 0, .inr (2, [.int 0, .int 0, .int 0, .int 0, .int 0, .int 0, .int 0, .int 0, .int 0, .int 0, .int 0, .int 0, .int 0])) :: (ca 1, .inr (2, [.int 0, .int 0, .int 0, .int 0, .int 0, .int 0, .int 0, .int 0, .int 0, .int 0, .int 0, .int 0, .int 0])) :: (ca 2, .inr (2, [.int 0, .int 0, .int 0, .int 0, .int 0, .int 0, .int 0, .int 0, .int 0, .int 0, .int 0, .int 0, .int 0])) :: (ca 3, .inr (2, [.int 0, .int 0, .int 0, .int 0, .int 0, .int 0, .int 0, .int 0, .int 0, .int 0, .int 0, .int 0, .int 0])) :: (a9, .inr (2, [.int 0, .int 0, .int 0, .int 0, .int 0, .int 0, .int 0, .int 0, .int 0, .int 0, .int 0, .int 0, .int 0])) :: []) H := hP
  have hD : va_D A ((h0, .inr (0, [.ref h1, .ref a4, .ref a9, .null, .null, .int 0, .int 0, .int 0, .int 0, .int 0, .int 0, .int 0])) :: (h1, .inr (1, [.ref a2, .ref a3, .int 0, .int 0, .int 0])) :: (a2, .inl (cI, 10, .inl (fun _ => 0))) :: (a3, .inl (cI, 10, .inl (fun _ => 0))) :: (a4, .inl (cC, 4, .inr (.inr (.inr (.inr (zn_f ca 4)))))) :: (ca 0, .inr (2, [.int 0, .int 0, .int 0, .int 0, .int 0, .int 0, .int 0, .int 0, .int 0, .int 0, .int 0, .int 0, .int 0])) :: (ca 1, .inr (2, [.int 0, .int 0, .int 0, .int 0, .int 0, .int 0, .int 0, .int 0, .int 0, .int 0, .int 0, .int 0, .int 0])) :: (ca 2, .inr (2, [.int 0, .int 0, .int 0, .int 0, .int 0, .int 0, .int 0, .int 0, .int 0, .int 0, .int 0, .int 0, .int 0])) :: (ca 3, .inr (2, [.int 0, .int 0, .int 0, .int 0, .int 0, .int 0, .int 0, .int 0, .int 0, .int 0, .int 0, .int 0, .int 0])) :: (a9, .inr (2, [.int 0, .int 0, .int 0, .int 0, .int 0, .int 0, .int 0, .int 0, .int 0, .int 0, .int 0, .int 0, .int 0])) :: []) := hD
  have hK : va_K D zwCl [(cI, .int), (cC, .object zR2)] s := hK
  refine lv_aload_n hx hb zd_LG_init_60 rfl (lv_at hl 0 rfl) ?_
  refine lv_bipush (v := 24) hx hb zd_LG_init_61 (by decide) ?_
  refine va_newq (D := D) (cl := zwCl) (N' := 24) hx hb hown (hts _ zn_Ri_init_1) ao2 hK hP hD hS hA (by decide) (by decide) (by decide) (Nat.le_of_ble_eq_true rfl) (Nat.le_of_ble_eq_true rfl) zd_LG_init_63 (fun a10 cR H hK hP hD hS => ?_)
  refine va_putF (D := D) (ci := 0) (v := .ref a10) (ty := .array (.object "LiftGroup$Rider")) (C := zR0) (T := zT0) (N := 12) (fs := [.ref h1, .ref a4, .ref a9, .null, .null, .int 0, .int 0, .int 0, .int 0, .int 0, .int 0, .int 0]) hx hb hts zw_in0 zY0 zw_ty0 zw_nm0 hown hK hP hD hS 0 rfl rfl 3 (by decide) (hts _ zn_f29) (fun _ h9 => h9) rfl hin rfl (by decide +kernel) rfl rfl (Nat.le_of_ble_eq_true rfl) zd_LG_init_66 (fun H locs hP hD hS => ?_)
  rw [zn_f0 (fun _ => 0)] at hP hD
  have hK : va_K D zwCl [(cI, .int), (cC, .object zR2), (cR, .object zR3)] s := hK
  refine lv_iconst (v := 0) hx hb zd_LG_init_69 (by decide) ?_
  refine lv_istore_n (nL := 2) (lv := [(0, .ref h0)]) hx hb zd_LG_init_70 rfl hl (by decide) rfl (fun ls hl => ?_)
  refine W.cs (cells' := 10 + 0) (slots' := 118 + 6 * 0) rfl rfl ?_
  refine zn_riders (D := D) (tys := [(cI, .int), (cC, .object zR2), (cR, .object zR3)]) S0 n3 hK hA 2 (cC := cR) rfl (h0 := h0) (h1 := h1) (a2 := a2) (a3 := a3) (a4 := a4) (a9 := a9) (a10 := a10) (c0 := 10) (s0 := 118) ⟨Nat.le_of_ble_eq_true rfl, Nat.le_of_ble_eq_true rfl⟩ (Nat.le_of_ble_eq_true rfl) (Nat.le_of_ble_eq_true rfl) ?_ 24 0 rfl (fun _ => 0) H locs ls (lv_sub hl [1, 0] rfl) hP hD hS
  intro ra H locs ls hl hP hD hS
  have hP : va_P D zwCl ((h0, .inr (0, [.ref h1, .ref a4, .ref a9, .ref a10, .null, .int 0, .int 0, .int 0, .int 0, .int 0, .int 0, .int 0])) :: (h1, .inr (1, [.ref a2, .ref a3, .int 0, .int 0, .int 0])) :: (a2, .inl (cI, 10, .inl (fun _ => 0))) :: (a3, .inl (cI, 10, .inl (fun _ => 0))) :: (a4, .inl (cC, 4, .inr (.inr (.inr (.inr (zn_f ca 4)))))) :: (ca 0, .inr (2, [.int 0, .int 0, .int 0, .int 0, .int 0, .int 0, .int 0, .int 0, .int 0, .int 0, .int 0, .int 0, .int 0])) :: (ca 1, .inr (2, [.int 0, .int 0, .int 0, .int 0, .int 0, .int 0, .int 0, .int 0, .int 0, .int 0, .int 0, .int 0, .int 0])) :: (ca 2, .inr (2, [.int 0, .int 0, .int 0, .int 0, .int 0, .int 0, .int 0, .int 0, .int 0, .int 0, .int 0, .int 0, .int 0])) :: (ca 3, .inr (2, [.int 0, .int 0, .int 0, .int 0, .int 0, .int 0, .int 0, .int 0, .int 0, .int 0, .int 0, .int 0, .int 0])) :: (a9, .inr (2, [.int 0, .int 0, .int 0, .int 0, .int 0, .int 0, .int 0, .int 0, .int 0, .int 0, .int 0, .int 0, .int 0])) :: (a10, .inl (cR, 24, .inr (.inr (.inr (.inr (zn_f ra 24)))))) :: (ra 0, .inr (3, [.int 0, .int 0, .int 0, .int 0, .int 0, .int 0])) :: (ra 1, .inr (3, [.int 0, .int 0, .int 0, .int 0, .int 0, .int 0])) :: (ra 2, .inr (3, [.int 0, .int 0, .int 0, .int 0, .int 0, .int 0])) :: (ra 3, .inr (3, [.int 0, .int 0, .int 0, .int 0, .int 0, .int 0])) :: (ra 4, .inr (3, [.int 0, .int 0, .int 0, .int 0, .int 0, .int 0])) :: (ra 5, .inr (3, [.int 0, .int 0, .int 0, .int 0, .int 0, .int 0])) :: (ra 6, .inr (3, [.int 0, .int 0, .int 0, .int 0, .int 0, .int 0])) :: (ra 7, .inr (3, [.int 0, .int 0, .int 0, .int 0, .int 0, .int 0])) :: (ra 8, .inr (3, [.int 0, .int 0, .int 0, .int 0, .int 0, .int 0])) :: (ra 9, .inr (3, [.int 0, .int 0, .int 0, .int 0, .int 0, .int 0])) :: (ra 10, .inr (3, [.int 0, .int 0, .int 0, .int 0, .int 0, .int 0])) :: (ra 11, .inr (3, [.int 0, .int 0, .int 0, .int 0, .int 0, .int 0])) :: (ra 12, .inr (3, [.int 0, .int 0, .int 0, .int 0, .int 0, .int 0])) :: (ra 13, .inr (3, [.int 0, .int 0, .int 0, .int 0, .int 0, .int 0])) :: (ra 14, .inr (3, [.int 0, .int 0, .int 0, .int 0, .int 0, .int 0])) :: (ra 15, .inr (3, [.int 0, .int 0, .int 0, .int 0, .int 0, .int 0])) :: (ra 16, .inr (3, [.int 0, .int 0, .int 0, .int 0, .int 0, .int 0])) :: (ra 17, .inr (3, [.int 0, .int 0, .int 0, .int 0, .int 0, .int 0])) :: (ra 18, .inr (3, [.int 0, .int 0, .int 0, .int 0, .int 0, .int 0])) :: (ra 19, .inr (3, [.int 0, .int 0, .int 0, .int 0, .int 0, .int 0])) :: (ra 20, .inr (3, [.int 0, .int 0, .int 0, .int 0, .int 0, .int 0])) :: (ra 21, .inr (3, [.int 0, .int 0, .int 0, .int 0, .int 0, .int 0])) :: (ra 22, .inr (3, [.int 0, .int 0, .int 0, .int 0, .int 0, .int 0])) :: (ra 23, .inr (3, [.int 0, .int 0, .int 0, .int 0, .int 0, .int 0])) :: []) H := hP
  have hD : va_D A ((h0, .inr (0, [.ref h1, .ref a4, .ref a9, .ref a10, .null, .int 0, .int 0, .int 0, .int 0, .int 0, .int 0, .int 0])) :: (h1, .inr (1, [.ref a2, .ref a3, .int 0, .int 0, .int 0])) :: (a2, .inl (cI, 10, .inl (fun _ => 0))) :: (a3, .inl (cI, 10, .inl (fun _ => 0))) :: (a4, .inl (cC, 4, .inr (.inr (.inr (.inr (zn_f ca 4)))))) :: (ca 0, .inr (2, [.int 0, .int 0, .int 0, .int 0, .int 0, .int 0, .int 0, .int 0, .int 0, .int 0, .int 0, .int 0, .int 0])) :: (ca 1, .inr (2, [.int 0, .int 0, .int 0, .int 0, .int 0, .int 0, .int 0, .int 0, .int 0, .int 0, .int 0, .int 0, .int 0])) :: (ca 2, .inr (2, [.int 0, .int 0, .int 0, .int 0, .int 0, .int 0, .int 0, .int 0, .int 0, .int 0, .int 0, .int 0, .int 0])) :: (ca 3, .inr (2, [.int 0, .int 0, .int 0, .int 0, .int 0, .int 0, .int 0, .int 0, .int 0, .int 0, .int 0, .int 0, .int 0])) :: (a9, .inr (2, [.int 0, .int 0, .int 0, .int 0, .int 0, .int 0, .int 0, .int 0, .int 0, .int 0, .int 0, .int 0, .int 0])) :: (a10, .inl (cR, 24, .inr (.inr (.inr (.inr (zn_f ra 24)))))) :: (ra 0, .inr (3, [.int 0, .int 0, .int 0, .int 0, .int 0, .int 0])) :: (ra 1, .inr (3, [.int 0, .int 0, .int 0, .int 0, .int 0, .int 0])) :: (ra 2, .inr (3, [.int 0, .int 0, .int 0, .int 0, .int 0, .int 0])) :: (ra 3, .inr (3, [.int 0, .int 0, .int 0, .int 0, .int 0, .int 0])) :: (ra 4, .inr (3, [.int 0, .int 0, .int 0, .int 0, .int 0, .int 0])) :: (ra 5, .inr (3, [.int 0, .int 0, .int 0, .int 0, .int 0, .int 0])) :: (ra 6, .inr (3, [.int 0, .int 0, .int 0, .int 0, .int 0, .int 0])) :: (ra 7, .inr (3, [.int 0, .int 0, .int 0, .int 0, .int 0, .int 0])) :: (ra 8, .inr (3, [.int 0, .int 0, .int 0, .int 0, .int 0, .int 0])) :: (ra 9, .inr (3, [.int 0, .int 0, .int 0, .int 0, .int 0, .int 0])) :: (ra 10, .inr (3, [.int 0, .int 0, .int 0, .int 0, .int 0, .int 0])) :: (ra 11, .inr (3, [.int 0, .int 0, .int 0, .int 0, .int 0, .int 0])) :: (ra 12, .inr (3, [.int 0, .int 0, .int 0, .int 0, .int 0, .int 0])) :: (ra 13, .inr (3, [.int 0, .int 0, .int 0, .int 0, .int 0, .int 0])) :: (ra 14, .inr (3, [.int 0, .int 0, .int 0, .int 0, .int 0, .int 0])) :: (ra 15, .inr (3, [.int 0, .int 0, .int 0, .int 0, .int 0, .int 0])) :: (ra 16, .inr (3, [.int 0, .int 0, .int 0, .int 0, .int 0, .int 0])) :: (ra 17, .inr (3, [.int 0, .int 0, .int 0, .int 0, .int 0, .int 0])) :: (ra 18, .inr (3, [.int 0, .int 0, .int 0, .int 0, .int 0, .int 0])) :: (ra 19, .inr (3, [.int 0, .int 0, .int 0, .int 0, .int 0, .int 0])) :: (ra 20, .inr (3, [.int 0, .int 0, .int 0, .int 0, .int 0, .int 0])) :: (ra 21, .inr (3, [.int 0, .int 0, .int 0, .int 0, .int 0, .int 0])) :: (ra 22, .inr (3, [.int 0, .int 0, .int 0, .int 0, .int 0, .int 0])) :: (ra 23, .inr (3, [.int 0, .int 0, .int 0, .int 0, .int 0, .int 0])) :: []) := hD
  refine lv_aload_n hx hb zd_LG_init_96 rfl (lv_at hl 0 rfl) ?_
  refine zn_mk (S := (Nat → Nat) × (Nat → ClassId)) (ci := 4) (N := 5) (ik := 34) (iL := 36) (C := zR4) (T := zT4) (ty := zY4) (fs := [.null, .null, .null, .null, .int 0]) (y := zy_Lo_init) (bytes := zo_Lo_init) (maxL := 1) (mc := 4) (ms := 120) (rm := zrm_Lo_init) (post := fun h0 u => [(h0, .inr (4, [.ref (u.1 1), .ref (u.1 2), .ref (u.1 3), .ref (u.1 4), .int 0])), (u.1 1, .inl (u.2 0, 30, .inl (fun _ => 0))), (u.1 2, .inl (u.2 0, 30, .inl (fun _ => 0))), (u.1 3, .inl (u.2 0, 30, .inl (fun _ => 0))), (u.1 4, .inl (u.2 0, 30, .inl (fun _ => 0)))]) (tysP := fun u => [(u.2 0, .int)]) S0 hl.1 (fun h0 sz => zi_Lo_init l D h0 sz) zw_in4 zw_ty4 rfl (by decide +kernel) zn_Lo_init_1 zn_Lo_init_2 zn_Lo_init_3 zn_Lo_init_4 zn_Lo_init_5 n4 rfl rfl (by decide +kernel) rfl rfl ⟨(Nat.le_of_ble_eq_true rfl), (Nat.le_of_ble_eq_true rfl)⟩ (Nat.le_of_ble_eq_true rfl) (Nat.le_of_ble_eq_true rfl) (Nat.le_of_ble_eq_true rfl) zd_LG_init_97 zd_LG_init_100 zd_LG_init_101 hK hP hD hS hA (fun q97 u97 H locs hK hP hD hS => ?_)
  generalize u97.2 0 = cI2 at hK hP hD
  generalize u97.1 1 = g36 at hP hD
  generalize u97.1 2 = g37 at hP hD
  generalize u97.1 3 = g38 at hP hD
  generalize u97.1 4 = g39 at hP hD
  generalize q97 = g35 at hP hD ⊢
  have hK : va_K D zwCl [(cI, .int), (cC, .object zR2), (cR, .object zR3), (cI2, .int)] s := hK
  have eI : cI2 = cI := Option.some.inj ((hK.2 3 _ rfl).2.symm.trans (hK.2 0 _ rfl).2)
  rw [eI] at hP hD
  refine va_putF (D := D) (ci := 0) (v := .ref g35) (ty := .object "LiftGroup$Log") (C := zR0) (T := zT0) (N := 12) (fs := [.ref h1, .ref a4, .ref a9, .ref a10, .null, .int 0, .int 0, .int 0, .int 0, .int 0, .int 0, .int 0]) hx hb hts zw_in0 zY0 zw_ty0 zw_nm0 hown hK hP hD hS 0 rfl rfl 4 (by decide) (hts _ zn_f37) (fun _ h9 => h9) rfl hin rfl (by decide +kernel) rfl rfl (Nat.le_of_ble_eq_true rfl) zd_LG_init_104 (fun H locs hP hD hS => ?_)
  have hP : va_P D zwCl (zn_fin cI cC cR h0 h1 a2 a3 a4 a9 a10 g35 g36 g37 g38 g39 ca ra) H := hP
  have hD : va_D A (zn_fin cI cC cR h0 h1 a2 a3 a4 a9 a10 g35 g36 g37 g38 g39 ca ra) := hD
  obtain ⟨cZ, hZ1, hZ2⟩ := zn_arrT (hts _ zi_aZ)
  obtain ⟨cJ, hJ1, hJ2⟩ := zn_arrT (hts _ zi_aJ)
  obtain ⟨E, hE⟩ : ∃ E, E = (zn_E D cI cZ cC cR cJ (zn_ad h0 h1 a2 a3 a4 a9 a10 g35 g36 g37 g38 g39 ca ra)) := ⟨_, rfl⟩
  have hsm := zn_same D cI cZ cC cR cJ h0 h1 a2 a3 a4 a9 a10 g35 g36 g37 g38 g39 ca ra
  rw [← hE] at hsm
  have hn40 : E.2.2.2 = 40 := by rw [hE]; rfl
  have hE1 : E.1 = D := by rw [hE]; rfl
  have hget : ∀ (k : Nat) (q : Nat × va_E), (zw_ws E (fun _ _ => 0))[k]? = some q → k < 40 ∧ q = (E.2.2.1 k, zw_ent E (fun _ _ => 0) k) := by
    intro k q hk
    by_cases hl : k < E.2.2.2
    · rw [zw_get E _ hl] at hk; exact ⟨by omega, (Option.some.inj hk).symm⟩
    · rw [zw_getn E _ hl] at hk; cases hk
  have hP : va_P D zwCl (zw_ws E (fun _ _ => 0)) H := zn_Peq hP (fun k q hk => by
    obtain ⟨h1, rfl⟩ := hget k q hk
    obtain ⟨q0, h2, h3, h4⟩ := hsm k h1
    exact ⟨q0, h2, h3, h4⟩)
  have hD : va_D A (zw_ws E (fun _ _ => 0)) := zn_Deq hD (fun k q hk => by
    obtain ⟨h1, rfl⟩ := hget k q hk
    obtain ⟨q0, h2, h3, -⟩ := hsm k h1
    exact ⟨q0, h2, h3⟩)
  have hK2 : va_K E.1 zwCl (zw_ty E) s := by
    rw [hE1]
    refine ⟨hK.1, fun k q hk => ?_⟩
    have hk5 : k < 5 := (List.getElem?_eq_some_iff.mp hk).1
    subst hE
    rcases (show k = 0 ∨ k = 1 ∨ k = 2 ∨ k = 3 ∨ k = 4 by omega) with rfl | rfl | rfl | rfl | rfl <;> cases hk
    · exact hK.2 0 _ rfl
    · exact ⟨hZ1, hZ2⟩
    · exact hK.2 1 _ rfl
    · exact hK.2 2 _ rfl
    · exact ⟨hJ1, hJ2⟩
  have F : zw_X p m c zo_LG_init 2 s _ zR0 E 10 A meth none := ⟨⟨S0, hK2, zn_n10 hn40⟩, hA, hr, hlocks⟩
  have h00 : E.2.2.1 0 = h0 := by rw [hE]; rfl
  have hJ0 : zw_J E A s.heap (fun _ _ => 0) H locs := ⟨by rw [hE1]; exact hP, hD, hS⟩
  have hL0 : zw_L E.2.2.1 ls 2 [some (.ref 0), none] := ⟨hl.1, hl.2.1, fun i v hi => by
    have hi2 : i < 2 := (List.getElem?_eq_some_iff.mp hi).1
    rcases (show i = 0 ∨ i = 1 by omega) with rfl | rfl
    · cases hi
      exact ⟨by show ls[0]? = some (.val (.ref (E.2.2.1 0))); rw [h00]; exact lv_at hl 0 rfl, rfl⟩
    · cases hi⟩
  refine W.widen (k := 70) (n := 6 * 70) (Nat.le_of_ble_eq_true rfl) (Nat.le_of_ble_eq_true rfl) ?_
  have G9 : zw_G p l e zrm_LG_init s m #[.ref h0] below meth c (MQ below (va_Qv (fun E : zE => E.1 = D ∧ E.2.2.2 = 40 ∧ E.2.2.1 0 = h0) (fun E t => va_P D zwCl (zw_ws E st1) t.heap ∧ va_K D zwCl (zw_ty E) t ∧ va_D A (zw_ws E st1)) A) #[.ref h0] s 70 420 A) E A 2 70 107 [some (.ref 0), none] [] (fun _ _ => 0) := by
    refine zg_aload_n F.1 zd_LG_init_107 rfl rfl ?_
    refine zg_iconst F.1 2 2 (by decide) zd_LG_init_108 ?_
    refine zg_iconst F.1 1 1 (by decide) zd_LG_init_109 ?_
    refine zg_iconst F.1 1 1 (by decide) zd_LG_init_110 ?_
    refine zg_callV F (As := [.int 2, .int 1, .int 1]) (rest := []) (zk_LG_startAnew F.1.2.2 N 2 1 1 (fun _ _ => 0) hst1) rfl rfl zcal_LG_startAnew zml_LG_41 ⟨Nat.le_of_ble_eq_true rfl, Nat.le_of_ble_eq_true rfl⟩ (zg_rec0 F.1 (by decide) rfl) rfl (Nat.le_of_ble_eq_true rfl) ⟨Nat.le_of_ble_eq_true rfl, Nat.le_of_ble_eq_true rfl⟩ zd_LG_init_111 ?_
    intro H locs ls hJ hL
    exact W.vret hx hb hr (fun t ht hW => ⟨⟨E, rfl, ⟨hE1, hn40, h00⟩, by rw [ht, ← hE1]; exact hJ.1, by rw [← hE1]; exact va_K.moved hW.alike hK2, hJ.2.1⟩, hJ.2.2.F ht⟩) hJ.2.2.2.2 zd_LG_init_114
  exact G9 H locs ls hJ0 hL0
