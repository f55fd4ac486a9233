def zs_need : List Cond := zx_sta ++ zx_tab ++ [.methodLinkNest zR0 9 zy_Ho_init "LiftGroup", .methodLinkNest zR0 22 zy_Ca_init "LiftGroup", .methodLinkNest zR0 33 zy_Ri_init "LiftGroup", .methodLinkNest zR0 36 zy_Lo_init "LiftGroup", .arrayOver (.object zR2), .arrayOver (.object zR3)] ++ zx_ss.map (fun x => .stringRef "LiftGroup" x.1 x.2) ++ zx_ss.map (fun x => .exactly (.string "LiftGroup" x.1) "java/lang/String") ++ [.not (.castable (zx_n 2) (zx_n 1)), .not (.castable (zx_n 3) (zx_n 1)), .not (.castable (zx_n 3) (zx_n 2)), .not (.castable (zx_n 1) (zx_n 4)), .not (.castable (zx_n 1) (zx_n 5))]
set_option maxRecDepth 100000 in
theorem zs_in : zs_need.all (fun w => decide (w ∈ lw_tbl) || decide (w ∈ flatC (Jvm.Cond.and given_1 narrow_1))) = true := by decide +kernel
theorem zs_has {b : Nat} {s : State} (h1 : ∀ w ∈ lw_tbl, w.before #[Value.ref b] s = true) (h2 : (Jvm.Cond.and given_1 narrow_1).before #[Value.ref b] s = true) {w : Cond} (hw : w ∈ zs_need) : w.before #[Value.ref b] s = true := by
  have h := List.all_eq_true.mp zs_in w hw
  simp only [Bool.or_eq_true, decide_eq_true_eq] at h
  rcases h with h | h
  · exact h1 w h
  · exact flat_of_before _ h2 w h
theorem zs_nc {b : Nat} {s : State} {x y : Nat} (h : (Cond.not (.castable (zx_n x) (zx_n y))).before #[Value.ref b] s = true) : zh_nc x y s := by
  simp only [Cond.before, Cond.holds, Cond.value] at h
  cases h1 : s.vm.findClass (zx_n x) with
  | none => simp [h1] at h
  | some a =>
    cases h2 : s.vm.findClass (zx_n y) with
    | none => simp [h1, h2] at h
    | some c => exact ⟨a, c, h1, h2, by simpa [h1, h2] using h⟩
theorem zs_str {b : Nat} {s : State} {k : Nat} {tx : String} (h1 : (Cond.stringRef "LiftGroup" k tx).before #[Value.ref b] s = true) (h2 : (Cond.exactly (.string "LiftGroup" k) "java/lang/String").before #[Value.ref b] s = true) : ∃ a, vk_R "LiftGroup" k tx a s := by
  cases hv : (Term.string "LiftGroup" k).eval #[Value.ref b] s none [] s with
  | none => simp [Cond.before, Cond.holds, Cond.value, hv] at h2
  | some v =>
    cases v with
    | ref a => exact ⟨a, vk_R.of h1 hv⟩
    | _ => cases hs : s.vm.findClass "java/lang/String" <;> simp [Cond.before, Cond.holds, Cond.value, hv, hs] at h2
theorem zs_N {b : Nat} {s : State} (h : ∀ w ∈ zs_need, w.before #[Value.ref b] s = true) : zh_N s :=
  ⟨zs_nc (h _ (by simp [zs_need])), zs_nc (h _ (by simp [zs_need])), zs_nc (h _ (by simp [zs_need])), zs_nc (h _ (by simp [zs_need])), zs_nc (h _ (by simp [zs_need]))⟩
theorem zs_S {b : Nat} {s : State} (h : ∀ w ∈ zs_need, w.before #[Value.ref b] s = true) : zx_S zx_ss s := fun x hx =>
  zs_str (h _ (by simp only [zs_need, List.mem_append, List.mem_map]; exact Or.inl (Or.inl (Or.inr ⟨x, hx, rfl⟩)))) (h _ (by simp only [zs_need, List.mem_append, List.mem_map]; exact Or.inl (Or.inr ⟨x, hx, rfl⟩)))
theorem zs_W {b : Nat} {s : State} (h : ∀ w ∈ zs_need, w.before #[Value.ref b] s = true) : zx_W s := by
  refine ⟨fun w hw => ?_, fun w hw => ?_⟩
  · have h1 := h w (by simp only [zs_need, List.mem_append]; exact Or.inl (Or.inl (Or.inl (Or.inl (Or.inl hw)))))
    simp only [zx_sta, List.mem_cons, List.not_mem_nil, or_false] at hw
    rcases hw with rfl | rfl | rfl | rfl <;> exact h1
  · have h1 := h w (by simp only [zs_need, List.mem_append]; exact Or.inl (Or.inl (Or.inl (Or.inl (Or.inr hw)))))
    simp only [zx_tab, List.mem_cons, List.not_mem_nil, or_false] at hw
    rcases hw with rfl | rfl | rfl | rfl | rfl | rfl | rfl | rfl <;> exact h1
theorem zs_Nw {b : Nat} {s : State} (h : ∀ w ∈ zs_need, w.before #[Value.ref b] s = true) : zn_W s :=
  ⟨h (.methodLinkNest zR0 9 zy_Ho_init "LiftGroup") (by simp [zs_need]), h (.methodLinkNest zR0 22 zy_Ca_init "LiftGroup") (by simp [zs_need]), h (.methodLinkNest zR0 33 zy_Ri_init "LiftGroup") (by simp [zs_need]), h (.methodLinkNest zR0 36 zy_Lo_init "LiftGroup") (by simp [zs_need]), h (.arrayOver (.object zR2)) (by simp [zs_need]), h (.arrayOver (.object zR3)) (by simp [zs_need])⟩
set_option maxRecDepth 100000 in
theorem zs_i0 : Cond.instantiable zR0 12 ∈ zwAll := zw_at 64 rfl rfl
set_option maxRecDepth 100000 in
theorem zs_i1 : Cond.instantiable zR1 5 ∈ zwAll := zw_at 72 rfl rfl
set_option maxRecDepth 100000 in
theorem zs_i2 : Cond.instantiable zR2 13 ∈ zwAll := zw_at 103 rfl rfl
set_option maxRecDepth 100000 in
theorem zs_i3 : Cond.instantiable zR3 6 ∈ zwAll := zw_at 162 rfl rfl
set_option maxRecDepth 100000 in
theorem zs_i4 : Cond.instantiable zR4 5 ∈ zwAll := zw_at 193 rfl rfl
set_option maxRecDepth 100000 in
theorem zs_i5 : Cond.instantiable zR10 23 ∈ zwAll := zw_at 660 rfl rfl
theorem zs_K {b : Nat} {s : State} (hts : ∀ w ∈ zwAll, w.before #[Value.ref b] s = true) : ∃ D : va_G, va_K D zwCl [] s := by
  obtain ⟨c0, i0, h0⟩ := u_known (N := 12) hts zw_in0 (hts _ zs_i0)
  obtain ⟨c1, i1, h1⟩ := u_known (N := 5) hts zw_in1 (hts _ zs_i1)
  obtain ⟨c2, i2, h2⟩ := u_known (N := 13) hts zw_in2 (hts _ zs_i2)
  obtain ⟨c3, i3, h3⟩ := u_known (N := 6) hts zw_in3 (hts _ zs_i3)
  obtain ⟨c4, i4, h4⟩ := u_known (N := 5) hts zw_in4 (hts _ zs_i4)
  obtain ⟨c5, i5, h5⟩ := u_known (N := 23) hts zw_in10 (hts _ zs_i5)
  refine ⟨(fun k => [c0, c1, c2, c3, c4, c5].getD k 0, fun k => [i0, i1, i2, i3, i4, i5].getD k (fun _ => 0)), fun k q hk => ?_, fun k q hk => by cases hk⟩
  have hk6 : k < 6 := (List.getElem?_eq_some_iff.mp hk).1
  rcases (show k = 0 ∨ k = 1 ∨ k = 2 ∨ k = 3 ∨ k = 4 ∨ k = 5 by omega) with rfl | rfl | rfl | rfl | rfl | rfl <;> cases hk
  · exact h0
  · exact h1
  · exact h2
  · exact h3
  · exact h4
  · exact h5
set_option maxRecDepth 100000 in
theorem zs_LG_init_1 : Cond.classLink "LiftGroupLaw" 8 zR0 ∈ zwAll := zw_at 63 rfl rfl
set_option maxRecDepth 100000 in
theorem zs_LG_init_3 : Cond.initialized zR0 ∈ zwAll := zw_at 47 rfl rfl
set_option maxRecDepth 100000 in
theorem zs_LG_init_4 : Cond.code zy_LG_init zo_LG_init 2 none ∈ zwAll := zw_at 67 rfl rfl
set_option maxRecDepth 100000 in
theorem zs_LG_init_5 : Cond.instanceMethod zy_LG_init ∈ zwAll := zw_at 66 rfl rfl
set_option maxRecDepth 100000 in
theorem zs_LG_init_6 : Cond.methodLink "LiftGroupLaw" 61 zy_LG_init ∈ zwAll := zw_at 65 rfl rfl
set_option maxRecDepth 100000 in
theorem zs_Mo_init_1 : Cond.classLink "LiftGroupLaw" 62 zR10 ∈ zwAll := zw_at 659 rfl rfl
set_option maxRecDepth 100000 in
theorem zs_Mo_init_3 : Cond.initialized zR10 ∈ zwAll := zw_at 52 rfl rfl
set_option maxRecDepth 100000 in
theorem zs_Mo_init_4 : Cond.code zy_Mo_init zo_Mo_init 1 none ∈ zwAll := zw_at 663 rfl rfl
set_option maxRecDepth 100000 in
theorem zs_Mo_init_5 : Cond.instanceMethod zy_Mo_init ∈ zwAll := zw_at 662 rfl rfl
set_option maxRecDepth 100000 in
theorem zs_Mo_init_6 : Cond.methodLink "LiftGroupLaw" 64 zy_Mo_init ∈ zwAll := zw_at 661 rfl rfl
section ZS
variable {p : Program} {l : Launch} {e : Env} {R : Room} {s : State} {m : MethodId} {args : Array Value} {below : List Frame} {meth : Method} {c : Code} {cc : ByteArray} {A : Nat → Prop} {nL pc : Nat} {D : va_G} {tys : List (ClassId × FieldType)} {ws : va_W} {H : Heap} {locs : List Loc} {ls : Array Slot} {rest : List Value} {cells slots : Nat} {Q : State → Prop} {own : String}
theorem zs_mk (S0 : CallFix p m c cc nL s args zwAll own) (hsz : ls.size = nL) {ci N ik iL : Nat} {C : String} {T : u_T} {ty : Nat → FieldType} {fs : List Value} {y : MethodName} {bytes : ByteArray} {maxL mc ms : Nat} {rm : Room} {S : Type} {PQ : Nat → S → Prop} {post : Nat → S → va_W} {tysP : S → List (ClassId × FieldType)} {Pre : Nat → Nat → State → Prop}
    (hM : ∀ h0 sz, Met l y (Cond.code y bytes maxL none :: zwAll) rm (va_Pc [.ref h0] (Pre h0 sz)) (va_Qv (PQ h0) (fun u t => va_P D zwCl (post h0 u) t.heap ∧ va_K D zwCl (tysP u) t ∧ va_D (va_A [(h0, .inr (ci, fs))] sz) (post h0 u)) (va_A [(h0, .inr (ci, fs))] sz)) mc ms (va_A [(h0, .inr (ci, fs))] sz))
    (hpre : ∀ (h0 sz : Nat) (U : State), U.heap.size = sz → va_P D zwCl [(h0, .inr (ci, fs))] U.heap → va_K D zwCl [] U → va_D (fun _ => True) [(h0, .inr (ci, fs))] → s.WarmedH U.vm → Pre h0 sz U) (hmv : ∀ (h0 sz : Nat) (U : State) (g : JFrame) (mk : MethodId) (a : Array Value), Pre h0 sz U → Pre h0 sz (U.calling g mk a))
    (hin : ∀ w ∈ u_ws C T N, w ∈ zwAll) (hty : ∀ k, k < N → parseFieldDescriptor (T k).2.2.1 = some (ty k)) (hcl : zwCl[ci]? = some (C, T, N)) (hfs : ∀ j, j < N → defaultValue (ty j) = vp_V fs j)
    (hw1 : Cond.classLink own ik C ∈ zwAll) (hw2 : Cond.instantiable C N ∈ zwAll) (hw3 : Cond.initialized C ∈ zwAll) (hw4 : Cond.code y bytes maxL none ∈ zwAll) (hw5 : Cond.instanceMethod y ∈ zwAll) (hw6 : Cond.methodLink own iL y ∈ zwAll) (hyC : y.cls = C) (hyn : y.name = "<init>") (hyd : y.cls ≠ "java/lang/invoke/MethodHandle" ∧ y.cls ≠ "java/lang/invoke/VarHandle" ∧ (parseMethodDescriptor y.desc).map (fun d => d.parameters.length) = some 0)
    (hrc : rm.cells = mc) (hrs : rm.slots = ms) (hR : rm.frames + 1 ≤ R.frames ∧ 8 + (maxL + 11) + rm.locals ≤ R.locals) (hrm : (rest.map fun v => v.category).sum + 1 ≤ 8) (hc : cells + 1 + mc ≤ R.cells) (hs : slots + N + ms ≤ R.slots)
    (d0 : decode cc pc = .ok (.new ik, 3)) (d3 : decode cc (pc + 3) = .ok (.dup, 1)) (d4 : decode cc (pc + 4) = .ok (.invokespecial iL, 3))
    (hK : va_K D zwCl tys s) (hP : va_P D zwCl ws H) (hD : va_D A ws) (hS : va_S A s.heap H locs) (hA : ∀ q, s.heap.size ≤ q → A q)
    (kk : ∀ (q : Nat) (u : S) (H1 : Heap) (locs1 : List Loc), PQ q u → va_K D zwCl (tys ++ tysP u) s → va_P D zwCl (ws ++ post q u) H1 → va_D A (ws ++ post q u) → va_S A s.heap H1 locs1 → W p l e R s m args below meth c H1 locs1 (cells + 1 + mc) (slots + N + ms) Q (F0 m (pc + 7) ls (.ref q :: rest))) :
    W p l e R s m args below meth c H locs cells slots Q (F0 m pc ls rest) := by
  obtain ⟨hx, hb, hml, hown, hts⟩ := S0
  refine va_new (D := D) (cl := zwCl) (ci := ci) (fs := fs) (C := C) (T := T) (N := N) hx hb hts hin ty hty hown (hts _ hw1) (hts _ hw2) (hts _ hw3) hK hP hD hS hA hcl hfs (by omega) (by omega) d0 (fun q H hP hD hS => ?_)
  refine lv_dup hx hb d3 rfl ?_
  have hlast : (ws ++ [(q, (.inr (ci, fs) : va_E))])[ws.length]? = some (q, .inr (ci, fs)) := zn_at
  have hPc : va_P D zwCl [(q, .inr (ci, fs))] H := fun k x hk => by
    have h0 : k < 1 := (List.getElem?_eq_some_iff.mp hk).1
    rw [show k = 0 by omega] at hk
    cases hk
    exact hP _ _ hlast
  have hDc : va_D (fun _ => True) [(q, (.inr (ci, fs) : va_E))] := ⟨fun i j a b ha hb _ => by
    have h0 : i < 1 := (List.getElem?_eq_some_iff.mp ha).1
    have h1 : j < 1 := (List.getElem?_eq_some_iff.mp hb).1
    omega, fun _ _ _ => trivial⟩
  have hFc : ∀ z, va_A [(q, (.inr (ci, fs) : va_E))] H.size z → A z := fun z hz => by
    rcases hz with ⟨k2, e2, h⟩ | h
    · have h0 : k2 < 1 := (List.getElem?_eq_some_iff.mp h).1
      rw [show k2 = 0 by omega] at h
      cases h
      exact hD.2 _ _ hlast
    · exact hA z (Nat.le_trans hS.1 h)
  refine va_callv (va_runI (As := []) (rest := .ref q :: rest) ⟨hx, hb, hml, hown, hts⟩ (hM q H.size) (cwI 0 hts (zw_gi hw4) rfl hrc hrs (by rw [hyC]; exact hts _ hw3) (hts _ hw6) (hts _ hw5) hyn hyd hR) ⟨fun a U g mk z => ⟨z.1, hmv _ _ _ _ _ _ z.2⟩, fun U hU hW => ⟨rfl, hpre _ _ _ (by rw [hU]) (by rw [hU]; exact hPc) (va_K.moved hW.alike (hK.sub (tys' := []) [] rfl)) hDc hW⟩⟩ rfl rfl hsz rfl (lv_room (by show (1 + (rest.map fun v => v.category).sum) ≤ 8; omega)) d4 ⟨hc, hs⟩) hS (fun z _ h => hFc z h) hFc (fun u t H1 locs1 ht hvm hPQ hB hz1 hk1 hS1 => ?_)
  obtain ⟨hP1, hK1, hD1⟩ := hB
  rw [ht] at hP1
  have hK1 := va_K.moved hvm.symm hK1
  obtain ⟨hP2, hD2⟩ := zn_join hP hD hk1 hFc hP1 hD1
  exact kk q u H1 locs1 hPQ (hK.app hK1) hP2 hD2 hS1
end ZS
theorem zs_nW {U : State} {g : JFrame} {mk : MethodId} {a : Array Value} (h : zn_W U) : zn_W (U.calling g mk a) := zn_W.warm (s := U) (State.WarmedH.refl U) h
def zs_st (st1 : zS) : zS := fun q j => if q < 40 then st1 q j else if q = 40 then (if j = 1 then 2 else if j = 2 then 1 else if j = 3 then 1 else 0) else 0
def zs_E (E : zE) (o a0 b : Nat) (u : Nat → Nat) : zE := (E.1, E.2.1, fun k => if k < 40 then E.2.2.1 k else if k = 40 then o else if k < 56 then u (k - 40) else if k = 56 then a0 else b, 57)
def zs_mo (E : zE) (o : Nat) (u : Nat → Nat) : va_W := [(o, .inr (5, [.int 0, .int 2, .int 1, .int 1, .ref (u 1), .ref (u 2), .ref (u 3), .ref (u 4), .ref (u 5), .ref (u 6), .ref (u 7), .ref (u 8), .int 0, .ref (u 9), .ref (u 10), .ref (u 11), .ref (u 12), .ref (u 13), .ref (u 14), .int 0, .int 0, .ref (u 15), .int 0])), (u 1, .inl (E.2.1 0, 5, .inl (fun _ => 0))), (u 2, .inl (E.2.1 0, 5, .inl (fun _ => 0))), (u 3, .inl (E.2.1 0, 5, .inl (fun _ => 0))), (u 4, .inl (E.2.1 0, 5, .inl (fun _ => 0))), (u 5, .inl (E.2.1 0, 5, .inl (fun _ => 0))), (u 6, .inl (E.2.1 1, 5, .inl (fun _ => 0))), (u 7, .inl (E.2.1 1, 5, .inl (fun _ => 0))), (u 8, .inl (E.2.1 1, 5, .inl (fun _ => 0))), (u 9, .inl (E.2.1 0, 48, .inl (fun _ => 0))), (u 10, .inl (E.2.1 0, 48, .inl (fun _ => 0))), (u 11, .inl (E.2.1 0, 48, .inl (fun _ => 0))), (u 12, .inl (E.2.1 0, 48, .inl (fun _ => 0))), (u 13, .inl (E.2.1 0, 24, .inl (fun _ => 0))), (u 14, .inl (E.2.1 0, 24, .inl (fun _ => 0))), (u 15, .inl (E.2.1 0, 120, .inl (fun _ => 0)))]
def zs_all (E : zE) (st1 : zS) (o a0 : Nat) (u : Nat → Nat) : va_W := (zw_ws E st1 ++ zs_mo E o u) ++ [(a0, .inl (E.2.1 4, 1, .inr (.inl (fun _ => 0))))]
theorem zs_lo (E : zE) (o a0 b : Nat) (u : Nat → Nat) {k : Nat} (h : k < 40) : (zs_E E o a0 b u).2.2.1 k = E.2.2.1 k := by unfold zs_E; simp [h]
set_option maxRecDepth 100000 in
theorem zs_same (E : zE) (h40 : E.2.2.2 = 40) (st1 : zS) (o a0 b : Nat) (u : Nat → Nat) : ∀ k, k < 57 → ∃ q0 : Nat × va_E, (zs_all E st1 o a0 u)[k]? = some q0 ∧ q0.1 = (zs_E E o a0 b u).2.2.1 k ∧ (q0.2 = zw_ent (zs_E E o a0 b u) (zs_st st1) k ∨ ∃ (cA : ClassId) (n : Nat) (f g : Nat → Option Nat), q0.2 = .inl (cA, n, .inr (.inr (.inr (.inr f)))) ∧ zw_ent (zs_E E o a0 b u) (zs_st st1) k = .inl (cA, n, .inr (.inr (.inr (.inr g)))) ∧ ∀ j, j < n → f j = g j) := by
  intro k hk
  have hlen : (zw_ws E st1).length = 40 := by unfold zw_ws; rw [List.length_map, List.length_range, h40]
  by_cases h4 : k < 40
  · refine ⟨(E.2.2.1 k, zw_ent E st1 k), ?_, (zs_lo E o a0 b u h4).symm, ?_⟩
    · unfold zs_all
      rw [List.append_assoc, List.getElem?_append_left (by omega)]
      exact zw_get E st1 (by omega)
    · have hrow : zs_st st1 k = st1 k := by funext j; simp [zs_st, h4]
      rcases (show k = 0 ∨ k = 1 ∨ k = 2 ∨ k = 3 ∨ k = 4 ∨ k = 5 ∨ k = 6 ∨ k = 7 ∨ k = 8 ∨ k = 9 ∨ k = 10 ∨ k = 11 ∨ k = 12 ∨ k = 13 ∨ k = 14 ∨ k = 15 ∨ k = 16 ∨ k = 17 ∨ k = 18 ∨ k = 19 ∨ k = 20 ∨ k = 21 ∨ k = 22 ∨ k = 23 ∨ k = 24 ∨ k = 25 ∨ k = 26 ∨ k = 27 ∨ k = 28 ∨ k = 29 ∨ k = 30 ∨ k = 31 ∨ k = 32 ∨ k = 33 ∨ k = 34 ∨ k = 35 ∨ k = 36 ∨ k = 37 ∨ k = 38 ∨ k = 39 by omega) with rfl | rfl | rfl | rfl | rfl | rfl | rfl | rfl | rfl | rfl | rfl | rfl | rfl | rfl | rfl | rfl | rfl | rfl | rfl | rfl | rfl | rfl | rfl | rfl | rfl | rfl | rfl | rfl | rfl | rfl | rfl | rfl | rfl | rfl | rfl | rfl | rfl | rfl | rfl | rfl
      · exact Or.inl rfl
      · exact Or.inl rfl
      · exact Or.inl rfl
      · exact Or.inl rfl
      · exact Or.inr ⟨_, _, _, _, rfl, rfl, fun j hj => by rw [zs_lo E o a0 b u (show 5 + j < 40 by omega)]⟩
      · exact Or.inl rfl
      · exact Or.inl rfl
      · exact Or.inl rfl
      · exact Or.inl rfl
      · exact Or.inl rfl
      · exact Or.inr ⟨_, _, _, _, rfl, rfl, fun j hj => by rw [zs_lo E o a0 b u (show 11 + j < 40 by omega)]⟩
      · exact Or.inl rfl
      · exact Or.inl rfl
      · exact Or.inl rfl
      · exact Or.inl rfl
      · exact Or.inl rfl
      · exact Or.inl rfl
      · exact Or.inl rfl
      · exact Or.inl rfl
      · exact Or.inl rfl
      · exact Or.inl rfl
      · exact Or.inl rfl
      · exact Or.inl rfl
      · exact Or.inl rfl
      · exact Or.inl rfl
      · exact Or.inl rfl
      · exact Or.inl rfl
      · exact Or.inl rfl
      · exact Or.inl rfl
      · exact Or.inl rfl
      · exact Or.inl rfl
      · exact Or.inl rfl
      · exact Or.inl rfl
      · exact Or.inl rfl
      · exact Or.inl rfl
      · exact Or.inl rfl
      · exact Or.inl rfl
      · exact Or.inl rfl
      · exact Or.inl rfl
      · exact Or.inl rfl
  · have hr : (zs_all E st1 o a0 u)[k]? = (zs_mo E o u ++ [(a0, (.inl (E.2.1 4, 1, .inr (.inl (fun _ => 0))) : va_E))])[k - 40]? := by
      unfold zs_all
      rw [List.append_assoc, List.getElem?_append_right (by omega), hlen]
    rw [hr]
    rcases (show k = 40 ∨ k = 41 ∨ k = 42 ∨ k = 43 ∨ k = 44 ∨ k = 45 ∨ k = 46 ∨ k = 47 ∨ k = 48 ∨ k = 49 ∨ k = 50 ∨ k = 51 ∨ k = 52 ∨ k = 53 ∨ k = 54 ∨ k = 55 ∨ k = 56 by omega) with rfl | rfl | rfl | rfl | rfl | rfl | rfl | rfl | rfl | rfl | rfl | rfl | rfl | rfl | rfl | rfl | rfl
    · exact ⟨_, rfl, rfl, Or.inl rfl⟩
    · exact ⟨_, rfl, rfl, Or.inl rfl⟩
    · exact ⟨_, rfl, rfl, Or.inl rfl⟩
    · exact ⟨_, rfl, rfl, Or.inl rfl⟩
    · exact ⟨_, rfl, rfl, Or.inl rfl⟩
    · exact ⟨_, rfl, rfl, Or.inl rfl⟩
    · exact ⟨_, rfl, rfl, Or.inl rfl⟩
    · exact ⟨_, rfl, rfl, Or.inl rfl⟩
    · exact ⟨_, rfl, rfl, Or.inl rfl⟩
    · exact ⟨_, rfl, rfl, Or.inl rfl⟩
    · exact ⟨_, rfl, rfl, Or.inl rfl⟩
    · exact ⟨_, rfl, rfl, Or.inl rfl⟩
    · exact ⟨_, rfl, rfl, Or.inl rfl⟩
    · exact ⟨_, rfl, rfl, Or.inl rfl⟩
    · exact ⟨_, rfl, rfl, Or.inl rfl⟩
    · exact ⟨_, rfl, rfl, Or.inl rfl⟩
    · exact ⟨_, rfl, rfl, Or.inl rfl⟩
set_option maxHeartbeats 4000000 in
set_option maxRecDepth 100000 in
theorem zs_start {p : Program} {e : Env} {s : State} {m : MethodId} {below : List Frame} {meth : Method} {c : Code} (l : Launch) {b L : Nat} {xs : Nat → Int32} (hst : l.stackTraces = false) (C0 : lw_At p s m meth c b L xs) {N f : Nat} {st1 : zS} (hst1 : zf_LG_startAnew N 2 1 1 (fun _ _ => 0) = some st1) (hf : f ≤ 520) (hrun : zf_La_law_23 N L xs f 0 (zs_st st1) = some 1) : W p l e room_1 s m #[Value.ref b] below meth c s.heap [] 0 0 (lw_Z below #[Value.ref b] s) (entryFrame m ([Value.ref b] : List Value).toArray 7) := by
  obtain ⟨hx, hb, hr, hml, hown, htbl, hX, hbl, hlocks, hgv⟩ := C0
  have hts : ∀ w ∈ zwAll, w.before #[Value.ref b] s = true := fun w hw => htbl w (List.mem_filter.mp hw).1
  have hnd : ∀ w ∈ zs_need, w.before #[Value.ref b] s = true := fun w hw => zs_has htbl hgv hw
  obtain ⟨D, hK⟩ := zs_K hts
  have S0 : CallFix p m c code 7 s #[Value.ref b] zwAll "LiftGroupLaw" := ⟨hx, hb, hml, hown, hts⟩
  have hl := lv_entry ([Value.ref b]) (n := 7) (Nat.le_of_ble_eq_true rfl)
  rw [lg_entry_eq]
  generalize (lg_sl ([Value.ref b]) ++ List.replicate (7 - (lg_sl ([Value.ref b])).length) Slot.unset).toArray = ls at hl ⊢
  have hl : lv_has ls 7 [(0, .ref b)] := hl
  have hA : ∀ q : Nat, s.heap.size ≤ q → s.heap.size ≤ q := fun _ h => h
  have hP : va_P D zwCl [] s.heap := fun k q h => by cases h
  have hD : va_D (fun q => s.heap.size ≤ q) [] := ⟨fun i j a b h => (by cases h), fun k q h => by cases h⟩
  have hS : va_S (fun q => s.heap.size ≤ q) s.heap s.heap [] := va_S.rf
  refine zs_mk (S := zE) (ci := 0) (N := 12) (ik := 8) (iL := 61) (C := zR0) (T := zT0) (ty := zY0) (fs := [.null, .null, .null, .null, .null, .int 0, .int 0, .int 0, .int 0, .int 0, .int 0, .int 0]) (y := zy_LG_init) (bytes := zo_LG_init) (maxL := 2) (mc := 70) (ms := 420) (rm := zrm_LG_init) (PQ := fun h0 E => E.1 = D ∧ E.2.2.2 = 40 ∧ E.2.2.1 0 = h0) (post := fun h0 E => zw_ws E st1) (tysP := fun E => zw_ty E) S0 hl.1 (fun h0 sz => zi_LG_init l D h0 sz N hst1) (fun h0 sz U h1 h2 h3 h4 h5 => ⟨⟨h1, h2, h3, h4⟩, zn_W.warm h5 (zs_Nw hnd)⟩) (fun h0 sz U g mk a z => ⟨⟨z.1.1, z.1.2.1, va_K.moved (u := U) (U := U.calling g mk a) (Vm.Alike.refl U.vm) z.1.2.2.1, z.1.2.2.2⟩, zs_nW z.2⟩) zw_in0 zw_ty0 rfl (by decide +kernel) zs_LG_init_1 zs_i0 zs_LG_init_3 zs_LG_init_4 zs_LG_init_5 zs_LG_init_6 rfl rfl (by decide +kernel) rfl rfl ⟨(Nat.le_of_ble_eq_true rfl), (Nat.le_of_ble_eq_true rfl)⟩ (Nat.le_of_ble_eq_true rfl) (Nat.le_of_ble_eq_true rfl) (Nat.le_of_ble_eq_true rfl) zd_La_law_0 zd_La_law_3 zd_La_law_4 hK hP hD hS hA (fun h0 E H locs hE hK hP hD hS => ?_)
  obtain ⟨hE1, hE40, hE0⟩ := hE
  have hK : va_K D zwCl (zw_ty E) s := hK
  have hP : va_P D zwCl (zw_ws E st1) H := hP
  have hD : va_D (fun q => s.heap.size ≤ q) (zw_ws E st1) := hD
  refine lv_astore_n (nL := 7) (lv := [(0, .ref b)]) hx hb zd_La_law_7 rfl hl (by decide) rfl (fun ls hl => ?_)
  refine zs_mk (S := (Nat → Nat) × (Nat → ClassId)) (ci := 5) (N := 23) (ik := 62) (iL := 64) (C := zR10) (T := zT10) (ty := zY10) (fs := [.int 0, .int 0, .int 0, .int 0, .null, .null, .null, .null, .null, .null, .null, .null, .int 0, .null, .null, .null, .null, .null, .null, .int 0, .int 0, .null, .int 0]) (y := zy_Mo_init) (bytes := zo_Mo_init) (maxL := 1) (mc := 15) (ms := 400) (rm := zrm_Mo_init) (PQ := fun _ _ => True) S0 hl.1 (fun h0 sz => zi_Mo_init l D h0 sz) (fun h0 sz U h1 h2 h3 h4 h5 => ⟨h1, h2, h3, h4⟩) (fun h0 sz U g mk a z => ⟨z.1, z.2.1, va_K.moved (u := U) (U := U.calling g mk a) (Vm.Alike.refl U.vm) z.2.2.1, z.2.2.2⟩) zw_in10 zw_ty10 rfl (by decide +kernel) zs_Mo_init_1 zs_i5 zs_Mo_init_3 zs_Mo_init_4 zs_Mo_init_5 zs_Mo_init_6 rfl rfl (by decide +kernel) rfl rfl ⟨(Nat.le_of_ble_eq_true rfl), (Nat.le_of_ble_eq_true rfl)⟩ (Nat.le_of_ble_eq_true rfl) (Nat.le_of_ble_eq_true rfl) (Nat.le_of_ble_eq_true rfl) zd_La_law_8 zd_La_law_11 zd_La_law_12 hK hP hD hS hA (fun o u H locs _ hK hP hD hS => ?_)
  have hK : va_K D zwCl (zw_ty E ++ [(u.2 0, .int), (u.2 1, .boolean)]) s := hK
  have eI : u.2 0 = E.2.1 0 := Option.some.inj ((hK.2 5 _ rfl).2.symm.trans (hK.2 0 _ rfl).2)
  have eZ : u.2 1 = E.2.1 1 := Option.some.inj ((hK.2 6 _ rfl).2.symm.trans (hK.2 1 _ rfl).2)
  rw [eI, eZ] at hP hD hK
  have hP : va_P D zwCl (zw_ws E st1 ++ zs_mo E o u.1) H := hP
  have hD : va_D (fun q => s.heap.size ≤ q) (zw_ws E st1 ++ zs_mo E o u.1) := hD
  refine lv_astore_n (nL := 7) hx hb zd_La_law_15 rfl hl (by decide) rfl (fun ls hl => ?_)
  refine lv_iconst (v := 1) hx hb zd_La_law_16 (by decide) ?_
  refine va_newa (atype := .long) (D := D) (cl := zwCl) (N' := 1) (a0 := (1, .inr (.inl (fun _ => 0)))) hx hb (hts _ zi_aJ) rfl hK hP hD hS hA (fun cA => rfl) (by decide) (by decide) (by decide) (Nat.le_of_ble_eq_true rfl) (Nat.le_of_ble_eq_true rfl) zd_La_law_17 (fun a0 cJ H hK hP hD hS => ?_)
  have eJ : cJ = E.2.1 4 := Option.some.inj ((hK.2 7 _ rfl).2.symm.trans (hK.2 4 _ rfl).2)
  rw [eJ] at hP hD
  have hP : va_P D zwCl (zs_all E st1 o a0 u.1) H := hP
  have hD : va_D (fun q => s.heap.size ≤ q) (zs_all E st1 o a0 u.1) := hD
  refine lv_astore_n (nL := 7) hx hb zd_La_law_19 rfl hl (by decide) rfl (fun ls hl => ?_)
  refine lv_iconst (v := 0) hx hb zd_La_law_20 (by decide) ?_
  refine lv_istore (nL := 7) hx hb zd_La_law_21 hl (by decide) rfl (fun ls hl => ?_)
  have hl : lv_has ls 7 [(4, .int 0), (3, .ref a0), (2, .ref o), (1, .ref h0), (0, .ref b)] := hl
  obtain ⟨E9, hE9⟩ : ∃ E9, E9 = zs_E E o a0 b u.1 := ⟨_, rfl⟩
  have hsm := zs_same E hE40 st1 o a0 b u.1
  rw [← hE9] at hsm
  have hget : ∀ (k : Nat) (q : Nat × va_E), (zw_ws E9 (zs_st st1))[k]? = some q → k < 57 ∧ q = (E9.2.2.1 k, zw_ent E9 (zs_st st1) k) := by
    intro k q hk
    have h57 : E9.2.2.2 = 57 := by rw [hE9]; rfl
    by_cases hl : k < E9.2.2.2
    · rw [zw_get E9 _ hl] at hk; exact ⟨by omega, (Option.some.inj hk).symm⟩
    · rw [zw_getn E9 _ hl] at hk; cases hk
  have hP : va_P D zwCl (zw_ws E9 (zs_st st1)) H := zn_Peq hP (fun k q hk => by
    obtain ⟨h1, rfl⟩ := hget k q hk
    obtain ⟨q0, h2, h3, h4⟩ := hsm k h1
    exact ⟨q0, h2, h3, h4⟩)
  have hD : va_D (fun q => s.heap.size ≤ q) (zw_ws E9 (zs_st st1)) := zn_Deq hD (fun k q hk => by
    obtain ⟨h1, rfl⟩ := hget k q hk
    obtain ⟨q0, h2, h3, -⟩ := hsm k h1
    exact ⟨q0, h2, h3⟩)
  have hE91 : E9.1 = D := by rw [hE9]; exact hE1
  have hK2 : va_K E9.1 zwCl (zw_ty E9) s := by
    rw [hE91, hE9]
    exact hK.sub (tys' := zw_ty E) [0, 1, 2, 3, 4] rfl
  have hn : zw_n E9 20 := fun q hq => by
    have h57 : E9.2.2.2 = 57 := by rw [hE9]; rfl
    rw [h57]
    rcases Nat.lt_or_ge q 57 with h1 | h1
    · exact h1
    · rw [zw_out h1] at hq; omega
  have F : zw_X p m c code 7 s #[Value.ref b] "LiftGroupLaw" E9 20 (fun q => s.heap.size ≤ q) meth (some .boolean) := ⟨⟨S0, hK2, hn⟩, hA, hr, hlocks⟩
  have Y : zl_Y l s (fun q => s.heap.size ≤ q) E9 b L xs := ⟨hst, zs_W hnd, zs_S hnd, fun a cell h1 h2 => by
    have h3 : a < s.heap.size := (Array.getElem?_eq_some_iff.mp h2).1
    omega, zs_N hnd, hX, hbl, fun h => by omega, by rw [hE9]; rfl⟩
  have hJ0 : zw_J E9 (fun q => s.heap.size ≤ q) s.heap (zs_st st1) H locs := ⟨by rw [hE91]; exact hP, hD, hS⟩
  have a0e : E9.2.2.1 0 = h0 := by rw [hE9]; exact hE0
  have a1e : E9.2.2.1 40 = o := by rw [hE9]; rfl
  have a2e : E9.2.2.1 56 = a0 := by rw [hE9]; rfl
  have a3e : E9.2.2.1 57 = b := by rw [hE9]; rfl
  have hL0 : zw_L E9.2.2.1 ls 7 [some (.ref 57), some (.ref 0), some (.ref 40), some (.ref 56), some (.int 0), none, none] := ⟨hl.1, hl.2.1, fun i v hi => by
    have hi2 : i < 7 := (List.getElem?_eq_some_iff.mp hi).1
    rcases (show i = 0 ∨ i = 1 ∨ i = 2 ∨ i = 3 ∨ i = 4 ∨ i = 5 ∨ i = 6 by omega) with rfl | rfl | rfl | rfl | rfl | rfl | rfl <;> cases hi
    · exact ⟨by show ls[0]? = some (.val (.ref (E9.2.2.1 57))); rw [a3e]; exact lv_at hl 4 rfl, rfl⟩
    · exact ⟨by show ls[1]? = some (.val (.ref (E9.2.2.1 0))); rw [a0e]; exact lv_at hl 3 rfl, rfl⟩
    · exact ⟨by show ls[2]? = some (.val (.ref (E9.2.2.1 40))); rw [a1e]; exact lv_at hl 2 rfl, rfl⟩
    · exact ⟨by show ls[3]? = some (.val (.ref (E9.2.2.1 56))); rw [a2e]; exact lv_at hl 1 rfl, rfl⟩
    · exact ⟨lv_at hl 0 rfl, rfl⟩⟩
  refine W.widen (k := 150) (n := 6 * 150) (Nat.le_of_ble_eq_true rfl) (Nat.le_of_ble_eq_true rfl) ?_
  exact zl_La_law_23 F Y f 150 0 (zs_st st1) (by omega) hrun H locs ls hJ0 hL0
