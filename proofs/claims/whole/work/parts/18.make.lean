theorem zn_at {ws w1 : va_W} {x : Nat × va_E} : (ws ++ x :: w1)[ws.length]? = some x := by simp
theorem zn_join {A0 : Nat → Prop} {D : va_G} {cl : List vw_C} {wr w1 : va_W} {x : Nat × va_E} {H H1 : Heap} (hP : va_P D cl (wr ++ [x]) H) (hD : va_D A0 (wr ++ [x])) (hk : ∀ q : Nat, q < H.size → ¬ va_A [x] H.size q → H1[q]? = H[q]?) (hF : ∀ q, va_A [x] H.size q → A0 q) (hP1 : va_P D cl w1 H1) (hD1 : va_D (va_A [x] H.size) w1) : va_P D cl (wr ++ w1) H1 ∧ va_D A0 (wr ++ w1) := by
  have apart : ∀ (k : Nat) (q : Nat × va_E), wr[k]? = some q → q.1 < H.size ∧ ¬ va_A [x] H.size q.1 := by
    intro k q hq
    have hl : k < wr.length := (List.getElem?_eq_some_iff.mp hq).1
    have hq' : (wr ++ [x])[k]? = some q := by rw [List.getElem?_append_left hl]; exact hq
    refine ⟨(hP k q hq').lt, fun h => ?_⟩
    rcases h with ⟨k2, e, h⟩ | h
    · have h0 : k2 < 1 := (List.getElem?_eq_some_iff.mp h).1
      rw [show k2 = 0 by omega] at h
      have hx : x = (q.1, e) := Option.some.inj h
      have := hD.1 k wr.length q x hq' (by simp) (by rw [hx])
      omega
    · have := (hP k q hq').lt
      omega
  refine ⟨va_P.app (fun k q hq => ?_) hP1, va_D.app ⟨fun i j a b ha hb hab => ?_, fun k q hq => ?_⟩ (hD1.weaken (fun k q _ h => hF q.1 h)) (fun i j a b ha hb hab => ?_)⟩
  · have hl : k < wr.length := (List.getElem?_eq_some_iff.mp hq).1
    have hq' : (wr ++ [x])[k]? = some q := by rw [List.getElem?_append_left hl]; exact hq
    exact (hP k q hq').kept (hk q.1 (apart k q hq).1 (apart k q hq).2)
  · have hi : i < wr.length := (List.getElem?_eq_some_iff.mp ha).1
    have hj : j < wr.length := (List.getElem?_eq_some_iff.mp hb).1
    exact hD.1 i j a b (by rw [List.getElem?_append_left hi]; exact ha) (by rw [List.getElem?_append_left hj]; exact hb) hab
  · have hi : k < wr.length := (List.getElem?_eq_some_iff.mp hq).1
    exact hD.2 k q (by rw [List.getElem?_append_left hi]; exact hq)
  · exact (apart i a ha).2 (by rw [hab]; exact hD1.2 j b hb)
section ZN
variable {p : Program} {l : Launch} {e : Env} {R : Room} {s : State} {m : MethodId} {args : Array Value} {below : List Frame} {meth : Method} {c : Code} {cc : ByteArray} {A : Nat → Prop} {nL pc : Nat} {D : va_G} {tys : List (ClassId × FieldType)} {ws : va_W} {H : Heap} {locs : List Loc} {ls : Array Slot} {rest : List Value} {cells slots : Nat} {Q : State → Prop}
theorem zn_mk (S0 : CallFix p m c cc nL s args zwAll zR0) (hsz : ls.size = nL) {ci N ik iL : Nat} {C : String} {T : u_T} {ty : Nat → FieldType} {fs : List Value} {y : MethodName} {bytes : ByteArray} {maxL mc ms : Nat} {rm : Room} {S : Type} {post : Nat → S → va_W} {tysP : S → List (ClassId × FieldType)}
    (hM : ∀ h0 sz, Met l y (Cond.code y bytes maxL none :: zwAll) rm (va_Pc [.ref h0] (fun U => U.heap.size = sz ∧ va_P D zwCl [(h0, .inr (ci, fs))] U.heap ∧ va_K D zwCl [] U ∧ va_D (fun _ => True) [(h0, .inr (ci, fs))])) (va_Qv (fun _ : S => True) (fun u t => va_P D zwCl (post h0 u) t.heap ∧ va_K D zwCl (tysP u) t ∧ va_D (va_A [(h0, .inr (ci, fs))] sz) (post h0 u)) (va_A [(h0, .inr (ci, fs))] sz)) mc ms (va_A [(h0, .inr (ci, fs))] sz))
    (hin : ∀ w ∈ u_ws C T N, w ∈ zwAll) (hty : ∀ k, k < N → parseFieldDescriptor (T k).2.2.1 = some (ty k)) (hcl : zwCl[ci]? = some (C, T, N)) (hfs : ∀ j, j < N → defaultValue (ty j) = vp_V fs j)
    (hw1 : Cond.classLink zR0 ik C ∈ zwAll) (hw2 : Cond.instantiable C N ∈ zwAll) (hw3 : Cond.initialized C ∈ zwAll) (hw4 : Cond.code y bytes maxL none ∈ zwAll) (hw5 : Cond.instanceMethod y ∈ zwAll) (hw6 : va_Nw (.methodLinkNest zR0 iL y "LiftGroup") s) (hyC : y.cls = C) (hyn : y.name = "<init>") (hyd : y.cls ≠ "java/lang/invoke/MethodHandle" ∧ y.cls ≠ "java/lang/invoke/VarHandle" ∧ (parseMethodDescriptor y.desc).map (fun d => d.parameters.length) = some 0)
    (hrc : rm.cells = mc) (hrs : rm.slots = ms) (hR : rm.frames + 1 ≤ R.frames ∧ 8 + (maxL + 11) + rm.locals ≤ R.locals) (hrm : (rest.map fun v => v.category).sum + 1 ≤ 8) (hc : cells + 1 + mc ≤ R.cells) (hs : slots + N + ms ≤ R.slots)
    (d0 : decode cc pc = .ok (.new ik, 3)) (d3 : decode cc (pc + 3) = .ok (.dup, 1)) (d4 : decode cc (pc + 4) = .ok (.invokespecial iL, 3))
    (hK : va_K D zwCl tys s) (hP : va_P D zwCl ws H) (hD : va_D A ws) (hS : va_S A s.heap H locs) (hA : ∀ q, s.heap.size ≤ q → A q)
    (kk : ∀ (q : Nat) (u : S) (H1 : Heap) (locs1 : List Loc), va_K D zwCl (tys ++ tysP u) s → va_P D zwCl (ws ++ post q u) H1 → va_D A (ws ++ post q u) → va_S A s.heap H1 locs1 → W p l e R s m args below meth c H1 locs1 (cells + 1 + mc) (slots + N + ms) Q (F0 m (pc + 7) ls (.ref q :: rest))) :
    W p l e R s m args below meth c H locs cells slots Q (F0 m pc ls rest) := by
  obtain ⟨hx, hb, hml, hown, hts⟩ := S0
  refine va_new (D := D) (cl := zwCl) (ci := ci) (fs := fs) (C := C) (T := T) (N := N) hx hb hts hin ty hty hown (hts _ hw1) (hts _ hw2) (hts _ hw3) hK hP hD hS hA hcl hfs (by omega) (by omega) d0 (fun q H hP hD hS => ?_)
  refine lv_dup hx hb d3 rfl ?_
  have hlast : (ws ++ [(q, (.inr (ci, fs) : va_E))])[ws.length]? = some (q, .inr (ci, fs)) := zn_at
  have hPc : va_P D zwCl [(q, .inr (ci, fs))] H := fun k x hk => by
    have h0 : k < 1 := (List.getElem?_eq_some_iff.mp hk).1
    rw [show k = 0 by omega] at hk
    cases hk
    exact hP _ _ hlast
  have hDc : va_D (fun _ => True) [(q, (.inr (ci, fs) : va_E))] := ⟨fun i j a b ha hb _ => by
    have h0 : i < 1 := (List.getElem?_eq_some_iff.mp ha).1
    have h1 : j < 1 := (List.getElem?_eq_some_iff.mp hb).1
    omega, fun _ _ _ => trivial⟩
  have hFc : ∀ z, va_A [(q, (.inr (ci, fs) : va_E))] H.size z → A z := fun z hz => by
    rcases hz with ⟨k2, e2, h⟩ | h
    · have h0 : k2 < 1 := (List.getElem?_eq_some_iff.mp h).1
      rw [show k2 = 0 by omega] at h
      cases h
      exact hD.2 _ _ hlast
    · exact hA z (Nat.le_trans hS.1 h)
  refine va_callv (va_runIN (As := []) (rest := .ref q :: rest) (host := "LiftGroup") ⟨hx, hb, hml, hown, hts⟩ (hM q H.size) ⟨va_cnB (host := "LiftGroup") 0 hts (zw_gi hw4) rfl hrc hrs hw6 (by rw [hyC]; exact hts _ hw3) hyd hR, hyn, hts _ hw5⟩ ⟨fun a U g mk z => by obtain ⟨q0, q1, qP, qK, qD⟩ := z; exact ⟨q0, q1, qP, va_K.moved (u := U) (U := U.calling g mk a) (Vm.Alike.refl U.vm) qK, qD⟩, fun U hU hW => ⟨rfl, by rw [hU], by rw [hU]; exact hPc, va_K.moved hW.alike (hK.sub (tys' := []) [] rfl), hDc⟩⟩ rfl rfl hsz rfl (lv_room (by show (1 + (rest.map fun v => v.category).sum) ≤ 8; omega)) d4 ⟨hc, hs⟩) hS (fun z _ h => hFc z h) hFc (fun u t H1 locs1 ht hvm _ hB hz1 hk1 hS1 => ?_)
  obtain ⟨hP1, hK1, hD1⟩ := hB
  rw [ht] at hP1
  have hK1 := va_K.moved hvm.symm hK1
  obtain ⟨hP2, hD2⟩ := zn_join hP hD hk1 hFc hP1 hD1
  exact kk q u H1 locs1 (hK.app hK1) hP2 hD2 hS1
end ZN
