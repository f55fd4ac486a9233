def zh_nc (x y : Nat) (U : State) : Prop := ∃ a b, U.vm.findClass (zx_n x) = some a ∧ U.vm.findClass (zx_n y) = some b ∧ U.vm.assignable a b = false
theorem zh_nc.moved {x y : Nat} {s U : State} (hvm : s.vm.Alike U.vm) (h : zh_nc x y s) : zh_nc x y U := by
  obtain ⟨a, b, h1, h2, h3⟩ := h
  exact ⟨a, b, by rw [hvm.findClass]; exact h1, by rw [hvm.findClass]; exact h2, by rw [hvm.assignable]; exact h3⟩
def zh_N (U : State) : Prop := zh_nc 2 1 U ∧ zh_nc 3 1 U ∧ zh_nc 3 2 U ∧ zh_nc 1 4 U ∧ zh_nc 1 5 U
theorem zh_N.moved {s U : State} (hvm : s.vm.Alike U.vm) (h : zh_N s) : zh_N U := ⟨h.1.moved hvm, h.2.1.moved hvm, h.2.2.1.moved hvm, h.2.2.2.1.moved hvm, h.2.2.2.2.moved hvm⟩
def zh_To (e : Env) (s₀ S : State) (f : JFrame) (a : Addr) (tab : List ExceptionTableEntry) (hpc : Nat) : Prop := ∃ vm', s₀.WarmedH vm' ∧ ∀ (Q : Handler → Pre) (E : CtlPost) (d : Bool) (acts : List Action), wp (findHandler.go f a tab) Q E e d acts S ↔ Q (.found hpc) d acts (S.setVm vm')
theorem zh_row {e : Env} {s₀ S : State} {f : JFrame} {x : ExceptionTableEntry} {c : ClassId} (hW : s₀.WarmedH S.vm) (hl : s₀.vm.ClassLinks e.platform f.method.cls x.catchType c) : s₀.WarmedH (S.vm.noted f.method.cls x.catchType (.cls c)) ∧ S.vm.ClassLinks e.platform f.method.cls x.catchType c ∧ S.vm.Alike (S.vm.noted f.method.cls x.catchType (.cls c)) ∧ ∃ k, (S.vm.noted f.method.cls x.catchType (.cls c)).classes[c]? = some k := by
  obtain ⟨dk, _, _, kt, hd, _, _, _, _, hkt, _, hopen⟩ := hl.here
  obtain ⟨kt', hkt', -⟩ := hW.alike.2.2 _ _ hkt
  have hal : S.vm.Alike (S.vm.noted f.method.cls x.catchType (.cls c)) := (Vm.Alike.refl S.vm).noted _ _ _
  obtain ⟨k2, hk2, -⟩ := hal.2.2 _ _ hkt'
  exact ⟨hW.noted hd hopen (State.rightAt_cls hl), hW.classLinks hl, hal, k2, hk2⟩
theorem zh_yes {e : Env} {s₀ S : State} {f : JFrame} {a : Addr} {cell : Cell} {x : ExceptionTableEntry} {t : List ExceptionTableEntry} {c : ClassId} (hW : s₀.WarmedH S.vm) (hcell : S.heap[a]? = some cell) (hobj : cell.vm = .none) (hk0 : ∃ k, s₀.vm.classes[cell.cls]? = some k) (hx : covers x f.pc = true) (h0 : x.catchType ≠ 0) (hl : s₀.vm.ClassLinks e.platform f.method.cls x.catchType c) (hfit : s₀.vm.assignable cell.cls c = true) : zh_To e s₀ S f a (x :: t) x.handlerPc := by
  obtain ⟨w1, w2, hal, k2, hk2⟩ := zh_row hW hl
  refine ⟨_, w1, fun Q E d acts => ?_⟩
  obtain ⟨k1, hk1⟩ := hk0
  obtain ⟨k1', hk1', -⟩ := w1.alike.2.2 _ _ hk1
  have hfit' : (S.vm.noted f.method.cls x.catchType (.cls c)).assignable cell.cls c = true := by rw [w1.alike.assignable]; exact hfit
  obtain ⟨ha, ht⟩ := (resolveClass_links e.toSetting w2).op (op := VmOp.resolveClass f.method.cls x.catchType) rfl
  have hns : ∀ k, cell.vm ≠ .statics k := fun k q => by rw [hobj] at q; cases q
  simp only [covers] at hx
  simp [findHandler.go, hx, h0, ha, ht, hcell, hns, hk1', hk2, hfit', VmOp.dirties, VmOp.acts]
theorem zh_no {e : Env} {s₀ S : State} {f : JFrame} {a : Addr} {cell : Cell} {x : ExceptionTableEntry} {t : List ExceptionTableEntry} {c : ClassId} {hpc : Nat} (hW : s₀.WarmedH S.vm) (hcell : S.heap[a]? = some cell) (hobj : cell.vm = .none) (hk0 : ∃ k, s₀.vm.classes[cell.cls]? = some k) (hx : covers x f.pc = true) (h0 : x.catchType ≠ 0) (hl : s₀.vm.ClassLinks e.platform f.method.cls x.catchType c) (hno : s₀.vm.assignable cell.cls c = false)
    (kk : ∀ vm' : Vm, s₀.WarmedH vm' → zh_To e s₀ (S.setVm vm') f a t hpc) : zh_To e s₀ S f a (x :: t) hpc := by
  obtain ⟨w1, w2, hal, k2, hk2⟩ := zh_row hW hl
  obtain ⟨vm', w3, hq⟩ := kk _ w1
  refine ⟨vm', w3, fun Q E d acts => ?_⟩
  obtain ⟨k1, hk1⟩ := hk0
  obtain ⟨k1', hk1', -⟩ := w1.alike.2.2 _ _ hk1
  have hno' : (S.vm.noted f.method.cls x.catchType (.cls c)).assignable cell.cls c = false := by rw [w1.alike.assignable]; exact hno
  obtain ⟨ha, ht⟩ := (resolveClass_links e.toSetting w2).op (op := VmOp.resolveClass f.method.cls x.catchType) rfl
  have hns : ∀ k, cell.vm ≠ .statics k := fun k q => by rw [hobj] at q; cases q
  have h9 : wp (findHandler.go f a (x :: t)) Q E e d acts S ↔ wp (findHandler.go f a t) Q E e d acts (S.setVm (S.vm.noted f.method.cls x.catchType (.cls c))) := by
    simp only [covers] at hx
    simp [findHandler.go, hx, h0, ha, ht, hcell, hns, hk1', hk2, hno', VmOp.dirties, VmOp.acts]
  rw [h9]
  exact hq Q E d acts
section ZK
variable {p : Program} {l : Launch} {e : Env} {R : Room} {s : State} {m : MethodId} {args : Array Value} {below : List Frame} {meth : Method} {c : Code} {cc : ByteArray} {own : String} {E : zE} {A : Nat → Prop} {nL kM k pc : Nat} {L : List (Option Value)} {stk : List Value} {st : zS} {T : State} {locs : List Loc} {cells slots : Nat} {Q : State → Prop}
theorem zh_caught (X : Stand p l e R s m args below meth c T locs cells slots) {qa : Addr} {ls : Array Slot} {rest : List Value} {hpc : Nat} (hf : zh_To e s ((T.setTop (F0 m pc ls rest)).pushFrame (.throwing qa)) (F0 m pc ls rest) qa c.exceptionTable.toList hpc) :
    ∃ vm', Stand p l e R s m args below meth c (T.setVm vm') locs cells slots ∧ ∀ tg, Steps p.tables e below ((T.setVm vm').setTop (F0 m hpc ls [.ref qa])) tg → Steps p.tables e below ((T.setTop (F0 m pc ls rest)).pushFrame (.throwing qa)) tg := by
  obtain ⟨vm', hW', hq⟩ := hf
  have h : At T (F0 m pc ls rest).method c below := X.here
  refine ⟨vm', X.noted hW', fun tg hrest => ?_⟩
  obtain ⟨hgo, hw⟩ := h.throwing qa
  obtain ⟨g₀, hg⟩ := Option.isSome_iff_exists.mp h.top
  obtain ⟨r, hr⟩ := State.topJava?_eq_some.mp hg
  have hr' : (T.setVm vm').frames = .java g₀ :: r := hr
  refine Steps.head hgo hw ?_
  have hstep : (stepThrowing e ((T.setTop (F0 m pc ls rest)).pushFrame (.throwing qa)) qa (.java (F0 m pc ls rest) :: T.frames.tail)).Is ((((T.setTop (F0 m pc ls rest)).pushFrame (.throwing qa)).setVm vm').setFrames (.java (F0 m hpc ls [.ref qa]) :: T.frames.tail)) [] := by
    simp only [stepThrowing, searchFrame, vmDo]
    generalize hres : Sem.go _ e false [] _ = res
    obtain ⟨as, rfl, ha⟩ := Sem.eq_ok_of hres (a := Handler.found hpc) (s' := ((T.setTop (F0 m pc ls rest)).pushFrame (.throwing qa)).setVm vm') (acts' := []) (by
      have hm' : ((T.setTop (F0 m pc ls rest)).pushFrame (.throwing qa)).vm.method? (F0 m pc ls rest).method = some meth := X.method'
      simp [W.findHandler_eq hm' X.code, hq _ _ _ _])
    exact ⟨rfl, ha⟩
  rw [stepThread_throwing (frames_entered h.top _), hstep.1]
  rw [State.setTop_of_frames _ hr'] at hrest
  have e1 : ∀ (u : State) (F G : List Frame), ((u.setFrames F).setVm vm').setFrames G = (u.setVm vm').setFrames G := fun u F G => by
    have h1 : (u.setFrames F).setVm vm' = (u.setVm vm').setFrames F := rfl
    rw [h1, State.setFrames_setFrames]
  rw [hr, List.tail_cons, State.pushFrame, e1, State.setTop_of_frames _ hr, e1]
  exact hrest
def zh_X (ss : List (Nat × String)) (l : Launch) (s : State) (A : Nat → Prop) (c : Code) (hh : List (Nat × Nat × Nat × Nat)) : Prop := l.stackTraces = false ∧ zx_W s ∧ zx_S ss s ∧ (∀ (a : Nat) (cell : Cell), A a → s.heap[a]? = some cell → cell.vm.isStatics = false) ∧ zh_N s ∧ c.exceptionTable.toList.map (fun h => (h.startPc, h.endPc, h.handlerPc, h.catchType)) = hh
def zh_way (own : String) (args : Array Value) (s : State) (pc x : Nat) : List (Nat × Nat × Nat × Nat) → Nat → Prop
  | [], _ => False
  | (a, b, hp, ct) :: t, hpc => (decide (a ≤ pc) && decide (pc < b)) = true ∧ ct ≠ 0 ∧ ∃ y, (Cond.classLink own ct (zx_n y)).before args s = true ∧ ((x = y ∧ hp = hpc ∧ (Cond.castable (zx_n x) (zx_n x)).before args s = true) ∨ (zh_nc x y s ∧ zh_way own args s pc x t hpc))
theorem zh_ways {own : String} (hown : s.vm.findClass own = some m.cls) (hpl : e.platform.magicAccessors = ({} : Platform).magicAccessors) {x hpc : Nat} {a : Addr} {cell : Cell} {f : JFrame} (hfm : f.method = m) (hpc0 : f.pc = pc) (hobj : cell.vm = .none) (hcl : s.vm.findClass (zx_n x) = some cell.cls) :
    ∀ (tab : List ExceptionTableEntry) (hh : List (Nat × Nat × Nat × Nat)) (S : State), tab.map (fun h => (h.startPc, h.endPc, h.handlerPc, h.catchType)) = hh → s.WarmedH S.vm → S.heap[a]? = some cell → zh_way own args s pc x hh hpc → zh_To e s S f a tab hpc := by
  subst hpc0; subst hfm
  have hk0 : ∃ k, s.vm.classes[cell.cls]? = some k := Vm.classAt_of_findClass hcl
  intro tab
  induction tab with
  | nil =>
    intro hh S hm hW hc hw
    have hm : hh = [] := hm.symm
    subst hm
    exact hw.elim
  | cons r tab ih =>
    intro hh S hm hW hc hw
    have hm : hh = (r.startPc, r.endPc, r.handlerPc, r.catchType) :: tab.map (fun h => (h.startPc, h.endPc, h.handlerPc, h.catchType)) := hm.symm
    subst hm
    obtain ⟨h1, h2, y, h3, h4⟩ := hw
    obtain ⟨cT, hcT, hlk⟩ := Cond.classLink_spec hown h3 e.platform hpl
    rcases h4 with ⟨rfl, rfl, h5⟩ | ⟨⟨a1, b1, n1, n2, n3⟩, h5⟩
    · obtain ⟨c3, c4, hc3, hc4, hasg⟩ := Cond.castable_spec h5
      cases Option.some.inj (hc3.symm.trans hcl)
      cases Option.some.inj (hc4.symm.trans hcT)
      exact zh_yes hW hc hobj hk0 h1 h2 hlk hasg
    · cases Option.some.inj (n1.symm.trans hcl)
      cases Option.some.inj (n2.symm.trans hcT)
      exact zh_no hW hc hobj hk0 h1 h2 hlk n3 (fun vm' hW' => ih _ (S.setVm vm') rfl hW' hc h5)
theorem zh_catch {ret0 : Option FieldType} {ss : List (Nat × String)} {hh : List (Nat × Nat × Nat × Nat)} (F : zw_X p m c cc nL s args own E kM A meth ret0) (Y : zh_X ss l s A c hh) {y : MethodName} {bytes : ByteArray} {maxL index q x : Nat} {ret : Option FieldType} {rm : Room} {C : String} {As rest : List Value} {st' : zS} (hM : zx_M ss l y (Cond.code y bytes maxL ret :: zwAll) rm E (.ref q :: As) st x st')
    (hc1 : rm.cells = 1) (hs1 : rm.slots = 6) (hcal : zw_cal C y bytes maxL ret As.length) (hl : Cond.methodLink own index y ∈ zwAll) (hR : rm.frames + 1 ≤ R.frames ∧ 8 + (maxL + 11) + rm.locals ≤ R.locals)
    (hrec : ∀ (H : Heap) (locs : List Loc), zw_J E A s.heap st H locs → ∃ cell : Cell, H[E.2.2.1 q]? = some cell ∧ cell.vm.isStatics = false ∧ s.vm.findClass C = some cell.cls) (hs : stk = As.reverse ++ .ref q :: rest) (hrm : (rest.map fun v => v.category).sum ≤ 8) (hk : 1 ≤ R.cells ∧ 6 ≤ R.slots) (hd : decode cc pc = .ok (.invokevirtual index, 3))
    {hpc i : Nat} (hw : zh_way own args s pc x hh hpc) (hda : decode cc hpc = .ok (.astore i, 2)) (hi : i < nL) (hLi : ∀ v, ¬ L[i]? = some (some v))
    (kk : zw_G p l e R s m args below meth c Q E A nL 1 (hpc + 2) L [] st') : zw_G p l e R s m args below meth c Q E A nL 0 pc L stk st := by
  intro H locs ls hJ hL T hT X
  obtain ⟨hst, hW, hS, hA2, hN, htab⟩ := Y
  obtain ⟨qa, ce, T', Lo, X', hJ', hce, hcv, hcl, hst1⟩ := zx_call F hW hS hA2 hM hc1 hs1 hcal hl hR hrec hs hrm (by omega) hd hJ hL hT X
  have hpl : e.platform.magicAccessors = ({} : Platform).magicAccessors := by rw [X'.admits.platform]
  obtain ⟨vm', X2, hst2⟩ := zh_caught X' (zh_ways (e := e) F.1.1.2.2.2.1 hpl (f := F0 m pc ls (rest.map (zw_v E.2.2.1))) rfl rfl hcv hcl _ _ _ htab X'.warmed hce hw)
  have K : W p l e R s m args below meth c T'.heap (locs ++ Lo) (0 + 1) (6 * 0 + 6) Q (F0 m hpc ls [.ref qa]) := by
    refine lv_astore F.1.1.1 F.1.1.2.1 hda hL.has hi rfl (fun ls' h' => ?_)
    refine kk T'.heap (locs ++ Lo) ls' hJ' ⟨h'.1, h'.2.1, fun j v hj => ?_⟩
    have hji : j ≠ i := fun e9 => hLi v (by rw [← e9]; exact hj)
    refine ⟨h'.2.2 (j, zw_v E.2.2.1 v) (List.mem_cons_of_mem _ (List.mem_filter.mpr ⟨zw_lv_in hj, ?_⟩)), (hL.2.2 j v hj).2⟩
    have hc9 := (hL.2.2 j v hj).2
    simp [hji, zw_cat, hc9]
  obtain ⟨t, a1, b1⟩ := K (T'.setVm vm') rfl X2
  exact ⟨t, hst1.trans (hst2 t a1), b1⟩
theorem zh_catchN {ret0 : Option FieldType} {ss : List (Nat × String)} {hh : List (Nat × Nat × Nat × Nat)} (F : zw_X p m c cc nL s args own E kM A meth ret0) (Y : zh_X ss l s A c hh) {y : MethodName} {bytes : ByteArray} {maxL index q x : Nat} {ret : Option FieldType} {rm : Room} {C : String} {As rest : List Value} {st' : zS} (hM : zx_M ss l y (Cond.code y bytes maxL ret :: zwAll) rm E (.ref q :: As) st x st')
    (hc1 : rm.cells = 1) (hs1 : rm.slots = 6) (hcal : zw_cal C y bytes maxL ret As.length) (hl : Cond.methodLink own index y ∈ zwAll) (hR : rm.frames + 1 ≤ R.frames ∧ 8 + (maxL + 11) + rm.locals ≤ R.locals)
    (hrec : ∀ (H : Heap) (locs : List Loc), zw_J E A s.heap st H locs → ∃ cell : Cell, H[E.2.2.1 q]? = some cell ∧ cell.vm.isStatics = false ∧ s.vm.findClass C = some cell.cls) (hs : stk = As.reverse ++ .ref q :: rest) (hrm : (rest.map fun v => v.category).sum ≤ 8) (hk : 1 ≤ R.cells ∧ 6 ≤ R.slots) (hd : decode cc pc = .ok (.invokevirtual index, 3))
    {hpc i : Nat} (hw : zh_way own args s pc x hh hpc) {n4 : Fin 4} (hda : decode cc hpc = .ok (.astore_n n4, 1)) (hn4 : (n4 : Nat) = i) (hi : i < nL) (hLi : ∀ v, ¬ L[i]? = some (some v))
    (kk : zw_G p l e R s m args below meth c Q E A nL 1 (hpc + 1) L [] st') : zw_G p l e R s m args below meth c Q E A nL 0 pc L stk st := by
  intro H locs ls hJ hL T hT X
  obtain ⟨hst, hW, hS, hA2, hN, htab⟩ := Y
  obtain ⟨qa, ce, T', Lo, X', hJ', hce, hcv, hcl, hst1⟩ := zx_call F hW hS hA2 hM hc1 hs1 hcal hl hR hrec hs hrm (by omega) hd hJ hL hT X
  have hpl : e.platform.magicAccessors = ({} : Platform).magicAccessors := by rw [X'.admits.platform]
  obtain ⟨vm', X2, hst2⟩ := zh_caught X' (zh_ways (e := e) F.1.1.2.2.2.1 hpl (f := F0 m pc ls (rest.map (zw_v E.2.2.1))) rfl rfl hcv hcl _ _ _ htab X'.warmed hce hw)
  have K : W p l e R s m args below meth c T'.heap (locs ++ Lo) (0 + 1) (6 * 0 + 6) Q (F0 m hpc ls [.ref qa]) := by
    refine lv_astore_n F.1.1.1 F.1.1.2.1 hda hn4 hL.has hi rfl (fun ls' h' => ?_)
    refine kk T'.heap (locs ++ Lo) ls' hJ' ⟨h'.1, h'.2.1, fun j v hj => ?_⟩
    have hji : j ≠ i := fun e9 => hLi v (by rw [← e9]; exact hj)
    refine ⟨h'.2.2 (j, zw_v E.2.2.1 v) (List.mem_cons_of_mem _ (List.mem_filter.mpr ⟨zw_lv_in hj, ?_⟩)), (hL.2.2 j v hj).2⟩
    have hc9 := (hL.2.2 j v hj).2
    simp [hji, zw_cat, hc9]
  obtain ⟨t, a1, b1⟩ := K (T'.setVm vm') rfl X2
  exact ⟨t, hst1.trans (hst2 t a1), b1⟩
theorem zh_iret (F : zw_X p m c cc nL s args own E kM A meth (some .int)) {v : Int32} (hd : decode cc pc = .ok (.ireturn, 1)) : zw_G p l e R s m args below meth c (MQ below (zw_Q E (some (.int v)) st A) args s 1 6 A) E A nL 1 pc L [.int v] st := fun H locs ls hJ hL =>
  W.iret F.1.1.1 F.1.1.2.1 F.2.2.1 (fun t ht hW => ⟨⟨rfl, by rw [ht]; exact hJ.1⟩, hJ.2.2.F ht⟩) hJ.2.2.2.2 hd F.2.2.2
def zh_B (ss : List (Nat × String)) (E : zE) (st : zS) (sz : Nat) (U : State) : Prop := zx_B ss E st sz U ∧ zh_N U
def zh_M (ss : List (Nat × String)) (l : Launch) (y : MethodName) (ws : List Cond) (rm : Room) (E : zE) (av : List Value) (st : zS) (v : Option Value) (st' : zS) : Prop := ∀ sz, Met l y ws rm (va_Pc (av.map (zw_v E.2.2.1)) (zh_B ss E st sz)) (zw_Q E v st' (zw_A E sz)) 1 6 (zw_A E sz)
theorem zh_enter {ss : List (Nat × String)} {hh : List (Nat × Nat × Nat × Nat)} {y : MethodName} {rm : Room} {ret : Option FieldType} {av : List Value} {v : Option Value} {st' : zS} (hst : l.stackTraces = false) (hy : plainName y.cls = true) (hown : y.cls = own) (hn : zw_n E kM) (hlen : (lg_sl (av.map (zw_v E.2.2.1))).length ≤ nL) (hcat : ∀ v ∈ av, v.category = 1) (n : Nat)
    (body : ∀ (p : Program) (e : Env) (s : State) (m : MethodId) (args : Array Value) (below : List Frame) (meth : Method) (c : Code) (A : Nat → Prop), zw_X p m c cc nL s args own E kM A meth ret → zh_X ss l s A c hh → zw_G p l e rm s m args below meth c (MQ below (zw_Q E v st' A) args s 1 6 A) E A nL 0 0 (av.map some ++ List.replicate n none) [] st) : zh_M ss l y (Cond.codeWith y cc nL ret hh :: zwAll) rm E av st v st' := by
  intro sz
  refine va_MetW (cc := cc) (maxL := nL) (ret := ret) (hh := hh) hy rfl ?_
  intro p e s m args below meth c s₁ B hml hv
  obtain ⟨rfl, ⟨⟨hsz, hP, hK, hD0⟩, hW, hS⟩, hN⟩ := hv
  have hts := atoms_spec (ws := Cond.codeWith y cc nL ret hh :: zwAll) B.pre
  have hown' : s.vm.findClass own = some m.cls := by rw [← hown]; exact findClass_of_methodNamed B.named
  subst hsz
  have hl := lv_entry (av.map (zw_v E.2.2.1)) (n := nL) hlen
  obtain ⟨m9, meth', c', hn9, hm', hc', -, -, htab, -⟩ := Cond.codeWith_spec (hts _ List.mem_cons_self)
  have hcc : c' = c := by
    cases B.named.symm.trans hn9
    have e1 : meth' = meth := Option.some.inj (hm'.symm.trans B.method)
    subst e1
    exact Option.some.inj (hc'.symm.trans (Stand.of_body B).code)
  rw [hcc] at htab
  have hA2 : ∀ (a : Nat) (cell : Cell), zw_A E s.heap.size a → s.heap[a]? = some cell → cell.vm.isStatics = false := by
    intro a cell ha hcell
    rcases ha with ⟨q, hq, rfl⟩ | h
    · have h1 := hP q _ (zw_get E st hq)
      unfold va_at at h1
      generalize zw_ent E st q = en at h1
      cases en with
      | inl v =>
        have h2 : s.heap[E.2.2.1 q]? = some (vp_cell v.1 v.2) := h1
        cases hcell.symm.trans h2
        unfold vp_cell
        split <;> rfl
      | inr v =>
        obtain ⟨r, -, cell2, h2, -, h3, -⟩ := h1
        cases hcell.symm.trans h2
        rw [h3]; rfl
    · rw [Array.getElem?_eq_none h] at hcell
      cases hcell
  rw [lg_entry_eq]
  exact body p e s m _ below meth c (zw_A E s.heap.size) ⟨⟨⟨B.exec, B.bytes, hml, hown', fun w h => hts w (List.mem_cons_of_mem _ h)⟩, hK, hn⟩, fun q h => Or.inr h, B.returns, B.notSynchronized⟩ ⟨hst, hW, hS, hA2, hN, htab⟩ s.heap [] _ ⟨hP, zw_DA s.heap.size hD0, va_S.rf⟩
    ⟨hl.1, hl.2.1, fun i v hi => ⟨hl.2.2 _ (by have := zw_args E.2.2.1 av 0 i v hcat (zw_L0 hi); rwa [Nat.zero_add] at this), hcat v (List.mem_of_getElem? (zw_L0 hi))⟩⟩
end ZK
theorem zw_yx {α β : Type} {k : Nat} {y : Nat × α × β} (h : y.1 = k) : y = (k, y.2.1, y.2.2) := by rw [← h]
theorem zw_yw {β : Type} {k : Nat} {y : Nat × β} (h : y.1 = k) : y = (k, y.2) := by rw [← h]
theorem zh_cast {s : State} {args : Array Value} (h : zx_W s) (x : Nat) (hx : Cond.castable (zx_n x) (zx_n x) ∈ zx_tab) : (Cond.castable (zx_n x) (zx_n x)).before args s = true := zx_tabs h.2 (Vm.Alike.refl _) _ hx
