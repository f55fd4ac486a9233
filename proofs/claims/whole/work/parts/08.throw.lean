def zx_n : Nat → String
  | 1 => "java/lang/IllegalArgumentException"
  | 2 => "java/lang/IllegalStateException"
  | 3 => "java/lang/UnsupportedOperationException"
  | 4 => "java/util/NoSuchElementException"
  | _ => "java/lang/IndexOutOfBoundsException"
def zx_ups : List String := ["java/lang/RuntimeException", "java/lang/Exception"]
def zx_sta : List Cond := [.laysStatic Bundle.tN "UNASSIGNED_STACK" Bundle.steD, .laysStatic Bundle.tN "SUPPRESSED_SENTINEL" Bundle.listD, .isRef (.static Bundle.tN "UNASSIGNED_STACK" Bundle.steD), .isRef (.static Bundle.tN "SUPPRESSED_SENTINEL" Bundle.listD)]
def zx_tab : List Cond := [.declares (Bundle.initS "java/lang/RuntimeException"), .declares (Bundle.initS "java/lang/Exception"), .declares (Bundle.initS Bundle.tN), .castable (zx_n 1) (zx_n 1), .castable (zx_n 2) (zx_n 2), .castable (zx_n 3) (zx_n 3), .castable (zx_n 4) (zx_n 4), .castable (zx_n 5) (zx_n 5)]
def zx_W (U : State) : Prop := (∀ w ∈ zx_sta, w.before #[] U = true) ∧ ∀ w ∈ zx_tab, w.before #[] U = true
theorem zx_tabs {s U : State} {args' : Array Value} (h : ∀ w ∈ zx_tab, w.before #[] s = true) (hvm : s.vm.Alike U.vm) : ∀ w ∈ zx_tab, w.before args' U = true := by
  have tr : ∀ w : Cond, w.onTables = true → w.before #[] (s.setVm U.vm) = w.before #[] s → w ∈ zx_tab → w.before args' U = true := by
    intro w hw e hm
    have e2 := Cond.onTables_vm (A := args') (A' := #[]) (U := U) (U' := s) U.vm w hw
    have hU : U.setVm U.vm = U := rfl
    rw [hU] at e2
    rw [e2, e]
    exact h w hm
  intro w hw
  have hw2 := hw
  simp only [zx_tab, List.mem_cons, List.not_mem_nil, or_false] at hw2
  rcases hw2 with rfl | rfl | rfl | rfl | rfl | rfl | rfl | rfl
  · exact tr _ rfl (Cond.declares_setVm hvm _) hw
  · exact tr _ rfl (Cond.declares_setVm hvm _) hw
  · exact tr _ rfl (Cond.declares_setVm hvm _) hw
  · exact tr _ rfl (Cond.castable_setVm hvm _ _) hw
  · exact tr _ rfl (Cond.castable_setVm hvm _ _) hw
  · exact tr _ rfl (Cond.castable_setVm hvm _ _) hw
  · exact tr _ rfl (Cond.castable_setVm hvm _ _) hw
  · exact tr _ rfl (Cond.castable_setVm hvm _ _) hw
def zx_S (ss : List (Nat × String)) (U : State) : Prop := ∀ x ∈ ss, ∃ a, vk_R "LiftGroup" x.1 x.2 a U
theorem zx_stay {C n d : String} {args args' : Array Value} {s U : State} (h1 : (Cond.laysStatic C n d).before args s = true) (h2 : (Cond.isRef (.static C n d)).before args s = true) (hvm : s.vm.Alike U.vm)
    (hk : ∀ (a : Nat) (cell : Cell), s.heap[a]? = some cell → cell.vm.isStatics = true → U.heap[a]? = some cell) : (Cond.laysStatic C n d).before args' U = true ∧ (Cond.isRef (.static C n d)).before args' U = true := by
  obtain ⟨c, k, i, f, a, cell, hc, hi, hst, ha, hcell, hs, hcls, hlt, hty⟩ := Cond.laysStatic_spec h1
  obtain ⟨k', hi9, he⟩ := State.fieldFound?_setVm hvm hi
  have hi' : U.fieldFound? C n d = some (c, k', i, f) := hi9
  have ha' : k'.statics = some a := by rw [he]; exact ha
  have hty' : k'.staticTypes[f.slot]? = some f.type := by rw [he]; exact hty
  have hc' : U.vm.findClass C = some c := by rw [hvm.findClass]; exact hc
  have hU := hk a cell hcell hs
  refine ⟨?_, ?_⟩
  · show (Cond.laysStatic C n d).holds args' U none U [] = true
    exact Cond.laysStatic_of hc' hi' hst ha' hU hs hcls hlt hty'
  · cases hv : (Term.static C n d).eval args s none [] s with
    | none => simp [Cond.before, Cond.holds, Cond.value, hv] at h2
    | some w =>
      simp only [Cond.before, Cond.holds, Cond.value, hv] at h2
      obtain ⟨-, a2, cell2, ha2, hcell2, -, hslot⟩ := Term.static_spec hi hv
      cases ha.symm.trans ha2
      cases hcell.symm.trans hcell2
      have he2 : (Term.static C n d).eval args' U none [] U = some w := by
        simp [Term.eval, State.fieldNamed?, hi', hst, ha', hU, hs, hslot]
      simp only [Cond.before, Cond.holds, Cond.value, he2]
      exact h2
theorem zx_move {s U : State} {args' : Array Value} (h0 : zx_W s) (hvm : s.vm.Alike U.vm) (hk : ∀ (a : Nat) (cell : Cell), s.heap[a]? = some cell → cell.vm.isStatics = true → U.heap[a]? = some cell) : (∀ w ∈ zx_sta, w.before args' U = true) ∧ ∀ w ∈ zx_tab, w.before args' U = true := by
  have h := h0.1
  refine ⟨?_, zx_tabs h0.2 hvm⟩
  have a1 := zx_stay (args' := args') (h (.laysStatic Bundle.tN "UNASSIGNED_STACK" Bundle.steD) (by simp [zx_sta])) (h (.isRef (.static Bundle.tN "UNASSIGNED_STACK" Bundle.steD)) (by simp [zx_sta])) hvm hk
  have a2 := zx_stay (args' := args') (h (.laysStatic Bundle.tN "SUPPRESSED_SENTINEL" Bundle.listD) (by simp [zx_sta])) (h (.isRef (.static Bundle.tN "SUPPRESSED_SENTINEL" Bundle.listD)) (by simp [zx_sta])) hvm hk
  intro w hw
  simp only [zx_sta, List.mem_cons, List.not_mem_nil, or_false] at hw
  rcases hw with rfl | rfl | rfl | rfl
  · exact a1.1
  · exact a2.1
  · exact a1.2
  · exact a2.2
section ZX
variable {p : Program} {l : Launch} {e : Env} {R : Room} {s : State} {m : MethodId} {args : Array Value} {below : List Frame} {meth : Method} {c : Code} {cc : ByteArray} {own : String} {E : zE} {A : Nat → Prop} {nL kM k pc : Nat} {L : List (Option Value)} {stk : List Value} {st : zS} {T : State} {locs : List Loc} {cells slots : Nat}
theorem zx_here (X : Stand p l e R s m args below meth c T locs cells slots) {a b : Nat} (ha : cells + a ≤ R.cells) (hb : slots + b ≤ R.slots) : Stand p l e { frames := R.frames, locals := R.locals, cells := a, slots := b } ((T.setVm s.vm).setFrames (.invoking m args :: below)) m args below meth c T [] 0 0 := by
  have hcur : (T.setVm s.vm).cur < (T.setVm s.vm).threads.size := State.cur_lt_of_top X.here.top
  have hfr : ((T.setVm s.vm).setFrames (.invoking m args :: below)).frames = .invoking m args :: below := State.frames_setFrames _ hcur
  have hlim : e.platform.stackLimits (T.setVm s.vm).me = e.platform.stackLimits s.me := X.limits
  have hby : (T.setVm s.vm).me.stackBytes = s.me.stackBytes := X.bytes
  have huse : ((T.setVm s.vm).setFrames (.invoking m args :: below)).localsInUse = s.localsInUse := by
    rw [State.localsInUse_invoking X.frames X.method X.code]
    exact State.localsInUse_invoking hfr X.method X.code
  have hroom := X.room
  have hsz := X.heapSize
  have hus := X.used
  obtain ⟨g₀, hg0⟩ := Option.isSome_iff_exists.mp (show (T.setVm s.vm).topJava?.isSome from X.here.top)
  obtain ⟨r, hr⟩ := State.topJava?_eq_some.mp hg0
  refine { admits := X.admits, cas := X.cas, clock := X.clock, frames := hfr, room := ?_, hears := X.hears, method := X.method, code := X.code, here := X.here, tail := X.tail, warmed := X.warmed, limits := ?_, bytes := ?_, same := ?_ }
  · simp only [State.hasRoom, Bool.and_eq_true, decide_eq_true_eq] at hroom ⊢
    obtain ⟨⟨⟨⟨r1, r2, r3, r4, r5, r6⟩, r7⟩, r8⟩, -⟩ := hroom
    rw [X.frames] at r2 r3
    simp only [hfr, huse, State.stackLimits_setFrames, State.stackBytes_setFrames, hlim, hby]
    refine ⟨⟨⟨⟨r1, r2, r3, r4, r5, r6⟩, ?_⟩, ?_⟩, X.book⟩
    · show T.heap.size + a ≤ _
      omega
    · show T.slotsUsed + b ≤ _
      omega
  · rw [State.stackLimits_setFrames]; exact rfl
  · rw [State.stackBytes_setFrames]; exact rfl
  · have h0 : ((T.heap.toList.drop T.heap.size).map (·.slots.size)).sum = 0 := by
      rw [List.drop_eq_nil_of_le (Nat.le_of_eq Array.length_toList)]; rfl
    refine ⟨?_, Nat.le_refl _, Nat.le_refl _, ?_, Nat.le_of_eq h0, fun a c hc => ⟨c, hc, rfl, rfl, fun _ _ => rfl⟩⟩
    · obtain ⟨t, ht, -⟩ := State.frames_cons hr
      show T.setVm s.vm = { ((T.setVm s.vm).setFrames (.invoking m args :: below)).setFrames (T.setVm s.vm).frames with heap := T.heap, slotsUsed := T.slotsUsed }
      rw [State.setFrames_setFrames, State.setFrames_self ht]
      rfl
    · show T.slotsUsed = T.slotsUsed + ((T.heap.toList.drop T.heap.size).map (·.slots.size)).sum
      rw [h0]; rfl
def zx_at (own : String) (ic : Nat) (X : String) (i1 : Nat) (b1 : ByteArray) : List Cond :=
  Bundle.throwableAtoms ++ Bundle.throwableSAtoms ++ Bundle.passSAtoms X "java/lang/RuntimeException" i1 b1 ++ Bundle.chainSAtoms "java/lang/RuntimeException" ["java/lang/Exception"] ++
  [.methodLink own ic (Bundle.initS X), .instantiable X 6, .selects X Bundle.tFill0 Bundle.tFill0, .selects X Bundle.tFill Bundle.tFill,
   .lays X Bundle.tN "cause" "Ljava/lang/Throwable;", .lays X Bundle.tN "stackTrace" Bundle.steD, .lays X Bundle.tN "suppressedExceptions" Bundle.listD, .lays X Bundle.tN "detailMessage" "Ljava/lang/String;",
   .isRef (.static Bundle.tN "UNASSIGNED_STACK" Bundle.steD), .isRef (.static Bundle.tN "SUPPRESSED_SENTINEL" Bundle.listD),
   .fieldLink Bundle.tN 198 Bundle.tN "backtrace" "Ljava/lang/Object;", .lays Bundle.tN Bundle.tN "backtrace" "Ljava/lang/Object;", .lays X Bundle.tN "backtrace" "Ljava/lang/Object;"]
set_option maxHeartbeats 2000000 in
theorem zx_ctor {V : State} (X : Stand p l e R s m args below meth c V locs cells slots) (hexec : p.tables.exec = Jvm.exec) (htr : e.platform.stackTraces = false) {cls : String} {ic i1 : Nat} {b1 : ByteArray}
    (hown : s.vm.findClass own = some m.cls) (hcls : Bundle.fit cls = true) (d0 : decode b1 0 = .ok (.aload_n 0, 1)) (d1 : decode b1 1 = .ok (.aload_n 1, 1)) (d2 : decode b1 2 = .ok (.invokespecial i1, 3)) (d5 : decode b1 5 = .ok (.return_, 1))
    (h : ∀ a ∈ zx_at own ic cls i1 b1, a.before args s = true) (hlocs : ∀ x ∈ locs, ∀ cell, s.heap[x.base]? = some cell → cell.vm.isStatics = false)
    {a : Addr} {cX : ClassId} {kX : Class} (hfoundX : s.vm.findClass cls = some cX) (hkX : s.vm.classes[cX]? = some kX) (hcell : V.heap[a]? = some (freshCell cX kX)) (hnew : s.heap.size ≤ a) {msg : Value} (hmsg : msg.isRef = true)
    {g : JFrame} (hg : g.method = m) (hsize : g.locals.size = c.maxLocals) (hlocked : g.locked = none) (hentered : g.entered = []) {rest : List Value} (hstack : g.stack = msg :: .ref a :: .ref a :: rest)
    (hd6 : decode c.code g.pc = .ok (.invokespecial ic, 3)) (hd9 : decode c.code (g.pc + 3) = .ok (.athrow, 1)) (hout : ∀ x ∈ c.exceptionTable.toList, covers x (g.pc + 3) = false)
    (hRframes : 5 < R.frames) (hRlocals : 2 * g.monitorRoom + ((Value.ref a :: rest).map fun v => v.category).sum + 81 ≤ R.locals) (hlocks : meth.locks = false) :
    ∃ U : State, Steps p.tables e below (V.setTop g) U ∧ U.status = .running ∧ Ended U below (.threw a) ∧ s.WarmedH U.vm ∧ s.sameButNew ({ U with vm := s.vm } : State) locs cells slots ∧ ∃ ce : Cell, U.heap[a]? = some ce ∧ ce.vm = .none ∧ ce.cls = cX := by
  have howns : e.platform.frameOwnsMonitors = true := by rw [X.admits.platform]
  have hfin : e.platform.finalization = false := by rw [X.admits.platform]
  have hpl : e.platform.magicAccessors = ({} : Platform).magicAccessors := by rw [X.admits.platform]
  have a' : ∀ x, x ∈ zx_at own ic cls i1 b1 → x.holds args s none s [] = true := fun x hx => h x hx
  obtain ⟨T, Z0, L, -, Y⟩ := ThrowableC.of_atoms (args := args) howns hfin hpl (fun x hx => h x (by simp [zx_at, hx]))
  obtain ⟨Z, M, LZ, LM, hnZ⟩ := Init0T.ofS_atoms (args := args) hpl L Y (fun x hx => h x (by simp [zx_at, hx]))
  obtain ⟨Q1, Qs, hlen, LQ, hLQ, hQm, hk1, hk2⟩ := Bundle.chainS (args := args) hpl hnZ ["java/lang/Exception"] "java/lang/RuntimeException" (by decide +kernel) (by decide +kernel) (fun x hx => h x (by simp [zx_at, hx]))
  obtain ⟨P1, L1, hP1m, hsup⟩ := PassC.ofS_atoms (args := args) (s := s) hpl (X := cls) (Y := "java/lang/RuntimeException") (Bundle.fit_spec hcls).1 (by decide) d0 d1 d2 d5 (fun x hx => h x (by simp [zx_at, hx]))
  have hP1s : P1.sup = Q1.m := Option.some.inj (hsup.symm.trans hQm)
  have hfound : s.vm.findClass cls = some P1.m.cls := findClass_of_methodNamed hP1m
  cases Option.some.inj (hfoundX.symm.trans hfound)
  obtain ⟨c1, kX', hc1, hk, hord, -, -, hn6⟩ := Cond.instantiable_spec (a' (.instantiable cls 6) (by simp [zx_at]))
  cases Option.some.inj (hc1.symm.trans hfound)
  cases Option.some.inj (hkX.symm.trans hk)
  have hsel0 : selectMethod e.platform s.vm P1.m.cls T.fill0 = .method T.fill0 := by
    obtain ⟨c2, r2, m2, q1, q2, q3, q4, -⟩ := Cond.selects_spec (a' (.selects cls Bundle.tFill0 Bundle.tFill0) (by simp [zx_at]))
    cases Option.some.inj (q1.symm.trans hfound)
    cases Option.some.inj (q2.symm.trans (State.methodFound?_of_named Y.fill0 (by decide)))
    cases Option.some.inj (q3.symm.trans Y.fill0)
    rw [Launch.admits_selectMethod X.admits]; exact q4
  have hselF : selectMethod e.platform s.vm P1.m.cls T.fill = .method T.fill := by
    obtain ⟨c2, r2, m2, q1, q2, q3, q4, -⟩ := Cond.selects_spec (a' (.selects cls Bundle.tFill Bundle.tFill) (by simp [zx_at]))
    cases Option.some.inj (q1.symm.trans hfound)
    cases Option.some.inj (q2.symm.trans (State.methodFound?_of_named Y.fill (by decide)))
    cases Option.some.inj (q3.symm.trans Y.fill)
    rw [Launch.admits_selectMethod X.admits]; exact q4
  obtain ⟨cellS0, hcS0, hiss⟩ := Y.statics
  obtain ⟨u0, hu0⟩ := Cond.staticRefV Y.unassigned L.unassignedStatic L.statics hcS0 hiss (a' (.isRef (.static Bundle.tN "UNASSIGNED_STACK" Bundle.steD)) (by simp [zx_at]))
  obtain ⟨sen, hsen⟩ := Cond.staticRefV Y.sentinel L.sentinelStatic L.statics hcS0 hiss (a' (.isRef (.static Bundle.tN "SUPPRESSED_SENTINEL" Bundle.listD)) (by simp [zx_at]))
  obtain ⟨ci198, i198, fB, hk198, hg198, ha198, hsB, -, hnB, htB, hffB⟩ := Cond.ownField (t := .object "java/lang/Object") Y.found L.cls (by decide +kernel) (a' (.fieldLink Bundle.tN 198 Bundle.tN "backtrace" "Ljava/lang/Object;") (by simp [zx_at])) (a' (.lays Bundle.tN Bundle.tN "backtrace" "Ljava/lang/Object;") (by simp [zx_at])) e.platform hpl
  obtain ⟨cellS, hcS', heS, -, hkeep⟩ := X.same.2.2.2.2.2 T.aS cellS0 hcS0
  have hcellS : V.heap[T.aS]? = some cellS := hcS'
  have hout' : ∀ i, (⟨T.aS, i⟩ : Loc) ∉ locs := fun i hmem => by
    have := hlocs _ hmem cellS0 hcS0
    rw [hiss] at this; cases this
  have hknownS : cellS.vm ≠ .unknown := by
    rw [heS]; intro hu
    rw [show cellS0.vm = .unknown from hu] at hiss
    cases hiss
  have hneS : T.aS ≠ a := Nat.ne_of_lt (Nat.lt_of_lt_of_le (Array.getElem?_eq_some_iff.mp hcS0).1 hnew)
  obtain ⟨iM, hffM⟩ := Y.msg
  obtain ⟨tyC, dC, hdC, hdnC⟩ := Cond.laysAt hfound hk Y.cause (a' (.lays cls Bundle.tN "cause" "Ljava/lang/Throwable;") (by simp [zx_at]))
  obtain ⟨tyS, dS, hdS, hdnS⟩ := Cond.laysAt hfound hk Y.stack (a' (.lays cls Bundle.tN "stackTrace" Bundle.steD) (by simp [zx_at]))
  obtain ⟨tyP, dP, hdP, hdnP⟩ := Cond.laysAt hfound hk Y.supp (a' (.lays cls Bundle.tN "suppressedExceptions" Bundle.listD) (by simp [zx_at]))
  obtain ⟨tyM, dM, hdM, hdnM⟩ := Cond.laysAt hfound hk hffM (a' (.lays cls Bundle.tN "detailMessage" "Ljava/lang/String;") (by simp [zx_at]))
  obtain ⟨tyB, dB, hdB, hdnB⟩ := Cond.laysAt hfound hk hffB (a' (.lays cls Bundle.tN "backtrace" "Ljava/lang/Object;") (by simp [zx_at]))
  have bC := Cond.laysApart hdB hdC hdnB hdnC (by rw [hnB, Y.causeName]; decide)
  have bS := Cond.laysApart hdB hdS hdnB hdnS (by rw [hnB, Y.stackName]; decide)
  have bP := Cond.laysApart hdB hdP hdnB hdnP (by rw [hnB, Y.suppName]; decide)
  have hskip : SkipFacts T e.platform s (fun u => u) u0 ((preparedCellV T.toThrowableT (freshCell P1.m.cls kX) a u0 sen).withEntry V.cur) :=
    ⟨{ ci198 := ci198, i198 := i198, fBack := fB }, ⟨hk198, hg198, ha198, hsB⟩, by
      have := fresh_default (c := P1.m.cls) tyB
      rw [htB] at this
      simpa [preparedCellV, Cell.setSlot, Cell.withEntry, Array.getElem?_setIfInBounds, bC, bS, bP, bC.symm, bS.symm, bP.symm, defaultValue] using this, fun _ _ => rfl⟩
  obtain ⟨tm, methC, cdC, kC, vm₁, hnC, -, -, -, -, -, -, -, hW₁, st1⟩ := Steps.initColdS (tb := p.tables) (e := e) (below := below) (s := s) (U := V) X.here hexec X.warmed hpl hown (t := Bundle.initS cls) rfl rfl (Bundle.fit_spec hcls).2
    (a' (.methodLink own ic (Bundle.initS cls)) (by simp [zx_at])) (h (.instanceMethod (Bundle.initS cls)) (by simp [zx_at, Bundle.passSAtoms])) (bytes := b1) (maxL := 2) (h (.code (Bundle.initS cls) b1 2 none) (by simp [zx_at, Bundle.passSAtoms]))
    (f := g) hg (a := a) (msg := msg) (rest := .ref a :: rest) hstack hd6
  cases Option.some.inj (hnC.symm.trans hP1m)
  have X₁ := X.noted hW₁
  obtain ⟨vm₂, X₂, st2⟩ := X₁.ctorMessageOffV hexec (g := { g with stack := .ref a :: rest }) hg hsize T L Z LZ M LM (P1 :: Q1 :: Qs)
    (fun P hP => by
      rcases List.mem_cons.mp hP with rfl | hP
      · exact L1
      · rcases List.mem_cons.mp hP with rfl | hP
        · exact LQ
        · exact hLQ P hP) ⟨hP1s, hk1, hk2⟩ (u0 := u0) (sen := sen) (self := a) hmsg (cell := freshCell P1.m.cls kX) (cellS := cellS)
    hcell (fun _ => by simp) (by simp) rfl rfl hsel0 hselF hcellS hneS hknownS (by rw [hkeep _ (hout' _)]; exact hu0) (by rw [hkeep _ (hout' _)]; exact hsen)
    (Takes.of_laid hk hord tyC (by rw [Y.causeType]; rfl)) (Takes.of_laid hk hord tyS (by rw [Y.stackType]; exact fits_refV_array _ u0)) (Takes.of_laid hk hord tyP (by rw [Y.suppType]; exact fits_refV_object _ sen))
    (Takes.of_laid hk hord tyM (by rw [Y.msgType]; exact fits_refV_object _ ⟨msg, hmsg⟩)) Y.objLocals hskip htr [] hd6
    (by simp only [List.length_cons, hlen, List.length_nil]; omega) (by simp only [List.length_cons, hlen, List.length_nil]; omega)
  obtain ⟨hwalk, hrun, hended, hWU, hsame⟩ := X₂.athrowLeaves hexec (g := { g with stack := .ref a :: rest, pc := g.pc + 3 }) hg hlocked hentered hout (a := a) (rest := rest) rfl hd9 hlocks
  have hlt : a < ((V.setVm vm₁).setVm vm₂).heap.size := (Array.getElem?_eq_some_iff.mp hcell).1
  have hU := heapAt_setCell_self (s := (V.setVm vm₁).setVm vm₂) (plainBareV T.toThrowableT (freshCell P1.m.cls kX) a u0 sen msg) hlt
  refine ⟨_, st1 _ (fun acts => ?_), hrun, hended, hWU, hsame.weaken (fun y hy hlt' => ?_) (Nat.le_refl _) (Nat.le_refl _), _, hU, rfl, rfl⟩
  · rw [doInvoke_state]
    exact st2 _ hwalk
  · rcases List.mem_append.mp hy with h1 | h1
    · exact h1
    · exfalso
      have hb : y.base = a := by
        simp only [List.mem_cons, List.not_mem_nil, or_false] at h1
        rcases h1 with rfl | rfl | rfl | rfl | rfl <;> rfl
      rw [hb] at hlt'
      exact Nat.not_lt.mpr hnew hlt'
def zx_Q (E : zE) (x : Nat) (st' : zS) (A : Nat → Prop) : Array Value → State → Outcome → State → Prop := fun _ s0 o t => ∃ (q : Addr) (ce : Cell) (L : List Loc), o = .threw q ∧ t.heap[q]? = some ce ∧ ce.vm = .none ∧ s0.vm.findClass (zx_n x) = some ce.cls ∧ va_P E.1 zwCl (zw_ws E st') t.heap ∧ va_F A s0 t ∧ s0.WarmedH t.vm ∧ s0.sameButNew ({ t with vm := s0.vm } : State) L 1 6 ∧ ∀ z ∈ L, A z.base
def zx_MQ (below : List Frame) (E : zE) (x : Nat) (st' : zS) (A : Nat → Prop) (a : Array Value) (s : State) : State → Prop := fun t => ∃ o, t.status = .running ∧ Ended t below o ∧ zx_Q E x st' A a s o t
def zx_B (ss : List (Nat × String)) (E : zE) (st : zS) (sz : Nat) (U : State) : Prop := zw_B E st sz U ∧ zx_W U ∧ zx_S ss U
def zx_M (ss : List (Nat × String)) (l : Launch) (y : MethodName) (ws : List Cond) (rm : Room) (E : zE) (av : List Value) (st : zS) (x : Nat) (st' : zS) : Prop := ∀ sz, MetFree l y (headSpec ws rm) (va_Pc (av.map (zw_v E.2.2.1)) (zx_B ss E st sz)) (fun _ _ _ _ _ => True) (zx_Q E x st' (zw_A E sz))
def zx_X (ss : List (Nat × String)) (l : Launch) (s : State) (A : Nat → Prop) (c : Code) : Prop := l.stackTraces = false ∧ zx_W s ∧ zx_S ss s ∧ (∀ (a : Nat) (cell : Cell), A a → s.heap[a]? = some cell → cell.vm.isStatics = false) ∧ c.exceptionTable.toList = []
theorem zx_enter {ss : List (Nat × String)} {y : MethodName} {rm : Room} {ret : Option FieldType} {av : List Value} {x : Nat} {st' : zS} (hst : l.stackTraces = false) (hy : plainName y.cls = true) (hown : y.cls = own) (hn : zw_n E kM) (hlen : (lg_sl (av.map (zw_v E.2.2.1))).length ≤ nL) (hcat : ∀ v ∈ av, v.category = 1) (n : Nat)
    (body : ∀ (p : Program) (e : Env) (s : State) (m : MethodId) (args : Array Value) (below : List Frame) (meth : Method) (c : Code) (A : Nat → Prop), zw_X p m c cc nL s args own E kM A meth ret → zx_X ss l s A c → zw_G p l e rm s m args below meth c (zx_MQ below E x st' A args s) E A nL 0 0 (av.map some ++ List.replicate n none) [] st) : zx_M ss l y (Cond.code y cc nL ret :: zwAll) rm E av st x st' := by
  intro sz
  refine MetFree.of_bodyS (code := cc) (maxLocals := nL) (ret := ret) hy ?_ ?_
  · intro args s m h hn
    obtain ⟨meth, c, h1, h2, h3, h4, h5, h6, -, -⟩ := Cond.code_spec hn (atoms_spec (ws := Cond.code y cc nL ret :: zwAll) h _ List.mem_cons_self)
    exact ⟨meth, c, h1, h2, h3, h4, h5, h6⟩
  · intro p e s m args below meth c s₁ B hml hP0 _
    obtain ⟨rfl, ⟨hsz, hP, hK, hD0⟩, hW, hS⟩ := hP0
    have hts := atoms_spec (ws := Cond.code y cc nL ret :: zwAll) B.pre
    have hown' : s.vm.findClass own = some m.cls := by rw [← hown]; exact findClass_of_methodNamed B.named
    subst hsz
    have hl := lv_entry (av.map (zw_v E.2.2.1)) (n := nL) hlen
    have hh0 : s₁.heap = s.heap := by rw [B.state]; rfl
    obtain ⟨meth', c', hm', hc', -, -, -, -, hempty, -⟩ := Cond.code_spec B.named (hts _ List.mem_cons_self)
    have hcc : c' = c := by
      have e1 : meth' = meth := Option.some.inj (hm'.symm.trans B.method)
      subst e1
      exact Option.some.inj (hc'.symm.trans (Stand.of_body B).code)
    have htab : c.exceptionTable.toList = [] := by
      rw [← hcc]
      have h0 : c'.exceptionTable.size = 0 := by simpa [Array.isEmpty] using hempty
      exact List.eq_nil_of_length_eq_zero (by simpa using h0)
    have hA2 : ∀ (a : Nat) (cell : Cell), zw_A E s.heap.size a → s.heap[a]? = some cell → cell.vm.isStatics = false := by
      intro a cell ha hcell
      rcases ha with ⟨q, hq, rfl⟩ | h
      · have h1 := hP q _ (zw_get E st hq)
        unfold va_at at h1
        generalize zw_ent E st q = en at h1
        cases en with
        | inl v =>
          have h2 : s.heap[E.2.2.1 q]? = some (vp_cell v.1 v.2) := h1
          cases hcell.symm.trans h2
          unfold vp_cell
          split <;> rfl
        | inr v =>
          obtain ⟨r, -, cell2, h2, -, h3, -⟩ := h1
          cases hcell.symm.trans h2
          rw [h3]; rfl
      · rw [Array.getElem?_eq_none h] at hcell
        cases hcell
    have K := body p e s m (av.map (zw_v E.2.2.1)).toArray below meth c (zw_A E s.heap.size) ⟨⟨⟨B.exec, B.bytes, hml, hown', fun w h => hts w (List.mem_cons_of_mem _ h)⟩, hK, hn⟩, fun q h => Or.inr h, B.returns, B.notSynchronized⟩ ⟨hst, hW, hS, hA2, htab⟩ s.heap [] _ ⟨hP, zw_DA s.heap.size hD0, va_S.rf⟩
      ⟨hl.1, hl.2.1, fun i v hi => ⟨hl.2.2 _ (by have := zw_args E.2.2.1 av 0 i v hcat (zw_L0 hi); rwa [Nat.zero_add] at this), hcat v (List.mem_of_getElem? (zw_L0 hi))⟩⟩
    rw [lg_entry_eq]
    obtain ⟨t, a1, o, b1, b2, b3⟩ := K s₁ hh0 (Stand.of_body B)
    exact ⟨t, o, a1, b1, b2, b3⟩
theorem zx_throw {ret : Option FieldType} {ss : List (Nat × String)} (F : zw_X p m c cc nL s args own E kM A meth ret) (Y : zx_X ss l s A c) (x : Nat) {ik is ic i1 : Nat} {b1 : ByteArray} {text : String} (hx : (is, text) ∈ ss) (hown : own = "LiftGroup") (hk : Cond.classLink own ik (zx_n x) ∈ zwAll) (hini : Cond.initialized (zx_n x) ∈ zwAll)
    (hat : (∀ w ∈ zx_at own ic (zx_n x) i1 b1, w ∈ zx_sta ∨ w ∈ zx_tab ∨ w ∈ zwAll) ∧ decode b1 0 = .ok (.aload_n 0, 1) ∧ decode b1 1 = .ok (.aload_n 1, 1) ∧ decode b1 2 = .ok (.invokespecial i1, 3) ∧ decode b1 5 = .ok (.return_, 1)) (hfit : Bundle.fit (zx_n x) = true) (hRf : 6 ≤ R.frames) (hRl : (stk.map fun v => v.category).sum + 82 ≤ R.locals) (hRc : 1 ≤ R.cells) (hRs : 6 ≤ R.slots)
    (d0 : decode cc pc = .ok (.new ik, 3)) (d3 : decode cc (pc + 3) = .ok (.dup, 1)) (d4 : decode cc (pc + 4) = .ok (.ldc is, 2)) (d6 : decode cc (pc + 6) = .ok (.invokespecial ic, 3)) (d9 : decode cc (pc + 9) = .ok (.athrow, 1)) :
    zw_G p l e R s m args below meth c (zx_MQ below E x st A args s) E A nL 0 pc L stk st := by
  intro H locs ls hJ hL T hT X
  obtain ⟨hst, hW, hS, hA2, htab⟩ := Y
  have htr : e.platform.stackTraces = false := (show e.platform.stackTraces = l.stackTraces by rw [X.admits.platform]).trans hst
  have Z := zx_here X (a := 1) (b := 6) (by omega) (by omega)
  obtain ⟨s', hs'⟩ : ∃ z, z = (T.setVm s.vm).setFrames (.invoking m args :: below) := ⟨_, rfl⟩
  rw [← hs'] at Z
  have hvm : s'.vm = s.vm := by rw [hs']; rfl
  have hhp : s'.heap = H := by rw [hs']; exact hT
  have hW0 : s.WarmedH s'.vm := by rw [hvm]; exact State.WarmedH.refl s
  have hb := F.1.1.2.1
  have good : ∀ w ∈ zwAll, w.before args s' = true := fun w hw => word_at hW0 (zw_good w hw) (F.1.1.2.2.2.2 w hw)
  have hsta := zx_move (args' := args) hW hW0.alike (fun a cell hc hs => by
    have hna : ¬ A a := fun ha => by rw [hA2 a cell ha hc] at hs; cases hs
    rw [hhp, hJ.2.2.2.1 a (Array.getElem?_eq_some_iff.mp hc).1 hna]; exact hc)
  have h : ∀ w ∈ zx_at own ic (zx_n x) i1 b1, w.before args s' = true := fun w hw => (hat.1 w hw).elim (hsta.1 w) (fun h => h.elim (hsta.2 w) (good w))
  have hown' : s'.vm.findClass own = some m.cls := by rw [hvm]; exact F.1.1.2.2.2.1
  have hins : (Cond.instantiable (zx_n x) 6).before args s' = true := h _ (by simp [zx_at])
  obtain ⟨sa, hsa⟩ := hS (is, text) hx
  rw [← hown] at hsa
  have hsa' : vk_R own is text sa s' := vk_R.warm hW0 hsa
  obtain ⟨vm₁, cX, kX, hfX, hkX, -, -, X₁, st1⟩ := Z.newCold F.1.1.1 (own := own) (C := zx_n x) (index := ik) (n := 6) hown' (good _ hk) hins (good _ hini) (g := F0 m pc ls (stk.map (zw_v E.2.2.1))) rfl (by rw [hb]; exact d0) (Nat.le_refl _) (Nat.le_refl _)
  generalize hT1 : (T.setVm vm₁).pushCell { cls := cX, slots := kX.instanceTypes.map defaultValue, vm := .none } = T1 at X₁ st1
  have hcellA : T1.heap[T.heap.size]? = some (freshCell cX kX) := by rw [← hT1]; exact State.heap_pushCell_size _ _
  have d3' : decode c.code (pc + 3) = .ok (.dup, 1) := by rw [hb]; exact d3
  have d4' : decode c.code (pc + 4) = .ok (.ldc is, 2) := by rw [hb]; exact d4
  have hcat : (stk.map (zw_v E.2.2.1)).map (fun v => v.category) = stk.map (fun v => v.category) := by
    rw [List.map_map]; exact List.map_congr_left (fun v _ => zw_cat _ v)
  obtain ⟨U, hsteps, hrun, hend, hWU, hsame, ce, hce, hO, hOc⟩ := zx_ctor X₁ F.1.1.1 htr (own := own) (cls := zx_n x) (ic := ic) hown' hfit hat.2.1 hat.2.2.1 hat.2.2.2.1 hat.2.2.2.2 h (fun x hx => nomatch hx) hfX hkX hcellA (by rw [hhp, hT]; exact Nat.le_refl _) (msg := .ref sa) rfl
    (g := { method := m, pc := pc + 6, locals := ls, stack := .ref sa :: .ref T.heap.size :: .ref T.heap.size :: stk.map (zw_v E.2.2.1), locked := none }) rfl (hL.1.trans F.1.1.2.2.1.symm) rfl rfl (rest := stk.map (zw_v E.2.2.1)) rfl
    (by rw [hb]; exact d6) (by rw [hb]; exact d9) (by rw [htab]; intro x hx; cases hx) (by show 5 < R.frames; omega) (by
      show 2 * 0 + ((Value.ref T.heap.size :: stk.map (zw_v E.2.2.1)).map fun v => v.category).sum + 81 ≤ R.locals
      rw [List.map_cons, hcat, List.sum_cons]
      show 2 * 0 + (1 + _) + _ ≤ _
      omega) F.2.2.2
  obtain ⟨e1, e2, e3, e4, e5, e6⟩ := id hsame
  have hkeep : ∀ q : Nat, q < H.size → U.heap[q]? = H[q]? := by
    intro q hq
    rw [← hhp] at hq ⊢
    obtain ⟨c9, f1, f2, f3, f4⟩ := e6 q _ (Array.getElem?_eq_getElem hq)
    have f5 : c9.slots = (s'.heap[q]).slots := Array.ext_getElem? fun i => f4 i (fun hm => nomatch hm)
    have f6 : c9 = s'.heap[q] := by rw [f5] at f2; exact f2
    rw [Array.getElem?_eq_getElem hq, ← f6]
    exact f1
  have hUs : s.WarmedH U.vm := State.WarmedH.trans hW0 hWU
  have hall : s.sameButNew ({ U with vm := s.vm } : State) locs 1 6 := by
    subst hs'
    rw [State.setFrames_setFrames] at e1
    have h2 : (T.setVm s.vm).sameButNew ({ U with vm := s.vm } : State) [] (0 + 1) (0 + 6) := ⟨e1, e2, e3, e4, e5, e6⟩
    have h3 := X.same.trans h2
    rw [List.append_nil] at h3
    exact h3.mono (Nat.le_refl _) (Nat.le_refl _)
  refine ⟨U, ?_, .threw T.heap.size, hrun, hend, T.heap.size, ce, locs, rfl, hce, hO, ?_, ?_, ?_, hUs, hall, hJ.2.2.2.2⟩
  · refine st1 _ ?_
    show Steps p.tables e below (T1.setTop { method := m, pc := pc + 3, locals := ls, stack := .ref T.heap.size :: stk.map (zw_v E.2.2.1), locked := none }) _
    have hcc : (Value.ref T.heap.size).category = 1 := rfl
    jvm_step X₁.here [X₁.here.top, F.1.1.1, d3', Value.category]
    exact X₁.ldcString F.1.1.1 (own := own) (text := text) (index := is) (a := sa) hown' hsa'.1 hsa'.2
      (g := { method := m, pc := pc + 4, locals := ls, stack := .ref T.heap.size :: .ref T.heap.size :: stk.map (zw_v E.2.2.1), locked := none }) rfl d4' _ hsteps
  · have h9 := hfX
    rw [hvm] at h9
    rw [hOc]
    exact h9
  · exact hJ.1.kept (fun k q hq => hkeep q.1 (hJ.1 k q hq).lt)
  · refine ⟨Nat.le_trans hJ.2.2.1 (by rw [← hhp]; exact e2), fun q h1 h2 => ?_⟩
    rw [hkeep q (Nat.lt_of_lt_of_le h1 hJ.2.2.1)]
    exact hJ.2.2.2.1 q h1 h2
theorem zx_throwW {ret : Option FieldType} {ss : List (Nat × String)} (F : zw_X p m c cc nL s args own E kM A meth ret) (Y : zx_X ss l s A c) (x : Nat) {ik is ic i1 : Nat} {b1 : ByteArray} {text : String} (hx : (is, text) ∈ ss) (hown : own = "LiftGroup") (hk : Cond.classLink own ik (zx_n x) ∈ zwAll) (hini : Cond.initialized (zx_n x) ∈ zwAll)
    (hat : (∀ w ∈ zx_at own ic (zx_n x) i1 b1, w ∈ zx_sta ∨ w ∈ zx_tab ∨ w ∈ zwAll) ∧ decode b1 0 = .ok (.aload_n 0, 1) ∧ decode b1 1 = .ok (.aload_n 1, 1) ∧ decode b1 2 = .ok (.invokespecial i1, 3) ∧ decode b1 5 = .ok (.return_, 1)) (hfit : Bundle.fit (zx_n x) = true) (hRf : 6 ≤ R.frames) (hRl : (stk.map fun v => v.category).sum + 82 ≤ R.locals) (hRc : 1 ≤ R.cells) (hRs : 6 ≤ R.slots)
    (d0 : decode cc pc = .ok (.new ik, 3)) (d3 : decode cc (pc + 3) = .ok (.dup, 1)) (d4 : decode cc (pc + 4) = .ok (.ldc_w is, 3)) (d6 : decode cc (pc + 7) = .ok (.invokespecial ic, 3)) (d9 : decode cc (pc + 10) = .ok (.athrow, 1)) :
    zw_G p l e R s m args below meth c (zx_MQ below E x st A args s) E A nL 0 pc L stk st := by
  intro H locs ls hJ hL T hT X
  obtain ⟨hst, hW, hS, hA2, htab⟩ := Y
  have htr : e.platform.stackTraces = false := (show e.platform.stackTraces = l.stackTraces by rw [X.admits.platform]).trans hst
  have Z := zx_here X (a := 1) (b := 6) (by omega) (by omega)
  obtain ⟨s', hs'⟩ : ∃ z, z = (T.setVm s.vm).setFrames (.invoking m args :: below) := ⟨_, rfl⟩
  rw [← hs'] at Z
  have hvm : s'.vm = s.vm := by rw [hs']; rfl
  have hhp : s'.heap = H := by rw [hs']; exact hT
  have hW0 : s.WarmedH s'.vm := by rw [hvm]; exact State.WarmedH.refl s
  have hb := F.1.1.2.1
  have good : ∀ w ∈ zwAll, w.before args s' = true := fun w hw => word_at hW0 (zw_good w hw) (F.1.1.2.2.2.2 w hw)
  have hsta := zx_move (args' := args) hW hW0.alike (fun a cell hc hs => by
    have hna : ¬ A a := fun ha => by rw [hA2 a cell ha hc] at hs; cases hs
    rw [hhp, hJ.2.2.2.1 a (Array.getElem?_eq_some_iff.mp hc).1 hna]; exact hc)
  have h : ∀ w ∈ zx_at own ic (zx_n x) i1 b1, w.before args s' = true := fun w hw => (hat.1 w hw).elim (hsta.1 w) (fun h => h.elim (hsta.2 w) (good w))
  have hown' : s'.vm.findClass own = some m.cls := by rw [hvm]; exact F.1.1.2.2.2.1
  have hins : (Cond.instantiable (zx_n x) 6).before args s' = true := h _ (by simp [zx_at])
  obtain ⟨sa, hsa⟩ := hS (is, text) hx
  rw [← hown] at hsa
  have hsa' : vk_R own is text sa s' := vk_R.warm hW0 hsa
  obtain ⟨vm₁, cX, kX, hfX, hkX, -, -, X₁, st1⟩ := Z.newCold F.1.1.1 (own := own) (C := zx_n x) (index := ik) (n := 6) hown' (good _ hk) hins (good _ hini) (g := F0 m pc ls (stk.map (zw_v E.2.2.1))) rfl (by rw [hb]; exact d0) (Nat.le_refl _) (Nat.le_refl _)
  generalize hT1 : (T.setVm vm₁).pushCell { cls := cX, slots := kX.instanceTypes.map defaultValue, vm := .none } = T1 at X₁ st1
  have hcellA : T1.heap[T.heap.size]? = some (freshCell cX kX) := by rw [← hT1]; exact State.heap_pushCell_size _ _
  have d3' : decode c.code (pc + 3) = .ok (.dup, 1) := by rw [hb]; exact d3
  have d4' : decode c.code (pc + 4) = .ok (.ldc_w is, 3) := by rw [hb]; exact d4
  have hcat : (stk.map (zw_v E.2.2.1)).map (fun v => v.category) = stk.map (fun v => v.category) := by
    rw [List.map_map]; exact List.map_congr_left (fun v _ => zw_cat _ v)
  obtain ⟨U, hsteps, hrun, hend, hWU, hsame, ce, hce, hO, hOc⟩ := zx_ctor X₁ F.1.1.1 htr (own := own) (cls := zx_n x) (ic := ic) hown' hfit hat.2.1 hat.2.2.1 hat.2.2.2.1 hat.2.2.2.2 h (fun x hx => nomatch hx) hfX hkX hcellA (by rw [hhp, hT]; exact Nat.le_refl _) (msg := .ref sa) rfl
    (g := { method := m, pc := pc + 7, locals := ls, stack := .ref sa :: .ref T.heap.size :: .ref T.heap.size :: stk.map (zw_v E.2.2.1), locked := none }) rfl (hL.1.trans F.1.1.2.2.1.symm) rfl rfl (rest := stk.map (zw_v E.2.2.1)) rfl
    (by rw [hb]; exact d6) (by rw [hb]; exact d9) (by rw [htab]; intro x hx; cases hx) (by show 5 < R.frames; omega) (by
      show 2 * 0 + ((Value.ref T.heap.size :: stk.map (zw_v E.2.2.1)).map fun v => v.category).sum + 81 ≤ R.locals
      rw [List.map_cons, hcat, List.sum_cons]
      show 2 * 0 + (1 + _) + _ ≤ _
      omega) F.2.2.2
  obtain ⟨e1, e2, e3, e4, e5, e6⟩ := id hsame
  have hkeep : ∀ q : Nat, q < H.size → U.heap[q]? = H[q]? := by
    intro q hq
    rw [← hhp] at hq ⊢
    obtain ⟨c9, f1, f2, f3, f4⟩ := e6 q _ (Array.getElem?_eq_getElem hq)
    have f5 : c9.slots = (s'.heap[q]).slots := Array.ext_getElem? fun i => f4 i (fun hm => nomatch hm)
    have f6 : c9 = s'.heap[q] := by rw [f5] at f2; exact f2
    rw [Array.getElem?_eq_getElem hq, ← f6]
    exact f1
  have hUs : s.WarmedH U.vm := State.WarmedH.trans hW0 hWU
  have hall : s.sameButNew ({ U with vm := s.vm } : State) locs 1 6 := by
    subst hs'
    rw [State.setFrames_setFrames] at e1
    have h2 : (T.setVm s.vm).sameButNew ({ U with vm := s.vm } : State) [] (0 + 1) (0 + 6) := ⟨e1, e2, e3, e4, e5, e6⟩
    have h3 := X.same.trans h2
    rw [List.append_nil] at h3
    exact h3.mono (Nat.le_refl _) (Nat.le_refl _)
  refine ⟨U, ?_, .threw T.heap.size, hrun, hend, T.heap.size, ce, locs, rfl, hce, hO, ?_, ?_, ?_, hUs, hall, hJ.2.2.2.2⟩
  · refine st1 _ ?_
    show Steps p.tables e below (T1.setTop { method := m, pc := pc + 3, locals := ls, stack := .ref T.heap.size :: stk.map (zw_v E.2.2.1), locked := none }) _
    have hcc : (Value.ref T.heap.size).category = 1 := rfl
    jvm_step X₁.here [X₁.here.top, F.1.1.1, d3', Value.category]
    exact X₁.ldcStringW F.1.1.1 (own := own) (text := text) (index := is) (a := sa) hown' hsa'.1 hsa'.2
      (g := { method := m, pc := pc + 4, locals := ls, stack := .ref T.heap.size :: .ref T.heap.size :: stk.map (zw_v E.2.2.1), locked := none }) rfl d4' _ hsteps
  · have h9 := hfX
    rw [hvm] at h9
    rw [hOc]
    exact h9
  · exact hJ.1.kept (fun k q hq => hkeep q.1 (hJ.1 k q hq).lt)
  · refine ⟨Nat.le_trans hJ.2.2.1 (by rw [← hhp]; exact e2), fun q h1 h2 => ?_⟩
    rw [hkeep q (Nat.lt_of_lt_of_le h1 hJ.2.2.1)]
    exact hJ.2.2.2.1 q h1 h2
theorem zx_call {ret0 : Option FieldType} {ss : List (Nat × String)} (F : zw_X p m c cc nL s args own E kM A meth ret0) (hW : zx_W s) (hS : zx_S ss s) (hA2 : ∀ (a : Nat) (cell : Cell), A a → s.heap[a]? = some cell → cell.vm.isStatics = false) {y : MethodName} {bytes : ByteArray} {maxL index q x : Nat} {ret : Option FieldType} {rm : Room} {C : String} {As rest : List Value} {st' : zS} (hM : zx_M ss l y (Cond.code y bytes maxL ret :: zwAll) rm E (.ref q :: As) st x st')
    (hc1 : rm.cells = 1) (hs1 : rm.slots = 6) (hcal : zw_cal C y bytes maxL ret As.length) (hl : Cond.methodLink own index y ∈ zwAll) (hR : rm.frames + 1 ≤ R.frames ∧ 8 + (maxL + 11) + rm.locals ≤ R.locals)
    (hrec : ∀ (H : Heap) (locs : List Loc), zw_J E A s.heap st H locs → ∃ cell : Cell, H[E.2.2.1 q]? = some cell ∧ cell.vm.isStatics = false ∧ s.vm.findClass C = some cell.cls) (hs : stk = As.reverse ++ .ref q :: rest) (hrm : (rest.map fun v => v.category).sum ≤ 8) (hk : k + 1 ≤ R.cells ∧ 6 * k + 6 ≤ R.slots) (hd : decode cc pc = .ok (.invokevirtual index, 3))
    {H : Heap} {ls : Array Slot} (hJ : zw_J E A s.heap st H locs) (hL : zw_L E.2.2.1 ls nL L) (hT : T.heap = H) (X : Stand p l e R s m args below meth c T locs k (6 * k)) :
    ∃ (qa : Addr) (ce : Cell) (T' : State) (Lo : List Loc), Stand p l e R s m args below meth c T' (locs ++ Lo) (k + 1) (6 * k + 6) ∧ zw_J E A s.heap st' T'.heap (locs ++ Lo) ∧ T'.heap[qa]? = some ce ∧ ce.vm = .none ∧ s.vm.findClass (zx_n x) = some ce.cls ∧
      Steps p.tables e below (T.setTop (F0 m pc ls (stk.map (zw_v E.2.2.1)))) ((T'.setTop (F0 m pc ls (rest.map (zw_v E.2.2.1)))).pushFrame (.throwing qa)) := by
  obtain ⟨c1, c2, c3, c4, c5, c6, c7, c8⟩ := hcal
  have ht := F.1.1.2.2.2.2
  have hb := F.1.1.2.1
  obtain ⟨cellB, hcB, hoB, hclB⟩ := hrec H locs hJ
  obtain ⟨mk, methM, hnamed, hmethM, hstM, habM⟩ := Cond.instanceMethod_spec (ht _ c1)
  obtain ⟨methM', cM, hmethM', -, -, -, -, -, -, hsigM⟩ := Cond.code_spec hnamed (ht _ c4)
  cases hmethM.symm.trans hmethM'
  obtain ⟨cc2, r2, m2, q1, q2, q3, q4, kP, hkP, hkPi⟩ := Cond.selects_spec (ht _ c2)
  cases hclB.symm.trans q1
  cases (State.methodFound?_of_named hnamed ⟨c6, c7⟩).symm.trans q2
  cases hnamed.symm.trans q3
  have hselP : selectMethod e.platform s.vm cellB.cls mk = .method mk := by rw [Launch.admits_selectMethod X.admits]; exact q4
  have hlen : (As.map (zw_v E.2.2.1)).length = methM.sig.parameters.length := by
    rw [hsigM] at c8
    rw [List.length_map]
    exact (Option.some.inj c8).symm
  have hstk : stk.map (zw_v E.2.2.1) = (As.map (zw_v E.2.2.1)).reverse ++ .ref (E.2.2.1 q) :: rest.map (zw_v E.2.2.1) := by subst hs; simp [zw_v]
  have hdc : decode c.code pc = .ok (.invokevirtual index, 3) := by rw [hb]; exact hd
  obtain ⟨vm₁, X₁, hstep₁⟩ := X.invokevirtual F.1.1.1 F.1.1.2.2.2.1 (ht _ hl) hnamed hmethM hstM hkP hkPi ⟨c6, c7⟩ (a := E.2.2.1 q) (cell := cellB) (by rw [hT]; exact hcB)
    (fun z h => by rw [h] at hoB; cases hoB) hselP hmethM habM hkP hkPi (g := F0 m pc ls (stk.map (zw_v E.2.2.1))) rfl (argsL := As.map (zw_v E.2.2.1)) (rest := rest.map (zw_v E.2.2.1)) hlen hstk hdc
  obtain ⟨g, hg⟩ : ∃ g, g = F0 m pc ls (rest.map (zw_v E.2.2.1)) := ⟨_, rfl⟩
  obtain ⟨a, ha⟩ : ∃ a, a = (Value.ref (E.2.2.1 q) :: As.map (zw_v E.2.2.1)).toArray := ⟨_, rfl⟩
  obtain ⟨U, hU⟩ : ∃ U, U = T.setVm vm₁ := ⟨_, rfl⟩
  rw [← hU] at X₁
  have hUH : U.heap = H := by rw [hU]; exact hT
  have hgm : g.method = m := by rw [hg]
  have hn1 : U.methodNamed? y = some mk := X₁.named hnamed
  have hws : ∀ w ∈ zwAll, w.before a U = true := fun w hw => word_at X₁.warmed (zw_good w hw) (ht w hw)
  have h1 : (headSpec (Cond.code y bytes maxL ret :: zwAll) rm).pre.before a U = true := atoms_intro fun w hw => by
    rcases List.mem_cons.mp hw with rfl | hw
    · exact hws _ c4
    · exact hws _ hw
  obtain ⟨methY, cY, hmY, hcY, -, hlY, -, -, -, -⟩ := Cond.code_spec hn1 (hws _ c4)
  obtain ⟨kY, hkY, -⟩ := className_of_methodNamed hn1
  have hinitY : kY.init = .initialized := Cond.initialized_spec (findClass_of_methodNamed hn1) hkY (by rw [c5]; exact hws _ c3)
  have hAt : At U g.method c below := by rw [hgm]; exact X₁.here
  have hcat : (rest.map (zw_v E.2.2.1)).map (fun v => v.category) = rest.map (fun v => v.category) := by
    rw [List.map_map]; exact List.map_congr_left (fun v _ => zw_cat _ v)
  have happ : (headSpec (Cond.code y bytes maxL ret :: zwAll) rm).appliesLoose y e.platform (U.calling g mk a) = true :=
    Spec.appliesLoose_calling (g := g) hAt (by rw [hg]; exact hdc) hn1 hkY hinitY
      (X₁.room_calling (g := g) (R' := rm) (by rw [hg]; exact hL.1.trans F.1.1.2.2.1.symm) hmY hcY hR.1 (by
        rw [hg, hlY]
        show 2 * 0 + ((rest.map (zw_v E.2.2.1)).map fun v => v.category).sum + (maxL + 11) + rm.locals ≤ R.locals
        rw [hcat]
        have := hR.2
        omega) (by rw [hc1]; exact hk.1) (by rw [hs1]; exact hk.2)) h1
  have hPc : va_Pc ((.ref q :: As).map (zw_v E.2.2.1)) (zx_B ss E st H.size) a (U.calling g mk a) := by
    refine ⟨ha, ⟨by show U.heap.size = _; rw [hUH], by show va_P _ _ _ U.heap; rw [hUH]; exact hJ.1, va_K.moved X₁.warmed.alike F.1.2.1, ⟨hJ.2.1.1, fun _ _ _ => trivial⟩⟩, ?_, fun z hz => ?_⟩
    · exact zx_move hW X₁.warmed.alike (fun b cell hc hst => by
        have hna : ¬ A b := fun hab => by rw [hA2 b cell hab hc] at hst; cases hst
        show U.heap[b]? = _
        rw [hUH, hJ.2.2.2.1 b (Array.getElem?_eq_some_iff.mp hc).1 hna]; exact hc)
    · obtain ⟨sa, hsa⟩ := hS z hz
      exact ⟨sa, vk_R.warm (U := U.calling g mk a) X₁.warmed hsa⟩
  obtain ⟨mid, hmid⟩ := hAt.above
  have hfr : (U.setTop g).frames = (.java g :: mid) ++ below := by rw [State.frames_setTop' g hAt.top, hmid]; rfl
  obtain ⟨o, s₂, hsteps, -, hend, hq⟩ := Steps.callFree (hM H.size) p X₁.admits X₁.cas X₁.clock (acts := []) hfr happ hPc trivial
  have hq' : zx_Q E x st' (zw_A E H.size) a (U.calling g mk a) o s₂ := hq
  obtain ⟨qa, ce, Lo, rfl, hce, hcv, hcl, hP2, hF2, hW2, hsm, hLo⟩ := hq'
  rw [State.frames_setTop' g hAt.top] at hend
  obtain ⟨g₀, hg0⟩ := Option.isSome_iff_exists.mp hAt.top
  obtain ⟨r, hr⟩ := State.topJava?_eq_some.mp hg0
  have hr' : (({ U with heap := s₂.heap, slotsUsed := s₂.slotsUsed } : State).setVm s₂.vm).frames = .java g₀ :: r := hr
  obtain ⟨e2, b2, b3, b4, b5, b6⟩ := id hsm
  have e3 : s₂ = ({ (U.calling g mk a).setFrames s₂.frames with heap := s₂.heap, slotsUsed := s₂.slotsUsed } : State).setVm s₂.vm := by
    have h9 : s₂ = ({ s₂ with vm := (U.calling g mk a).vm } : State).setVm s₂.vm := rfl
    rw [e2] at h9
    exact h9
  have hf₂ : s₂.frames = .throwing qa :: .java g :: U.frames.tail := hend
  have hWU : U.WarmedH s₂.vm := hW2
  have hs₂ : s₂ = ((({ U with heap := s₂.heap, slotsUsed := s₂.slotsUsed } : State).setVm s₂.vm).setTop g).pushFrame (.throwing qa) := by
    refine e3.trans ?_
    rw [hf₂, State.calling_eq hAt.top, State.setFrames_setFrames, State.pushFrame, State.frames_setTop _ hr', State.setTop_of_frames _ hr', State.setFrames_setFrames, hr]
    rfl
  have hsame : U.sameButNew ({ U with heap := s₂.heap, slotsUsed := s₂.slotsUsed } : State) Lo 1 6 := by
    refine ⟨?_, b2, b3, b4, b5, b6⟩
    obtain ⟨t, ht, -⟩ := State.frames_cons hr
    show ({ U with heap := s₂.heap, slotsUsed := s₂.slotsUsed } : State) = { U.setFrames U.frames with heap := s₂.heap, slotsUsed := s₂.slotsUsed }
    rw [State.setFrames_self ht]
  have hAA : ∀ z, zw_A E H.size z → A z := fun z hz => by
    rcases hz with ⟨i, hi, rfl⟩ | h
    · exact hJ.2.1.2 i _ (zw_get E st hi)
    · exact F.2.1 z (Nat.le_trans hJ.2.2.1 h)
  obtain ⟨hz, hkq⟩ := hF2
  have hz' : H.size ≤ s₂.heap.size := by rw [← hUH]; exact hz
  have hkq' : ∀ z : Nat, z < H.size → ¬ zw_A E H.size z → s₂.heap[z]? = H[z]? := fun z h1 h2 => by rw [← hUH] at h1 ⊢; exact hkq z h1 h2
  refine ⟨qa, ce, ({ U with heap := s₂.heap, slotsUsed := s₂.slotsUsed } : State).setVm s₂.vm, Lo, ?_, ⟨hP2, zw_D _ hJ.2.1, ?_, ?_, ?_⟩, hce, hcv, ?_, ?_⟩
  · exact ⟨X₁.admits, X₁.cas, X₁.clock, X₁.frames, X₁.room, X₁.hears, X₁.method, X₁.code, (X₁.here.setHeapUsed s₂.heap s₂.slotsUsed).setVm hWU.alike, X₁.tail, State.WarmedH.trans X₁.warmed hWU, X₁.limits, X₁.bytes, X₁.same.trans (hsame.setVm s.vm)⟩
  · exact Nat.le_trans hJ.2.2.1 hz'
  · intro z h1 h2
    show s₂.heap[z]? = _
    rw [hkq' z (Nat.lt_of_lt_of_le h1 hJ.2.2.1) (fun h => h2 (hAA z h))]
    exact hJ.2.2.2.1 z h1 h2
  · intro z hz
    rcases List.mem_append.mp hz with h | h
    · exact hJ.2.2.2.2 z h
    · exact hAA _ (hLo z h)
  · have h9 : U.vm.findClass (zx_n x) = some ce.cls := hcl
    rw [X₁.warmed.alike.findClass] at h9
    exact h9
  · refine hstep₁ _ fun acts => ?_
    rw [doInvoke_state]
    rw [← hg, ← hs₂]
    subst ha
    have h9 := hsteps
    rw [hU] at h9
    subst hg
    exact h9
theorem zx_callV {ret0 : Option FieldType} {ss : List (Nat × String)} (F : zw_X p m c cc nL s args own E kM A meth ret0) (Y : zx_X ss l s A c) {y : MethodName} {bytes : ByteArray} {maxL index q x : Nat} {ret : Option FieldType} {rm : Room} {C : String} {As rest : List Value} {st' : zS} (hM : zx_M ss l y (Cond.code y bytes maxL ret :: zwAll) rm E (.ref q :: As) st x st')
    (hc1 : rm.cells = 1) (hs1 : rm.slots = 6) (hcal : zw_cal C y bytes maxL ret As.length) (hl : Cond.methodLink own index y ∈ zwAll) (hR : rm.frames + 1 ≤ R.frames ∧ 8 + (maxL + 11) + rm.locals ≤ R.locals)
    (hrec : ∀ (H : Heap) (locs : List Loc), zw_J E A s.heap st H locs → ∃ cell : Cell, H[E.2.2.1 q]? = some cell ∧ cell.vm.isStatics = false ∧ s.vm.findClass C = some cell.cls) (hs : stk = As.reverse ++ .ref q :: rest) (hrm : (rest.map fun v => v.category).sum ≤ 8) (hk : 1 ≤ R.cells ∧ 6 ≤ R.slots) (hd : decode cc pc = .ok (.invokevirtual index, 3)) :
    zw_G p l e R s m args below meth c (zx_MQ below E x st' A args s) E A nL 0 pc L stk st := by
  intro H locs ls hJ hL T hT X
  obtain ⟨hst, hW, hS, hA2, htab⟩ := Y
  obtain ⟨qa, ce, T', Lo, X', hJ', hce, hcv, hcl, hst1⟩ := zx_call F hW hS hA2 hM hc1 hs1 hcal hl hR hrec hs hrm (by omega) hd hJ hL hT X
  obtain ⟨st2, hrun, hend, hWU, hsm⟩ := X'.leaveThrown qa (g := F0 m pc ls (rest.map (zw_v E.2.2.1))) rfl rfl rfl (by rw [htab]; intro x hx; cases hx) F.2.2.2
  refine ⟨_, hst1.trans st2, .threw qa, hrun, hend, qa, ce, locs ++ Lo, rfl, hce, hcv, hcl, hJ'.1, hJ'.2.2.F rfl, hWU, hsm, hJ'.2.2.2.2⟩
end ZX
theorem zw_y0 {α β : Type} {y : Nat × α × β} (h : y.1 = 0) : y = (0, y.2.1, y.2.2) := by rw [← h]
theorem zw_yv {β : Type} {y : Nat × β} (h : y.1 = 0) : y = (0, y.2) := by rw [← h]
