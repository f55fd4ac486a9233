/-! methods that throw: one new cell of six slots, thrown; the state as it was said -/
def zx_n : Nat → String
  | 1 => "java/lang/IllegalArgumentException"
  | 2 => "java/lang/IllegalStateException"
  | 3 => "java/lang/UnsupportedOperationException"
  | 4 => "java/util/NoSuchElementException"
  | _ => "java/lang/IndexOutOfBoundsException"
def zx_ups : List String := ["java/lang/RuntimeException", "java/lang/Exception"]
/-- the words of a throw that speak of the heap -/
def zx_sta : List Cond := [.laysStatic Bundle.tN "UNASSIGNED_STACK" Bundle.steD, .laysStatic Bundle.tN "SUPPRESSED_SENTINEL" Bundle.listD, .isRef (.static Bundle.tN "UNASSIGNED_STACK" Bundle.steD), .isRef (.static Bundle.tN "SUPPRESSED_SENTINEL" Bundle.listD)]
def zx_W (U : State) : Prop := ∀ w ∈ zx_sta, w.before #[] U = true
def zx_S (ss : List (Nat × String)) (U : State) : Prop := ∀ x ∈ ss, ∃ a, vk_R "LiftGroup" x.1 x.2 a U
theorem zx_stay {C n d : String} {args args' : Array Value} {s U : State} (h1 : (Cond.laysStatic C n d).before args s = true) (h2 : (Cond.isRef (.static C n d)).before args s = true) (hvm : s.vm.Alike U.vm)
    (hk : ∀ (a : Nat) (cell : Cell), s.heap[a]? = some cell → cell.vm.isStatics = true → U.heap[a]? = some cell) : (Cond.laysStatic C n d).before args' U = true ∧ (Cond.isRef (.static C n d)).before args' U = true := by
  obtain ⟨c, k, i, f, a, cell, hc, hi, hst, ha, hcell, hs, hcls, hlt, hty⟩ := Cond.laysStatic_spec h1
  obtain ⟨k', hi9, he⟩ := State.fieldFound?_setVm hvm hi
  have hi' : U.fieldFound? C n d = some (c, k', i, f) := hi9
  have ha' : k'.statics = some a := by rw [he]; exact ha
  have hty' : k'.staticTypes[f.slot]? = some f.type := by rw [he]; exact hty
  have hc' : U.vm.findClass C = some c := by rw [hvm.findClass]; exact hc
  have hU := hk a cell hcell hs
  refine ⟨?_, ?_⟩
  · show (Cond.laysStatic C n d).holds args' U none U [] = true
    exact Cond.laysStatic_of hc' hi' hst ha' hU hs hcls hlt hty'
  · cases hv : (Term.static C n d).eval args s none [] s with
    | none => simp [Cond.before, Cond.holds, Cond.value, hv] at h2
    | some w =>
      simp only [Cond.before, Cond.holds, Cond.value, hv] at h2
      obtain ⟨-, a2, cell2, ha2, hcell2, -, hslot⟩ := Term.static_spec hi hv
      cases ha.symm.trans ha2
      cases hcell.symm.trans hcell2
      have he2 : (Term.static C n d).eval args' U none [] U = some w := by
        simp [Term.eval, State.fieldNamed?, hi', hst, ha', hU, hs, hslot]
      simp only [Cond.before, Cond.holds, Cond.value, he2]
      exact h2
theorem zx_move {s U : State} {args' : Array Value} (h : zx_W s) (hvm : s.vm.Alike U.vm) (hk : ∀ (a : Nat) (cell : Cell), s.heap[a]? = some cell → cell.vm.isStatics = true → U.heap[a]? = some cell) : ∀ w ∈ zx_sta, w.before args' U = true := by
  have a1 := zx_stay (args' := args') (h (.laysStatic Bundle.tN "UNASSIGNED_STACK" Bundle.steD) (by simp [zx_sta])) (h (.isRef (.static Bundle.tN "UNASSIGNED_STACK" Bundle.steD)) (by simp [zx_sta])) hvm hk
  have a2 := zx_stay (args' := args') (h (.laysStatic Bundle.tN "SUPPRESSED_SENTINEL" Bundle.listD) (by simp [zx_sta])) (h (.isRef (.static Bundle.tN "SUPPRESSED_SENTINEL" Bundle.listD)) (by simp [zx_sta])) hvm hk
  intro w hw
  simp only [zx_sta, List.mem_cons, List.not_mem_nil, or_false] at hw
  rcases hw with rfl | rfl | rfl | rfl
  · exact a1.1
  · exact a2.1
  · exact a1.2
  · exact a2.2
section ZX
variable {p : Program} {l : Launch} {e : Env} {R : Room} {s : State} {m : MethodId} {args : Array Value} {below : List Frame} {meth : Method} {c : Code} {cc : ByteArray} {own : String} {E : zE} {A : Nat → Prop} {nL kM k pc : Nat} {L : List (Option Value)} {stk : List Value} {st : zS} {T : State} {locs : List Loc} {cells slots : Nat}
/-- the same frame, its start taken to be here -/
theorem zx_here (X : Stand p l e R s m args below meth c T locs cells slots) {a b : Nat} (ha : cells + a ≤ R.cells) (hb : slots + b ≤ R.slots) : Stand p l e { frames := R.frames, locals := R.locals, cells := a, slots := b } ((T.setVm s.vm).setFrames (.invoking m args :: below)) m args below meth c T [] 0 0 := by
  have hcur : (T.setVm s.vm).cur < (T.setVm s.vm).threads.size := State.cur_lt_of_top X.here.top
  have hfr : ((T.setVm s.vm).setFrames (.invoking m args :: below)).frames = .invoking m args :: below := State.frames_setFrames _ hcur
  have hlim : e.platform.stackLimits (T.setVm s.vm).me = e.platform.stackLimits s.me := X.limits
  have hby : (T.setVm s.vm).me.stackBytes = s.me.stackBytes := X.bytes
  have huse : ((T.setVm s.vm).setFrames (.invoking m args :: below)).localsInUse = s.localsInUse := by
    rw [State.localsInUse_invoking X.frames X.method X.code]
    exact State.localsInUse_invoking hfr X.method X.code
  have hroom := X.room
  have hsz := X.heapSize
  have hus := X.used
  obtain ⟨g₀, hg0⟩ := Option.isSome_iff_exists.mp (show (T.setVm s.vm).topJava?.isSome from X.here.top)
  obtain ⟨r, hr⟩ := State.topJava?_eq_some.mp hg0
  refine { admits := X.admits, cas := X.cas, clock := X.clock, frames := hfr, room := ?_, hears := X.hears, method := X.method, code := X.code, here := X.here, tail := X.tail, warmed := X.warmed, limits := ?_, bytes := ?_, same := ?_ }
  · simp only [State.hasRoom, Bool.and_eq_true, decide_eq_true_eq] at hroom ⊢
    obtain ⟨⟨⟨⟨r1, r2, r3, r4, r5, r6⟩, r7⟩, r8⟩, -⟩ := hroom
    rw [X.frames] at r2 r3
    simp only [hfr, huse, State.stackLimits_setFrames, State.stackBytes_setFrames, hlim, hby]
    refine ⟨⟨⟨⟨r1, r2, r3, r4, r5, r6⟩, ?_⟩, ?_⟩, X.book⟩
    · show T.heap.size + a ≤ _
      omega
    · show T.slotsUsed + b ≤ _
      omega
  · rw [State.stackLimits_setFrames]; exact rfl
  · rw [State.stackBytes_setFrames]; exact rfl
  · have h0 : ((T.heap.toList.drop T.heap.size).map (·.slots.size)).sum = 0 := by
      rw [List.drop_eq_nil_of_le (Nat.le_of_eq Array.length_toList)]; rfl
    refine ⟨?_, Nat.le_refl _, Nat.le_refl _, ?_, Nat.le_of_eq h0, fun a c hc => ⟨c, hc, rfl, rfl, fun _ _ => rfl⟩⟩
    · obtain ⟨t, ht, -⟩ := State.frames_cons hr
      show T.setVm s.vm = { ((T.setVm s.vm).setFrames (.invoking m args :: below)).setFrames (T.setVm s.vm).frames with heap := T.heap, slotsUsed := T.slotsUsed }
      rw [State.setFrames_setFrames, State.setFrames_self ht]
      rfl
    · show T.slotsUsed = T.slotsUsed + ((T.heap.toList.drop T.heap.size).map (·.slots.size)).sum
      rw [h0]; rfl
def zx_Q (E : zE) (x : Nat) (st' : zS) (A : Nat → Prop) : Array Value → State → Outcome → State → Prop := fun _ s0 o t => ∃ (q : Addr) (ce : Cell) (L : List Loc), o = .threw q ∧ t.heap[q]? = some ce ∧ ce.vm = .none ∧ s0.vm.findClass (zx_n x) = some ce.cls ∧ va_P E.1 zwCl (zw_ws E st') t.heap ∧ va_F A s0 t ∧ s0.WarmedH t.vm ∧ s0.sameButNew ({ t with vm := s0.vm } : State) L 1 6 ∧ ∀ z ∈ L, A z.base
def zx_MQ (below : List Frame) (E : zE) (x : Nat) (st' : zS) (A : Nat → Prop) (a : Array Value) (s : State) : State → Prop := fun t => ∃ o, t.status = .running ∧ Ended t below o ∧ zx_Q E x st' A a s o t
def zx_B (ss : List (Nat × String)) (E : zE) (st : zS) (sz : Nat) (U : State) : Prop := zw_B E st sz U ∧ zx_W U ∧ zx_S ss U
/-- a method that throws -/
def zx_M (ss : List (Nat × String)) (l : Launch) (y : MethodName) (ws : List Cond) (rm : Room) (E : zE) (av : List Value) (st : zS) (x : Nat) (st' : zS) : Prop := ∀ sz, MetFree l y (headSpec ws rm) (va_Pc (av.map (zw_v E.2.2.1)) (zx_B ss E st sz)) (fun _ _ _ _ _ => True) (zx_Q E x st' (zw_A E sz))
/-- what the body of a method that throws stands on -/
def zx_X (ss : List (Nat × String)) (l : Launch) (s : State) (A : Nat → Prop) (c : Code) : Prop := l.stackTraces = false ∧ zx_W s ∧ zx_S ss s ∧ (∀ (a : Nat) (cell : Cell), A a → s.heap[a]? = some cell → cell.vm.isStatics = false) ∧ c.exceptionTable.toList = []
theorem zx_enter {ss : List (Nat × String)} {y : MethodName} {rm : Room} {ret : Option FieldType} {av : List Value} {x : Nat} {st' : zS} (hst : l.stackTraces = false) (hy : plainName y.cls = true) (hown : y.cls = own) (hn : zw_n E kM) (hlen : (lg_sl (av.map (zw_v E.2.2.1))).length ≤ nL) (hcat : ∀ v ∈ av, v.category = 1) (n : Nat)
    (body : ∀ (p : Program) (e : Env) (s : State) (m : MethodId) (args : Array Value) (below : List Frame) (meth : Method) (c : Code) (A : Nat → Prop), zw_X p m c cc nL s args own E kM A meth ret → zx_X ss l s A c → zw_G p l e rm s m args below meth c (zx_MQ below E x st' A args s) E A nL 0 0 (av.map some ++ List.replicate n none) [] st) : zx_M ss l y (Cond.code y cc nL ret :: zwAll) rm E av st x st' := by
  intro sz
  refine MetFree.of_bodyS (code := cc) (maxLocals := nL) (ret := ret) hy ?_ ?_
  · intro args s m h hn
    obtain ⟨meth, c, h1, h2, h3, h4, h5, h6, -, -⟩ := Cond.code_spec hn (atoms_spec (ws := Cond.code y cc nL ret :: zwAll) h _ List.mem_cons_self)
    exact ⟨meth, c, h1, h2, h3, h4, h5, h6⟩
  · intro p e s m args below meth c s₁ B hml hP0 _
    obtain ⟨rfl, ⟨hsz, hP, hK, hD0⟩, hW, hS⟩ := hP0
    have hts := atoms_spec (ws := Cond.code y cc nL ret :: zwAll) B.pre
    have hown' : s.vm.findClass own = some m.cls := by rw [← hown]; exact findClass_of_methodNamed B.named
    subst hsz
    have hl := lv_entry (av.map (zw_v E.2.2.1)) (n := nL) hlen
    have hh0 : s₁.heap = s.heap := by rw [B.state]; rfl
    obtain ⟨meth', c', hm', hc', -, -, -, -, hempty, -⟩ := Cond.code_spec B.named (hts _ List.mem_cons_self)
    have hcc : c' = c := by
      have e1 : meth' = meth := Option.some.inj (hm'.symm.trans B.method)
      subst e1
      exact Option.some.inj (hc'.symm.trans (Stand.of_body B).code)
    have htab : c.exceptionTable.toList = [] := by
      rw [← hcc]
      have h0 : c'.exceptionTable.size = 0 := by simpa [Array.isEmpty] using hempty
      exact List.eq_nil_of_length_eq_zero (by simpa using h0)
    have hA2 : ∀ (a : Nat) (cell : Cell), zw_A E s.heap.size a → s.heap[a]? = some cell → cell.vm.isStatics = false := by
      intro a cell ha hcell
      rcases ha with ⟨q, hq, rfl⟩ | h
      · have h1 := hP q _ (zw_get E st hq)
        unfold va_at at h1
        generalize zw_ent E st q = en at h1
        cases en with
        | inl v =>
          have h2 : s.heap[E.2.2.1 q]? = some (vp_cell v.1 v.2) := h1
          cases hcell.symm.trans h2
          unfold vp_cell
          split <;> rfl
        | inr v =>
          obtain ⟨r, -, cell2, h2, -, h3, -⟩ := h1
          cases hcell.symm.trans h2
          rw [h3]; rfl
      · rw [Array.getElem?_eq_none h] at hcell
        cases hcell
    have K := body p e s m (av.map (zw_v E.2.2.1)).toArray below meth c (zw_A E s.heap.size) ⟨⟨⟨B.exec, B.bytes, hml, hown', fun w h => hts w (List.mem_cons_of_mem _ h)⟩, hK, hn⟩, fun q h => Or.inr h, B.returns, B.notSynchronized⟩ ⟨hst, hW, hS, hA2, htab⟩ s.heap [] _ ⟨hP, zw_DA s.heap.size hD0, va_S.rf⟩
      ⟨hl.1, hl.2.1, fun i v hi => ⟨hl.2.2 _ (by have := zw_args E.2.2.1 av 0 i v hcat (zw_L0 hi); rwa [Nat.zero_add] at this), hcat v (List.mem_of_getElem? (zw_L0 hi))⟩⟩
    rw [lg_entry_eq]
    obtain ⟨t, a1, o, b1, b2, b3⟩ := K s₁ hh0 (Stand.of_body B)
    exact ⟨t, o, a1, b1, b2, b3⟩
/-- throw new E("text"): new, dup, ldc, invokespecial, athrow -/
theorem zx_throw {ret : Option FieldType} {ss : List (Nat × String)} (F : zw_X p m c cc nL s args own E kM A meth ret) (Y : zx_X ss l s A c) (x : Nat) {ik is ic : Nat} {text : String} (hx : (is, text) ∈ ss) (hown : own = "LiftGroup") (hk : Cond.classLink own ik (zx_n x) ∈ zwAll) (hini : Cond.initialized (zx_n x) ∈ zwAll)
    (hat : ∀ w ∈ Bundle.ownAtoms own ic (zx_n x) zx_ups, w ∈ zx_sta ∨ w ∈ zwAll) (hfit : Bundle.fit (zx_n x) = true) (hRf : 6 ≤ R.frames) (hRl : (stk.map fun v => v.category).sum + 82 ≤ R.locals) (hRc : 1 ≤ R.cells) (hRs : 6 ≤ R.slots)
    (d0 : decode cc pc = .ok (.new ik, 3)) (d3 : decode cc (pc + 3) = .ok (.dup, 1)) (d4 : decode cc (pc + 4) = .ok (.ldc is, 2)) (d6 : decode cc (pc + 6) = .ok (.invokespecial ic, 3)) (d9 : decode cc (pc + 9) = .ok (.athrow, 1)) :
    zw_G p l e R s m args below meth c (zx_MQ below E x st A args s) E A nL 0 pc L stk st := by
  intro H locs ls hJ hL T hT X
  obtain ⟨hst, hW, hS, hA2, htab⟩ := Y
  have htr : e.platform.stackTraces = false := (show e.platform.stackTraces = l.stackTraces by rw [X.admits.platform]).trans hst
  have Z := zx_here X (a := 1) (b := 6) (by omega) (by omega)
  obtain ⟨s', hs'⟩ : ∃ z, z = (T.setVm s.vm).setFrames (.invoking m args :: below) := ⟨_, rfl⟩
  rw [← hs'] at Z
  have hvm : s'.vm = s.vm := by rw [hs']; rfl
  have hhp : s'.heap = H := by rw [hs']; exact hT
  have hW0 : s.WarmedH s'.vm := by rw [hvm]; exact State.WarmedH.refl s
  have hb := F.1.1.2.1
  have good : ∀ w ∈ zwAll, w.before args s' = true := fun w hw => word_at hW0 (zw_good w hw) (F.1.1.2.2.2.2 w hw)
  have hsta : ∀ w ∈ zx_sta, w.before args s' = true := zx_move hW hW0.alike (fun a cell hc hs => by
    have hna : ¬ A a := fun ha => by rw [hA2 a cell ha hc] at hs; cases hs
    rw [hhp, hJ.2.2.2.1 a (Array.getElem?_eq_some_iff.mp hc).1 hna]; exact hc)
  have h : ∀ w ∈ Bundle.ownAtoms own ic (zx_n x) zx_ups, w.before args s' = true := fun w hw => (hat w hw).elim (hsta w) (good w)
  have hown' : s'.vm.findClass own = some m.cls := by rw [hvm]; exact F.1.1.2.2.2.1
  have hins : (Cond.instantiable (zx_n x) 6).before args s' = true := h _ (by simp [Bundle.ownAtoms])
  obtain ⟨sa, hsa⟩ := hS (is, text) hx
  rw [← hown] at hsa
  have hsa' : vk_R own is text sa s' := vk_R.warm hW0 hsa
  obtain ⟨vm₁, cX, kX, hfX, hkX, -, -, X₁, st1⟩ := Z.newCold F.1.1.1 (own := own) (C := zx_n x) (index := ik) (n := 6) hown' (good _ hk) hins (good _ hini) (g := F0 m pc ls (stk.map (zw_v E.2.2.1))) rfl (by rw [hb]; exact d0) (Nat.le_refl _) (Nat.le_refl _)
  generalize hT1 : (T.setVm vm₁).pushCell { cls := cX, slots := kX.instanceTypes.map defaultValue, vm := .none } = T1 at X₁ st1
  have hcellA : T1.heap[T.heap.size]? = some (freshCell cX kX) := by rw [← hT1]; exact State.heap_pushCell_size _ _
  have d3' : decode c.code (pc + 3) = .ok (.dup, 1) := by rw [hb]; exact d3
  have d4' : decode c.code (pc + 4) = .ok (.ldc is, 2) := by rw [hb]; exact d4
  have hcat : (stk.map (zw_v E.2.2.1)).map (fun v => v.category) = stk.map (fun v => v.category) := by
    rw [List.map_map]; exact List.map_congr_left (fun v _ => zw_cat _ v)
  obtain ⟨U, hsteps, hrun, hend, hWU, hsame, ce, hce, hO⟩ := X₁.ctorThrowS F.1.1.1 htr (own := own) (cls := zx_n x) (names := zx_ups) (ic := ic) hown' hfit (by decide +kernel) h (fun x hx => nomatch hx) hfX hkX hcellA (by rw [hhp, hT]; exact Nat.le_refl _) (msg := .ref sa) rfl
    (g := { method := m, pc := pc + 6, locals := ls, stack := .ref sa :: .ref T.heap.size :: .ref T.heap.size :: stk.map (zw_v E.2.2.1), locked := none }) rfl (hL.1.trans F.1.1.2.2.1.symm) rfl rfl (rest := stk.map (zw_v E.2.2.1)) rfl
    (by rw [hb]; exact d6) (by rw [hb]; exact d9) (by rw [htab]; intro x hx; cases hx) (by show 2 + 3 < R.frames; omega) (by
      show 2 * 0 + ((Value.ref T.heap.size :: stk.map (zw_v E.2.2.1)).map fun v => v.category).sum + (13 * (2 + 1) + 42) ≤ R.locals
      rw [List.map_cons, hcat, List.sum_cons]
      show 2 * 0 + (1 + _) + _ ≤ _
      omega) F.2.2.2
  obtain ⟨e1, e2, e3, e4, e5, e6⟩ := id hsame
  have hkeep : ∀ q : Nat, q < H.size → U.heap[q]? = H[q]? := by
    intro q hq
    rw [← hhp] at hq ⊢
    obtain ⟨c9, f1, f2, f3, f4⟩ := e6 q _ (Array.getElem?_eq_getElem hq)
    have f5 : c9.slots = (s'.heap[q]).slots := Array.ext_getElem? fun i => f4 i (fun hm => nomatch hm)
    have f6 : c9 = s'.heap[q] := by rw [f5] at f2; exact f2
    rw [Array.getElem?_eq_getElem hq, ← f6]
    exact f1
  have hUs : s.WarmedH U.vm := State.WarmedH.trans hW0 hWU
  have hall : s.sameButNew ({ U with vm := s.vm } : State) locs 1 6 := by
    subst hs'
    rw [State.setFrames_setFrames] at e1
    have h2 : (T.setVm s.vm).sameButNew ({ U with vm := s.vm } : State) [] (0 + 1) (0 + 6) := ⟨e1, e2, e3, e4, e5, e6⟩
    have h3 := X.same.trans h2
    rw [List.append_nil] at h3
    exact h3.mono (Nat.le_refl _) (Nat.le_refl _)
  refine ⟨U, ?_, .threw T.heap.size, hrun, hend, T.heap.size, ce, locs, rfl, hce, hO.vm, ?_, ?_, ?_, hUs, hall, hJ.2.2.2.2⟩
  · refine st1 _ ?_
    show Steps p.tables e below (T1.setTop { method := m, pc := pc + 3, locals := ls, stack := .ref T.heap.size :: stk.map (zw_v E.2.2.1), locked := none }) _
    have hcc : (Value.ref T.heap.size).category = 1 := rfl
    jvm_step X₁.here [X₁.here.top, F.1.1.1, d3', Value.category]
    exact X₁.ldcString F.1.1.1 (own := own) (text := text) (index := is) (a := sa) hown' hsa'.1 hsa'.2
      (g := { method := m, pc := pc + 4, locals := ls, stack := .ref T.heap.size :: .ref T.heap.size :: stk.map (zw_v E.2.2.1), locked := none }) rfl d4' _ hsteps
  · have h9 := hO.cls
    rw [hvm] at h9
    exact h9
  · exact hJ.1.kept (fun k q hq => hkeep q.1 (hJ.1 k q hq).lt)
  · refine ⟨Nat.le_trans hJ.2.2.1 (by rw [← hhp]; exact e2), fun q h1 h2 => ?_⟩
    rw [hkeep q (Nat.lt_of_lt_of_le h1 hJ.2.2.1)]
    exact hJ.2.2.2.1 q h1 h2
end ZX
