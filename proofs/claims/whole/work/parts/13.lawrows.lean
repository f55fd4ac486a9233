section ZM
variable {p : Program} {l : Launch} {e : Env} {R : Room} {s : State} {m : MethodId} {args : Array Value} {below : List Frame} {meth : Method} {c : Code} {cc : ByteArray} {own : String} {E : zE} {A : Nat → Prop} {nL kM k pc : Nat} {L : List (Option Value)} {stk : List Value} {st : zS} {T : State} {locs : List Loc} {cells slots : Nat} {Q : State → Prop}
def zw_calW (y : MethodName) (bytes : ByteArray) (maxL : Nat) (ret : Option FieldType) (hh : List (Nat × Nat × Nat × Nat)) (n : Nat) : Prop := Cond.static y ∈ zwAll ∧ Cond.initialized y.cls ∈ zwAll ∧ Cond.codeWith y bytes maxL ret hh ∈ zwAll ∧ y.cls ≠ "java/lang/invoke/MethodHandle" ∧ y.cls ≠ "java/lang/invoke/VarHandle" ∧ (parseMethodDescriptor y.desc).map (fun d => d.parameters.length) = some n
def zl_Y (l : Launch) (s : State) (A : Nat → Prop) (E : zE) (b n : Nat) (xs : Nat → Int32) : Prop := l.stackTraces = false ∧ zx_W s ∧ zx_S zx_ss s ∧ (∀ (a : Nat) (cell : Cell), A a → s.heap[a]? = some cell → cell.vm.isStatics = false) ∧ zh_N s ∧ va_X b n xs s s.heap ∧ b < s.heap.size ∧ ¬ A b ∧ E.2.2.1 57 = b
theorem zh_blind (ss : List (Nat × String)) (E : zE) (av : List Value) (st : zS) (sz : Nat) : FrameBlind (va_Pc av (zh_B ss E st sz)) := fun a U g mk q => by
  obtain ⟨q0, ⟨⟨q1, qP, qK, qD⟩, qW, qS⟩, qN⟩ := q
  refine ⟨q0, ⟨⟨q1, qP, va_K.moved (u := U) (U := U.calling g mk a) (Vm.Alike.refl U.vm) qK, qD⟩, ?_, fun z hz => ?_⟩, zh_N.moved (U := U.calling g mk a) (Vm.Alike.refl U.vm) qN⟩
  · exact zx_move (U := U.calling g mk a) qW (Vm.Alike.refl U.vm) (fun _ _ h _ => h)
  · obtain ⟨sa, hsa⟩ := qS z hz
    exact ⟨sa, vk_R.same (U := U.calling g mk a) rfl hsa⟩
theorem zh_callS {ret0 : Option FieldType} {b n : Nat} {xs : Nat → Int32} (F : zw_X p m c cc nL s args own E kM A meth ret0) (Y : zl_Y l s A E b n xs) {y : MethodName} {bytes : ByteArray} {maxL index : Nat} {ret : Option FieldType} {hh : List (Nat × Nat × Nat × Nat)} {rm : Room} {As rest : List Value} {v : Option Value} {st' : zS} (hM : zh_M zx_ss l y (Cond.codeWith y bytes maxL ret hh :: zwAll) rm E As st v st')
    (hc1 : rm.cells = 1) (hs1 : rm.slots = 6) (hcal : zw_calW y bytes maxL ret hh As.length) (hl : Cond.methodLink own index y ∈ zwAll) (hR : rm.frames + 1 ≤ R.frames ∧ 8 + (maxL + 11) + rm.locals ≤ R.locals)
    (hs : stk = As.reverse ++ rest) (hrm : (rest.map fun v => v.category).sum ≤ 8) (hk : k + 1 ≤ R.cells ∧ 6 * k + 6 ≤ R.slots) (hd : decode cc pc = .ok (.invokestatic index, 3))
    (kk : zw_G p l e R s m args below meth c Q E A nL (k + 1) (pc + 3) L (v.toList ++ rest) st') : zw_G p l e R s m args below meth c Q E A nL k pc L stk st := fun H locs ls hJ hL => by
  obtain ⟨c1, c3, c4, c6, c7, c8⟩ := hcal
  obtain ⟨hst, hW, hS, hA2, hN, -⟩ := Y
  have ht := F.1.1.2.2.2.2
  have hb := F.1.1.2.1
  have hws : ∀ w ∈ (Cond.codeWith y bytes maxL ret hh :: zwAll), ∀ (a' : Array Value) (U : State), s.WarmedH U.vm → w.before a' U = true := fun w hw a' U hWU => by
    rcases List.mem_cons.mp hw with rfl | hw
    · exact word_at hWU (zw_good _ c4) (ht _ c4)
    · exact word_at hWU (zw_good _ hw) (ht _ hw)
  have hcat : (rest.map (zw_v E.2.2.1)).map (fun v => v.category) = rest.map (fun v => v.category) := by
    rw [List.map_map]; exact List.map_congr_left (fun v _ => zw_cat _ v)
  have hK : Back l R p e below s args y 3 8 (PreOf R 1 6 (va_Pc (As.map (zw_v E.2.2.1)) (zh_B zx_ss E st H.size))) (PostOf (zw_Q E v st' (zw_A E H.size)) 1 6 (zw_A E H.size)) :=
    va_backW (hh := hh) (bytes := bytes) (maxL := maxL) (ret := ret) (hM H.size) (zh_blind _ _ _ _ _) hc1 hs1 hR.1 hR.2 hws List.mem_cons_self (fun a' U hWU => word_at hWU (zw_good _ c3) (ht _ c3))
  have hAA : ∀ q, zw_A E H.size q → A q := fun q hq => by
    rcases hq with ⟨i, hi, rfl⟩ | h
    · exact hJ.2.1.2 i _ (zw_get E st hi)
    · exact F.2.1 q (Nat.le_trans hJ.2.2.1 h)
  intro T hT X
  obtain ⟨mk, methM, cM, hnamed, hmethM, -, -, -, -, -, -, hsigM⟩ := Cond.codeWith_spec (ht _ c4)
  have hstatic : methM.isStatic = true := Cond.static_spec hnamed hmethM (ht _ c1)
  obtain ⟨kP, hkP, -⟩ := className_of_methodNamed hnamed
  have hinitP : kP.init = .initialized := Cond.initialized_spec (findClass_of_methodNamed hnamed) hkP (ht _ c3)
  have hlen : (As.map (zw_v E.2.2.1)).length = methM.sig.parameters.length := by
    rw [hsigM] at c8
    rw [List.length_map]
    exact (Option.some.inj c8).symm
  have hstk : (F0 m pc ls (stk.map (zw_v E.2.2.1))).stack = (As.map (zw_v E.2.2.1)).reverse ++ rest.map (zw_v E.2.2.1) := by subst hs; show List.map _ _ = _; simp
  have hdc : decode c.code pc = .ok (.invokestatic index, 3) := by rw [hb]; exact hd
  obtain ⟨vm₁, X₁, hstep₁⟩ := X.invokestatic F.1.1.1 F.1.1.2.2.2.1 (ht _ hl) hnamed hmethM hstatic hkP hinitP ⟨c6, c7⟩ (g := F0 m pc ls (stk.map (zw_v E.2.2.1))) rfl (argsL := As.map (zw_v E.2.2.1)) (rest := rest.map (zw_v E.2.2.1)) hlen hstk hdc
  have hPc : va_Pc (As.map (zw_v E.2.2.1)) (zh_B zx_ss E st H.size) (As.map (zw_v E.2.2.1)).toArray (T.setVm vm₁) := by
    refine ⟨rfl, ⟨⟨by show T.heap.size = _; rw [hT], by show va_P _ _ _ T.heap; rw [hT]; exact hJ.1, va_K.moved X₁.warmed.alike F.1.2.1, ⟨hJ.2.1.1, fun _ _ _ => trivial⟩⟩, ?_, fun z hz => ?_⟩, zh_N.moved (U := T.setVm vm₁) X₁.warmed.alike hN⟩
    · exact zx_move (U := T.setVm vm₁) hW X₁.warmed.alike (fun b cell hc hst => by
        have hna : ¬ A b := fun hab => by rw [hA2 b cell hab hc] at hst; cases hst
        show T.heap[b]? = _
        rw [hT, hJ.2.2.2.1 b (Array.getElem?_eq_some_iff.mp hc).1 hna]; exact hc)
    · obtain ⟨sa, hsa⟩ := hS z hz
      exact ⟨sa, vk_R.warm (U := T.setVm vm₁) X₁.warmed hsa⟩
  obtain ⟨v0, ⟨U', l2, c2, s2⟩, X', ⟨g', mk', t, Lo, e1, e2, ⟨⟨hv, hP⟩, hz, hkq⟩, h1, hLo, h2, h3⟩, hsteps⟩ := hK m meth c ⟨T.setVm vm₁, locs, k, 6 * k⟩ (F0 m pc ls (rest.map (zw_v E.2.2.1))) (.invokestatic index) mk (As.map (zw_v E.2.2.1)).toArray X₁ rfl (hL.1.trans F.1.1.2.2.1.symm) hdc (by
      show 2 * 0 + ((rest.map (zw_v E.2.2.1)).map fun v => v.category).sum ≤ 8
      rw [hcat]; omega) (X₁.named hnamed) ⟨hk.1, hk.2, hPc⟩
  dsimp only [Pt.U, Pt.locs, Pt.cells, Pt.slots] at X' e1 e2 h1 h2 h3 hsteps
  subst h1; subst h2; subst h3
  have hv := Outcome.returned.inj hv
  subst hv
  have hz : H.size ≤ t.heap.size := by rw [← hT]; exact hz
  have hkq : ∀ q : Nat, q < H.size → ¬ zw_A E H.size q → t.heap[q]? = H[q]? := fun q h1 h2 => by
    have h9 := hkq q (by show q < T.heap.size; rw [hT]; exact h1) h2
    rw [h9]; show T.heap[q]? = _; rw [hT]
  have hJ' : zw_J E A s.heap st' U'.heap (locs ++ Lo) := by
    refine ⟨by rw [e1]; exact hP, zw_D _ hJ.2.1, ?_, ?_, ?_⟩
    · rw [e1]; exact Nat.le_trans hJ.2.2.1 hz
    · intro q h1 h2
      rw [e1, hkq q (Nat.lt_of_lt_of_le h1 hJ.2.2.1) (fun z => h2 (hAA q z))]
      exact hJ.2.2.2.1 q h1 h2
    · intro q hq
      rcases List.mem_append.mp hq with h | h
      · exact hJ.2.2.2.2 q h
      · exact hAA _ (hLo q h)
  obtain ⟨t2, a1, b1⟩ := kk U'.heap (locs ++ Lo) ls hJ' hL U' rfl X'
  refine ⟨t2, hstep₁ _ (fun acts => ?_), b1⟩
  rw [doInvoke_state]
  refine hsteps.trans ?_
  have e9 : ((v.map (zw_v E.2.2.1)).toList ++ rest.map (zw_v E.2.2.1)) = (v.toList ++ rest).map (zw_v E.2.2.1) := by cases v <;> simp
  show Steps p.tables e below (U'.setTop { (F0 m pc ls (rest.map (zw_v E.2.2.1))) with pc := pc + 3, stack := (v.map (zw_v E.2.2.1)).toList ++ rest.map (zw_v E.2.2.1) }) t2
  rw [e9]
  exact a1
theorem zl_len {ret0 : Option FieldType} {b n : Nat} {xs : Nat → Int32} (F : zw_X p m c cc nL s args own E kM A meth ret0) (Y : zl_Y l s A E b n xs) (hd : decode cc pc = .ok (.arraylength, 1)) (kk : zw_G p l e R s m args below meth c Q E A nL k (pc + 1) L (.int (Int32.ofNat n) :: stk) st) : zw_G p l e R s m args below meth c Q E A nL k pc L (.ref 57 :: stk) st := fun H locs ls hJ hL => by
  obtain ⟨-, -, -, -, -, hX, hbl, hbA, hb⟩ := Y
  show W _ _ _ _ _ _ _ _ _ _ _ _ _ _ _ (F0 m pc ls (.ref (E.2.2.1 57) :: stk.map (zw_v E.2.2.1)))
  rw [hb]
  exact va_slen F.1.1.1 F.1.1.2.1 hX hbl hbA hJ.2.2 hd (kk H locs ls hJ hL)
theorem zl_ld {ret0 : Option FieldType} {b n : Nat} {xs : Nat → Int32} (F : zw_X p m c cc nL s args own E kM A meth ret0) (Y : zl_Y l s A E b n xs) {i : Int32} (hin : vp_in i n) (hd : decode cc pc = .ok (.iaload, 1)) (kk : zw_G p l e R s m args below meth c Q E A nL k (pc + 1) L (.int (xs i.toNatClampNeg) :: stk) st) : zw_G p l e R s m args below meth c Q E A nL k pc L (.int i :: .ref 57 :: stk) st := fun H locs ls hJ hL => by
  obtain ⟨-, -, -, -, -, hX, hbl, hbA, hb⟩ := Y
  show W _ _ _ _ _ _ _ _ _ _ _ _ _ _ _ (F0 m pc ls (.int i :: .ref (E.2.2.1 57) :: stk.map (zw_v E.2.2.1)))
  rw [hb]
  exact va_sld F.1.1.1 F.1.1.2.1 hX hbl hbA hJ.2.2 hin hd (kk H locs ls hJ hL)
theorem zg_lcmp (F : zw_F p m c cc nL s args own E kM) {x y : Int64} (hd : decode cc pc = .ok (.lcmp, 1)) (kk : zw_G p l e R s m args below meth c Q E A nL k (pc + 1) L (.int (lg_cmp x y) :: stk) st) : zw_G p l e R s m args below meth c Q E A nL k pc L (.long y :: .long x :: stk) st := fun H locs ls hJ hL =>
  W.lcmp F.1.1 F.1.2.1 hd (kk H locs ls hJ hL)
theorem zl_room {k : Nat} (h : k ≤ 700) : k ≤ room_1.cells ∧ 6 * k ≤ room_1.slots := ⟨Nat.le_trans h (Nat.le_of_ble_eq_true rfl), Nat.le_trans (Nat.mul_le_mul_left 6 h) (Nat.le_of_ble_eq_true rfl)⟩
theorem zl_room1 {k : Nat} (h : k + 1 ≤ 700) : k + 1 ≤ room_1.cells ∧ 6 * k + 6 ≤ room_1.slots := ⟨Nat.le_trans h (Nat.le_of_ble_eq_true rfl), Nat.le_trans (show 6 * k + 6 ≤ 4200 by omega) (Nat.le_of_ble_eq_true rfl)⟩
end ZM
