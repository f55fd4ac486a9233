section ZC16
variable {p : Program} {l : Launch} {e : Env} {s : State} {m : MethodId} {below : List Frame} {meth : Method} {c : Code} {E : zE} {b n k : Nat} {xs : Nat → Int32}
def zf_La_law_919 (N n : Nat) (xs : Nat → Int32) (r23 : Int32 → zS → Option Int32) (l4 : Int32) (st : zS) : Option Int32 := r23 (l4 + 4) st
set_option maxHeartbeats 4000000 in
theorem zl_La_law_919 (F : zw_X p m c code 7 s #[Value.ref b] "LiftGroupLaw" E 20 (fun q => s.heap.size ≤ q) meth (some .boolean)) (Y : zl_Y l s (fun q => s.heap.size ≤ q) E b n xs) (hk : k + 1 ≤ 700) {N : Nat}  {r23 : Int32 → zS → Option Int32} (hr23 : ∀ (l4 : Int32) (st : zS) , r23 l4 st = some 1 → zw_G p l e room_1 s m #[Value.ref b] below meth c (lw_Z below #[Value.ref b] s) E (fun q => s.heap.size ≤ q) 7 (k + 1) 23 [some (.ref 57), some (.ref 0), some (.ref 40), some (.ref 56), some (.int l4), none, none] [] st) (l4 : Int32) (st : zS)  (h : zf_La_law_919 N n xs r23 l4 st = some 1) : zw_G p l e room_1 s m #[Value.ref b] below meth c (lw_Z below #[Value.ref b] s) E (fun q => s.heap.size ≤ q) 7 (k + 1) 919 [some (.ref 57), some (.ref 0), some (.ref 40), some (.ref 56), some (.int l4), none, none] [] st := by
  unfold zf_La_law_919 at h
  refine zg_iinc F.1 (l4 + 4) [some (.ref 57), some (.ref 0), some (.ref 40), some (.ref 56), some (.int (l4 + 4)), none, none] zd_La_law_919 rfl (by rw [lit4]) (by decide) rfl ?_
  refine zg_goto F.1 23 zd_La_law_922 rfl ?_
  exact hr23 (l4 + 4) st h
def zf_La_law_233 (N n : Nat) (xs : Nat → Int32) (r23 : Int32 → zS → Option Int32) (l4 : Int32) (st : zS) : Option Int32 := zf_La_law_919 N n xs r23 l4 st
set_option maxHeartbeats 4000000 in
theorem zl_La_law_233 (F : zw_X p m c code 7 s #[Value.ref b] "LiftGroupLaw" E 20 (fun q => s.heap.size ≤ q) meth (some .boolean)) (Y : zl_Y l s (fun q => s.heap.size ≤ q) E b n xs) (hk : k + 1 ≤ 700) {N : Nat}  {r23 : Int32 → zS → Option Int32} (hr23 : ∀ (l4 : Int32) (st : zS) , r23 l4 st = some 1 → zw_G p l e room_1 s m #[Value.ref b] below meth c (lw_Z below #[Value.ref b] s) E (fun q => s.heap.size ≤ q) 7 (k + 1) 23 [some (.ref 57), some (.ref 0), some (.ref 40), some (.ref 56), some (.int l4), none, none] [] st) (l4 : Int32) (st : zS)  (h : zf_La_law_233 N n xs r23 l4 st = some 1) : zw_G p l e room_1 s m #[Value.ref b] below meth c (lw_Z below #[Value.ref b] s) E (fun q => s.heap.size ≤ q) 7 (k + 1) 233 [some (.ref 57), some (.ref 0), some (.ref 40), some (.ref 56), some (.int l4), none, none] [] st := by
  unfold zf_La_law_233 at h
  refine zg_goto F.1 919 zd_La_law_233 rfl ?_
  exact zl_La_law_919 F Y hk hr23 l4 st h
def zf_La_law_319 (N n : Nat) (xs : Nat → Int32) (r23 : Int32 → zS → Option Int32) (l4 : Int32) (l5 : Int32) (s0 : Int32) (s1 : Int32) (st : zS) : Option Int32 := ((zf_Mo_curtain N s1 s0 st).bind fun t319 => ((zf_Mo_thrown N t319).bind fun y323 => (if y323.1 = l5 then zf_La_law_919 N n xs r23 l4 y323.2 else some 0)))
set_option maxHeartbeats 4000000 in
theorem zl_La_law_319 (F : zw_X p m c code 7 s #[Value.ref b] "LiftGroupLaw" E 20 (fun q => s.heap.size ≤ q) meth (some .boolean)) (Y : zl_Y l s (fun q => s.heap.size ≤ q) E b n xs) (hk : k + 1 ≤ 700) {N : Nat}  {r23 : Int32 → zS → Option Int32} (hr23 : ∀ (l4 : Int32) (st : zS) , r23 l4 st = some 1 → zw_G p l e room_1 s m #[Value.ref b] below meth c (lw_Z below #[Value.ref b] s) E (fun q => s.heap.size ≤ q) 7 (k + 1) 23 [some (.ref 57), some (.ref 0), some (.ref 40), some (.ref 56), some (.int l4), none, none] [] st) (l4 : Int32) (l5 : Int32) (s0 : Int32) (s1 : Int32) (st : zS)  (h : zf_La_law_319 N n xs r23 l4 l5 s0 s1 st = some 1) : zw_G p l e room_1 s m #[Value.ref b] below meth c (lw_Z below #[Value.ref b] s) E (fun q => s.heap.size ≤ q) 7 (k + 1) 319 [some (.ref 57), some (.ref 0), some (.ref 40), some (.ref 56), some (.int l4), some (.int l5), none] [.int s0, .int s1, .ref 40] st := by
  unfold zf_La_law_319 at h
  obtain ⟨t319, hc319, h⟩ := Option.bind_eq_some_iff.mp h
  refine zg_callV F (As := [.int s1, .int s0]) (rest := []) (zk_Mo_curtain F.1.2.2 N s1 s0 st hc319) rfl rfl zcal_Mo_curtain zml_La_86 ⟨(Nat.le_of_ble_eq_true rfl), (Nat.le_of_ble_eq_true rfl)⟩ (zg_rec10 F.1 (by decide) rfl) rfl (Nat.le_of_ble_eq_true rfl) (zl_room (k := (k + 1)) (by omega)) zd_La_law_319 ?_
  refine zg_aload_n F.1 zd_La_law_322 rfl rfl ?_
  obtain ⟨y323, hc323, h⟩ := Option.bind_eq_some_iff.mp h
  refine zg_callV F (As := []) (rest := []) (zk_Mo_thrown F.1.2.2 N t319 hc323) rfl rfl zcal_Mo_thrown zml_La_71 ⟨(Nat.le_of_ble_eq_true rfl), (Nat.le_of_ble_eq_true rfl)⟩ (zg_rec10 F.1 (by decide) rfl) rfl (Nat.le_of_ble_eq_true rfl) (zl_room (k := (k + 1)) (by omega)) zd_La_law_323 ?_
  refine zg_iload F.1 zd_La_law_326 rfl ?_
  refine zg_icmp_eq F.1 333 zd_La_law_328 rfl (fun hc => ?_) (fun hc => ?_)
  · rw [if_pos hc] at h
    refine zg_goto F.1 919 zd_La_law_333 rfl ?_
    exact zg_le (zw_les (zw_les (zw_les (zw_les (zw_les (zw_len (zw_les zw_le0))))))) (zl_La_law_919 F Y hk hr23 l4 y323.2 h)
  · rw [if_neg hc] at h
    refine zg_iconst F.1 0 0 (by decide) zd_La_law_331 ?_
    exact absurd h (by decide)
def zf_La_law_293 (N n : Nat) (xs : Nat → Int32) (r23 : Int32 → zS → Option Int32) (l4 : Int32) (s0 : Int32) (s1 : Int32) (st : zS) : Option Int32 := ((zf_La_curtain N s1 s0 st).bind fun y293 => (if (l4 + 1) < 0 ∨ n ≤ (l4 + 1).toNatClampNeg then none else (if (l4 + 2) < 0 ∨ n ≤ (l4 + 2).toNatClampNeg then none else (if (xs (l4 + 2).toNatClampNeg) = 0 then zf_La_law_319 N n xs r23 l4 y293.1 0 (xs (l4 + 1).toNatClampNeg) y293.2 else zf_La_law_319 N n xs r23 l4 y293.1 1 (xs (l4 + 1).toNatClampNeg) y293.2))))
set_option maxHeartbeats 4000000 in
theorem zl_La_law_293 (F : zw_X p m c code 7 s #[Value.ref b] "LiftGroupLaw" E 20 (fun q => s.heap.size ≤ q) meth (some .boolean)) (Y : zl_Y l s (fun q => s.heap.size ≤ q) E b n xs) (hk : k + 1 ≤ 700) {N : Nat}  {r23 : Int32 → zS → Option Int32} (hr23 : ∀ (l4 : Int32) (st : zS) , r23 l4 st = some 1 → zw_G p l e room_1 s m #[Value.ref b] below meth c (lw_Z below #[Value.ref b] s) E (fun q => s.heap.size ≤ q) 7 (k + 1) 23 [some (.ref 57), some (.ref 0), some (.ref 40), some (.ref 56), some (.int l4), none, none] [] st) (l4 : Int32) (s0 : Int32) (s1 : Int32) (st : zS)  (h : zf_La_law_293 N n xs r23 l4 s0 s1 st = some 1) : zw_G p l e room_1 s m #[Value.ref b] below meth c (lw_Z below #[Value.ref b] s) E (fun q => s.heap.size ≤ q) 7 k 293 [some (.ref 57), some (.ref 0), some (.ref 40), some (.ref 56), some (.int l4), none, none] [.int s0, .int s1, .ref 0] st := by
  unfold zf_La_law_293 at h
  obtain ⟨y293, hc293, h⟩ := Option.bind_eq_some_iff.mp h
  refine zh_callS F Y (As := [.ref 0, .int s1, .int s0]) (rest := []) (zh_La_curtain Y.1 F.1.2.2 N s1 s0 st hc293) rfl rfl zcal_La_curtain zml_La_83 ⟨(Nat.le_of_ble_eq_true rfl), (Nat.le_of_ble_eq_true rfl)⟩ rfl (Nat.le_of_ble_eq_true rfl) (zl_room1 hk) zd_La_law_293 ?_
  refine zg_istore F.1 [some (.ref 57), some (.ref 0), some (.ref 40), some (.ref 56), some (.int l4), some (.int y293.1), none] zd_La_law_296 (by decide) rfl ?_
  refine zg_aload_n F.1 zd_La_law_298 rfl rfl ?_
  refine zg_aload_n F.1 zd_La_law_299 rfl rfl ?_
  refine zg_iload F.1 zd_La_law_300 rfl ?_
  refine zg_iconst F.1 1 1 (by decide) zd_La_law_302 ?_
  refine zg_iadd F.1 zd_La_law_303 ?_
  by_cases hi304 : (l4 + 1) < 0 ∨ n ≤ (l4 + 1).toNatClampNeg
  case pos => rw [if_pos hi304] at h; cases h
  rw [if_neg hi304] at h
  refine zl_ld F Y hi304 zd_La_law_304 ?_
  refine zg_aload_n F.1 zd_La_law_305 rfl rfl ?_
  refine zg_iload F.1 zd_La_law_306 rfl ?_
  refine zg_iconst F.1 2 2 (by decide) zd_La_law_308 ?_
  refine zg_iadd F.1 zd_La_law_309 ?_
  by_cases hi310 : (l4 + 2) < 0 ∨ n ≤ (l4 + 2).toNatClampNeg
  case pos => rw [if_pos hi310] at h; cases h
  rw [if_neg hi310] at h
  refine zl_ld F Y hi310 zd_La_law_310 ?_
  refine zg_if_eq F.1 318 zd_La_law_311 rfl (fun hc => ?_) (fun hc => ?_)
  · rw [if_pos hc] at h
    refine zg_iconst F.1 0 0 (by decide) zd_La_law_318 ?_
    exact zl_La_law_319 F Y hk hr23 l4 y293.1 0 (xs (l4 + 1).toNatClampNeg) y293.2 h
  · rw [if_neg hc] at h
    refine zg_iconst F.1 1 1 (by decide) zd_La_law_314 ?_
    refine zg_goto F.1 319 zd_La_law_315 rfl ?_
    exact zl_La_law_319 F Y hk hr23 l4 y293.1 1 (xs (l4 + 1).toNatClampNeg) y293.2 h
def zf_La_law_383 (N n : Nat) (xs : Nat → Int32) (r23 : Int32 → zS → Option Int32) (l4 : Int32) (l5 : Int32) (s0 : Int32) (s1 : Int32) (st : zS) : Option Int32 := ((zf_Mo_lock N s1 s0 st).bind fun t383 => ((zf_Mo_thrown N t383).bind fun y387 => (if y387.1 = l5 then zf_La_law_919 N n xs r23 l4 y387.2 else some 0)))
set_option maxHeartbeats 4000000 in
theorem zl_La_law_383 (F : zw_X p m c code 7 s #[Value.ref b] "LiftGroupLaw" E 20 (fun q => s.heap.size ≤ q) meth (some .boolean)) (Y : zl_Y l s (fun q => s.heap.size ≤ q) E b n xs) (hk : k + 1 ≤ 700) {N : Nat}  {r23 : Int32 → zS → Option Int32} (hr23 : ∀ (l4 : Int32) (st : zS) , r23 l4 st = some 1 → zw_G p l e room_1 s m #[Value.ref b] below meth c (lw_Z below #[Value.ref b] s) E (fun q => s.heap.size ≤ q) 7 (k + 1) 23 [some (.ref 57), some (.ref 0), some (.ref 40), some (.ref 56), some (.int l4), none, none] [] st) (l4 : Int32) (l5 : Int32) (s0 : Int32) (s1 : Int32) (st : zS)  (h : zf_La_law_383 N n xs r23 l4 l5 s0 s1 st = some 1) : zw_G p l e room_1 s m #[Value.ref b] below meth c (lw_Z below #[Value.ref b] s) E (fun q => s.heap.size ≤ q) 7 (k + 1) 383 [some (.ref 57), some (.ref 0), some (.ref 40), some (.ref 56), some (.int l4), some (.int l5), none] [.int s0, .int s1, .ref 40] st := by
  unfold zf_La_law_383 at h
  obtain ⟨t383, hc383, h⟩ := Option.bind_eq_some_iff.mp h
  refine zg_callV F (As := [.int s1, .int s0]) (rest := []) (zk_Mo_lock F.1.2.2 N s1 s0 st hc383) rfl rfl zcal_Mo_lock zml_La_89 ⟨(Nat.le_of_ble_eq_true rfl), (Nat.le_of_ble_eq_true rfl)⟩ (zg_rec10 F.1 (by decide) rfl) rfl (Nat.le_of_ble_eq_true rfl) (zl_room (k := (k + 1)) (by omega)) zd_La_law_383 ?_
  refine zg_aload_n F.1 zd_La_law_386 rfl rfl ?_
  obtain ⟨y387, hc387, h⟩ := Option.bind_eq_some_iff.mp h
  refine zg_callV F (As := []) (rest := []) (zk_Mo_thrown F.1.2.2 N t383 hc387) rfl rfl zcal_Mo_thrown zml_La_71 ⟨(Nat.le_of_ble_eq_true rfl), (Nat.le_of_ble_eq_true rfl)⟩ (zg_rec10 F.1 (by decide) rfl) rfl (Nat.le_of_ble_eq_true rfl) (zl_room (k := (k + 1)) (by omega)) zd_La_law_387 ?_
  refine zg_iload F.1 zd_La_law_390 rfl ?_
  refine zg_icmp_eq F.1 397 zd_La_law_392 rfl (fun hc => ?_) (fun hc => ?_)
  · rw [if_pos hc] at h
    refine zg_goto F.1 919 zd_La_law_397 rfl ?_
    exact zg_le (zw_les (zw_les (zw_les (zw_les (zw_les (zw_len (zw_les zw_le0))))))) (zl_La_law_919 F Y hk hr23 l4 y387.2 h)
  · rw [if_neg hc] at h
    refine zg_iconst F.1 0 0 (by decide) zd_La_law_395 ?_
    exact absurd h (by decide)
def zf_La_law_357 (N n : Nat) (xs : Nat → Int32) (r23 : Int32 → zS → Option Int32) (l4 : Int32) (s0 : Int32) (s1 : Int32) (st : zS) : Option Int32 := ((zf_La_lock N s1 s0 st).bind fun y357 => (if (l4 + 1) < 0 ∨ n ≤ (l4 + 1).toNatClampNeg then none else (if (l4 + 2) < 0 ∨ n ≤ (l4 + 2).toNatClampNeg then none else (if (xs (l4 + 2).toNatClampNeg) = 0 then zf_La_law_383 N n xs r23 l4 y357.1 0 (xs (l4 + 1).toNatClampNeg) y357.2 else zf_La_law_383 N n xs r23 l4 y357.1 1 (xs (l4 + 1).toNatClampNeg) y357.2))))
set_option maxHeartbeats 4000000 in
theorem zl_La_law_357 (F : zw_X p m c code 7 s #[Value.ref b] "LiftGroupLaw" E 20 (fun q => s.heap.size ≤ q) meth (some .boolean)) (Y : zl_Y l s (fun q => s.heap.size ≤ q) E b n xs) (hk : k + 1 ≤ 700) {N : Nat}  {r23 : Int32 → zS → Option Int32} (hr23 : ∀ (l4 : Int32) (st : zS) , r23 l4 st = some 1 → zw_G p l e room_1 s m #[Value.ref b] below meth c (lw_Z below #[Value.ref b] s) E (fun q => s.heap.size ≤ q) 7 (k + 1) 23 [some (.ref 57), some (.ref 0), some (.ref 40), some (.ref 56), some (.int l4), none, none] [] st) (l4 : Int32) (s0 : Int32) (s1 : Int32) (st : zS)  (h : zf_La_law_357 N n xs r23 l4 s0 s1 st = some 1) : zw_G p l e room_1 s m #[Value.ref b] below meth c (lw_Z below #[Value.ref b] s) E (fun q => s.heap.size ≤ q) 7 k 357 [some (.ref 57), some (.ref 0), some (.ref 40), some (.ref 56), some (.int l4), none, none] [.int s0, .int s1, .ref 0] st := by
  unfold zf_La_law_357 at h
  obtain ⟨y357, hc357, h⟩ := Option.bind_eq_some_iff.mp h
  refine zh_callS F Y (As := [.ref 0, .int s1, .int s0]) (rest := []) (zh_La_lock Y.1 F.1.2.2 N s1 s0 st hc357) rfl rfl zcal_La_lock zml_La_87 ⟨(Nat.le_of_ble_eq_true rfl), (Nat.le_of_ble_eq_true rfl)⟩ rfl (Nat.le_of_ble_eq_true rfl) (zl_room1 hk) zd_La_law_357 ?_
  refine zg_istore F.1 [some (.ref 57), some (.ref 0), some (.ref 40), some (.ref 56), some (.int l4), some (.int y357.1), none] zd_La_law_360 (by decide) rfl ?_
  refine zg_aload_n F.1 zd_La_law_362 rfl rfl ?_
  refine zg_aload_n F.1 zd_La_law_363 rfl rfl ?_
  refine zg_iload F.1 zd_La_law_364 rfl ?_
  refine zg_iconst F.1 1 1 (by decide) zd_La_law_366 ?_
  refine zg_iadd F.1 zd_La_law_367 ?_
  by_cases hi368 : (l4 + 1) < 0 ∨ n ≤ (l4 + 1).toNatClampNeg
  case pos => rw [if_pos hi368] at h; cases h
  rw [if_neg hi368] at h
  refine zl_ld F Y hi368 zd_La_law_368 ?_
  refine zg_aload_n F.1 zd_La_law_369 rfl rfl ?_
  refine zg_iload F.1 zd_La_law_370 rfl ?_
  refine zg_iconst F.1 2 2 (by decide) zd_La_law_372 ?_
  refine zg_iadd F.1 zd_La_law_373 ?_
  by_cases hi374 : (l4 + 2) < 0 ∨ n ≤ (l4 + 2).toNatClampNeg
  case pos => rw [if_pos hi374] at h; cases h
  rw [if_neg hi374] at h
  refine zl_ld F Y hi374 zd_La_law_374 ?_
  refine zg_if_eq F.1 382 zd_La_law_375 rfl (fun hc => ?_) (fun hc => ?_)
  · rw [if_pos hc] at h
    refine zg_iconst F.1 0 0 (by decide) zd_La_law_382 ?_
    exact zl_La_law_383 F Y hk hr23 l4 y357.1 0 (xs (l4 + 1).toNatClampNeg) y357.2 h
  · rw [if_neg hc] at h
    refine zg_iconst F.1 1 1 (by decide) zd_La_law_378 ?_
    refine zg_goto F.1 383 zd_La_law_379 rfl ?_
    exact zl_La_law_383 F Y hk hr23 l4 y357.1 1 (xs (l4 + 1).toNatClampNeg) y357.2 h
def zf_La_law_447 (N n : Nat) (xs : Nat → Int32) (r23 : Int32 → zS → Option Int32) (l4 : Int32) (l5 : Int32) (s0 : Int32) (s1 : Int32) (st : zS) : Option Int32 := ((zf_Mo_fail N s1 s0 st).bind fun t447 => ((zf_Mo_thrown N t447).bind fun y451 => (if y451.1 = l5 then zf_La_law_919 N n xs r23 l4 y451.2 else some 0)))
set_option maxHeartbeats 4000000 in
theorem zl_La_law_447 (F : zw_X p m c code 7 s #[Value.ref b] "LiftGroupLaw" E 20 (fun q => s.heap.size ≤ q) meth (some .boolean)) (Y : zl_Y l s (fun q => s.heap.size ≤ q) E b n xs) (hk : k + 1 ≤ 700) {N : Nat}  {r23 : Int32 → zS → Option Int32} (hr23 : ∀ (l4 : Int32) (st : zS) , r23 l4 st = some 1 → zw_G p l e room_1 s m #[Value.ref b] below meth c (lw_Z below #[Value.ref b] s) E (fun q => s.heap.size ≤ q) 7 (k + 1) 23 [some (.ref 57), some (.ref 0), some (.ref 40), some (.ref 56), some (.int l4), none, none] [] st) (l4 : Int32) (l5 : Int32) (s0 : Int32) (s1 : Int32) (st : zS)  (h : zf_La_law_447 N n xs r23 l4 l5 s0 s1 st = some 1) : zw_G p l e room_1 s m #[Value.ref b] below meth c (lw_Z below #[Value.ref b] s) E (fun q => s.heap.size ≤ q) 7 (k + 1) 447 [some (.ref 57), some (.ref 0), some (.ref 40), some (.ref 56), some (.int l4), some (.int l5), none] [.int s0, .int s1, .ref 40] st := by
  unfold zf_La_law_447 at h
  obtain ⟨t447, hc447, h⟩ := Option.bind_eq_some_iff.mp h
  refine zg_callV F (As := [.int s1, .int s0]) (rest := []) (zk_Mo_fail F.1.2.2 N s1 s0 st hc447) rfl rfl zcal_Mo_fail zml_La_92 ⟨(Nat.le_of_ble_eq_true rfl), (Nat.le_of_ble_eq_true rfl)⟩ (zg_rec10 F.1 (by decide) rfl) rfl (Nat.le_of_ble_eq_true rfl) (zl_room (k := (k + 1)) (by omega)) zd_La_law_447 ?_
  refine zg_aload_n F.1 zd_La_law_450 rfl rfl ?_
  obtain ⟨y451, hc451, h⟩ := Option.bind_eq_some_iff.mp h
  refine zg_callV F (As := []) (rest := []) (zk_Mo_thrown F.1.2.2 N t447 hc451) rfl rfl zcal_Mo_thrown zml_La_71 ⟨(Nat.le_of_ble_eq_true rfl), (Nat.le_of_ble_eq_true rfl)⟩ (zg_rec10 F.1 (by decide) rfl) rfl (Nat.le_of_ble_eq_true rfl) (zl_room (k := (k + 1)) (by omega)) zd_La_law_451 ?_
  refine zg_iload F.1 zd_La_law_454 rfl ?_
  refine zg_icmp_eq F.1 461 zd_La_law_456 rfl (fun hc => ?_) (fun hc => ?_)
  · rw [if_pos hc] at h
    refine zg_goto F.1 919 zd_La_law_461 rfl ?_
    exact zg_le (zw_les (zw_les (zw_les (zw_les (zw_les (zw_len (zw_les zw_le0))))))) (zl_La_law_919 F Y hk hr23 l4 y451.2 h)
  · rw [if_neg hc] at h
    refine zg_iconst F.1 0 0 (by decide) zd_La_law_459 ?_
    exact absurd h (by decide)
def zf_La_law_421 (N n : Nat) (xs : Nat → Int32) (r23 : Int32 → zS → Option Int32) (l4 : Int32) (s0 : Int32) (s1 : Int32) (st : zS) : Option Int32 := ((zf_La_fail N s1 s0 st).bind fun y421 => (if (l4 + 1) < 0 ∨ n ≤ (l4 + 1).toNatClampNeg then none else (if (l4 + 2) < 0 ∨ n ≤ (l4 + 2).toNatClampNeg then none else (if (xs (l4 + 2).toNatClampNeg) = 0 then zf_La_law_447 N n xs r23 l4 y421.1 0 (xs (l4 + 1).toNatClampNeg) y421.2 else zf_La_law_447 N n xs r23 l4 y421.1 1 (xs (l4 + 1).toNatClampNeg) y421.2))))
set_option maxHeartbeats 4000000 in
theorem zl_La_law_421 (F : zw_X p m c code 7 s #[Value.ref b] "LiftGroupLaw" E 20 (fun q => s.heap.size ≤ q) meth (some .boolean)) (Y : zl_Y l s (fun q => s.heap.size ≤ q) E b n xs) (hk : k + 1 ≤ 700) {N : Nat}  {r23 : Int32 → zS → Option Int32} (hr23 : ∀ (l4 : Int32) (st : zS) , r23 l4 st = some 1 → zw_G p l e room_1 s m #[Value.ref b] below meth c (lw_Z below #[Value.ref b] s) E (fun q => s.heap.size ≤ q) 7 (k + 1) 23 [some (.ref 57), some (.ref 0), some (.ref 40), some (.ref 56), some (.int l4), none, none] [] st) (l4 : Int32) (s0 : Int32) (s1 : Int32) (st : zS)  (h : zf_La_law_421 N n xs r23 l4 s0 s1 st = some 1) : zw_G p l e room_1 s m #[Value.ref b] below meth c (lw_Z below #[Value.ref b] s) E (fun q => s.heap.size ≤ q) 7 k 421 [some (.ref 57), some (.ref 0), some (.ref 40), some (.ref 56), some (.int l4), none, none] [.int s0, .int s1, .ref 0] st := by
  unfold zf_La_law_421 at h
  obtain ⟨y421, hc421, h⟩ := Option.bind_eq_some_iff.mp h
  refine zh_callS F Y (As := [.ref 0, .int s1, .int s0]) (rest := []) (zh_La_fail Y.1 F.1.2.2 N s1 s0 st hc421) rfl rfl zcal_La_fail zml_La_90 ⟨(Nat.le_of_ble_eq_true rfl), (Nat.le_of_ble_eq_true rfl)⟩ rfl (Nat.le_of_ble_eq_true rfl) (zl_room1 hk) zd_La_law_421 ?_
  refine zg_istore F.1 [some (.ref 57), some (.ref 0), some (.ref 40), some (.ref 56), some (.int l4), some (.int y421.1), none] zd_La_law_424 (by decide) rfl ?_
  refine zg_aload_n F.1 zd_La_law_426 rfl rfl ?_
  refine zg_aload_n F.1 zd_La_law_427 rfl rfl ?_
  refine zg_iload F.1 zd_La_law_428 rfl ?_
  refine zg_iconst F.1 1 1 (by decide) zd_La_law_430 ?_
  refine zg_iadd F.1 zd_La_law_431 ?_
  by_cases hi432 : (l4 + 1) < 0 ∨ n ≤ (l4 + 1).toNatClampNeg
  case pos => rw [if_pos hi432] at h; cases h
  rw [if_neg hi432] at h
  refine zl_ld F Y hi432 zd_La_law_432 ?_
  refine zg_aload_n F.1 zd_La_law_433 rfl rfl ?_
  refine zg_iload F.1 zd_La_law_434 rfl ?_
  refine zg_iconst F.1 2 2 (by decide) zd_La_law_436 ?_
  refine zg_iadd F.1 zd_La_law_437 ?_
  by_cases hi438 : (l4 + 2) < 0 ∨ n ≤ (l4 + 2).toNatClampNeg
  case pos => rw [if_pos hi438] at h; cases h
  rw [if_neg hi438] at h
  refine zl_ld F Y hi438 zd_La_law_438 ?_
  refine zg_if_eq F.1 446 zd_La_law_439 rfl (fun hc => ?_) (fun hc => ?_)
  · rw [if_pos hc] at h
    refine zg_iconst F.1 0 0 (by decide) zd_La_law_446 ?_
    exact zl_La_law_447 F Y hk hr23 l4 y421.1 0 (xs (l4 + 1).toNatClampNeg) y421.2 h
  · rw [if_neg hc] at h
    refine zg_iconst F.1 1 1 (by decide) zd_La_law_442 ?_
    refine zg_goto F.1 447 zd_La_law_443 rfl ?_
    exact zl_La_law_447 F Y hk hr23 l4 y421.1 1 (xs (l4 + 1).toNatClampNeg) y421.2 h
def zf_La_law_497 (N n : Nat) (xs : Nat → Int32) (r23 : Int32 → zS → Option Int32) (l4 : Int32) (s0 : Int32) (st : zS) : Option Int32 := ((zf_Mo_recall N s0 st).bind fun t497 => zf_La_law_919 N n xs r23 l4 t497)
set_option maxHeartbeats 4000000 in
theorem zl_La_law_497 (F : zw_X p m c code 7 s #[Value.ref b] "LiftGroupLaw" E 20 (fun q => s.heap.size ≤ q) meth (some .boolean)) (Y : zl_Y l s (fun q => s.heap.size ≤ q) E b n xs) (hk : k + 1 ≤ 700) {N : Nat}  {r23 : Int32 → zS → Option Int32} (hr23 : ∀ (l4 : Int32) (st : zS) , r23 l4 st = some 1 → zw_G p l e room_1 s m #[Value.ref b] below meth c (lw_Z below #[Value.ref b] s) E (fun q => s.heap.size ≤ q) 7 (k + 1) 23 [some (.ref 57), some (.ref 0), some (.ref 40), some (.ref 56), some (.int l4), none, none] [] st) (l4 : Int32) (s0 : Int32) (st : zS)  (h : zf_La_law_497 N n xs r23 l4 s0 st = some 1) : zw_G p l e room_1 s m #[Value.ref b] below meth c (lw_Z below #[Value.ref b] s) E (fun q => s.heap.size ≤ q) 7 k 497 [some (.ref 57), some (.ref 0), some (.ref 40), some (.ref 56), some (.int l4), none, none] [.int s0, .ref 40] st := by
  unfold zf_La_law_497 at h
  obtain ⟨t497, hc497, h⟩ := Option.bind_eq_some_iff.mp h
  refine zg_callV F (As := [.int s0]) (rest := []) (zk_Mo_recall F.1.2.2 N s0 st hc497) rfl rfl zcal_Mo_recall zml_La_97 ⟨(Nat.le_of_ble_eq_true rfl), (Nat.le_of_ble_eq_true rfl)⟩ (zg_rec10 F.1 (by decide) rfl) rfl (Nat.le_of_ble_eq_true rfl) (zl_room (k := k) (by omega)) zd_La_law_497 ?_
  refine zg_goto F.1 919 zd_La_law_500 rfl ?_
  exact zg_wide (k' := k + 1) (Nat.le_succ _) (zl_La_law_919 F Y hk hr23 l4 t497 h)
def zf_La_law_479 (N n : Nat) (xs : Nat → Int32) (r23 : Int32 → zS → Option Int32) (l4 : Int32) (s0 : Int32) (st : zS) : Option Int32 := ((zf_LG_recall N s0 st).bind fun t479 => (if (l4 + 1) < 0 ∨ n ≤ (l4 + 1).toNatClampNeg then none else (if (xs (l4 + 1).toNatClampNeg) = 0 then zf_La_law_497 N n xs r23 l4 0 t479 else zf_La_law_497 N n xs r23 l4 1 t479)))
set_option maxHeartbeats 4000000 in
theorem zl_La_law_479 (F : zw_X p m c code 7 s #[Value.ref b] "LiftGroupLaw" E 20 (fun q => s.heap.size ≤ q) meth (some .boolean)) (Y : zl_Y l s (fun q => s.heap.size ≤ q) E b n xs) (hk : k + 1 ≤ 700) {N : Nat}  {r23 : Int32 → zS → Option Int32} (hr23 : ∀ (l4 : Int32) (st : zS) , r23 l4 st = some 1 → zw_G p l e room_1 s m #[Value.ref b] below meth c (lw_Z below #[Value.ref b] s) E (fun q => s.heap.size ≤ q) 7 (k + 1) 23 [some (.ref 57), some (.ref 0), some (.ref 40), some (.ref 56), some (.int l4), none, none] [] st) (l4 : Int32) (s0 : Int32) (st : zS)  (h : zf_La_law_479 N n xs r23 l4 s0 st = some 1) : zw_G p l e room_1 s m #[Value.ref b] below meth c (lw_Z below #[Value.ref b] s) E (fun q => s.heap.size ≤ q) 7 k 479 [some (.ref 57), some (.ref 0), some (.ref 40), some (.ref 56), some (.int l4), none, none] [.int s0, .ref 0] st := by
  unfold zf_La_law_479 at h
  obtain ⟨t479, hc479, h⟩ := Option.bind_eq_some_iff.mp h
  refine zg_callV F (As := [.int s0]) (rest := []) (zk_LG_recall (zw_nle (by decide) F.1.2.2) N s0 st hc479) rfl rfl zcal_LG_recall zml_La_93 ⟨(Nat.le_of_ble_eq_true rfl), (Nat.le_of_ble_eq_true rfl)⟩ (zg_rec0 F.1 (by decide) rfl) rfl (Nat.le_of_ble_eq_true rfl) (zl_room (k := k) (by omega)) zd_La_law_479 ?_
  refine zg_aload_n F.1 zd_La_law_482 rfl rfl ?_
  refine zg_aload_n F.1 zd_La_law_483 rfl rfl ?_
  refine zg_iload F.1 zd_La_law_484 rfl ?_
  refine zg_iconst F.1 1 1 (by decide) zd_La_law_486 ?_
  refine zg_iadd F.1 zd_La_law_487 ?_
  by_cases hi488 : (l4 + 1) < 0 ∨ n ≤ (l4 + 1).toNatClampNeg
  case pos => rw [if_pos hi488] at h; cases h
  rw [if_neg hi488] at h
  refine zl_ld F Y hi488 zd_La_law_488 ?_
  refine zg_if_eq F.1 496 zd_La_law_489 rfl (fun hc => ?_) (fun hc => ?_)
  · rw [if_pos hc] at h
    refine zg_iconst F.1 0 0 (by decide) zd_La_law_496 ?_
    exact zl_La_law_497 F Y hk hr23 l4 0 t479 h
  · rw [if_neg hc] at h
    refine zg_iconst F.1 1 1 (by decide) zd_La_law_492 ?_
    refine zg_goto F.1 497 zd_La_law_493 rfl ?_
    exact zl_La_law_497 F Y hk hr23 l4 1 t479 h
def zf_La_law_568 (N n : Nat) (xs : Nat → Int32) (r23 : Int32 → zS → Option Int32) (l4 : Int32) (st : zS) : Option Int32 := zf_La_law_919 N n xs r23 l4 st
set_option maxHeartbeats 4000000 in
theorem zl_La_law_568 (F : zw_X p m c code 7 s #[Value.ref b] "LiftGroupLaw" E 20 (fun q => s.heap.size ≤ q) meth (some .boolean)) (Y : zl_Y l s (fun q => s.heap.size ≤ q) E b n xs) (hk : k + 1 ≤ 700) {N : Nat}  {r23 : Int32 → zS → Option Int32} (hr23 : ∀ (l4 : Int32) (st : zS) , r23 l4 st = some 1 → zw_G p l e room_1 s m #[Value.ref b] below meth c (lw_Z below #[Value.ref b] s) E (fun q => s.heap.size ≤ q) 7 (k + 1) 23 [some (.ref 57), some (.ref 0), some (.ref 40), some (.ref 56), some (.int l4), none, none] [] st) (l4 : Int32) (st : zS)  (h : zf_La_law_568 N n xs r23 l4 st = some 1) : zw_G p l e room_1 s m #[Value.ref b] below meth c (lw_Z below #[Value.ref b] s) E (fun q => s.heap.size ≤ q) 7 (k + 1) 568 [some (.ref 57), some (.ref 0), some (.ref 40), some (.ref 56), some (.int l4), none, none] [] st := by
  unfold zf_La_law_568 at h
  refine zg_goto F.1 919 zd_La_law_568 rfl ?_
  exact zl_La_law_919 F Y hk hr23 l4 st h
def zf_La_law_643 (N n : Nat) (xs : Nat → Int32) (r23 : Int32 → zS → Option Int32) (l4 : Int32) (st : zS) : Option Int32 := zf_La_law_919 N n xs r23 l4 st
set_option maxHeartbeats 4000000 in
theorem zl_La_law_643 (F : zw_X p m c code 7 s #[Value.ref b] "LiftGroupLaw" E 20 (fun q => s.heap.size ≤ q) meth (some .boolean)) (Y : zl_Y l s (fun q => s.heap.size ≤ q) E b n xs) (hk : k + 1 ≤ 700) {N : Nat}  {r23 : Int32 → zS → Option Int32} (hr23 : ∀ (l4 : Int32) (st : zS) , r23 l4 st = some 1 → zw_G p l e room_1 s m #[Value.ref b] below meth c (lw_Z below #[Value.ref b] s) E (fun q => s.heap.size ≤ q) 7 (k + 1) 23 [some (.ref 57), some (.ref 0), some (.ref 40), some (.ref 56), some (.int l4), none, none] [] st) (l4 : Int32) (st : zS)  (h : zf_La_law_643 N n xs r23 l4 st = some 1) : zw_G p l e room_1 s m #[Value.ref b] below meth c (lw_Z below #[Value.ref b] s) E (fun q => s.heap.size ≤ q) 7 (k + 1) 643 [some (.ref 57), some (.ref 0), some (.ref 40), some (.ref 56), some (.int l4), none, none] [] st := by
  unfold zf_La_law_643 at h
  refine zg_goto F.1 919 zd_La_law_643 rfl ?_
  exact zl_La_law_919 F Y hk hr23 l4 st h
def zf_La_law_699 (N n : Nat) (xs : Nat → Int32) (r23 : Int32 → zS → Option Int32) (l4 : Int32) (st : zS) : Option Int32 := zf_La_law_919 N n xs r23 l4 st
set_option maxHeartbeats 4000000 in
theorem zl_La_law_699 (F : zw_X p m c code 7 s #[Value.ref b] "LiftGroupLaw" E 20 (fun q => s.heap.size ≤ q) meth (some .boolean)) (Y : zl_Y l s (fun q => s.heap.size ≤ q) E b n xs) (hk : k + 1 ≤ 700) {N : Nat}  {r23 : Int32 → zS → Option Int32} (hr23 : ∀ (l4 : Int32) (st : zS) , r23 l4 st = some 1 → zw_G p l e room_1 s m #[Value.ref b] below meth c (lw_Z below #[Value.ref b] s) E (fun q => s.heap.size ≤ q) 7 (k + 1) 23 [some (.ref 57), some (.ref 0), some (.ref 40), some (.ref 56), some (.int l4), none, none] [] st) (l4 : Int32) (st : zS)  (h : zf_La_law_699 N n xs r23 l4 st = some 1) : zw_G p l e room_1 s m #[Value.ref b] below meth c (lw_Z below #[Value.ref b] s) E (fun q => s.heap.size ≤ q) 7 (k + 1) 699 [some (.ref 57), some (.ref 0), some (.ref 40), some (.ref 56), some (.int l4), none, none] [] st := by
  unfold zf_La_law_699 at h
  refine zg_goto F.1 919 zd_La_law_699 rfl ?_
  exact zl_La_law_919 F Y hk hr23 l4 st h
def zf_La_law_767 (N n : Nat) (xs : Nat → Int32) (r23 : Int32 → zS → Option Int32) (l4 : Int32) (st : zS) : Option Int32 := zf_La_law_919 N n xs r23 l4 st
set_option maxHeartbeats 4000000 in
theorem zl_La_law_767 (F : zw_X p m c code 7 s #[Value.ref b] "LiftGroupLaw" E 20 (fun q => s.heap.size ≤ q) meth (some .boolean)) (Y : zl_Y l s (fun q => s.heap.size ≤ q) E b n xs) (hk : k + 1 ≤ 700) {N : Nat}  {r23 : Int32 → zS → Option Int32} (hr23 : ∀ (l4 : Int32) (st : zS) , r23 l4 st = some 1 → zw_G p l e room_1 s m #[Value.ref b] below meth c (lw_Z below #[Value.ref b] s) E (fun q => s.heap.size ≤ q) 7 (k + 1) 23 [some (.ref 57), some (.ref 0), some (.ref 40), some (.ref 56), some (.int l4), none, none] [] st) (l4 : Int32) (st : zS)  (h : zf_La_law_767 N n xs r23 l4 st = some 1) : zw_G p l e room_1 s m #[Value.ref b] below meth c (lw_Z below #[Value.ref b] s) E (fun q => s.heap.size ≤ q) 7 (k + 1) 767 [some (.ref 57), some (.ref 0), some (.ref 40), some (.ref 56), some (.int l4), none, none] [] st := by
  unfold zf_La_law_767 at h
  refine zg_goto F.1 919 zd_La_law_767 rfl ?_
  exact zl_La_law_919 F Y hk hr23 l4 st h
def zf_La_law_823 (N n : Nat) (xs : Nat → Int32) (r23 : Int32 → zS → Option Int32) (l4 : Int32) (st : zS) : Option Int32 := zf_La_law_919 N n xs r23 l4 st
set_option maxHeartbeats 4000000 in
theorem zl_La_law_823 (F : zw_X p m c code 7 s #[Value.ref b] "LiftGroupLaw" E 20 (fun q => s.heap.size ≤ q) meth (some .boolean)) (Y : zl_Y l s (fun q => s.heap.size ≤ q) E b n xs) (hk : k + 1 ≤ 700) {N : Nat}  {r23 : Int32 → zS → Option Int32} (hr23 : ∀ (l4 : Int32) (st : zS) , r23 l4 st = some 1 → zw_G p l e room_1 s m #[Value.ref b] below meth c (lw_Z below #[Value.ref b] s) E (fun q => s.heap.size ≤ q) 7 (k + 1) 23 [some (.ref 57), some (.ref 0), some (.ref 40), some (.ref 56), some (.int l4), none, none] [] st) (l4 : Int32) (st : zS)  (h : zf_La_law_823 N n xs r23 l4 st = some 1) : zw_G p l e room_1 s m #[Value.ref b] below meth c (lw_Z below #[Value.ref b] s) E (fun q => s.heap.size ≤ q) 7 (k + 1) 823 [some (.ref 57), some (.ref 0), some (.ref 40), some (.ref 56), some (.int l4), none, none] [] st := by
  unfold zf_La_law_823 at h
  refine zg_goto F.1 919 zd_La_law_823 rfl ?_
  exact zl_La_law_919 F Y hk hr23 l4 st h
def zf_La_law_891 (N n : Nat) (xs : Nat → Int32) (r23 : Int32 → zS → Option Int32) (l4 : Int32) (st : zS) : Option Int32 := zf_La_law_919 N n xs r23 l4 st
set_option maxHeartbeats 4000000 in
theorem zl_La_law_891 (F : zw_X p m c code 7 s #[Value.ref b] "LiftGroupLaw" E 20 (fun q => s.heap.size ≤ q) meth (some .boolean)) (Y : zl_Y l s (fun q => s.heap.size ≤ q) E b n xs) (hk : k + 1 ≤ 700) {N : Nat}  {r23 : Int32 → zS → Option Int32} (hr23 : ∀ (l4 : Int32) (st : zS) , r23 l4 st = some 1 → zw_G p l e room_1 s m #[Value.ref b] below meth c (lw_Z below #[Value.ref b] s) E (fun q => s.heap.size ≤ q) 7 (k + 1) 23 [some (.ref 57), some (.ref 0), some (.ref 40), some (.ref 56), some (.int l4), none, none] [] st) (l4 : Int32) (st : zS)  (h : zf_La_law_891 N n xs r23 l4 st = some 1) : zw_G p l e room_1 s m #[Value.ref b] below meth c (lw_Z below #[Value.ref b] s) E (fun q => s.heap.size ≤ q) 7 (k + 1) 891 [some (.ref 57), some (.ref 0), some (.ref 40), some (.ref 56), some (.int l4), none, none] [] st := by
  unfold zf_La_law_891 at h
  refine zg_goto F.1 919 zd_La_law_891 rfl ?_
  exact zl_La_law_919 F Y hk hr23 l4 st h
def zb_La_law_23 (N n : Nat) (xs : Nat → Int32) (r23 : Int32 → zS → Option Int32) (l4 : Int32) (st : zS) : Option Int32 := (if ((Int32.ofNat n) - 4) < l4 then some 1 else (if l4 < 0 ∨ n ≤ l4.toNatClampNeg then none else (if ((xs l4.toNatClampNeg) &&& 15) = 0 then (if (l4 + 1) < 0 ∨ n ≤ (l4 + 1).toNatClampNeg then none else (if (l4 + 2) < 0 ∨ n ≤ (l4 + 2).toNatClampNeg then none else (if (l4 + 3) < 0 ∨ n ≤ (l4 + 3).toNatClampNeg then none else ((zf_La_building N (xs (l4 + 1).toNatClampNeg) (xs (l4 + 2).toNatClampNeg) (xs (l4 + 3).toNatClampNeg) st).bind fun y127 => (if (l4 + 1) < 0 ∨ n ≤ (l4 + 1).toNatClampNeg then none else (if (l4 + 2) < 0 ∨ n ≤ (l4 + 2).toNatClampNeg then none else (if (l4 + 3) < 0 ∨ n ≤ (l4 + 3).toNatClampNeg then none else ((zf_Mo_building N (xs (l4 + 1).toNatClampNeg) (xs (l4 + 2).toNatClampNeg) (xs (l4 + 3).toNatClampNeg) y127.2).bind fun t151 => ((zf_Mo_thrown N t151).bind fun y155 => (if y155.1 = y127.1 then zf_La_law_919 N n xs r23 l4 y155.2 else some 0)))))))))) else (if ((xs l4.toNatClampNeg) &&& 15) = 1 then (if (l4 + 1) < 0 ∨ n ≤ (l4 + 1).toNatClampNeg then none else (if (l4 + 2) < 0 ∨ n ≤ (l4 + 2).toNatClampNeg then none else ((zf_La_call N (xs (l4 + 1).toNatClampNeg) (xs (l4 + 2).toNatClampNeg) st).bind fun y182 => (if (l4 + 1) < 0 ∨ n ≤ (l4 + 1).toNatClampNeg then none else (if (l4 + 2) < 0 ∨ n ≤ (l4 + 2).toNatClampNeg then none else ((zf_Mo_call N (xs (l4 + 1).toNatClampNeg) (xs (l4 + 2).toNatClampNeg) y182.2).bind fun y200 => ((zf_Mo_thrown N y200.2).bind fun y206 => (if y206.1 = y182.1 then (if y182.1 = 0 then (if (lg_cmp ((y206.2 56 0).toInt64) y200.1.toInt64) = 0 then zf_La_law_233 N n xs r23 l4 y206.2 else some 0) else zf_La_law_233 N n xs r23 l4 y206.2) else some 0)))))))) else (if ((xs l4.toNatClampNeg) &&& 15) = 2 then (if (l4 + 1) < 0 ∨ n ≤ (l4 + 1).toNatClampNeg then none else ((zf_La_step N (xs (l4 + 1).toNatClampNeg) st).bind fun y243 => (if (l4 + 1) < 0 ∨ n ≤ (l4 + 1).toNatClampNeg then none else ((zf_Mo_step N (xs (l4 + 1).toNatClampNeg) y243.2).bind fun t255 => ((zf_Mo_thrown N t255).bind fun y259 => (if y259.1 = y243.1 then zf_La_law_919 N n xs r23 l4 y259.2 else some 0)))))) else (if ((xs l4.toNatClampNeg) &&& 15) = 3 then (if (l4 + 1) < 0 ∨ n ≤ (l4 + 1).toNatClampNeg then none else (if (l4 + 2) < 0 ∨ n ≤ (l4 + 2).toNatClampNeg then none else (if (xs (l4 + 2).toNatClampNeg) = 0 then zf_La_law_293 N n xs r23 l4 0 (xs (l4 + 1).toNatClampNeg) st else zf_La_law_293 N n xs r23 l4 1 (xs (l4 + 1).toNatClampNeg) st))) else (if ((xs l4.toNatClampNeg) &&& 15) = 4 then (if (l4 + 1) < 0 ∨ n ≤ (l4 + 1).toNatClampNeg then none else (if (l4 + 2) < 0 ∨ n ≤ (l4 + 2).toNatClampNeg then none else (if (xs (l4 + 2).toNatClampNeg) = 0 then zf_La_law_357 N n xs r23 l4 0 (xs (l4 + 1).toNatClampNeg) st else zf_La_law_357 N n xs r23 l4 1 (xs (l4 + 1).toNatClampNeg) st))) else (if ((xs l4.toNatClampNeg) &&& 15) = 5 then (if (l4 + 1) < 0 ∨ n ≤ (l4 + 1).toNatClampNeg then none else (if (l4 + 2) < 0 ∨ n ≤ (l4 + 2).toNatClampNeg then none else (if (xs (l4 + 2).toNatClampNeg) = 0 then zf_La_law_421 N n xs r23 l4 0 (xs (l4 + 1).toNatClampNeg) st else zf_La_law_421 N n xs r23 l4 1 (xs (l4 + 1).toNatClampNeg) st))) else (if ((xs l4.toNatClampNeg) &&& 15) = 6 then (if (l4 + 1) < 0 ∨ n ≤ (l4 + 1).toNatClampNeg then none else (if (xs (l4 + 1).toNatClampNeg) = 0 then zf_La_law_479 N n xs r23 l4 0 st else zf_La_law_479 N n xs r23 l4 1 st)) else (if ((xs l4.toNatClampNeg) &&& 15) = 7 then (if (l4 + 1) < 0 ∨ n ≤ (l4 + 1).toNatClampNeg then none else (if (l4 + 2) < 0 ∨ n ≤ (l4 + 2).toNatClampNeg then none else ((zf_La_car N (xs (l4 + 1).toNatClampNeg) (xs (l4 + 2).toNatClampNeg) st).bind fun y517 => (if (l4 + 1) < 0 ∨ n ≤ (l4 + 1).toNatClampNeg then none else (if (l4 + 2) < 0 ∨ n ≤ (l4 + 2).toNatClampNeg then none else ((zf_Mo_car N (xs (l4 + 1).toNatClampNeg) (xs (l4 + 2).toNatClampNeg) y517.2).bind fun y535 => ((zf_Mo_thrown N y535.2).bind fun y541 => (if y541.1 = y517.1 then (if y517.1 = 0 then (if (lg_cmp ((y541.2 56 0).toInt64) y535.1.toInt64) = 0 then zf_La_law_568 N n xs r23 l4 y541.2 else some 0) else zf_La_law_568 N n xs r23 l4 y541.2) else some 0)))))))) else (if ((xs l4.toNatClampNeg) &&& 15) = 8 then (if (l4 + 1) < 0 ∨ n ≤ (l4 + 1).toNatClampNeg then none else (if (l4 + 2) < 0 ∨ n ≤ (l4 + 2).toNatClampNeg then none else ((zf_La_stop N (xs (l4 + 1).toNatClampNeg) (xs (l4 + 2).toNatClampNeg) st).bind fun y585 => (if (l4 + 1) < 0 ∨ n ≤ (l4 + 1).toNatClampNeg then none else (if (l4 + 2) < 0 ∨ n ≤ (l4 + 2).toNatClampNeg then none else ((zf_Mo_stop N (xs (l4 + 1).toNatClampNeg) (xs (l4 + 2).toNatClampNeg) y585.2).bind fun y603 => ((zf_Mo_thrown N y603.2).bind fun y609 => (if y609.1 = y585.1 then (if y585.1 = 0 then (if y603.1 = 0 then (if (lg_cmp ((y609.2 56 0).toInt64) 0) = 0 then zf_La_law_643 N n xs r23 l4 y609.2 else some 0) else (if (lg_cmp ((y609.2 56 0).toInt64) 1) = 0 then zf_La_law_643 N n xs r23 l4 y609.2 else some 0)) else zf_La_law_643 N n xs r23 l4 y609.2) else some 0)))))))) else (if ((xs l4.toNatClampNeg) &&& 15) = 9 then (if (l4 + 1) < 0 ∨ n ≤ (l4 + 1).toNatClampNeg then none else ((zf_La_worst N (xs (l4 + 1).toNatClampNeg) st).bind fun y654 => (if (l4 + 1) < 0 ∨ n ≤ (l4 + 1).toNatClampNeg then none else ((zf_Mo_worst N (xs (l4 + 1).toNatClampNeg) y654.2).bind fun y666 => ((zf_Mo_thrown N y666.2).bind fun y672 => (if y672.1 = y654.1 then (if y654.1 = 0 then (if (lg_cmp ((y672.2 56 0).toInt64) y666.1.toInt64) = 0 then zf_La_law_699 N n xs r23 l4 y672.2 else some 0) else zf_La_law_699 N n xs r23 l4 y672.2) else some 0)))))) else (if ((xs l4.toNatClampNeg) &&& 15) = 10 then (if (l4 + 1) < 0 ∨ n ≤ (l4 + 1).toNatClampNeg then none else (if (l4 + 2) < 0 ∨ n ≤ (l4 + 2).toNatClampNeg then none else ((zf_La_rider N (xs (l4 + 1).toNatClampNeg) (xs (l4 + 2).toNatClampNeg) st).bind fun y716 => (if (l4 + 1) < 0 ∨ n ≤ (l4 + 1).toNatClampNeg then none else (if (l4 + 2) < 0 ∨ n ≤ (l4 + 2).toNatClampNeg then none else ((zf_Mo_rider N (xs (l4 + 1).toNatClampNeg) (xs (l4 + 2).toNatClampNeg) y716.2).bind fun y734 => ((zf_Mo_thrown N y734.2).bind fun y740 => (if y740.1 = y716.1 then (if y716.1 = 0 then (if (lg_cmp ((y740.2 56 0).toInt64) y734.1.toInt64) = 0 then zf_La_law_767 N n xs r23 l4 y740.2 else some 0) else zf_La_law_767 N n xs r23 l4 y740.2) else some 0)))))))) else (if ((xs l4.toNatClampNeg) &&& 15) = 11 then (if (l4 + 1) < 0 ∨ n ≤ (l4 + 1).toNatClampNeg then none else ((zf_La_promise N (xs (l4 + 1).toNatClampNeg) st).bind fun y778 => (if (l4 + 1) < 0 ∨ n ≤ (l4 + 1).toNatClampNeg then none else ((zf_Mo_promise N (xs (l4 + 1).toNatClampNeg) y778.2).bind fun y790 => ((zf_Mo_thrown N y790.2).bind fun y796 => (if y796.1 = y778.1 then (if y778.1 = 0 then (if (lg_cmp ((y796.2 56 0).toInt64) y790.1.toInt64) = 0 then zf_La_law_823 N n xs r23 l4 y796.2 else some 0) else zf_La_law_823 N n xs r23 l4 y796.2) else some 0)))))) else (if ((xs l4.toNatClampNeg) &&& 15) = 12 then (if (l4 + 1) < 0 ∨ n ≤ (l4 + 1).toNatClampNeg then none else (if (l4 + 2) < 0 ∨ n ≤ (l4 + 2).toNatClampNeg then none else ((zf_La_event N (xs (l4 + 1).toNatClampNeg) (xs (l4 + 2).toNatClampNeg) st).bind fun y840 => (if (l4 + 1) < 0 ∨ n ≤ (l4 + 1).toNatClampNeg then none else (if (l4 + 2) < 0 ∨ n ≤ (l4 + 2).toNatClampNeg then none else ((zf_Mo_event N (xs (l4 + 1).toNatClampNeg) (xs (l4 + 2).toNatClampNeg) y840.2).bind fun y858 => ((zf_Mo_thrown N y858.2).bind fun y864 => (if y864.1 = y840.1 then (if y840.1 = 0 then (if (lg_cmp ((y864.2 56 0).toInt64) y858.1.toInt64) = 0 then zf_La_law_891 N n xs r23 l4 y864.2 else some 0) else zf_La_law_891 N n xs r23 l4 y864.2) else some 0)))))))) else (if ((xs l4.toNatClampNeg) &&& 15) = 13 then (if (l4 + 1) < 0 ∨ n ≤ (l4 + 1).toNatClampNeg then none else ((zf_LG_about N (xs (l4 + 1).toNatClampNeg) st).bind fun y901 => (if (l4 + 1) < 0 ∨ n ≤ (l4 + 1).toNatClampNeg then none else ((zf_Mo_about N (xs (l4 + 1).toNatClampNeg) y901.2).bind fun y911 => (if y901.1 = y911.1 then zf_La_law_919 N n xs r23 l4 y911.2 else some 0))))) else zf_La_law_919 N n xs r23 l4 st))))))))))))))))
set_option maxHeartbeats 4000000 in
theorem zlb_La_law_23 (F : zw_X p m c code 7 s #[Value.ref b] "LiftGroupLaw" E 20 (fun q => s.heap.size ≤ q) meth (some .boolean)) (Y : zl_Y l s (fun q => s.heap.size ≤ q) E b n xs) (hk : k + 1 ≤ 700) {N : Nat}  {r23 : Int32 → zS → Option Int32} (hr23 : ∀ (l4 : Int32) (st : zS) , r23 l4 st = some 1 → zw_G p l e room_1 s m #[Value.ref b] below meth c (lw_Z below #[Value.ref b] s) E (fun q => s.heap.size ≤ q) 7 (k + 1) 23 [some (.ref 57), some (.ref 0), some (.ref 40), some (.ref 56), some (.int l4), none, none] [] st) (l4 : Int32) (st : zS)  (h : zb_La_law_23 N n xs r23 l4 st = some 1) : zw_G p l e room_1 s m #[Value.ref b] below meth c (lw_Z below #[Value.ref b] s) E (fun q => s.heap.size ≤ q) 7 k 23 [some (.ref 57), some (.ref 0), some (.ref 40), some (.ref 56), some (.int l4), none, none] [] st := by
  unfold zb_La_law_23 at h
  refine zg_iload F.1 zd_La_law_23 rfl ?_
  refine zg_aload_n F.1 zd_La_law_25 rfl rfl ?_
  refine zl_len F Y zd_La_law_26 ?_
  refine zg_iconst F.1 4 4 (by decide) zd_La_law_27 ?_
  refine zg_isub F.1 zd_La_law_28 ?_
  refine zg_icmp_gt F.1 925 zd_La_law_29 rfl (fun hc => ?_) (fun hc => ?_)
  · rw [if_pos hc] at h
    refine zg_iconst F.1 1 1 (by decide) zd_La_law_925 ?_
    exact zl_ret1 F (by omega) zd_La_law_926
  · rw [if_neg hc] at h
    refine zg_aload_n F.1 zd_La_law_32 rfl rfl ?_
    refine zg_iload F.1 zd_La_law_33 rfl ?_
    by_cases hi35 : l4 < 0 ∨ n ≤ l4.toNatClampNeg
    case pos => rw [if_pos hi35] at h; cases h
    rw [if_neg hi35] at h
    refine zl_ld F Y hi35 zd_La_law_35 ?_
    refine zg_bipush F.1 15 15 (by decide) zd_La_law_36 ?_
    refine zg_iand F.1 zd_La_law_38 ?_
    by_cases hc0 : ((xs l4.toNatClampNeg) &&& 15) = 0
    · rw [if_pos hc0] at h
      refine zg_tabIn F.1 108 zd_La_law_39 (by rw [hc0]; decide) (by rw [hc0]; decide) (by rw [hc0]; rfl) rfl ?_
      refine zg_aload_n F.1 zd_La_law_108 rfl rfl ?_
      refine zg_aload_n F.1 zd_La_law_109 rfl rfl ?_
      refine zg_iload F.1 zd_La_law_110 rfl ?_
      refine zg_iconst F.1 1 1 (by decide) zd_La_law_112 ?_
      refine zg_iadd F.1 zd_La_law_113 ?_
      by_cases hi114 : (l4 + 1) < 0 ∨ n ≤ (l4 + 1).toNatClampNeg
      case pos => rw [if_pos hi114] at h; cases h
      rw [if_neg hi114] at h
      refine zl_ld F Y hi114 zd_La_law_114 ?_
      refine zg_aload_n F.1 zd_La_law_115 rfl rfl ?_
      refine zg_iload F.1 zd_La_law_116 rfl ?_
      refine zg_iconst F.1 2 2 (by decide) zd_La_law_118 ?_
      refine zg_iadd F.1 zd_La_law_119 ?_
      by_cases hi120 : (l4 + 2) < 0 ∨ n ≤ (l4 + 2).toNatClampNeg
      case pos => rw [if_pos hi120] at h; cases h
      rw [if_neg hi120] at h
      refine zl_ld F Y hi120 zd_La_law_120 ?_
      refine zg_aload_n F.1 zd_La_law_121 rfl rfl ?_
      refine zg_iload F.1 zd_La_law_122 rfl ?_
      refine zg_iconst F.1 3 3 (by decide) zd_La_law_124 ?_
      refine zg_iadd F.1 zd_La_law_125 ?_
      by_cases hi126 : (l4 + 3) < 0 ∨ n ≤ (l4 + 3).toNatClampNeg
      case pos => rw [if_pos hi126] at h; cases h
      rw [if_neg hi126] at h
      refine zl_ld F Y hi126 zd_La_law_126 ?_
      obtain ⟨y127, hc127, h⟩ := Option.bind_eq_some_iff.mp h
      refine zh_callS F Y (As := [.ref 0, .int (xs (l4 + 1).toNatClampNeg), .int (xs (l4 + 2).toNatClampNeg), .int (xs (l4 + 3).toNatClampNeg)]) (rest := []) (zh_La_building Y.1 F.1.2.2 N (xs (l4 + 1).toNatClampNeg) (xs (l4 + 2).toNatClampNeg) (xs (l4 + 3).toNatClampNeg) st hc127) rfl rfl zcal_La_building zml_La_65 ⟨(Nat.le_of_ble_eq_true rfl), (Nat.le_of_ble_eq_true rfl)⟩ rfl (Nat.le_of_ble_eq_true rfl) (zl_room1 hk) zd_La_law_127 ?_
      refine zg_istore F.1 [some (.ref 57), some (.ref 0), some (.ref 40), some (.ref 56), some (.int l4), some (.int y127.1), none] zd_La_law_130 (by decide) rfl ?_
      refine zg_aload_n F.1 zd_La_law_132 rfl rfl ?_
      refine zg_aload_n F.1 zd_La_law_133 rfl rfl ?_
      refine zg_iload F.1 zd_La_law_134 rfl ?_
      refine zg_iconst F.1 1 1 (by decide) zd_La_law_136 ?_
      refine zg_iadd F.1 zd_La_law_137 ?_
      by_cases hi138 : (l4 + 1) < 0 ∨ n ≤ (l4 + 1).toNatClampNeg
      case pos => rw [if_pos hi138] at h; cases h
      rw [if_neg hi138] at h
      refine zl_ld F Y hi138 zd_La_law_138 ?_
      refine zg_aload_n F.1 zd_La_law_139 rfl rfl ?_
      refine zg_iload F.1 zd_La_law_140 rfl ?_
      refine zg_iconst F.1 2 2 (by decide) zd_La_law_142 ?_
      refine zg_iadd F.1 zd_La_law_143 ?_
      by_cases hi144 : (l4 + 2) < 0 ∨ n ≤ (l4 + 2).toNatClampNeg
      case pos => rw [if_pos hi144] at h; cases h
      rw [if_neg hi144] at h
      refine zl_ld F Y hi144 zd_La_law_144 ?_
      refine zg_aload_n F.1 zd_La_law_145 rfl rfl ?_
      refine zg_iload F.1 zd_La_law_146 rfl ?_
      refine zg_iconst F.1 3 3 (by decide) zd_La_law_148 ?_
      refine zg_iadd F.1 zd_La_law_149 ?_
      by_cases hi150 : (l4 + 3) < 0 ∨ n ≤ (l4 + 3).toNatClampNeg
      case pos => rw [if_pos hi150] at h; cases h
      rw [if_neg hi150] at h
      refine zl_ld F Y hi150 zd_La_law_150 ?_
      obtain ⟨t151, hc151, h⟩ := Option.bind_eq_some_iff.mp h
      refine zg_callV F (As := [.int (xs (l4 + 1).toNatClampNeg), .int (xs (l4 + 2).toNatClampNeg), .int (xs (l4 + 3).toNatClampNeg)]) (rest := []) (zk_Mo_building F.1.2.2 N (xs (l4 + 1).toNatClampNeg) (xs (l4 + 2).toNatClampNeg) (xs (l4 + 3).toNatClampNeg) y127.2 hc151) rfl rfl zcal_Mo_building zml_La_70 ⟨(Nat.le_of_ble_eq_true rfl), (Nat.le_of_ble_eq_true rfl)⟩ (zg_rec10 F.1 (by decide) rfl) rfl (Nat.le_of_ble_eq_true rfl) (zl_room (k := (k + 1)) (by omega)) zd_La_law_151 ?_
      refine zg_aload_n F.1 zd_La_law_154 rfl rfl ?_
      obtain ⟨y155, hc155, h⟩ := Option.bind_eq_some_iff.mp h
      refine zg_callV F (As := []) (rest := []) (zk_Mo_thrown F.1.2.2 N t151 hc155) rfl rfl zcal_Mo_thrown zml_La_71 ⟨(Nat.le_of_ble_eq_true rfl), (Nat.le_of_ble_eq_true rfl)⟩ (zg_rec10 F.1 (by decide) rfl) rfl (Nat.le_of_ble_eq_true rfl) (zl_room (k := (k + 1)) (by omega)) zd_La_law_155 ?_
      refine zg_iload F.1 zd_La_law_158 rfl ?_
      refine zg_icmp_eq F.1 165 zd_La_law_160 rfl (fun hc => ?_) (fun hc => ?_)
      · rw [if_pos hc] at h
        refine zg_goto F.1 919 zd_La_law_165 rfl ?_
        exact zg_le (zw_les (zw_les (zw_les (zw_les (zw_les (zw_len (zw_les zw_le0))))))) (zl_La_law_919 F Y hk hr23 l4 y155.2 h)
      · rw [if_neg hc] at h
        refine zg_iconst F.1 0 0 (by decide) zd_La_law_163 ?_
        exact absurd h (by decide)
    · rw [if_neg hc0] at h
      by_cases hc1 : ((xs l4.toNatClampNeg) &&& 15) = 1
      · rw [if_pos hc1] at h
        refine zg_tabIn F.1 168 zd_La_law_39 (by rw [hc1]; decide) (by rw [hc1]; decide) (by rw [hc1]; rfl) rfl ?_
        refine zg_aload_n F.1 zd_La_law_168 rfl rfl ?_
        refine zg_aload_n F.1 zd_La_law_169 rfl rfl ?_
        refine zg_iload F.1 zd_La_law_170 rfl ?_
        refine zg_iconst F.1 1 1 (by decide) zd_La_law_172 ?_
        refine zg_iadd F.1 zd_La_law_173 ?_
        by_cases hi174 : (l4 + 1) < 0 ∨ n ≤ (l4 + 1).toNatClampNeg
        case pos => rw [if_pos hi174] at h; cases h
        rw [if_neg hi174] at h
        refine zl_ld F Y hi174 zd_La_law_174 ?_
        refine zg_aload_n F.1 zd_La_law_175 rfl rfl ?_
        refine zg_iload F.1 zd_La_law_176 rfl ?_
        refine zg_iconst F.1 2 2 (by decide) zd_La_law_178 ?_
        refine zg_iadd F.1 zd_La_law_179 ?_
        by_cases hi180 : (l4 + 2) < 0 ∨ n ≤ (l4 + 2).toNatClampNeg
        case pos => rw [if_pos hi180] at h; cases h
        rw [if_neg hi180] at h
        refine zl_ld F Y hi180 zd_La_law_180 ?_
        refine zg_aload_n F.1 zd_La_law_181 rfl rfl ?_
        obtain ⟨y182, hc182, h⟩ := Option.bind_eq_some_iff.mp h
        refine zh_callS F Y (As := [.ref 0, .int (xs (l4 + 1).toNatClampNeg), .int (xs (l4 + 2).toNatClampNeg), .ref 56]) (rest := []) (zh_La_call Y.1 F.1.2.2 N (xs (l4 + 1).toNatClampNeg) (xs (l4 + 2).toNatClampNeg) st hc182) rfl rfl zcal_La_call zml_La_75 ⟨(Nat.le_of_ble_eq_true rfl), (Nat.le_of_ble_eq_true rfl)⟩ rfl (Nat.le_of_ble_eq_true rfl) (zl_room1 hk) zd_La_law_182 ?_
        refine zg_istore F.1 [some (.ref 57), some (.ref 0), some (.ref 40), some (.ref 56), some (.int l4), some (.int y182.1), none] zd_La_law_185 (by decide) rfl ?_
        refine zg_aload_n F.1 zd_La_law_187 rfl rfl ?_
        refine zg_aload_n F.1 zd_La_law_188 rfl rfl ?_
        refine zg_iload F.1 zd_La_law_189 rfl ?_
        refine zg_iconst F.1 1 1 (by decide) zd_La_law_191 ?_
        refine zg_iadd F.1 zd_La_law_192 ?_
        by_cases hi193 : (l4 + 1) < 0 ∨ n ≤ (l4 + 1).toNatClampNeg
        case pos => rw [if_pos hi193] at h; cases h
        rw [if_neg hi193] at h
        refine zl_ld F Y hi193 zd_La_law_193 ?_
        refine zg_aload_n F.1 zd_La_law_194 rfl rfl ?_
        refine zg_iload F.1 zd_La_law_195 rfl ?_
        refine zg_iconst F.1 2 2 (by decide) zd_La_law_197 ?_
        refine zg_iadd F.1 zd_La_law_198 ?_
        by_cases hi199 : (l4 + 2) < 0 ∨ n ≤ (l4 + 2).toNatClampNeg
        case pos => rw [if_pos hi199] at h; cases h
        rw [if_neg hi199] at h
        refine zl_ld F Y hi199 zd_La_law_199 ?_
        obtain ⟨y200, hc200, h⟩ := Option.bind_eq_some_iff.mp h
        refine zg_callV F (As := [.int (xs (l4 + 1).toNatClampNeg), .int (xs (l4 + 2).toNatClampNeg)]) (rest := []) (zk_Mo_call F.1.2.2 N (xs (l4 + 1).toNatClampNeg) (xs (l4 + 2).toNatClampNeg) y182.2 hc200) rfl rfl zcal_Mo_call zml_La_78 ⟨(Nat.le_of_ble_eq_true rfl), (Nat.le_of_ble_eq_true rfl)⟩ (zg_rec10 F.1 (by decide) rfl) rfl (Nat.le_of_ble_eq_true rfl) (zl_room (k := (k + 1)) (by omega)) zd_La_law_200 ?_
        refine zg_istore F.1 [some (.ref 57), some (.ref 0), some (.ref 40), some (.ref 56), some (.int l4), some (.int y182.1), some (.int y200.1)] zd_La_law_203 (by decide) rfl ?_
        refine zg_aload_n F.1 zd_La_law_205 rfl rfl ?_
        obtain ⟨y206, hc206, h⟩ := Option.bind_eq_some_iff.mp h
        refine zg_callV F (As := []) (rest := []) (zk_Mo_thrown F.1.2.2 N y200.2 hc206) rfl rfl zcal_Mo_thrown zml_La_71 ⟨(Nat.le_of_ble_eq_true rfl), (Nat.le_of_ble_eq_true rfl)⟩ (zg_rec10 F.1 (by decide) rfl) rfl (Nat.le_of_ble_eq_true rfl) (zl_room (k := (k + 1)) (by omega)) zd_La_law_206 ?_
        refine zg_iload F.1 zd_La_law_209 rfl ?_
        refine zg_icmp_eq F.1 216 zd_La_law_211 rfl (fun hc => ?_) (fun hc => ?_)
        · rw [if_pos hc] at h
          refine zg_iload F.1 zd_La_law_216 rfl ?_
          refine zg_if_ne F.1 233 zd_La_law_218 rfl (fun hc => ?_) (fun hc => ?_)
          · rw [if_neg hc] at h
            exact zg_le (zw_les (zw_les (zw_les (zw_les (zw_les (zw_len (zw_len zw_le0))))))) (zl_La_law_233 F Y hk hr23 l4 y206.2 h)
          · rw [if_pos hc] at h
            refine zg_aload_n F.1 zd_La_law_221 rfl rfl ?_
            refine zg_iconst F.1 0 0 (by decide) zd_La_law_222 ?_
            refine zg_lald F.1 (by decide) rfl (by unfold vp_in; decide) 0 (by decide) (y206.2 56 0) rfl zd_La_law_223 ?_
            refine zg_iload F.1 zd_La_law_224 rfl ?_
            refine zg_i2l F.1 zd_La_law_226 ?_
            refine zg_lcmp F.1 zd_La_law_227 ?_
            refine zg_if_eq F.1 233 zd_La_law_228 rfl (fun hc => ?_) (fun hc => ?_)
            · rw [if_pos hc] at h
              exact zg_le (zw_les (zw_les (zw_les (zw_les (zw_les (zw_len (zw_len zw_le0))))))) (zl_La_law_233 F Y hk hr23 l4 y206.2 h)
            · rw [if_neg hc] at h
              refine zg_iconst F.1 0 0 (by decide) zd_La_law_231 ?_
              exact absurd h (by decide)
        · rw [if_neg hc] at h
          refine zg_iconst F.1 0 0 (by decide) zd_La_law_214 ?_
          exact absurd h (by decide)
      · rw [if_neg hc1] at h
        by_cases hc2 : ((xs l4.toNatClampNeg) &&& 15) = 2
        · rw [if_pos hc2] at h
          refine zg_tabIn F.1 236 zd_La_law_39 (by rw [hc2]; decide) (by rw [hc2]; decide) (by rw [hc2]; rfl) rfl ?_
          refine zg_aload_n F.1 zd_La_law_236 rfl rfl ?_
          refine zg_aload_n F.1 zd_La_law_237 rfl rfl ?_
          refine zg_iload F.1 zd_La_law_238 rfl ?_
          refine zg_iconst F.1 1 1 (by decide) zd_La_law_240 ?_
          refine zg_iadd F.1 zd_La_law_241 ?_
          by_cases hi242 : (l4 + 1) < 0 ∨ n ≤ (l4 + 1).toNatClampNeg
          case pos => rw [if_pos hi242] at h; cases h
          rw [if_neg hi242] at h
          refine zl_ld F Y hi242 zd_La_law_242 ?_
          obtain ⟨y243, hc243, h⟩ := Option.bind_eq_some_iff.mp h
          refine zh_callS F Y (As := [.ref 0, .int (xs (l4 + 1).toNatClampNeg)]) (rest := []) (zh_La_step Y.1 F.1.2.2 N (xs (l4 + 1).toNatClampNeg) st hc243) rfl rfl zcal_La_step zml_La_79 ⟨(Nat.le_of_ble_eq_true rfl), (Nat.le_of_ble_eq_true rfl)⟩ rfl (Nat.le_of_ble_eq_true rfl) (zl_room1 hk) zd_La_law_243 ?_
          refine zg_istore F.1 [some (.ref 57), some (.ref 0), some (.ref 40), some (.ref 56), some (.int l4), some (.int y243.1), none] zd_La_law_246 (by decide) rfl ?_
          refine zg_aload_n F.1 zd_La_law_248 rfl rfl ?_
          refine zg_aload_n F.1 zd_La_law_249 rfl rfl ?_
          refine zg_iload F.1 zd_La_law_250 rfl ?_
          refine zg_iconst F.1 1 1 (by decide) zd_La_law_252 ?_
          refine zg_iadd F.1 zd_La_law_253 ?_
          by_cases hi254 : (l4 + 1) < 0 ∨ n ≤ (l4 + 1).toNatClampNeg
          case pos => rw [if_pos hi254] at h; cases h
          rw [if_neg hi254] at h
          refine zl_ld F Y hi254 zd_La_law_254 ?_
          obtain ⟨t255, hc255, h⟩ := Option.bind_eq_some_iff.mp h
          refine zg_callV F (As := [.int (xs (l4 + 1).toNatClampNeg)]) (rest := []) (zk_Mo_step F.1.2.2 N (xs (l4 + 1).toNatClampNeg) y243.2 hc255) rfl rfl zcal_Mo_step zml_La_82 ⟨(Nat.le_of_ble_eq_true rfl), (Nat.le_of_ble_eq_true rfl)⟩ (zg_rec10 F.1 (by decide) rfl) rfl (Nat.le_of_ble_eq_true rfl) (zl_room (k := (k + 1)) (by omega)) zd_La_law_255 ?_
          refine zg_aload_n F.1 zd_La_law_258 rfl rfl ?_
          obtain ⟨y259, hc259, h⟩ := Option.bind_eq_some_iff.mp h
          refine zg_callV F (As := []) (rest := []) (zk_Mo_thrown F.1.2.2 N t255 hc259) rfl rfl zcal_Mo_thrown zml_La_71 ⟨(Nat.le_of_ble_eq_true rfl), (Nat.le_of_ble_eq_true rfl)⟩ (zg_rec10 F.1 (by decide) rfl) rfl (Nat.le_of_ble_eq_true rfl) (zl_room (k := (k + 1)) (by omega)) zd_La_law_259 ?_
          refine zg_iload F.1 zd_La_law_262 rfl ?_
          refine zg_icmp_eq F.1 269 zd_La_law_264 rfl (fun hc => ?_) (fun hc => ?_)
          · rw [if_pos hc] at h
            refine zg_goto F.1 919 zd_La_law_269 rfl ?_
            exact zg_le (zw_les (zw_les (zw_les (zw_les (zw_les (zw_len (zw_les zw_le0))))))) (zl_La_law_919 F Y hk hr23 l4 y259.2 h)
          · rw [if_neg hc] at h
            refine zg_iconst F.1 0 0 (by decide) zd_La_law_267 ?_
            exact absurd h (by decide)
        · rw [if_neg hc2] at h
          by_cases hc3 : ((xs l4.toNatClampNeg) &&& 15) = 3
          · rw [if_pos hc3] at h
            refine zg_tabIn F.1 272 zd_La_law_39 (by rw [hc3]; decide) (by rw [hc3]; decide) (by rw [hc3]; rfl) rfl ?_
            refine zg_aload_n F.1 zd_La_law_272 rfl rfl ?_
            refine zg_aload_n F.1 zd_La_law_273 rfl rfl ?_
            refine zg_iload F.1 zd_La_law_274 rfl ?_
            refine zg_iconst F.1 1 1 (by decide) zd_La_law_276 ?_
            refine zg_iadd F.1 zd_La_law_277 ?_
            by_cases hi278 : (l4 + 1) < 0 ∨ n ≤ (l4 + 1).toNatClampNeg
            case pos => rw [if_pos hi278] at h; cases h
            rw [if_neg hi278] at h
            refine zl_ld F Y hi278 zd_La_law_278 ?_
            refine zg_aload_n F.1 zd_La_law_279 rfl rfl ?_
            refine zg_iload F.1 zd_La_law_280 rfl ?_
            refine zg_iconst F.1 2 2 (by decide) zd_La_law_282 ?_
            refine zg_iadd F.1 zd_La_law_283 ?_
            by_cases hi284 : (l4 + 2) < 0 ∨ n ≤ (l4 + 2).toNatClampNeg
            case pos => rw [if_pos hi284] at h; cases h
            rw [if_neg hi284] at h
            refine zl_ld F Y hi284 zd_La_law_284 ?_
            refine zg_if_eq F.1 292 zd_La_law_285 rfl (fun hc => ?_) (fun hc => ?_)
            · rw [if_pos hc] at h
              refine zg_iconst F.1 0 0 (by decide) zd_La_law_292 ?_
              exact zl_La_law_293 F Y hk hr23 l4 0 (xs (l4 + 1).toNatClampNeg) st h
            · rw [if_neg hc] at h
              refine zg_iconst F.1 1 1 (by decide) zd_La_law_288 ?_
              refine zg_goto F.1 293 zd_La_law_289 rfl ?_
              exact zl_La_law_293 F Y hk hr23 l4 1 (xs (l4 + 1).toNatClampNeg) st h
          · rw [if_neg hc3] at h
            by_cases hc4 : ((xs l4.toNatClampNeg) &&& 15) = 4
            · rw [if_pos hc4] at h
              refine zg_tabIn F.1 336 zd_La_law_39 (by rw [hc4]; decide) (by rw [hc4]; decide) (by rw [hc4]; rfl) rfl ?_
              refine zg_aload_n F.1 zd_La_law_336 rfl rfl ?_
              refine zg_aload_n F.1 zd_La_law_337 rfl rfl ?_
              refine zg_iload F.1 zd_La_law_338 rfl ?_
              refine zg_iconst F.1 1 1 (by decide) zd_La_law_340 ?_
              refine zg_iadd F.1 zd_La_law_341 ?_
              by_cases hi342 : (l4 + 1) < 0 ∨ n ≤ (l4 + 1).toNatClampNeg
              case pos => rw [if_pos hi342] at h; cases h
              rw [if_neg hi342] at h
              refine zl_ld F Y hi342 zd_La_law_342 ?_
              refine zg_aload_n F.1 zd_La_law_343 rfl rfl ?_
              refine zg_iload F.1 zd_La_law_344 rfl ?_
              refine zg_iconst F.1 2 2 (by decide) zd_La_law_346 ?_
              refine zg_iadd F.1 zd_La_law_347 ?_
              by_cases hi348 : (l4 + 2) < 0 ∨ n ≤ (l4 + 2).toNatClampNeg
              case pos => rw [if_pos hi348] at h; cases h
              rw [if_neg hi348] at h
              refine zl_ld F Y hi348 zd_La_law_348 ?_
              refine zg_if_eq F.1 356 zd_La_law_349 rfl (fun hc => ?_) (fun hc => ?_)
              · rw [if_pos hc] at h
                refine zg_iconst F.1 0 0 (by decide) zd_La_law_356 ?_
                exact zl_La_law_357 F Y hk hr23 l4 0 (xs (l4 + 1).toNatClampNeg) st h
              · rw [if_neg hc] at h
                refine zg_iconst F.1 1 1 (by decide) zd_La_law_352 ?_
                refine zg_goto F.1 357 zd_La_law_353 rfl ?_
                exact zl_La_law_357 F Y hk hr23 l4 1 (xs (l4 + 1).toNatClampNeg) st h
            · rw [if_neg hc4] at h
              by_cases hc5 : ((xs l4.toNatClampNeg) &&& 15) = 5
              · rw [if_pos hc5] at h
                refine zg_tabIn F.1 400 zd_La_law_39 (by rw [hc5]; decide) (by rw [hc5]; decide) (by rw [hc5]; rfl) rfl ?_
                refine zg_aload_n F.1 zd_La_law_400 rfl rfl ?_
                refine zg_aload_n F.1 zd_La_law_401 rfl rfl ?_
                refine zg_iload F.1 zd_La_law_402 rfl ?_
                refine zg_iconst F.1 1 1 (by decide) zd_La_law_404 ?_
                refine zg_iadd F.1 zd_La_law_405 ?_
                by_cases hi406 : (l4 + 1) < 0 ∨ n ≤ (l4 + 1).toNatClampNeg
                case pos => rw [if_pos hi406] at h; cases h
                rw [if_neg hi406] at h
                refine zl_ld F Y hi406 zd_La_law_406 ?_
                refine zg_aload_n F.1 zd_La_law_407 rfl rfl ?_
                refine zg_iload F.1 zd_La_law_408 rfl ?_
                refine zg_iconst F.1 2 2 (by decide) zd_La_law_410 ?_
                refine zg_iadd F.1 zd_La_law_411 ?_
                by_cases hi412 : (l4 + 2) < 0 ∨ n ≤ (l4 + 2).toNatClampNeg
                case pos => rw [if_pos hi412] at h; cases h
                rw [if_neg hi412] at h
                refine zl_ld F Y hi412 zd_La_law_412 ?_
                refine zg_if_eq F.1 420 zd_La_law_413 rfl (fun hc => ?_) (fun hc => ?_)
                · rw [if_pos hc] at h
                  refine zg_iconst F.1 0 0 (by decide) zd_La_law_420 ?_
                  exact zl_La_law_421 F Y hk hr23 l4 0 (xs (l4 + 1).toNatClampNeg) st h
                · rw [if_neg hc] at h
                  refine zg_iconst F.1 1 1 (by decide) zd_La_law_416 ?_
                  refine zg_goto F.1 421 zd_La_law_417 rfl ?_
                  exact zl_La_law_421 F Y hk hr23 l4 1 (xs (l4 + 1).toNatClampNeg) st h
              · rw [if_neg hc5] at h
                by_cases hc6 : ((xs l4.toNatClampNeg) &&& 15) = 6
                · rw [if_pos hc6] at h
                  refine zg_tabIn F.1 464 zd_La_law_39 (by rw [hc6]; decide) (by rw [hc6]; decide) (by rw [hc6]; rfl) rfl ?_
                  refine zg_aload_n F.1 zd_La_law_464 rfl rfl ?_
                  refine zg_aload_n F.1 zd_La_law_465 rfl rfl ?_
                  refine zg_iload F.1 zd_La_law_466 rfl ?_
                  refine zg_iconst F.1 1 1 (by decide) zd_La_law_468 ?_
                  refine zg_iadd F.1 zd_La_law_469 ?_
                  by_cases hi470 : (l4 + 1) < 0 ∨ n ≤ (l4 + 1).toNatClampNeg
                  case pos => rw [if_pos hi470] at h; cases h
                  rw [if_neg hi470] at h
                  refine zl_ld F Y hi470 zd_La_law_470 ?_
                  refine zg_if_eq F.1 478 zd_La_law_471 rfl (fun hc => ?_) (fun hc => ?_)
                  · rw [if_pos hc] at h
                    refine zg_iconst F.1 0 0 (by decide) zd_La_law_478 ?_
                    exact zl_La_law_479 F Y hk hr23 l4 0 st h
                  · rw [if_neg hc] at h
                    refine zg_iconst F.1 1 1 (by decide) zd_La_law_474 ?_
                    refine zg_goto F.1 479 zd_La_law_475 rfl ?_
                    exact zl_La_law_479 F Y hk hr23 l4 1 st h
                · rw [if_neg hc6] at h
                  by_cases hc7 : ((xs l4.toNatClampNeg) &&& 15) = 7
                  · rw [if_pos hc7] at h
                    refine zg_tabIn F.1 503 zd_La_law_39 (by rw [hc7]; decide) (by rw [hc7]; decide) (by rw [hc7]; rfl) rfl ?_
                    refine zg_aload_n F.1 zd_La_law_503 rfl rfl ?_
                    refine zg_aload_n F.1 zd_La_law_504 rfl rfl ?_
                    refine zg_iload F.1 zd_La_law_505 rfl ?_
                    refine zg_iconst F.1 1 1 (by decide) zd_La_law_507 ?_
                    refine zg_iadd F.1 zd_La_law_508 ?_
                    by_cases hi509 : (l4 + 1) < 0 ∨ n ≤ (l4 + 1).toNatClampNeg
                    case pos => rw [if_pos hi509] at h; cases h
                    rw [if_neg hi509] at h
                    refine zl_ld F Y hi509 zd_La_law_509 ?_
                    refine zg_aload_n F.1 zd_La_law_510 rfl rfl ?_
                    refine zg_iload F.1 zd_La_law_511 rfl ?_
                    refine zg_iconst F.1 2 2 (by decide) zd_La_law_513 ?_
                    refine zg_iadd F.1 zd_La_law_514 ?_
                    by_cases hi515 : (l4 + 2) < 0 ∨ n ≤ (l4 + 2).toNatClampNeg
                    case pos => rw [if_pos hi515] at h; cases h
                    rw [if_neg hi515] at h
                    refine zl_ld F Y hi515 zd_La_law_515 ?_
                    refine zg_aload_n F.1 zd_La_law_516 rfl rfl ?_
                    obtain ⟨y517, hc517, h⟩ := Option.bind_eq_some_iff.mp h
                    refine zh_callS F Y (As := [.ref 0, .int (xs (l4 + 1).toNatClampNeg), .int (xs (l4 + 2).toNatClampNeg), .ref 56]) (rest := []) (zh_La_car Y.1 F.1.2.2 N (xs (l4 + 1).toNatClampNeg) (xs (l4 + 2).toNatClampNeg) st hc517) rfl rfl zcal_La_car zml_La_98 ⟨(Nat.le_of_ble_eq_true rfl), (Nat.le_of_ble_eq_true rfl)⟩ rfl (Nat.le_of_ble_eq_true rfl) (zl_room1 hk) zd_La_law_517 ?_
                    refine zg_istore F.1 [some (.ref 57), some (.ref 0), some (.ref 40), some (.ref 56), some (.int l4), some (.int y517.1), none] zd_La_law_520 (by decide) rfl ?_
                    refine zg_aload_n F.1 zd_La_law_522 rfl rfl ?_
                    refine zg_aload_n F.1 zd_La_law_523 rfl rfl ?_
                    refine zg_iload F.1 zd_La_law_524 rfl ?_
                    refine zg_iconst F.1 1 1 (by decide) zd_La_law_526 ?_
                    refine zg_iadd F.1 zd_La_law_527 ?_
                    by_cases hi528 : (l4 + 1) < 0 ∨ n ≤ (l4 + 1).toNatClampNeg
                    case pos => rw [if_pos hi528] at h; cases h
                    rw [if_neg hi528] at h
                    refine zl_ld F Y hi528 zd_La_law_528 ?_
                    refine zg_aload_n F.1 zd_La_law_529 rfl rfl ?_
                    refine zg_iload F.1 zd_La_law_530 rfl ?_
                    refine zg_iconst F.1 2 2 (by decide) zd_La_law_532 ?_
                    refine zg_iadd F.1 zd_La_law_533 ?_
                    by_cases hi534 : (l4 + 2) < 0 ∨ n ≤ (l4 + 2).toNatClampNeg
                    case pos => rw [if_pos hi534] at h; cases h
                    rw [if_neg hi534] at h
                    refine zl_ld F Y hi534 zd_La_law_534 ?_
                    obtain ⟨y535, hc535, h⟩ := Option.bind_eq_some_iff.mp h
                    refine zg_callV F (As := [.int (xs (l4 + 1).toNatClampNeg), .int (xs (l4 + 2).toNatClampNeg)]) (rest := []) (zk_Mo_car F.1.2.2 N (xs (l4 + 1).toNatClampNeg) (xs (l4 + 2).toNatClampNeg) y517.2 hc535) rfl rfl zcal_Mo_car zml_La_100 ⟨(Nat.le_of_ble_eq_true rfl), (Nat.le_of_ble_eq_true rfl)⟩ (zg_rec10 F.1 (by decide) rfl) rfl (Nat.le_of_ble_eq_true rfl) (zl_room (k := (k + 1)) (by omega)) zd_La_law_535 ?_
                    refine zg_istore F.1 [some (.ref 57), some (.ref 0), some (.ref 40), some (.ref 56), some (.int l4), some (.int y517.1), some (.int y535.1)] zd_La_law_538 (by decide) rfl ?_
                    refine zg_aload_n F.1 zd_La_law_540 rfl rfl ?_
                    obtain ⟨y541, hc541, h⟩ := Option.bind_eq_some_iff.mp h
                    refine zg_callV F (As := []) (rest := []) (zk_Mo_thrown F.1.2.2 N y535.2 hc541) rfl rfl zcal_Mo_thrown zml_La_71 ⟨(Nat.le_of_ble_eq_true rfl), (Nat.le_of_ble_eq_true rfl)⟩ (zg_rec10 F.1 (by decide) rfl) rfl (Nat.le_of_ble_eq_true rfl) (zl_room (k := (k + 1)) (by omega)) zd_La_law_541 ?_
                    refine zg_iload F.1 zd_La_law_544 rfl ?_
                    refine zg_icmp_eq F.1 551 zd_La_law_546 rfl (fun hc => ?_) (fun hc => ?_)
                    · rw [if_pos hc] at h
                      refine zg_iload F.1 zd_La_law_551 rfl ?_
                      refine zg_if_ne F.1 568 zd_La_law_553 rfl (fun hc => ?_) (fun hc => ?_)
                      · rw [if_neg hc] at h
                        exact zg_le (zw_les (zw_les (zw_les (zw_les (zw_les (zw_len (zw_len zw_le0))))))) (zl_La_law_568 F Y hk hr23 l4 y541.2 h)
                      · rw [if_pos hc] at h
                        refine zg_aload_n F.1 zd_La_law_556 rfl rfl ?_
                        refine zg_iconst F.1 0 0 (by decide) zd_La_law_557 ?_
                        refine zg_lald F.1 (by decide) rfl (by unfold vp_in; decide) 0 (by decide) (y541.2 56 0) rfl zd_La_law_558 ?_
                        refine zg_iload F.1 zd_La_law_559 rfl ?_
                        refine zg_i2l F.1 zd_La_law_561 ?_
                        refine zg_lcmp F.1 zd_La_law_562 ?_
                        refine zg_if_eq F.1 568 zd_La_law_563 rfl (fun hc => ?_) (fun hc => ?_)
                        · rw [if_pos hc] at h
                          exact zg_le (zw_les (zw_les (zw_les (zw_les (zw_les (zw_len (zw_len zw_le0))))))) (zl_La_law_568 F Y hk hr23 l4 y541.2 h)
                        · rw [if_neg hc] at h
                          refine zg_iconst F.1 0 0 (by decide) zd_La_law_566 ?_
                          exact absurd h (by decide)
                    · rw [if_neg hc] at h
                      refine zg_iconst F.1 0 0 (by decide) zd_La_law_549 ?_
                      exact absurd h (by decide)
                  · rw [if_neg hc7] at h
                    by_cases hc8 : ((xs l4.toNatClampNeg) &&& 15) = 8
                    · rw [if_pos hc8] at h
                      refine zg_tabIn F.1 571 zd_La_law_39 (by rw [hc8]; decide) (by rw [hc8]; decide) (by rw [hc8]; rfl) rfl ?_
                      refine zg_aload_n F.1 zd_La_law_571 rfl rfl ?_
                      refine zg_aload_n F.1 zd_La_law_572 rfl rfl ?_
                      refine zg_iload F.1 zd_La_law_573 rfl ?_
                      refine zg_iconst F.1 1 1 (by decide) zd_La_law_575 ?_
                      refine zg_iadd F.1 zd_La_law_576 ?_
                      by_cases hi577 : (l4 + 1) < 0 ∨ n ≤ (l4 + 1).toNatClampNeg
                      case pos => rw [if_pos hi577] at h; cases h
                      rw [if_neg hi577] at h
                      refine zl_ld F Y hi577 zd_La_law_577 ?_
                      refine zg_aload_n F.1 zd_La_law_578 rfl rfl ?_
                      refine zg_iload F.1 zd_La_law_579 rfl ?_
                      refine zg_iconst F.1 2 2 (by decide) zd_La_law_581 ?_
                      refine zg_iadd F.1 zd_La_law_582 ?_
                      by_cases hi583 : (l4 + 2) < 0 ∨ n ≤ (l4 + 2).toNatClampNeg
                      case pos => rw [if_pos hi583] at h; cases h
                      rw [if_neg hi583] at h
                      refine zl_ld F Y hi583 zd_La_law_583 ?_
                      refine zg_aload_n F.1 zd_La_law_584 rfl rfl ?_
                      obtain ⟨y585, hc585, h⟩ := Option.bind_eq_some_iff.mp h
                      refine zh_callS F Y (As := [.ref 0, .int (xs (l4 + 1).toNatClampNeg), .int (xs (l4 + 2).toNatClampNeg), .ref 56]) (rest := []) (zh_La_stop Y.1 F.1.2.2 N (xs (l4 + 1).toNatClampNeg) (xs (l4 + 2).toNatClampNeg) st hc585) rfl rfl zcal_La_stop zml_La_101 ⟨(Nat.le_of_ble_eq_true rfl), (Nat.le_of_ble_eq_true rfl)⟩ rfl (Nat.le_of_ble_eq_true rfl) (zl_room1 hk) zd_La_law_585 ?_
                      refine zg_istore F.1 [some (.ref 57), some (.ref 0), some (.ref 40), some (.ref 56), some (.int l4), some (.int y585.1), none] zd_La_law_588 (by decide) rfl ?_
                      refine zg_aload_n F.1 zd_La_law_590 rfl rfl ?_
                      refine zg_aload_n F.1 zd_La_law_591 rfl rfl ?_
                      refine zg_iload F.1 zd_La_law_592 rfl ?_
                      refine zg_iconst F.1 1 1 (by decide) zd_La_law_594 ?_
                      refine zg_iadd F.1 zd_La_law_595 ?_
                      by_cases hi596 : (l4 + 1) < 0 ∨ n ≤ (l4 + 1).toNatClampNeg
                      case pos => rw [if_pos hi596] at h; cases h
                      rw [if_neg hi596] at h
                      refine zl_ld F Y hi596 zd_La_law_596 ?_
                      refine zg_aload_n F.1 zd_La_law_597 rfl rfl ?_
                      refine zg_iload F.1 zd_La_law_598 rfl ?_
                      refine zg_iconst F.1 2 2 (by decide) zd_La_law_600 ?_
                      refine zg_iadd F.1 zd_La_law_601 ?_
                      by_cases hi602 : (l4 + 2) < 0 ∨ n ≤ (l4 + 2).toNatClampNeg
                      case pos => rw [if_pos hi602] at h; cases h
                      rw [if_neg hi602] at h
                      refine zl_ld F Y hi602 zd_La_law_602 ?_
                      obtain ⟨y603, hc603, h⟩ := Option.bind_eq_some_iff.mp h
                      refine zg_callV F (As := [.int (xs (l4 + 1).toNatClampNeg), .int (xs (l4 + 2).toNatClampNeg)]) (rest := []) (zk_Mo_stop F.1.2.2 N (xs (l4 + 1).toNatClampNeg) (xs (l4 + 2).toNatClampNeg) y585.2 hc603) rfl rfl zcal_Mo_stop zml_La_103 ⟨(Nat.le_of_ble_eq_true rfl), (Nat.le_of_ble_eq_true rfl)⟩ (zg_rec10 F.1 (by decide) rfl) rfl (Nat.le_of_ble_eq_true rfl) (zl_room (k := (k + 1)) (by omega)) zd_La_law_603 ?_
                      refine zg_istore F.1 [some (.ref 57), some (.ref 0), some (.ref 40), some (.ref 56), some (.int l4), some (.int y585.1), some (.int y603.1)] zd_La_law_606 (by decide) rfl ?_
                      refine zg_aload_n F.1 zd_La_law_608 rfl rfl ?_
                      obtain ⟨y609, hc609, h⟩ := Option.bind_eq_some_iff.mp h
                      refine zg_callV F (As := []) (rest := []) (zk_Mo_thrown F.1.2.2 N y603.2 hc609) rfl rfl zcal_Mo_thrown zml_La_71 ⟨(Nat.le_of_ble_eq_true rfl), (Nat.le_of_ble_eq_true rfl)⟩ (zg_rec10 F.1 (by decide) rfl) rfl (Nat.le_of_ble_eq_true rfl) (zl_room (k := (k + 1)) (by omega)) zd_La_law_609 ?_
                      refine zg_iload F.1 zd_La_law_612 rfl ?_
                      refine zg_icmp_eq F.1 619 zd_La_law_614 rfl (fun hc => ?_) (fun hc => ?_)
                      · rw [if_pos hc] at h
                        refine zg_iload F.1 zd_La_law_619 rfl ?_
                        refine zg_if_ne F.1 643 zd_La_law_621 rfl (fun hc => ?_) (fun hc => ?_)
                        · rw [if_neg hc] at h
                          exact zg_le (zw_les (zw_les (zw_les (zw_les (zw_les (zw_len (zw_len zw_le0))))))) (zl_La_law_643 F Y hk hr23 l4 y609.2 h)
                        · rw [if_pos hc] at h
                          refine zg_aload_n F.1 zd_La_law_624 rfl rfl ?_
                          refine zg_iconst F.1 0 0 (by decide) zd_La_law_625 ?_
                          refine zg_lald F.1 (by decide) rfl (by unfold vp_in; decide) 0 (by decide) (y609.2 56 0) rfl zd_La_law_626 ?_
                          refine zg_iload F.1 zd_La_law_627 rfl ?_
                          refine zg_if_eq F.1 636 zd_La_law_629 rfl (fun hc => ?_) (fun hc => ?_)
                          · rw [if_pos hc] at h
                            refine zg_lconst F.1 0 0 (by decide) zd_La_law_636 ?_
                            refine zg_lcmp F.1 zd_La_law_637 ?_
                            refine zg_if_eq F.1 643 zd_La_law_638 rfl (fun hc => ?_) (fun hc => ?_)
                            · rw [if_pos hc] at h
                              exact zg_le (zw_les (zw_les (zw_les (zw_les (zw_les (zw_len (zw_len zw_le0))))))) (zl_La_law_643 F Y hk hr23 l4 y609.2 h)
                            · rw [if_neg hc] at h
                              refine zg_iconst F.1 0 0 (by decide) zd_La_law_641 ?_
                              exact absurd h (by decide)
                          · rw [if_neg hc] at h
                            refine zg_lconst F.1 1 1 (by decide) zd_La_law_632 ?_
                            refine zg_goto F.1 637 zd_La_law_633 rfl ?_
                            refine zg_lcmp F.1 zd_La_law_637 ?_
                            refine zg_if_eq F.1 643 zd_La_law_638 rfl (fun hc => ?_) (fun hc => ?_)
                            · rw [if_pos hc] at h
                              exact zg_le (zw_les (zw_les (zw_les (zw_les (zw_les (zw_len (zw_len zw_le0))))))) (zl_La_law_643 F Y hk hr23 l4 y609.2 h)
                            · rw [if_neg hc] at h
                              refine zg_iconst F.1 0 0 (by decide) zd_La_law_641 ?_
                              exact absurd h (by decide)
                      · rw [if_neg hc] at h
                        refine zg_iconst F.1 0 0 (by decide) zd_La_law_617 ?_
                        exact absurd h (by decide)
                    · rw [if_neg hc8] at h
                      by_cases hc9 : ((xs l4.toNatClampNeg) &&& 15) = 9
                      · rw [if_pos hc9] at h
                        refine zg_tabIn F.1 646 zd_La_law_39 (by rw [hc9]; decide) (by rw [hc9]; decide) (by rw [hc9]; rfl) rfl ?_
                        refine zg_aload_n F.1 zd_La_law_646 rfl rfl ?_
                        refine zg_aload_n F.1 zd_La_law_647 rfl rfl ?_
                        refine zg_iload F.1 zd_La_law_648 rfl ?_
                        refine zg_iconst F.1 1 1 (by decide) zd_La_law_650 ?_
                        refine zg_iadd F.1 zd_La_law_651 ?_
                        by_cases hi652 : (l4 + 1) < 0 ∨ n ≤ (l4 + 1).toNatClampNeg
                        case pos => rw [if_pos hi652] at h; cases h
                        rw [if_neg hi652] at h
                        refine zl_ld F Y hi652 zd_La_law_652 ?_
                        refine zg_aload_n F.1 zd_La_law_653 rfl rfl ?_
                        obtain ⟨y654, hc654, h⟩ := Option.bind_eq_some_iff.mp h
                        refine zh_callS F Y (As := [.ref 0, .int (xs (l4 + 1).toNatClampNeg), .ref 56]) (rest := []) (zh_La_worst Y.1 F.1.2.2 N (xs (l4 + 1).toNatClampNeg) st hc654) rfl rfl zcal_La_worst zml_La_104 ⟨(Nat.le_of_ble_eq_true rfl), (Nat.le_of_ble_eq_true rfl)⟩ rfl (Nat.le_of_ble_eq_true rfl) (zl_room1 hk) zd_La_law_654 ?_
                        refine zg_istore F.1 [some (.ref 57), some (.ref 0), some (.ref 40), some (.ref 56), some (.int l4), some (.int y654.1), none] zd_La_law_657 (by decide) rfl ?_
                        refine zg_aload_n F.1 zd_La_law_659 rfl rfl ?_
                        refine zg_aload_n F.1 zd_La_law_660 rfl rfl ?_
                        refine zg_iload F.1 zd_La_law_661 rfl ?_
                        refine zg_iconst F.1 1 1 (by decide) zd_La_law_663 ?_
                        refine zg_iadd F.1 zd_La_law_664 ?_
                        by_cases hi665 : (l4 + 1) < 0 ∨ n ≤ (l4 + 1).toNatClampNeg
                        case pos => rw [if_pos hi665] at h; cases h
                        rw [if_neg hi665] at h
                        refine zl_ld F Y hi665 zd_La_law_665 ?_
                        obtain ⟨y666, hc666, h⟩ := Option.bind_eq_some_iff.mp h
                        refine zg_callV F (As := [.int (xs (l4 + 1).toNatClampNeg)]) (rest := []) (zk_Mo_worst F.1.2.2 N (xs (l4 + 1).toNatClampNeg) y654.2 hc666) rfl rfl zcal_Mo_worst zml_La_107 ⟨(Nat.le_of_ble_eq_true rfl), (Nat.le_of_ble_eq_true rfl)⟩ (zg_rec10 F.1 (by decide) rfl) rfl (Nat.le_of_ble_eq_true rfl) (zl_room (k := (k + 1)) (by omega)) zd_La_law_666 ?_
                        refine zg_istore F.1 [some (.ref 57), some (.ref 0), some (.ref 40), some (.ref 56), some (.int l4), some (.int y654.1), some (.int y666.1)] zd_La_law_669 (by decide) rfl ?_
                        refine zg_aload_n F.1 zd_La_law_671 rfl rfl ?_
                        obtain ⟨y672, hc672, h⟩ := Option.bind_eq_some_iff.mp h
                        refine zg_callV F (As := []) (rest := []) (zk_Mo_thrown F.1.2.2 N y666.2 hc672) rfl rfl zcal_Mo_thrown zml_La_71 ⟨(Nat.le_of_ble_eq_true rfl), (Nat.le_of_ble_eq_true rfl)⟩ (zg_rec10 F.1 (by decide) rfl) rfl (Nat.le_of_ble_eq_true rfl) (zl_room (k := (k + 1)) (by omega)) zd_La_law_672 ?_
                        refine zg_iload F.1 zd_La_law_675 rfl ?_
                        refine zg_icmp_eq F.1 682 zd_La_law_677 rfl (fun hc => ?_) (fun hc => ?_)
                        · rw [if_pos hc] at h
                          refine zg_iload F.1 zd_La_law_682 rfl ?_
                          refine zg_if_ne F.1 699 zd_La_law_684 rfl (fun hc => ?_) (fun hc => ?_)
                          · rw [if_neg hc] at h
                            exact zg_le (zw_les (zw_les (zw_les (zw_les (zw_les (zw_len (zw_len zw_le0))))))) (zl_La_law_699 F Y hk hr23 l4 y672.2 h)
                          · rw [if_pos hc] at h
                            refine zg_aload_n F.1 zd_La_law_687 rfl rfl ?_
                            refine zg_iconst F.1 0 0 (by decide) zd_La_law_688 ?_
                            refine zg_lald F.1 (by decide) rfl (by unfold vp_in; decide) 0 (by decide) (y672.2 56 0) rfl zd_La_law_689 ?_
                            refine zg_iload F.1 zd_La_law_690 rfl ?_
                            refine zg_i2l F.1 zd_La_law_692 ?_
                            refine zg_lcmp F.1 zd_La_law_693 ?_
                            refine zg_if_eq F.1 699 zd_La_law_694 rfl (fun hc => ?_) (fun hc => ?_)
                            · rw [if_pos hc] at h
                              exact zg_le (zw_les (zw_les (zw_les (zw_les (zw_les (zw_len (zw_len zw_le0))))))) (zl_La_law_699 F Y hk hr23 l4 y672.2 h)
                            · rw [if_neg hc] at h
                              refine zg_iconst F.1 0 0 (by decide) zd_La_law_697 ?_
                              exact absurd h (by decide)
                        · rw [if_neg hc] at h
                          refine zg_iconst F.1 0 0 (by decide) zd_La_law_680 ?_
                          exact absurd h (by decide)
                      · rw [if_neg hc9] at h
                        by_cases hc10 : ((xs l4.toNatClampNeg) &&& 15) = 10
                        · rw [if_pos hc10] at h
                          refine zg_tabIn F.1 702 zd_La_law_39 (by rw [hc10]; decide) (by rw [hc10]; decide) (by rw [hc10]; rfl) rfl ?_
                          refine zg_aload_n F.1 zd_La_law_702 rfl rfl ?_
                          refine zg_aload_n F.1 zd_La_law_703 rfl rfl ?_
                          refine zg_iload F.1 zd_La_law_704 rfl ?_
                          refine zg_iconst F.1 1 1 (by decide) zd_La_law_706 ?_
                          refine zg_iadd F.1 zd_La_law_707 ?_
                          by_cases hi708 : (l4 + 1) < 0 ∨ n ≤ (l4 + 1).toNatClampNeg
                          case pos => rw [if_pos hi708] at h; cases h
                          rw [if_neg hi708] at h
                          refine zl_ld F Y hi708 zd_La_law_708 ?_
                          refine zg_aload_n F.1 zd_La_law_709 rfl rfl ?_
                          refine zg_iload F.1 zd_La_law_710 rfl ?_
                          refine zg_iconst F.1 2 2 (by decide) zd_La_law_712 ?_
                          refine zg_iadd F.1 zd_La_law_713 ?_
                          by_cases hi714 : (l4 + 2) < 0 ∨ n ≤ (l4 + 2).toNatClampNeg
                          case pos => rw [if_pos hi714] at h; cases h
                          rw [if_neg hi714] at h
                          refine zl_ld F Y hi714 zd_La_law_714 ?_
                          refine zg_aload_n F.1 zd_La_law_715 rfl rfl ?_
                          obtain ⟨y716, hc716, h⟩ := Option.bind_eq_some_iff.mp h
                          refine zh_callS F Y (As := [.ref 0, .int (xs (l4 + 1).toNatClampNeg), .int (xs (l4 + 2).toNatClampNeg), .ref 56]) (rest := []) (zh_La_rider Y.1 F.1.2.2 N (xs (l4 + 1).toNatClampNeg) (xs (l4 + 2).toNatClampNeg) st hc716) rfl rfl zcal_La_rider zml_La_108 ⟨(Nat.le_of_ble_eq_true rfl), (Nat.le_of_ble_eq_true rfl)⟩ rfl (Nat.le_of_ble_eq_true rfl) (zl_room1 hk) zd_La_law_716 ?_
                          refine zg_istore F.1 [some (.ref 57), some (.ref 0), some (.ref 40), some (.ref 56), some (.int l4), some (.int y716.1), none] zd_La_law_719 (by decide) rfl ?_
                          refine zg_aload_n F.1 zd_La_law_721 rfl rfl ?_
                          refine zg_aload_n F.1 zd_La_law_722 rfl rfl ?_
                          refine zg_iload F.1 zd_La_law_723 rfl ?_
                          refine zg_iconst F.1 1 1 (by decide) zd_La_law_725 ?_
                          refine zg_iadd F.1 zd_La_law_726 ?_
                          by_cases hi727 : (l4 + 1) < 0 ∨ n ≤ (l4 + 1).toNatClampNeg
                          case pos => rw [if_pos hi727] at h; cases h
                          rw [if_neg hi727] at h
                          refine zl_ld F Y hi727 zd_La_law_727 ?_
                          refine zg_aload_n F.1 zd_La_law_728 rfl rfl ?_
                          refine zg_iload F.1 zd_La_law_729 rfl ?_
                          refine zg_iconst F.1 2 2 (by decide) zd_La_law_731 ?_
                          refine zg_iadd F.1 zd_La_law_732 ?_
                          by_cases hi733 : (l4 + 2) < 0 ∨ n ≤ (l4 + 2).toNatClampNeg
                          case pos => rw [if_pos hi733] at h; cases h
                          rw [if_neg hi733] at h
                          refine zl_ld F Y hi733 zd_La_law_733 ?_
                          obtain ⟨y734, hc734, h⟩ := Option.bind_eq_some_iff.mp h
                          refine zg_callV F (As := [.int (xs (l4 + 1).toNatClampNeg), .int (xs (l4 + 2).toNatClampNeg)]) (rest := []) (zk_Mo_rider F.1.2.2 N (xs (l4 + 1).toNatClampNeg) (xs (l4 + 2).toNatClampNeg) y716.2 hc734) rfl rfl zcal_Mo_rider zml_La_110 ⟨(Nat.le_of_ble_eq_true rfl), (Nat.le_of_ble_eq_true rfl)⟩ (zg_rec10 F.1 (by decide) rfl) rfl (Nat.le_of_ble_eq_true rfl) (zl_room (k := (k + 1)) (by omega)) zd_La_law_734 ?_
                          refine zg_istore F.1 [some (.ref 57), some (.ref 0), some (.ref 40), some (.ref 56), some (.int l4), some (.int y716.1), some (.int y734.1)] zd_La_law_737 (by decide) rfl ?_
                          refine zg_aload_n F.1 zd_La_law_739 rfl rfl ?_
                          obtain ⟨y740, hc740, h⟩ := Option.bind_eq_some_iff.mp h
                          refine zg_callV F (As := []) (rest := []) (zk_Mo_thrown F.1.2.2 N y734.2 hc740) rfl rfl zcal_Mo_thrown zml_La_71 ⟨(Nat.le_of_ble_eq_true rfl), (Nat.le_of_ble_eq_true rfl)⟩ (zg_rec10 F.1 (by decide) rfl) rfl (Nat.le_of_ble_eq_true rfl) (zl_room (k := (k + 1)) (by omega)) zd_La_law_740 ?_
                          refine zg_iload F.1 zd_La_law_743 rfl ?_
                          refine zg_icmp_eq F.1 750 zd_La_law_745 rfl (fun hc => ?_) (fun hc => ?_)
                          · rw [if_pos hc] at h
                            refine zg_iload F.1 zd_La_law_750 rfl ?_
                            refine zg_if_ne F.1 767 zd_La_law_752 rfl (fun hc => ?_) (fun hc => ?_)
                            · rw [if_neg hc] at h
                              exact zg_le (zw_les (zw_les (zw_les (zw_les (zw_les (zw_len (zw_len zw_le0))))))) (zl_La_law_767 F Y hk hr23 l4 y740.2 h)
                            · rw [if_pos hc] at h
                              refine zg_aload_n F.1 zd_La_law_755 rfl rfl ?_
                              refine zg_iconst F.1 0 0 (by decide) zd_La_law_756 ?_
                              refine zg_lald F.1 (by decide) rfl (by unfold vp_in; decide) 0 (by decide) (y740.2 56 0) rfl zd_La_law_757 ?_
                              refine zg_iload F.1 zd_La_law_758 rfl ?_
                              refine zg_i2l F.1 zd_La_law_760 ?_
                              refine zg_lcmp F.1 zd_La_law_761 ?_
                              refine zg_if_eq F.1 767 zd_La_law_762 rfl (fun hc => ?_) (fun hc => ?_)
                              · rw [if_pos hc] at h
                                exact zg_le (zw_les (zw_les (zw_les (zw_les (zw_les (zw_len (zw_len zw_le0))))))) (zl_La_law_767 F Y hk hr23 l4 y740.2 h)
                              · rw [if_neg hc] at h
                                refine zg_iconst F.1 0 0 (by decide) zd_La_law_765 ?_
                                exact absurd h (by decide)
                          · rw [if_neg hc] at h
                            refine zg_iconst F.1 0 0 (by decide) zd_La_law_748 ?_
                            exact absurd h (by decide)
                        · rw [if_neg hc10] at h
                          by_cases hc11 : ((xs l4.toNatClampNeg) &&& 15) = 11
                          · rw [if_pos hc11] at h
                            refine zg_tabIn F.1 770 zd_La_law_39 (by rw [hc11]; decide) (by rw [hc11]; decide) (by rw [hc11]; rfl) rfl ?_
                            refine zg_aload_n F.1 zd_La_law_770 rfl rfl ?_
                            refine zg_aload_n F.1 zd_La_law_771 rfl rfl ?_
                            refine zg_iload F.1 zd_La_law_772 rfl ?_
                            refine zg_iconst F.1 1 1 (by decide) zd_La_law_774 ?_
                            refine zg_iadd F.1 zd_La_law_775 ?_
                            by_cases hi776 : (l4 + 1) < 0 ∨ n ≤ (l4 + 1).toNatClampNeg
                            case pos => rw [if_pos hi776] at h; cases h
                            rw [if_neg hi776] at h
                            refine zl_ld F Y hi776 zd_La_law_776 ?_
                            refine zg_aload_n F.1 zd_La_law_777 rfl rfl ?_
                            obtain ⟨y778, hc778, h⟩ := Option.bind_eq_some_iff.mp h
                            refine zh_callS F Y (As := [.ref 0, .int (xs (l4 + 1).toNatClampNeg), .ref 56]) (rest := []) (zh_La_promise Y.1 F.1.2.2 N (xs (l4 + 1).toNatClampNeg) st hc778) rfl rfl zcal_La_promise zml_La_111 ⟨(Nat.le_of_ble_eq_true rfl), (Nat.le_of_ble_eq_true rfl)⟩ rfl (Nat.le_of_ble_eq_true rfl) (zl_room1 hk) zd_La_law_778 ?_
                            refine zg_istore F.1 [some (.ref 57), some (.ref 0), some (.ref 40), some (.ref 56), some (.int l4), some (.int y778.1), none] zd_La_law_781 (by decide) rfl ?_
                            refine zg_aload_n F.1 zd_La_law_783 rfl rfl ?_
                            refine zg_aload_n F.1 zd_La_law_784 rfl rfl ?_
                            refine zg_iload F.1 zd_La_law_785 rfl ?_
                            refine zg_iconst F.1 1 1 (by decide) zd_La_law_787 ?_
                            refine zg_iadd F.1 zd_La_law_788 ?_
                            by_cases hi789 : (l4 + 1) < 0 ∨ n ≤ (l4 + 1).toNatClampNeg
                            case pos => rw [if_pos hi789] at h; cases h
                            rw [if_neg hi789] at h
                            refine zl_ld F Y hi789 zd_La_law_789 ?_
                            obtain ⟨y790, hc790, h⟩ := Option.bind_eq_some_iff.mp h
                            refine zg_callV F (As := [.int (xs (l4 + 1).toNatClampNeg)]) (rest := []) (zk_Mo_promise F.1.2.2 N (xs (l4 + 1).toNatClampNeg) y778.2 hc790) rfl rfl zcal_Mo_promise zml_La_113 ⟨(Nat.le_of_ble_eq_true rfl), (Nat.le_of_ble_eq_true rfl)⟩ (zg_rec10 F.1 (by decide) rfl) rfl (Nat.le_of_ble_eq_true rfl) (zl_room (k := (k + 1)) (by omega)) zd_La_law_790 ?_
                            refine zg_istore F.1 [some (.ref 57), some (.ref 0), some (.ref 40), some (.ref 56), some (.int l4), some (.int y778.1), some (.int y790.1)] zd_La_law_793 (by decide) rfl ?_
                            refine zg_aload_n F.1 zd_La_law_795 rfl rfl ?_
                            obtain ⟨y796, hc796, h⟩ := Option.bind_eq_some_iff.mp h
                            refine zg_callV F (As := []) (rest := []) (zk_Mo_thrown F.1.2.2 N y790.2 hc796) rfl rfl zcal_Mo_thrown zml_La_71 ⟨(Nat.le_of_ble_eq_true rfl), (Nat.le_of_ble_eq_true rfl)⟩ (zg_rec10 F.1 (by decide) rfl) rfl (Nat.le_of_ble_eq_true rfl) (zl_room (k := (k + 1)) (by omega)) zd_La_law_796 ?_
                            refine zg_iload F.1 zd_La_law_799 rfl ?_
                            refine zg_icmp_eq F.1 806 zd_La_law_801 rfl (fun hc => ?_) (fun hc => ?_)
                            · rw [if_pos hc] at h
                              refine zg_iload F.1 zd_La_law_806 rfl ?_
                              refine zg_if_ne F.1 823 zd_La_law_808 rfl (fun hc => ?_) (fun hc => ?_)
                              · rw [if_neg hc] at h
                                exact zg_le (zw_les (zw_les (zw_les (zw_les (zw_les (zw_len (zw_len zw_le0))))))) (zl_La_law_823 F Y hk hr23 l4 y796.2 h)
                              · rw [if_pos hc] at h
                                refine zg_aload_n F.1 zd_La_law_811 rfl rfl ?_
                                refine zg_iconst F.1 0 0 (by decide) zd_La_law_812 ?_
                                refine zg_lald F.1 (by decide) rfl (by unfold vp_in; decide) 0 (by decide) (y796.2 56 0) rfl zd_La_law_813 ?_
                                refine zg_iload F.1 zd_La_law_814 rfl ?_
                                refine zg_i2l F.1 zd_La_law_816 ?_
                                refine zg_lcmp F.1 zd_La_law_817 ?_
                                refine zg_if_eq F.1 823 zd_La_law_818 rfl (fun hc => ?_) (fun hc => ?_)
                                · rw [if_pos hc] at h
                                  exact zg_le (zw_les (zw_les (zw_les (zw_les (zw_les (zw_len (zw_len zw_le0))))))) (zl_La_law_823 F Y hk hr23 l4 y796.2 h)
                                · rw [if_neg hc] at h
                                  refine zg_iconst F.1 0 0 (by decide) zd_La_law_821 ?_
                                  exact absurd h (by decide)
                            · rw [if_neg hc] at h
                              refine zg_iconst F.1 0 0 (by decide) zd_La_law_804 ?_
                              exact absurd h (by decide)
                          · rw [if_neg hc11] at h
                            by_cases hc12 : ((xs l4.toNatClampNeg) &&& 15) = 12
                            · rw [if_pos hc12] at h
                              refine zg_tabIn F.1 826 zd_La_law_39 (by rw [hc12]; decide) (by rw [hc12]; decide) (by rw [hc12]; rfl) rfl ?_
                              refine zg_aload_n F.1 zd_La_law_826 rfl rfl ?_
                              refine zg_aload_n F.1 zd_La_law_827 rfl rfl ?_
                              refine zg_iload F.1 zd_La_law_828 rfl ?_
                              refine zg_iconst F.1 1 1 (by decide) zd_La_law_830 ?_
                              refine zg_iadd F.1 zd_La_law_831 ?_
                              by_cases hi832 : (l4 + 1) < 0 ∨ n ≤ (l4 + 1).toNatClampNeg
                              case pos => rw [if_pos hi832] at h; cases h
                              rw [if_neg hi832] at h
                              refine zl_ld F Y hi832 zd_La_law_832 ?_
                              refine zg_aload_n F.1 zd_La_law_833 rfl rfl ?_
                              refine zg_iload F.1 zd_La_law_834 rfl ?_
                              refine zg_iconst F.1 2 2 (by decide) zd_La_law_836 ?_
                              refine zg_iadd F.1 zd_La_law_837 ?_
                              by_cases hi838 : (l4 + 2) < 0 ∨ n ≤ (l4 + 2).toNatClampNeg
                              case pos => rw [if_pos hi838] at h; cases h
                              rw [if_neg hi838] at h
                              refine zl_ld F Y hi838 zd_La_law_838 ?_
                              refine zg_aload_n F.1 zd_La_law_839 rfl rfl ?_
                              obtain ⟨y840, hc840, h⟩ := Option.bind_eq_some_iff.mp h
                              refine zh_callS F Y (As := [.ref 0, .int (xs (l4 + 1).toNatClampNeg), .int (xs (l4 + 2).toNatClampNeg), .ref 56]) (rest := []) (zh_La_event Y.1 F.1.2.2 N (xs (l4 + 1).toNatClampNeg) (xs (l4 + 2).toNatClampNeg) st hc840) rfl rfl zcal_La_event zml_La_114 ⟨(Nat.le_of_ble_eq_true rfl), (Nat.le_of_ble_eq_true rfl)⟩ rfl (Nat.le_of_ble_eq_true rfl) (zl_room1 hk) zd_La_law_840 ?_
                              refine zg_istore F.1 [some (.ref 57), some (.ref 0), some (.ref 40), some (.ref 56), some (.int l4), some (.int y840.1), none] zd_La_law_843 (by decide) rfl ?_
                              refine zg_aload_n F.1 zd_La_law_845 rfl rfl ?_
                              refine zg_aload_n F.1 zd_La_law_846 rfl rfl ?_
                              refine zg_iload F.1 zd_La_law_847 rfl ?_
                              refine zg_iconst F.1 1 1 (by decide) zd_La_law_849 ?_
                              refine zg_iadd F.1 zd_La_law_850 ?_
                              by_cases hi851 : (l4 + 1) < 0 ∨ n ≤ (l4 + 1).toNatClampNeg
                              case pos => rw [if_pos hi851] at h; cases h
                              rw [if_neg hi851] at h
                              refine zl_ld F Y hi851 zd_La_law_851 ?_
                              refine zg_aload_n F.1 zd_La_law_852 rfl rfl ?_
                              refine zg_iload F.1 zd_La_law_853 rfl ?_
                              refine zg_iconst F.1 2 2 (by decide) zd_La_law_855 ?_
                              refine zg_iadd F.1 zd_La_law_856 ?_
                              by_cases hi857 : (l4 + 2) < 0 ∨ n ≤ (l4 + 2).toNatClampNeg
                              case pos => rw [if_pos hi857] at h; cases h
                              rw [if_neg hi857] at h
                              refine zl_ld F Y hi857 zd_La_law_857 ?_
                              obtain ⟨y858, hc858, h⟩ := Option.bind_eq_some_iff.mp h
                              refine zg_callV F (As := [.int (xs (l4 + 1).toNatClampNeg), .int (xs (l4 + 2).toNatClampNeg)]) (rest := []) (zk_Mo_event F.1.2.2 N (xs (l4 + 1).toNatClampNeg) (xs (l4 + 2).toNatClampNeg) y840.2 hc858) rfl rfl zcal_Mo_event zml_La_116 ⟨(Nat.le_of_ble_eq_true rfl), (Nat.le_of_ble_eq_true rfl)⟩ (zg_rec10 F.1 (by decide) rfl) rfl (Nat.le_of_ble_eq_true rfl) (zl_room (k := (k + 1)) (by omega)) zd_La_law_858 ?_
                              refine zg_istore F.1 [some (.ref 57), some (.ref 0), some (.ref 40), some (.ref 56), some (.int l4), some (.int y840.1), some (.int y858.1)] zd_La_law_861 (by decide) rfl ?_
                              refine zg_aload_n F.1 zd_La_law_863 rfl rfl ?_
                              obtain ⟨y864, hc864, h⟩ := Option.bind_eq_some_iff.mp h
                              refine zg_callV F (As := []) (rest := []) (zk_Mo_thrown F.1.2.2 N y858.2 hc864) rfl rfl zcal_Mo_thrown zml_La_71 ⟨(Nat.le_of_ble_eq_true rfl), (Nat.le_of_ble_eq_true rfl)⟩ (zg_rec10 F.1 (by decide) rfl) rfl (Nat.le_of_ble_eq_true rfl) (zl_room (k := (k + 1)) (by omega)) zd_La_law_864 ?_
                              refine zg_iload F.1 zd_La_law_867 rfl ?_
                              refine zg_icmp_eq F.1 874 zd_La_law_869 rfl (fun hc => ?_) (fun hc => ?_)
                              · rw [if_pos hc] at h
                                refine zg_iload F.1 zd_La_law_874 rfl ?_
                                refine zg_if_ne F.1 891 zd_La_law_876 rfl (fun hc => ?_) (fun hc => ?_)
                                · rw [if_neg hc] at h
                                  exact zg_le (zw_les (zw_les (zw_les (zw_les (zw_les (zw_len (zw_len zw_le0))))))) (zl_La_law_891 F Y hk hr23 l4 y864.2 h)
                                · rw [if_pos hc] at h
                                  refine zg_aload_n F.1 zd_La_law_879 rfl rfl ?_
                                  refine zg_iconst F.1 0 0 (by decide) zd_La_law_880 ?_
                                  refine zg_lald F.1 (by decide) rfl (by unfold vp_in; decide) 0 (by decide) (y864.2 56 0) rfl zd_La_law_881 ?_
                                  refine zg_iload F.1 zd_La_law_882 rfl ?_
                                  refine zg_i2l F.1 zd_La_law_884 ?_
                                  refine zg_lcmp F.1 zd_La_law_885 ?_
                                  refine zg_if_eq F.1 891 zd_La_law_886 rfl (fun hc => ?_) (fun hc => ?_)
                                  · rw [if_pos hc] at h
                                    exact zg_le (zw_les (zw_les (zw_les (zw_les (zw_les (zw_len (zw_len zw_le0))))))) (zl_La_law_891 F Y hk hr23 l4 y864.2 h)
                                  · rw [if_neg hc] at h
                                    refine zg_iconst F.1 0 0 (by decide) zd_La_law_889 ?_
                                    exact absurd h (by decide)
                              · rw [if_neg hc] at h
                                refine zg_iconst F.1 0 0 (by decide) zd_La_law_872 ?_
                                exact absurd h (by decide)
                            · rw [if_neg hc12] at h
                              by_cases hc13 : ((xs l4.toNatClampNeg) &&& 15) = 13
                              · rw [if_pos hc13] at h
                                refine zg_tabIn F.1 894 zd_La_law_39 (by rw [hc13]; decide) (by rw [hc13]; decide) (by rw [hc13]; rfl) rfl ?_
                                refine zg_aload_n F.1 zd_La_law_894 rfl rfl ?_
                                refine zg_aload_n F.1 zd_La_law_895 rfl rfl ?_
                                refine zg_iload F.1 zd_La_law_896 rfl ?_
                                refine zg_iconst F.1 1 1 (by decide) zd_La_law_898 ?_
                                refine zg_iadd F.1 zd_La_law_899 ?_
                                by_cases hi900 : (l4 + 1) < 0 ∨ n ≤ (l4 + 1).toNatClampNeg
                                case pos => rw [if_pos hi900] at h; cases h
                                rw [if_neg hi900] at h
                                refine zl_ld F Y hi900 zd_La_law_900 ?_
                                obtain ⟨y901, hc901, h⟩ := Option.bind_eq_some_iff.mp h
                                refine zg_callV F (As := [.int (xs (l4 + 1).toNatClampNeg)]) (rest := []) (zk_LG_about (zw_nle (by decide) F.1.2.2) N (xs (l4 + 1).toNatClampNeg) st hc901) rfl rfl zcal_LG_about zml_La_117 ⟨(Nat.le_of_ble_eq_true rfl), (Nat.le_of_ble_eq_true rfl)⟩ (zg_rec0 F.1 (by decide) rfl) rfl (Nat.le_of_ble_eq_true rfl) (zl_room (k := k) (by omega)) zd_La_law_901 ?_
                                refine zg_aload_n F.1 zd_La_law_904 rfl rfl ?_
                                refine zg_aload_n F.1 zd_La_law_905 rfl rfl ?_
                                refine zg_iload F.1 zd_La_law_906 rfl ?_
                                refine zg_iconst F.1 1 1 (by decide) zd_La_law_908 ?_
                                refine zg_iadd F.1 zd_La_law_909 ?_
                                by_cases hi910 : (l4 + 1) < 0 ∨ n ≤ (l4 + 1).toNatClampNeg
                                case pos => rw [if_pos hi910] at h; cases h
                                rw [if_neg hi910] at h
                                refine zl_ld F Y hi910 zd_La_law_910 ?_
                                obtain ⟨y911, hc911, h⟩ := Option.bind_eq_some_iff.mp h
                                refine zg_callV F (As := [.int (xs (l4 + 1).toNatClampNeg)]) (rest := [.int y901.1]) (zk_Mo_about F.1.2.2 N (xs (l4 + 1).toNatClampNeg) y901.2 hc911) rfl rfl zcal_Mo_about zml_La_120 ⟨(Nat.le_of_ble_eq_true rfl), (Nat.le_of_ble_eq_true rfl)⟩ (zg_rec10 F.1 (by decide) rfl) rfl (Nat.le_of_ble_eq_true rfl) (zl_room (k := k) (by omega)) zd_La_law_911 ?_
                                refine zg_icmp_eq F.1 919 zd_La_law_914 rfl (fun hc => ?_) (fun hc => ?_)
                                · rw [if_pos hc] at h
                                  exact zg_wide (k' := k + 1) (Nat.le_succ _) (zl_La_law_919 F Y hk hr23 l4 y911.2 h)
                                · rw [if_neg hc] at h
                                  refine zg_iconst F.1 0 0 (by decide) zd_La_law_917 ?_
                                  exact absurd h (by decide)
                              · rw [if_neg hc13] at h
                                refine zg_tabOut F.1 919 zd_La_law_39 (zw_sw0_13 hc0 hc1 hc2 hc3 hc4 hc5 hc6 hc7 hc8 hc9 hc10 hc11 hc12 hc13) rfl ?_
                                exact zg_wide (k' := k + 1) (Nat.le_succ _) (zl_La_law_919 F Y hk hr23 l4 st h)
def zf_La_law_23 (N n : Nat) (xs : Nat → Int32) : Nat → Int32 → zS → Option Int32
  | 0, _, _ => none
  | f + 1, l4, st => zb_La_law_23 N n xs (zf_La_law_23 N n xs f) l4 st
theorem zl_La_law_23 (F : zw_X p m c code 7 s #[Value.ref b] "LiftGroupLaw" E 20 (fun q => s.heap.size ≤ q) meth (some .boolean)) (Y : zl_Y l s (fun q => s.heap.size ≤ q) E b n xs) {N : Nat} : ∀ (f k : Nat) (l4 : Int32) (st : zS)  (hk : k + f ≤ 700) (h : zf_La_law_23 N n xs f l4 st = some 1), zw_G p l e room_1 s m #[Value.ref b] below meth c (lw_Z below #[Value.ref b] s) E (fun q => s.heap.size ≤ q) 7 k 23 [some (.ref 57), some (.ref 0), some (.ref 40), some (.ref 56), some (.int l4), none, none] [] st := by
  intro f
  induction f with
  | zero => intro k l4 st  hk h; cases h
  | succ f ih => intro k l4 st  hk h; exact zlb_La_law_23 F Y (by omega) (fun l4 st  h => ih (k + 1) l4 st  (by omega) h) l4 st  h
end ZC16
