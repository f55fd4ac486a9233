def zx_ss : List (Nat × String) := [(47, "there must be 2 to 10 floors"), (52, "there must be 1 to 4 cars"), (54, "there must be 1 to 5 places"), (60, "a rider goes from one floor to another"), (68, "no car is usable"), (77, "there were 24 riders"), (96, "there must be 0 to 200 steps"), (163, "of a car only 0 to 5 can be asked"), (165, "there is no such floor"), (197, "of a rider only 0 to 4 can be asked"), (214, "no such event is kept"), (233, "of an event only 0 to 3 can be asked"), (257, "there is no such car"), (260, "there is no such rider")]
set_option maxRecDepth 100000 in
theorem zxk_255 : Cond.classLink zR0 255 (zx_n 4) ∈ zwAll := zw_at 539 rfl rfl
set_option maxRecDepth 100000 in
theorem zxk_45 : Cond.classLink zR0 45 (zx_n 1) ∈ zwAll := zw_at 374 rfl rfl
set_option maxRecDepth 100000 in
theorem zxk_66 : Cond.classLink zR0 66 (zx_n 2) ∈ zwAll := zw_at 464 rfl rfl
set_option maxRecDepth 100000 in
theorem zxk_75 : Cond.classLink zR0 75 (zx_n 3) ∈ zwAll := zw_at 480 rfl rfl
set_option maxRecDepth 100000 in
theorem zxk_212 : Cond.classLink zR0 212 (zx_n 5) ∈ zwAll := zw_at 637 rfl rfl
set_option maxRecDepth 100000 in
theorem zxi_1 : Cond.initialized (zx_n 1) ∈ zwAll := zw_at 56 rfl rfl
set_option maxRecDepth 100000 in
theorem zxi_2 : Cond.initialized (zx_n 2) ∈ zwAll := zw_at 57 rfl rfl
set_option maxRecDepth 100000 in
theorem zxi_3 : Cond.initialized (zx_n 3) ∈ zwAll := zw_at 58 rfl rfl
set_option maxRecDepth 100000 in
theorem zxi_4 : Cond.initialized (zx_n 4) ∈ zwAll := zw_at 61 rfl rfl
set_option maxRecDepth 100000 in
theorem zxi_5 : Cond.initialized (zx_n 5) ∈ zwAll := zw_at 62 rfl rfl
def zx_ok (w : Cond) : Bool := decide (w ∈ zx_sta) || (decide (w ∈ zx_tab) || (decide (w ∈ lw_tbl) && goodWord w))
theorem zx_okof {w : Cond} (h : zx_ok w = true) : w ∈ zx_sta ∨ w ∈ zx_tab ∨ w ∈ zwAll := by
  unfold zx_ok at h
  simp only [Bool.or_eq_true, Bool.and_eq_true, decide_eq_true_eq] at h
  exact h.imp id (fun h => h.imp id (fun h => zw_mem h.1 h.2))
set_option maxRecDepth 100000 in
theorem zxw_259 : (zx_at zR0 259 (zx_n 4) 13 prog_18_method_4_code).all zx_ok = true := by decide +kernel
theorem zxa_259 : (∀ w ∈ zx_at zR0 259 (zx_n 4) 13 prog_18_method_4_code, w ∈ zx_sta ∨ w ∈ zx_tab ∨ w ∈ zwAll) ∧ decode prog_18_method_4_code 0 = .ok (.aload_n 0, 1) ∧ decode prog_18_method_4_code 1 = .ok (.aload_n 1, 1) ∧ decode prog_18_method_4_code 2 = .ok (.invokespecial 13, 3) ∧ decode prog_18_method_4_code 5 = .ok (.return_, 1) :=
  ⟨fun w hw => zx_okof (List.all_eq_true.mp zxw_259 w hw), by decide +kernel, by decide +kernel, by decide +kernel, by decide +kernel⟩
set_option maxRecDepth 100000 in
theorem zxw_49 : (zx_at zR0 49 (zx_n 1) 7 prog_9_method_2_code).all zx_ok = true := by decide +kernel
theorem zxa_49 : (∀ w ∈ zx_at zR0 49 (zx_n 1) 7 prog_9_method_2_code, w ∈ zx_sta ∨ w ∈ zx_tab ∨ w ∈ zwAll) ∧ decode prog_9_method_2_code 0 = .ok (.aload_n 0, 1) ∧ decode prog_9_method_2_code 1 = .ok (.aload_n 1, 1) ∧ decode prog_9_method_2_code 2 = .ok (.invokespecial 7, 3) ∧ decode prog_9_method_2_code 5 = .ok (.return_, 1) :=
  ⟨fun w hw => zx_okof (List.all_eq_true.mp zxw_49 w hw), by decide +kernel, by decide +kernel, by decide +kernel, by decide +kernel⟩
set_option maxRecDepth 100000 in
theorem zxw_70 : (zx_at zR0 70 (zx_n 2) 7 prog_10_method_2_code).all zx_ok = true := by decide +kernel
theorem zxa_70 : (∀ w ∈ zx_at zR0 70 (zx_n 2) 7 prog_10_method_2_code, w ∈ zx_sta ∨ w ∈ zx_tab ∨ w ∈ zwAll) ∧ decode prog_10_method_2_code 0 = .ok (.aload_n 0, 1) ∧ decode prog_10_method_2_code 1 = .ok (.aload_n 1, 1) ∧ decode prog_10_method_2_code 2 = .ok (.invokespecial 7, 3) ∧ decode prog_10_method_2_code 5 = .ok (.return_, 1) :=
  ⟨fun w hw => zx_okof (List.all_eq_true.mp zxw_70 w hw), by decide +kernel, by decide +kernel, by decide +kernel, by decide +kernel⟩
set_option maxRecDepth 100000 in
theorem zxw_79 : (zx_at zR0 79 (zx_n 3) 7 prog_17_method_2_code).all zx_ok = true := by decide +kernel
theorem zxa_79 : (∀ w ∈ zx_at zR0 79 (zx_n 3) 7 prog_17_method_2_code, w ∈ zx_sta ∨ w ∈ zx_tab ∨ w ∈ zwAll) ∧ decode prog_17_method_2_code 0 = .ok (.aload_n 0, 1) ∧ decode prog_17_method_2_code 1 = .ok (.aload_n 1, 1) ∧ decode prog_17_method_2_code 2 = .ok (.invokespecial 7, 3) ∧ decode prog_17_method_2_code 5 = .ok (.return_, 1) :=
  ⟨fun w hw => zx_okof (List.all_eq_true.mp zxw_79 w hw), by decide +kernel, by decide +kernel, by decide +kernel, by decide +kernel⟩
set_option maxRecDepth 100000 in
theorem zxw_216 : (zx_at zR0 216 (zx_n 5) 7 prog_11_method_2_code).all zx_ok = true := by decide +kernel
theorem zxa_216 : (∀ w ∈ zx_at zR0 216 (zx_n 5) 7 prog_11_method_2_code, w ∈ zx_sta ∨ w ∈ zx_tab ∨ w ∈ zwAll) ∧ decode prog_11_method_2_code 0 = .ok (.aload_n 0, 1) ∧ decode prog_11_method_2_code 1 = .ok (.aload_n 1, 1) ∧ decode prog_11_method_2_code 2 = .ok (.invokespecial 7, 3) ∧ decode prog_11_method_2_code 5 = .ok (.return_, 1) :=
  ⟨fun w hw => zx_okof (List.all_eq_true.mp zxw_216 w hw), by decide +kernel, by decide +kernel, by decide +kernel, by decide +kernel⟩
