abbrev zo_Ca_init : ByteArray := prog_2_method_1_code
abbrev zy_Ca_init : MethodName := ⟨"LiftGroup$Car", "<init>", "()V"⟩
theorem zd_Ca_init_0 : decode zo_Ca_init 0 = .ok (.aload_n 0, 1) := by decide +kernel
theorem zd_Ca_init_1 : decode zo_Ca_init 1 = .ok (.invokespecial 3, 3) := by decide +kernel
theorem zd_Ca_init_4 : decode zo_Ca_init 4 = .ok (.return_, 1) := by decide +kernel
abbrev zo_Ri_init : ByteArray := prog_5_method_1_code
abbrev zy_Ri_init : MethodName := ⟨"LiftGroup$Rider", "<init>", "()V"⟩
theorem zd_Ri_init_0 : decode zo_Ri_init 0 = .ok (.aload_n 0, 1) := by decide +kernel
theorem zd_Ri_init_1 : decode zo_Ri_init 1 = .ok (.invokespecial 3, 3) := by decide +kernel
theorem zd_Ri_init_4 : decode zo_Ri_init 4 = .ok (.return_, 1) := by decide +kernel
abbrev zo_Ho_init : ByteArray := prog_3_method_1_code
abbrev zy_Ho_init : MethodName := ⟨"LiftGroup$House", "<init>", "()V"⟩
theorem zd_Ho_init_0 : decode zo_Ho_init 0 = .ok (.aload_n 0, 1) := by decide +kernel
theorem zd_Ho_init_1 : decode zo_Ho_init 1 = .ok (.invokespecial 3, 3) := by decide +kernel
theorem zd_Ho_init_4 : decode zo_Ho_init 4 = .ok (.aload_n 0, 1) := by decide +kernel
theorem zd_Ho_init_5 : decode zo_Ho_init 5 = .ok (.bipush 10, 2) := by decide +kernel
theorem zd_Ho_init_7 : decode zo_Ho_init 7 = .ok (.newarray .int, 2) := by decide +kernel
theorem zd_Ho_init_9 : decode zo_Ho_init 9 = .ok (.putfield 9, 3) := by decide +kernel
theorem zd_Ho_init_12 : decode zo_Ho_init 12 = .ok (.aload_n 0, 1) := by decide +kernel
theorem zd_Ho_init_13 : decode zo_Ho_init 13 = .ok (.bipush 10, 2) := by decide +kernel
theorem zd_Ho_init_15 : decode zo_Ho_init 15 = .ok (.newarray .int, 2) := by decide +kernel
theorem zd_Ho_init_17 : decode zo_Ho_init 17 = .ok (.putfield 15, 3) := by decide +kernel
theorem zd_Ho_init_20 : decode zo_Ho_init 20 = .ok (.return_, 1) := by decide +kernel
abbrev zo_Lo_init : ByteArray := prog_4_method_1_code
abbrev zy_Lo_init : MethodName := ⟨"LiftGroup$Log", "<init>", "()V"⟩
theorem zd_Lo_init_0 : decode zo_Lo_init 0 = .ok (.aload_n 0, 1) := by decide +kernel
theorem zd_Lo_init_1 : decode zo_Lo_init 1 = .ok (.invokespecial 1, 3) := by decide +kernel
theorem zd_Lo_init_4 : decode zo_Lo_init 4 = .ok (.aload_n 0, 1) := by decide +kernel
theorem zd_Lo_init_5 : decode zo_Lo_init 5 = .ok (.bipush 30, 2) := by decide +kernel
theorem zd_Lo_init_7 : decode zo_Lo_init 7 = .ok (.newarray .int, 2) := by decide +kernel
theorem zd_Lo_init_9 : decode zo_Lo_init 9 = .ok (.putfield 9, 3) := by decide +kernel
theorem zd_Lo_init_12 : decode zo_Lo_init 12 = .ok (.aload_n 0, 1) := by decide +kernel
theorem zd_Lo_init_13 : decode zo_Lo_init 13 = .ok (.bipush 30, 2) := by decide +kernel
theorem zd_Lo_init_15 : decode zo_Lo_init 15 = .ok (.newarray .int, 2) := by decide +kernel
theorem zd_Lo_init_17 : decode zo_Lo_init 17 = .ok (.putfield 13, 3) := by decide +kernel
theorem zd_Lo_init_20 : decode zo_Lo_init 20 = .ok (.aload_n 0, 1) := by decide +kernel
theorem zd_Lo_init_21 : decode zo_Lo_init 21 = .ok (.bipush 30, 2) := by decide +kernel
theorem zd_Lo_init_23 : decode zo_Lo_init 23 = .ok (.newarray .int, 2) := by decide +kernel
theorem zd_Lo_init_25 : decode zo_Lo_init 25 = .ok (.putfield 16, 3) := by decide +kernel
theorem zd_Lo_init_28 : decode zo_Lo_init 28 = .ok (.aload_n 0, 1) := by decide +kernel
theorem zd_Lo_init_29 : decode zo_Lo_init 29 = .ok (.bipush 30, 2) := by decide +kernel
theorem zd_Lo_init_31 : decode zo_Lo_init 31 = .ok (.newarray .int, 2) := by decide +kernel
theorem zd_Lo_init_33 : decode zo_Lo_init 33 = .ok (.putfield 19, 3) := by decide +kernel
theorem zd_Lo_init_36 : decode zo_Lo_init 36 = .ok (.return_, 1) := by decide +kernel
abbrev zo_Mo_init : ByteArray := prog_7_method_1_code
abbrev zy_Mo_init : MethodName := ⟨"LiftGroupModel", "<init>", "()V"⟩
theorem zd_Mo_init_0 : decode zo_Mo_init 0 = .ok (.aload_n 0, 1) := by decide +kernel
theorem zd_Mo_init_1 : decode zo_Mo_init 1 = .ok (.invokespecial 1, 3) := by decide +kernel
theorem zd_Mo_init_4 : decode zo_Mo_init 4 = .ok (.aload_n 0, 1) := by decide +kernel
theorem zd_Mo_init_5 : decode zo_Mo_init 5 = .ok (.iconst 2, 1) := by decide +kernel
theorem zd_Mo_init_6 : decode zo_Mo_init 6 = .ok (.putfield 7, 3) := by decide +kernel
theorem zd_Mo_init_9 : decode zo_Mo_init 9 = .ok (.aload_n 0, 1) := by decide +kernel
theorem zd_Mo_init_10 : decode zo_Mo_init 10 = .ok (.iconst 1, 1) := by decide +kernel
theorem zd_Mo_init_11 : decode zo_Mo_init 11 = .ok (.putfield 13, 3) := by decide +kernel
theorem zd_Mo_init_14 : decode zo_Mo_init 14 = .ok (.aload_n 0, 1) := by decide +kernel
theorem zd_Mo_init_15 : decode zo_Mo_init 15 = .ok (.iconst 1, 1) := by decide +kernel
theorem zd_Mo_init_16 : decode zo_Mo_init 16 = .ok (.putfield 16, 3) := by decide +kernel
theorem zd_Mo_init_19 : decode zo_Mo_init 19 = .ok (.aload_n 0, 1) := by decide +kernel
theorem zd_Mo_init_20 : decode zo_Mo_init 20 = .ok (.iconst 5, 1) := by decide +kernel
theorem zd_Mo_init_21 : decode zo_Mo_init 21 = .ok (.newarray .int, 2) := by decide +kernel
theorem zd_Mo_init_23 : decode zo_Mo_init 23 = .ok (.putfield 19, 3) := by decide +kernel
theorem zd_Mo_init_26 : decode zo_Mo_init 26 = .ok (.aload_n 0, 1) := by decide +kernel
theorem zd_Mo_init_27 : decode zo_Mo_init 27 = .ok (.iconst 5, 1) := by decide +kernel
theorem zd_Mo_init_28 : decode zo_Mo_init 28 = .ok (.newarray .int, 2) := by decide +kernel
theorem zd_Mo_init_30 : decode zo_Mo_init 30 = .ok (.putfield 23, 3) := by decide +kernel
theorem zd_Mo_init_33 : decode zo_Mo_init 33 = .ok (.aload_n 0, 1) := by decide +kernel
theorem zd_Mo_init_34 : decode zo_Mo_init 34 = .ok (.iconst 5, 1) := by decide +kernel
theorem zd_Mo_init_35 : decode zo_Mo_init 35 = .ok (.newarray .int, 2) := by decide +kernel
theorem zd_Mo_init_37 : decode zo_Mo_init 37 = .ok (.putfield 26, 3) := by decide +kernel
theorem zd_Mo_init_40 : decode zo_Mo_init 40 = .ok (.aload_n 0, 1) := by decide +kernel
theorem zd_Mo_init_41 : decode zo_Mo_init 41 = .ok (.iconst 5, 1) := by decide +kernel
theorem zd_Mo_init_42 : decode zo_Mo_init 42 = .ok (.newarray .int, 2) := by decide +kernel
theorem zd_Mo_init_44 : decode zo_Mo_init 44 = .ok (.putfield 29, 3) := by decide +kernel
theorem zd_Mo_init_47 : decode zo_Mo_init 47 = .ok (.aload_n 0, 1) := by decide +kernel
theorem zd_Mo_init_48 : decode zo_Mo_init 48 = .ok (.iconst 5, 1) := by decide +kernel
theorem zd_Mo_init_49 : decode zo_Mo_init 49 = .ok (.newarray .int, 2) := by decide +kernel
theorem zd_Mo_init_51 : decode zo_Mo_init 51 = .ok (.putfield 32, 3) := by decide +kernel
theorem zd_Mo_init_54 : decode zo_Mo_init 54 = .ok (.aload_n 0, 1) := by decide +kernel
theorem zd_Mo_init_55 : decode zo_Mo_init 55 = .ok (.iconst 5, 1) := by decide +kernel
theorem zd_Mo_init_56 : decode zo_Mo_init 56 = .ok (.newarray .boolean, 2) := by decide +kernel
theorem zd_Mo_init_58 : decode zo_Mo_init 58 = .ok (.putfield 35, 3) := by decide +kernel
theorem zd_Mo_init_61 : decode zo_Mo_init 61 = .ok (.aload_n 0, 1) := by decide +kernel
theorem zd_Mo_init_62 : decode zo_Mo_init 62 = .ok (.iconst 5, 1) := by decide +kernel
theorem zd_Mo_init_63 : decode zo_Mo_init 63 = .ok (.newarray .boolean, 2) := by decide +kernel
theorem zd_Mo_init_65 : decode zo_Mo_init 65 = .ok (.putfield 39, 3) := by decide +kernel
theorem zd_Mo_init_68 : decode zo_Mo_init 68 = .ok (.aload_n 0, 1) := by decide +kernel
theorem zd_Mo_init_69 : decode zo_Mo_init 69 = .ok (.iconst 5, 1) := by decide +kernel
theorem zd_Mo_init_70 : decode zo_Mo_init 70 = .ok (.newarray .boolean, 2) := by decide +kernel
theorem zd_Mo_init_72 : decode zo_Mo_init 72 = .ok (.putfield 42, 3) := by decide +kernel
theorem zd_Mo_init_75 : decode zo_Mo_init 75 = .ok (.aload_n 0, 1) := by decide +kernel
theorem zd_Mo_init_76 : decode zo_Mo_init 76 = .ok (.bipush 48, 2) := by decide +kernel
theorem zd_Mo_init_78 : decode zo_Mo_init 78 = .ok (.newarray .int, 2) := by decide +kernel
theorem zd_Mo_init_80 : decode zo_Mo_init 80 = .ok (.putfield 45, 3) := by decide +kernel
theorem zd_Mo_init_83 : decode zo_Mo_init 83 = .ok (.aload_n 0, 1) := by decide +kernel
theorem zd_Mo_init_84 : decode zo_Mo_init 84 = .ok (.bipush 48, 2) := by decide +kernel
theorem zd_Mo_init_86 : decode zo_Mo_init 86 = .ok (.newarray .int, 2) := by decide +kernel
theorem zd_Mo_init_88 : decode zo_Mo_init 88 = .ok (.putfield 48, 3) := by decide +kernel
theorem zd_Mo_init_91 : decode zo_Mo_init 91 = .ok (.aload_n 0, 1) := by decide +kernel
theorem zd_Mo_init_92 : decode zo_Mo_init 92 = .ok (.bipush 48, 2) := by decide +kernel
theorem zd_Mo_init_94 : decode zo_Mo_init 94 = .ok (.newarray .int, 2) := by decide +kernel
theorem zd_Mo_init_96 : decode zo_Mo_init 96 = .ok (.putfield 51, 3) := by decide +kernel
theorem zd_Mo_init_99 : decode zo_Mo_init 99 = .ok (.aload_n 0, 1) := by decide +kernel
theorem zd_Mo_init_100 : decode zo_Mo_init 100 = .ok (.bipush 48, 2) := by decide +kernel
theorem zd_Mo_init_102 : decode zo_Mo_init 102 = .ok (.newarray .int, 2) := by decide +kernel
theorem zd_Mo_init_104 : decode zo_Mo_init 104 = .ok (.putfield 54, 3) := by decide +kernel
theorem zd_Mo_init_107 : decode zo_Mo_init 107 = .ok (.aload_n 0, 1) := by decide +kernel
theorem zd_Mo_init_108 : decode zo_Mo_init 108 = .ok (.bipush 24, 2) := by decide +kernel
theorem zd_Mo_init_110 : decode zo_Mo_init 110 = .ok (.newarray .int, 2) := by decide +kernel
theorem zd_Mo_init_112 : decode zo_Mo_init 112 = .ok (.putfield 57, 3) := by decide +kernel
theorem zd_Mo_init_115 : decode zo_Mo_init 115 = .ok (.aload_n 0, 1) := by decide +kernel
theorem zd_Mo_init_116 : decode zo_Mo_init 116 = .ok (.bipush 24, 2) := by decide +kernel
theorem zd_Mo_init_118 : decode zo_Mo_init 118 = .ok (.newarray .int, 2) := by decide +kernel
theorem zd_Mo_init_120 : decode zo_Mo_init 120 = .ok (.putfield 60, 3) := by decide +kernel
theorem zd_Mo_init_123 : decode zo_Mo_init 123 = .ok (.aload_n 0, 1) := by decide +kernel
theorem zd_Mo_init_124 : decode zo_Mo_init 124 = .ok (.bipush 120, 2) := by decide +kernel
theorem zd_Mo_init_126 : decode zo_Mo_init 126 = .ok (.newarray .int, 2) := by decide +kernel
theorem zd_Mo_init_128 : decode zo_Mo_init 128 = .ok (.putfield 63, 3) := by decide +kernel
theorem zd_Mo_init_131 : decode zo_Mo_init 131 = .ok (.return_, 1) := by decide +kernel
abbrev zo_LG_init : ByteArray := prog_1_method_1_code
abbrev zy_LG_init : MethodName := ⟨"LiftGroup", "<init>", "()V"⟩
theorem zd_LG_init_0 : decode zo_LG_init 0 = .ok (.aload_n 0, 1) := by decide +kernel
theorem zd_LG_init_1 : decode zo_LG_init 1 = .ok (.invokespecial 1, 3) := by decide +kernel
theorem zd_LG_init_4 : decode zo_LG_init 4 = .ok (.aload_n 0, 1) := by decide +kernel
theorem zd_LG_init_5 : decode zo_LG_init 5 = .ok (.new 7, 3) := by decide +kernel
theorem zd_LG_init_8 : decode zo_LG_init 8 = .ok (.dup, 1) := by decide +kernel
theorem zd_LG_init_9 : decode zo_LG_init 9 = .ok (.invokespecial 9, 3) := by decide +kernel
theorem zd_LG_init_12 : decode zo_LG_init 12 = .ok (.putfield 10, 3) := by decide +kernel
theorem zd_LG_init_15 : decode zo_LG_init 15 = .ok (.aload_n 0, 1) := by decide +kernel
theorem zd_LG_init_16 : decode zo_LG_init 16 = .ok (.iconst 4, 1) := by decide +kernel
theorem zd_LG_init_17 : decode zo_LG_init 17 = .ok (.anewarray 16, 3) := by decide +kernel
theorem zd_LG_init_20 : decode zo_LG_init 20 = .ok (.putfield 18, 3) := by decide +kernel
theorem zd_LG_init_23 : decode zo_LG_init 23 = .ok (.iconst 0, 1) := by decide +kernel
theorem zd_LG_init_24 : decode zo_LG_init 24 = .ok (.istore_n 1, 1) := by decide +kernel
theorem zd_LG_init_25 : decode zo_LG_init 25 = .ok (.iload_n 1, 1) := by decide +kernel
theorem zd_LG_init_26 : decode zo_LG_init 26 = .ok (.iconst 4, 1) := by decide +kernel
theorem zd_LG_init_27 : decode zo_LG_init 27 = .ok (.if_icmp .ge 22, 3) := by decide +kernel
theorem zd_LG_init_30 : decode zo_LG_init 30 = .ok (.aload_n 0, 1) := by decide +kernel
theorem zd_LG_init_31 : decode zo_LG_init 31 = .ok (.getfield 18, 3) := by decide +kernel
theorem zd_LG_init_34 : decode zo_LG_init 34 = .ok (.iload_n 1, 1) := by decide +kernel
theorem zd_LG_init_35 : decode zo_LG_init 35 = .ok (.new 16, 3) := by decide +kernel
theorem zd_LG_init_38 : decode zo_LG_init 38 = .ok (.dup, 1) := by decide +kernel
theorem zd_LG_init_39 : decode zo_LG_init 39 = .ok (.invokespecial 22, 3) := by decide +kernel
theorem zd_LG_init_42 : decode zo_LG_init 42 = .ok (.aastore, 1) := by decide +kernel
theorem zd_LG_init_43 : decode zo_LG_init 43 = .ok (.iinc 1 1, 3) := by decide +kernel
theorem zd_LG_init_46 : decode zo_LG_init 46 = .ok (.goto (-21), 3) := by decide +kernel
theorem zd_LG_init_49 : decode zo_LG_init 49 = .ok (.aload_n 0, 1) := by decide +kernel
theorem zd_LG_init_50 : decode zo_LG_init 50 = .ok (.new 16, 3) := by decide +kernel
theorem zd_LG_init_53 : decode zo_LG_init 53 = .ok (.dup, 1) := by decide +kernel
theorem zd_LG_init_54 : decode zo_LG_init 54 = .ok (.invokespecial 22, 3) := by decide +kernel
theorem zd_LG_init_57 : decode zo_LG_init 57 = .ok (.putfield 23, 3) := by decide +kernel
theorem zd_LG_init_60 : decode zo_LG_init 60 = .ok (.aload_n 0, 1) := by decide +kernel
theorem zd_LG_init_61 : decode zo_LG_init 61 = .ok (.bipush 24, 2) := by decide +kernel
theorem zd_LG_init_63 : decode zo_LG_init 63 = .ok (.anewarray 27, 3) := by decide +kernel
theorem zd_LG_init_66 : decode zo_LG_init 66 = .ok (.putfield 29, 3) := by decide +kernel
theorem zd_LG_init_69 : decode zo_LG_init 69 = .ok (.iconst 0, 1) := by decide +kernel
theorem zd_LG_init_70 : decode zo_LG_init 70 = .ok (.istore_n 1, 1) := by decide +kernel
theorem zd_LG_init_71 : decode zo_LG_init 71 = .ok (.iload_n 1, 1) := by decide +kernel
theorem zd_LG_init_72 : decode zo_LG_init 72 = .ok (.bipush 24, 2) := by decide +kernel
theorem zd_LG_init_74 : decode zo_LG_init 74 = .ok (.if_icmp .ge 22, 3) := by decide +kernel
theorem zd_LG_init_77 : decode zo_LG_init 77 = .ok (.aload_n 0, 1) := by decide +kernel
theorem zd_LG_init_78 : decode zo_LG_init 78 = .ok (.getfield 29, 3) := by decide +kernel
theorem zd_LG_init_81 : decode zo_LG_init 81 = .ok (.iload_n 1, 1) := by decide +kernel
theorem zd_LG_init_82 : decode zo_LG_init 82 = .ok (.new 27, 3) := by decide +kernel
theorem zd_LG_init_85 : decode zo_LG_init 85 = .ok (.dup, 1) := by decide +kernel
theorem zd_LG_init_86 : decode zo_LG_init 86 = .ok (.invokespecial 33, 3) := by decide +kernel
theorem zd_LG_init_89 : decode zo_LG_init 89 = .ok (.aastore, 1) := by decide +kernel
theorem zd_LG_init_90 : decode zo_LG_init 90 = .ok (.iinc 1 1, 3) := by decide +kernel
theorem zd_LG_init_93 : decode zo_LG_init 93 = .ok (.goto (-22), 3) := by decide +kernel
theorem zd_LG_init_96 : decode zo_LG_init 96 = .ok (.aload_n 0, 1) := by decide +kernel
theorem zd_LG_init_97 : decode zo_LG_init 97 = .ok (.new 34, 3) := by decide +kernel
theorem zd_LG_init_100 : decode zo_LG_init 100 = .ok (.dup, 1) := by decide +kernel
theorem zd_LG_init_101 : decode zo_LG_init 101 = .ok (.invokespecial 36, 3) := by decide +kernel
theorem zd_LG_init_104 : decode zo_LG_init 104 = .ok (.putfield 37, 3) := by decide +kernel
theorem zd_LG_init_107 : decode zo_LG_init 107 = .ok (.aload_n 0, 1) := by decide +kernel
theorem zd_LG_init_108 : decode zo_LG_init 108 = .ok (.iconst 2, 1) := by decide +kernel
theorem zd_LG_init_109 : decode zo_LG_init 109 = .ok (.iconst 1, 1) := by decide +kernel
theorem zd_LG_init_110 : decode zo_LG_init 110 = .ok (.iconst 1, 1) := by decide +kernel
theorem zd_LG_init_111 : decode zo_LG_init 111 = .ok (.invokevirtual 41, 3) := by decide +kernel
theorem zd_LG_init_114 : decode zo_LG_init 114 = .ok (.return_, 1) := by decide +kernel
set_option maxRecDepth 100000 in
theorem zio_1 : Cond.instanceMethod Lib.objectInit ∈ zwAll := zw_at 69 rfl rfl
set_option maxRecDepth 100000 in
theorem zio_2 : Cond.code Lib.objectInit ⟨#[0xb1]⟩ 1 none ∈ zwAll := zw_at 70 rfl rfl
set_option maxRecDepth 100000 in
theorem zi_aI : Cond.arrayClass .int ∈ zwAll := zw_at 100 rfl rfl
set_option maxRecDepth 100000 in
theorem zi_aZ : Cond.arrayClass .boolean ∈ zwAll := zw_at 735 rfl rfl
set_option maxRecDepth 100000 in
theorem zi_aJ : Cond.arrayClass .long ∈ zwAll := zw_at 883 rfl rfl
set_option maxRecDepth 100000 in
theorem zio_Ca_init : Cond.methodLink zR2 3 Lib.objectInit ∈ zwAll := zw_at 107 rfl rfl
abbrev zrm_Ca_init : Room := { frames := 1, cells := 0, slots := 0, locals := 14 }
set_option maxRecDepth 100000 in
set_option maxHeartbeats 4000000 in
theorem zi_Ca_init (l : Launch) (D : va_G) (h0 sz : Nat) : Met l zy_Ca_init (Cond.code zy_Ca_init zo_Ca_init 1 none :: zwAll) zrm_Ca_init (va_Pc [.ref h0] (fun U => U.heap.size = sz ∧ va_P D zwCl [(h0, .inr (2, [.int 0, .int 0, .int 0, .int 0, .int 0, .int 0, .int 0, .int 0, .int 0, .int 0, .int 0, .int 0, .int 0]))] U.heap ∧ va_K D zwCl [] U ∧ va_D (fun _ => True) [(h0, .inr (2, [.int 0, .int 0, .int 0, .int 0, .int 0, .int 0, .int 0, .int 0, .int 0, .int 0, .int 0, .int 0, .int 0]))])) (va_Qv (fun _ : (Nat → Nat) × (Nat → ClassId) => True) (fun u t => va_P D zwCl [(h0, .inr (2, [.int 0, .int 0, .int 0, .int 0, .int 0, .int 0, .int 0, .int 0, .int 0, .int 0, .int 0, .int 0, .int 0]))] t.heap ∧ va_K D zwCl [] t ∧ va_D (va_A [(h0, .inr (2, [.int 0, .int 0, .int 0, .int 0, .int 0, .int 0, .int 0, .int 0, .int 0, .int 0, .int 0, .int 0, .int 0]))] sz) [(h0, .inr (2, [.int 0, .int 0, .int 0, .int 0, .int 0, .int 0, .int 0, .int 0, .int 0, .int 0, .int 0, .int 0, .int 0]))]) (va_A [(h0, .inr (2, [.int 0, .int 0, .int 0, .int 0, .int 0, .int 0, .int 0, .int 0, .int 0, .int 0, .int 0, .int 0, .int 0]))] sz)) 0 0 (va_A [(h0, .inr (2, [.int 0, .int 0, .int 0, .int 0, .int 0, .int 0, .int 0, .int 0, .int 0, .int 0, .int 0, .int 0, .int 0]))] sz) := by
  refine Met.ofW (cc := zo_Ca_init) (maxL := 1) (ret := none) (by decide) rfl ?_
  intro p e s m args below meth c s₁ B hml hv
  obtain ⟨rfl, hsz, hP, hK, hD0⟩ := hv
  have hx := B.exec
  have hb := B.bytes
  have hr := B.returns
  have hts0 := atoms_spec (ws := Cond.code zy_Ca_init zo_Ca_init 1 none :: zwAll) B.pre
  have hts : ∀ w ∈ zwAll, w.before _ s = true := fun w h => hts0 w (List.mem_cons_of_mem _ h)
  have hown : s.vm.findClass zR2 = some m.cls := findClass_of_methodNamed B.named
  have hlocks := B.notSynchronized
  have hin : meth.name = "<init>" := (name_of_methodNamed B.named B.method).1
  subst hsz
  have hD := hD0.self (sz := s.heap.size)
  generalize hAe : va_A [(h0, .inr (2, [.int 0, .int 0, .int 0, .int 0, .int 0, .int 0, .int 0, .int 0, .int 0, .int 0, .int 0, .int 0, .int 0]))] s.heap.size = A at hD ⊢
  have hA : ∀ q : Nat, s.heap.size ≤ q → A q := fun q h => by rw [← hAe]; exact Or.inr h
  have hS : va_S A s.heap s.heap [] := va_S.rf
  have hP : va_P D zwCl [(h0, .inr (2, [.int 0, .int 0, .int 0, .int 0, .int 0, .int 0, .int 0, .int 0, .int 0, .int 0, .int 0, .int 0, .int 0]))] s.heap := hP
  have hl := lv_entry ([.ref h0]) (n := 1) (Nat.le_of_ble_eq_true rfl)
  rw [lg_entry_eq]
  generalize (lg_sl ([.ref h0]) ++ List.replicate (1 - (lg_sl ([.ref h0])).length) Slot.unset).toArray = ls at hl ⊢
  have hl : lv_has ls 1 [(0, .ref h0)] := hl
  refine lv_aload_n hx hb zd_Ca_init_0 rfl (lv_at hl 0 rfl) ?_
  refine W.objInit hx hb hown (hts _ zio_Ca_init) (hts _ zio_1) (hts _ zio_2) rfl (by rw [hml]; exact hl.1) rfl zd_Ca_init_1 (Nat.le_of_ble_eq_true rfl) (Nat.le_of_ble_eq_true rfl) ?_
  refine W.eq (g2 := F0 m 4 ls []) rfl ?_
  exact W.vret hx hb hr (fun t ht hW => ⟨⟨((fun _ => 0), (fun k => match k with | _ => D.1 0)), rfl, trivial, by rw [ht]; exact hP, va_K.moved hW.alike hK, hD⟩, hS.F ht⟩) hS.2.2 zd_Ca_init_4
set_option maxRecDepth 100000 in
theorem zio_Ri_init : Cond.methodLink zR3 3 Lib.objectInit ∈ zwAll := zw_at 166 rfl rfl
abbrev zrm_Ri_init : Room := { frames := 1, cells := 0, slots := 0, locals := 14 }
set_option maxRecDepth 100000 in
set_option maxHeartbeats 4000000 in
theorem zi_Ri_init (l : Launch) (D : va_G) (h0 sz : Nat) : Met l zy_Ri_init (Cond.code zy_Ri_init zo_Ri_init 1 none :: zwAll) zrm_Ri_init (va_Pc [.ref h0] (fun U => U.heap.size = sz ∧ va_P D zwCl [(h0, .inr (3, [.int 0, .int 0, .int 0, .int 0, .int 0, .int 0]))] U.heap ∧ va_K D zwCl [] U ∧ va_D (fun _ => True) [(h0, .inr (3, [.int 0, .int 0, .int 0, .int 0, .int 0, .int 0]))])) (va_Qv (fun _ : (Nat → Nat) × (Nat → ClassId) => True) (fun u t => va_P D zwCl [(h0, .inr (3, [.int 0, .int 0, .int 0, .int 0, .int 0, .int 0]))] t.heap ∧ va_K D zwCl [] t ∧ va_D (va_A [(h0, .inr (3, [.int 0, .int 0, .int 0, .int 0, .int 0, .int 0]))] sz) [(h0, .inr (3, [.int 0, .int 0, .int 0, .int 0, .int 0, .int 0]))]) (va_A [(h0, .inr (3, [.int 0, .int 0, .int 0, .int 0, .int 0, .int 0]))] sz)) 0 0 (va_A [(h0, .inr (3, [.int 0, .int 0, .int 0, .int 0, .int 0, .int 0]))] sz) := by
  refine Met.ofW (cc := zo_Ri_init) (maxL := 1) (ret := none) (by decide) rfl ?_
  intro p e s m args below meth c s₁ B hml hv
  obtain ⟨rfl, hsz, hP, hK, hD0⟩ := hv
  have hx := B.exec
  have hb := B.bytes
  have hr := B.returns
  have hts0 := atoms_spec (ws := Cond.code zy_Ri_init zo_Ri_init 1 none :: zwAll) B.pre
  have hts : ∀ w ∈ zwAll, w.before _ s = true := fun w h => hts0 w (List.mem_cons_of_mem _ h)
  have hown : s.vm.findClass zR3 = some m.cls := findClass_of_methodNamed B.named
  have hlocks := B.notSynchronized
  have hin : meth.name = "<init>" := (name_of_methodNamed B.named B.method).1
  subst hsz
  have hD := hD0.self (sz := s.heap.size)
  generalize hAe : va_A [(h0, .inr (3, [.int 0, .int 0, .int 0, .int 0, .int 0, .int 0]))] s.heap.size = A at hD ⊢
  have hA : ∀ q : Nat, s.heap.size ≤ q → A q := fun q h => by rw [← hAe]; exact Or.inr h
  have hS : va_S A s.heap s.heap [] := va_S.rf
  have hP : va_P D zwCl [(h0, .inr (3, [.int 0, .int 0, .int 0, .int 0, .int 0, .int 0]))] s.heap := hP
  have hl := lv_entry ([.ref h0]) (n := 1) (Nat.le_of_ble_eq_true rfl)
  rw [lg_entry_eq]
  generalize (lg_sl ([.ref h0]) ++ List.replicate (1 - (lg_sl ([.ref h0])).length) Slot.unset).toArray = ls at hl ⊢
  have hl : lv_has ls 1 [(0, .ref h0)] := hl
  refine lv_aload_n hx hb zd_Ri_init_0 rfl (lv_at hl 0 rfl) ?_
  refine W.objInit hx hb hown (hts _ zio_Ri_init) (hts _ zio_1) (hts _ zio_2) rfl (by rw [hml]; exact hl.1) rfl zd_Ri_init_1 (Nat.le_of_ble_eq_true rfl) (Nat.le_of_ble_eq_true rfl) ?_
  refine W.eq (g2 := F0 m 4 ls []) rfl ?_
  exact W.vret hx hb hr (fun t ht hW => ⟨⟨((fun _ => 0), (fun k => match k with | _ => D.1 0)), rfl, trivial, by rw [ht]; exact hP, va_K.moved hW.alike hK, hD⟩, hS.F ht⟩) hS.2.2 zd_Ri_init_4
set_option maxRecDepth 100000 in
theorem zif_Ho_init_15 : Cond.fieldLink zR1 15 (zT1 1).1 (zT1 1).2.1 (zT1 1).2.2.1 ∈ zwAll := zw_at 79 rfl rfl
set_option maxRecDepth 100000 in
theorem zif_Ho_init_9 : Cond.fieldLink zR1 9 (zT1 0).1 (zT1 0).2.1 (zT1 0).2.2.1 ∈ zwAll := zw_at 77 rfl rfl
set_option maxRecDepth 100000 in
theorem zio_Ho_init : Cond.methodLink zR1 3 Lib.objectInit ∈ zwAll := zw_at 76 rfl rfl
abbrev zrm_Ho_init : Room := { frames := 1, cells := 2, slots := 20, locals := 14 }
set_option maxRecDepth 100000 in
set_option maxHeartbeats 4000000 in
theorem zi_Ho_init (l : Launch) (D : va_G) (h0 sz : Nat) : Met l zy_Ho_init (Cond.code zy_Ho_init zo_Ho_init 1 none :: zwAll) zrm_Ho_init (va_Pc [.ref h0] (fun U => U.heap.size = sz ∧ va_P D zwCl [(h0, .inr (1, [.null, .null, .int 0, .int 0, .int 0]))] U.heap ∧ va_K D zwCl [] U ∧ va_D (fun _ => True) [(h0, .inr (1, [.null, .null, .int 0, .int 0, .int 0]))])) (va_Qv (fun _ : (Nat → Nat) × (Nat → ClassId) => True) (fun u t => va_P D zwCl [(h0, .inr (1, [.ref (u.1 1), .ref (u.1 2), .int 0, .int 0, .int 0])), (u.1 1, .inl (u.2 0, 10, .inl (fun _ => 0))), (u.1 2, .inl (u.2 0, 10, .inl (fun _ => 0)))] t.heap ∧ va_K D zwCl [(u.2 0, .int)] t ∧ va_D (va_A [(h0, .inr (1, [.null, .null, .int 0, .int 0, .int 0]))] sz) [(h0, .inr (1, [.ref (u.1 1), .ref (u.1 2), .int 0, .int 0, .int 0])), (u.1 1, .inl (u.2 0, 10, .inl (fun _ => 0))), (u.1 2, .inl (u.2 0, 10, .inl (fun _ => 0)))]) (va_A [(h0, .inr (1, [.null, .null, .int 0, .int 0, .int 0]))] sz)) 2 20 (va_A [(h0, .inr (1, [.null, .null, .int 0, .int 0, .int 0]))] sz) := by
  refine Met.ofW (cc := zo_Ho_init) (maxL := 1) (ret := none) (by decide) rfl ?_
  intro p e s m args below meth c s₁ B hml hv
  obtain ⟨rfl, hsz, hP, hK, hD0⟩ := hv
  have hx := B.exec
  have hb := B.bytes
  have hr := B.returns
  have hts0 := atoms_spec (ws := Cond.code zy_Ho_init zo_Ho_init 1 none :: zwAll) B.pre
  have hts : ∀ w ∈ zwAll, w.before _ s = true := fun w h => hts0 w (List.mem_cons_of_mem _ h)
  have hown : s.vm.findClass zR1 = some m.cls := findClass_of_methodNamed B.named
  have hlocks := B.notSynchronized
  have hin : meth.name = "<init>" := (name_of_methodNamed B.named B.method).1
  subst hsz
  have hD := hD0.self (sz := s.heap.size)
  generalize hAe : va_A [(h0, .inr (1, [.null, .null, .int 0, .int 0, .int 0]))] s.heap.size = A at hD ⊢
  have hA : ∀ q : Nat, s.heap.size ≤ q → A q := fun q h => by rw [← hAe]; exact Or.inr h
  have hS : va_S A s.heap s.heap [] := va_S.rf
  have hP : va_P D zwCl [(h0, .inr (1, [.null, .null, .int 0, .int 0, .int 0]))] s.heap := hP
  have hl := lv_entry ([.ref h0]) (n := 1) (Nat.le_of_ble_eq_true rfl)
  rw [lg_entry_eq]
  generalize (lg_sl ([.ref h0]) ++ List.replicate (1 - (lg_sl ([.ref h0])).length) Slot.unset).toArray = ls at hl ⊢
  have hl : lv_has ls 1 [(0, .ref h0)] := hl
  refine lv_aload_n hx hb zd_Ho_init_0 rfl (lv_at hl 0 rfl) ?_
  refine W.objInit hx hb hown (hts _ zio_Ho_init) (hts _ zio_1) (hts _ zio_2) rfl (by rw [hml]; exact hl.1) rfl zd_Ho_init_1 (Nat.le_of_ble_eq_true rfl) (Nat.le_of_ble_eq_true rfl) ?_
  refine W.eq (g2 := F0 m 4 ls []) rfl ?_
  refine lv_aload_n hx hb zd_Ho_init_4 rfl (lv_at hl 0 rfl) ?_
  refine lv_bipush (v := 10) hx hb zd_Ho_init_5 (by decide) ?_
  refine va_newa (atype := .int) (D := D) (cl := zwCl) (ty := .int) (N' := 10) (a0 := (10, .inl (fun _ => 0))) hx hb (hts _ zi_aI) rfl hK hP hD hS hA (fun _ => rfl) (by decide) (by decide) (by decide) (Nat.le_of_ble_eq_true rfl) (Nat.le_of_ble_eq_true rfl) zd_Ho_init_7 (fun q7 c7 H hK hP hD hS => ?_)
  have hK : va_K D zwCl [(c7, .int)] s := hK
  have hP : va_P D zwCl [(h0, .inr (1, [.null, .null, .int 0, .int 0, .int 0])), (q7, .inl (c7, 10, .inl (fun _ => 0)))] H := hP
  have hD : va_D A [(h0, .inr (1, [.null, .null, .int 0, .int 0, .int 0])), (q7, .inl (c7, 10, .inl (fun _ => 0)))] := hD
  refine va_putF (D := D) (ci := 1) (v := .ref q7) (ty := .array .int) (C := zR1) (T := zT1) (N := 5) (fs := [.null, .null, .int 0, .int 0, .int 0]) hx hb hts zw_in1 zY1 zw_ty1 zw_nm1 hown hK hP hD hS 0 rfl rfl 0 (by decide) (hts _ zif_Ho_init_9) (fun _ h9 => h9) rfl hin rfl (by decide +kernel) rfl rfl (Nat.le_of_ble_eq_true rfl) zd_Ho_init_9 (fun H locs hP hD hS => ?_)
  have hP : va_P D zwCl [(h0, .inr (1, [.ref q7, .null, .int 0, .int 0, .int 0])), (q7, .inl (c7, 10, .inl (fun _ => 0)))] H := hP
  have hD : va_D A [(h0, .inr (1, [.ref q7, .null, .int 0, .int 0, .int 0])), (q7, .inl (c7, 10, .inl (fun _ => 0)))] := hD
  refine lv_aload_n hx hb zd_Ho_init_12 rfl (lv_at hl 0 rfl) ?_
  refine lv_bipush (v := 10) hx hb zd_Ho_init_13 (by decide) ?_
  refine va_newa (atype := .int) (D := D) (cl := zwCl) (ty := .int) (N' := 10) (a0 := (10, .inl (fun _ => 0))) hx hb (hts _ zi_aI) rfl hK hP hD hS hA (fun _ => rfl) (by decide) (by decide) (by decide) (Nat.le_of_ble_eq_true rfl) (Nat.le_of_ble_eq_true rfl) zd_Ho_init_15 (fun q15 c15 H hK hP hD hS => ?_)
  have hK : va_K D zwCl [(c7, .int), (c15, .int)] s := hK
  have e15 : c15 = c7 := Option.some.inj ((hK.2 1 _ rfl).2.symm.trans (hK.2 0 _ rfl).2)
  rw [e15] at hP hD
  have hK := hK.sub (tys' := [(c7, .int)]) [0] rfl
  have hP : va_P D zwCl [(h0, .inr (1, [.ref q7, .null, .int 0, .int 0, .int 0])), (q7, .inl (c7, 10, .inl (fun _ => 0))), (q15, .inl (c7, 10, .inl (fun _ => 0)))] H := hP
  have hD : va_D A [(h0, .inr (1, [.ref q7, .null, .int 0, .int 0, .int 0])), (q7, .inl (c7, 10, .inl (fun _ => 0))), (q15, .inl (c7, 10, .inl (fun _ => 0)))] := hD
  refine va_putF (D := D) (ci := 1) (v := .ref q15) (ty := .array .int) (C := zR1) (T := zT1) (N := 5) (fs := [.ref q7, .null, .int 0, .int 0, .int 0]) hx hb hts zw_in1 zY1 zw_ty1 zw_nm1 hown hK hP hD hS 0 rfl rfl 1 (by decide) (hts _ zif_Ho_init_15) (fun _ h9 => h9) rfl hin rfl (by decide +kernel) rfl rfl (Nat.le_of_ble_eq_true rfl) zd_Ho_init_17 (fun H locs hP hD hS => ?_)
  have hP : va_P D zwCl [(h0, .inr (1, [.ref q7, .ref q15, .int 0, .int 0, .int 0])), (q7, .inl (c7, 10, .inl (fun _ => 0))), (q15, .inl (c7, 10, .inl (fun _ => 0)))] H := hP
  have hD : va_D A [(h0, .inr (1, [.ref q7, .ref q15, .int 0, .int 0, .int 0])), (q7, .inl (c7, 10, .inl (fun _ => 0))), (q15, .inl (c7, 10, .inl (fun _ => 0)))] := hD
  exact W.vret hx hb hr (fun t ht hW => ⟨⟨((fun k => match k with | 1 => q7 | 2 => q15 | _ => 0), (fun k => match k with | _ => c7)), rfl, trivial, by rw [ht]; exact hP, va_K.moved hW.alike hK, hD⟩, hS.F ht⟩) hS.2.2 zd_Ho_init_20
set_option maxRecDepth 100000 in
theorem zif_Lo_init_19 : Cond.fieldLink zR4 19 (zT4 3).1 (zT4 3).2.1 (zT4 3).2.2.1 ∈ zwAll := zw_at 204 rfl rfl
set_option maxRecDepth 100000 in
theorem zif_Lo_init_16 : Cond.fieldLink zR4 16 (zT4 2).1 (zT4 2).2.1 (zT4 2).2.2.1 ∈ zwAll := zw_at 202 rfl rfl
set_option maxRecDepth 100000 in
theorem zif_Lo_init_13 : Cond.fieldLink zR4 13 (zT4 1).1 (zT4 1).2.1 (zT4 1).2.2.1 ∈ zwAll := zw_at 200 rfl rfl
set_option maxRecDepth 100000 in
theorem zif_Lo_init_9 : Cond.fieldLink zR4 9 (zT4 0).1 (zT4 0).2.1 (zT4 0).2.2.1 ∈ zwAll := zw_at 198 rfl rfl
set_option maxRecDepth 100000 in
theorem zio_Lo_init : Cond.methodLink zR4 1 Lib.objectInit ∈ zwAll := zw_at 197 rfl rfl
abbrev zrm_Lo_init : Room := { frames := 1, cells := 4, slots := 120, locals := 14 }
set_option maxRecDepth 100000 in
set_option maxHeartbeats 4000000 in
theorem zi_Lo_init (l : Launch) (D : va_G) (h0 sz : Nat) : Met l zy_Lo_init (Cond.code zy_Lo_init zo_Lo_init 1 none :: zwAll) zrm_Lo_init (va_Pc [.ref h0] (fun U => U.heap.size = sz ∧ va_P D zwCl [(h0, .inr (4, [.null, .null, .null, .null, .int 0]))] U.heap ∧ va_K D zwCl [] U ∧ va_D (fun _ => True) [(h0, .inr (4, [.null, .null, .null, .null, .int 0]))])) (va_Qv (fun _ : (Nat → Nat) × (Nat → ClassId) => True) (fun u t => va_P D zwCl [(h0, .inr (4, [.ref (u.1 1), .ref (u.1 2), .ref (u.1 3), .ref (u.1 4), .int 0])), (u.1 1, .inl (u.2 0, 30, .inl (fun _ => 0))), (u.1 2, .inl (u.2 0, 30, .inl (fun _ => 0))), (u.1 3, .inl (u.2 0, 30, .inl (fun _ => 0))), (u.1 4, .inl (u.2 0, 30, .inl (fun _ => 0)))] t.heap ∧ va_K D zwCl [(u.2 0, .int)] t ∧ va_D (va_A [(h0, .inr (4, [.null, .null, .null, .null, .int 0]))] sz) [(h0, .inr (4, [.ref (u.1 1), .ref (u.1 2), .ref (u.1 3), .ref (u.1 4), .int 0])), (u.1 1, .inl (u.2 0, 30, .inl (fun _ => 0))), (u.1 2, .inl (u.2 0, 30, .inl (fun _ => 0))), (u.1 3, .inl (u.2 0, 30, .inl (fun _ => 0))), (u.1 4, .inl (u.2 0, 30, .inl (fun _ => 0)))]) (va_A [(h0, .inr (4, [.null, .null, .null, .null, .int 0]))] sz)) 4 120 (va_A [(h0, .inr (4, [.null, .null, .null, .null, .int 0]))] sz) := by
  refine Met.ofW (cc := zo_Lo_init) (maxL := 1) (ret := none) (by decide) rfl ?_
  intro p e s m args below meth c s₁ B hml hv
  obtain ⟨rfl, hsz, hP, hK, hD0⟩ := hv
  have hx := B.exec
  have hb := B.bytes
  have hr := B.returns
  have hts0 := atoms_spec (ws := Cond.code zy_Lo_init zo_Lo_init 1 none :: zwAll) B.pre
  have hts : ∀ w ∈ zwAll, w.before _ s = true := fun w h => hts0 w (List.mem_cons_of_mem _ h)
  have hown : s.vm.findClass zR4 = some m.cls := findClass_of_methodNamed B.named
  have hlocks := B.notSynchronized
  have hin : meth.name = "<init>" := (name_of_methodNamed B.named B.method).1
  subst hsz
  have hD := hD0.self (sz := s.heap.size)
  generalize hAe : va_A [(h0, .inr (4, [.null, .null, .null, .null, .int 0]))] s.heap.size = A at hD ⊢
  have hA : ∀ q : Nat, s.heap.size ≤ q → A q := fun q h => by rw [← hAe]; exact Or.inr h
  have hS : va_S A s.heap s.heap [] := va_S.rf
  have hP : va_P D zwCl [(h0, .inr (4, [.null, .null, .null, .null, .int 0]))] s.heap := hP
  have hl := lv_entry ([.ref h0]) (n := 1) (Nat.le_of_ble_eq_true rfl)
  rw [lg_entry_eq]
  generalize (lg_sl ([.ref h0]) ++ List.replicate (1 - (lg_sl ([.ref h0])).length) Slot.unset).toArray = ls at hl ⊢
  have hl : lv_has ls 1 [(0, .ref h0)] := hl
  refine lv_aload_n hx hb zd_Lo_init_0 rfl (lv_at hl 0 rfl) ?_
  refine W.objInit hx hb hown (hts _ zio_Lo_init) (hts _ zio_1) (hts _ zio_2) rfl (by rw [hml]; exact hl.1) rfl zd_Lo_init_1 (Nat.le_of_ble_eq_true rfl) (Nat.le_of_ble_eq_true rfl) ?_
  refine W.eq (g2 := F0 m 4 ls []) rfl ?_
  refine lv_aload_n hx hb zd_Lo_init_4 rfl (lv_at hl 0 rfl) ?_
  refine lv_bipush (v := 30) hx hb zd_Lo_init_5 (by decide) ?_
  refine va_newa (atype := .int) (D := D) (cl := zwCl) (ty := .int) (N' := 30) (a0 := (30, .inl (fun _ => 0))) hx hb (hts _ zi_aI) rfl hK hP hD hS hA (fun _ => rfl) (by decide) (by decide) (by decide) (Nat.le_of_ble_eq_true rfl) (Nat.le_of_ble_eq_true rfl) zd_Lo_init_7 (fun q7 c7 H hK hP hD hS => ?_)
  have hK : va_K D zwCl [(c7, .int)] s := hK
  have hP : va_P D zwCl [(h0, .inr (4, [.null, .null, .null, .null, .int 0])), (q7, .inl (c7, 30, .inl (fun _ => 0)))] H := hP
  have hD : va_D A [(h0, .inr (4, [.null, .null, .null, .null, .int 0])), (q7, .inl (c7, 30, .inl (fun _ => 0)))] := hD
  refine va_putF (D := D) (ci := 4) (v := .ref q7) (ty := .array .int) (C := zR4) (T := zT4) (N := 5) (fs := [.null, .null, .null, .null, .int 0]) hx hb hts zw_in4 zY4 zw_ty4 zw_nm4 hown hK hP hD hS 0 rfl rfl 0 (by decide) (hts _ zif_Lo_init_9) (fun _ h9 => h9) rfl hin rfl (by decide +kernel) rfl rfl (Nat.le_of_ble_eq_true rfl) zd_Lo_init_9 (fun H locs hP hD hS => ?_)
  have hP : va_P D zwCl [(h0, .inr (4, [.ref q7, .null, .null, .null, .int 0])), (q7, .inl (c7, 30, .inl (fun _ => 0)))] H := hP
  have hD : va_D A [(h0, .inr (4, [.ref q7, .null, .null, .null, .int 0])), (q7, .inl (c7, 30, .inl (fun _ => 0)))] := hD
  refine lv_aload_n hx hb zd_Lo_init_12 rfl (lv_at hl 0 rfl) ?_
  refine lv_bipush (v := 30) hx hb zd_Lo_init_13 (by decide) ?_
  refine va_newa (atype := .int) (D := D) (cl := zwCl) (ty := .int) (N' := 30) (a0 := (30, .inl (fun _ => 0))) hx hb (hts _ zi_aI) rfl hK hP hD hS hA (fun _ => rfl) (by decide) (by decide) (by decide) (Nat.le_of_ble_eq_true rfl) (Nat.le_of_ble_eq_true rfl) zd_Lo_init_15 (fun q15 c15 H hK hP hD hS => ?_)
  have hK : va_K D zwCl [(c7, .int), (c15, .int)] s := hK
  have e15 : c15 = c7 := Option.some.inj ((hK.2 1 _ rfl).2.symm.trans (hK.2 0 _ rfl).2)
  rw [e15] at hP hD
  have hK := hK.sub (tys' := [(c7, .int)]) [0] rfl
  have hP : va_P D zwCl [(h0, .inr (4, [.ref q7, .null, .null, .null, .int 0])), (q7, .inl (c7, 30, .inl (fun _ => 0))), (q15, .inl (c7, 30, .inl (fun _ => 0)))] H := hP
  have hD : va_D A [(h0, .inr (4, [.ref q7, .null, .null, .null, .int 0])), (q7, .inl (c7, 30, .inl (fun _ => 0))), (q15, .inl (c7, 30, .inl (fun _ => 0)))] := hD
  refine va_putF (D := D) (ci := 4) (v := .ref q15) (ty := .array .int) (C := zR4) (T := zT4) (N := 5) (fs := [.ref q7, .null, .null, .null, .int 0]) hx hb hts zw_in4 zY4 zw_ty4 zw_nm4 hown hK hP hD hS 0 rfl rfl 1 (by decide) (hts _ zif_Lo_init_13) (fun _ h9 => h9) rfl hin rfl (by decide +kernel) rfl rfl (Nat.le_of_ble_eq_true rfl) zd_Lo_init_17 (fun H locs hP hD hS => ?_)
  have hP : va_P D zwCl [(h0, .inr (4, [.ref q7, .ref q15, .null, .null, .int 0])), (q7, .inl (c7, 30, .inl (fun _ => 0))), (q15, .inl (c7, 30, .inl (fun _ => 0)))] H := hP
  have hD : va_D A [(h0, .inr (4, [.ref q7, .ref q15, .null, .null, .int 0])), (q7, .inl (c7, 30, .inl (fun _ => 0))), (q15, .inl (c7, 30, .inl (fun _ => 0)))] := hD
  refine lv_aload_n hx hb zd_Lo_init_20 rfl (lv_at hl 0 rfl) ?_
  refine lv_bipush (v := 30) hx hb zd_Lo_init_21 (by decide) ?_
  refine va_newa (atype := .int) (D := D) (cl := zwCl) (ty := .int) (N' := 30) (a0 := (30, .inl (fun _ => 0))) hx hb (hts _ zi_aI) rfl hK hP hD hS hA (fun _ => rfl) (by decide) (by decide) (by decide) (Nat.le_of_ble_eq_true rfl) (Nat.le_of_ble_eq_true rfl) zd_Lo_init_23 (fun q23 c23 H hK hP hD hS => ?_)
  have hK : va_K D zwCl [(c7, .int), (c23, .int)] s := hK
  have e23 : c23 = c7 := Option.some.inj ((hK.2 1 _ rfl).2.symm.trans (hK.2 0 _ rfl).2)
  rw [e23] at hP hD
  have hK := hK.sub (tys' := [(c7, .int)]) [0] rfl
  have hP : va_P D zwCl [(h0, .inr (4, [.ref q7, .ref q15, .null, .null, .int 0])), (q7, .inl (c7, 30, .inl (fun _ => 0))), (q15, .inl (c7, 30, .inl (fun _ => 0))), (q23, .inl (c7, 30, .inl (fun _ => 0)))] H := hP
  have hD : va_D A [(h0, .inr (4, [.ref q7, .ref q15, .null, .null, .int 0])), (q7, .inl (c7, 30, .inl (fun _ => 0))), (q15, .inl (c7, 30, .inl (fun _ => 0))), (q23, .inl (c7, 30, .inl (fun _ => 0)))] := hD
  refine va_putF (D := D) (ci := 4) (v := .ref q23) (ty := .array .int) (C := zR4) (T := zT4) (N := 5) (fs := [.ref q7, .ref q15, .null, .null, .int 0]) hx hb hts zw_in4 zY4 zw_ty4 zw_nm4 hown hK hP hD hS 0 rfl rfl 2 (by decide) (hts _ zif_Lo_init_16) (fun _ h9 => h9) rfl hin rfl (by decide +kernel) rfl rfl (Nat.le_of_ble_eq_true rfl) zd_Lo_init_25 (fun H locs hP hD hS => ?_)
  have hP : va_P D zwCl [(h0, .inr (4, [.ref q7, .ref q15, .ref q23, .null, .int 0])), (q7, .inl (c7, 30, .inl (fun _ => 0))), (q15, .inl (c7, 30, .inl (fun _ => 0))), (q23, .inl (c7, 30, .inl (fun _ => 0)))] H := hP
  have hD : va_D A [(h0, .inr (4, [.ref q7, .ref q15, .ref q23, .null, .int 0])), (q7, .inl (c7, 30, .inl (fun _ => 0))), (q15, .inl (c7, 30, .inl (fun _ => 0))), (q23, .inl (c7, 30, .inl (fun _ => 0)))] := hD
  refine lv_aload_n hx hb zd_Lo_init_28 rfl (lv_at hl 0 rfl) ?_
  refine lv_bipush (v := 30) hx hb zd_Lo_init_29 (by decide) ?_
  refine va_newa (atype := .int) (D := D) (cl := zwCl) (ty := .int) (N' := 30) (a0 := (30, .inl (fun _ => 0))) hx hb (hts _ zi_aI) rfl hK hP hD hS hA (fun _ => rfl) (by decide) (by decide) (by decide) (Nat.le_of_ble_eq_true rfl) (Nat.le_of_ble_eq_true rfl) zd_Lo_init_31 (fun q31 c31 H hK hP hD hS => ?_)
  have hK : va_K D zwCl [(c7, .int), (c31, .int)] s := hK
  have e31 : c31 = c7 := Option.some.inj ((hK.2 1 _ rfl).2.symm.trans (hK.2 0 _ rfl).2)
  rw [e31] at hP hD
  have hK := hK.sub (tys' := [(c7, .int)]) [0] rfl
  have hP : va_P D zwCl [(h0, .inr (4, [.ref q7, .ref q15, .ref q23, .null, .int 0])), (q7, .inl (c7, 30, .inl (fun _ => 0))), (q15, .inl (c7, 30, .inl (fun _ => 0))), (q23, .inl (c7, 30, .inl (fun _ => 0))), (q31, .inl (c7, 30, .inl (fun _ => 0)))] H := hP
  have hD : va_D A [(h0, .inr (4, [.ref q7, .ref q15, .ref q23, .null, .int 0])), (q7, .inl (c7, 30, .inl (fun _ => 0))), (q15, .inl (c7, 30, .inl (fun _ => 0))), (q23, .inl (c7, 30, .inl (fun _ => 0))), (q31, .inl (c7, 30, .inl (fun _ => 0)))] := hD
  refine va_putF (D := D) (ci := 4) (v := .ref q31) (ty := .array .int) (C := zR4) (T := zT4) (N := 5) (fs := [.ref q7, .ref q15, .ref q23, .null, .int 0]) hx hb hts zw_in4 zY4 zw_ty4 zw_nm4 hown hK hP hD hS 0 rfl rfl 3 (by decide) (hts _ zif_Lo_init_19) (fun _ h9 => h9) rfl hin rfl (by decide +kernel) rfl rfl (Nat.le_of_ble_eq_true rfl) zd_Lo_init_33 (fun H locs hP hD hS => ?_)
  have hP : va_P D zwCl [(h0, .inr (4, [.ref q7, .ref q15, .ref q23, .ref q31, .int 0])), (q7, .inl (c7, 30, .inl (fun _ => 0))), (q15, .inl (c7, 30, .inl (fun _ => 0))), (q23, .inl (c7, 30, .inl (fun _ => 0))), (q31, .inl (c7, 30, .inl (fun _ => 0)))] H := hP
  have hD : va_D A [(h0, .inr (4, [.ref q7, .ref q15, .ref q23, .ref q31, .int 0])), (q7, .inl (c7, 30, .inl (fun _ => 0))), (q15, .inl (c7, 30, .inl (fun _ => 0))), (q23, .inl (c7, 30, .inl (fun _ => 0))), (q31, .inl (c7, 30, .inl (fun _ => 0)))] := hD
  exact W.vret hx hb hr (fun t ht hW => ⟨⟨((fun k => match k with | 1 => q7 | 2 => q15 | 3 => q23 | 4 => q31 | _ => 0), (fun k => match k with | _ => c7)), rfl, trivial, by rw [ht]; exact hP, va_K.moved hW.alike hK, hD⟩, hS.F ht⟩) hS.2.2 zd_Lo_init_36
set_option maxRecDepth 100000 in
theorem zif_Mo_init_63 : Cond.fieldLink zR10 63 (zT10 21).1 (zT10 21).2.1 (zT10 21).2.2.1 ∈ zwAll := zw_at 686 rfl rfl
set_option maxRecDepth 100000 in
theorem zif_Mo_init_60 : Cond.fieldLink zR10 60 (zT10 18).1 (zT10 18).2.1 (zT10 18).2.2.1 ∈ zwAll := zw_at 683 rfl rfl
set_option maxRecDepth 100000 in
theorem zif_Mo_init_57 : Cond.fieldLink zR10 57 (zT10 17).1 (zT10 17).2.1 (zT10 17).2.2.1 ∈ zwAll := zw_at 682 rfl rfl
set_option maxRecDepth 100000 in
theorem zif_Mo_init_54 : Cond.fieldLink zR10 54 (zT10 16).1 (zT10 16).2.1 (zT10 16).2.2.1 ∈ zwAll := zw_at 681 rfl rfl
set_option maxRecDepth 100000 in
theorem zif_Mo_init_51 : Cond.fieldLink zR10 51 (zT10 15).1 (zT10 15).2.1 (zT10 15).2.2.1 ∈ zwAll := zw_at 680 rfl rfl
set_option maxRecDepth 100000 in
theorem zif_Mo_init_48 : Cond.fieldLink zR10 48 (zT10 14).1 (zT10 14).2.1 (zT10 14).2.2.1 ∈ zwAll := zw_at 679 rfl rfl
set_option maxRecDepth 100000 in
theorem zif_Mo_init_45 : Cond.fieldLink zR10 45 (zT10 13).1 (zT10 13).2.1 (zT10 13).2.2.1 ∈ zwAll := zw_at 678 rfl rfl
set_option maxRecDepth 100000 in
theorem zif_Mo_init_42 : Cond.fieldLink zR10 42 (zT10 11).1 (zT10 11).2.1 (zT10 11).2.2.1 ∈ zwAll := zw_at 676 rfl rfl
set_option maxRecDepth 100000 in
theorem zif_Mo_init_39 : Cond.fieldLink zR10 39 (zT10 10).1 (zT10 10).2.1 (zT10 10).2.2.1 ∈ zwAll := zw_at 675 rfl rfl
set_option maxRecDepth 100000 in
theorem zif_Mo_init_35 : Cond.fieldLink zR10 35 (zT10 9).1 (zT10 9).2.1 (zT10 9).2.2.1 ∈ zwAll := zw_at 674 rfl rfl
set_option maxRecDepth 100000 in
theorem zif_Mo_init_32 : Cond.fieldLink zR10 32 (zT10 8).1 (zT10 8).2.1 (zT10 8).2.2.1 ∈ zwAll := zw_at 673 rfl rfl
set_option maxRecDepth 100000 in
theorem zif_Mo_init_29 : Cond.fieldLink zR10 29 (zT10 7).1 (zT10 7).2.1 (zT10 7).2.2.1 ∈ zwAll := zw_at 672 rfl rfl
set_option maxRecDepth 100000 in
theorem zif_Mo_init_26 : Cond.fieldLink zR10 26 (zT10 6).1 (zT10 6).2.1 (zT10 6).2.2.1 ∈ zwAll := zw_at 671 rfl rfl
set_option maxRecDepth 100000 in
theorem zif_Mo_init_23 : Cond.fieldLink zR10 23 (zT10 5).1 (zT10 5).2.1 (zT10 5).2.2.1 ∈ zwAll := zw_at 670 rfl rfl
set_option maxRecDepth 100000 in
theorem zif_Mo_init_19 : Cond.fieldLink zR10 19 (zT10 4).1 (zT10 4).2.1 (zT10 4).2.2.1 ∈ zwAll := zw_at 669 rfl rfl
set_option maxRecDepth 100000 in
theorem zif_Mo_init_16 : Cond.fieldLink zR10 16 (zT10 3).1 (zT10 3).2.1 (zT10 3).2.2.1 ∈ zwAll := zw_at 668 rfl rfl
set_option maxRecDepth 100000 in
theorem zif_Mo_init_13 : Cond.fieldLink zR10 13 (zT10 2).1 (zT10 2).2.1 (zT10 2).2.2.1 ∈ zwAll := zw_at 667 rfl rfl
set_option maxRecDepth 100000 in
theorem zif_Mo_init_7 : Cond.fieldLink zR10 7 (zT10 1).1 (zT10 1).2.1 (zT10 1).2.2.1 ∈ zwAll := zw_at 666 rfl rfl
set_option maxRecDepth 100000 in
theorem zio_Mo_init : Cond.methodLink zR10 1 Lib.objectInit ∈ zwAll := zw_at 664 rfl rfl
abbrev zrm_Mo_init : Room := { frames := 1, cells := 15, slots := 400, locals := 14 }
set_option maxRecDepth 100000 in
set_option maxHeartbeats 4000000 in
theorem zi_Mo_init (l : Launch) (D : va_G) (h0 sz : Nat) : Met l zy_Mo_init (Cond.code zy_Mo_init zo_Mo_init 1 none :: zwAll) zrm_Mo_init (va_Pc [.ref h0] (fun U => U.heap.size = sz ∧ va_P D zwCl [(h0, .inr (5, [.int 0, .int 0, .int 0, .int 0, .null, .null, .null, .null, .null, .null, .null, .null, .int 0, .null, .null, .null, .null, .null, .null, .int 0, .int 0, .null, .int 0]))] U.heap ∧ va_K D zwCl [] U ∧ va_D (fun _ => True) [(h0, .inr (5, [.int 0, .int 0, .int 0, .int 0, .null, .null, .null, .null, .null, .null, .null, .null, .int 0, .null, .null, .null, .null, .null, .null, .int 0, .int 0, .null, .int 0]))])) (va_Qv (fun _ : (Nat → Nat) × (Nat → ClassId) => True) (fun u t => va_P D zwCl [(h0, .inr (5, [.int 0, .int 2, .int 1, .int 1, .ref (u.1 1), .ref (u.1 2), .ref (u.1 3), .ref (u.1 4), .ref (u.1 5), .ref (u.1 6), .ref (u.1 7), .ref (u.1 8), .int 0, .ref (u.1 9), .ref (u.1 10), .ref (u.1 11), .ref (u.1 12), .ref (u.1 13), .ref (u.1 14), .int 0, .int 0, .ref (u.1 15), .int 0])), (u.1 1, .inl (u.2 0, 5, .inl (fun _ => 0))), (u.1 2, .inl (u.2 0, 5, .inl (fun _ => 0))), (u.1 3, .inl (u.2 0, 5, .inl (fun _ => 0))), (u.1 4, .inl (u.2 0, 5, .inl (fun _ => 0))), (u.1 5, .inl (u.2 0, 5, .inl (fun _ => 0))), (u.1 6, .inl (u.2 1, 5, .inl (fun _ => 0))), (u.1 7, .inl (u.2 1, 5, .inl (fun _ => 0))), (u.1 8, .inl (u.2 1, 5, .inl (fun _ => 0))), (u.1 9, .inl (u.2 0, 48, .inl (fun _ => 0))), (u.1 10, .inl (u.2 0, 48, .inl (fun _ => 0))), (u.1 11, .inl (u.2 0, 48, .inl (fun _ => 0))), (u.1 12, .inl (u.2 0, 48, .inl (fun _ => 0))), (u.1 13, .inl (u.2 0, 24, .inl (fun _ => 0))), (u.1 14, .inl (u.2 0, 24, .inl (fun _ => 0))), (u.1 15, .inl (u.2 0, 120, .inl (fun _ => 0)))] t.heap ∧ va_K D zwCl [(u.2 0, .int), (u.2 1, .boolean)] t ∧ va_D (va_A [(h0, .inr (5, [.int 0, .int 0, .int 0, .int 0, .null, .null, .null, .null, .null, .null, .null, .null, .int 0, .null, .null, .null, .null, .null, .null, .int 0, .int 0, .null, .int 0]))] sz) [(h0, .inr (5, [.int 0, .int 2, .int 1, .int 1, .ref (u.1 1), .ref (u.1 2), .ref (u.1 3), .ref (u.1 4), .ref (u.1 5), .ref (u.1 6), .ref (u.1 7), .ref (u.1 8), .int 0, .ref (u.1 9), .ref (u.1 10), .ref (u.1 11), .ref (u.1 12), .ref (u.1 13), .ref (u.1 14), .int 0, .int 0, .ref (u.1 15), .int 0])), (u.1 1, .inl (u.2 0, 5, .inl (fun _ => 0))), (u.1 2, .inl (u.2 0, 5, .inl (fun _ => 0))), (u.1 3, .inl (u.2 0, 5, .inl (fun _ => 0))), (u.1 4, .inl (u.2 0, 5, .inl (fun _ => 0))), (u.1 5, .inl (u.2 0, 5, .inl (fun _ => 0))), (u.1 6, .inl (u.2 1, 5, .inl (fun _ => 0))), (u.1 7, .inl (u.2 1, 5, .inl (fun _ => 0))), (u.1 8, .inl (u.2 1, 5, .inl (fun _ => 0))), (u.1 9, .inl (u.2 0, 48, .inl (fun _ => 0))), (u.1 10, .inl (u.2 0, 48, .inl (fun _ => 0))), (u.1 11, .inl (u.2 0, 48, .inl (fun _ => 0))), (u.1 12, .inl (u.2 0, 48, .inl (fun _ => 0))), (u.1 13, .inl (u.2 0, 24, .inl (fun _ => 0))), (u.1 14, .inl (u.2 0, 24, .inl (fun _ => 0))), (u.1 15, .inl (u.2 0, 120, .inl (fun _ => 0)))]) (va_A [(h0, .inr (5, [.int 0, .int 0, .int 0, .int 0, .null, .null, .null, .null, .null, .null, .null, .null, .int 0, .null, .null, .null, .null, .null, .null, .int 0, .int 0, .null, .int 0]))] sz)) 15 400 (va_A [(h0, .inr (5, [.int 0, .int 0, .int 0, .int 0, .null, .null, .null, .null, .null, .null, .null, .null, .int 0, .null, .null, .null, .null, .null, .null, .int 0, .int 0, .null, .int 0]))] sz) := by
  refine Met.ofW (cc := zo_Mo_init) (maxL := 1) (ret := none) (by decide) rfl ?_
  intro p e s m args below meth c s₁ B hml hv
  obtain ⟨rfl, hsz, hP, hK, hD0⟩ := hv
  have hx := B.exec
  have hb := B.bytes
  have hr := B.returns
  have hts0 := atoms_spec (ws := Cond.code zy_Mo_init zo_Mo_init 1 none :: zwAll) B.pre
  have hts : ∀ w ∈ zwAll, w.before _ s = true := fun w h => hts0 w (List.mem_cons_of_mem _ h)
  have hown : s.vm.findClass zR10 = some m.cls := findClass_of_methodNamed B.named
  have hlocks := B.notSynchronized
  have hin : meth.name = "<init>" := (name_of_methodNamed B.named B.method).1
  subst hsz
  have hD := hD0.self (sz := s.heap.size)
  generalize hAe : va_A [(h0, .inr (5, [.int 0, .int 0, .int 0, .int 0, .null, .null, .null, .null, .null, .null, .null, .null, .int 0, .null, .null, .null, .null, .null, .null, .int 0, .int 0, .null, .int 0]))] s.heap.size = A at hD ⊢
  have hA : ∀ q : Nat, s.heap.size ≤ q → A q := fun q h => by rw [← hAe]; exact Or.inr h
  have hS : va_S A s.heap s.heap [] := va_S.rf
  have hP : va_P D zwCl [(h0, .inr (5, [.int 0, .int 0, .int 0, .int 0, .null, .null, .null, .null, .null, .null, .null, .null, .int 0, .null, .null, .null, .null, .null, .null, .int 0, .int 0, .null, .int 0]))] s.heap := hP
  have hl := lv_entry ([.ref h0]) (n := 1) (Nat.le_of_ble_eq_true rfl)
  rw [lg_entry_eq]
  generalize (lg_sl ([.ref h0]) ++ List.replicate (1 - (lg_sl ([.ref h0])).length) Slot.unset).toArray = ls at hl ⊢
  have hl : lv_has ls 1 [(0, .ref h0)] := hl
  refine lv_aload_n hx hb zd_Mo_init_0 rfl (lv_at hl 0 rfl) ?_
  refine W.objInit hx hb hown (hts _ zio_Mo_init) (hts _ zio_1) (hts _ zio_2) rfl (by rw [hml]; exact hl.1) rfl zd_Mo_init_1 (Nat.le_of_ble_eq_true rfl) (Nat.le_of_ble_eq_true rfl) ?_
  refine W.eq (g2 := F0 m 4 ls []) rfl ?_
  refine lv_aload_n hx hb zd_Mo_init_4 rfl (lv_at hl 0 rfl) ?_
  refine lv_iconst (v := 2) hx hb zd_Mo_init_5 (by decide) ?_
  refine va_put (D := D) (ci := 5) (v := .int 2) (ty := .int) (C := zR10) (T := zT10) (N := 23) (fs := [.int 0, .int 0, .int 0, .int 0, .null, .null, .null, .null, .null, .null, .null, .null, .int 0, .null, .null, .null, .null, .null, .null, .int 0, .int 0, .null, .int 0]) hx hb hts zw_in10 zY10 zw_ty10 zw_nm10 hown hK hP hD hS 0 rfl rfl 1 (by decide) (hts _ zif_Mo_init_7) (fun _ h9 => h9) rfl (by decide +kernel) rfl rfl (Nat.le_of_ble_eq_true rfl) zd_Mo_init_6 (fun H locs hP hD hS => ?_)
  have hP : va_P D zwCl [(h0, .inr (5, [.int 0, .int 2, .int 0, .int 0, .null, .null, .null, .null, .null, .null, .null, .null, .int 0, .null, .null, .null, .null, .null, .null, .int 0, .int 0, .null, .int 0]))] H := hP
  have hD : va_D A [(h0, .inr (5, [.int 0, .int 2, .int 0, .int 0, .null, .null, .null, .null, .null, .null, .null, .null, .int 0, .null, .null, .null, .null, .null, .null, .int 0, .int 0, .null, .int 0]))] := hD
  refine lv_aload_n hx hb zd_Mo_init_9 rfl (lv_at hl 0 rfl) ?_
  refine lv_iconst (v := 1) hx hb zd_Mo_init_10 (by decide) ?_
  refine va_put (D := D) (ci := 5) (v := .int 1) (ty := .int) (C := zR10) (T := zT10) (N := 23) (fs := [.int 0, .int 2, .int 0, .int 0, .null, .null, .null, .null, .null, .null, .null, .null, .int 0, .null, .null, .null, .null, .null, .null, .int 0, .int 0, .null, .int 0]) hx hb hts zw_in10 zY10 zw_ty10 zw_nm10 hown hK hP hD hS 0 rfl rfl 2 (by decide) (hts _ zif_Mo_init_13) (fun _ h9 => h9) rfl (by decide +kernel) rfl rfl (Nat.le_of_ble_eq_true rfl) zd_Mo_init_11 (fun H locs hP hD hS => ?_)
  have hP : va_P D zwCl [(h0, .inr (5, [.int 0, .int 2, .int 1, .int 0, .null, .null, .null, .null, .null, .null, .null, .null, .int 0, .null, .null, .null, .null, .null, .null, .int 0, .int 0, .null, .int 0]))] H := hP
  have hD : va_D A [(h0, .inr (5, [.int 0, .int 2, .int 1, .int 0, .null, .null, .null, .null, .null, .null, .null, .null, .int 0, .null, .null, .null, .null, .null, .null, .int 0, .int 0, .null, .int 0]))] := hD
  refine lv_aload_n hx hb zd_Mo_init_14 rfl (lv_at hl 0 rfl) ?_
  refine lv_iconst (v := 1) hx hb zd_Mo_init_15 (by decide) ?_
  refine va_put (D := D) (ci := 5) (v := .int 1) (ty := .int) (C := zR10) (T := zT10) (N := 23) (fs := [.int 0, .int 2, .int 1, .int 0, .null, .null, .null, .null, .null, .null, .null, .null, .int 0, .null, .null, .null, .null, .null, .null, .int 0, .int 0, .null, .int 0]) hx hb hts zw_in10 zY10 zw_ty10 zw_nm10 hown hK hP hD hS 0 rfl rfl 3 (by decide) (hts _ zif_Mo_init_16) (fun _ h9 => h9) rfl (by decide +kernel) rfl rfl (Nat.le_of_ble_eq_true rfl) zd_Mo_init_16 (fun H locs hP hD hS => ?_)
  have hP : va_P D zwCl [(h0, .inr (5, [.int 0, .int 2, .int 1, .int 1, .null, .null, .null, .null, .null, .null, .null, .null, .int 0, .null, .null, .null, .null, .null, .null, .int 0, .int 0, .null, .int 0]))] H := hP
  have hD : va_D A [(h0, .inr (5, [.int 0, .int 2, .int 1, .int 1, .null, .null, .null, .null, .null, .null, .null, .null, .int 0, .null, .null, .null, .null, .null, .null, .int 0, .int 0, .null, .int 0]))] := hD
  refine lv_aload_n hx hb zd_Mo_init_19 rfl (lv_at hl 0 rfl) ?_
  refine lv_iconst (v := 5) hx hb zd_Mo_init_20 (by decide) ?_
  refine va_newa (atype := .int) (D := D) (cl := zwCl) (ty := .int) (N' := 5) (a0 := (5, .inl (fun _ => 0))) hx hb (hts _ zi_aI) rfl hK hP hD hS hA (fun _ => rfl) (by decide) (by decide) (by decide) (Nat.le_of_ble_eq_true rfl) (Nat.le_of_ble_eq_true rfl) zd_Mo_init_21 (fun q21 c21 H hK hP hD hS => ?_)
  have hK : va_K D zwCl [(c21, .int)] s := hK
  have hP : va_P D zwCl [(h0, .inr (5, [.int 0, .int 2, .int 1, .int 1, .null, .null, .null, .null, .null, .null, .null, .null, .int 0, .null, .null, .null, .null, .null, .null, .int 0, .int 0, .null, .int 0])), (q21, .inl (c21, 5, .inl (fun _ => 0)))] H := hP
  have hD : va_D A [(h0, .inr (5, [.int 0, .int 2, .int 1, .int 1, .null, .null, .null, .null, .null, .null, .null, .null, .int 0, .null, .null, .null, .null, .null, .null, .int 0, .int 0, .null, .int 0])), (q21, .inl (c21, 5, .inl (fun _ => 0)))] := hD
  refine va_putF (D := D) (ci := 5) (v := .ref q21) (ty := .array .int) (C := zR10) (T := zT10) (N := 23) (fs := [.int 0, .int 2, .int 1, .int 1, .null, .null, .null, .null, .null, .null, .null, .null, .int 0, .null, .null, .null, .null, .null, .null, .int 0, .int 0, .null, .int 0]) hx hb hts zw_in10 zY10 zw_ty10 zw_nm10 hown hK hP hD hS 0 rfl rfl 4 (by decide) (hts _ zif_Mo_init_19) (fun _ h9 => h9) rfl hin rfl (by decide +kernel) rfl rfl (Nat.le_of_ble_eq_true rfl) zd_Mo_init_23 (fun H locs hP hD hS => ?_)
  have hP : va_P D zwCl [(h0, .inr (5, [.int 0, .int 2, .int 1, .int 1, .ref q21, .null, .null, .null, .null, .null, .null, .null, .int 0, .null, .null, .null, .null, .null, .null, .int 0, .int 0, .null, .int 0])), (q21, .inl (c21, 5, .inl (fun _ => 0)))] H := hP
  have hD : va_D A [(h0, .inr (5, [.int 0, .int 2, .int 1, .int 1, .ref q21, .null, .null, .null, .null, .null, .null, .null, .int 0, .null, .null, .null, .null, .null, .null, .int 0, .int 0, .null, .int 0])), (q21, .inl (c21, 5, .inl (fun _ => 0)))] := hD
  refine lv_aload_n hx hb zd_Mo_init_26 rfl (lv_at hl 0 rfl) ?_
  refine lv_iconst (v := 5) hx hb zd_Mo_init_27 (by decide) ?_
  refine va_newa (atype := .int) (D := D) (cl := zwCl) (ty := .int) (N' := 5) (a0 := (5, .inl (fun _ => 0))) hx hb (hts _ zi_aI) rfl hK hP hD hS hA (fun _ => rfl) (by decide) (by decide) (by decide) (Nat.le_of_ble_eq_true rfl) (Nat.le_of_ble_eq_true rfl) zd_Mo_init_28 (fun q28 c28 H hK hP hD hS => ?_)
  have hK : va_K D zwCl [(c21, .int), (c28, .int)] s := hK
  have e28 : c28 = c21 := Option.some.inj ((hK.2 1 _ rfl).2.symm.trans (hK.2 0 _ rfl).2)
  rw [e28] at hP hD
  have hK := hK.sub (tys' := [(c21, .int)]) [0] rfl
  have hP : va_P D zwCl [(h0, .inr (5, [.int 0, .int 2, .int 1, .int 1, .ref q21, .null, .null, .null, .null, .null, .null, .null, .int 0, .null, .null, .null, .null, .null, .null, .int 0, .int 0, .null, .int 0])), (q21, .inl (c21, 5, .inl (fun _ => 0))), (q28, .inl (c21, 5, .inl (fun _ => 0)))] H := hP
  have hD : va_D A [(h0, .inr (5, [.int 0, .int 2, .int 1, .int 1, .ref q21, .null, .null, .null, .null, .null, .null, .null, .int 0, .null, .null, .null, .null, .null, .null, .int 0, .int 0, .null, .int 0])), (q21, .inl (c21, 5, .inl (fun _ => 0))), (q28, .inl (c21, 5, .inl (fun _ => 0)))] := hD
  refine va_putF (D := D) (ci := 5) (v := .ref q28) (ty := .array .int) (C := zR10) (T := zT10) (N := 23) (fs := [.int 0, .int 2, .int 1, .int 1, .ref q21, .null, .null, .null, .null, .null, .null, .null, .int 0, .null, .null, .null, .null, .null, .null, .int 0, .int 0, .null, .int 0]) hx hb hts zw_in10 zY10 zw_ty10 zw_nm10 hown hK hP hD hS 0 rfl rfl 5 (by decide) (hts _ zif_Mo_init_23) (fun _ h9 => h9) rfl hin rfl (by decide +kernel) rfl rfl (Nat.le_of_ble_eq_true rfl) zd_Mo_init_30 (fun H locs hP hD hS => ?_)
  have hP : va_P D zwCl [(h0, .inr (5, [.int 0, .int 2, .int 1, .int 1, .ref q21, .ref q28, .null, .null, .null, .null, .null, .null, .int 0, .null, .null, .null, .null, .null, .null, .int 0, .int 0, .null, .int 0])), (q21, .inl (c21, 5, .inl (fun _ => 0))), (q28, .inl (c21, 5, .inl (fun _ => 0)))] H := hP
  have hD : va_D A [(h0, .inr (5, [.int 0, .int 2, .int 1, .int 1, .ref q21, .ref q28, .null, .null, .null, .null, .null, .null, .int 0, .null, .null, .null, .null, .null, .null, .int 0, .int 0, .null, .int 0])), (q21, .inl (c21, 5, .inl (fun _ => 0))), (q28, .inl (c21, 5, .inl (fun _ => 0)))] := hD
  refine lv_aload_n hx hb zd_Mo_init_33 rfl (lv_at hl 0 rfl) ?_
  refine lv_iconst (v := 5) hx hb zd_Mo_init_34 (by decide) ?_
  refine va_newa (atype := .int) (D := D) (cl := zwCl) (ty := .int) (N' := 5) (a0 := (5, .inl (fun _ => 0))) hx hb (hts _ zi_aI) rfl hK hP hD hS hA (fun _ => rfl) (by decide) (by decide) (by decide) (Nat.le_of_ble_eq_true rfl) (Nat.le_of_ble_eq_true rfl) zd_Mo_init_35 (fun q35 c35 H hK hP hD hS => ?_)
  have hK : va_K D zwCl [(c21, .int), (c35, .int)] s := hK
  have e35 : c35 = c21 := Option.some.inj ((hK.2 1 _ rfl).2.symm.trans (hK.2 0 _ rfl).2)
  rw [e35] at hP hD
  have hK := hK.sub (tys' := [(c21, .int)]) [0] rfl
  have hP : va_P D zwCl [(h0, .inr (5, [.int 0, .int 2, .int 1, .int 1, .ref q21, .ref q28, .null, .null, .null, .null, .null, .null, .int 0, .null, .null, .null, .null, .null, .null, .int 0, .int 0, .null, .int 0])), (q21, .inl (c21, 5, .inl (fun _ => 0))), (q28, .inl (c21, 5, .inl (fun _ => 0))), (q35, .inl (c21, 5, .inl (fun _ => 0)))] H := hP
  have hD : va_D A [(h0, .inr (5, [.int 0, .int 2, .int 1, .int 1, .ref q21, .ref q28, .null, .null, .null, .null, .null, .null, .int 0, .null, .null, .null, .null, .null, .null, .int 0, .int 0, .null, .int 0])), (q21, .inl (c21, 5, .inl (fun _ => 0))), (q28, .inl (c21, 5, .inl (fun _ => 0))), (q35, .inl (c21, 5, .inl (fun _ => 0)))] := hD
  refine va_putF (D := D) (ci := 5) (v := .ref q35) (ty := .array .int) (C := zR10) (T := zT10) (N := 23) (fs := [.int 0, .int 2, .int 1, .int 1, .ref q21, .ref q28, .null, .null, .null, .null, .null, .null, .int 0, .null, .null, .null, .null, .null, .null, .int 0, .int 0, .null, .int 0]) hx hb hts zw_in10 zY10 zw_ty10 zw_nm10 hown hK hP hD hS 0 rfl rfl 6 (by decide) (hts _ zif_Mo_init_26) (fun _ h9 => h9) rfl hin rfl (by decide +kernel) rfl rfl (Nat.le_of_ble_eq_true rfl) zd_Mo_init_37 (fun H locs hP hD hS => ?_)
  have hP : va_P D zwCl [(h0, .inr (5, [.int 0, .int 2, .int 1, .int 1, .ref q21, .ref q28, .ref q35, .null, .null, .null, .null, .null, .int 0, .null, .null, .null, .null, .null, .null, .int 0, .int 0, .null, .int 0])), (q21, .inl (c21, 5, .inl (fun _ => 0))), (q28, .inl (c21, 5, .inl (fun _ => 0))), (q35, .inl (c21, 5, .inl (fun _ => 0)))] H := hP
  have hD : va_D A [(h0, .inr (5, [.int 0, .int 2, .int 1, .int 1, .ref q21, .ref q28, .ref q35, .null, .null, .null, .null, .null, .int 0, .null, .null, .null, .null, .null, .null, .int 0, .int 0, .null, .int 0])), (q21, .inl (c21, 5, .inl (fun _ => 0))), (q28, .inl (c21, 5, .inl (fun _ => 0))), (q35, .inl (c21, 5, .inl (fun _ => 0)))] := hD
  refine lv_aload_n hx hb zd_Mo_init_40 rfl (lv_at hl 0 rfl) ?_
  refine lv_iconst (v := 5) hx hb zd_Mo_init_41 (by decide) ?_
  refine va_newa (atype := .int) (D := D) (cl := zwCl) (ty := .int) (N' := 5) (a0 := (5, .inl (fun _ => 0))) hx hb (hts _ zi_aI) rfl hK hP hD hS hA (fun _ => rfl) (by decide) (by decide) (by decide) (Nat.le_of_ble_eq_true rfl) (Nat.le_of_ble_eq_true rfl) zd_Mo_init_42 (fun q42 c42 H hK hP hD hS => ?_)
  have hK : va_K D zwCl [(c21, .int), (c42, .int)] s := hK
  have e42 : c42 = c21 := Option.some.inj ((hK.2 1 _ rfl).2.symm.trans (hK.2 0 _ rfl).2)
  rw [e42] at hP hD
  have hK := hK.sub (tys' := [(c21, .int)]) [0] rfl
  have hP : va_P D zwCl [(h0, .inr (5, [.int 0, .int 2, .int 1, .int 1, .ref q21, .ref q28, .ref q35, .null, .null, .null, .null, .null, .int 0, .null, .null, .null, .null, .null, .null, .int 0, .int 0, .null, .int 0])), (q21, .inl (c21, 5, .inl (fun _ => 0))), (q28, .inl (c21, 5, .inl (fun _ => 0))), (q35, .inl (c21, 5, .inl (fun _ => 0))), (q42, .inl (c21, 5, .inl (fun _ => 0)))] H := hP
  have hD : va_D A [(h0, .inr (5, [.int 0, .int 2, .int 1, .int 1, .ref q21, .ref q28, .ref q35, .null, .null, .null, .null, .null, .int 0, .null, .null, .null, .null, .null, .null, .int 0, .int 0, .null, .int 0])), (q21, .inl (c21, 5, .inl (fun _ => 0))), (q28, .inl (c21, 5, .inl (fun _ => 0))), (q35, .inl (c21, 5, .inl (fun _ => 0))), (q42, .inl (c21, 5, .inl (fun _ => 0)))] := hD
  refine va_putF (D := D) (ci := 5) (v := .ref q42) (ty := .array .int) (C := zR10) (T := zT10) (N := 23) (fs := [.int 0, .int 2, .int 1, .int 1, .ref q21, .ref q28, .ref q35, .null, .null, .null, .null, .null, .int 0, .null, .null, .null, .null, .null, .null, .int 0, .int 0, .null, .int 0]) hx hb hts zw_in10 zY10 zw_ty10 zw_nm10 hown hK hP hD hS 0 rfl rfl 7 (by decide) (hts _ zif_Mo_init_29) (fun _ h9 => h9) rfl hin rfl (by decide +kernel) rfl rfl (Nat.le_of_ble_eq_true rfl) zd_Mo_init_44 (fun H locs hP hD hS => ?_)
  have hP : va_P D zwCl [(h0, .inr (5, [.int 0, .int 2, .int 1, .int 1, .ref q21, .ref q28, .ref q35, .ref q42, .null, .null, .null, .null, .int 0, .null, .null, .null, .null, .null, .null, .int 0, .int 0, .null, .int 0])), (q21, .inl (c21, 5, .inl (fun _ => 0))), (q28, .inl (c21, 5, .inl (fun _ => 0))), (q35, .inl (c21, 5, .inl (fun _ => 0))), (q42, .inl (c21, 5, .inl (fun _ => 0)))] H := hP
  have hD : va_D A [(h0, .inr (5, [.int 0, .int 2, .int 1, .int 1, .ref q21, .ref q28, .ref q35, .ref q42, .null, .null, .null, .null, .int 0, .null, .null, .null, .null, .null, .null, .int 0, .int 0, .null, .int 0])), (q21, .inl (c21, 5, .inl (fun _ => 0))), (q28, .inl (c21, 5, .inl (fun _ => 0))), (q35, .inl (c21, 5, .inl (fun _ => 0))), (q42, .inl (c21, 5, .inl (fun _ => 0)))] := hD
  refine lv_aload_n hx hb zd_Mo_init_47 rfl (lv_at hl 0 rfl) ?_
  refine lv_iconst (v := 5) hx hb zd_Mo_init_48 (by decide) ?_
  refine va_newa (atype := .int) (D := D) (cl := zwCl) (ty := .int) (N' := 5) (a0 := (5, .inl (fun _ => 0))) hx hb (hts _ zi_aI) rfl hK hP hD hS hA (fun _ => rfl) (by decide) (by decide) (by decide) (Nat.le_of_ble_eq_true rfl) (Nat.le_of_ble_eq_true rfl) zd_Mo_init_49 (fun q49 c49 H hK hP hD hS => ?_)
  have hK : va_K D zwCl [(c21, .int), (c49, .int)] s := hK
  have e49 : c49 = c21 := Option.some.inj ((hK.2 1 _ rfl).2.symm.trans (hK.2 0 _ rfl).2)
  rw [e49] at hP hD
  have hK := hK.sub (tys' := [(c21, .int)]) [0] rfl
  have hP : va_P D zwCl [(h0, .inr (5, [.int 0, .int 2, .int 1, .int 1, .ref q21, .ref q28, .ref q35, .ref q42, .null, .null, .null, .null, .int 0, .null, .null, .null, .null, .null, .null, .int 0, .int 0, .null, .int 0])), (q21, .inl (c21, 5, .inl (fun _ => 0))), (q28, .inl (c21, 5, .inl (fun _ => 0))), (q35, .inl (c21, 5, .inl (fun _ => 0))), (q42, .inl (c21, 5, .inl (fun _ => 0))), (q49, .inl (c21, 5, .inl (fun _ => 0)))] H := hP
  have hD : va_D A [(h0, .inr (5, [.int 0, .int 2, .int 1, .int 1, .ref q21, .ref q28, .ref q35, .ref q42, .null, .null, .null, .null, .int 0, .null, .null, .null, .null, .null, .null, .int 0, .int 0, .null, .int 0])), (q21, .inl (c21, 5, .inl (fun _ => 0))), (q28, .inl (c21, 5, .inl (fun _ => 0))), (q35, .inl (c21, 5, .inl (fun _ => 0))), (q42, .inl (c21, 5, .inl (fun _ => 0))), (q49, .inl (c21, 5, .inl (fun _ => 0)))] := hD
  refine va_putF (D := D) (ci := 5) (v := .ref q49) (ty := .array .int) (C := zR10) (T := zT10) (N := 23) (fs := [.int 0, .int 2, .int 1, .int 1, .ref q21, .ref q28, .ref q35, .ref q42, .null, .null, .null, .null, .int 0, .null, .null, .null, .null, .null, .null, .int 0, .int 0, .null, .int 0]) hx hb hts zw_in10 zY10 zw_ty10 zw_nm10 hown hK hP hD hS 0 rfl rfl 8 (by decide) (hts _ zif_Mo_init_32) (fun _ h9 => h9) rfl hin rfl (by decide +kernel) rfl rfl (Nat.le_of_ble_eq_true rfl) zd_Mo_init_51 (fun H locs hP hD hS => ?_)
  have hP : va_P D zwCl [(h0, .inr (5, [.int 0, .int 2, .int 1, .int 1, .ref q21, .ref q28, .ref q35, .ref q42, .ref q49, .null, .null, .null, .int 0, .null, .null, .null, .null, .null, .null, .int 0, .int 0, .null, .int 0])), (q21, .inl (c21, 5, .inl (fun _ => 0))), (q28, .inl (c21, 5, .inl (fun _ => 0))), (q35, .inl (c21, 5, .inl (fun _ => 0))), (q42, .inl (c21, 5, .inl (fun _ => 0))), (q49, .inl (c21, 5, .inl (fun _ => 0)))] H := hP
  have hD : va_D A [(h0, .inr (5, [.int 0, .int 2, .int 1, .int 1, .ref q21, .ref q28, .ref q35, .ref q42, .ref q49, .null, .null, .null, .int 0, .null, .null, .null, .null, .null, .null, .int 0, .int 0, .null, .int 0])), (q21, .inl (c21, 5, .inl (fun _ => 0))), (q28, .inl (c21, 5, .inl (fun _ => 0))), (q35, .inl (c21, 5, .inl (fun _ => 0))), (q42, .inl (c21, 5, .inl (fun _ => 0))), (q49, .inl (c21, 5, .inl (fun _ => 0)))] := hD
  refine lv_aload_n hx hb zd_Mo_init_54 rfl (lv_at hl 0 rfl) ?_
  refine lv_iconst (v := 5) hx hb zd_Mo_init_55 (by decide) ?_
  refine va_newa (atype := .boolean) (D := D) (cl := zwCl) (ty := .boolean) (N' := 5) (a0 := (5, .inl (fun _ => 0))) hx hb (hts _ zi_aZ) rfl hK hP hD hS hA (fun _ => rfl) (by decide) (by decide) (by decide) (Nat.le_of_ble_eq_true rfl) (Nat.le_of_ble_eq_true rfl) zd_Mo_init_56 (fun q56 c56 H hK hP hD hS => ?_)
  have hK : va_K D zwCl [(c21, .int), (c56, .boolean)] s := hK
  have hP : va_P D zwCl [(h0, .inr (5, [.int 0, .int 2, .int 1, .int 1, .ref q21, .ref q28, .ref q35, .ref q42, .ref q49, .null, .null, .null, .int 0, .null, .null, .null, .null, .null, .null, .int 0, .int 0, .null, .int 0])), (q21, .inl (c21, 5, .inl (fun _ => 0))), (q28, .inl (c21, 5, .inl (fun _ => 0))), (q35, .inl (c21, 5, .inl (fun _ => 0))), (q42, .inl (c21, 5, .inl (fun _ => 0))), (q49, .inl (c21, 5, .inl (fun _ => 0))), (q56, .inl (c56, 5, .inl (fun _ => 0)))] H := hP
  have hD : va_D A [(h0, .inr (5, [.int 0, .int 2, .int 1, .int 1, .ref q21, .ref q28, .ref q35, .ref q42, .ref q49, .null, .null, .null, .int 0, .null, .null, .null, .null, .null, .null, .int 0, .int 0, .null, .int 0])), (q21, .inl (c21, 5, .inl (fun _ => 0))), (q28, .inl (c21, 5, .inl (fun _ => 0))), (q35, .inl (c21, 5, .inl (fun _ => 0))), (q42, .inl (c21, 5, .inl (fun _ => 0))), (q49, .inl (c21, 5, .inl (fun _ => 0))), (q56, .inl (c56, 5, .inl (fun _ => 0)))] := hD
  refine va_putF (D := D) (ci := 5) (v := .ref q56) (ty := .array .boolean) (C := zR10) (T := zT10) (N := 23) (fs := [.int 0, .int 2, .int 1, .int 1, .ref q21, .ref q28, .ref q35, .ref q42, .ref q49, .null, .null, .null, .int 0, .null, .null, .null, .null, .null, .null, .int 0, .int 0, .null, .int 0]) hx hb hts zw_in10 zY10 zw_ty10 zw_nm10 hown hK hP hD hS 0 rfl rfl 9 (by decide) (hts _ zif_Mo_init_35) (fun _ h9 => h9) rfl hin rfl (by decide +kernel) rfl rfl (Nat.le_of_ble_eq_true rfl) zd_Mo_init_58 (fun H locs hP hD hS => ?_)
  have hP : va_P D zwCl [(h0, .inr (5, [.int 0, .int 2, .int 1, .int 1, .ref q21, .ref q28, .ref q35, .ref q42, .ref q49, .ref q56, .null, .null, .int 0, .null, .null, .null, .null, .null, .null, .int 0, .int 0, .null, .int 0])), (q21, .inl (c21, 5, .inl (fun _ => 0))), (q28, .inl (c21, 5, .inl (fun _ => 0))), (q35, .inl (c21, 5, .inl (fun _ => 0))), (q42, .inl (c21, 5, .inl (fun _ => 0))), (q49, .inl (c21, 5, .inl (fun _ => 0))), (q56, .inl (c56, 5, .inl (fun _ => 0)))] H := hP
  have hD : va_D A [(h0, .inr (5, [.int 0, .int 2, .int 1, .int 1, .ref q21, .ref q28, .ref q35, .ref q42, .ref q49, .ref q56, .null, .null, .int 0, .null, .null, .null, .null, .null, .null, .int 0, .int 0, .null, .int 0])), (q21, .inl (c21, 5, .inl (fun _ => 0))), (q28, .inl (c21, 5, .inl (fun _ => 0))), (q35, .inl (c21, 5, .inl (fun _ => 0))), (q42, .inl (c21, 5, .inl (fun _ => 0))), (q49, .inl (c21, 5, .inl (fun _ => 0))), (q56, .inl (c56, 5, .inl (fun _ => 0)))] := hD
  refine lv_aload_n hx hb zd_Mo_init_61 rfl (lv_at hl 0 rfl) ?_
  refine lv_iconst (v := 5) hx hb zd_Mo_init_62 (by decide) ?_
  refine va_newa (atype := .boolean) (D := D) (cl := zwCl) (ty := .boolean) (N' := 5) (a0 := (5, .inl (fun _ => 0))) hx hb (hts _ zi_aZ) rfl hK hP hD hS hA (fun _ => rfl) (by decide) (by decide) (by decide) (Nat.le_of_ble_eq_true rfl) (Nat.le_of_ble_eq_true rfl) zd_Mo_init_63 (fun q63 c63 H hK hP hD hS => ?_)
  have hK : va_K D zwCl [(c21, .int), (c56, .boolean), (c63, .boolean)] s := hK
  have e63 : c63 = c56 := Option.some.inj ((hK.2 2 _ rfl).2.symm.trans (hK.2 1 _ rfl).2)
  rw [e63] at hP hD
  have hK := hK.sub (tys' := [(c21, .int), (c56, .boolean)]) [0, 1] rfl
  have hP : va_P D zwCl [(h0, .inr (5, [.int 0, .int 2, .int 1, .int 1, .ref q21, .ref q28, .ref q35, .ref q42, .ref q49, .ref q56, .null, .null, .int 0, .null, .null, .null, .null, .null, .null, .int 0, .int 0, .null, .int 0])), (q21, .inl (c21, 5, .inl (fun _ => 0))), (q28, .inl (c21, 5, .inl (fun _ => 0))), (q35, .inl (c21, 5, .inl (fun _ => 0))), (q42, .inl (c21, 5, .inl (fun _ => 0))), (q49, .inl (c21, 5, .inl (fun _ => 0))), (q56, .inl (c56, 5, .inl (fun _ => 0))), (q63, .inl (c56, 5, .inl (fun _ => 0)))] H := hP
  have hD : va_D A [(h0, .inr (5, [.int 0, .int 2, .int 1, .int 1, .ref q21, .ref q28, .ref q35, .ref q42, .ref q49, .ref q56, .null, .null, .int 0, .null, .null, .null, .null, .null, .null, .int 0, .int 0, .null, .int 0])), (q21, .inl (c21, 5, .inl (fun _ => 0))), (q28, .inl (c21, 5, .inl (fun _ => 0))), (q35, .inl (c21, 5, .inl (fun _ => 0))), (q42, .inl (c21, 5, .inl (fun _ => 0))), (q49, .inl (c21, 5, .inl (fun _ => 0))), (q56, .inl (c56, 5, .inl (fun _ => 0))), (q63, .inl (c56, 5, .inl (fun _ => 0)))] := hD
  refine va_putF (D := D) (ci := 5) (v := .ref q63) (ty := .array .boolean) (C := zR10) (T := zT10) (N := 23) (fs := [.int 0, .int 2, .int 1, .int 1, .ref q21, .ref q28, .ref q35, .ref q42, .ref q49, .ref q56, .null, .null, .int 0, .null, .null, .null, .null, .null, .null, .int 0, .int 0, .null, .int 0]) hx hb hts zw_in10 zY10 zw_ty10 zw_nm10 hown hK hP hD hS 0 rfl rfl 10 (by decide) (hts _ zif_Mo_init_39) (fun _ h9 => h9) rfl hin rfl (by decide +kernel) rfl rfl (Nat.le_of_ble_eq_true rfl) zd_Mo_init_65 (fun H locs hP hD hS => ?_)
  have hP : va_P D zwCl [(h0, .inr (5, [.int 0, .int 2, .int 1, .int 1, .ref q21, .ref q28, .ref q35, .ref q42, .ref q49, .ref q56, .ref q63, .null, .int 0, .null, .null, .null, .null, .null, .null, .int 0, .int 0, .null, .int 0])), (q21, .inl (c21, 5, .inl (fun _ => 0))), (q28, .inl (c21, 5, .inl (fun _ => 0))), (q35, .inl (c21, 5, .inl (fun _ => 0))), (q42, .inl (c21, 5, .inl (fun _ => 0))), (q49, .inl (c21, 5, .inl (fun _ => 0))), (q56, .inl (c56, 5, .inl (fun _ => 0))), (q63, .inl (c56, 5, .inl (fun _ => 0)))] H := hP
  have hD : va_D A [(h0, .inr (5, [.int 0, .int 2, .int 1, .int 1, .ref q21, .ref q28, .ref q35, .ref q42, .ref q49, .ref q56, .ref q63, .null, .int 0, .null, .null, .null, .null, .null, .null, .int 0, .int 0, .null, .int 0])), (q21, .inl (c21, 5, .inl (fun _ => 0))), (q28, .inl (c21, 5, .inl (fun _ => 0))), (q35, .inl (c21, 5, .inl (fun _ => 0))), (q42, .inl (c21, 5, .inl (fun _ => 0))), (q49, .inl (c21, 5, .inl (fun _ => 0))), (q56, .inl (c56, 5, .inl (fun _ => 0))), (q63, .inl (c56, 5, .inl (fun _ => 0)))] := hD
  refine lv_aload_n hx hb zd_Mo_init_68 rfl (lv_at hl 0 rfl) ?_
  refine lv_iconst (v := 5) hx hb zd_Mo_init_69 (by decide) ?_
  refine va_newa (atype := .boolean) (D := D) (cl := zwCl) (ty := .boolean) (N' := 5) (a0 := (5, .inl (fun _ => 0))) hx hb (hts _ zi_aZ) rfl hK hP hD hS hA (fun _ => rfl) (by decide) (by decide) (by decide) (Nat.le_of_ble_eq_true rfl) (Nat.le_of_ble_eq_true rfl) zd_Mo_init_70 (fun q70 c70 H hK hP hD hS => ?_)
  have hK : va_K D zwCl [(c21, .int), (c56, .boolean), (c70, .boolean)] s := hK
  have e70 : c70 = c56 := Option.some.inj ((hK.2 2 _ rfl).2.symm.trans (hK.2 1 _ rfl).2)
  rw [e70] at hP hD
  have hK := hK.sub (tys' := [(c21, .int), (c56, .boolean)]) [0, 1] rfl
  have hP : va_P D zwCl [(h0, .inr (5, [.int 0, .int 2, .int 1, .int 1, .ref q21, .ref q28, .ref q35, .ref q42, .ref q49, .ref q56, .ref q63, .null, .int 0, .null, .null, .null, .null, .null, .null, .int 0, .int 0, .null, .int 0])), (q21, .inl (c21, 5, .inl (fun _ => 0))), (q28, .inl (c21, 5, .inl (fun _ => 0))), (q35, .inl (c21, 5, .inl (fun _ => 0))), (q42, .inl (c21, 5, .inl (fun _ => 0))), (q49, .inl (c21, 5, .inl (fun _ => 0))), (q56, .inl (c56, 5, .inl (fun _ => 0))), (q63, .inl (c56, 5, .inl (fun _ => 0))), (q70, .inl (c56, 5, .inl (fun _ => 0)))] H := hP
  have hD : va_D A [(h0, .inr (5, [.int 0, .int 2, .int 1, .int 1, .ref q21, .ref q28, .ref q35, .ref q42, .ref q49, .ref q56, .ref q63, .null, .int 0, .null, .null, .null, .null, .null, .null, .int 0, .int 0, .null, .int 0])), (q21, .inl (c21, 5, .inl (fun _ => 0))), (q28, .inl (c21, 5, .inl (fun _ => 0))), (q35, .inl (c21, 5, .inl (fun _ => 0))), (q42, .inl (c21, 5, .inl (fun _ => 0))), (q49, .inl (c21, 5, .inl (fun _ => 0))), (q56, .inl (c56, 5, .inl (fun _ => 0))), (q63, .inl (c56, 5, .inl (fun _ => 0))), (q70, .inl (c56, 5, .inl (fun _ => 0)))] := hD
  refine va_putF (D := D) (ci := 5) (v := .ref q70) (ty := .array .boolean) (C := zR10) (T := zT10) (N := 23) (fs := [.int 0, .int 2, .int 1, .int 1, .ref q21, .ref q28, .ref q35, .ref q42, .ref q49, .ref q56, .ref q63, .null, .int 0, .null, .null, .null, .null, .null, .null, .int 0, .int 0, .null, .int 0]) hx hb hts zw_in10 zY10 zw_ty10 zw_nm10 hown hK hP hD hS 0 rfl rfl 11 (by decide) (hts _ zif_Mo_init_42) (fun _ h9 => h9) rfl hin rfl (by decide +kernel) rfl rfl (Nat.le_of_ble_eq_true rfl) zd_Mo_init_72 (fun H locs hP hD hS => ?_)
  have hP : va_P D zwCl [(h0, .inr (5, [.int 0, .int 2, .int 1, .int 1, .ref q21, .ref q28, .ref q35, .ref q42, .ref q49, .ref q56, .ref q63, .ref q70, .int 0, .null, .null, .null, .null, .null, .null, .int 0, .int 0, .null, .int 0])), (q21, .inl (c21, 5, .inl (fun _ => 0))), (q28, .inl (c21, 5, .inl (fun _ => 0))), (q35, .inl (c21, 5, .inl (fun _ => 0))), (q42, .inl (c21, 5, .inl (fun _ => 0))), (q49, .inl (c21, 5, .inl (fun _ => 0))), (q56, .inl (c56, 5, .inl (fun _ => 0))), (q63, .inl (c56, 5, .inl (fun _ => 0))), (q70, .inl (c56, 5, .inl (fun _ => 0)))] H := hP
  have hD : va_D A [(h0, .inr (5, [.int 0, .int 2, .int 1, .int 1, .ref q21, .ref q28, .ref q35, .ref q42, .ref q49, .ref q56, .ref q63, .ref q70, .int 0, .null, .null, .null, .null, .null, .null, .int 0, .int 0, .null, .int 0])), (q21, .inl (c21, 5, .inl (fun _ => 0))), (q28, .inl (c21, 5, .inl (fun _ => 0))), (q35, .inl (c21, 5, .inl (fun _ => 0))), (q42, .inl (c21, 5, .inl (fun _ => 0))), (q49, .inl (c21, 5, .inl (fun _ => 0))), (q56, .inl (c56, 5, .inl (fun _ => 0))), (q63, .inl (c56, 5, .inl (fun _ => 0))), (q70, .inl (c56, 5, .inl (fun _ => 0)))] := hD
  refine lv_aload_n hx hb zd_Mo_init_75 rfl (lv_at hl 0 rfl) ?_
  refine lv_bipush (v := 48) hx hb zd_Mo_init_76 (by decide) ?_
  refine va_newa (atype := .int) (D := D) (cl := zwCl) (ty := .int) (N' := 48) (a0 := (48, .inl (fun _ => 0))) hx hb (hts _ zi_aI) rfl hK hP hD hS hA (fun _ => rfl) (by decide) (by decide) (by decide) (Nat.le_of_ble_eq_true rfl) (Nat.le_of_ble_eq_true rfl) zd_Mo_init_78 (fun q78 c78 H hK hP hD hS => ?_)
  have hK : va_K D zwCl [(c21, .int), (c56, .boolean), (c78, .int)] s := hK
  have e78 : c78 = c21 := Option.some.inj ((hK.2 2 _ rfl).2.symm.trans (hK.2 0 _ rfl).2)
  rw [e78] at hP hD
  have hK := hK.sub (tys' := [(c21, .int), (c56, .boolean)]) [0, 1] rfl
  have hP : va_P D zwCl [(h0, .inr (5, [.int 0, .int 2, .int 1, .int 1, .ref q21, .ref q28, .ref q35, .ref q42, .ref q49, .ref q56, .ref q63, .ref q70, .int 0, .null, .null, .null, .null, .null, .null, .int 0, .int 0, .null, .int 0])), (q21, .inl (c21, 5, .inl (fun _ => 0))), (q28, .inl (c21, 5, .inl (fun _ => 0))), (q35, .inl (c21, 5, .inl (fun _ => 0))), (q42, .inl (c21, 5, .inl (fun _ => 0))), (q49, .inl (c21, 5, .inl (fun _ => 0))), (q56, .inl (c56, 5, .inl (fun _ => 0))), (q63, .inl (c56, 5, .inl (fun _ => 0))), (q70, .inl (c56, 5, .inl (fun _ => 0))), (q78, .inl (c21, 48, .inl (fun _ => 0)))] H := hP
  have hD : va_D A [(h0, .inr (5, [.int 0, .int 2, .int 1, .int 1, .ref q21, .ref q28, .ref q35, .ref q42, .ref q49, .ref q56, .ref q63, .ref q70, .int 0, .null, .null, .null, .null, .null, .null, .int 0, .int 0, .null, .int 0])), (q21, .inl (c21, 5, .inl (fun _ => 0))), (q28, .inl (c21, 5, .inl (fun _ => 0))), (q35, .inl (c21, 5, .inl (fun _ => 0))), (q42, .inl (c21, 5, .inl (fun _ => 0))), (q49, .inl (c21, 5, .inl (fun _ => 0))), (q56, .inl (c56, 5, .inl (fun _ => 0))), (q63, .inl (c56, 5, .inl (fun _ => 0))), (q70, .inl (c56, 5, .inl (fun _ => 0))), (q78, .inl (c21, 48, .inl (fun _ => 0)))] := hD
  refine va_putF (D := D) (ci := 5) (v := .ref q78) (ty := .array .int) (C := zR10) (T := zT10) (N := 23) (fs := [.int 0, .int 2, .int 1, .int 1, .ref q21, .ref q28, .ref q35, .ref q42, .ref q49, .ref q56, .ref q63, .ref q70, .int 0, .null, .null, .null, .null, .null, .null, .int 0, .int 0, .null, .int 0]) hx hb hts zw_in10 zY10 zw_ty10 zw_nm10 hown hK hP hD hS 0 rfl rfl 13 (by decide) (hts _ zif_Mo_init_45) (fun _ h9 => h9) rfl hin rfl (by decide +kernel) rfl rfl (Nat.le_of_ble_eq_true rfl) zd_Mo_init_80 (fun H locs hP hD hS => ?_)
  have hP : va_P D zwCl [(h0, .inr (5, [.int 0, .int 2, .int 1, .int 1, .ref q21, .ref q28, .ref q35, .ref q42, .ref q49, .ref q56, .ref q63, .ref q70, .int 0, .ref q78, .null, .null, .null, .null, .null, .int 0, .int 0, .null, .int 0])), (q21, .inl (c21, 5, .inl (fun _ => 0))), (q28, .inl (c21, 5, .inl (fun _ => 0))), (q35, .inl (c21, 5, .inl (fun _ => 0))), (q42, .inl (c21, 5, .inl (fun _ => 0))), (q49, .inl (c21, 5, .inl (fun _ => 0))), (q56, .inl (c56, 5, .inl (fun _ => 0))), (q63, .inl (c56, 5, .inl (fun _ => 0))), (q70, .inl (c56, 5, .inl (fun _ => 0))), (q78, .inl (c21, 48, .inl (fun _ => 0)))] H := hP
  have hD : va_D A [(h0, .inr (5, [.int 0, .int 2, .int 1, .int 1, .ref q21, .ref q28, .ref q35, .ref q42, .ref q49, .ref q56, .ref q63, .ref q70, .int 0, .ref q78, .null, .null, .null, .null, .null, .int 0, .int 0, .null, .int 0])), (q21, .inl (c21, 5, .inl (fun _ => 0))), (q28, .inl (c21, 5, .inl (fun _ => 0))), (q35, .inl (c21, 5, .inl (fun _ => 0))), (q42, .inl (c21, 5, .inl (fun _ => 0))), (q49, .inl (c21, 5, .inl (fun _ => 0))), (q56, .inl (c56, 5, .inl (fun _ => 0))), (q63, .inl (c56, 5, .inl (fun _ => 0))), (q70, .inl (c56, 5, .inl (fun _ => 0))), (q78, .inl (c21, 48, .inl (fun _ => 0)))] := hD
  refine lv_aload_n hx hb zd_Mo_init_83 rfl (lv_at hl 0 rfl) ?_
  refine lv_bipush (v := 48) hx hb zd_Mo_init_84 (by decide) ?_
  refine va_newa (atype := .int) (D := D) (cl := zwCl) (ty := .int) (N' := 48) (a0 := (48, .inl (fun _ => 0))) hx hb (hts _ zi_aI) rfl hK hP hD hS hA (fun _ => rfl) (by decide) (by decide) (by decide) (Nat.le_of_ble_eq_true rfl) (Nat.le_of_ble_eq_true rfl) zd_Mo_init_86 (fun q86 c86 H hK hP hD hS => ?_)
  have hK : va_K D zwCl [(c21, .int), (c56, .boolean), (c86, .int)] s := hK
  have e86 : c86 = c21 := Option.some.inj ((hK.2 2 _ rfl).2.symm.trans (hK.2 0 _ rfl).2)
  rw [e86] at hP hD
  have hK := hK.sub (tys' := [(c21, .int), (c56, .boolean)]) [0, 1] rfl
  have hP : va_P D zwCl [(h0, .inr (5, [.int 0, .int 2, .int 1, .int 1, .ref q21, .ref q28, .ref q35, .ref q42, .ref q49, .ref q56, .ref q63, .ref q70, .int 0, .ref q78, .null, .null, .null, .null, .null, .int 0, .int 0, .null, .int 0])), (q21, .inl (c21, 5, .inl (fun _ => 0))), (q28, .inl (c21, 5, .inl (fun _ => 0))), (q35, .inl (c21, 5, .inl (fun _ => 0))), (q42, .inl (c21, 5, .inl (fun _ => 0))), (q49, .inl (c21, 5, .inl (fun _ => 0))), (q56, .inl (c56, 5, .inl (fun _ => 0))), (q63, .inl (c56, 5, .inl (fun _ => 0))), (q70, .inl (c56, 5, .inl (fun _ => 0))), (q78, .inl (c21, 48, .inl (fun _ => 0))), (q86, .inl (c21, 48, .inl (fun _ => 0)))] H := hP
  have hD : va_D A [(h0, .inr (5, [.int 0, .int 2, .int 1, .int 1, .ref q21, .ref q28, .ref q35, .ref q42, .ref q49, .ref q56, .ref q63, .ref q70, .int 0, .ref q78, .null, .null, .null, .null, .null, .int 0, .int 0, .null, .int 0])), (q21, .inl (c21, 5, .inl (fun _ => 0))), (q28, .inl (c21, 5, .inl (fun _ => 0))), (q35, .inl (c21, 5, .inl (fun _ => 0))), (q42, .inl (c21, 5, .inl (fun _ => 0))), (q49, .inl (c21, 5, .inl (fun _ => 0))), (q56, .inl (c56, 5, .inl (fun _ => 0))), (q63, .inl (c56, 5, .inl (fun _ => 0))), (q70, .inl (c56, 5, .inl (fun _ => 0))), (q78, .inl (c21, 48, .inl (fun _ => 0))), (q86, .inl (c21, 48, .inl (fun _ => 0)))] := hD
  refine va_putF (D := D) (ci := 5) (v := .ref q86) (ty := .array .int) (C := zR10) (T := zT10) (N := 23) (fs := [.int 0, .int 2, .int 1, .int 1, .ref q21, .ref q28, .ref q35, .ref q42, .ref q49, .ref q56, .ref q63, .ref q70, .int 0, .ref q78, .null, .null, .null, .null, .null, .int 0, .int 0, .null, .int 0]) hx hb hts zw_in10 zY10 zw_ty10 zw_nm10 hown hK hP hD hS 0 rfl rfl 14 (by decide) (hts _ zif_Mo_init_48) (fun _ h9 => h9) rfl hin rfl (by decide +kernel) rfl rfl (Nat.le_of_ble_eq_true rfl) zd_Mo_init_88 (fun H locs hP hD hS => ?_)
  have hP : va_P D zwCl [(h0, .inr (5, [.int 0, .int 2, .int 1, .int 1, .ref q21, .ref q28, .ref q35, .ref q42, .ref q49, .ref q56, .ref q63, .ref q70, .int 0, .ref q78, .ref q86, .null, .null, .null, .null, .int 0, .int 0, .null, .int 0])), (q21, .inl (c21, 5, .inl (fun _ => 0))), (q28, .inl (c21, 5, .inl (fun _ => 0))), (q35, .inl (c21, 5, .inl (fun _ => 0))), (q42, .inl (c21, 5, .inl (fun _ => 0))), (q49, .inl (c21, 5, .inl (fun _ => 0))), (q56, .inl (c56, 5, .inl (fun _ => 0))), (q63, .inl (c56, 5, .inl (fun _ => 0))), (q70, .inl (c56, 5, .inl (fun _ => 0))), (q78, .inl (c21, 48, .inl (fun _ => 0))), (q86, .inl (c21, 48, .inl (fun _ => 0)))] H := hP
  have hD : va_D A [(h0, .inr (5, [.int 0, .int 2, .int 1, .int 1, .ref q21, .ref q28, .ref q35, .ref q42, .ref q49, .ref q56, .ref q63, .ref q70, .int 0, .ref q78, .ref q86, .null, .null, .null, .null, .int 0, .int 0, .null, .int 0])), (q21, .inl (c21, 5, .inl (fun _ => 0))), (q28, .inl (c21, 5, .inl (fun _ => 0))), (q35, .inl (c21, 5, .inl (fun _ => 0))), (q42, .inl (c21, 5, .inl (fun _ => 0))), (q49, .inl (c21, 5, .inl (fun _ => 0))), (q56, .inl (c56, 5, .inl (fun _ => 0))), (q63, .inl (c56, 5, .inl (fun _ => 0))), (q70, .inl (c56, 5, .inl (fun _ => 0))), (q78, .inl (c21, 48, .inl (fun _ => 0))), (q86, .inl (c21, 48, .inl (fun _ => 0)))] := hD
  refine lv_aload_n hx hb zd_Mo_init_91 rfl (lv_at hl 0 rfl) ?_
  refine lv_bipush (v := 48) hx hb zd_Mo_init_92 (by decide) ?_
  refine va_newa (atype := .int) (D := D) (cl := zwCl) (ty := .int) (N' := 48) (a0 := (48, .inl (fun _ => 0))) hx hb (hts _ zi_aI) rfl hK hP hD hS hA (fun _ => rfl) (by decide) (by decide) (by decide) (Nat.le_of_ble_eq_true rfl) (Nat.le_of_ble_eq_true rfl) zd_Mo_init_94 (fun q94 c94 H hK hP hD hS => ?_)
  have hK : va_K D zwCl [(c21, .int), (c56, .boolean), (c94, .int)] s := hK
  have e94 : c94 = c21 := Option.some.inj ((hK.2 2 _ rfl).2.symm.trans (hK.2 0 _ rfl).2)
  rw [e94] at hP hD
  have hK := hK.sub (tys' := [(c21, .int), (c56, .boolean)]) [0, 1] rfl
  have hP : va_P D zwCl [(h0, .inr (5, [.int 0, .int 2, .int 1, .int 1, .ref q21, .ref q28, .ref q35, .ref q42, .ref q49, .ref q56, .ref q63, .ref q70, .int 0, .ref q78, .ref q86, .null, .null, .null, .null, .int 0, .int 0, .null, .int 0])), (q21, .inl (c21, 5, .inl (fun _ => 0))), (q28, .inl (c21, 5, .inl (fun _ => 0))), (q35, .inl (c21, 5, .inl (fun _ => 0))), (q42, .inl (c21, 5, .inl (fun _ => 0))), (q49, .inl (c21, 5, .inl (fun _ => 0))), (q56, .inl (c56, 5, .inl (fun _ => 0))), (q63, .inl (c56, 5, .inl (fun _ => 0))), (q70, .inl (c56, 5, .inl (fun _ => 0))), (q78, .inl (c21, 48, .inl (fun _ => 0))), (q86, .inl (c21, 48, .inl (fun _ => 0))), (q94, .inl (c21, 48, .inl (fun _ => 0)))] H := hP
  have hD : va_D A [(h0, .inr (5, [.int 0, .int 2, .int 1, .int 1, .ref q21, .ref q28, .ref q35, .ref q42, .ref q49, .ref q56, .ref q63, .ref q70, .int 0, .ref q78, .ref q86, .null, .null, .null, .null, .int 0, .int 0, .null, .int 0])), (q21, .inl (c21, 5, .inl (fun _ => 0))), (q28, .inl (c21, 5, .inl (fun _ => 0))), (q35, .inl (c21, 5, .inl (fun _ => 0))), (q42, .inl (c21, 5, .inl (fun _ => 0))), (q49, .inl (c21, 5, .inl (fun _ => 0))), (q56, .inl (c56, 5, .inl (fun _ => 0))), (q63, .inl (c56, 5, .inl (fun _ => 0))), (q70, .inl (c56, 5, .inl (fun _ => 0))), (q78, .inl (c21, 48, .inl (fun _ => 0))), (q86, .inl (c21, 48, .inl (fun _ => 0))), (q94, .inl (c21, 48, .inl (fun _ => 0)))] := hD
  refine va_putF (D := D) (ci := 5) (v := .ref q94) (ty := .array .int) (C := zR10) (T := zT10) (N := 23) (fs := [.int 0, .int 2, .int 1, .int 1, .ref q21, .ref q28, .ref q35, .ref q42, .ref q49, .ref q56, .ref q63, .ref q70, .int 0, .ref q78, .ref q86, .null, .null, .null, .null, .int 0, .int 0, .null, .int 0]) hx hb hts zw_in10 zY10 zw_ty10 zw_nm10 hown hK hP hD hS 0 rfl rfl 15 (by decide) (hts _ zif_Mo_init_51) (fun _ h9 => h9) rfl hin rfl (by decide +kernel) rfl rfl (Nat.le_of_ble_eq_true rfl) zd_Mo_init_96 (fun H locs hP hD hS => ?_)
  have hP : va_P D zwCl [(h0, .inr (5, [.int 0, .int 2, .int 1, .int 1, .ref q21, .ref q28, .ref q35, .ref q42, .ref q49, .ref q56, .ref q63, .ref q70, .int 0, .ref q78, .ref q86, .ref q94, .null, .null, .null, .int 0, .int 0, .null, .int 0])), (q21, .inl (c21, 5, .inl (fun _ => 0))), (q28, .inl (c21, 5, .inl (fun _ => 0))), (q35, .inl (c21, 5, .inl (fun _ => 0))), (q42, .inl (c21, 5, .inl (fun _ => 0))), (q49, .inl (c21, 5, .inl (fun _ => 0))), (q56, .inl (c56, 5, .inl (fun _ => 0))), (q63, .inl (c56, 5, .inl (fun _ => 0))), (q70, .inl (c56, 5, .inl (fun _ => 0))), (q78, .inl (c21, 48, .inl (fun _ => 0))), (q86, .inl (c21, 48, .inl (fun _ => 0))), (q94, .inl (c21, 48, .inl (fun _ => 0)))] H := hP
  have hD : va_D A [(h0, .inr (5, [.int 0, .int 2, .int 1, .int 1, .ref q21, .ref q28, .ref q35, .ref q42, .ref q49, .ref q56, .ref q63, .ref q70, .int 0, .ref q78, .ref q86, .ref q94, .null, .null, .null, .int 0, .int 0, .null, .int 0])), (q21, .inl (c21, 5, .inl (fun _ => 0))), (q28, .inl (c21, 5, .inl (fun _ => 0))), (q35, .inl (c21, 5, .inl (fun _ => 0))), (q42, .inl (c21, 5, .inl (fun _ => 0))), (q49, .inl (c21, 5, .inl (fun _ => 0))), (q56, .inl (c56, 5, .inl (fun _ => 0))), (q63, .inl (c56, 5, .inl (fun _ => 0))), (q70, .inl (c56, 5, .inl (fun _ => 0))), (q78, .inl (c21, 48, .inl (fun _ => 0))), (q86, .inl (c21, 48, .inl (fun _ => 0))), (q94, .inl (c21, 48, .inl (fun _ => 0)))] := hD
  refine lv_aload_n hx hb zd_Mo_init_99 rfl (lv_at hl 0 rfl) ?_
  refine lv_bipush (v := 48) hx hb zd_Mo_init_100 (by decide) ?_
  refine va_newa (atype := .int) (D := D) (cl := zwCl) (ty := .int) (N' := 48) (a0 := (48, .inl (fun _ => 0))) hx hb (hts _ zi_aI) rfl hK hP hD hS hA (fun _ => rfl) (by decide) (by decide) (by decide) (Nat.le_of_ble_eq_true rfl) (Nat.le_of_ble_eq_true rfl) zd_Mo_init_102 (fun q102 c102 H hK hP hD hS => ?_)
  have hK : va_K D zwCl [(c21, .int), (c56, .boolean), (c102, .int)] s := hK
  have e102 : c102 = c21 := Option.some.inj ((hK.2 2 _ rfl).2.symm.trans (hK.2 0 _ rfl).2)
  rw [e102] at hP hD
  have hK := hK.sub (tys' := [(c21, .int), (c56, .boolean)]) [0, 1] rfl
  have hP : va_P D zwCl [(h0, .inr (5, [.int 0, .int 2, .int 1, .int 1, .ref q21, .ref q28, .ref q35, .ref q42, .ref q49, .ref q56, .ref q63, .ref q70, .int 0, .ref q78, .ref q86, .ref q94, .null, .null, .null, .int 0, .int 0, .null, .int 0])), (q21, .inl (c21, 5, .inl (fun _ => 0))), (q28, .inl (c21, 5, .inl (fun _ => 0))), (q35, .inl (c21, 5, .inl (fun _ => 0))), (q42, .inl (c21, 5, .inl (fun _ => 0))), (q49, .inl (c21, 5, .inl (fun _ => 0))), (q56, .inl (c56, 5, .inl (fun _ => 0))), (q63, .inl (c56, 5, .inl (fun _ => 0))), (q70, .inl (c56, 5, .inl (fun _ => 0))), (q78, .inl (c21, 48, .inl (fun _ => 0))), (q86, .inl (c21, 48, .inl (fun _ => 0))), (q94, .inl (c21, 48, .inl (fun _ => 0))), (q102, .inl (c21, 48, .inl (fun _ => 0)))] H := hP
  have hD : va_D A [(h0, .inr (5, [.int 0, .int 2, .int 1, .int 1, .ref q21, .ref q28, .ref q35, .ref q42, .ref q49, .ref q56, .ref q63, .ref q70, .int 0, .ref q78, .ref q86, .ref q94, .null, .null, .null, .int 0, .int 0, .null, .int 0])), (q21, .inl (c21, 5, .inl (fun _ => 0))), (q28, .inl (c21, 5, .inl (fun _ => 0))), (q35, .inl (c21, 5, .inl (fun _ => 0))), (q42, .inl (c21, 5, .inl (fun _ => 0))), (q49, .inl (c21, 5, .inl (fun _ => 0))), (q56, .inl (c56, 5, .inl (fun _ => 0))), (q63, .inl (c56, 5, .inl (fun _ => 0))), (q70, .inl (c56, 5, .inl (fun _ => 0))), (q78, .inl (c21, 48, .inl (fun _ => 0))), (q86, .inl (c21, 48, .inl (fun _ => 0))), (q94, .inl (c21, 48, .inl (fun _ => 0))), (q102, .inl (c21, 48, .inl (fun _ => 0)))] := hD
  refine va_putF (D := D) (ci := 5) (v := .ref q102) (ty := .array .int) (C := zR10) (T := zT10) (N := 23) (fs := [.int 0, .int 2, .int 1, .int 1, .ref q21, .ref q28, .ref q35, .ref q42, .ref q49, .ref q56, .ref q63, .ref q70, .int 0, .ref q78, .ref q86, .ref q94, .null, .null, .null, .int 0, .int 0, .null, .int 0]) hx hb hts zw_in10 zY10 zw_ty10 zw_nm10 hown hK hP hD hS 0 rfl rfl 16 (by decide) (hts _ zif_Mo_init_54) (fun _ h9 => h9) rfl hin rfl (by decide +kernel) rfl rfl (Nat.le_of_ble_eq_true rfl) zd_Mo_init_104 (fun H locs hP hD hS => ?_)
  have hP : va_P D zwCl [(h0, .inr (5, [.int 0, .int 2, .int 1, .int 1, .ref q21, .ref q28, .ref q35, .ref q42, .ref q49, .ref q56, .ref q63, .ref q70, .int 0, .ref q78, .ref q86, .ref q94, .ref q102, .null, .null, .int 0, .int 0, .null, .int 0])), (q21, .inl (c21, 5, .inl (fun _ => 0))), (q28, .inl (c21, 5, .inl (fun _ => 0))), (q35, .inl (c21, 5, .inl (fun _ => 0))), (q42, .inl (c21, 5, .inl (fun _ => 0))), (q49, .inl (c21, 5, .inl (fun _ => 0))), (q56, .inl (c56, 5, .inl (fun _ => 0))), (q63, .inl (c56, 5, .inl (fun _ => 0))), (q70, .inl (c56, 5, .inl (fun _ => 0))), (q78, .inl (c21, 48, .inl (fun _ => 0))), (q86, .inl (c21, 48, .inl (fun _ => 0))), (q94, .inl (c21, 48, .inl (fun _ => 0))), (q102, .inl (c21, 48, .inl (fun _ => 0)))] H := hP
  have hD : va_D A [(h0, .inr (5, [.int 0, .int 2, .int 1, .int 1, .ref q21, .ref q28, .ref q35, .ref q42, .ref q49, .ref q56, .ref q63, .ref q70, .int 0, .ref q78, .ref q86, .ref q94, .ref q102, .null, .null, .int 0, .int 0, .null, .int 0])), (q21, .inl (c21, 5, .inl (fun _ => 0))), (q28, .inl (c21, 5, .inl (fun _ => 0))), (q35, .inl (c21, 5, .inl (fun _ => 0))), (q42, .inl (c21, 5, .inl (fun _ => 0))), (q49, .inl (c21, 5, .inl (fun _ => 0))), (q56, .inl (c56, 5, .inl (fun _ => 0))), (q63, .inl (c56, 5, .inl (fun _ => 0))), (q70, .inl (c56, 5, .inl (fun _ => 0))), (q78, .inl (c21, 48, .inl (fun _ => 0))), (q86, .inl (c21, 48, .inl (fun _ => 0))), (q94, .inl (c21, 48, .inl (fun _ => 0))), (q102, .inl (c21, 48, .inl (fun _ => 0)))] := hD
  refine lv_aload_n hx hb zd_Mo_init_107 rfl (lv_at hl 0 rfl) ?_
  refine lv_bipush (v := 24) hx hb zd_Mo_init_108 (by decide) ?_
  refine va_newa (atype := .int) (D := D) (cl := zwCl) (ty := .int) (N' := 24) (a0 := (24, .inl (fun _ => 0))) hx hb (hts _ zi_aI) rfl hK hP hD hS hA (fun _ => rfl) (by decide) (by decide) (by decide) (Nat.le_of_ble_eq_true rfl) (Nat.le_of_ble_eq_true rfl) zd_Mo_init_110 (fun q110 c110 H hK hP hD hS => ?_)
  have hK : va_K D zwCl [(c21, .int), (c56, .boolean), (c110, .int)] s := hK
  have e110 : c110 = c21 := Option.some.inj ((hK.2 2 _ rfl).2.symm.trans (hK.2 0 _ rfl).2)
  rw [e110] at hP hD
  have hK := hK.sub (tys' := [(c21, .int), (c56, .boolean)]) [0, 1] rfl
  have hP : va_P D zwCl [(h0, .inr (5, [.int 0, .int 2, .int 1, .int 1, .ref q21, .ref q28, .ref q35, .ref q42, .ref q49, .ref q56, .ref q63, .ref q70, .int 0, .ref q78, .ref q86, .ref q94, .ref q102, .null, .null, .int 0, .int 0, .null, .int 0])), (q21, .inl (c21, 5, .inl (fun _ => 0))), (q28, .inl (c21, 5, .inl (fun _ => 0))), (q35, .inl (c21, 5, .inl (fun _ => 0))), (q42, .inl (c21, 5, .inl (fun _ => 0))), (q49, .inl (c21, 5, .inl (fun _ => 0))), (q56, .inl (c56, 5, .inl (fun _ => 0))), (q63, .inl (c56, 5, .inl (fun _ => 0))), (q70, .inl (c56, 5, .inl (fun _ => 0))), (q78, .inl (c21, 48, .inl (fun _ => 0))), (q86, .inl (c21, 48, .inl (fun _ => 0))), (q94, .inl (c21, 48, .inl (fun _ => 0))), (q102, .inl (c21, 48, .inl (fun _ => 0))), (q110, .inl (c21, 24, .inl (fun _ => 0)))] H := hP
  have hD : va_D A [(h0, .inr (5, [.int 0, .int 2, .int 1, .int 1, .ref q21, .ref q28, .ref q35, .ref q42, .ref q49, .ref q56, .ref q63, .ref q70, .int 0, .ref q78, .ref q86, .ref q94, .ref q102, .null, .null, .int 0, .int 0, .null, .int 0])), (q21, .inl (c21, 5, .inl (fun _ => 0))), (q28, .inl (c21, 5, .inl (fun _ => 0))), (q35, .inl (c21, 5, .inl (fun _ => 0))), (q42, .inl (c21, 5, .inl (fun _ => 0))), (q49, .inl (c21, 5, .inl (fun _ => 0))), (q56, .inl (c56, 5, .inl (fun _ => 0))), (q63, .inl (c56, 5, .inl (fun _ => 0))), (q70, .inl (c56, 5, .inl (fun _ => 0))), (q78, .inl (c21, 48, .inl (fun _ => 0))), (q86, .inl (c21, 48, .inl (fun _ => 0))), (q94, .inl (c21, 48, .inl (fun _ => 0))), (q102, .inl (c21, 48, .inl (fun _ => 0))), (q110, .inl (c21, 24, .inl (fun _ => 0)))] := hD
  refine va_putF (D := D) (ci := 5) (v := .ref q110) (ty := .array .int) (C := zR10) (T := zT10) (N := 23) (fs := [.int 0, .int 2, .int 1, .int 1, .ref q21, .ref q28, .ref q35, .ref q42, .ref q49, .ref q56, .ref q63, .ref q70, .int 0, .ref q78, .ref q86, .ref q94, .ref q102, .null, .null, .int 0, .int 0, .null, .int 0]) hx hb hts zw_in10 zY10 zw_ty10 zw_nm10 hown hK hP hD hS 0 rfl rfl 17 (by decide) (hts _ zif_Mo_init_57) (fun _ h9 => h9) rfl hin rfl (by decide +kernel) rfl rfl (Nat.le_of_ble_eq_true rfl) zd_Mo_init_112 (fun H locs hP hD hS => ?_)
  have hP : va_P D zwCl [(h0, .inr (5, [.int 0, .int 2, .int 1, .int 1, .ref q21, .ref q28, .ref q35, .ref q42, .ref q49, .ref q56, .ref q63, .ref q70, .int 0, .ref q78, .ref q86, .ref q94, .ref q102, .ref q110, .null, .int 0, .int 0, .null, .int 0])), (q21, .inl (c21, 5, .inl (fun _ => 0))), (q28, .inl (c21, 5, .inl (fun _ => 0))), (q35, .inl (c21, 5, .inl (fun _ => 0))), (q42, .inl (c21, 5, .inl (fun _ => 0))), (q49, .inl (c21, 5, .inl (fun _ => 0))), (q56, .inl (c56, 5, .inl (fun _ => 0))), (q63, .inl (c56, 5, .inl (fun _ => 0))), (q70, .inl (c56, 5, .inl (fun _ => 0))), (q78, .inl (c21, 48, .inl (fun _ => 0))), (q86, .inl (c21, 48, .inl (fun _ => 0))), (q94, .inl (c21, 48, .inl (fun _ => 0))), (q102, .inl (c21, 48, .inl (fun _ => 0))), (q110, .inl (c21, 24, .inl (fun _ => 0)))] H := hP
  have hD : va_D A [(h0, .inr (5, [.int 0, .int 2, .int 1, .int 1, .ref q21, .ref q28, .ref q35, .ref q42, .ref q49, .ref q56, .ref q63, .ref q70, .int 0, .ref q78, .ref q86, .ref q94, .ref q102, .ref q110, .null, .int 0, .int 0, .null, .int 0])), (q21, .inl (c21, 5, .inl (fun _ => 0))), (q28, .inl (c21, 5, .inl (fun _ => 0))), (q35, .inl (c21, 5, .inl (fun _ => 0))), (q42, .inl (c21, 5, .inl (fun _ => 0))), (q49, .inl (c21, 5, .inl (fun _ => 0))), (q56, .inl (c56, 5, .inl (fun _ => 0))), (q63, .inl (c56, 5, .inl (fun _ => 0))), (q70, .inl (c56, 5, .inl (fun _ => 0))), (q78, .inl (c21, 48, .inl (fun _ => 0))), (q86, .inl (c21, 48, .inl (fun _ => 0))), (q94, .inl (c21, 48, .inl (fun _ => 0))), (q102, .inl (c21, 48, .inl (fun _ => 0))), (q110, .inl (c21, 24, .inl (fun _ => 0)))] := hD
  refine lv_aload_n hx hb zd_Mo_init_115 rfl (lv_at hl 0 rfl) ?_
  refine lv_bipush (v := 24) hx hb zd_Mo_init_116 (by decide) ?_
  refine va_newa (atype := .int) (D := D) (cl := zwCl) (ty := .int) (N' := 24) (a0 := (24, .inl (fun _ => 0))) hx hb (hts _ zi_aI) rfl hK hP hD hS hA (fun _ => rfl) (by decide) (by decide) (by decide) (Nat.le_of_ble_eq_true rfl) (Nat.le_of_ble_eq_true rfl) zd_Mo_init_118 (fun q118 c118 H hK hP hD hS => ?_)
  have hK : va_K D zwCl [(c21, .int), (c56, .boolean), (c118, .int)] s := hK
  have e118 : c118 = c21 := Option.some.inj ((hK.2 2 _ rfl).2.symm.trans (hK.2 0 _ rfl).2)
  rw [e118] at hP hD
  have hK := hK.sub (tys' := [(c21, .int), (c56, .boolean)]) [0, 1] rfl
  have hP : va_P D zwCl [(h0, .inr (5, [.int 0, .int 2, .int 1, .int 1, .ref q21, .ref q28, .ref q35, .ref q42, .ref q49, .ref q56, .ref q63, .ref q70, .int 0, .ref q78, .ref q86, .ref q94, .ref q102, .ref q110, .null, .int 0, .int 0, .null, .int 0])), (q21, .inl (c21, 5, .inl (fun _ => 0))), (q28, .inl (c21, 5, .inl (fun _ => 0))), (q35, .inl (c21, 5, .inl (fun _ => 0))), (q42, .inl (c21, 5, .inl (fun _ => 0))), (q49, .inl (c21, 5, .inl (fun _ => 0))), (q56, .inl (c56, 5, .inl (fun _ => 0))), (q63, .inl (c56, 5, .inl (fun _ => 0))), (q70, .inl (c56, 5, .inl (fun _ => 0))), (q78, .inl (c21, 48, .inl (fun _ => 0))), (q86, .inl (c21, 48, .inl (fun _ => 0))), (q94, .inl (c21, 48, .inl (fun _ => 0))), (q102, .inl (c21, 48, .inl (fun _ => 0))), (q110, .inl (c21, 24, .inl (fun _ => 0))), (q118, .inl (c21, 24, .inl (fun _ => 0)))] H := hP
  have hD : va_D A [(h0, .inr (5, [.int 0, .int 2, .int 1, .int 1, .ref q21, .ref q28, .ref q35, .ref q42, .ref q49, .ref q56, .ref q63, .ref q70, .int 0, .ref q78, .ref q86, .ref q94, .ref q102, .ref q110, .null, .int 0, .int 0, .null, .int 0])), (q21, .inl (c21, 5, .inl (fun _ => 0))), (q28, .inl (c21, 5, .inl (fun _ => 0))), (q35, .inl (c21, 5, .inl (fun _ => 0))), (q42, .inl (c21, 5, .inl (fun _ => 0))), (q49, .inl (c21, 5, .inl (fun _ => 0))), (q56, .inl (c56, 5, .inl (fun _ => 0))), (q63, .inl (c56, 5, .inl (fun _ => 0))), (q70, .inl (c56, 5, .inl (fun _ => 0))), (q78, .inl (c21, 48, .inl (fun _ => 0))), (q86, .inl (c21, 48, .inl (fun _ => 0))), (q94, .inl (c21, 48, .inl (fun _ => 0))), (q102, .inl (c21, 48, .inl (fun _ => 0))), (q110, .inl (c21, 24, .inl (fun _ => 0))), (q118, .inl (c21, 24, .inl (fun _ => 0)))] := hD
  refine va_putF (D := D) (ci := 5) (v := .ref q118) (ty := .array .int) (C := zR10) (T := zT10) (N := 23) (fs := [.int 0, .int 2, .int 1, .int 1, .ref q21, .ref q28, .ref q35, .ref q42, .ref q49, .ref q56, .ref q63, .ref q70, .int 0, .ref q78, .ref q86, .ref q94, .ref q102, .ref q110, .null, .int 0, .int 0, .null, .int 0]) hx hb hts zw_in10 zY10 zw_ty10 zw_nm10 hown hK hP hD hS 0 rfl rfl 18 (by decide) (hts _ zif_Mo_init_60) (fun _ h9 => h9) rfl hin rfl (by decide +kernel) rfl rfl (Nat.le_of_ble_eq_true rfl) zd_Mo_init_120 (fun H locs hP hD hS => ?_)
  have hP : va_P D zwCl [(h0, .inr (5, [.int 0, .int 2, .int 1, .int 1, .ref q21, .ref q28, .ref q35, .ref q42, .ref q49, .ref q56, .ref q63, .ref q70, .int 0, .ref q78, .ref q86, .ref q94, .ref q102, .ref q110, .ref q118, .int 0, .int 0, .null, .int 0])), (q21, .inl (c21, 5, .inl (fun _ => 0))), (q28, .inl (c21, 5, .inl (fun _ => 0))), (q35, .inl (c21, 5, .inl (fun _ => 0))), (q42, .inl (c21, 5, .inl (fun _ => 0))), (q49, .inl (c21, 5, .inl (fun _ => 0))), (q56, .inl (c56, 5, .inl (fun _ => 0))), (q63, .inl (c56, 5, .inl (fun _ => 0))), (q70, .inl (c56, 5, .inl (fun _ => 0))), (q78, .inl (c21, 48, .inl (fun _ => 0))), (q86, .inl (c21, 48, .inl (fun _ => 0))), (q94, .inl (c21, 48, .inl (fun _ => 0))), (q102, .inl (c21, 48, .inl (fun _ => 0))), (q110, .inl (c21, 24, .inl (fun _ => 0))), (q118, .inl (c21, 24, .inl (fun _ => 0)))] H := hP
  have hD : va_D A [(h0, .inr (5, [.int 0, .int 2, .int 1, .int 1, .ref q21, .ref q28, .ref q35, .ref q42, .ref q49, .ref q56, .ref q63, .ref q70, .int 0, .ref q78, .ref q86, .ref q94, .ref q102, .ref q110, .ref q118, .int 0, .int 0, .null, .int 0])), (q21, .inl (c21, 5, .inl (fun _ => 0))), (q28, .inl (c21, 5, .inl (fun _ => 0))), (q35, .inl (c21, 5, .inl (fun _ => 0))), (q42, .inl (c21, 5, .inl (fun _ => 0))), (q49, .inl (c21, 5, .inl (fun _ => 0))), (q56, .inl (c56, 5, .inl (fun _ => 0))), (q63, .inl (c56, 5, .inl (fun _ => 0))), (q70, .inl (c56, 5, .inl (fun _ => 0))), (q78, .inl (c21, 48, .inl (fun _ => 0))), (q86, .inl (c21, 48, .inl (fun _ => 0))), (q94, .inl (c21, 48, .inl (fun _ => 0))), (q102, .inl (c21, 48, .inl (fun _ => 0))), (q110, .inl (c21, 24, .inl (fun _ => 0))), (q118, .inl (c21, 24, .inl (fun _ => 0)))] := hD
  refine lv_aload_n hx hb zd_Mo_init_123 rfl (lv_at hl 0 rfl) ?_
  refine lv_bipush (v := 120) hx hb zd_Mo_init_124 (by decide) ?_
  refine va_newa (atype := .int) (D := D) (cl := zwCl) (ty := .int) (N' := 120) (a0 := (120, .inl (fun _ => 0))) hx hb (hts _ zi_aI) rfl hK hP hD hS hA (fun _ => rfl) (by decide) (by decide) (by decide) (Nat.le_of_ble_eq_true rfl) (Nat.le_of_ble_eq_true rfl) zd_Mo_init_126 (fun q126 c126 H hK hP hD hS => ?_)
  have hK : va_K D zwCl [(c21, .int), (c56, .boolean), (c126, .int)] s := hK
  have e126 : c126 = c21 := Option.some.inj ((hK.2 2 _ rfl).2.symm.trans (hK.2 0 _ rfl).2)
  rw [e126] at hP hD
  have hK := hK.sub (tys' := [(c21, .int), (c56, .boolean)]) [0, 1] rfl
  have hP : va_P D zwCl [(h0, .inr (5, [.int 0, .int 2, .int 1, .int 1, .ref q21, .ref q28, .ref q35, .ref q42, .ref q49, .ref q56, .ref q63, .ref q70, .int 0, .ref q78, .ref q86, .ref q94, .ref q102, .ref q110, .ref q118, .int 0, .int 0, .null, .int 0])), (q21, .inl (c21, 5, .inl (fun _ => 0))), (q28, .inl (c21, 5, .inl (fun _ => 0))), (q35, .inl (c21, 5, .inl (fun _ => 0))), (q42, .inl (c21, 5, .inl (fun _ => 0))), (q49, .inl (c21, 5, .inl (fun _ => 0))), (q56, .inl (c56, 5, .inl (fun _ => 0))), (q63, .inl (c56, 5, .inl (fun _ => 0))), (q70, .inl (c56, 5, .inl (fun _ => 0))), (q78, .inl (c21, 48, .inl (fun _ => 0))), (q86, .inl (c21, 48, .inl (fun _ => 0))), (q94, .inl (c21, 48, .inl (fun _ => 0))), (q102, .inl (c21, 48, .inl (fun _ => 0))), (q110, .inl (c21, 24, .inl (fun _ => 0))), (q118, .inl (c21, 24, .inl (fun _ => 0))), (q126, .inl (c21, 120, .inl (fun _ => 0)))] H := hP
  have hD : va_D A [(h0, .inr (5, [.int 0, .int 2, .int 1, .int 1, .ref q21, .ref q28, .ref q35, .ref q42, .ref q49, .ref q56, .ref q63, .ref q70, .int 0, .ref q78, .ref q86, .ref q94, .ref q102, .ref q110, .ref q118, .int 0, .int 0, .null, .int 0])), (q21, .inl (c21, 5, .inl (fun _ => 0))), (q28, .inl (c21, 5, .inl (fun _ => 0))), (q35, .inl (c21, 5, .inl (fun _ => 0))), (q42, .inl (c21, 5, .inl (fun _ => 0))), (q49, .inl (c21, 5, .inl (fun _ => 0))), (q56, .inl (c56, 5, .inl (fun _ => 0))), (q63, .inl (c56, 5, .inl (fun _ => 0))), (q70, .inl (c56, 5, .inl (fun _ => 0))), (q78, .inl (c21, 48, .inl (fun _ => 0))), (q86, .inl (c21, 48, .inl (fun _ => 0))), (q94, .inl (c21, 48, .inl (fun _ => 0))), (q102, .inl (c21, 48, .inl (fun _ => 0))), (q110, .inl (c21, 24, .inl (fun _ => 0))), (q118, .inl (c21, 24, .inl (fun _ => 0))), (q126, .inl (c21, 120, .inl (fun _ => 0)))] := hD
  refine va_putF (D := D) (ci := 5) (v := .ref q126) (ty := .array .int) (C := zR10) (T := zT10) (N := 23) (fs := [.int 0, .int 2, .int 1, .int 1, .ref q21, .ref q28, .ref q35, .ref q42, .ref q49, .ref q56, .ref q63, .ref q70, .int 0, .ref q78, .ref q86, .ref q94, .ref q102, .ref q110, .ref q118, .int 0, .int 0, .null, .int 0]) hx hb hts zw_in10 zY10 zw_ty10 zw_nm10 hown hK hP hD hS 0 rfl rfl 21 (by decide) (hts _ zif_Mo_init_63) (fun _ h9 => h9) rfl hin rfl (by decide +kernel) rfl rfl (Nat.le_of_ble_eq_true rfl) zd_Mo_init_128 (fun H locs hP hD hS => ?_)
  have hP : va_P D zwCl [(h0, .inr (5, [.int 0, .int 2, .int 1, .int 1, .ref q21, .ref q28, .ref q35, .ref q42, .ref q49, .ref q56, .ref q63, .ref q70, .int 0, .ref q78, .ref q86, .ref q94, .ref q102, .ref q110, .ref q118, .int 0, .int 0, .ref q126, .int 0])), (q21, .inl (c21, 5, .inl (fun _ => 0))), (q28, .inl (c21, 5, .inl (fun _ => 0))), (q35, .inl (c21, 5, .inl (fun _ => 0))), (q42, .inl (c21, 5, .inl (fun _ => 0))), (q49, .inl (c21, 5, .inl (fun _ => 0))), (q56, .inl (c56, 5, .inl (fun _ => 0))), (q63, .inl (c56, 5, .inl (fun _ => 0))), (q70, .inl (c56, 5, .inl (fun _ => 0))), (q78, .inl (c21, 48, .inl (fun _ => 0))), (q86, .inl (c21, 48, .inl (fun _ => 0))), (q94, .inl (c21, 48, .inl (fun _ => 0))), (q102, .inl (c21, 48, .inl (fun _ => 0))), (q110, .inl (c21, 24, .inl (fun _ => 0))), (q118, .inl (c21, 24, .inl (fun _ => 0))), (q126, .inl (c21, 120, .inl (fun _ => 0)))] H := hP
  have hD : va_D A [(h0, .inr (5, [.int 0, .int 2, .int 1, .int 1, .ref q21, .ref q28, .ref q35, .ref q42, .ref q49, .ref q56, .ref q63, .ref q70, .int 0, .ref q78, .ref q86, .ref q94, .ref q102, .ref q110, .ref q118, .int 0, .int 0, .ref q126, .int 0])), (q21, .inl (c21, 5, .inl (fun _ => 0))), (q28, .inl (c21, 5, .inl (fun _ => 0))), (q35, .inl (c21, 5, .inl (fun _ => 0))), (q42, .inl (c21, 5, .inl (fun _ => 0))), (q49, .inl (c21, 5, .inl (fun _ => 0))), (q56, .inl (c56, 5, .inl (fun _ => 0))), (q63, .inl (c56, 5, .inl (fun _ => 0))), (q70, .inl (c56, 5, .inl (fun _ => 0))), (q78, .inl (c21, 48, .inl (fun _ => 0))), (q86, .inl (c21, 48, .inl (fun _ => 0))), (q94, .inl (c21, 48, .inl (fun _ => 0))), (q102, .inl (c21, 48, .inl (fun _ => 0))), (q110, .inl (c21, 24, .inl (fun _ => 0))), (q118, .inl (c21, 24, .inl (fun _ => 0))), (q126, .inl (c21, 120, .inl (fun _ => 0)))] := hD
  exact W.vret hx hb hr (fun t ht hW => ⟨⟨((fun k => match k with | 1 => q21 | 2 => q28 | 3 => q35 | 4 => q42 | 5 => q49 | 6 => q56 | 7 => q63 | 8 => q70 | 9 => q78 | 10 => q86 | 11 => q94 | 12 => q102 | 13 => q110 | 14 => q118 | 15 => q126 | _ => 0), (fun k => match k with | 0 => c21 | _ => c56)), rfl, trivial, by rw [ht]; exact hP, va_K.moved hW.alike hK, hD⟩, hS.F ht⟩) hS.2.2 zd_Mo_init_131
