def zi (r : Nat) : Int32 := Int32.ofNat r
theorem zi_int {r : Nat} (h : r < 2147483648) : (zi r).toInt = (r : Int) := by
  unfold zi
  rw [Int32.toInt_ofNat']
  simp only [Int.bmod, Int32.size]
  omega
theorem zi_nat {r : Nat} (h : r < 2147483648) : (zi r).toNatClampNeg = r := by
  unfold Int32.toNatClampNeg
  rw [zi_int h]
  rfl
theorem zi_le {a b : Nat} (ha : a < 2147483648) (hb : b < 2147483648) : zi a ≤ zi b ↔ a ≤ b := by
  rw [Int32.le_iff_toInt_le, zi_int ha, zi_int hb]; omega
theorem zi_lt {a b : Nat} (ha : a < 2147483648) (hb : b < 2147483648) : zi a < zi b ↔ a < b := by
  rw [Int32.lt_iff_toInt_lt, zi_int ha, zi_int hb]; omega
theorem zi_eq {a b : Nat} (ha : a < 2147483648) (hb : b < 2147483648) : zi a = zi b ↔ a = b := by
  rw [← Int32.toInt_inj, zi_int ha, zi_int hb]; omega
theorem zi_neg {r : Nat} (h : r < 2147483648) : ¬ zi r < 0 := by
  rw [Int32.lt_iff_toInt_lt, zi_int h]
  have : (0 : Int32).toInt = 0 := by decide
  omega
theorem zi_add (a b : Nat) : zi a + zi b = zi (a + b) := (Int32.ofNat_add a b).symm
theorem zi_succ (a : Nat) : zi a + 1 = zi (a + 1) := (Int32.ofNat_add a 1).symm
theorem zi_mul (a b : Nat) : zi a * zi b = zi (a * b) := (Int32.ofNat_mul a b).symm
theorem zi_sub {a b : Nat} (h : b ≤ a) : zi a - zi b = zi (a - b) := by
  unfold zi
  rw [← Int32.ofNat_sub a b h]
theorem zi_in {r k : Nat} (h : r < k) (hk : k ≤ 2147483648) : ¬ (zi r < 0 ∨ k ≤ (zi r).toNatClampNeg) := by
  rw [zi_nat (by omega)]
  rintro (h1 | h1)
  · exact zi_neg (by omega) h1
  · omega
theorem zi_inn {r k : Nat} (h : r < k) (hk : k ≤ 2147483648) : ¬ (zi r < 0 ∨ k ≤ r) := by
  rintro (h1 | h1)
  · exact zi_neg (by omega) h1
  · omega
theorem zi_div {a b : Nat} (ha : a < 2147483648) (hb : b < 2147483648) : zi a / zi b = zi (a / b) := by
  rw [← Int32.toInt_inj, Int32.toInt_div, zi_int ha, zi_int hb, zi_int (Nat.lt_of_le_of_lt (Nat.div_le_self a b) ha)]
  rw [← Int.ofNat_tdiv]
  have : a / b < 2147483648 := Nat.lt_of_le_of_lt (Nat.div_le_self a b) ha
  generalize a / b = q at *
  simp only [Int.bmod]
  omega
theorem zi_of {x : Int32} (h : 0 ≤ x) : ∃ n, n < 2147483648 ∧ x = zi n := by
  refine ⟨x.toInt.toNat, ?_, ?_⟩
  · have := x.toInt_lt
    omega
  · rw [Int32.le_iff_toInt_le] at h
    have h0 : (0 : Int32).toInt = 0 := by decide
    have h1 := x.toInt_lt
    rw [← Int32.toInt_inj, zi_int (by omega)]
    omega
theorem zi_dec (a b : Nat) : zi a - zi b + (-1) = zi a - zi (b + 1) := by
  rw [← zi_succ]
  have : ∀ x y : Int32, x - y + (-1) = x - (y + 1) := by
    intro x y
    rw [Int32.sub_eq_add_neg, Int32.sub_eq_add_neg, Int32.neg_add, Int32.add_assoc, Int32.sub_eq_add_neg]
  exact this _ _
theorem zi_sle {a b : Nat} (ha : a < 1000000000) (hb : b < 1000000000) : zi a - zi b ≤ 0 ↔ a ≤ b := by
  rw [Int32.le_iff_toInt_le, Int32.toInt_sub, zi_int (by omega), zi_int (by omega)]
  have h0 : (0 : Int32).toInt = 0 := by decide
  rw [h0]
  simp only [Int.bmod]
  omega
def zbit (m : Int32) (r : Nat) : Bool := m.toBitVec.getLsbD r
theorem zbit_and (a b : Int32) (r : Nat) : zbit (a &&& b) r = (zbit a r && zbit b r) := by simp [zbit]
theorem zbit_or (a b : Int32) (r : Nat) : zbit (a ||| b) r = (zbit a r || zbit b r) := by simp [zbit]
theorem zbit_ge (a : Int32) {r : Nat} (h : 32 ≤ r) : zbit a r = false := by unfold zbit; exact BitVec.getLsbD_of_ge _ _ h
theorem zbit_not (a : Int32) {r : Nat} (h : r < 32) : zbit (a ^^^ (-1)) r = !zbit a r := by
  unfold zbit
  rw [Int32.toBitVec_xor, BitVec.getLsbD_xor]
  have : (-1 : Int32).toBitVec = BitVec.allOnes 32 := by decide
  rw [this, BitVec.getLsbD_allOnes, decide_eq_true h, Bool.xor_true]
theorem zbit_zero (r : Nat) : zbit 0 r = false := by simp [zbit]
theorem zbit_shl {r : Nat} (h : r < 32) (i : Nat) : zbit (1 <<< (zi r &&& 31)) i = decide (i = r) := by
  have hs : ∀ r, r < 32 → ((1 : Int32) <<< (zi r &&& 31)).toBitVec = BitVec.twoPow 32 r := by decide +kernel
  unfold zbit
  rw [hs r h, BitVec.getLsbD_twoPow]
  by_cases hi : i = r
  · subst hi; simp [h]
  · simp [hi, Ne.symm hi]
theorem zbit_ext {a b : Int32} (h : ∀ r, r < 32 → zbit a r = zbit b r) : a = b := Int32.toBitVec_inj.mp (BitVec.eq_of_getLsbD_eq (fun i hi => h i hi))
theorem zbit_eq0 (m : Int32) : m = 0 ↔ ∀ r, r < 32 → zbit m r = false := ⟨fun h r _ => by rw [h, zbit_zero], fun h => zbit_ext (fun r hr => by rw [h r hr, zbit_zero])⟩
theorem zbit_test (m : Int32) {r : Nat} (h : r < 32) : (m &&& (1 <<< (zi r &&& 31))) = 0 ↔ zbit m r = false := by
  rw [zbit_eq0]
  constructor
  · intro h1
    have := h1 r h
    rw [zbit_and, zbit_shl h] at this
    simpa using this
  · intro h1 i hi
    rw [zbit_and, zbit_shl h]
    by_cases e : i = r
    · subst e; simp [h1]
    · simp [e]
def zc (p : Nat → Bool) : Nat → Nat
  | 0 => 0
  | n + 1 => zc p n + (if p n then 1 else 0)
theorem zc_succ (p : Nat → Bool) (n : Nat) : zc p (n + 1) = zc p n + (if p n then 1 else 0) := rfl
theorem zc_le (p : Nat → Bool) (n : Nat) : zc p n ≤ n := by
  induction n with
  | zero => exact Nat.le_refl 0
  | succ n ih => rw [zc_succ]; split <;> omega
theorem zc_congr {p q : Nat → Bool} {n : Nat} (h : ∀ r, r < n → p r = q r) : zc p n = zc q n := by
  induction n with
  | zero => rfl
  | succ n ih => rw [zc_succ, zc_succ, ih (fun r hr => h r (by omega)), h n (by omega)]
theorem zc_mono (p : Nat → Bool) {a b : Nat} (h : a ≤ b) : zc p a ≤ zc p b := by
  induction b with
  | zero => rw [Nat.le_zero.mp h]; exact Nat.le_refl _
  | succ b ih =>
    by_cases e : a = b + 1
    · rw [e]; exact Nat.le_refl _
    · have := ih (by omega); rw [zc_succ]; split <;> omega
theorem zc_none {p : Nat → Bool} {a : Nat} (b : Nat) (h : ∀ r, a ≤ r → p r = false) : zc p (a + b) = zc p a := by
  induction b with
  | zero => rfl
  | succ b ih => rw [← Nat.add_assoc, zc_succ, ih, h (a + b) (by omega)]; simp
def zsh (x : Int32) (k : Int32) : Int32 := (x.toUInt32 >>> (k.toUInt32 &&& Int32.toUInt32 31)).toInt32
def zpop1 (x : Int32) : Int32 := x - (zsh x 1 &&& 1431655765)
def zpop2 (x : Int32) : Int32 := (x &&& 858993459) + (zsh x 2 &&& 858993459)
def zpop3 (x : Int32) : Int32 := (x + zsh x 4) &&& 252645135
def zpop4 (x : Int32) : Int32 := x + zsh x 8
def zpop5 (x : Int32) : Int32 := x + zsh x 16
def zpop (x : Int32) : Int32 := zpop5 (zpop4 (zpop3 (zpop2 (zpop1 x)))) &&& 63
def zu (x : Int32) : Nat := x.toBitVec.toNat
theorem zu_lt (x : Int32) : zu x < 4294967296 := x.toBitVec.isLt
theorem zu_sh (x k : Int32) (n : Nat) (h : (k.toUInt32 &&& Int32.toUInt32 31) = UInt32.ofNat n) (hn : n < 32) : zu (zsh x k) = zu x / 2 ^ n := by
  unfold zu zsh
  rw [h]
  show (x.toUInt32 >>> UInt32.ofNat n).toBitVec.toNat = _
  rw [UInt32.toBitVec_shiftRight]
  show (x.toBitVec >>> ((UInt32.ofNat n).toBitVec % 32)).toNat = _
  have : (UInt32.ofNat n).toBitVec % 32 = BitVec.ofNat 32 n := by
    apply BitVec.eq_of_toNat_eq
    show (n % 2 ^ 32) % 32 = n % 2 ^ 32
    omega
  rw [this, BitVec.ushiftRight_eq', BitVec.toNat_ushiftRight, BitVec.toNat_ofNat, Nat.shiftRight_eq_div_pow]
  congr 2
  omega
theorem zu_and (x y : Int32) : zu (x &&& y) = (zu x &&& zu y) := by simp [zu]
theorem zu_add {x y : Int32} (h : zu x + zu y < 4294967296) : zu (x + y) = zu x + zu y := by
  unfold zu at *
  rw [Int32.toBitVec_add, BitVec.toNat_add]
  exact Nat.mod_eq_of_lt h
theorem zu_sub {x y : Int32} (h : zu y ≤ zu x) : zu (x - y) = zu x - zu y := by
  unfold zu at *
  rw [Int32.toBitVec_sub]
  exact BitVec.toNat_sub_of_le h
theorem zand_split {k lo hi M M' : Nat} (h1 : lo < 2 ^ k) (h2 : M < 2 ^ k) : (lo + 2 ^ k * hi) &&& (M + 2 ^ k * M') = (lo &&& M) + 2 ^ k * (hi &&& M') := by
  have a1 : (lo + 2 ^ k * hi) % 2 ^ k = lo := by rw [Nat.add_mul_mod_self_left, Nat.mod_eq_of_lt h1]
  have a2 : (M + 2 ^ k * M') % 2 ^ k = M := by rw [Nat.add_mul_mod_self_left, Nat.mod_eq_of_lt h2]
  have hp : 0 < 2 ^ k := Nat.two_pow_pos k
  have a3 : (lo + 2 ^ k * hi) / 2 ^ k = hi := by rw [Nat.add_mul_div_left _ _ hp, Nat.div_eq_of_lt h1, Nat.zero_add]
  have a4 : (M + 2 ^ k * M') / 2 ^ k = M' := by rw [Nat.add_mul_div_left _ _ hp, Nat.div_eq_of_lt h2, Nat.zero_add]
  have b := Nat.mod_add_div ((lo + 2 ^ k * hi) &&& (M + 2 ^ k * M')) (2 ^ k)
  rw [Nat.and_mod_two_pow, Nat.and_div_two_pow, a1, a2, a3, a4] at b
  exact b.symm
theorem zand4 {lo hi M M' K : Nat} (hK : K = M + 4 * M') (h1 : lo < 4) (h2 : M < 4) : (lo + 4 * hi) &&& K = (lo &&& M) + 4 * (hi &&& M') := by subst hK; exact zand_split (k := 2) h1 h2
theorem zand16 {lo hi M M' K : Nat} (hK : K = M + 16 * M') (h1 : lo < 16) (h2 : M < 16) : (lo + 16 * hi) &&& K = (lo &&& M) + 16 * (hi &&& M') := by subst hK; exact zand_split (k := 4) h1 h2
theorem zand256 {lo hi M M' K : Nat} (hK : K = M + 256 * M') (h1 : lo < 256) (h2 : M < 256) : (lo + 256 * hi) &&& K = (lo &&& M) + 256 * (hi &&& M') := by subst hK; exact zand_split (k := 8) h1 h2
theorem zand_a {a b : Nat} (ha : a ≤ 1) (hb : b ≤ 1) : (a + 2 * b) &&& 1 = a := by
  have : ∀ a, a ≤ 1 → ∀ b, b ≤ 1 → (a + 2 * b) &&& 1 = a := by decide
  exact this a ha b hb
theorem zand_b {a b : Nat} (ha : a ≤ 2) (hb : b ≤ 2) : (a + 4 * b) &&& 3 = a := by
  have : ∀ a, a ≤ 2 → ∀ b, b ≤ 2 → (a + 4 * b) &&& 3 = a := by decide
  exact this a ha b hb
theorem zand_c {a b : Nat} (ha : a ≤ 8) (hb : b ≤ 8) : (a + 16 * b) &&& 15 = a := by
  have : ∀ a, a ≤ 8 → ∀ b, b ≤ 8 → (a + 16 * b) &&& 15 = a := by decide +kernel
  exact this a ha b hb
theorem zstage1 (b1 b2 b3 b4 b5 b6 b7 b8 b9 b10 b11 b12 b13 b14 b15 b16 b17 b18 b19 b20 b21 b22 b23 b24 b25 b26 b27 b28 b29 b30 b31 : Nat) (h1 : b1 ≤ 1) (h2 : b2 ≤ 1) (h3 : b3 ≤ 1) (h4 : b4 ≤ 1) (h5 : b5 ≤ 1) (h6 : b6 ≤ 1) (h7 : b7 ≤ 1) (h8 : b8 ≤ 1) (h9 : b9 ≤ 1) (h10 : b10 ≤ 1) (h11 : b11 ≤ 1) (h12 : b12 ≤ 1) (h13 : b13 ≤ 1) (h14 : b14 ≤ 1) (h15 : b15 ≤ 1) (h16 : b16 ≤ 1) (h17 : b17 ≤ 1) (h18 : b18 ≤ 1) (h19 : b19 ≤ 1) (h20 : b20 ≤ 1) (h21 : b21 ≤ 1) (h22 : b22 ≤ 1) (h23 : b23 ≤ 1) (h24 : b24 ≤ 1) (h25 : b25 ≤ 1) (h26 : b26 ≤ 1) (h27 : b27 ≤ 1) (h28 : b28 ≤ 1) (h29 : b29 ≤ 1) (h30 : b30 ≤ 1) (h31 : b31 ≤ 1) : ((b1 + 2 * b2) + 4 * ((b3 + 2 * b4) + 4 * ((b5 + 2 * b6) + 4 * ((b7 + 2 * b8) + 4 * ((b9 + 2 * b10) + 4 * ((b11 + 2 * b12) + 4 * ((b13 + 2 * b14) + 4 * ((b15 + 2 * b16) + 4 * ((b17 + 2 * b18) + 4 * ((b19 + 2 * b20) + 4 * ((b21 + 2 * b22) + 4 * ((b23 + 2 * b24) + 4 * ((b25 + 2 * b26) + 4 * ((b27 + 2 * b28) + 4 * ((b29 + 2 * b30) + 4 * (b31 + 2 * 0)))))))))))))))) &&& 1431655765 = (b1 + 4 * (b3 + 4 * (b5 + 4 * (b7 + 4 * (b9 + 4 * (b11 + 4 * (b13 + 4 * (b15 + 4 * (b17 + 4 * (b19 + 4 * (b21 + 4 * (b23 + 4 * (b25 + 4 * (b27 + 4 * (b29 + 4 * b31))))))))))))))) := by
  rw [zand4 (K := 1431655765) (M := 1) (M' := 357913941) rfl (by omega) (by decide), zand_a h1 h2]
  rw [zand4 (K := 357913941) (M := 1) (M' := 89478485) rfl (by omega) (by decide), zand_a h3 h4]
  rw [zand4 (K := 89478485) (M := 1) (M' := 22369621) rfl (by omega) (by decide), zand_a h5 h6]
  rw [zand4 (K := 22369621) (M := 1) (M' := 5592405) rfl (by omega) (by decide), zand_a h7 h8]
  rw [zand4 (K := 5592405) (M := 1) (M' := 1398101) rfl (by omega) (by decide), zand_a h9 h10]
  rw [zand4 (K := 1398101) (M := 1) (M' := 349525) rfl (by omega) (by decide), zand_a h11 h12]
  rw [zand4 (K := 349525) (M := 1) (M' := 87381) rfl (by omega) (by decide), zand_a h13 h14]
  rw [zand4 (K := 87381) (M := 1) (M' := 21845) rfl (by omega) (by decide), zand_a h15 h16]
  rw [zand4 (K := 21845) (M := 1) (M' := 5461) rfl (by omega) (by decide), zand_a h17 h18]
  rw [zand4 (K := 5461) (M := 1) (M' := 1365) rfl (by omega) (by decide), zand_a h19 h20]
  rw [zand4 (K := 1365) (M := 1) (M' := 341) rfl (by omega) (by decide), zand_a h21 h22]
  rw [zand4 (K := 341) (M := 1) (M' := 85) rfl (by omega) (by decide), zand_a h23 h24]
  rw [zand4 (K := 85) (M := 1) (M' := 21) rfl (by omega) (by decide), zand_a h25 h26]
  rw [zand4 (K := 21) (M := 1) (M' := 5) rfl (by omega) (by decide), zand_a h27 h28]
  rw [zand4 (K := 5) (M := 1) (M' := 1) rfl (by omega) (by decide), zand_a h29 h30]
  rw [zand_a h31 (Nat.zero_le 1)]
theorem zstage2a (c0 c1 c2 c3 c4 c5 c6 c7 c8 c9 c10 c11 c12 c13 c14 c15 : Nat) (h0 : c0 ≤ 2) (h1 : c1 ≤ 2) (h2 : c2 ≤ 2) (h3 : c3 ≤ 2) (h4 : c4 ≤ 2) (h5 : c5 ≤ 2) (h6 : c6 ≤ 2) (h7 : c7 ≤ 2) (h8 : c8 ≤ 2) (h9 : c9 ≤ 2) (h10 : c10 ≤ 2) (h11 : c11 ≤ 2) (h12 : c12 ≤ 2) (h13 : c13 ≤ 2) (h14 : c14 ≤ 2) (h15 : c15 ≤ 2) : ((c0 + 4 * c1) + 16 * ((c2 + 4 * c3) + 16 * ((c4 + 4 * c5) + 16 * ((c6 + 4 * c7) + 16 * ((c8 + 4 * c9) + 16 * ((c10 + 4 * c11) + 16 * ((c12 + 4 * c13) + 16 * (c14 + 4 * c15)))))))) &&& 858993459 = (c0 + 16 * (c2 + 16 * (c4 + 16 * (c6 + 16 * (c8 + 16 * (c10 + 16 * (c12 + 16 * c14))))))) := by
  rw [zand16 (K := 858993459) (M := 3) (M' := 53687091) rfl (by omega) (by decide), zand_b h0 h1]
  rw [zand16 (K := 53687091) (M := 3) (M' := 3355443) rfl (by omega) (by decide), zand_b h2 h3]
  rw [zand16 (K := 3355443) (M := 3) (M' := 209715) rfl (by omega) (by decide), zand_b h4 h5]
  rw [zand16 (K := 209715) (M := 3) (M' := 13107) rfl (by omega) (by decide), zand_b h6 h7]
  rw [zand16 (K := 13107) (M := 3) (M' := 819) rfl (by omega) (by decide), zand_b h8 h9]
  rw [zand16 (K := 819) (M := 3) (M' := 51) rfl (by omega) (by decide), zand_b h10 h11]
  rw [zand16 (K := 51) (M := 3) (M' := 3) rfl (by omega) (by decide), zand_b h12 h13]
  rw [zand_b h14 h15]
theorem zstage2b (c1 c2 c3 c4 c5 c6 c7 c8 c9 c10 c11 c12 c13 c14 c15 : Nat) (h1 : c1 ≤ 2) (h2 : c2 ≤ 2) (h3 : c3 ≤ 2) (h4 : c4 ≤ 2) (h5 : c5 ≤ 2) (h6 : c6 ≤ 2) (h7 : c7 ≤ 2) (h8 : c8 ≤ 2) (h9 : c9 ≤ 2) (h10 : c10 ≤ 2) (h11 : c11 ≤ 2) (h12 : c12 ≤ 2) (h13 : c13 ≤ 2) (h14 : c14 ≤ 2) (h15 : c15 ≤ 2) : ((c1 + 4 * c2) + 16 * ((c3 + 4 * c4) + 16 * ((c5 + 4 * c6) + 16 * ((c7 + 4 * c8) + 16 * ((c9 + 4 * c10) + 16 * ((c11 + 4 * c12) + 16 * ((c13 + 4 * c14) + 16 * (c15 + 4 * 0)))))))) &&& 858993459 = (c1 + 16 * (c3 + 16 * (c5 + 16 * (c7 + 16 * (c9 + 16 * (c11 + 16 * (c13 + 16 * c15))))))) := by
  rw [zand16 (K := 858993459) (M := 3) (M' := 53687091) rfl (by omega) (by decide), zand_b h1 h2]
  rw [zand16 (K := 53687091) (M := 3) (M' := 3355443) rfl (by omega) (by decide), zand_b h3 h4]
  rw [zand16 (K := 3355443) (M := 3) (M' := 209715) rfl (by omega) (by decide), zand_b h5 h6]
  rw [zand16 (K := 209715) (M := 3) (M' := 13107) rfl (by omega) (by decide), zand_b h7 h8]
  rw [zand16 (K := 13107) (M := 3) (M' := 819) rfl (by omega) (by decide), zand_b h9 h10]
  rw [zand16 (K := 819) (M := 3) (M' := 51) rfl (by omega) (by decide), zand_b h11 h12]
  rw [zand16 (K := 51) (M := 3) (M' := 3) rfl (by omega) (by decide), zand_b h13 h14]
  rw [zand_b h15 (Nat.zero_le 2)]
theorem zstage3 (e0 e1 e2 e3 e4 e5 e6 e7 : Nat) (h0 : e0 ≤ 8) (h1 : e1 ≤ 8) (h2 : e2 ≤ 8) (h3 : e3 ≤ 8) (h4 : e4 ≤ 8) (h5 : e5 ≤ 8) (h6 : e6 ≤ 8) (h7 : e7 ≤ 8) : ((e0 + 16 * e1) + 256 * ((e2 + 16 * e3) + 256 * ((e4 + 16 * e5) + 256 * (e6 + 16 * e7)))) &&& 252645135 = (e0 + 256 * (e2 + 256 * (e4 + 256 * e6))) := by
  rw [zand256 (K := 252645135) (M := 15) (M' := 986895) rfl (by omega) (by decide), zand_c h0 h1]
  rw [zand256 (K := 986895) (M := 15) (M' := 3855) rfl (by omega) (by decide), zand_c h2 h3]
  rw [zand256 (K := 3855) (M := 15) (M' := 15) rfl (by omega) (by decide), zand_c h4 h5]
  rw [zand_c h6 h7]
def zval (p : Nat → Bool) : Nat → Nat
  | 0 => 0
  | n + 1 => zval p n + (if p n then 2 ^ n else 0)
theorem zval_mod (X : Nat) (n : Nat) : zval (fun i => X.testBit i) n = X % 2 ^ n := by
  induction n with
  | zero => simp [zval, Nat.mod_one]
  | succ n ih =>
    have h : X % 2 ^ (n + 1) = X % 2 ^ n + 2 ^ n * (X / 2 ^ n % 2) := by rw [Nat.pow_succ, Nat.mod_mul]
    rw [h, ← ih]
    show zval _ n + (if X.testBit n = true then 2 ^ n else 0) = _
    rw [Nat.testBit_eq_decide_div_mod_eq]
    by_cases e : X / 2 ^ n % 2 = 1
    · rw [e]; simp
    · rw [show X / 2 ^ n % 2 = 0 by omega]; simp
def zb01 (x : Int32) (i : Nat) : Nat := if zbit x i then 1 else 0
theorem zb01_le (x : Int32) (i : Nat) : zb01 x i ≤ 1 := by unfold zb01; split <;> omega
theorem zu_bits (x : Int32) : zu x = 1 * zb01 x 0 + 2 * zb01 x 1 + 4 * zb01 x 2 + 8 * zb01 x 3 + 16 * zb01 x 4 + 32 * zb01 x 5 + 64 * zb01 x 6 + 128 * zb01 x 7 + 256 * zb01 x 8 + 512 * zb01 x 9 + 1024 * zb01 x 10 + 2048 * zb01 x 11 + 4096 * zb01 x 12 + 8192 * zb01 x 13 + 16384 * zb01 x 14 + 32768 * zb01 x 15 + 65536 * zb01 x 16 + 131072 * zb01 x 17 + 262144 * zb01 x 18 + 524288 * zb01 x 19 + 1048576 * zb01 x 20 + 2097152 * zb01 x 21 + 4194304 * zb01 x 22 + 8388608 * zb01 x 23 + 16777216 * zb01 x 24 + 33554432 * zb01 x 25 + 67108864 * zb01 x 26 + 134217728 * zb01 x 27 + 268435456 * zb01 x 28 + 536870912 * zb01 x 29 + 1073741824 * zb01 x 30 + 2147483648 * zb01 x 31 := by
  have h : zval (fun i => (zu x).testBit i) 32 = zu x := by rw [zval_mod]; exact Nat.mod_eq_of_lt (zu_lt x)
  have hb : ∀ i, zbit x i = (zu x).testBit i := fun i => rfl
  have hs : ∀ n, zval (fun i => (zu x).testBit i) (n + 1) = zval (fun i => (zu x).testBit i) n + 2 ^ n * zb01 x n := by
    intro n
    show zval _ n + _ = _
    unfold zb01
    rw [hb]
    split <;> simp
  rw [← h]
  have h0 : zval (fun i => (zu x).testBit i) 0 = 0 := rfl
  rw [hs 31, hs 30, hs 29, hs 28, hs 27, hs 26, hs 25, hs 24, hs 23, hs 22, hs 21, hs 20, hs 19, hs 18, hs 17, hs 16, hs 15, hs 14, hs 13, hs 12, hs 11, hs 10, hs 9, hs 8, hs 7, hs 6, hs 5, hs 4, hs 3, hs 2, hs 1, hs 0, h0]
  omega
theorem zc_bits (x : Int32) : zc (zbit x) 32 = zb01 x 0 + zb01 x 1 + zb01 x 2 + zb01 x 3 + zb01 x 4 + zb01 x 5 + zb01 x 6 + zb01 x 7 + zb01 x 8 + zb01 x 9 + zb01 x 10 + zb01 x 11 + zb01 x 12 + zb01 x 13 + zb01 x 14 + zb01 x 15 + zb01 x 16 + zb01 x 17 + zb01 x 18 + zb01 x 19 + zb01 x 20 + zb01 x 21 + zb01 x 22 + zb01 x 23 + zb01 x 24 + zb01 x 25 + zb01 x 26 + zb01 x 27 + zb01 x 28 + zb01 x 29 + zb01 x 30 + zb01 x 31 := by
  have hs : ∀ n, zc (zbit x) (n + 1) = zc (zbit x) n + zb01 x n := fun n => rfl
  have h0 : zc (zbit x) 0 = 0 := rfl
  rw [hs 31, hs 30, hs 29, hs 28, hs 27, hs 26, hs 25, hs 24, hs 23, hs 22, hs 21, hs 20, hs 19, hs 18, hs 17, hs 16, hs 15, hs 14, hs 13, hs 12, hs 11, hs 10, hs 9, hs 8, hs 7, hs 6, hs 5, hs 4, hs 3, hs 2, hs 1, hs 0, h0]
  omega
theorem zl1 (b0 b1 b2 b3 b4 b5 b6 b7 b8 b9 b10 b11 b12 b13 b14 b15 b16 b17 b18 b19 b20 b21 b22 b23 b24 b25 b26 b27 b28 b29 b30 b31 : Nat) : 1 * b0 + 2 * b1 + 4 * b2 + 8 * b3 + 16 * b4 + 32 * b5 + 64 * b6 + 128 * b7 + 256 * b8 + 512 * b9 + 1024 * b10 + 2048 * b11 + 4096 * b12 + 8192 * b13 + 16384 * b14 + 32768 * b15 + 65536 * b16 + 131072 * b17 + 262144 * b18 + 524288 * b19 + 1048576 * b20 + 2097152 * b21 + 4194304 * b22 + 8388608 * b23 + 16777216 * b24 + 33554432 * b25 + 67108864 * b26 + 134217728 * b27 + 268435456 * b28 + 536870912 * b29 + 1073741824 * b30 + 2147483648 * b31 = b0 + 2 * ((b1 + 2 * b2) + 4 * ((b3 + 2 * b4) + 4 * ((b5 + 2 * b6) + 4 * ((b7 + 2 * b8) + 4 * ((b9 + 2 * b10) + 4 * ((b11 + 2 * b12) + 4 * ((b13 + 2 * b14) + 4 * ((b15 + 2 * b16) + 4 * ((b17 + 2 * b18) + 4 * ((b19 + 2 * b20) + 4 * ((b21 + 2 * b22) + 4 * ((b23 + 2 * b24) + 4 * ((b25 + 2 * b26) + 4 * ((b27 + 2 * b28) + 4 * ((b29 + 2 * b30) + 4 * (b31 + 2 * 0)))))))))))))))) := by omega
theorem zl2 (b0 b1 b2 b3 b4 b5 b6 b7 b8 b9 b10 b11 b12 b13 b14 b15 b16 b17 b18 b19 b20 b21 b22 b23 b24 b25 b26 b27 b28 b29 b30 b31 : Nat) : 1 * b0 + 2 * b1 + 4 * b2 + 8 * b3 + 16 * b4 + 32 * b5 + 64 * b6 + 128 * b7 + 256 * b8 + 512 * b9 + 1024 * b10 + 2048 * b11 + 4096 * b12 + 8192 * b13 + 16384 * b14 + 32768 * b15 + 65536 * b16 + 131072 * b17 + 262144 * b18 + 524288 * b19 + 1048576 * b20 + 2097152 * b21 + 4194304 * b22 + 8388608 * b23 + 16777216 * b24 + 33554432 * b25 + 67108864 * b26 + 134217728 * b27 + 268435456 * b28 + 536870912 * b29 + 1073741824 * b30 + 2147483648 * b31 = (b1 + 4 * (b3 + 4 * (b5 + 4 * (b7 + 4 * (b9 + 4 * (b11 + 4 * (b13 + 4 * (b15 + 4 * (b17 + 4 * (b19 + 4 * (b21 + 4 * (b23 + 4 * (b25 + 4 * (b27 + 4 * (b29 + 4 * b31))))))))))))))) + ((b0 + b1) + 4 * ((b2 + b3) + 4 * ((b4 + b5) + 4 * ((b6 + b7) + 4 * ((b8 + b9) + 4 * ((b10 + b11) + 4 * ((b12 + b13) + 4 * ((b14 + b15) + 4 * ((b16 + b17) + 4 * ((b18 + b19) + 4 * ((b20 + b21) + 4 * ((b22 + b23) + 4 * ((b24 + b25) + 4 * ((b26 + b27) + 4 * ((b28 + b29) + 4 * (b30 + b31)))))))))))))))) := by omega
theorem zl3 (b0 b1 b2 b3 b4 b5 b6 b7 b8 b9 b10 b11 b12 b13 b14 b15 b16 b17 b18 b19 b20 b21 b22 b23 b24 b25 b26 b27 b28 b29 b30 b31 : Nat) : b0 + b1 + b2 + b3 + b4 + b5 + b6 + b7 + b8 + b9 + b10 + b11 + b12 + b13 + b14 + b15 + b16 + b17 + b18 + b19 + b20 + b21 + b22 + b23 + b24 + b25 + b26 + b27 + b28 + b29 + b30 + b31 = (b0 + b1) + (b2 + b3) + (b4 + b5) + (b6 + b7) + (b8 + b9) + (b10 + b11) + (b12 + b13) + (b14 + b15) + (b16 + b17) + (b18 + b19) + (b20 + b21) + (b22 + b23) + (b24 + b25) + (b26 + b27) + (b28 + b29) + (b30 + b31) := by omega
theorem zl4 (c0 c1 c2 c3 c4 c5 c6 c7 c8 c9 c10 c11 c12 c13 c14 c15 : Nat) : (c0 + 4 * (c1 + 4 * (c2 + 4 * (c3 + 4 * (c4 + 4 * (c5 + 4 * (c6 + 4 * (c7 + 4 * (c8 + 4 * (c9 + 4 * (c10 + 4 * (c11 + 4 * (c12 + 4 * (c13 + 4 * (c14 + 4 * c15))))))))))))))) = ((c0 + 4 * c1) + 16 * ((c2 + 4 * c3) + 16 * ((c4 + 4 * c5) + 16 * ((c6 + 4 * c7) + 16 * ((c8 + 4 * c9) + 16 * ((c10 + 4 * c11) + 16 * ((c12 + 4 * c13) + 16 * (c14 + 4 * c15)))))))) := by omega
theorem zl5 (c0 c1 c2 c3 c4 c5 c6 c7 c8 c9 c10 c11 c12 c13 c14 c15 : Nat) : (c0 + 4 * (c1 + 4 * (c2 + 4 * (c3 + 4 * (c4 + 4 * (c5 + 4 * (c6 + 4 * (c7 + 4 * (c8 + 4 * (c9 + 4 * (c10 + 4 * (c11 + 4 * (c12 + 4 * (c13 + 4 * (c14 + 4 * c15))))))))))))))) = c0 + 4 * ((c1 + 4 * c2) + 16 * ((c3 + 4 * c4) + 16 * ((c5 + 4 * c6) + 16 * ((c7 + 4 * c8) + 16 * ((c9 + 4 * c10) + 16 * ((c11 + 4 * c12) + 16 * ((c13 + 4 * c14) + 16 * (c15 + 4 * 0)))))))) := by omega
theorem zl6 (c0 c1 c2 c3 c4 c5 c6 c7 c8 c9 c10 c11 c12 c13 c14 c15 : Nat) : (c0 + 16 * (c2 + 16 * (c4 + 16 * (c6 + 16 * (c8 + 16 * (c10 + 16 * (c12 + 16 * c14))))))) + (c1 + 16 * (c3 + 16 * (c5 + 16 * (c7 + 16 * (c9 + 16 * (c11 + 16 * (c13 + 16 * c15))))))) = ((c0 + c1) + 16 * ((c2 + c3) + 16 * ((c4 + c5) + 16 * ((c6 + c7) + 16 * ((c8 + c9) + 16 * ((c10 + c11) + 16 * ((c12 + c13) + 16 * (c14 + c15)))))))) := by omega
theorem zl7 (c0 c1 c2 c3 c4 c5 c6 c7 c8 c9 c10 c11 c12 c13 c14 c15 : Nat) : c0 + c1 + c2 + c3 + c4 + c5 + c6 + c7 + c8 + c9 + c10 + c11 + c12 + c13 + c14 + c15 = (c0 + c1) + (c2 + c3) + (c4 + c5) + (c6 + c7) + (c8 + c9) + (c10 + c11) + (c12 + c13) + (c14 + c15) := by omega
theorem zl8 (d0 d1 d2 d3 d4 d5 d6 d7 : Nat) (m0 : d0 ≤ 4) (m1 : d1 ≤ 4) (m2 : d2 ≤ 4) (m3 : d3 ≤ 4) (m4 : d4 ≤ 4) (m5 : d5 ≤ 4) (m6 : d6 ≤ 4) (m7 : d7 ≤ 4) : (d0 + 16 * (d1 + 16 * (d2 + 16 * (d3 + 16 * (d4 + 16 * (d5 + 16 * (d6 + 16 * d7))))))) < 4294967296 := by omega
theorem zl9 (d0 d1 d2 d3 d4 d5 d6 d7 : Nat) : (d0 + 16 * (d1 + 16 * (d2 + 16 * (d3 + 16 * (d4 + 16 * (d5 + 16 * (d6 + 16 * d7))))))) = d0 + 16 * (d1 + 16 * (d2 + 16 * (d3 + 16 * (d4 + 16 * (d5 + 16 * (d6 + 16 * d7)))))) := by omega
theorem zl10 (d0 d1 d2 d3 d4 d5 d6 d7 : Nat) : (d0 + 16 * (d1 + 16 * (d2 + 16 * (d3 + 16 * (d4 + 16 * (d5 + 16 * (d6 + 16 * d7))))))) + (d1 + 16 * (d2 + 16 * (d3 + 16 * (d4 + 16 * (d5 + 16 * (d6 + 16 * d7)))))) = (((d0 + d1) + 16 * (d1 + d2)) + 256 * (((d2 + d3) + 16 * (d3 + d4)) + 256 * (((d4 + d5) + 16 * (d5 + d6)) + 256 * ((d6 + d7) + 16 * (d7 + 0))))) := by omega
theorem zl11 (d0 d1 d2 d3 d4 d5 d6 d7 : Nat) (m0 : d0 ≤ 4) (m1 : d1 ≤ 4) (m2 : d2 ≤ 4) (m3 : d3 ≤ 4) (m4 : d4 ≤ 4) (m5 : d5 ≤ 4) (m6 : d6 ≤ 4) (m7 : d7 ≤ 4) : (d0 + 16 * (d1 + 16 * (d2 + 16 * (d3 + 16 * (d4 + 16 * (d5 + 16 * (d6 + 16 * d7))))))) + (d1 + 16 * (d2 + 16 * (d3 + 16 * (d4 + 16 * (d5 + 16 * (d6 + 16 * d7)))))) < 4294967296 := by omega
theorem zdivl {a k Z : Nat} (h : a < k) : (a + k * Z) / k = Z := by rw [Nat.add_mul_div_left _ _ (by omega), Nat.div_eq_of_lt h, Nat.zero_add]
theorem zpop_1 (x : Int32) (b0 b1 b2 b3 b4 b5 b6 b7 b8 b9 b10 b11 b12 b13 b14 b15 b16 b17 b18 b19 b20 b21 b22 b23 b24 b25 b26 b27 b28 b29 b30 b31 : Nat) (h0 : b0 ≤ 1) (h1 : b1 ≤ 1) (h2 : b2 ≤ 1) (h3 : b3 ≤ 1) (h4 : b4 ≤ 1) (h5 : b5 ≤ 1) (h6 : b6 ≤ 1) (h7 : b7 ≤ 1) (h8 : b8 ≤ 1) (h9 : b9 ≤ 1) (h10 : b10 ≤ 1) (h11 : b11 ≤ 1) (h12 : b12 ≤ 1) (h13 : b13 ≤ 1) (h14 : b14 ≤ 1) (h15 : b15 ≤ 1) (h16 : b16 ≤ 1) (h17 : b17 ≤ 1) (h18 : b18 ≤ 1) (h19 : b19 ≤ 1) (h20 : b20 ≤ 1) (h21 : b21 ≤ 1) (h22 : b22 ≤ 1) (h23 : b23 ≤ 1) (h24 : b24 ≤ 1) (h25 : b25 ≤ 1) (h26 : b26 ≤ 1) (h27 : b27 ≤ 1) (h28 : b28 ≤ 1) (h29 : b29 ≤ 1) (h30 : b30 ≤ 1) (h31 : b31 ≤ 1) (hx : zu x = 1 * b0 + 2 * b1 + 4 * b2 + 8 * b3 + 16 * b4 + 32 * b5 + 64 * b6 + 128 * b7 + 256 * b8 + 512 * b9 + 1024 * b10 + 2048 * b11 + 4096 * b12 + 8192 * b13 + 16384 * b14 + 32768 * b15 + 65536 * b16 + 131072 * b17 + 262144 * b18 + 524288 * b19 + 1048576 * b20 + 2097152 * b21 + 4194304 * b22 + 8388608 * b23 + 16777216 * b24 + 33554432 * b25 + 67108864 * b26 + 134217728 * b27 + 268435456 * b28 + 536870912 * b29 + 1073741824 * b30 + 2147483648 * b31) : zu (zpop1 x) = ((b0 + b1) + 4 * ((b2 + b3) + 4 * ((b4 + b5) + 4 * ((b6 + b7) + 4 * ((b8 + b9) + 4 * ((b10 + b11) + 4 * ((b12 + b13) + 4 * ((b14 + b15) + 4 * ((b16 + b17) + 4 * ((b18 + b19) + 4 * ((b20 + b21) + 4 * ((b22 + b23) + 4 * ((b24 + b25) + 4 * ((b26 + b27) + 4 * ((b28 + b29) + 4 * (b30 + b31)))))))))))))))) := by
  have t1 : zu (zsh x 1 &&& 1431655765) = (b1 + 4 * (b3 + 4 * (b5 + 4 * (b7 + 4 * (b9 + 4 * (b11 + 4 * (b13 + 4 * (b15 + 4 * (b17 + 4 * (b19 + 4 * (b21 + 4 * (b23 + 4 * (b25 + 4 * (b27 + 4 * (b29 + 4 * b31))))))))))))))) := by
    rw [zu_and, zu_sh x 1 1 (by decide) (by decide), show zu 1431655765 = 1431655765 by decide +kernel, hx, zl1, show 2 ^ 1 = 2 from rfl, zdivl (Nat.lt_succ_of_le h0)]
    exact zstage1 b1 b2 b3 b4 b5 b6 b7 b8 b9 b10 b11 b12 b13 b14 b15 b16 b17 b18 b19 b20 b21 b22 b23 b24 b25 b26 b27 b28 b29 b30 b31 h1 h2 h3 h4 h5 h6 h7 h8 h9 h10 h11 h12 h13 h14 h15 h16 h17 h18 h19 h20 h21 h22 h23 h24 h25 h26 h27 h28 h29 h30 h31
  unfold zpop1
  rw [zl2] at hx
  rw [zu_sub (by rw [t1, hx]; exact Nat.le_add_right _ _), t1, hx, Nat.add_sub_cancel_left]
theorem zpop_2 (x : Int32) (c0 c1 c2 c3 c4 c5 c6 c7 c8 c9 c10 c11 c12 c13 c14 c15 : Nat) (k0 : c0 ≤ 2) (k1 : c1 ≤ 2) (k2 : c2 ≤ 2) (k3 : c3 ≤ 2) (k4 : c4 ≤ 2) (k5 : c5 ≤ 2) (k6 : c6 ≤ 2) (k7 : c7 ≤ 2) (k8 : c8 ≤ 2) (k9 : c9 ≤ 2) (k10 : c10 ≤ 2) (k11 : c11 ≤ 2) (k12 : c12 ≤ 2) (k13 : c13 ≤ 2) (k14 : c14 ≤ 2) (k15 : c15 ≤ 2) (hx : zu x = (c0 + 4 * (c1 + 4 * (c2 + 4 * (c3 + 4 * (c4 + 4 * (c5 + 4 * (c6 + 4 * (c7 + 4 * (c8 + 4 * (c9 + 4 * (c10 + 4 * (c11 + 4 * (c12 + 4 * (c13 + 4 * (c14 + 4 * c15)))))))))))))))) : zu (zpop2 x) = ((c0 + c1) + 16 * ((c2 + c3) + 16 * ((c4 + c5) + 16 * ((c6 + c7) + 16 * ((c8 + c9) + 16 * ((c10 + c11) + 16 * ((c12 + c13) + 16 * (c14 + c15)))))))) := by
  have p1 : zu (x &&& 858993459) = (c0 + 16 * (c2 + 16 * (c4 + 16 * (c6 + 16 * (c8 + 16 * (c10 + 16 * (c12 + 16 * c14))))))) := by
    rw [zu_and, show zu 858993459 = 858993459 by decide +kernel, hx, zl4]
    exact zstage2a c0 c1 c2 c3 c4 c5 c6 c7 c8 c9 c10 c11 c12 c13 c14 c15 k0 k1 k2 k3 k4 k5 k6 k7 k8 k9 k10 k11 k12 k13 k14 k15
  have p2 : zu (zsh x 2 &&& 858993459) = (c1 + 16 * (c3 + 16 * (c5 + 16 * (c7 + 16 * (c9 + 16 * (c11 + 16 * (c13 + 16 * c15))))))) := by
    rw [zu_and, zu_sh _ 2 2 (by decide) (by decide), show zu 858993459 = 858993459 by decide +kernel, hx, zl5, show 2 ^ 2 = 4 from rfl, zdivl (Nat.lt_of_le_of_lt k0 (by decide))]
    exact zstage2b c1 c2 c3 c4 c5 c6 c7 c8 c9 c10 c11 c12 c13 c14 c15 k1 k2 k3 k4 k5 k6 k7 k8 k9 k10 k11 k12 k13 k14 k15
  unfold zpop2
  have hlt := zl8 (c0 + c1) (c2 + c3) (c4 + c5) (c6 + c7) (c8 + c9) (c10 + c11) (c12 + c13) (c14 + c15) (Nat.add_le_add k0 k1) (Nat.add_le_add k2 k3) (Nat.add_le_add k4 k5) (Nat.add_le_add k6 k7) (Nat.add_le_add k8 k9) (Nat.add_le_add k10 k11) (Nat.add_le_add k12 k13) (Nat.add_le_add k14 k15)
  rw [zu_add (by rw [p1, p2, zl6]; exact hlt), p1, p2, zl6]
theorem zpop_3 (z : Int32) (d0 d1 d2 d3 d4 d5 d6 d7 : Nat) (m0 : d0 ≤ 4) (m1 : d1 ≤ 4) (m2 : d2 ≤ 4) (m3 : d3 ≤ 4) (m4 : d4 ≤ 4) (m5 : d5 ≤ 4) (m6 : d6 ≤ 4) (m7 : d7 ≤ 4) (y2 : zu z = (d0 + 16 * (d1 + 16 * (d2 + 16 * (d3 + 16 * (d4 + 16 * (d5 + 16 * (d6 + 16 * d7)))))))) : zu (zpop3 z) = ((d0 + d1) + 256 * ((d2 + d3) + 256 * ((d4 + d5) + 256 * (d6 + d7)))) := by
  have q0 : zu (zsh z 4) = (d1 + 16 * (d2 + 16 * (d3 + 16 * (d4 + 16 * (d5 + 16 * (d6 + 16 * d7)))))) := by
    rw [zu_sh _ 4 4 (by decide) (by decide), y2, zl9, show 2 ^ 4 = 16 from rfl, zdivl (Nat.lt_of_le_of_lt m0 (by decide))]
  have q1 : zu (z + zsh z 4) = (((d0 + d1) + 16 * (d1 + d2)) + 256 * (((d2 + d3) + 16 * (d3 + d4)) + 256 * (((d4 + d5) + 16 * (d5 + d6)) + 256 * ((d6 + d7) + 16 * (d7 + 0))))) := by
    rw [zu_add (by rw [q0, y2]; exact zl11 d0 d1 d2 d3 d4 d5 d6 d7 m0 m1 m2 m3 m4 m5 m6 m7), q0, y2, zl10]
  unfold zpop3
  rw [zu_and, show zu 252645135 = 252645135 by decide +kernel, q1]
  exact zstage3 (d0 + d1) (d1 + d2) (d2 + d3) (d3 + d4) (d4 + d5) (d5 + d6) (d6 + d7) (d7 + 0) (by omega) (by omega) (by omega) (by omega) (by omega) (by omega) (by omega) (by omega)
theorem zpop_4 (w : Int32) (e0 e1 e2 e3 : Nat) (n0 : e0 ≤ 8) (n1 : e1 ≤ 8) (n2 : e2 ≤ 8) (n3 : e3 ≤ 8) (y3 : zu w = (e0 + 256 * (e1 + 256 * (e2 + 256 * e3)))) : zu (zpop5 (zpop4 w) &&& 63) = e0 + e1 + e2 + e3 := by
  have y4 : zu (zpop4 w) = (e0 + e1) + 256 * ((e1 + e2) + 256 * ((e2 + e3) + 256 * e3)) := by
    unfold zpop4
    have q0 : zu (zsh w 8) = (e1 + 256 * (e2 + 256 * e3)) := by rw [zu_sh _ 8 8 (by decide) (by decide), y3]; omega
    rw [zu_add (by rw [q0, y3]; omega), q0, y3]
    omega
  generalize zpop4 w = u at y4 ⊢
  have y5 : zu (zpop5 u) = (e0 + e1 + e2 + e3) + 64 * (4 * ((e1 + e2 + e3) + 256 * ((e2 + e3) + 256 * e3))) := by
    unfold zpop5
    have q0 : zu (zsh u 16) = ((e2 + e3) + 256 * e3) := by rw [zu_sh _ 16 16 (by decide) (by decide), y4]; omega
    rw [zu_add (by rw [q0, y4]; omega), q0, y4]
    omega
  rw [zu_and, y5, show zu 63 = 2 ^ 6 - 1 by decide +kernel, Nat.and_two_pow_sub_one_eq_mod]
  omega
theorem zpop_sum (x : Int32) : zu (zpop x) = zb01 x 0 + zb01 x 1 + zb01 x 2 + zb01 x 3 + zb01 x 4 + zb01 x 5 + zb01 x 6 + zb01 x 7 + zb01 x 8 + zb01 x 9 + zb01 x 10 + zb01 x 11 + zb01 x 12 + zb01 x 13 + zb01 x 14 + zb01 x 15 + zb01 x 16 + zb01 x 17 + zb01 x 18 + zb01 x 19 + zb01 x 20 + zb01 x 21 + zb01 x 22 + zb01 x 23 + zb01 x 24 + zb01 x 25 + zb01 x 26 + zb01 x 27 + zb01 x 28 + zb01 x 29 + zb01 x 30 + zb01 x 31 := by
  have y1 := zpop_1 x (zb01 x 0) (zb01 x 1) (zb01 x 2) (zb01 x 3) (zb01 x 4) (zb01 x 5) (zb01 x 6) (zb01 x 7) (zb01 x 8) (zb01 x 9) (zb01 x 10) (zb01 x 11) (zb01 x 12) (zb01 x 13) (zb01 x 14) (zb01 x 15) (zb01 x 16) (zb01 x 17) (zb01 x 18) (zb01 x 19) (zb01 x 20) (zb01 x 21) (zb01 x 22) (zb01 x 23) (zb01 x 24) (zb01 x 25) (zb01 x 26) (zb01 x 27) (zb01 x 28) (zb01 x 29) (zb01 x 30) (zb01 x 31) (zb01_le x 0) (zb01_le x 1) (zb01_le x 2) (zb01_le x 3) (zb01_le x 4) (zb01_le x 5) (zb01_le x 6) (zb01_le x 7) (zb01_le x 8) (zb01_le x 9) (zb01_le x 10) (zb01_le x 11) (zb01_le x 12) (zb01_le x 13) (zb01_le x 14) (zb01_le x 15) (zb01_le x 16) (zb01_le x 17) (zb01_le x 18) (zb01_le x 19) (zb01_le x 20) (zb01_le x 21) (zb01_le x 22) (zb01_le x 23) (zb01_le x 24) (zb01_le x 25) (zb01_le x 26) (zb01_le x 27) (zb01_le x 28) (zb01_le x 29) (zb01_le x 30) (zb01_le x 31) (zu_bits x)
  have y2 := zpop_2 (zpop1 x) (zb01 x 0 + zb01 x 1) (zb01 x 2 + zb01 x 3) (zb01 x 4 + zb01 x 5) (zb01 x 6 + zb01 x 7) (zb01 x 8 + zb01 x 9) (zb01 x 10 + zb01 x 11) (zb01 x 12 + zb01 x 13) (zb01 x 14 + zb01 x 15) (zb01 x 16 + zb01 x 17) (zb01 x 18 + zb01 x 19) (zb01 x 20 + zb01 x 21) (zb01 x 22 + zb01 x 23) (zb01 x 24 + zb01 x 25) (zb01 x 26 + zb01 x 27) (zb01 x 28 + zb01 x 29) (zb01 x 30 + zb01 x 31) (Nat.add_le_add (zb01_le x 0) (zb01_le x 1)) (Nat.add_le_add (zb01_le x 2) (zb01_le x 3)) (Nat.add_le_add (zb01_le x 4) (zb01_le x 5)) (Nat.add_le_add (zb01_le x 6) (zb01_le x 7)) (Nat.add_le_add (zb01_le x 8) (zb01_le x 9)) (Nat.add_le_add (zb01_le x 10) (zb01_le x 11)) (Nat.add_le_add (zb01_le x 12) (zb01_le x 13)) (Nat.add_le_add (zb01_le x 14) (zb01_le x 15)) (Nat.add_le_add (zb01_le x 16) (zb01_le x 17)) (Nat.add_le_add (zb01_le x 18) (zb01_le x 19)) (Nat.add_le_add (zb01_le x 20) (zb01_le x 21)) (Nat.add_le_add (zb01_le x 22) (zb01_le x 23)) (Nat.add_le_add (zb01_le x 24) (zb01_le x 25)) (Nat.add_le_add (zb01_le x 26) (zb01_le x 27)) (Nat.add_le_add (zb01_le x 28) (zb01_le x 29)) (Nat.add_le_add (zb01_le x 30) (zb01_le x 31)) y1
  have y3 := zpop_3 (zpop2 (zpop1 x)) (zb01 x 0 + zb01 x 1 + (zb01 x 2 + zb01 x 3)) (zb01 x 4 + zb01 x 5 + (zb01 x 6 + zb01 x 7)) (zb01 x 8 + zb01 x 9 + (zb01 x 10 + zb01 x 11)) (zb01 x 12 + zb01 x 13 + (zb01 x 14 + zb01 x 15)) (zb01 x 16 + zb01 x 17 + (zb01 x 18 + zb01 x 19)) (zb01 x 20 + zb01 x 21 + (zb01 x 22 + zb01 x 23)) (zb01 x 24 + zb01 x 25 + (zb01 x 26 + zb01 x 27)) (zb01 x 28 + zb01 x 29 + (zb01 x 30 + zb01 x 31)) (Nat.add_le_add (Nat.add_le_add (zb01_le x 0) (zb01_le x 1)) (Nat.add_le_add (zb01_le x 2) (zb01_le x 3))) (Nat.add_le_add (Nat.add_le_add (zb01_le x 4) (zb01_le x 5)) (Nat.add_le_add (zb01_le x 6) (zb01_le x 7))) (Nat.add_le_add (Nat.add_le_add (zb01_le x 8) (zb01_le x 9)) (Nat.add_le_add (zb01_le x 10) (zb01_le x 11))) (Nat.add_le_add (Nat.add_le_add (zb01_le x 12) (zb01_le x 13)) (Nat.add_le_add (zb01_le x 14) (zb01_le x 15))) (Nat.add_le_add (Nat.add_le_add (zb01_le x 16) (zb01_le x 17)) (Nat.add_le_add (zb01_le x 18) (zb01_le x 19))) (Nat.add_le_add (Nat.add_le_add (zb01_le x 20) (zb01_le x 21)) (Nat.add_le_add (zb01_le x 22) (zb01_le x 23))) (Nat.add_le_add (Nat.add_le_add (zb01_le x 24) (zb01_le x 25)) (Nat.add_le_add (zb01_le x 26) (zb01_le x 27))) (Nat.add_le_add (Nat.add_le_add (zb01_le x 28) (zb01_le x 29)) (Nat.add_le_add (zb01_le x 30) (zb01_le x 31))) y2
  have y4 := zpop_4 (zpop3 (zpop2 (zpop1 x))) ((zb01 x 0 + zb01 x 1 + (zb01 x 2 + zb01 x 3)) + (zb01 x 4 + zb01 x 5 + (zb01 x 6 + zb01 x 7))) ((zb01 x 8 + zb01 x 9 + (zb01 x 10 + zb01 x 11)) + (zb01 x 12 + zb01 x 13 + (zb01 x 14 + zb01 x 15))) ((zb01 x 16 + zb01 x 17 + (zb01 x 18 + zb01 x 19)) + (zb01 x 20 + zb01 x 21 + (zb01 x 22 + zb01 x 23))) ((zb01 x 24 + zb01 x 25 + (zb01 x 26 + zb01 x 27)) + (zb01 x 28 + zb01 x 29 + (zb01 x 30 + zb01 x 31))) (Nat.add_le_add (Nat.add_le_add (Nat.add_le_add (zb01_le x 0) (zb01_le x 1)) (Nat.add_le_add (zb01_le x 2) (zb01_le x 3))) (Nat.add_le_add (Nat.add_le_add (zb01_le x 4) (zb01_le x 5)) (Nat.add_le_add (zb01_le x 6) (zb01_le x 7)))) (Nat.add_le_add (Nat.add_le_add (Nat.add_le_add (zb01_le x 8) (zb01_le x 9)) (Nat.add_le_add (zb01_le x 10) (zb01_le x 11))) (Nat.add_le_add (Nat.add_le_add (zb01_le x 12) (zb01_le x 13)) (Nat.add_le_add (zb01_le x 14) (zb01_le x 15)))) (Nat.add_le_add (Nat.add_le_add (Nat.add_le_add (zb01_le x 16) (zb01_le x 17)) (Nat.add_le_add (zb01_le x 18) (zb01_le x 19))) (Nat.add_le_add (Nat.add_le_add (zb01_le x 20) (zb01_le x 21)) (Nat.add_le_add (zb01_le x 22) (zb01_le x 23)))) (Nat.add_le_add (Nat.add_le_add (Nat.add_le_add (zb01_le x 24) (zb01_le x 25)) (Nat.add_le_add (zb01_le x 26) (zb01_le x 27))) (Nat.add_le_add (Nat.add_le_add (zb01_le x 28) (zb01_le x 29)) (Nat.add_le_add (zb01_le x 30) (zb01_le x 31)))) y3
  unfold zpop
  rw [y4]
  omega
theorem zpop_zi (x : Int32) : zpop x = zi (zc (zbit x) 32) := by
  have h := zpop_sum x
  rw [← zc_bits] at h
  have hc := zc_le (zbit x) 32
  apply Int32.toBitVec_inj.mp
  apply BitVec.eq_of_toNat_eq
  show zu (zpop x) = (BitVec.ofNat 32 _).toNat
  rw [h, BitVec.toNat_ofNat, Nat.mod_eq_of_lt (by omega)]
theorem z_bitCount (N : Nat) (a : Int32) (st : zS) : zf_In_bitCount N a st = some (zi (zc (zbit a) 32), st) := by
  rw [← zpop_zi]; rfl
