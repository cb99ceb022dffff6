/-! sets of numbers as bits of an integer -/
theorem r32 {z : Int} (h1 : -2147483648 ≤ z) (h2 : z < 2147483648) : R32 z := ⟨h1, h2⟩
theorem iandnN {a : Nat} (b : Nat) (ha : a < 2147483648) : iand (a : Int) (ixor (b : Int) (-1)) = ((andn a b : Nat) : Int) := by
  unfold iand ixor
  rw [Int32.ofInt_toInt, e_nI, e_nI]
  have e : nI a &&& (nI b ^^^ Int32.ofInt (-1)) = nI (andn a b) := by
    apply Int32.toBitVec_inj.1
    show BitVec.ofNat 32 a &&& (BitVec.ofNat 32 b ^^^ BitVec.ofInt 32 (-1)) = BitVec.ofNat 32 (andn a b)
    have h1 : BitVec.ofInt 32 (-1) = BitVec.allOnes 32 := by decide
    rw [h1, BitVec.xor_allOnes]
    apply BitVec.eq_of_getLsbD_eq
    intro i hi
    rw [BitVec.getLsbD_and, BitVec.getLsbD_not, BitVec.getLsbD_ofNat, BitVec.getLsbD_ofNat, BitVec.getLsbD_ofNat, andn_bit]
    simp [hi]
  rw [e, nI_ti (Nat.lt_of_le_of_lt (andn_le a b) ha)]
theorem bit_cast (a i : Nat) : bit (a : Int) (i : Int) = a.testBit i := rfl
theorem bit_iand {a b i : Int} (ha : 0 ≤ a) (ha2 : a < 2147483648) (hb : 0 ≤ b) : bit (iand a b) i = (bit a i && bit b i) := by
  obtain ⟨x, rfl⟩ := Int.eq_ofNat_of_zero_le ha
  obtain ⟨y, rfl⟩ := Int.eq_ofNat_of_zero_le hb
  rw [iandN (by omega)]
  unfold bit
  rw [Int.toNat_natCast, Int.toNat_natCast, Int.toNat_natCast, Nat.testBit_and]
theorem iand_bd {a b : Int} (ha : 0 ≤ a) (ha2 : a < 2147483648) (hb : 0 ≤ b) : 0 ≤ iand a b ∧ iand a b ≤ a := by
  obtain ⟨x, rfl⟩ := Int.eq_ofNat_of_zero_le ha
  obtain ⟨y, rfl⟩ := Int.eq_ofNat_of_zero_le hb
  rw [iandN (by omega)]
  have := Nat.and_le_left (n := x) (m := y)
  omega
theorem bit_ior {a b i : Int} (ha : 0 ≤ a) (ha2 : a < 2147483648) (hb : 0 ≤ b) (hb2 : b < 2147483648) : bit (ior a b) i = (bit a i || bit b i) := by
  obtain ⟨x, rfl⟩ := Int.eq_ofNat_of_zero_le ha
  obtain ⟨y, rfl⟩ := Int.eq_ofNat_of_zero_le hb
  rw [iorN (by omega) (by omega)]
  unfold bit
  rw [Int.toNat_natCast, Int.toNat_natCast, Int.toNat_natCast, Nat.testBit_or]
theorem ior_bd {a b : Int} {n : Nat} (hn : n ≤ 31) (ha : 0 ≤ a) (ha2 : a < 2 ^ n) (hb : 0 ≤ b) (hb2 : b < 2 ^ n) : 0 ≤ ior a b ∧ ior a b < 2 ^ n := by
  obtain ⟨x, rfl⟩ := Int.eq_ofNat_of_zero_le ha
  obtain ⟨y, rfl⟩ := Int.eq_ofNat_of_zero_le hb
  have h1 : x < 2 ^ n := by exact_mod_cast ha2
  have h2 : y < 2 ^ n := by exact_mod_cast hb2
  have h3 : 2 ^ n ≤ 2147483648 := by
    have : 2 ^ n ≤ 2 ^ 31 := Nat.pow_le_pow_right (by decide) hn
    omega
  rw [iorN (by omega) (by omega)]
  have := Nat.or_lt_two_pow h1 h2
  refine ⟨by omega, by exact_mod_cast this⟩
theorem bit_ixor {a b i : Int} (ha : 0 ≤ a) (ha2 : a < 2147483648) (hb : 0 ≤ b) (hb2 : b < 2147483648) : bit (ixor a b) i = (bit a i ^^ bit b i) := by
  obtain ⟨x, rfl⟩ := Int.eq_ofNat_of_zero_le ha
  obtain ⟨y, rfl⟩ := Int.eq_ofNat_of_zero_le hb
  rw [ixorN (by omega) (by omega)]
  unfold bit
  rw [Int.toNat_natCast, Int.toNat_natCast, Int.toNat_natCast, Nat.testBit_xor]
theorem ixor_bd {a b : Int} {n : Nat} (hn : n ≤ 31) (ha : 0 ≤ a) (ha2 : a < 2 ^ n) (hb : 0 ≤ b) (hb2 : b < 2 ^ n) : 0 ≤ ixor a b ∧ ixor a b < 2 ^ n := by
  obtain ⟨x, rfl⟩ := Int.eq_ofNat_of_zero_le ha
  obtain ⟨y, rfl⟩ := Int.eq_ofNat_of_zero_le hb
  have h1 : x < 2 ^ n := by exact_mod_cast ha2
  have h2 : y < 2 ^ n := by exact_mod_cast hb2
  have h3 : 2 ^ n ≤ 2147483648 := by
    have : 2 ^ n ≤ 2 ^ 31 := Nat.pow_le_pow_right (by decide) hn
    omega
  rw [ixorN (by omega) (by omega)]
  have := Nat.xor_lt_two_pow h1 h2
  refine ⟨by omega, by exact_mod_cast this⟩
theorem bit_iandn {a b i : Int} (ha : 0 ≤ a) (ha2 : a < 2147483648) (hb : 0 ≤ b) : bit (iand a (ixor b (-1))) i = (bit a i && !bit b i) := by
  obtain ⟨x, rfl⟩ := Int.eq_ofNat_of_zero_le ha
  obtain ⟨y, rfl⟩ := Int.eq_ofNat_of_zero_le hb
  rw [iandnN y (by omega)]
  unfold bit
  rw [Int.toNat_natCast, Int.toNat_natCast, Int.toNat_natCast, andn_bit]
theorem iandn_bd {a b : Int} (ha : 0 ≤ a) (ha2 : a < 2147483648) (hb : 0 ≤ b) : 0 ≤ iand a (ixor b (-1)) ∧ iand a (ixor b (-1)) ≤ a := by
  obtain ⟨x, rfl⟩ := Int.eq_ofNat_of_zero_le ha
  obtain ⟨y, rfl⟩ := Int.eq_ofNat_of_zero_le hb
  rw [iandnN y (by omega)]
  have := andn_le x y
  omega
theorem bit_ext {a b : Int} (ha : 0 ≤ a) (hb : 0 ≤ b) (h : ∀ i, 0 ≤ i → bit a i = bit b i) : a = b := by
  obtain ⟨x, rfl⟩ := Int.eq_ofNat_of_zero_le ha
  obtain ⟨y, rfl⟩ := Int.eq_ofNat_of_zero_le hb
  congr 1
  apply Nat.eq_of_testBit_eq
  intro i
  exact h i (by omega)
/-- 2 to the k-th -/
def p2 (k : Int) : Int := 2 ^ k.toNat
theorem p2_def (k : Int) : 1 * 2 ^ k.toNat = p2 k := by unfold p2; omega
theorem p2_pos (k : Int) : 0 < p2 k := by unfold p2; exact Int.pow_pos (by decide)
theorem p2_cast (k : Int) : p2 k = ((2 ^ k.toNat : Nat) : Int) := by unfold p2; simp
theorem p2_s {k : Int} (h : 0 ≤ k) : p2 (k + 1) = 2 * p2 k := by
  unfold p2
  rw [toNat_succ h, Int.pow_succ]; omega
theorem p2_mono {a b : Int} (h : a ≤ b) : p2 a ≤ p2 b := by
  rw [p2_cast, p2_cast]
  have : 2 ^ a.toNat ≤ 2 ^ b.toNat := Nat.pow_le_pow_right (by decide) (by omega)
  omega
theorem p2_lt {a b : Int} (h0 : 0 ≤ a) (h : a < b) : p2 a < p2 b := by
  have h1 := p2_mono (show a + 1 ≤ b by omega)
  rw [p2_s h0] at h1
  have := p2_pos a
  omega
theorem bit_p2 {k i : Int} (hk : 0 ≤ k) (hi : 0 ≤ i) : bit (p2 k) i = decide (i = k) := by
  unfold bit
  rw [p2_cast, Int.toNat_natCast, Nat.testBit_two_pow]
  congr 1
  exact propext ⟨fun h => by omega, fun h => by omega⟩
theorem bit_0 (i : Int) : bit 0 i = false := by unfold bit; simp
theorem bit_hi {a i n : Int} (ha : 0 ≤ a) (h : a < p2 n) (hi : n ≤ i) : bit a i = false := by
  unfold bit
  apply Nat.testBit_lt_two_pow
  have h1 := p2_mono hi
  have h2 := p2_cast i
  have h3 : a < ((2 ^ i.toNat : Nat) : Int) := by omega
  omega
theorem lt_p2 {a n : Int} (ha : 0 ≤ a) (hn : 0 ≤ n) (h : ∀ i, n ≤ i → bit a i = false) : a < p2 n := by
  obtain ⟨x, rfl⟩ := Int.eq_ofNat_of_zero_le ha
  obtain ⟨k, rfl⟩ := Int.eq_ofNat_of_zero_le hn
  rw [p2_cast]
  have : x < 2 ^ k := by
    apply Nat.lt_pow_two_of_testBit
    intro i hi
    exact h i (by omega)
  rw [Int.toNat_natCast]
  omega
theorem bit_ones {n i : Int} (hn : 0 ≤ n) (hi : 0 ≤ i) : bit (p2 n - 1) i = decide (i < n) := by
  obtain ⟨k, rfl⟩ := Int.eq_ofNat_of_zero_le hn
  obtain ⟨j, rfl⟩ := Int.eq_ofNat_of_zero_le hi
  unfold bit
  have : (p2 (k : Int) - 1).toNat = 2 ^ k - 1 := by
    rw [p2_cast, Int.toNat_natCast]
    have := Nat.two_pow_pos k
    omega
  rw [this, Int.toNat_natCast, Nat.testBit_two_pow_sub_one]
  congr 1
  exact propext ⟨fun h => by omega, fun h => by omega⟩
theorem shr_bit {v i : Int} (hv : 0 ≤ v) (hv2 : v < 2147483648) : iand (v / 2 ^ i.toNat) 1 = if bit v i then 1 else 0 := by
  obtain ⟨x, rfl⟩ := Int.eq_ofNat_of_zero_le hv
  have e : ((x : Int) / 2 ^ i.toNat) = ((x / 2 ^ i.toNat : Nat) : Int) := by simp
  have h1 : x / 2 ^ i.toNat ≤ x := Nat.div_le_self _ _
  rw [e, show (1 : Int) = ((1 : Nat) : Int) from rfl, iandN (by omega)]
  unfold bit
  rw [Int.toNat_natCast, Nat.and_one_is_mod, Nat.testBit_eq_decide_div_mod_eq]
  have := Nat.mod_two_eq_zero_or_one (x / 2 ^ i.toNat)
  rcases this with h | h <;> simp [h]
/-- the numbers below n of which p holds, as bits -/
def bsN (p : Int → Bool) : Nat → Nat
  | 0 => 0
  | n + 1 => bsN p n ||| (if p n then 2 ^ n else 0)
def bsI (p : Int → Bool) (n : Int) : Int := (bsN p n.toNat : Nat)
theorem bsN_bit (p : Int → Bool) (n i : Nat) : (bsN p n).testBit i = (decide (i < n) && p i) := by
  induction n with
  | zero => simp [bsN]
  | succ n ih =>
    rw [bsN, Nat.testBit_or, ih]
    by_cases h : i = n
    · subst h
      cases hp : p i <;> simp [hp, Nat.testBit_two_pow]
    · have h2 : decide (i < n + 1) = decide (i < n) := by congr 1; exact propext ⟨fun q => by omega, fun q => by omega⟩
      rw [h2]
      cases hp : p n <;> simp [Nat.testBit_two_pow, Ne.symm h]
theorem bsN_lt (p : Int → Bool) (n : Nat) : bsN p n < 2 ^ n := by
  apply Nat.lt_pow_two_of_testBit
  intro i hi
  rw [bsN_bit]
  simp; intro h; omega
theorem bsI_bit (p : Int → Bool) {n i : Int} (hi : 0 ≤ i) : bit (bsI p n) i = (decide (i < n) && p i) := by
  unfold bit bsI
  rw [Int.toNat_natCast, bsN_bit, toNat_cast hi]
  congr 2
  exact propext ⟨fun h => by omega, fun h => by omega⟩
theorem bsI_bd (p : Int → Bool) (n : Int) : 0 ≤ bsI p n ∧ bsI p n < p2 n := by
  unfold bsI
  rw [p2_cast]
  have := bsN_lt p n.toNat
  omega
theorem bsI_0 (p : Int → Bool) : bsI p 0 = 0 := rfl
theorem bsI_cong {p q : Int → Bool} {n : Int} (h : ∀ i, 0 ≤ i → i < n → p i = q i) : bsI p n = bsI q n := by
  apply bit_ext (bsI_bd p n).1 (bsI_bd q n).1
  intro i hi
  rw [bsI_bit p hi, bsI_bit q hi]
  by_cases hn : i < n
  · rw [h i hi hn]
  · simp [hn]
theorem p2_31 {n : Int} (h : n ≤ 30) : p2 n < 2147483648 := by
  have h1 := p2_mono h
  have h2 : p2 30 = 1073741824 := by decide
  omega
theorem bsI_s {p : Int → Bool} {n : Int} (h : 0 ≤ n) (h2 : n ≤ 29) : bsI p (n + 1) = if p n then ior (bsI p n) (p2 n) else bsI p n := by
  have b1 := bsI_bd p n
  have b2 := p2_31 (n := n) (by omega)
  have b3 := p2_pos n
  split
  · rename_i hp
    have b4 := ior_bd (n := 31) (by decide) b1.1 (by omega) (by omega : 0 ≤ p2 n) (by omega)
    apply bit_ext (bsI_bd p _).1 b4.1
    intro i hi
    rw [bsI_bit p hi, bit_ior b1.1 (by omega) (by omega) (by omega), bsI_bit p hi, bit_p2 h hi]
    by_cases q : i = n
    · subst q; simp [hp, show i < i + 1 by omega]
    · have : decide (i < n + 1) = decide (i < n) := by congr 1; exact propext ⟨fun q => by omega, fun q => by omega⟩
      rw [this]; simp [q]
  · rename_i hp
    apply bit_ext (bsI_bd p _).1 b1.1
    intro i hi
    rw [bsI_bit p hi, bsI_bit p hi]
    by_cases q : i = n
    · subst q; simp [hp]
    · have : decide (i < n + 1) = decide (i < n) := by congr 1; exact propext ⟨fun q => by omega, fun q => by omega⟩
      rw [this]
/-- how many bits are set -/
def pcI (v : Int) : Int := cntI (fun i => bit v i) 31
