/-! plain mathematics: sums, sets as bits, least numbers, over prefixes of the integers from 0 on -/
theorem Cal.mk {C : Nat → Op} {f : cb_F} {y : Mi} {loc : List Vl} (G : ∀ pc, Good f pc (C pc)) (hf : f = (y.1.cls, y.2.1, y.2.2.1, f.2.2.2.1, y.2.2.2.2.1, y.2.2.2.2.2)) (hp : plainName y.1.cls = true) (hr : cb_rt9 f.2.2.2.1 y.2.2.2.1) {as : List Vl} {M : Mem} {Q : Option Vl → Mem → Prop} (hl : cb_en as ++ List.replicate (y.2.2.1 - (cb_en as).length) vN = loc) (hn : (cb_en as).length ≤ y.2.2.1)
    (h : Run C Q 0 loc [] M) : Cal y as M Q := Cal.of (fun pc => (G pc).1) hf hp hr hn (hl ▸ h)
def sumN (f : Int → Int) : Nat → Int
  | 0 => 0
  | n + 1 => sumN f n + f n
def sumI (f : Int → Int) (n : Int) : Int := sumN f n.toNat
theorem sumI_0 (f : Int → Int) : sumI f 0 = 0 := rfl
theorem toNat_succ {n : Int} (h : 0 ≤ n) : (n + 1).toNat = n.toNat + 1 := by omega
theorem toNat_cast {n : Int} (h : 0 ≤ n) : ((n.toNat : Nat) : Int) = n := by omega
theorem sumI_s (f : Int → Int) {n : Int} (h : 0 ≤ n) : sumI f (n + 1) = sumI f n + f n := by
  unfold sumI
  rw [toNat_succ h, sumN, toNat_cast h]
theorem sumI_neg (f : Int → Int) {n : Int} (h : n ≤ 0) : sumI f n = 0 := by
  unfold sumI
  rw [show n.toNat = 0 by omega]; rfl
/-- induction over the integers from 0 on -/
theorem int_ind {P : Int → Prop} (h0 : P 0) (hs : ∀ n, 0 ≤ n → P n → P (n + 1)) : ∀ n, 0 ≤ n → P n := by
  intro n hn
  obtain ⟨k, rfl⟩ := Int.eq_ofNat_of_zero_le hn
  induction k with
  | zero => exact h0
  | succ k ih => exact hs k (by omega) (ih (by omega))
theorem sumI_cong {f g : Int → Int} : ∀ n, 0 ≤ n → (∀ i, 0 ≤ i → i < n → f i = g i) → sumI f n = sumI g n := by
  intro n hn
  refine int_ind (P := fun n => (∀ i, 0 ≤ i → i < n → f i = g i) → sumI f n = sumI g n) (fun _ => rfl) (fun n hn ih h => ?_) n hn
  rw [sumI_s f hn, sumI_s g hn, ih (fun i a b => h i a (by omega)), h n hn (by omega)]
theorem sumI_bd {f : Int → Int} {a b : Int} : ∀ n, 0 ≤ n → (∀ i, 0 ≤ i → i < n → a ≤ f i ∧ f i ≤ b) → a * n ≤ sumI f n ∧ sumI f n ≤ b * n := by
  intro n hn
  refine int_ind (P := fun n => (∀ i, 0 ≤ i → i < n → a ≤ f i ∧ f i ≤ b) → a * n ≤ sumI f n ∧ sumI f n ≤ b * n) (fun _ => by simp [sumI_0]) (fun n hn ih h => ?_) n hn
  rw [sumI_s f hn, Int.mul_add, Int.mul_add, Int.mul_one, Int.mul_one]
  have h1 := ih (fun i a b => h i a (by omega))
  have h2 := h n hn (by omega)
  omega
/-- how many -/
def cntI (p : Int → Bool) (n : Int) : Int := sumI (fun i => if p i then 1 else 0) n
theorem cntI_0 (p : Int → Bool) : cntI p 0 = 0 := rfl
theorem cntI_s (p : Int → Bool) {n : Int} (h : 0 ≤ n) : cntI p (n + 1) = cntI p n + (if p n then 1 else 0) := sumI_s _ h
theorem cntI_cong {p q : Int → Bool} {n : Int} (hn : 0 ≤ n) (h : ∀ i, 0 ≤ i → i < n → p i = q i) : cntI p n = cntI q n :=
  sumI_cong n hn (fun i a b => by rw [h i a b])
theorem cntI_bd (p : Int → Bool) {n : Int} (hn : 0 ≤ n) : 0 ≤ cntI p n ∧ cntI p n ≤ n := by
  have := sumI_bd (f := fun i => if p i then 1 else 0) (a := 0) (b := 1) n hn (fun i _ _ => by split <;> omega)
  unfold cntI
  omega
theorem cntI_mono {p q : Int → Bool} : ∀ n : Int, 0 ≤ n → (∀ i, 0 ≤ i → i < n → p i = true → q i = true) → cntI p n ≤ cntI q n := by
  intro n hn
  refine int_ind (P := fun n => (∀ i, 0 ≤ i → i < n → p i = true → q i = true) → cntI p n ≤ cntI q n) (fun _ => Int.le_refl _) (fun n hn ih h => ?_) n hn
  rw [cntI_s p hn, cntI_s q hn]
  have h1 := ih (fun i a b => h i a (by omega))
  have h2 := h n hn (by omega)
  cases hp : p n <;> cases hq : q n <;> simp [hp, hq] at h2 ⊢ <;> omega
theorem cntI_strict {p q : Int → Bool} : ∀ n : Int, 0 ≤ n → (∀ i, 0 ≤ i → i < n → p i = true → q i = true) → (∃ i, 0 ≤ i ∧ i < n ∧ p i = false ∧ q i = true) → cntI p n < cntI q n := by
  intro n hn
  refine int_ind (P := fun n => (∀ i, 0 ≤ i → i < n → p i = true → q i = true) → (∃ i, 0 ≤ i ∧ i < n ∧ p i = false ∧ q i = true) → cntI p n < cntI q n) (fun _ ⟨i, a, b, _⟩ => by omega) (fun n hn ih h hx => ?_) n hn
  rw [cntI_s p hn, cntI_s q hn]
  obtain ⟨i, a, b, c, d⟩ := hx
  by_cases hi : i = n
  · subst hi
    have := cntI_mono i hn (fun j a b => h j a (by omega))
    rw [c, d]; simp; omega
  · have h1 := ih (fun i a b => h i a (by omega)) ⟨i, a, by omega, c, d⟩
    have h2 := h n hn (by omega)
    cases hp : p n <;> cases hq : q n <;> simp [hp, hq] at h2 ⊢ <;> omega
/-! sets as bits -/
def bit (v i : Int) : Bool := v.toNat.testBit i.toNat
theorem e_nI (q : Nat) : Int32.ofInt (q : Int) = nI q := Int32.ofInt_eq_ofNat
theorem nI_and (a b : Nat) : nI a &&& nI b = nI (a &&& b) := by
  apply Int32.toBitVec_inj.1
  show BitVec.ofNat 32 a &&& BitVec.ofNat 32 b = BitVec.ofNat 32 (a &&& b)
  apply BitVec.eq_of_getLsbD_eq
  intro i hi
  simp [hi]
theorem nI_or (a b : Nat) : nI a ||| nI b = nI (a ||| b) := by
  apply Int32.toBitVec_inj.1
  show BitVec.ofNat 32 a ||| BitVec.ofNat 32 b = BitVec.ofNat 32 (a ||| b)
  apply BitVec.eq_of_getLsbD_eq
  intro i hi
  simp [hi]
theorem nI_xor (a b : Nat) : nI a ^^^ nI b = nI (a ^^^ b) := by
  apply Int32.toBitVec_inj.1
  show BitVec.ofNat 32 a ^^^ BitVec.ofNat 32 b = BitVec.ofNat 32 (a ^^^ b)
  apply BitVec.eq_of_getLsbD_eq
  intro i hi
  simp [hi]
theorem nI_ti {n : Nat} (h : n < 2147483648) : (nI n).toInt = (n : Int) := nI_toInt h
theorem iandN {a b : Nat} (ha : a < 2147483648) : iand (a : Int) (b : Int) = ((a &&& b : Nat) : Int) := by
  unfold iand
  rw [e_nI, e_nI, nI_and, nI_ti (Nat.lt_of_le_of_lt Nat.and_le_left ha)]
theorem or_lt31 {a b n : Nat} (ha : a < 2 ^ n) (hb : b < 2 ^ n) : a ||| b < 2 ^ n := Nat.or_lt_two_pow ha hb
theorem iorN {a b : Nat} (ha : a < 2147483648) (hb : b < 2147483648) : ior (a : Int) (b : Int) = ((a ||| b : Nat) : Int) := by
  unfold ior
  rw [e_nI, e_nI, nI_or, nI_ti (Nat.or_lt_two_pow (n := 31) ha hb)]
theorem ixorN {a b : Nat} (ha : a < 2147483648) (hb : b < 2147483648) : ixor (a : Int) (b : Int) = ((a ^^^ b : Nat) : Int) := by
  unfold ixor
  rw [e_nI, e_nI, nI_xor, nI_ti (Nat.xor_lt_two_pow (n := 31) ha hb)]
theorem ixor_m1 {a : Int} (h : R32 a) : ixor a (-1) = -a - 1 := by
  unfold ixor
  have e : Int32.ofInt a ^^^ Int32.ofInt (-1) = Int32.ofInt (-a - 1) := by
    apply Int32.toBitVec_inj.1
    show BitVec.ofInt 32 a ^^^ BitVec.ofInt 32 (-1) = BitVec.ofInt 32 (-a - 1)
    have h1 : BitVec.ofInt 32 (-1) = BitVec.allOnes 32 := by decide
    rw [h1, BitVec.xor_allOnes]
    apply BitVec.eq_of_toInt_eq
    rw [BitVec.toInt_not, BitVec.toInt_ofInt]
    have h2 := h.1
    have h3 := h.2
    have h4 := cb_oI h2 h3
    have h5 : (BitVec.ofInt 32 a).toNat = (a % 4294967296).toNat := by
      rw [BitVec.toNat_ofInt]; rfl
    rw [h5]
    have e2 : ((2 : Int) ^ 32 - 1 - (((a % 4294967296).toNat : Nat) : Int)) = (-a - 1) + ((4294967296 : Nat) : Int) * (1 + a / 4294967296) := by omega
    rw [e2]
    exact Int.add_mul_bmod_self_left _ _ _
  rw [e, cb_oI]
  · have := h.2; omega
  · have := h.1; omega
/-- what is in the first and not in the second -/
def andn (a b : Nat) : Nat := a ^^^ (a &&& b)
theorem andn_bit (a b i : Nat) : (andn a b).testBit i = (a.testBit i && !b.testBit i) := by
  unfold andn
  rw [Nat.testBit_xor, Nat.testBit_and]
  cases a.testBit i <;> cases b.testBit i <;> rfl
theorem andn_le (a b : Nat) : andn a b ≤ a := by
  apply Nat.le_of_testBit
  intro i h
  rw [andn_bit] at h
  cases ha : a.testBit i <;> simp [ha] at h ⊢
