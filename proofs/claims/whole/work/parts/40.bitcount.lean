/-! how many bits are set: the JDK's way and the plain one -/
theorem and_split (x y : Nat) : x &&& y = (x % 256 &&& y % 256) + 256 * (x / 256 &&& y / 256) := by
  have h1 : (x &&& y) % 2 ^ 8 = (x % 2 ^ 8) &&& (y % 2 ^ 8) := Nat.and_mod_two_pow
  have h2 : (x &&& y) / 2 ^ 8 = x / 2 ^ 8 &&& y / 2 ^ 8 := Nat.and_div_two_pow
  have h3 := Nat.div_add_mod (x &&& y) 256
  rw [show (2 : Nat) ^ 8 = 256 from rfl] at h1 h2
  rw [← h1, ← h2]; omega
def bA (b : Nat) : Nat := b - (b / 2 &&& 85)
def bB (b : Nat) : Nat := (b &&& 51) + (b / 4 &&& 51)
def bP (b : Nat) : Nat := (b + b / 16) &&& 15
theorem b_a1 : ∀ c, c < 256 → ∀ t, t < 2 → (c / 2 + 128 * t) &&& 85 = c / 2 &&& 85 := by decide +kernel
theorem b_a2 : ∀ c, c < 256 → (c / 2 &&& 85) ≤ c ∧ bA c < 256 := by decide +kernel
theorem b_b1 : ∀ c, c < 256 → ∀ t, t < 4 → (c / 4 + 64 * t) &&& 51 = c / 4 &&& 51 := by decide +kernel
theorem b_b2 : ∀ c, c < 256 → bB (bA c) % 16 ≤ 4 ∧ bB (bA c) / 16 ≤ 4 := by decide +kernel
theorem b_p1 : ∀ c, c < 256 → ∀ t, t < 5 → c % 16 ≤ 4 → c / 16 ≤ 4 → (c + c / 16 + 16 * t) &&& 15 = bP c := by decide +kernel
theorem b_pc : ∀ c, c < 256 → ((bP (bB (bA c)) : Nat) : Int) = cntI (fun i => bit (c : Int) i) 8 := by decide +kernel
theorem b_pc8 : ∀ c, c < 256 → bP (bB (bA c)) ≤ 8 := by decide +kernel
/-- three bytes -/
def by3 (a b c : Nat) : Nat := a + 256 * (b + 256 * c)
theorem by3_and (a b c m : Nat) (ha : a < 256) (hb : b < 256) (hc : c < 256) (hm : m < 256) (m4 : Nat) (h4 : m4 = m + 256 * (m + 256 * (m + 256 * m))) : by3 a b c &&& m4 = by3 (a &&& m) (b &&& m) (c &&& m) := by
  unfold by3
  have e1 : (a + 256 * (b + 256 * c)) % 256 = a := by omega
  have e2 : (a + 256 * (b + 256 * c)) / 256 = b + 256 * c := by omega
  have e3 : (b + 256 * c) % 256 = b := by omega
  have e4 : (b + 256 * c) / 256 = c := by omega
  have f1 : m4 % 256 = m := by omega
  have f2 : m4 / 256 = m + 256 * (m + 256 * m) := by omega
  have f3 : (m + 256 * (m + 256 * m)) % 256 = m := by omega
  have f4 : (m + 256 * (m + 256 * m)) / 256 = m + 256 * m := by omega
  have f5 : (m + 256 * m) % 256 = m := by omega
  have e5 : c % 256 = c := by omega
  have e6 : c / 256 = 0 := by omega
  rw [and_split, e1, e2, f1, f2, and_split (b + 256 * c), e3, e4, f3, f4, and_split c, e5, e6, f5, Nat.zero_and]
  omega
theorem bc_1 {a b c : Nat} (ha : a < 256) (hb : b < 256) (hc : c < 256) : by3 a b c - (by3 a b c / 2 &&& 1431655765) = by3 (bA a) (bA b) (bA c) := by
  have e : by3 a b c / 2 = by3 (a / 2 + 128 * (b % 2)) (b / 2 + 128 * (c % 2)) (c / 2) := by unfold by3; omega
  rw [e, by3_and _ _ _ 85 (by omega) (by omega) (by omega) (by omega) _ rfl, b_a1 a ha _ (by omega), b_a1 b hb _ (by omega)]
  have h1 := b_a2 a ha
  have h2 := b_a2 b hb
  have h3 := b_a2 c hc
  unfold by3 bA
  omega
theorem bc_2 {a b c : Nat} (ha : a < 256) (hb : b < 256) (hc : c < 256) : (by3 a b c &&& 858993459) + (by3 a b c / 4 &&& 858993459) = by3 (bB a) (bB b) (bB c) := by
  have e : by3 a b c / 4 = by3 (a / 4 + 64 * (b % 4)) (b / 4 + 64 * (c % 4)) (c / 4) := by unfold by3; omega
  rw [e, by3_and a b c 51 ha hb hc (by omega) _ rfl, by3_and _ _ _ 51 (by omega) (by omega) (by omega) (by omega) _ rfl, b_b1 a ha _ (by omega), b_b1 b hb _ (by omega)]
  unfold by3 bB
  omega
theorem bc_3 {a b c : Nat} (ha : a % 16 ≤ 4 ∧ a / 16 ≤ 4) (hb : b % 16 ≤ 4 ∧ b / 16 ≤ 4) (hc : c % 16 ≤ 4 ∧ c / 16 ≤ 4) : (by3 a b c + by3 a b c / 16) &&& 252645135 = by3 (bP a) (bP b) (bP c) := by
  have e : by3 a b c + by3 a b c / 16 = by3 (a + a / 16 + 16 * (b % 16)) (b + b / 16 + 16 * (c % 16)) (c + c / 16) := by unfold by3; omega
  rw [e, by3_and _ _ _ 15 (by omega) (by omega) (by omega) (by omega) _ rfl, b_p1 a (by omega) _ (by omega) ha.1 ha.2, b_p1 b (by omega) _ (by omega) hb.1 hb.2]
  rfl
theorem cntI_split (p : Int → Bool) {a b : Int} (ha : 0 ≤ a) (hb : 0 ≤ b) : cntI p (a + b) = cntI p a + cntI (fun i => p (a + i)) b := by
  refine int_ind (P := fun b => cntI p (a + b) = cntI p a + cntI (fun i => p (a + i)) b) (by rw [Int.add_zero, cntI_0]; omega) (fun b hb ih => ?_) b hb
  rw [show a + (b + 1) = a + b + 1 by omega, cntI_s p (by omega), ih, cntI_s _ hb]; omega
theorem cntI_no {p : Int → Bool} {n : Int} (hn : 0 ≤ n) (h : ∀ i, 0 ≤ i → i < n → p i = false) : cntI p n = 0 := by
  rw [cntI_cong hn (q := fun _ => false) h]
  refine int_ind (P := fun n => cntI (fun _ => false) n = 0) rfl (fun n hn ih => ?_) n hn
  rw [cntI_s _ hn, ih]; rfl
theorem bit_div {v k i : Int} (hv : 0 ≤ v) (hk : 0 ≤ k) (hi : 0 ≤ i) : bit v (k + i) = bit (v / p2 k) i := by
  obtain ⟨x, rfl⟩ := Int.eq_ofNat_of_zero_le hv
  unfold bit
  rw [p2_cast, ← Int.natCast_ediv, Int.toNat_natCast, Int.toNat_natCast, Nat.testBit_div_two_pow]
  congr 1; omega
theorem bit_mod {v k i : Int} (hv : 0 ≤ v) (hi : 0 ≤ i) (h : i < k) : bit (v % p2 k) i = bit v i := by
  obtain ⟨x, rfl⟩ := Int.eq_ofNat_of_zero_le hv
  unfold bit
  rw [p2_cast, ← Int.natCast_emod, Int.toNat_natCast, Int.toNat_natCast, Nat.testBit_mod_two_pow]
  simp; intro; omega
theorem pcI_by3 {a b c : Nat} (ha : a < 256) (hb : b < 256) (hc : c < 128) : pcI ((by3 a b c : Nat) : Int) = cntI (fun i => bit (a : Int) i) 8 + cntI (fun i => bit (b : Int) i) 8 + cntI (fun i => bit (c : Int) i) 8 := by
  have hp8 : p2 8 = 256 := by decide
  have hp16 : p2 16 = 65536 := by decide
  have hp7 : p2 7 = 128 := by decide
  have hv : (0 : Int) ≤ ((by3 a b c : Nat) : Int) := by omega
  unfold pcI
  rw [show (31 : Int) = 8 + (8 + (8 + 7)) from rfl, cntI_split _ (by decide) (by decide), cntI_split _ (by decide) (by decide), cntI_split _ (by decide) (by decide)]
  have e1 : cntI (fun i => bit ((by3 a b c : Nat) : Int) i) 8 = cntI (fun i => bit (a : Int) i) 8 := cntI_cong (by decide) (fun i h0 h1 => by
    rw [← bit_mod (k := 8) hv h0 h1, hp8]; congr 1; unfold by3; omega)
  have e2 : cntI (fun i => bit ((by3 a b c : Nat) : Int) (8 + i)) 8 = cntI (fun i => bit (b : Int) i) 8 := cntI_cong (by decide) (fun i h0 h1 => by
    rw [bit_div hv (by decide) h0, hp8, ← bit_mod (k := 8) (by unfold by3; omega) h0 h1, hp8]; congr 1; unfold by3; omega)
  have e3 : cntI (fun i => bit ((by3 a b c : Nat) : Int) (8 + (8 + i))) 8 = cntI (fun i => bit (c : Int) i) 8 := cntI_cong (by decide) (fun i h0 h1 => by
    rw [show 8 + (8 + i) = 16 + i by omega, bit_div hv (by decide) h0, hp16]; congr 1; unfold by3; omega)
  have e4 : cntI (fun i => bit ((by3 a b c : Nat) : Int) (8 + (8 + (8 + i)))) 7 = 0 := cntI_no (by decide) (fun i h0 h1 => by
    rw [show 8 + (8 + (8 + i)) = 24 + i by omega]
    refine bit_hi (n := 24) hv ?_ (by omega)
    have : p2 24 = 16777216 := by decide
    unfold by3; omega)
  rw [e1, e2, e3, e4]; omega
theorem bitCount_s (M : Mem) {v : Int} (h0 : 0 ≤ v) (h1 : v < 8388608) : Cal Y_JI_bitCount [vI v] M (fun r M' => r = some (vI (pcI v)) ∧ M' = M) := by
  obtain ⟨n, rfl⟩ := Int.eq_ofNat_of_zero_le h0
  obtain ⟨a, b, c, ha, hb, hc, rfl⟩ : ∃ a b c : Nat, a < 256 ∧ b < 256 ∧ c < 128 ∧ n = by3 a b c := ⟨n % 256, n / 256 % 256, n / 65536, by omega, by omega, by omega, by unfold by3; omega⟩
  have a2 := b_a2 a ha
  have b2 := b_a2 b hb
  have c2 := b_a2 c (by omega)
  have pa := b_pc8 a ha
  have pb := b_pc8 b hb
  have pc := b_pc8 c (by omega)
  have ab := b_b2 a ha
  have bb := b_b2 b hb
  have cb := b_b2 c (by omega)
  have s1 : ((by3 a b c : Nat) : Int) - iand (((by3 a b c : Nat) : Int) / 2 ^ (1 : Int).toNat) 1431655765 = ((by3 (bA a) (bA b) (bA c) : Nat) : Int) := by
    rw [← bc_1 ha hb (by omega : c < 256)]
    have e : (((by3 a b c : Nat) : Int) / 2 ^ (1 : Int).toNat) = ((by3 a b c / 2 : Nat) : Int) := by simp
    rw [e, show (1431655765 : Int) = ((1431655765 : Nat) : Int) from rfl, iandN (by omega)]
    have h2 : (by3 a b c / 2 &&& 1431655765) ≤ by3 a b c / 2 := Nat.and_le_left
    omega
  have s2 : iand ((by3 (bA a) (bA b) (bA c) : Nat) : Int) 858993459 + iand (((by3 (bA a) (bA b) (bA c) : Nat) : Int) / 2 ^ (2 : Int).toNat) 858993459 = ((by3 (bB (bA a)) (bB (bA b)) (bB (bA c)) : Nat) : Int) := by
    rw [← bc_2 a2.2 b2.2 c2.2]
    have e : (((by3 (bA a) (bA b) (bA c) : Nat) : Int) / 2 ^ (2 : Int).toNat) = ((by3 (bA a) (bA b) (bA c) / 4 : Nat) : Int) := by simp
    have hx : by3 (bA a) (bA b) (bA c) < 2147483648 := by unfold by3; omega
    rw [e, show (858993459 : Int) = ((858993459 : Nat) : Int) from rfl, iandN hx, iandN (by omega)]
    omega
  have s3 : iand (((by3 (bB (bA a)) (bB (bA b)) (bB (bA c)) : Nat) : Int) + ((by3 (bB (bA a)) (bB (bA b)) (bB (bA c)) : Nat) : Int) / 2 ^ (4 : Int).toNat) 252645135 = ((by3 (bP (bB (bA a))) (bP (bB (bA b))) (bP (bB (bA c))) : Nat) : Int) := by
    rw [← bc_3 ab bb cb]
    have e : (((by3 (bB (bA a)) (bB (bA b)) (bB (bA c)) : Nat) : Int) / 2 ^ (4 : Int).toNat) = ((by3 (bB (bA a)) (bB (bA b)) (bB (bA c)) / 16 : Nat) : Int) := by simp
    have hx : by3 (bB (bA a)) (bB (bA b)) (bB (bA c)) < 16777216 := by unfold by3; omega
    rw [e, ← Int.natCast_add, show (252645135 : Int) = ((252645135 : Nat) : Int) from rfl, iandN (by omega)]
  have r1 := b_pc a ha
  have r2 := b_pc b hb
  have r3 := b_pc c (by omega)
  rw [pcI_by3 ha hb hc, ← r1, ← r2, ← r3]
  have hA : by3 (bA a) (bA b) (bA c) < 16777216 := by unfold by3; omega
  have hB : by3 (bB (bA a)) (bB (bA b)) (bB (bA c)) < 16777216 := by unfold by3; omega
  generalize bP (bB (bA a)) = x at *
  generalize bP (bB (bA b)) = y at *
  generalize bP (bB (bA c)) = z at *
  have hP : by3 x y z < 16777216 := by unfold by3; omega
  have hv : by3 a b c < 16777216 := by unfold by3; omega
  have s4 : ((by3 x y z : Nat) : Int) + ((by3 x y z : Nat) : Int) / 2 ^ (8 : Int).toNat = ((by3 (x + y) (y + z) z : Nat) : Int) := by
    have e : (((by3 x y z : Nat) : Int) / 2 ^ (8 : Int).toNat) = ((by3 x y z / 256 : Nat) : Int) := by simp
    rw [e]; unfold by3; omega
  have s5 : ((by3 (x + y) (y + z) z : Nat) : Int) + ((by3 (x + y) (y + z) z : Nat) : Int) / 2 ^ (16 : Int).toNat = ((by3 (x + y + z) (y + z) z : Nat) : Int) := by
    have e : (((by3 (x + y) (y + z) z : Nat) : Int) / 2 ^ (16 : Int).toNat) = ((by3 (x + y) (y + z) z / 65536 : Nat) : Int) := by simp
    rw [e]; unfold by3; omega
  have s6 : iand ((by3 (x + y + z) (y + z) z : Nat) : Int) 63 = (x : Int) + (y : Int) + (z : Int) := by
    rw [show (63 : Int) = ((63 : Nat) : Int) from rfl, iandN (by unfold by3; omega), show (63 : Nat) = 2 ^ 6 - 1 from rfl, Nat.and_two_pow_sub_one_eq_mod]
    unfold by3; omega
  have hQ : by3 (x + y) (y + z) z < 16777216 := by unfold by3; omega
  refine Cal.mk (y := Y_JI_bitCount) (loc := [vI ((by3 a b c : Nat) : Int)]) G_JI_bitCount rfl (by decide) rfl rfl (Nat.le_of_ble_eq_true rfl) ?_
  simp only [r_JI_bitCount_0, r_JI_bitCount_1, r_JI_bitCount_2, r_JI_bitCount_3, r_JI_bitCount_4, r_JI_bitCount_7, r_JI_bitCount_8, r_JI_bitCount_9, r_JI_bitCount_10, r_JI_bitCount_11, r_JI_bitCount_14, r_JI_bitCount_15, r_JI_bitCount_16, r_JI_bitCount_17, r_JI_bitCount_18, r_JI_bitCount_21, r_JI_bitCount_22, r_JI_bitCount_23, r_JI_bitCount_24, r_JI_bitCount_25, r_JI_bitCount_26, r_JI_bitCount_27, r_JI_bitCount_28, r_JI_bitCount_29, r_JI_bitCount_32, r_JI_bitCount_33, r_JI_bitCount_34, r_JI_bitCount_35, r_JI_bitCount_36, r_JI_bitCount_38, r_JI_bitCount_39, r_JI_bitCount_40, r_JI_bitCount_41, r_JI_bitCount_42, r_JI_bitCount_43, r_JI_bitCount_45, r_JI_bitCount_46, r_JI_bitCount_47, r_JI_bitCount_48, r_JI_bitCount_49, r_JI_bitCount_51, r_JI_bitCount_52, s1, s2, s3, s4, s5, s6, true_and, and_true, or_true, true_or, or_false, false_or, false_and, and_false, not_true_eq_false, not_false_eq_true, implies_true, true_implies, false_implies]
  refine ⟨⟨by omega, by omega, by decide, by decide⟩, ⟨by omega, by omega, by decide, by decide⟩, ⟨by omega, by omega, by decide, by decide⟩, ⟨by omega, by omega, by decide, by decide⟩, by omega, by omega, by decide, by decide⟩
