theorem cb_sl : ∀ n, n < 32 → ((Int32.ofInt ((n : Nat) : Int) &&& 31).toBitVec.smod 32).toNat = n := by decide
theorem cb_su : ∀ n, n < 32 → (((Int32.ofInt ((n : Nat) : Int)).toUInt32 &&& Int32.toUInt32 31).toBitVec % 32).toNat = n := by decide
theorem cb_sl64 : ∀ n, n < 64 → (((Int32.ofInt ((n : Nat) : Int)).toInt64 &&& 63).toBitVec.smod 64).toNat = n := by decide
theorem cb_shl (x : Int) {y : Int} (h0 : 0 ≤ y) (h1 : y < 32) : Int32.ofInt x <<< (Int32.ofInt y &&& 31) = Int32.ofInt (x * 2 ^ y.toNat) := by
  obtain ⟨n, rfl⟩ := Int.eq_ofNat_of_zero_le h0
  have hn : n < 32 := by omega
  apply Int32.toBitVec_inj.mp
  show (BitVec.ofInt 32 x) <<< ((Int32.ofInt (n : Int) &&& 31).toBitVec.smod 32).toNat = BitVec.ofInt 32 (x * 2 ^ (n : Int).toNat)
  rw [cb_sl n hn, Int.toNat_natCast, BitVec.ofInt_mul, BitVec.shiftLeft_eq_mul_twoPow]
  congr 1
  apply BitVec.eq_of_toNat_eq
  rw [BitVec.toNat_twoPow, show ((2 : Int) ^ n) = ((2 ^ n : Nat) : Int) by simp, BitVec.ofInt_natCast, BitVec.toNat_ofNat]
theorem cb_shl64 (x : Int) {y : Int} (h0 : 0 ≤ y) (h1 : y < 64) : Int64.ofInt x <<< ((Int32.ofInt y).toInt64 &&& 63) = Int64.ofInt (x * 2 ^ y.toNat) := by
  obtain ⟨n, rfl⟩ := Int.eq_ofNat_of_zero_le h0
  have hn : n < 64 := by omega
  apply Int64.toBitVec_inj.mp
  show (BitVec.ofInt 64 x) <<< (((Int32.ofInt (n : Int)).toInt64 &&& 63).toBitVec.smod 64).toNat = BitVec.ofInt 64 (x * 2 ^ (n : Int).toNat)
  rw [cb_sl64 n hn, Int.toNat_natCast, BitVec.ofInt_mul, BitVec.shiftLeft_eq_mul_twoPow]
  congr 1
  apply BitVec.eq_of_toNat_eq
  rw [BitVec.toNat_twoPow, show ((2 : Int) ^ n) = ((2 ^ n : Nat) : Int) by simp, BitVec.ofInt_natCast, BitVec.toNat_ofNat]
theorem cb_shr {x y : Int} (hx : R32 x) (h0 : 0 ≤ y) (h1 : y < 32) : Int32.ofInt x >>> (Int32.ofInt y &&& 31) = Int32.ofInt (x / 2 ^ y.toNat) := by
  obtain ⟨n, rfl⟩ := Int.eq_ofNat_of_zero_le h0
  have hn : n < 32 := by omega
  apply Int32.toInt_inj.mp
  rw [pk_shr _ _ n (cb_sl n hn), cb_oI hx.1 hx.2, Int.toNat_natCast, Int.shiftRight_eq_div_pow]
  have hp : (0 : Int) < ((2 ^ n : Nat) : Int) := by exact_mod_cast Nat.two_pow_pos n
  have e : ((2 : Int) ^ n) = ((2 ^ n : Nat) : Int) := by simp
  rw [e, cb_oI]
  · have := Int.le_ediv_of_mul_le (a := -2147483648) (b := x) hp (by
      have := hx.1
      have : (1 : Int) ≤ ((2 ^ n : Nat) : Int) := hp
      have h3 : (-2147483648 : Int) * ((2 ^ n : Nat) : Int) ≤ -2147483648 * 1 := Int.mul_le_mul_of_nonpos_left (by decide) this
      omega)
    exact this
  · refine Int.ediv_lt_of_lt_mul hp ?_
    have h3 : (2147483648 : Int) * 1 ≤ 2147483648 * ((2 ^ n : Nat) : Int) := Int.mul_le_mul_of_nonneg_left hp (by decide)
    have := hx.2
    omega
theorem cb_ushr {x y : Int} (hx0 : 0 ≤ x) (hx1 : x < 2147483648) (h0 : 0 ≤ y) (h1 : y < 32) : ((Int32.ofInt x).toUInt32 >>> ((Int32.ofInt y).toUInt32 &&& Int32.toUInt32 31)).toInt32 = Int32.ofInt (x / 2 ^ y.toNat) := by
  obtain ⟨n, rfl⟩ := Int.eq_ofNat_of_zero_le h0
  obtain ⟨k, rfl⟩ := Int.eq_ofNat_of_zero_le hx0
  have hn : n < 32 := by omega
  have e : ((2 : Int) ^ n) = ((2 ^ n : Nat) : Int) := by simp
  rw [Int.toNat_natCast, e, ← Int.natCast_ediv]
  have e2 : ∀ q : Nat, Int32.ofInt (q : Int) = nI q := fun q => Int32.ofInt_eq_ofNat
  rw [e2 k, e2 (k / 2 ^ n)]
  exact pk_ushrN (by omega) _ n (cb_su n hn)
theorem cb_div {x y : Int} (hx : R32 x) (h0 : 0 < y) (h1 : y < 2147483648) : Int32.ofInt x / Int32.ofInt y = Int32.ofInt (x.tdiv y) := by
  apply Int32.toInt_inj.mp
  have hy : (Int32.ofInt y).toInt = y := cb_oI (by omega) h1
  have hxx := cb_oI hx.1 hx.2
  rw [Int32.toInt_div_of_ne_right _ _ (fun q => by rw [q] at hy; have : (-1 : Int32).toInt = -1 := by decide
                                                   omega), hy, hxx, cb_oI]
  · have := hx.1
    have := hx.2
    rcases Int.le_total 0 x with q | q
    · have := Int.tdiv_nonneg q (Int.le_of_lt h0); omega
    · have h2 : (-x).tdiv y ≤ -x := by
        rw [Int.tdiv_eq_ediv_of_nonneg (by omega)]
        exact Int.ediv_le_self _ (by omega)
      rw [Int.neg_tdiv] at h2
      omega
  · have := hx.2
    rcases Int.le_total 0 x with q | q
    · rw [Int.tdiv_eq_ediv_of_nonneg q]
      have := Int.ediv_le_self y q
      omega
    · have h2 := Int.tdiv_nonneg (a := -x) (by omega) (Int.le_of_lt h0)
      rw [Int.neg_tdiv] at h2
      omega
theorem cb_rem {x y : Int} (hx : R32 x) (h0 : 0 < y) (h1 : y < 2147483648) : Int32.ofInt x - Int32.ofInt x / Int32.ofInt y * Int32.ofInt y = Int32.ofInt (x.tmod y) := by
  rw [cb_div hx h0 h1, ← Int32.ofInt_mul, ← Int32.ofInt_sub]
  congr 1
  have := Int.mul_tdiv_add_tmod x y
  rw [Int.mul_comm] at this
  omega
theorem cb_divL {x y : Int} (hx : 0 ≤ x) (hx1 : x < 9223372036854775808) (h0 : 0 < y) (h1 : y < 9223372036854775808) : Int64.ofInt x / Int64.ofInt y = Int64.ofInt (x / y) := by
  obtain ⟨n, rfl⟩ := Int.eq_ofNat_of_zero_le hx
  obtain ⟨k, rfl⟩ := Int.eq_ofNat_of_zero_le (Int.le_of_lt h0)
  have e2 : ∀ q : Nat, Int64.ofInt (q : Int) = lN q := fun q => Int64.ofInt_eq_ofNat
  rw [← Int.natCast_ediv, e2, e2, e2]
  exact pk_lDiv (by omega) (by omega) (by omega)
theorem cb_remL {x y : Int} (hx : 0 ≤ x) (hx1 : x < 9223372036854775808) (h0 : 0 < y) (h1 : y < 9223372036854775808) : Int64.ofInt x - Int64.ofInt x / Int64.ofInt y * Int64.ofInt y = Int64.ofInt (x % y) := by
  rw [cb_divL hx hx1 h0 h1, ← Int64.ofInt_mul, ← Int64.ofInt_sub]
  congr 1
  have := Int.mul_ediv_add_emod x y
  rw [Int.mul_comm] at this
  omega
theorem cb_ne0L {y : Int} (h1 : 0 < y) (h2 : y < 9223372036854775808) : ¬ Int64.ofInt y = 0 := by
  rw [← Int64.toInt_inj, cb_oL (by omega) h2]
  show ¬ y = 0
  omega
theorem cb_cmp {x y : Int} (hx : R64 x) (hy : R64 y) : lg_cmp (Int64.ofInt x) (Int64.ofInt y) = Int32.ofInt (cmp3 x y) := by
  unfold lg_cmp cmp3
  have e : Int64.ofInt x = Int64.ofInt y ↔ x = y := by rw [← Int64.toInt_inj, cb_oL hx.1 hx.2, cb_oL hy.1 hy.2]
  simp only [gt_iff_lt, cb_lt64 hy hx, e]
  rcases Int.lt_trichotomy x y with h | h | h
  · rw [if_neg (by omega), if_neg (by omega), if_pos h]; rfl
  · rw [if_neg (by omega), if_pos h, if_neg (by omega), if_pos h]; rfl
  · rw [if_pos h, if_neg (by omega), if_neg (by omega)]; rfl
theorem cb_i2l {x : Int} (hx : R32 x) : (Int32.ofInt x).toInt64 = Int64.ofInt x := by
  apply Int64.toInt_inj.mp
  have h1 := hx.1
  have h2 := hx.2
  rw [Int32.toInt_toInt64, cb_oI hx.1 hx.2, cb_oL (by omega) (by omega)]
section SND
variable {own : String} {cc : ByteArray} {nL rk fr lo pc : Nat}
theorem so_idiv (d : decode cc pc = .ok (.idiv, 1)) : SO (own, cc, nL, rk, fr, lo) pc (opI2 (fun x y => R32 x ∧ 0 < y ∧ y < 2147483648) (fun x y => x.tdiv y) (pc + 1)) := by
  intro E loc st M h0 p l e R s m args below meth c Qs A g cells slots X H locs ls hP hS hL
  obtain ⟨x, y, r, rfl, ⟨q1, q2, q3⟩, h⟩ := h0
  refine lv_idiv X.1 X.2.1 d (cb_ne0 q2 q3) ?_
  have e9 : cv (cb_al g) (vI ((fun x y => x.tdiv y) x y)) = .int (Int32.ofInt x / Int32.ofInt y) := congrArg Value.int ((cb_div q1 q2 q3).symm)
  have h9 := (h p l e R s m args below meth c Qs A g cells slots X H locs ls hP hS hL)
  rw [List.map_cons, e9] at h9
  exact h9
theorem so_irem (d : decode cc pc = .ok (.irem, 1)) : SO (own, cc, nL, rk, fr, lo) pc (opI2 (fun x y => R32 x ∧ 0 < y ∧ y < 2147483648) (fun x y => x.tmod y) (pc + 1)) := by
  intro E loc st M h0 p l e R s m args below meth c Qs A g cells slots X H locs ls hP hS hL
  obtain ⟨x, y, r, rfl, ⟨q1, q2, q3⟩, h⟩ := h0
  refine lv_irem X.1 X.2.1 d (cb_ne0 q2 q3) ?_
  have e9 : cv (cb_al g) (vI ((fun x y => x.tmod y) x y)) = .int (Int32.ofInt x - Int32.ofInt x / Int32.ofInt y * Int32.ofInt y) := congrArg Value.int ((cb_rem q1 q2 q3).symm)
  have h9 := (h p l e R s m args below meth c Qs A g cells slots X H locs ls hP hS hL)
  rw [List.map_cons, e9] at h9
  exact h9
theorem so_ishl (d : decode cc pc = .ok (.ishl, 1)) : SO (own, cc, nL, rk, fr, lo) pc (opI2 (fun _ y => 0 ≤ y ∧ y < 32) (fun x y => x * 2 ^ y.toNat) (pc + 1)) := by
  intro E loc st M h0 p l e R s m args below meth c Qs A g cells slots X H locs ls hP hS hL
  obtain ⟨x, y, r, rfl, ⟨q1, q2⟩, h⟩ := h0
  refine lv_ishl X.1 X.2.1 d ?_
  have e9 : cv (cb_al g) (vI ((fun x y => x * 2 ^ y.toNat) x y)) = .int (Int32.ofInt x <<< (Int32.ofInt y &&& 31)) := congrArg Value.int ((cb_shl x q1 q2).symm)
  have h9 := (h p l e R s m args below meth c Qs A g cells slots X H locs ls hP hS hL)
  rw [List.map_cons, e9] at h9
  exact h9
theorem so_ishr (d : decode cc pc = .ok (.ishr, 1)) : SO (own, cc, nL, rk, fr, lo) pc (opI2 (fun x y => R32 x ∧ 0 ≤ y ∧ y < 32) (fun x y => x / 2 ^ y.toNat) (pc + 1)) := by
  intro E loc st M h0 p l e R s m args below meth c Qs A g cells slots X H locs ls hP hS hL
  obtain ⟨x, y, r, rfl, ⟨q1, q2, q3⟩, h⟩ := h0
  refine lv_ishr X.1 X.2.1 d ?_
  have e9 : cv (cb_al g) (vI ((fun x y => x / 2 ^ y.toNat) x y)) = .int (Int32.ofInt x >>> (Int32.ofInt y &&& 31)) := congrArg Value.int ((cb_shr q1 q2 q3).symm)
  have h9 := (h p l e R s m args below meth c Qs A g cells slots X H locs ls hP hS hL)
  rw [List.map_cons, e9] at h9
  exact h9
theorem so_iushr (d : decode cc pc = .ok (.iushr, 1)) : SO (own, cc, nL, rk, fr, lo) pc (opI2 (fun x y => 0 ≤ x ∧ x < 2147483648 ∧ 0 ≤ y ∧ y < 32) (fun x y => x / 2 ^ y.toNat) (pc + 1)) := by
  intro E loc st M h0 p l e R s m args below meth c Qs A g cells slots X H locs ls hP hS hL
  obtain ⟨x, y, r, rfl, ⟨q1, q2, q3, q4⟩, h⟩ := h0
  exact lv_iushr X.1 X.2.1 d (cb_ushr q1 q2 q3 q4) (h p l e R s m args below meth c Qs A g cells slots X H locs ls hP hS hL)
theorem so_lshl (d : decode cc pc = .ok (.lshl, 1)) : SO (own, cc, nL, rk, fr, lo) pc (opShlL (pc + 1)) := by
  intro E loc st M h0 p l e R s m args below meth c Qs A g cells slots X H locs ls hP hS hL
  obtain ⟨x, y, r, rfl, ⟨q1, q2⟩, h⟩ := h0
  exact lv_lshl X.1 X.2.1 d (cb_shl64 x q1 q2) (h p l e R s m args below meth c Qs A g cells slots X H locs ls hP hS hL)
theorem so_i2l (d : decode cc pc = .ok (.i2l, 1)) : SO (own, cc, nL, rk, fr, lo) pc (opI2l (pc + 1)) := by
  intro E loc st M h0 p l e R s m args below meth c Qs A g cells slots X H locs ls hP hS hL
  obtain ⟨x, r, rfl, q1, h⟩ := h0
  exact lv_i2l X.1 X.2.1 d (cb_i2l q1) (h p l e R s m args below meth c Qs A g cells slots X H locs ls hP hS hL)
theorem so_lcmp (d : decode cc pc = .ok (.lcmp, 1)) : SO (own, cc, nL, rk, fr, lo) pc (opLcmp (pc + 1)) := by
  intro E loc st M h0 p l e R s m args below meth c Qs A g cells slots X H locs ls hP hS hL
  obtain ⟨x, y, r, rfl, q1, q2, h⟩ := h0
  refine W.lcmp X.1 X.2.1 d ?_
  have h9 := (h p l e R s m args below meth c Qs A g cells slots X H locs ls hP hS hL)
  have e9 : cv (cb_al g) (vI (cmp3 x y)) = .int (lg_cmp (Int64.ofInt x) (Int64.ofInt y)) := congrArg Value.int (cb_cmp q1 q2).symm
  rw [List.map_cons, e9] at h9
  exact h9
theorem so_ldiv (d : decode cc pc = .ok (.ldiv, 1)) : SO (own, cc, nL, rk, fr, lo) pc (opL2 (fun x y => 0 ≤ x ∧ x < 9223372036854775808 ∧ 0 < y ∧ y < 9223372036854775808) (fun x y => x / y) (pc + 1)) := by
  intro E loc st M h0 p l e R s m args below meth c Qs A g cells slots X H locs ls hP hS hL
  obtain ⟨x, y, r, rfl, ⟨q1, q2, q3, q4⟩, h⟩ := h0
  refine lv_ldiv X.1 X.2.1 d (cb_ne0L q3 q4) ?_
  have e9 : cv (cb_al g) (vL ((fun x y => x / y) x y)) = .long (Int64.ofInt x / Int64.ofInt y) := congrArg Value.long (cb_divL q1 q2 q3 q4).symm
  have h9 := (h p l e R s m args below meth c Qs A g cells slots X H locs ls hP hS hL)
  rw [List.map_cons, e9] at h9
  exact h9
theorem so_lrem (d : decode cc pc = .ok (.lrem, 1)) : SO (own, cc, nL, rk, fr, lo) pc (opL2 (fun x y => 0 ≤ x ∧ x < 9223372036854775808 ∧ 0 < y ∧ y < 9223372036854775808) (fun x y => x % y) (pc + 1)) := by
  intro E loc st M h0 p l e R s m args below meth c Qs A g cells slots X H locs ls hP hS hL
  obtain ⟨x, y, r, rfl, ⟨q1, q2, q3, q4⟩, h⟩ := h0
  refine lv_lrem X.1 X.2.1 d (cb_ne0L q3 q4) ?_
  have e9 : cv (cb_al g) (vL ((fun x y => x % y) x y)) = .long (Int64.ofInt x - Int64.ofInt x / Int64.ofInt y * Int64.ofInt y) := congrArg Value.long (cb_remL q1 q2 q3 q4).symm
  have h9 := (h p l e R s m args below meth c Qs A g cells slots X H locs ls hP hS hL)
  rw [List.map_cons, e9] at h9
  exact h9
theorem so_dup (d : decode cc pc = .ok (.dup, 1)) : SO (own, cc, nL, rk, fr, lo) pc (opDup (pc + 1)) := by
  intro E loc st M h0 p l e R s m args below meth c Qs A g cells slots X H locs ls hP hS hL
  obtain ⟨v, r, rfl, q1, h⟩ := h0
  exact lv_dup X.1 X.2.1 d ((cb_cat_cv _ v).trans q1) (h p l e R s m args below meth c Qs A g cells slots X H locs ls hP hS hL)
theorem so_dup2 (d : decode cc pc = .ok (.dup2, 1)) : SO (own, cc, nL, rk, fr, lo) pc (opDup2 (pc + 1)) := by
  intro E loc st M h0 p l e R s m args below meth c Qs A g cells slots X H locs ls hP hS hL
  obtain ⟨v, w, r, rfl, q1, q2, h⟩ := h0
  exact lv_dup2_11 X.1 X.2.1 d ((cb_cat_cv _ v).trans q1) ((cb_cat_cv _ w).trans q2) (h p l e R s m args below meth c Qs A g cells slots X H locs ls hP hS hL)
theorem so_if_eq {off : Int} {t : Nat} (ht : (pc : Int) + off = (t : Int)) (d : decode cc pc = .ok (.ifCond .eq off, 3)) : SO (own, cc, nL, rk, fr, lo) pc (opIf (fun x => x = 0) t (pc + 3)) := by
  intro E loc st M h0 p l e R s m args below meth c Qs A g cells slots X H locs ls hP hS hL
  obtain ⟨x, r, rfl, q1, h1, h2⟩ := h0
  exact lv_if_eq X.1 X.2.1 d ht (fun q => (h1 ((cb_eq q1 R32_0).mp q) p l e R s m args below meth c Qs A g cells slots X H locs ls hP hS hL)) (fun q => (h2 (fun z => q ((cb_eq q1 R32_0).mpr z)) p l e R s m args below meth c Qs A g cells slots X H locs ls hP hS hL))
theorem so_if_ne {off : Int} {t : Nat} (ht : (pc : Int) + off = (t : Int)) (d : decode cc pc = .ok (.ifCond .ne off, 3)) : SO (own, cc, nL, rk, fr, lo) pc (opIf (fun x => ¬ x = 0) t (pc + 3)) := by
  intro E loc st M h0 p l e R s m args below meth c Qs A g cells slots X H locs ls hP hS hL
  obtain ⟨x, r, rfl, q1, h1, h2⟩ := h0
  exact lv_if_ne X.1 X.2.1 d ht (fun q => (h1 (fun z => q ((cb_eq q1 R32_0).mpr z)) p l e R s m args below meth c Qs A g cells slots X H locs ls hP hS hL)) (fun q => (h2 (fun z => z ((cb_eq q1 R32_0).mp q)) p l e R s m args below meth c Qs A g cells slots X H locs ls hP hS hL))
theorem so_if_lt {off : Int} {t : Nat} (ht : (pc : Int) + off = (t : Int)) (d : decode cc pc = .ok (.ifCond .lt off, 3)) : SO (own, cc, nL, rk, fr, lo) pc (opIf (fun x => x < 0) t (pc + 3)) := by
  intro E loc st M h0 p l e R s m args below meth c Qs A g cells slots X H locs ls hP hS hL
  obtain ⟨x, r, rfl, q1, h1, h2⟩ := h0
  exact lv_if_lt X.1 X.2.1 d ht (fun q => (h1 ((cb_lt q1 R32_0).mp q) p l e R s m args below meth c Qs A g cells slots X H locs ls hP hS hL)) (fun q => (h2 (fun z => q ((cb_lt q1 R32_0).mpr z)) p l e R s m args below meth c Qs A g cells slots X H locs ls hP hS hL))
theorem so_if_ge {off : Int} {t : Nat} (ht : (pc : Int) + off = (t : Int)) (d : decode cc pc = .ok (.ifCond .ge off, 3)) : SO (own, cc, nL, rk, fr, lo) pc (opIf (fun x => 0 ≤ x) t (pc + 3)) := by
  intro E loc st M h0 p l e R s m args below meth c Qs A g cells slots X H locs ls hP hS hL
  obtain ⟨x, r, rfl, q1, h1, h2⟩ := h0
  exact lv_if_ge X.1 X.2.1 d ht (fun q => (h1 ((cb_le R32_0 q1).mp q) p l e R s m args below meth c Qs A g cells slots X H locs ls hP hS hL)) (fun q => (h2 (fun z => q ((cb_le R32_0 q1).mpr z)) p l e R s m args below meth c Qs A g cells slots X H locs ls hP hS hL))
theorem so_if_gt {off : Int} {t : Nat} (ht : (pc : Int) + off = (t : Int)) (d : decode cc pc = .ok (.ifCond .gt off, 3)) : SO (own, cc, nL, rk, fr, lo) pc (opIf (fun x => 0 < x) t (pc + 3)) := by
  intro E loc st M h0 p l e R s m args below meth c Qs A g cells slots X H locs ls hP hS hL
  obtain ⟨x, r, rfl, q1, h1, h2⟩ := h0
  exact lv_if_gt X.1 X.2.1 d ht (fun q => (h1 ((cb_lt R32_0 q1).mp q) p l e R s m args below meth c Qs A g cells slots X H locs ls hP hS hL)) (fun q => (h2 (fun z => q ((cb_lt R32_0 q1).mpr z)) p l e R s m args below meth c Qs A g cells slots X H locs ls hP hS hL))
theorem so_if_le {off : Int} {t : Nat} (ht : (pc : Int) + off = (t : Int)) (d : decode cc pc = .ok (.ifCond .le off, 3)) : SO (own, cc, nL, rk, fr, lo) pc (opIf (fun x => x ≤ 0) t (pc + 3)) := by
  intro E loc st M h0 p l e R s m args below meth c Qs A g cells slots X H locs ls hP hS hL
  obtain ⟨x, r, rfl, q1, h1, h2⟩ := h0
  exact lv_if_le X.1 X.2.1 d ht (fun q => (h1 ((cb_le q1 R32_0).mp q) p l e R s m args below meth c Qs A g cells slots X H locs ls hP hS hL)) (fun q => (h2 (fun z => q ((cb_le q1 R32_0).mpr z)) p l e R s m args below meth c Qs A g cells slots X H locs ls hP hS hL))
theorem so_icmp_eq {off : Int} {t : Nat} (ht : (pc : Int) + off = (t : Int)) (d : decode cc pc = .ok (.if_icmp .eq off, 3)) : SO (own, cc, nL, rk, fr, lo) pc (opIc (fun x y => x = y) t (pc + 3)) := by
  intro E loc st M h0 p l e R s m args below meth c Qs A g cells slots X H locs ls hP hS hL
  obtain ⟨x, y, r, rfl, q1, q2, h1, h2⟩ := h0
  exact lv_icmp_eq X.1 X.2.1 d ht (fun q => (h1 ((cb_eq q1 q2).mp q) p l e R s m args below meth c Qs A g cells slots X H locs ls hP hS hL)) (fun q => (h2 (fun z => q ((cb_eq q1 q2).mpr z)) p l e R s m args below meth c Qs A g cells slots X H locs ls hP hS hL))
theorem so_icmp_ne {off : Int} {t : Nat} (ht : (pc : Int) + off = (t : Int)) (d : decode cc pc = .ok (.if_icmp .ne off, 3)) : SO (own, cc, nL, rk, fr, lo) pc (opIc (fun x y => ¬ x = y) t (pc + 3)) := by
  intro E loc st M h0 p l e R s m args below meth c Qs A g cells slots X H locs ls hP hS hL
  obtain ⟨x, y, r, rfl, q1, q2, h1, h2⟩ := h0
  exact lv_icmp_ne X.1 X.2.1 d ht (fun q => (h1 (fun z => q ((cb_eq q1 q2).mpr z)) p l e R s m args below meth c Qs A g cells slots X H locs ls hP hS hL)) (fun q => (h2 (fun z => z ((cb_eq q1 q2).mp q)) p l e R s m args below meth c Qs A g cells slots X H locs ls hP hS hL))
theorem so_icmp_lt {off : Int} {t : Nat} (ht : (pc : Int) + off = (t : Int)) (d : decode cc pc = .ok (.if_icmp .lt off, 3)) : SO (own, cc, nL, rk, fr, lo) pc (opIc (fun x y => x < y) t (pc + 3)) := by
  intro E loc st M h0 p l e R s m args below meth c Qs A g cells slots X H locs ls hP hS hL
  obtain ⟨x, y, r, rfl, q1, q2, h1, h2⟩ := h0
  exact lv_icmp_lt X.1 X.2.1 d ht (fun q => (h1 ((cb_lt q1 q2).mp q) p l e R s m args below meth c Qs A g cells slots X H locs ls hP hS hL)) (fun q => (h2 (fun z => q ((cb_lt q1 q2).mpr z)) p l e R s m args below meth c Qs A g cells slots X H locs ls hP hS hL))
theorem so_icmp_ge {off : Int} {t : Nat} (ht : (pc : Int) + off = (t : Int)) (d : decode cc pc = .ok (.if_icmp .ge off, 3)) : SO (own, cc, nL, rk, fr, lo) pc (opIc (fun x y => y ≤ x) t (pc + 3)) := by
  intro E loc st M h0 p l e R s m args below meth c Qs A g cells slots X H locs ls hP hS hL
  obtain ⟨x, y, r, rfl, q1, q2, h1, h2⟩ := h0
  exact lv_icmp_ge X.1 X.2.1 d ht (fun q => (h1 ((cb_le q2 q1).mp q) p l e R s m args below meth c Qs A g cells slots X H locs ls hP hS hL)) (fun q => (h2 (fun z => q ((cb_le q2 q1).mpr z)) p l e R s m args below meth c Qs A g cells slots X H locs ls hP hS hL))
theorem so_icmp_gt {off : Int} {t : Nat} (ht : (pc : Int) + off = (t : Int)) (d : decode cc pc = .ok (.if_icmp .gt off, 3)) : SO (own, cc, nL, rk, fr, lo) pc (opIc (fun x y => y < x) t (pc + 3)) := by
  intro E loc st M h0 p l e R s m args below meth c Qs A g cells slots X H locs ls hP hS hL
  obtain ⟨x, y, r, rfl, q1, q2, h1, h2⟩ := h0
  exact lv_icmp_gt X.1 X.2.1 d ht (fun q => (h1 ((cb_lt q2 q1).mp q) p l e R s m args below meth c Qs A g cells slots X H locs ls hP hS hL)) (fun q => (h2 (fun z => q ((cb_lt q2 q1).mpr z)) p l e R s m args below meth c Qs A g cells slots X H locs ls hP hS hL))
theorem so_icmp_le {off : Int} {t : Nat} (ht : (pc : Int) + off = (t : Int)) (d : decode cc pc = .ok (.if_icmp .le off, 3)) : SO (own, cc, nL, rk, fr, lo) pc (opIc (fun x y => x ≤ y) t (pc + 3)) := by
  intro E loc st M h0 p l e R s m args below meth c Qs A g cells slots X H locs ls hP hS hL
  obtain ⟨x, y, r, rfl, q1, q2, h1, h2⟩ := h0
  exact lv_icmp_le X.1 X.2.1 d ht (fun q => (h1 ((cb_le q1 q2).mp q) p l e R s m args below meth c Qs A g cells slots X H locs ls hP hS hL)) (fun q => (h2 (fun z => q ((cb_le q1 q2).mpr z)) p l e R s m args below meth c Qs A g cells slots X H locs ls hP hS hL))
theorem so_goto {off : Int} {t : Nat} (ht : (pc : Int) + off = (t : Int)) (d : decode cc pc = .ok (.goto off, 3)) : SO (own, cc, nL, rk, fr, lo) pc (opGo t) := by
  intro E loc st M h0 p l e R s m args below meth c Qs A g cells slots X H locs ls hP hS hL
  have h := h0
  exact lv_goto X.1 X.2.1 d ht (h p l e R s m args below meth c Qs A g cells slots X H locs ls hP hS hL)
end SND
