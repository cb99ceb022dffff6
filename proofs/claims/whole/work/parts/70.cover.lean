/-! the lowest bit; cover of the class -/
def ssub (a b : Int) : Prop := ∀ i, 0 ≤ i → bit a i = true → bit b i = true
def lowb (a h : Int) : Prop := 0 ≤ h ∧ bit a h = true ∧ ∀ j, 0 ≤ j → j < h → bit a j = false
theorem nz_any {a : Int} (h0 : 0 ≤ a) (hn : ¬ a = 0) : ∃ x, 0 ≤ x ∧ bit a x = true := by
  apply Classical.byContradiction
  intro hno
  apply hn
  apply bit_ext h0 (Int.le_refl _)
  intro i hi
  rw [bit_0]
  cases q : bit a i with
  | false => rfl
  | true => exact absurd ⟨i, hi, q⟩ hno
theorem lowb_ex {a : Int} (h0 : 0 ≤ a) (hn : ¬ a = 0) : ∃ h, lowb a h := by
  obtain ⟨x, x0, x1⟩ := nz_any h0 hn
  obtain ⟨m, ⟨a1, a2⟩, hm⟩ := int_max (P := fun v => 0 ≤ -v ∧ bit a (-v) = true) (a := -x) (b := 0) ⟨by omega, by rw [show - -x = x by omega]; exact x1⟩ (fun v z => by omega)
  refine ⟨-m, a1, a2, fun j j0 j1 => ?_⟩
  cases q : bit a j with
  | false => rfl
  | true =>
    have := hm (-j) ⟨by omega, by rw [show - -j = j by omega]; exact q⟩
    omega
/-- the bits of a number less one -/
theorem pm1_bit {a h : Int} (h0 : 0 ≤ a) (hl : lowb a h) {i : Int} (i0 : 0 ≤ i) : bit (a - 1) i = if i < h then true else if i = h then false else bit a i := by
  obtain ⟨g0, g1, g2⟩ := hl
  obtain ⟨x, rfl⟩ := Int.eq_ofNat_of_zero_le h0
  obtain ⟨k, rfl⟩ := Int.eq_ofNat_of_zero_le g0
  obtain ⟨j, rfl⟩ := Int.eq_ofNat_of_zero_le i0
  have hb : x.testBit k = true := g1
  have hz : ∀ m, m < k → x.testBit m = false := fun m hm => g2 m (by omega) (by omega)
  have hmod : x % 2 ^ (k + 1) = 2 ^ k := by
    apply Nat.eq_of_testBit_eq
    intro m
    rw [Nat.testBit_mod_two_pow, Nat.testBit_two_pow]
    by_cases q : m < k
    · rw [hz m q, Bool.and_false]
      exact (decide_eq_false (by omega)).symm
    · by_cases q2 : m = k
      · rw [q2, hb]; simp
      · rw [decide_eq_false (show ¬ m < k + 1 by omega), Bool.false_and]
        exact (decide_eq_false (by omega)).symm
  have hdm := Nat.div_add_mod x (2 ^ (k + 1))
  rw [hmod] at hdm
  have hp := Nat.two_pow_pos k
  have hs : 2 ^ (k + 1) = 2 * 2 ^ k := by rw [Nat.pow_succ]; omega
  have e1 : x = 2 ^ (k + 1) * (x / 2 ^ (k + 1)) ||| 2 ^ k := by
    rw [← Nat.two_pow_add_eq_or_of_lt (by omega)]; exact hdm.symm
  have e2 : x - 1 = 2 ^ (k + 1) * (x / 2 ^ (k + 1)) ||| (2 ^ k - 1) := by
    rw [← Nat.two_pow_add_eq_or_of_lt (by omega)]; omega
  have ej : bit ((x : Int) - 1) (j : Int) = (x - 1).testBit j := by
    unfold bit
    rw [show ((x : Int) - 1).toNat = x - 1 by omega, Int.toNat_natCast]
  rw [ej, show bit (x : Int) (j : Int) = x.testBit j from rfl]
  by_cases q : j < k
  · rw [if_pos (by omega), e2, Nat.testBit_or, Nat.testBit_two_pow_sub_one, decide_eq_true q, Bool.or_true]
  · rw [if_neg (by omega)]
    have hx : x.testBit j = ((2 ^ (k + 1) * (x / 2 ^ (k + 1))).testBit j || decide (j = k)) := by
      have := congrArg (fun y => Nat.testBit y j) e1
      rw [Nat.testBit_or, Nat.testBit_two_pow] at this
      rw [this]
      congr 1
      exact decide_eq_decide.2 ⟨fun z => z.symm, fun z => z.symm⟩
    have hy : (x - 1).testBit j = (2 ^ (k + 1) * (x / 2 ^ (k + 1))).testBit j := by
      rw [e2, Nat.testBit_or, Nat.testBit_two_pow_sub_one, decide_eq_false q, Bool.or_false]
    rw [hy]
    by_cases q2 : j = k
    · rw [if_pos (by omega)]
      have : (2 ^ (k + 1) * (x / 2 ^ (k + 1))).testBit j = (decide (k + 1 ≤ j) && (x / 2 ^ (k + 1)).testBit (j - (k + 1))) := Nat.testBit_two_pow_mul
      rw [this, decide_eq_false (by omega), Bool.false_and]
    · rw [if_neg (by omega), hx, decide_eq_false q2, Bool.or_false]
theorem low_and {a h : Int} (h0 : 0 ≤ a) (h1 : a < 1073741824) (hl : lowb a h) : iand a (-a) = p2 h := by
  have hn : ¬ a = 0 := fun z => by have := hl.2.1; rw [z, bit_0] at this; exact Bool.noConfusion this
  have e : -a = ixor (a - 1) (-1) := by rw [ixor_m1 (r32 (by omega) (by omega))]; omega
  have hb := iandn_bd (a := a) (b := a - 1) h0 (by omega) (by omega)
  rw [e]
  have hp := p2_pos h
  apply bit_ext hb.1 (by omega)
  intro i hi
  rw [bit_iandn h0 (by omega) (by omega), pm1_bit h0 hl hi, bit_p2 hl.1 hi]
  by_cases q : i < h
  · rw [if_pos q, hl.2.2 i hi q, Bool.false_and, decide_eq_false (by omega)]
  · by_cases q2 : i = h
    · rw [if_neg q, if_pos q2, decide_eq_true q2, q2, hl.2.1]; rfl
    · rw [if_neg q, if_neg q2, decide_eq_false q2]
      cases bit a i <;> rfl
def dif (a b : Int) : Int := iand a (ixor b (-1))
theorem and_p2 {a h : Int} (h0 : 0 ≤ a) (h1 : a < 2147483648) (hh : 0 ≤ h) : (¬ iand a (p2 h) = 0 ↔ bit a h = true) := by
  have hp := p2_pos h
  have hb := iand_bd (a := a) (b := p2 h) h0 h1 (by omega)
  constructor
  · intro z
    obtain ⟨x, x0, x1⟩ := nz_any hb.1 z
    rw [bit_iand h0 h1 (by omega), Bool.and_eq_true, bit_p2 hh x0, decide_eq_true_eq] at x1
    rw [← x1.2]; exact x1.1
  · intro z w
    have := bit_iand (i := h) h0 h1 (show 0 ≤ p2 h by omega)
    rw [w, bit_0, z, bit_p2 hh hh] at this
    simp at this
/-- sets that some cause explains by some start -/
def cvE (ρ tm : Rw) (e : Int) : Prop := ∃ c u, 0 ≤ c ∧ c < nC ρ ∧ 0 ≤ u ∧ u < 1000 ∧ e = ex ρ tm c u
def cv1 (ρ tm : Rw) (a : Int) : Prop := ∃ e, cvE ρ tm e ∧ ∀ i, 0 ≤ i → bit a i = true → bit e i = true
def cv2 (ρ tm : Rw) (a : Int) : Prop := ∃ e1 e2, cvE ρ tm e1 ∧ cvE ρ tm e2 ∧ ∀ i, 0 ≤ i → bit a i = true → bit e1 i = true ∨ bit e2 i = true
def cv3 (ρ tm : Rw) (a : Int) : Prop := ∃ e1 e2 e3, cvE ρ tm e1 ∧ cvE ρ tm e2 ∧ cvE ρ tm e3 ∧ ∀ i, 0 ≤ i → bit a i = true → bit e1 i = true ∨ bit e2 i = true ∨ bit e3 i = true
theorem cvE_bd {ρ tm : Rw} (hV : VR ρ) {e : Int} (h : cvE ρ tm e) : 0 ≤ e ∧ e < 1048576 := by
  obtain ⟨c, u, -, -, -, -, rfl⟩ := h
  have := ex_bd (tm := tm) hV c u
  exact ⟨this.1, this.2.2⟩
theorem dif_bd {a b : Int} (a0 : 0 ≤ a) (a1 : a < 1048576) (b0 : 0 ≤ b) : 0 ≤ dif a b ∧ dif a b < 1048576 := by
  have := iandn_bd (a := a) (b := b) a0 (by omega) b0
  unfold dif
  omega
theorem dif_bit {a b i : Int} (a0 : 0 ≤ a) (a1 : a < 1048576) (b0 : 0 ≤ b) : (bit (dif a b) i = true ↔ bit a i = true ∧ ¬ bit b i = true) := by
  unfold dif
  rw [bit_iandn a0 (by omega) b0, Bool.and_eq_true]
  refine and_congr Iff.rfl ?_
  cases bit b i <;> simp
theorem dif_0 {a b : Int} (a0 : 0 ≤ a) (a1 : a < 1048576) (b0 : 0 ≤ b) : dif a b = 0 ↔ ssub a b := sub_iff a0 (by omega) b0
/-- offers: sets from among those that are explained, that are as good as all -/
def OF (ρ tm : Rw) (n : Int) (O : Int → Int) : Prop := (∀ i, 0 ≤ i → i < n → cvE ρ tm (O i)) ∧ ∀ e, cvE ρ tm e → ¬ e = 0 → ∃ i, 0 ≤ i ∧ i < n ∧ ssub e (O i)
def o1 (n : Int) (O : Int → Int) (a : Int) : Prop := ∃ i, 0 ≤ i ∧ i < n ∧ ssub a (O i)
def o2 (n : Int) (O : Int → Int) (a h : Int) : Prop := ∃ i, 0 ≤ i ∧ i < n ∧ bit (O i) h = true ∧ o1 n O (dif a (O i))
theorem o1_iff {ρ tm : Rw} {n : Int} {O : Int → Int} (hO : OF ρ tm n O) {a : Int} (a0 : 0 ≤ a) (an : ¬ a = 0) : o1 n O a ↔ cv1 ρ tm a := by
  constructor
  · rintro ⟨i, i0, i1, i2⟩; exact ⟨O i, hO.1 i i0 i1, i2⟩
  · rintro ⟨e, e1, e2⟩
    obtain ⟨x, x0, x1⟩ := nz_any a0 an
    obtain ⟨i, i0, i1, i2⟩ := hO.2 e e1 (fun z => by have := e2 x x0 x1; rw [z, bit_0] at this; exact Bool.noConfusion this)
    exact ⟨i, i0, i1, fun j j0 j1 => i2 j j0 (e2 j j0 j1)⟩
theorem o2_iff {ρ tm : Rw} (hV : VR ρ) {n : Int} {O : Int → Int} (hO : OF ρ tm n O) {a h : Int} (a0 : 0 ≤ a) (a1 : a < 1048576) (hh : 0 ≤ h) (hl : bit a h = true) (hno : ¬ cv1 ρ tm a) : o2 n O a h ↔ cv2 ρ tm a := by
  have hd : ∀ i, 0 ≤ i → i < n → ¬ dif a (O i) = 0 := fun i i0 i1 z => by
    have hb := cvE_bd hV (hO.1 i i0 i1)
    exact hno ⟨O i, hO.1 i i0 i1, (dif_0 a0 a1 hb.1).1 z⟩
  constructor
  · rintro ⟨i, i0, i1, i2, i3⟩
    have hb := cvE_bd hV (hO.1 i i0 i1)
    have hdb := dif_bd a0 a1 hb.1
    obtain ⟨e, e1, e2⟩ := (o1_iff hO hdb.1 (hd i i0 i1)).1 i3
    refine ⟨O i, e, hO.1 i i0 i1, e1, fun j j0 j1 => ?_⟩
    by_cases z : bit (O i) j = true
    · exact Or.inl z
    · exact Or.inr (e2 j j0 ((dif_bit a0 a1 hb.1).2 ⟨j1, z⟩))
  · have half : ∀ e1 e2, cvE ρ tm e1 → cvE ρ tm e2 → (∀ i, 0 ≤ i → bit a i = true → bit e1 i = true ∨ bit e2 i = true) → bit e1 h = true → o2 n O a h := by
      intro e1 e2 c1 c2 hall h1
      obtain ⟨i, i0, i1, i2⟩ := hO.2 e1 c1 (fun z => by rw [z, bit_0] at h1; exact Bool.noConfusion h1)
      have hb := cvE_bd hV (hO.1 i i0 i1)
      have hdb := dif_bd a0 a1 hb.1
      refine ⟨i, i0, i1, i2 h hh h1, (o1_iff hO hdb.1 (hd i i0 i1)).2 ⟨e2, c2, fun j j0 j1 => ?_⟩⟩
      obtain ⟨y1, y2⟩ := (dif_bit a0 a1 hb.1).1 j1
      exact (hall j j0 y1).resolve_left (fun z => y2 (i2 j j0 z))
    rintro ⟨e1, e2, c1, c2, hall⟩
    rcases hall h hh hl with z | z
    · exact half e1 e2 c1 c2 hall z
    · exact half e2 e1 c2 c1 (fun i i0 i1 => (hall i i0 i1).symm) z
theorem o3_iff {ρ tm : Rw} (hV : VR ρ) {n : Int} {O : Int → Int} (hO : OF ρ tm n O) {a h : Int} (a0 : 0 ≤ a) (a1 : a < 1048576) (hh : 0 ≤ h) (hl : bit a h = true) (hno : ¬ cv1 ρ tm a) (hno2 : ¬ cv2 ρ tm a) : (∃ i, 0 ≤ i ∧ i < n ∧ bit (O i) h = true ∧ ∃ h', lowb (dif a (O i)) h' ∧ o2 n O (dif a (O i)) h') ↔ cv3 ρ tm a := by
  have hd : ∀ i, 0 ≤ i → i < n → ¬ dif a (O i) = 0 ∧ ¬ cv1 ρ tm (dif a (O i)) := fun i i0 i1 => by
    have hb := cvE_bd hV (hO.1 i i0 i1)
    refine ⟨fun z => hno ⟨O i, hO.1 i i0 i1, (dif_0 a0 a1 hb.1).1 z⟩, ?_⟩
    rintro ⟨e, e1, e2⟩
    refine hno2 ⟨O i, e, hO.1 i i0 i1, e1, fun j j0 j1 => ?_⟩
    by_cases z : bit (O i) j = true
    · exact Or.inl z
    · exact Or.inr (e2 j j0 ((dif_bit a0 a1 hb.1).2 ⟨j1, z⟩))
  constructor
  · rintro ⟨i, i0, i1, i2, h', l', i3⟩
    have hb := cvE_bd hV (hO.1 i i0 i1)
    have hdb := dif_bd a0 a1 hb.1
    obtain ⟨e2, e3, c2, c3, hall⟩ := (o2_iff hV hO hdb.1 hdb.2 l'.1 l'.2.1 (hd i i0 i1).2).1 i3
    refine ⟨O i, e2, e3, hO.1 i i0 i1, c2, c3, fun j j0 j1 => ?_⟩
    by_cases z : bit (O i) j = true
    · exact Or.inl z
    · exact Or.inr (hall j j0 ((dif_bit a0 a1 hb.1).2 ⟨j1, z⟩))
  · have third : ∀ e1 e2 e3, cvE ρ tm e1 → cvE ρ tm e2 → cvE ρ tm e3 → (∀ i, 0 ≤ i → bit a i = true → bit e1 i = true ∨ bit e2 i = true ∨ bit e3 i = true) → bit e1 h = true → ∃ i, 0 ≤ i ∧ i < n ∧ bit (O i) h = true ∧ ∃ h', lowb (dif a (O i)) h' ∧ o2 n O (dif a (O i)) h' := by
      intro e1 e2 e3 c1 c2 c3 hall h1
      obtain ⟨i, i0, i1, i2⟩ := hO.2 e1 c1 (fun z => by rw [z, bit_0] at h1; exact Bool.noConfusion h1)
      have hb := cvE_bd hV (hO.1 i i0 i1)
      have hdb := dif_bd a0 a1 hb.1
      obtain ⟨h', l'⟩ := lowb_ex hdb.1 (hd i i0 i1).1
      refine ⟨i, i0, i1, i2 h hh h1, h', l', (o2_iff hV hO hdb.1 hdb.2 l'.1 l'.2.1 (hd i i0 i1).2).2 ⟨e2, e3, c2, c3, fun j j0 j1 => ?_⟩⟩
      obtain ⟨y1, y2⟩ := (dif_bit a0 a1 hb.1).1 j1
      exact (hall j j0 y1).resolve_left (fun z => y2 (i2 j j0 z))
    rintro ⟨e1, e2, e3, c1, c2, c3, hall⟩
    rcases hall h hh hl with z | z | z
    · exact third e1 e2 e3 c1 c2 c3 hall z
    · exact third e2 e1 e3 c2 c1 c3 (fun i i0 i1 => by rcases hall i i0 i1 with y | y | y; exact Or.inr (Or.inl y); exact Or.inl y; exact Or.inr (Or.inr y)) z
    · exact third e3 e1 e2 c3 c1 c2 (fun i i0 i1 => by rcases hall i i0 i1 with y | y | y; exact Or.inr (Or.inl y); exact Or.inr (Or.inr y); exact Or.inl y) z
theorem byOne_s {M : Mem} {n a : Int} (hn : M.1 123 4 = n) (n0 : 0 ≤ n) (n1 : n ≤ 240) (hO : ∀ i, 0 ≤ i → i < n → 0 ≤ M.1 124 i ∧ M.1 124 i < 1048576) (a0 : 0 ≤ a) (a1 : a < 1048576) : Cal Y_Cr_byOne [vR 123, vI a] M (fun r M' => r = some (vI (if dec (o1 n (M.1 124) a) = true then 1 else 0)) ∧ M' = M) := by
  refine Cal.mk (y := Y_Cr_byOne) (loc := [vR 123, vI a, vN]) G_Cr_byOne rfl (by decide) rfl rfl (Nat.le_of_ble_eq_true rfl) ?_
  simp only [r_Cr_byOne_0, r_Cr_byOne_1, true_and, and_true, or_true, true_or, or_false, false_or, false_and, and_false, not_true_eq_false, not_false_eq_true, implies_true, true_implies, false_implies]
  refine up_loop (lo := 0) (hi := n) (P := fun k => (∀ i, 0 ≤ i → i < k → ¬ ssub a (M.1 124 i)) → Run C_Cr_byOne (fun r M' => r = some (vI (if dec (o1 n (M.1 124) a) = true then 1 else 0)) ∧ M' = M) 2 [vR 123, vI a, vI k] [] M) (fun k k0 k1 ih hk => ?_) n0 (fun i x y => by omega)
  rw [r_Cr_byOne_2]
  simp only [r_Cr_byOne_3, r_Cr_byOne_4, r_Cr_byOne_7, r_Cr_byOne_10, r_Cr_byOne_11, r_Cr_byOne_12, r_Cr_byOne_15, r_Cr_byOne_16, r_Cr_byOne_17, r_Cr_byOne_18, r_Cr_byOne_19, r_Cr_byOne_20, r_Cr_byOne_23, r_Cr_byOne_24, r_Cr_byOne_25, r_Cr_byOne_28, r_Cr_byOne_31, r_Cr_byOne_32, true_and, and_true, or_true, true_or, or_false, false_or, false_and, and_false, not_true_eq_false, not_false_eq_true, implies_true, true_implies, false_implies, hn]
  refine ⟨r32 (by omega) (by omega), r32 (by omega) (by omega), fun q => ?_, fun q => ⟨k0, by omega, ?_⟩⟩
  · rw [dec_f (fun ⟨i, x, y, z⟩ => hk i x (by omega) z)]; rfl
  · have hb := hO k k0 (by omega)
    have hd := dif_bd a0 a1 hb.1
    unfold dif at hd
    refine ⟨r32 (by omega) (by omega), fun q2 => ih (by omega) (fun i x y => ?_), fun q2 => ?_⟩
    · by_cases z : i = k
      · rw [z]; exact fun w => q2 ((dif_0 a0 a1 hb.1).2 w)
      · exact hk i x (by omega)
    · rw [dec_t ⟨k, k0, by omega, (dif_0 a0 a1 hb.1).1 (Classical.not_not.1 q2)⟩]; rfl
theorem byTwo_s {M : Mem} {n a h : Int} (hn : M.1 123 4 = n) (n0 : 0 ≤ n) (n1 : n ≤ 240) (hO : ∀ i, 0 ≤ i → i < n → 0 ≤ M.1 124 i ∧ M.1 124 i < 1048576) (a0 : 0 ≤ a) (a1 : a < 1048576) (hl : lowb a h) : Cal Y_Cr_byTwo [vR 123, vI a] M (fun r M' => r = some (vI (if dec (o2 n (M.1 124) a h) = true then 1 else 0)) ∧ M' = M) := by
  refine Cal.mk (y := Y_Cr_byTwo) (loc := [vR 123, vI a, vN, vN]) G_Cr_byTwo rfl (by decide) rfl rfl (Nat.le_of_ble_eq_true rfl) ?_
  simp only [r_Cr_byTwo_0, r_Cr_byTwo_1, r_Cr_byTwo_2, r_Cr_byTwo_3, r_Cr_byTwo_4, r_Cr_byTwo_5, r_Cr_byTwo_6, true_and, and_true, or_true, true_or, or_false, false_or, false_and, and_false, not_true_eq_false, not_false_eq_true, implies_true, true_implies, false_implies, low_and a0 (show a < 1073741824 by omega) hl]
  refine up_loop (lo := 0) (hi := n) (P := fun k => (∀ i, 0 ≤ i → i < k → ¬ (bit (M.1 124 i) h = true ∧ o1 n (M.1 124) (dif a (M.1 124 i)))) → Run C_Cr_byTwo (fun r M' => r = some (vI (if dec (o2 n (M.1 124) a h) = true then 1 else 0)) ∧ M' = M) 7 [vR 123, vI a, vI (p2 h), vI k] [] M) (fun k k0 k1 ih hk => ?_) n0 (fun i x y => by omega)
  rw [r_Cr_byTwo_7]
  simp only [r_Cr_byTwo_8, r_Cr_byTwo_9, r_Cr_byTwo_12, r_Cr_byTwo_15, r_Cr_byTwo_16, r_Cr_byTwo_19, r_Cr_byTwo_20, r_Cr_byTwo_21, r_Cr_byTwo_22, r_Cr_byTwo_23, r_Cr_byTwo_26, r_Cr_byTwo_27, r_Cr_byTwo_28, r_Cr_byTwo_29, r_Cr_byTwo_32, r_Cr_byTwo_33, r_Cr_byTwo_34, r_Cr_byTwo_35, r_Cr_byTwo_36, r_Cr_byTwo_37, r_Cr_byTwo_40, r_Cr_byTwo_43, r_Cr_byTwo_44, r_Cr_byTwo_45, r_Cr_byTwo_48, r_Cr_byTwo_51, r_Cr_byTwo_52, true_and, and_true, or_true, true_or, or_false, false_or, false_and, and_false, not_true_eq_false, not_false_eq_true, implies_true, true_implies, false_implies, hn]
  refine ⟨r32 (by omega) (by omega), r32 (by omega) (by omega), fun q => ?_, fun q => ⟨k0, by omega, ?_⟩⟩
  · rw [dec_f (fun ⟨i, x, y, z⟩ => hk i x (by omega) z)]; rfl
  · have hb := hO k k0 (by omega)
    have hd := dif_bd a0 a1 hb.1
    have ha := iand_bd (a := M.1 124 k) (b := p2 h) hb.1 (by omega) (by have := p2_pos h; omega)
    have hbit := and_p2 (a := M.1 124 k) hb.1 (by omega) hl.1
    have skip : ¬ (bit (M.1 124 k) h = true ∧ o1 n (M.1 124) (dif a (M.1 124 k))) → Run C_Cr_byTwo (fun r M' => r = some (vI (if dec (o2 n (M.1 124) a h) = true then 1 else 0)) ∧ M' = M) 7 [vR 123, vI a, vI (p2 h), vI (k + 1)] [] M := fun z => ih (by omega) (fun i x y => by
      by_cases w : i = k
      · rw [w]; exact z
      · exact hk i x (by omega))
    refine ⟨r32 (by omega) (by omega), fun q2 => skip (fun z => hbit.2 z.1 q2), fun q2 => ⟨k0, by omega, ?_⟩⟩
    rw [show iand a (ixor (M.1 124 k) (-1)) = dif a (M.1 124 k) from rfl]
    refine (byOne_s hn n0 n1 hO hd.1 hd.2).Be (fun q3 => ?_) (fun q3 => skip (fun z => q3 (dec_t z.2)))
    rw [dec_t ⟨k, k0, by omega, hbit.1 q2, dec_iff.1 q3⟩]; exact ⟨rfl, rfl⟩
theorem byThree_s {M : Mem} {n a h : Int} (hn : M.1 123 4 = n) (n0 : 0 ≤ n) (n1 : n ≤ 240) (hO : ∀ i, 0 ≤ i → i < n → 0 ≤ M.1 124 i ∧ M.1 124 i < 1048576) (a0 : 0 ≤ a) (a1 : a < 1048576) (hl : lowb a h) (hnz : ∀ i, 0 ≤ i → i < n → ¬ dif a (M.1 124 i) = 0) : Cal Y_Cr_byThree [vR 123, vI a] M (fun r M' => r = some (vI (if dec (∃ i, 0 ≤ i ∧ i < n ∧ bit (M.1 124 i) h = true ∧ ∃ h', lowb (dif a (M.1 124 i)) h' ∧ o2 n (M.1 124) (dif a (M.1 124 i)) h') = true then 1 else 0)) ∧ M' = M) := by
  refine Cal.mk (y := Y_Cr_byThree) (loc := [vR 123, vI a, vN, vN]) G_Cr_byThree rfl (by decide) rfl rfl (Nat.le_of_ble_eq_true rfl) ?_
  simp only [r_Cr_byThree_0, r_Cr_byThree_1, r_Cr_byThree_2, r_Cr_byThree_3, r_Cr_byThree_4, r_Cr_byThree_5, r_Cr_byThree_6, true_and, and_true, or_true, true_or, or_false, false_or, false_and, and_false, not_true_eq_false, not_false_eq_true, implies_true, true_implies, false_implies, low_and a0 (show a < 1073741824 by omega) hl]
  refine up_loop (lo := 0) (hi := n) (P := fun k => (∀ i, 0 ≤ i → i < k → ¬ (bit (M.1 124 i) h = true ∧ ∃ h', lowb (dif a (M.1 124 i)) h' ∧ o2 n (M.1 124) (dif a (M.1 124 i)) h')) → Run C_Cr_byThree (fun r M' => r = some (vI (if dec (∃ i, 0 ≤ i ∧ i < n ∧ bit (M.1 124 i) h = true ∧ ∃ h', lowb (dif a (M.1 124 i)) h' ∧ o2 n (M.1 124) (dif a (M.1 124 i)) h') = true then 1 else 0)) ∧ M' = M) 7 [vR 123, vI a, vI (p2 h), vI k] [] M) (fun k k0 k1 ih hk => ?_) n0 (fun i x y => by omega)
  rw [r_Cr_byThree_7]
  simp only [r_Cr_byThree_8, r_Cr_byThree_9, r_Cr_byThree_12, r_Cr_byThree_15, r_Cr_byThree_16, r_Cr_byThree_19, r_Cr_byThree_20, r_Cr_byThree_21, r_Cr_byThree_22, r_Cr_byThree_23, r_Cr_byThree_26, r_Cr_byThree_27, r_Cr_byThree_28, r_Cr_byThree_29, r_Cr_byThree_32, r_Cr_byThree_33, r_Cr_byThree_34, r_Cr_byThree_35, r_Cr_byThree_36, r_Cr_byThree_37, r_Cr_byThree_40, r_Cr_byThree_43, r_Cr_byThree_44, r_Cr_byThree_45, r_Cr_byThree_48, r_Cr_byThree_51, r_Cr_byThree_52, true_and, and_true, or_true, true_or, or_false, false_or, false_and, and_false, not_true_eq_false, not_false_eq_true, implies_true, true_implies, false_implies, hn]
  refine ⟨r32 (by omega) (by omega), r32 (by omega) (by omega), fun q => ?_, fun q => ⟨k0, by omega, ?_⟩⟩
  · rw [dec_f (fun ⟨i, x, y, z⟩ => hk i x (by omega) z)]; rfl
  · have hb := hO k k0 (by omega)
    have hd := dif_bd a0 a1 hb.1
    have ha := iand_bd (a := M.1 124 k) (b := p2 h) hb.1 (by omega) (by have := p2_pos h; omega)
    have hbit := and_p2 (a := M.1 124 k) hb.1 (by omega) hl.1
    have skip : ¬ (bit (M.1 124 k) h = true ∧ ∃ h', lowb (dif a (M.1 124 k)) h' ∧ o2 n (M.1 124) (dif a (M.1 124 k)) h') → Run C_Cr_byThree (fun r M' => r = some (vI (if dec (∃ i, 0 ≤ i ∧ i < n ∧ bit (M.1 124 i) h = true ∧ ∃ h', lowb (dif a (M.1 124 i)) h' ∧ o2 n (M.1 124) (dif a (M.1 124 i)) h') = true then 1 else 0)) ∧ M' = M) 7 [vR 123, vI a, vI (p2 h), vI (k + 1)] [] M := fun z => ih (by omega) (fun i x y => by
      by_cases w : i = k
      · rw [w]; exact z
      · exact hk i x (by omega))
    refine ⟨r32 (by omega) (by omega), fun q2 => skip (fun z => hbit.2 z.1 q2), fun q2 => ⟨k0, by omega, ?_⟩⟩
    rw [show iand a (ixor (M.1 124 k) (-1)) = dif a (M.1 124 k) from rfl]
    obtain ⟨h', l'⟩ := lowb_ex hd.1 (hnz k k0 (by omega))
    refine (byTwo_s hn n0 n1 hO hd.1 hd.2 l').Be (fun q3 => ?_) (fun q3 => skip (fun z => q3 (dec_t ?_)))
    · rw [dec_t ⟨k, k0, by omega, hbit.1 q2, h', l', dec_iff.1 q3⟩]; exact ⟨rfl, rfl⟩
    · obtain ⟨-, h2, l2, z2⟩ := z
      have : h2 = h' := by
        rcases Int.lt_trichotomy h2 h' with y | y | y
        · have := l'.2.2 h2 l2.1 y; rw [l2.2.1] at this; exact Bool.noConfusion this
        · exact y
        · have := l2.2.2 h' l'.1 y; rw [l'.2.1] at this; exact Bool.noConfusion this
      rw [← this]; exact z2
