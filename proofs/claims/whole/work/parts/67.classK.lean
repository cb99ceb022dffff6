/-! odds, likeliest, ranked of the class -/
def ggd (a b : Int) : Int := (Nat.gcd a.toNat b.toNat : Nat)
theorem ggd_0 {a : Int} (h : 0 ≤ a) : ggd a 0 = a := by
  unfold ggd
  rw [show (0 : Int).toNat = 0 from rfl, Nat.gcd_zero_right]; omega
theorem ggd_r {a b : Int} (ha : 0 ≤ a) (hb : 0 ≤ b) : ggd b (a % b) = ggd a b := by
  obtain ⟨x, rfl⟩ := Int.eq_ofNat_of_zero_le ha
  obtain ⟨y, rfl⟩ := Int.eq_ofNat_of_zero_le hb
  unfold ggd
  rw [← Int.natCast_emod, Int.toNat_natCast, Int.toNat_natCast, Int.toNat_natCast, Nat.gcd_comm x y, Nat.gcd_rec y x, Nat.gcd_comm]
theorem ggd_pos {a b : Int} (ha : 0 < a) : 0 < ggd a b := by
  unfold ggd
  have := Nat.gcd_pos_of_pos_left b.toNat (show 0 < a.toNat by omega)
  omega
theorem ggd_comm (a b : Int) : ggd a b = ggd b a := by unfold ggd; rw [Nat.gcd_comm]
theorem rem_half {a b : Int} (h0 : 0 < b) (h1 : b ≤ a) : 2 * (a % b) < a ∧ 0 ≤ a % b ∧ a % b < b := by
  have h2 := Int.emod_nonneg a (show b ≠ 0 by omega)
  have h3 := Int.emod_lt_of_pos a h0
  have h4 := Int.emod_add_mul_ediv a b
  have h5 : 1 ≤ a / b := by
    rcases Int.lt_or_le (a / b) 1 with q | q
    · exfalso
      have h6 : 0 ≤ a / b := Int.ediv_nonneg (by omega) (by omega)
      have h7 : a / b = 0 := by omega
      rw [h7, Int.mul_zero] at h4
      omega
    · exact q
  have h6 : b * 1 ≤ b * (a / b) := Int.mul_le_mul_of_nonneg_left h5 (by omega)
  rw [Int.mul_one] at h6
  omega
theorem greatestDivisor_s (M : Mem) {a b : Int} (b0 : 0 ≤ b) (hb : b ≤ a) (ha : a < 36028797018963968) : Cal Y_Ch_greatestDivisor [vL a, vL b] M (fun r M' => r = some (vL (ggd a b)) ∧ M' = M) := by
  have key : ∀ (n : Nat) (x y i : Int) (l9 l10 : Vl), 0 ≤ y → y ≤ x → x < p2 n → x < 36028797018963968 → 0 ≤ i → i + 2 * n ≤ 199 → Run C_Ch_greatestDivisor (fun r M' => r = some (vL (ggd x y)) ∧ M' = M) 9 [vL a, vN, vL b, vN, vL x, vN, vL y, vN, vI i, l9, l10] [] M := by
    intro n
    induction n with
    | zero =>
      intro x y i l9 l10 y0 y1 h1 h1b i0 h2
      rw [show p2 ((0 : Nat) : Int) = 1 from rfl] at h1
      rw [r_Ch_greatestDivisor_9]
      simp only [r_Ch_greatestDivisor_11, r_Ch_greatestDivisor_14, r_Ch_greatestDivisor_17, r_Ch_greatestDivisor_19, r_Ch_greatestDivisor_20, r_Ch_greatestDivisor_21, true_and, and_true, or_true, true_or, or_false, false_or, false_and, and_false, not_true_eq_false, not_false_eq_true, implies_true, true_implies, false_implies]
      refine ⟨r32 (by omega) (by omega), r32 (by decide) (by decide), fun q => by omega, fun q => ⟨r64 (by omega) (by omega), r64 (by decide) (by decide), c3_r, fun q2 => ?_, fun q2 => absurd (c3_z.2 (by omega)) q2⟩⟩
      simp only [r_Ch_greatestDivisor_45, r_Ch_greatestDivisor_47, true_and, and_true, or_true, true_or, or_false, false_or, false_and, and_false, not_true_eq_false, not_false_eq_true, implies_true, true_implies, false_implies]
      rw [show y = 0 by omega, ggd_0 (by omega)]
    | succ n ih =>
      intro x y i l9 l10 y0 y1 h1 h1b i0 h2
      have hp : p2 ((n + 1 : Nat) : Int) = 2 * p2 (n : Int) := by
        rw [show ((n + 1 : Nat) : Int) = (n : Int) + 1 by omega, p2_s (by omega)]
      rw [hp] at h1
      rw [r_Ch_greatestDivisor_9]
      simp only [r_Ch_greatestDivisor_11, r_Ch_greatestDivisor_14, r_Ch_greatestDivisor_17, r_Ch_greatestDivisor_19, r_Ch_greatestDivisor_20, r_Ch_greatestDivisor_21, r_Ch_greatestDivisor_24, r_Ch_greatestDivisor_26, r_Ch_greatestDivisor_28, r_Ch_greatestDivisor_29, r_Ch_greatestDivisor_31, r_Ch_greatestDivisor_33, r_Ch_greatestDivisor_35, r_Ch_greatestDivisor_37, r_Ch_greatestDivisor_39, r_Ch_greatestDivisor_42, true_and, and_true, or_true, true_or, or_false, false_or, false_and, and_false, not_true_eq_false, not_false_eq_true, implies_true, true_implies, false_implies]
      refine ⟨r32 (by omega) (by omega), r32 (by decide) (by decide), fun q => by omega, fun q => ⟨r64 (by omega) (by omega), r64 (by decide) (by decide), c3_r, fun q2 => ?_, fun q2 => ?_⟩⟩
      · simp only [r_Ch_greatestDivisor_45, r_Ch_greatestDivisor_47, true_and, and_true, or_true, true_or, or_false, false_or, false_and, and_false, not_true_eq_false, not_false_eq_true, implies_true, true_implies, false_implies]
        rw [show y = 0 from c3_z.1 q2, ggd_0 (by omega)]
      · have hy : ¬ y = 0 := fun z => q2 (c3_z.2 z)
        have hr := rem_half (a := x) (b := y) (by omega) y1
        refine ⟨⟨by omega, by omega, by omega, by omega⟩, ?_⟩
        rw [r_Ch_greatestDivisor_9]
        simp only [r_Ch_greatestDivisor_11, r_Ch_greatestDivisor_14, r_Ch_greatestDivisor_17, r_Ch_greatestDivisor_19, r_Ch_greatestDivisor_20, r_Ch_greatestDivisor_21, r_Ch_greatestDivisor_24, r_Ch_greatestDivisor_26, r_Ch_greatestDivisor_28, r_Ch_greatestDivisor_29, r_Ch_greatestDivisor_31, r_Ch_greatestDivisor_33, r_Ch_greatestDivisor_35, r_Ch_greatestDivisor_37, r_Ch_greatestDivisor_39, r_Ch_greatestDivisor_42, true_and, and_true, or_true, true_or, or_false, false_or, false_and, and_false, not_true_eq_false, not_false_eq_true, implies_true, true_implies, false_implies]
        rw [← ggd_r (a := x) (b := y) (by omega) y0]
        refine ⟨r32 (by omega) (by omega), r32 (by decide) (by decide), fun q => by omega, fun q => ⟨r64 (by omega) (by omega), r64 (by decide) (by decide), c3_r, fun q3 => ?_, fun q3 => ?_⟩⟩
        · simp only [r_Ch_greatestDivisor_45, r_Ch_greatestDivisor_47, true_and, and_true, or_true, true_or, or_false, false_or, false_and, and_false, not_true_eq_false, not_false_eq_true, implies_true, true_implies, false_implies]
          rw [show x % y = 0 from c3_z.1 q3, ggd_0 y0]
        · have hz : ¬ x % y = 0 := fun z => q3 (c3_z.2 z)
          have hr2 := rem_half (a := y) (b := x % y) (by omega) (by omega)
          refine ⟨⟨by omega, by omega, by omega, by omega⟩, ?_⟩
          rw [← ggd_r (a := y) (b := x % y) y0 (by omega)]
          exact ih (x % y) (y % (x % y)) (i + 1 + 1) _ _ (by omega) (by omega) (by omega) (by omega) (by omega) (by omega)
  refine Cal.mk (y := Y_Ch_greatestDivisor) (loc := [vL a, vN, vL b, vN, vN, vN, vN, vN, vN, vN, vN]) G_Ch_greatestDivisor rfl (by decide) rfl rfl (Nat.le_of_ble_eq_true rfl) ?_
  simp only [r_Ch_greatestDivisor_0, r_Ch_greatestDivisor_1, r_Ch_greatestDivisor_3, r_Ch_greatestDivisor_4, r_Ch_greatestDivisor_6, r_Ch_greatestDivisor_7, true_and, and_true, or_true, true_or, or_false, false_or, false_and, and_false, not_true_eq_false, not_false_eq_true, implies_true, true_implies, false_implies]
  exact key 55 a b 0 _ _ b0 hb (by have e : p2 ((55 : Nat) : Int) = 36028797018963968 := by decide
                                   omega) ha (by decide) (by decide)
/-- how many causes are ranked ahead of one; the cause of a rank -/
noncomputable def bfc (ρ tm : Rw) (c o : Int) : Bool := decide (sh ρ tm c < sh ρ tm o ∨ (sh ρ tm o = sh ρ tm c ∧ o < c))
noncomputable def rnk (ρ tm : Rw) (c : Int) : Int := cntI (bfc ρ tm c) (nC ρ)
theorem rnk_lt {ρ tm : Rw} (hV : VR ρ) {s o : Int} (s0 : 0 ≤ s) (s1 : s < nC ρ) (hb : bfc ρ tm o s = true) : rnk ρ tm s < rnk ρ tm o := by
  unfold bfc at hb
  rw [decide_eq_true_eq] at hb
  refine cntI_strict _ (nC_bd hV).1 (fun i a b z => ?_) ⟨s, s0, s1, ?_, ?_⟩
  · unfold bfc at z ⊢
    rw [decide_eq_true_eq] at z ⊢
    omega
  · unfold bfc; rw [decide_eq_false_iff_not]; omega
  · unfold bfc; rw [decide_eq_true_eq]; exact hb
theorem rnk_inj {ρ tm : Rw} (hV : VR ρ) {s o : Int} (s0 : 0 ≤ s) (s1 : s < nC ρ) (o0 : 0 ≤ o) (o1 : o < nC ρ) (h : rnk ρ tm s = rnk ρ tm o) : s = o := by
  apply Classical.byContradiction
  intro hne
  by_cases q : bfc ρ tm o s = true
  · have := rnk_lt hV s0 s1 q; omega
  · have q2 : bfc ρ tm s o = true := by
      unfold bfc at q ⊢
      rw [decide_eq_true_eq] at q ⊢
      omega
    have := rnk_lt hV o0 o1 q2; omega
noncomputable def rkS (ρ tm : Rw) (i c acc : Int) : Int := if rnk ρ tm c = i then c else acc
noncomputable def rkd (ρ tm : Rw) (i : Int) : Int := foI (rkS ρ tm i) (-1) (nC ρ)
theorem rkd_bd {ρ tm : Rw} (i : Int) : ∀ n, 0 ≤ n → -1 ≤ foI (rkS ρ tm i) (-1) n ∧ foI (rkS ρ tm i) (-1) n < n := by
  refine int_ind (by rw [foI_0]; decide) (fun n hn ih => ?_)
  rw [foI_s _ _ hn]
  unfold rkS at ih ⊢
  split <;> omega
theorem causesAhead_s {ρ tm : Rw} {M : Mem} (hV : VR ρ) (hm : TM tm) (hn : M.1 97 0 = nC ρ) (hw : CW ρ tm M) {c : Int} (c0 : 0 ≤ c) (c1 : c < nC ρ) : Cal Y_Ch_causesAhead [vR 118, vI c] M (fun r M' => r = some (vI (rnk ρ tm c)) ∧ M' = M) := by
  have hc := nC_bd hV
  have hb := sh_bd hV hm c0 c1
  refine Cal.mk (y := Y_Ch_causesAhead) (loc := [vR 118, vI c, vN, vN]) G_Ch_causesAhead rfl (by decide) rfl rfl (Nat.le_of_ble_eq_true rfl) ?_
  simp only [r_Ch_causesAhead_0, r_Ch_causesAhead_1, r_Ch_causesAhead_2, r_Ch_causesAhead_3, true_and, and_true, or_true, true_or, or_false, false_or, false_and, and_false, not_true_eq_false, not_false_eq_true, implies_true, true_implies, false_implies]
  refine up_loop (lo := 0) (hi := nC ρ) (P := fun o => Run C_Ch_causesAhead (fun r M' => r = some (vI (rnk ρ tm c)) ∧ M' = M) 4 [vR 118, vI c, vI (cntI (bfc ρ tm c) o), vI o] [] M) (fun o o0 o1 ih => ?_) hc.1
  rw [r_Ch_causesAhead_4]
  simp only [r_Ch_causesAhead_5, r_Ch_causesAhead_6, r_Ch_causesAhead_9, r_Ch_causesAhead_12, r_Ch_causesAhead_15, r_Ch_causesAhead_18, r_Ch_causesAhead_19, r_Ch_causesAhead_20, r_Ch_causesAhead_23, r_Ch_causesAhead_24, r_Ch_causesAhead_25, r_Ch_causesAhead_26, r_Ch_causesAhead_29, r_Ch_causesAhead_30, r_Ch_causesAhead_31, r_Ch_causesAhead_32, r_Ch_causesAhead_35, r_Ch_causesAhead_36, r_Ch_causesAhead_39, r_Ch_causesAhead_40, r_Ch_causesAhead_41, r_Ch_causesAhead_42, r_Ch_causesAhead_45, r_Ch_causesAhead_46, r_Ch_causesAhead_47, r_Ch_causesAhead_48, r_Ch_causesAhead_51, r_Ch_causesAhead_52, r_Ch_causesAhead_53, r_Ch_causesAhead_56, r_Ch_causesAhead_57, r_Ch_causesAhead_60, r_Ch_causesAhead_61, r_Ch_causesAhead_62, r_Ch_causesAhead_63, r_Ch_causesAhead_66, r_Ch_causesAhead_69, r_Ch_causesAhead_70, true_and, and_true, or_true, true_or, or_false, false_or, false_and, and_false, not_true_eq_false, not_false_eq_true, implies_true, true_implies, false_implies, hn]
  refine ⟨r32 (by omega) (by omega), r32 (by omega) (by omega), fun q => ?_, fun q => ?_⟩
  · rw [show o = nC ρ by omega]; rfl
  · have ho := sh_bd hV hm o0 (by omega)
    have hih := ih (by omega)
    rw [cntI_s _ o0] at hih
    have f1 : (sh ρ tm c < sh ρ tm o ∨ (sh ρ tm o = sh ρ tm c ∧ o < c)) → (if bfc ρ tm c o = true then (1 : Int) else 0) = 1 := fun z => if_pos (decide_eq_true z)
    have f0 : ¬ (sh ρ tm c < sh ρ tm o ∨ (sh ρ tm o = sh ρ tm c ∧ o < c)) → (if bfc ρ tm c o = true then (1 : Int) else 0) = 0 := fun z => if_neg (by unfold bfc; rw [decide_eq_true_eq]; exact z)
    rw [hw.2.2 c c0 c1, hw.2.2 o o0 (by omega)]
    refine ⟨o0, by omega, c0, by omega, r64 (by omega) (by omega), r64 (by omega) (by omega), c3_r, fun q2 => ?_, fun q2 => ⟨o0, by omega, c0, by omega, r64 (by omega) (by omega), r64 (by omega) (by omega), c3_r, fun q3 => ?_, fun q3 => ⟨r32 (by omega) (by omega), r32 (by omega) (by omega), fun q4 => ?_, fun q4 => ?_⟩⟩⟩
    · rw [c3_p] at q2
      rw [f1 (by omega)] at hih; exact hih
    · rw [c3_p] at q2
      rw [c3_z] at q3
      rw [f0 (by omega)] at hih; exact hih
    · rw [c3_p] at q2
      rw [f0 (by omega)] at hih; exact hih
    · rw [c3_p] at q2
      rw [c3_z] at q3
      rw [f1 (by omega)] at hih; exact hih
theorem atRank_s {ρ tm : Rw} {M : Mem} (hV : VR ρ) (hm : TM tm) (hn : M.1 97 0 = nC ρ) (hw : CW ρ tm M) {i : Int} (hi : R32 i) : Cal Y_Ch_atRank [vR 118, vI i] M (fun r M' => r = some (vI (rkd ρ tm i)) ∧ M' = M) := by
  have hc := nC_bd hV
  refine Cal.mk (y := Y_Ch_atRank) (loc := [vR 118, vI i, vN]) G_Ch_atRank rfl (by decide) rfl rfl (Nat.le_of_ble_eq_true rfl) ?_
  simp only [r_Ch_atRank_0, r_Ch_atRank_1, true_and, and_true, or_true, true_or, or_false, false_or, false_and, and_false, not_true_eq_false, not_false_eq_true, implies_true, true_implies, false_implies]
  refine up_loop (lo := 0) (hi := nC ρ) (P := fun c => foI (rkS ρ tm i) (-1) c = -1 → Run C_Ch_atRank (fun r M' => r = some (vI (rkd ρ tm i)) ∧ M' = M) 2 [vR 118, vI i, vI c] [] M) (fun c c0 c1 ih hz => ?_) hc.1 rfl
  rw [r_Ch_atRank_2]
  simp only [r_Ch_atRank_3, r_Ch_atRank_4, r_Ch_atRank_7, r_Ch_atRank_10, r_Ch_atRank_13, r_Ch_atRank_16, r_Ch_atRank_17, r_Ch_atRank_18, r_Ch_atRank_21, r_Ch_atRank_22, r_Ch_atRank_25, r_Ch_atRank_26, r_Ch_atRank_27, r_Ch_atRank_30, r_Ch_atRank_33, r_Ch_atRank_34, true_and, and_true, or_true, true_or, or_false, false_or, false_and, and_false, not_true_eq_false, not_false_eq_true, implies_true, true_implies, false_implies, hn]
  refine ⟨r32 (by omega) (by omega), r32 (by omega) (by omega), fun q => ?_, fun q => ?_⟩
  · rw [show c = nC ρ by omega] at hz; unfold rkd; rw [hz]
  · have ha := cntI_bd (bfc ρ tm c) hc.1
    refine Cal.I (causesAhead_s hV hm hn hw c0 (by omega)) ⟨by unfold rnk; exact r32 (by omega) (by omega), hi, fun q3 => ih (by omega) (by rw [foI_s _ _ c0, hz]; exact if_neg q3), fun q3 => ?_⟩
    have q4 : rnk ρ tm c = i := Classical.not_not.1 q3
    have e1 : foI (rkS ρ tm i) (-1) (c + 1) = c := by rw [foI_s _ _ c0, hz]; exact if_pos q4
    have e2 : rkd ρ tm i = c := by
      unfold rkd
      rw [foI_stop (m := c + 1) (by omega) (nC ρ) (by omega) (fun k a b d => ?_)]
      · exact e1
      · unfold rkS
        rw [if_neg]
        intro y
        have := rnk_inj (tm := tm) hV (s := k) (o := c) (by omega) d c0 (by omega) (by omega)
        omega
    rw [e2]; exact ⟨rfl, rfl⟩
theorem howMany_s {ρ tm : Rw} {M : Mem} (hV : VR ρ) (hm : TM tm) (hn : M.1 97 0 = nC ρ) (hw : CW ρ tm M) {c : Int} (c0 : 0 ≤ c) (c1 : c < nC ρ) : Cal Y_Ch_howMany [vR 118, vL (sh ρ tm c)] M (fun r M' => r = some (vI (cntI (fun o => decide (sh ρ tm o = sh ρ tm c)) (nC ρ))) ∧ M' = M) := by
  have hc := nC_bd hV
  have hb := sh_bd hV hm c0 c1
  refine Cal.mk (y := Y_Ch_howMany) (loc := [vR 118, vL (sh ρ tm c), vN, vN, vN]) G_Ch_howMany rfl (by decide) rfl rfl (Nat.le_of_ble_eq_true rfl) ?_
  simp only [r_Ch_howMany_0, r_Ch_howMany_1, r_Ch_howMany_2, r_Ch_howMany_3, true_and, and_true, or_true, true_or, or_false, false_or, false_and, and_false, not_true_eq_false, not_false_eq_true, implies_true, true_implies, false_implies]
  refine up_loop (lo := 0) (hi := nC ρ) (P := fun o => Run C_Ch_howMany (fun r M' => r = some (vI (cntI (fun o => decide (sh ρ tm o = sh ρ tm c)) (nC ρ))) ∧ M' = M) 5 [vR 118, vL (sh ρ tm c), vN, vI (cntI (fun o => decide (sh ρ tm o = sh ρ tm c)) o), vI o] [] M) (fun o o0 o1 ih => ?_) hc.1
  rw [r_Ch_howMany_5]
  simp only [r_Ch_howMany_7, r_Ch_howMany_8, r_Ch_howMany_11, r_Ch_howMany_14, r_Ch_howMany_17, r_Ch_howMany_20, r_Ch_howMany_21, r_Ch_howMany_22, r_Ch_howMany_25, r_Ch_howMany_27, r_Ch_howMany_28, r_Ch_howMany_29, r_Ch_howMany_30, r_Ch_howMany_33, r_Ch_howMany_34, r_Ch_howMany_37, r_Ch_howMany_38, r_Ch_howMany_39, r_Ch_howMany_40, r_Ch_howMany_43, r_Ch_howMany_46, r_Ch_howMany_47, true_and, and_true, or_true, true_or, or_false, false_or, false_and, and_false, not_true_eq_false, not_false_eq_true, implies_true, true_implies, false_implies, hn]
  refine ⟨r32 (by omega) (by omega), r32 (by omega) (by omega), fun q => ?_, fun q => ⟨o0, by omega, ?_⟩⟩
  · rw [show o = nC ρ by omega]
  · have ho := sh_bd hV hm o0 (by omega)
    have hih := ih (by omega)
    rw [cntI_s _ o0] at hih
    rw [hw.2.2 o o0 (by omega)]
    refine ⟨r64 (by omega) (by omega), r64 (by omega) (by omega), c3_r, fun q2 => ?_, fun q2 => ?_⟩
    · rw [c3_z] at q2
      rw [if_neg (by rw [decide_eq_true_eq]; exact q2)] at hih; exact hih
    · rw [c3_z] at q2
      rw [if_pos (by rw [decide_eq_true_eq]; exact Classical.not_not.1 q2)] at hih; exact hih
theorem XC.wg {σ : St} (hV : VS σ) {M : Mem} (h : XI σ M) : ∀ c, 0 ≤ c → c < nC σ.1 → M.1 100 c = wgt σ.1 c := fun c a b => (h.rc.ca (VR_tau hV.1) a (by rw [nC_t hV]; exact b)).2.2.2.2.2.2
theorem X_weigh {σ : St} (hV : VS σ) {M : Mem} (h : XC σ M) : Cal Y_Ch_weigh [vR 118] M (fun r M' => r = none ∧ XC σ M' ∧ CW σ.1 σ.2.2.2.1 M' ∧ Kp (fun c => c = 118 ∨ c = 119) M M') := by
  refine (weigh_s (h.dx hV) hV.tm h.1.2.2.2.2.2.1 (XC.wg hV h.1)).mono ?_
  rintro _ M' ⟨rfl, a, b⟩
  exact ⟨rfl, h.kp b (fun c a => by omega) (fun c a b => by omega) (fun c a b => by omega), a, b⟩
noncomputable def q_ranked (ρ tm : Rw) (i : Int) : Int := if i < 0 ∨ nC ρ ≤ i then -1 else rkd ρ tm i
theorem X_ranked {σ : St} {M : Mem} (h : XI σ M) (hV : VS σ) {i : Int} (hi : R32 i) : Cal Y_CB_ranked [vR 0, vI i] M (Qx (q_ranked σ.1 σ.2.2.2.1 i, σ) M) := by
  have hc := nC_bd hV.1
  have e0 := XI_nC hV.1 h
  refine Cal.mk (y := Y_CB_ranked) (loc := [vR 0, vI i]) G_CB_ranked rfl (by decide) rfl rfl (Nat.le_of_ble_eq_true rfl) ?_
  simp only [r_CB_ranked_0, r_CB_ranked_1, r_CB_ranked_2, r_CB_ranked_5, r_CB_ranked_8, r_CB_ranked_11, r_CB_ranked_14, r_CB_ranked_15, r_CB_ranked_16, r_CB_ranked_17, r_CB_ranked_20, true_and, and_true, or_true, true_or, or_false, false_or, false_and, and_false, not_true_eq_false, not_false_eq_true, implies_true, true_implies, false_implies, e0]
  refine out_eq hi (r32 (by omega) (by omega)) (fun q => Qx.q h Kp.rf (by unfold q_ranked; rw [if_pos (by omega)])) (fun q => ?_)
  refine (X_renew hV h).mono ?_
  rintro _ M1 ⟨rfl, h1, k1⟩
  simp only [r_CB_ranked_23, r_CB_ranked_24, r_CB_ranked_27, true_and, and_true, or_true, true_or, or_false, false_or, false_and, and_false, not_true_eq_false, not_false_eq_true, implies_true, true_implies, false_implies]
  refine (X_weigh hV h1).mono ?_
  rintro _ M2 ⟨rfl, h2, w2, k2⟩
  simp only [r_CB_ranked_30, r_CB_ranked_31, r_CB_ranked_34, r_CB_ranked_35, r_CB_ranked_38, true_and, and_true, or_true, true_or, or_false, false_or, false_and, and_false, not_true_eq_false, not_false_eq_true, implies_true, true_implies, false_implies]
  exact Cal.I (atRank_s hV.1 hV.tm (XI_nC hV.1 h2.1) w2 hi) (Qx.q h2.1 ((k1.x (fun c z => by omega)).trans (k2.x (fun c z => by omega))) (by unfold q_ranked; rw [if_neg (by omega)]))
noncomputable def q_likeliest (ρ tm : Rw) (w : Int) : Int := if nC ρ = 0 ∨ (w < 0 ∨ 3 ≤ w) then -1 else if w = 0 ∨ rkd ρ tm 0 < 0 then rkd ρ tm 0 else if w = 1 then cntI (fun o => decide (sh ρ tm o = sh ρ tm (rkd ρ tm 0))) (nC ρ) else if sh ρ tm (rkd ρ tm 0) < nt ρ tm then 1 else 0
theorem X_likeliest {σ : St} {M : Mem} (h : XI σ M) (hV : VS σ) {w : Int} (hw : R32 w) : Cal Y_CB_likeliest [vR 0, vI w] M (Qx (q_likeliest σ.1 σ.2.2.2.1 w, σ) M) := by
  have hc := nC_bd hV.1
  have e0 := XI_nC hV.1 h
  generalize htm : σ.2.2.2.1 = tm
  have hm : TM tm := by rw [← htm]; exact hV.tm
  have hn := nt_bd hV.1 hm
  have hr : -1 ≤ rkd σ.1 tm 0 ∧ rkd σ.1 tm 0 < nC σ.1 := rkd_bd 0 (nC σ.1) hc.1
  refine Cal.mk (y := Y_CB_likeliest) (loc := [vR 0, vI w, vN, vN, vN]) G_CB_likeliest rfl (by decide) rfl rfl (Nat.le_of_ble_eq_true rfl) ?_
  simp only [r_CB_likeliest_0, r_CB_likeliest_1, r_CB_likeliest_4, r_CB_likeliest_7, r_CB_likeliest_10, r_CB_likeliest_11, r_CB_likeliest_12, r_CB_likeliest_15, r_CB_likeliest_18, r_CB_likeliest_19, r_CB_likeliest_20, r_CB_likeliest_21, r_CB_likeliest_24, true_and, and_true, or_true, true_or, or_false, false_or, false_and, and_false, not_true_eq_false, not_false_eq_true, implies_true, true_implies, false_implies, e0]
  refine ⟨r32 (by omega) (by omega), fun q => Qx.q h Kp.rf (by unfold q_likeliest; rw [if_pos (Or.inl q)]), fun q => ?_⟩
  refine out_eq hw R3 (fun q2 => Qx.q h Kp.rf (by unfold q_likeliest; rw [if_pos (Or.inr q2)])) (fun q2 => ?_)
  have ee : q_likeliest σ.1 tm w = if w = 0 ∨ rkd σ.1 tm 0 < 0 then rkd σ.1 tm 0 else if w = 1 then cntI (fun o => decide (sh σ.1 tm o = sh σ.1 tm (rkd σ.1 tm 0))) (nC σ.1) else if sh σ.1 tm (rkd σ.1 tm 0) < nt σ.1 tm then 1 else 0 := if_neg (by omega)
  refine (X_renew hV h).mono ?_
  rintro _ M1 ⟨rfl, h1, k1⟩
  simp only [r_CB_likeliest_27, r_CB_likeliest_28, r_CB_likeliest_31, true_and, and_true, or_true, true_or, or_false, false_or, false_and, and_false, not_true_eq_false, not_false_eq_true, implies_true, true_implies, false_implies]
  refine (X_weigh hV h1).mono ?_
  rintro _ M2 ⟨rfl, h2, w2, k2⟩
  rw [htm] at w2
  have kk := (k1.x (fun c z => by omega)).trans (k2.x (fun c z => by omega))
  simp only [r_CB_likeliest_34, r_CB_likeliest_35, r_CB_likeliest_38, r_CB_likeliest_39, true_and, and_true, or_true, true_or, or_false, false_or, false_and, and_false, not_true_eq_false, not_false_eq_true, implies_true, true_implies, false_implies]
  refine Cal.I (atRank_s hV.1 hm (XI_nC hV.1 h2.1) w2 (r32 (by decide) (by decide))) ?_
  simp only [r_CB_likeliest_42, r_CB_likeliest_43, r_CB_likeliest_44, r_CB_likeliest_47, r_CB_likeliest_48, r_CB_likeliest_49, true_and, and_true, or_true, true_or, or_false, false_or, false_and, and_false, not_true_eq_false, not_false_eq_true, implies_true, true_implies, false_implies]
  refine ⟨hw, fun q3 => ?_, fun q3 => ?_⟩
  · simp only [r_CB_likeliest_55, r_CB_likeliest_56, true_and, and_true, or_true, true_or, or_false, false_or, false_and, and_false, not_true_eq_false, not_false_eq_true, implies_true, true_implies, false_implies]
    exact Qx.q h2.1 kk (by rw [ee, if_pos (Or.inl q3)])
  · simp only [r_CB_likeliest_52, r_CB_likeliest_55, r_CB_likeliest_56, r_CB_likeliest_57, r_CB_likeliest_58, r_CB_likeliest_61, r_CB_likeliest_64, r_CB_likeliest_65, r_CB_likeliest_66, r_CB_likeliest_67, r_CB_likeliest_68, r_CB_likeliest_69, r_CB_likeliest_72, r_CB_likeliest_73, r_CB_likeliest_76, r_CB_likeliest_77, r_CB_likeliest_80, r_CB_likeliest_83, r_CB_likeliest_84, r_CB_likeliest_87, r_CB_likeliest_90, r_CB_likeliest_91, r_CB_likeliest_92, r_CB_likeliest_95, r_CB_likeliest_96, r_CB_likeliest_99, r_CB_likeliest_100, true_and, and_true, or_true, true_or, or_false, false_or, false_and, and_false, not_true_eq_false, not_false_eq_true, implies_true, true_implies, false_implies]
    refine (noSuchCause_s hV h2.1 (r32 (by omega) (by omega))).Be (fun q4 => Qx.q h2.1 kk (by rw [ee, if_pos (Or.inr (by omega))])) (fun q4 => ⟨by omega, by omega, ?_⟩)
    have hb := sh_bd hV.1 hm (c := rkd σ.1 tm 0) (by omega) (by omega)
    rw [if_neg (by omega)] at ee
    rw [w2.2.2 _ (by omega) (by omega), w2.1]
    refine ⟨hw, r32 (by decide) (by decide), fun q5 => ⟨r64 (by omega) (by omega), r64 (by omega) (by omega), c3_r, fun q6 => Qx.q h2.1 kk ?_, fun q6 => Qx.q h2.1 kk ?_⟩, fun q5 => ?_⟩
    · have q7 : ¬ sh σ.1 tm (rkd σ.1 tm 0) < nt σ.1 tm := fun z => by have := c3_p.2 z; omega
      rw [ee, if_neg (by omega), if_neg q7]
    · have q7 : sh σ.1 tm (rkd σ.1 tm 0) < nt σ.1 tm := c3_p.1 (by omega)
      rw [ee, if_neg (by omega), if_pos q7]
    · exact Cal.I (howMany_s hV.1 hm (XI_nC hV.1 h2.1) w2 (by omega) (by omega)) (Qx.q h2.1 kk (by rw [ee, if_pos (by omega)]))
noncomputable def q_odds (ρ tm : Rw) (c w : Int) : Int := if (¬ c = -1 ∧ (c < 0 ∨ nC ρ ≤ c)) ∨ (w < 0 ∨ 2 ≤ w) then -1 else if tot ρ tm = 0 then w else (if w = 0 then (if c = -1 then nt ρ tm else sh ρ tm c) else tot ρ tm) / ggd (tot ρ tm) (if c = -1 then nt ρ tm else sh ρ tm c)
def QxL (s : Int × St) (M : Mem) : Option Vl → Mem → Prop := fun v M' => v = some (vL s.1) ∧ XI s.2 M' ∧ Kp KX M M'
theorem QxL.q {σ : St} {M M' : Mem} {x q : Int} (h : XI σ M') (hk : Kp KX M M') (e : x = q) : QxL (q, σ) M (some (vL x)) M' := ⟨by rw [e], h, hk⟩
theorem X_odds {σ : St} {M : Mem} (h : XI σ M) (hV : VS σ) {c w : Int} (hc : R32 c) (hw : R32 w) : Cal Y_CB_odds [vR 0, vI c, vI w] M (QxL (q_odds σ.1 σ.2.2.2.1 c w, σ) M) := by
  have hn := nC_bd hV.1
  generalize htm : σ.2.2.2.1 = tm
  have hm : TM tm := by rw [← htm]; exact hV.tm
  have hnt := nt_bd hV.1 hm
  have ht := tot_bd hV.1 hm
  have hnl : nt σ.1 tm ≤ tot σ.1 tm := by
    have h2 := sumI_bd (f := sh σ.1 tm) (a := 0) (b := 2533274790395904) (nC σ.1) hn.1 (fun i a b => sh_bd hV.1 hm a b)
    unfold tot; omega
  have no : ((¬ c = -1 ∧ (c < 0 ∨ nC σ.1 ≤ c)) ∨ (w < 0 ∨ 2 ≤ w)) → QxL (q_odds σ.1 tm c w, σ) M (some (vL (-1))) M := fun z => QxL.q h Kp.rf (by unfold q_odds; rw [if_pos z])
  have go : ¬ (¬ c = -1 ∧ (c < 0 ∨ nC σ.1 ≤ c)) → Run C_CB_odds (QxL (q_odds σ.1 tm c w, σ) M) 13 [vR 0, vI c, vI w, vN, vN, vN, vN] [] M := by
    intro q
    simp only [r_CB_odds_13, r_CB_odds_14, r_CB_odds_15, r_CB_odds_18, r_CB_odds_21, r_CB_odds_24, r_CB_odds_25, r_CB_odds_26, r_CB_odds_29, true_and, and_true, or_true, true_or, or_false, false_or, false_and, and_false, not_true_eq_false, not_false_eq_true, implies_true, true_implies, false_implies]
    refine out_eq hw R2 (fun q2 => no (Or.inr q2)) (fun q2 => ?_)
    have ee : q_odds σ.1 tm c w = if tot σ.1 tm = 0 then w else (if w = 0 then (if c = -1 then nt σ.1 tm else sh σ.1 tm c) else tot σ.1 tm) / ggd (tot σ.1 tm) (if c = -1 then nt σ.1 tm else sh σ.1 tm c) := if_neg (by omega)
    refine (X_renew hV h).mono ?_
    rintro _ M1 ⟨rfl, h1, k1⟩
    simp only [r_CB_odds_32, r_CB_odds_33, r_CB_odds_36, true_and, and_true, or_true, true_or, or_false, false_or, false_and, and_false, not_true_eq_false, not_false_eq_true, implies_true, true_implies, false_implies]
    refine (X_weigh hV h1).mono ?_
    rintro _ M2 ⟨rfl, h2, w2, k2⟩
    rw [htm] at w2
    have kk := (k1.x (fun c z => by omega)).trans (k2.x (fun c z => by omega))
    have fin : ∀ s, s = (if c = -1 then nt σ.1 tm else sh σ.1 tm c) → 0 ≤ s → s ≤ tot σ.1 tm → Run C_CB_odds (QxL (q_odds σ.1 tm c w, σ) M) 63 [vR 0, vI c, vI w, vN, vN, vN, vN] [vL s] M2 := by
      intro s es s0 s1
      rw [← es] at ee
      simp only [r_CB_odds_63, r_CB_odds_64, r_CB_odds_65, r_CB_odds_68, r_CB_odds_71, r_CB_odds_72, r_CB_odds_73, r_CB_odds_76, r_CB_odds_77, r_CB_odds_78, r_CB_odds_79, r_CB_odds_80, r_CB_odds_83, r_CB_odds_86, r_CB_odds_87, true_and, and_true, or_true, true_or, or_false, false_or, false_and, and_false, not_true_eq_false, not_false_eq_true, implies_true, true_implies, false_implies, w2.2.1]
      refine ⟨r64 (by omega) (by omega), r64 (by decide) (by decide), c3_r, fun q3 => ?_, fun q3 => ⟨hw, QxL.q h2.1 kk ?_⟩⟩
      · have ht0 : ¬ tot σ.1 tm = 0 := fun z => q3 (c3_z.2 z)
        have hg := ggd_pos (a := tot σ.1 tm) (b := s) (by omega)
        have hgle : ggd (tot σ.1 tm) s ≤ tot σ.1 tm := by
          have := Nat.gcd_le_left s.toNat (show 0 < (tot σ.1 tm).toNat by omega)
          unfold ggd
          omega
        refine Cal.L (greatestDivisor_s M2 s0 s1 (by omega)) ?_
        simp only [r_CB_odds_90, r_CB_odds_92, r_CB_odds_94, r_CB_odds_95, r_CB_odds_96, r_CB_odds_99, r_CB_odds_102, r_CB_odds_105, r_CB_odds_106, r_CB_odds_109, r_CB_odds_110, r_CB_odds_113, r_CB_odds_114, r_CB_odds_117, r_CB_odds_120, r_CB_odds_122, r_CB_odds_123, true_and, and_true, or_true, true_or, or_false, false_or, false_and, and_false, not_true_eq_false, not_false_eq_true, implies_true, true_implies, false_implies, w2.2.1]
        rw [if_neg ht0] at ee
        refine ⟨r64 (by omega) (by omega), r64 (by decide) (by decide), c3_r, fun q4 => ⟨hw, fun q5 => ⟨⟨by omega, by omega, by omega, by omega⟩, QxL.q h2.1 kk ?_⟩, fun q5 => ⟨⟨by omega, by omega, by omega, by omega⟩, QxL.q h2.1 kk ?_⟩⟩, fun q4 => ?_⟩
        · rw [ee, if_neg q5]
        · rw [ee, if_pos (by omega)]
        · exact absurd (c3_z.1 (Classical.not_not.1 q4)) (by omega)
      · rw [ee, if_pos (c3_z.1 (Classical.not_not.1 q3))]
    simp only [r_CB_odds_39, r_CB_odds_40, r_CB_odds_41, r_CB_odds_44, r_CB_odds_45, r_CB_odds_48, r_CB_odds_51, r_CB_odds_54, r_CB_odds_55, r_CB_odds_58, r_CB_odds_61, r_CB_odds_62, true_and, and_true, or_true, true_or, or_false, false_or, false_and, and_false, not_true_eq_false, not_false_eq_true, implies_true, true_implies, false_implies]
    refine ⟨hc, r32 (by decide) (by decide), fun q3 => ⟨by omega, by omega, ?_⟩, fun q3 => ?_⟩
    · rw [w2.2.2 c (by omega) (by omega)]
      exact fin _ (by rw [if_neg q3]) (sh_bd hV.1 hm (c := c) (by omega) (by omega)).1 (ht.2.2 c (by omega) (by omega))
    · rw [w2.1]
      exact fin _ (by rw [if_pos (by omega)]) hnt.1 hnl
  refine Cal.mk (y := Y_CB_odds) (loc := [vR 0, vI c, vI w, vN, vN, vN, vN]) G_CB_odds rfl (by decide) rfl rfl (Nat.le_of_ble_eq_true rfl) ?_
  simp only [r_CB_odds_0, r_CB_odds_1, r_CB_odds_2, r_CB_odds_5, r_CB_odds_6, r_CB_odds_7, r_CB_odds_10, true_and, and_true, or_true, true_or, or_false, false_or, false_and, and_false, not_true_eq_false, not_false_eq_true, implies_true, true_implies, false_implies]
  refine ⟨hc, r32 (by decide) (by decide), fun q => go (fun z => z.1 q), fun q => ?_⟩
  refine (noSuchCause_s hV h hc).Bn (fun q2 => ?_) (fun q2 => go (fun z => q2 z.2))
  simp only [r_CB_odds_21, r_CB_odds_24, true_and, and_true, or_true, true_or, or_false, false_or, false_and, and_false, not_true_eq_false, not_false_eq_true, implies_true, true_implies, false_implies]
  exact no (Or.inl ⟨q, q2⟩)
