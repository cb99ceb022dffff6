/-! the reference: cuts -/
theorem rearliestFrom_s {ρ : Rw} {M : Mem} (hV : VR ρ) (hR : RR ρ M) {t : Int} (ht : R32 t) : Cal Y_RM_earliestFrom [vR 141, vI t] M (fun r M' => r = some (vI (ef ρ t)) ∧ M' = M) := by
  have h3 := hV.2.2.2.1
  refine Cal.mk (y := Y_RM_earliestFrom) (loc := [vR 141, vI t, vN, vN, vN]) G_RM_earliestFrom rfl (by decide) rfl rfl (Nat.le_of_ble_eq_true rfl) ?_
  simp only [r_RM_earliestFrom_0, r_RM_earliestFrom_2, r_RM_earliestFrom_3, r_RM_earliestFrom_4, true_and, and_true, or_true, true_or, or_false, false_or, false_and, and_false, not_true_eq_false, not_false_eq_true, implies_true, true_implies, false_implies]
  refine up_loop (lo := 0) (hi := ρ 3) (P := fun k => ∀ l4, Run C_RM_earliestFrom (fun r M' => r = some (vI (ef ρ t)) ∧ M' = M) 5 [vR 141, vI t, vI (mn (efF ρ t) 1000000 k), vI k, l4] [] M) (fun k k0 k1 ih l4 => ?_) h3.1 _
  have hm0 := mn_nn (f := efF ρ t) (z := 1000000) k0 (by decide) (fun j a b => (efF_bd hV t a (by omega)).1)
  have hm1 := (mn_sp (efF ρ t) 1000000 k k0).1
  rw [r_RM_earliestFrom_5]
  simp only [r_RM_earliestFrom_6, r_RM_earliestFrom_7, r_RM_earliestFrom_10, r_RM_earliestFrom_11, r_RM_earliestFrom_12, r_RM_earliestFrom_15, r_RM_earliestFrom_16, r_RM_earliestFrom_19, r_RM_earliestFrom_22, r_RM_earliestFrom_23, r_RM_earliestFrom_24, r_RM_earliestFrom_25, r_RM_earliestFrom_26, r_RM_earliestFrom_27, r_RM_earliestFrom_28, r_RM_earliestFrom_29, r_RM_earliestFrom_31, r_RM_earliestFrom_33, r_RM_earliestFrom_34, r_RM_earliestFrom_37, r_RM_earliestFrom_39, r_RM_earliestFrom_40, r_RM_earliestFrom_43, r_RM_earliestFrom_45, r_RM_earliestFrom_48, r_RM_earliestFrom_49, r_RM_earliestFrom_50, r_RM_earliestFrom_53, r_RM_earliestFrom_56, r_RM_earliestFrom_57, true_and, and_true, or_true, true_or, or_false, false_or, false_and, and_false, not_true_eq_false, not_false_eq_true, implies_true, true_implies, false_implies, show M.1 144 3 = ρ 3 from hR 3 (by decide) (by decide)]
  refine ⟨by decide, by decide, r32 (by omega) (by omega), r32 (by omega) (by omega), fun q => ?_, fun q => ⟨by omega, by omega, ?_⟩⟩
  · rw [show k = ρ 3 by omega]; rfl
  · have hv := hV.2.2.2.2.2.2.2.2.2.1 k k0 (by omega)
    rw [show M.1 144 (200 + 2 * k + 1) = ρ (201 + 2 * k) by rw [show 200 + 2 * k + 1 = 201 + 2 * k by omega]; exact hR _ (by omega) (by omega)]
    have hih := ih (by omega) (vI (ρ (201 + 2 * k)))
    rw [mn_s _ _ k0] at hih
    have f1 : t ≤ ρ (201 + 2 * k) → efF ρ t k = ρ (201 + 2 * k) := fun z => if_pos z
    have f0 : ¬ t ≤ ρ (201 + 2 * k) → efF ρ t k = 1000000 := fun z => if_neg z
    refine ⟨r32 (by omega) (by omega), ht, fun q2 => ?_, fun q2 => ⟨r32 (by omega) (by omega), r32 (by omega) (by omega), fun q3 => ?_, fun q3 => ?_⟩⟩
    · rw [f0 (by omega), if_neg (show ¬ 1000000 < mn (efF ρ t) 1000000 k by omega)] at hih; exact hih
    · rw [f1 (by omega), if_neg (show ¬ ρ (201 + 2 * k) < mn (efF ρ t) 1000000 k by omega)] at hih; exact hih
    · rw [f1 (by omega), if_pos (show ρ (201 + 2 * k) < mn (efF ρ t) 1000000 k by omega)] at hih; exact hih
theorem cc_ge {ρ : Rw} {w m : Int} (m0 : 0 ≤ m) (m1 : m ≤ 20) (h : ∀ j, 0 ≤ j → j < m → ct ρ w j < 1000000) : m ≤ cc ρ w := by
  have key : ∀ n : Int, 0 ≤ n → n ≤ m → cntI (fun n => decide (ct ρ w n < 1000000)) n = n := by
    refine int_ind (fun _ => rfl) (fun n hn ih hnm => ?_)
    rw [cntI_s _ hn, ih (by omega), if_pos (by rw [decide_eq_true_eq]; exact h n hn (by omega))]
  have := cntI_le (p := fun n => decide (ct ρ w n < 1000000)) m0 m1
  rw [key m m0 (Int.le_refl _)] at this
  exact this
theorem M_cuts {σ : St} {M : Mem} (h : MI σ M) (hV : VS σ) {w i x : Int} (hw : R32 w) (hi : R32 i) (hx : R32 x) : Cal Y_RM_cuts [vR 141, vI w, vI i, vI x] M (Qm (q_cuts σ.1 w i x, σ) M) := by
  have ⟨h0, k0⟩ := th0 h
  refine Cal.mk (y := Y_RM_cuts) (loc := [vR 141, vI w, vI i, vI x, vN, vN, vN]) G_RM_cuts rfl (by decide) rfl rfl (Nat.le_of_ble_eq_true rfl) ?_
  simp only [r_RM_cuts_0, r_RM_cuts_1, r_RM_cuts_2, r_RM_cuts_5, r_RM_cuts_6, r_RM_cuts_7, r_RM_cuts_8, r_RM_cuts_11, r_RM_cuts_14, r_RM_cuts_17, r_RM_cuts_18, r_RM_cuts_19, r_RM_cuts_22, r_RM_cuts_23, r_RM_cuts_24, r_RM_cuts_27, r_RM_cuts_28, r_RM_cuts_29, r_RM_cuts_30, r_RM_cuts_33, r_RM_cuts_36, r_RM_cuts_39, r_RM_cuts_40, true_and, and_true, or_true, true_or, or_false, false_or, false_and, and_false, not_true_eq_false, not_false_eq_true, implies_true, true_implies, false_implies]
  generalize wI M 141 0 0 = M1 at h0 k0 ⊢
  have no : (¬ (1 ≤ w ∧ w < 1000) ∨ i < -1) → Qm (q_cuts σ.1 w i x, σ) M (some (vI (-1))) M1 := fun z => Qm.q h0 k0 (by unfold q_cuts; rw [if_pos z])
  have go : (1 ≤ w ∧ w ≤ 999) → (i = -1 ∨ (0 ≤ i ∧ 0 ≤ x ∧ x ≤ 2)) → Run C_RM_cuts (Qm (q_cuts σ.1 w i x, σ) M) 41 [vR 141, vI w, vI i, vI x, vN, vN, vN] [] M1 := by
    intro q z
    have ee : q_cuts σ.1 w i x = if i = -1 then cc σ.1 w else if cc σ.1 w ≤ i ∨ (x < 0 ∨ 3 ≤ x) then -1 else if x = 0 then ct σ.1 w i else if x = 1 then win σ.1 (ct σ.1 w i) (ct σ.1 w i + w) else fb (nr σ.1 (win σ.1 (ct σ.1 w i) (ct σ.1 w i + w))) := if_neg (by omega)
    simp only [r_RM_cuts_41, r_RM_cuts_42, r_RM_cuts_44, r_RM_cuts_45, r_RM_cuts_46, true_and, and_true, or_true, true_or, or_false, false_or, false_and, and_false, not_true_eq_false, not_false_eq_true, implies_true, true_implies, false_implies]
    refine Cal.I (rearliestFrom_s hV.1 h0.1 (r32 (by decide) (by decide))) ?_
    simp only [r_RM_cuts_49, true_and, and_true, or_true, true_or, or_false, false_or, false_and, and_false, not_true_eq_false, not_false_eq_true, implies_true, true_implies, false_implies]
    rw [show ef σ.1 0 = ct σ.1 w 0 from rfl]
    refine up_loop (lo := 0) (hi := 20) (P := fun n => (∀ j, 0 ≤ j → j < n → ct σ.1 w j < 1000000) → (i = -1 ∨ n ≤ i) → ∀ l6, Run C_RM_cuts (Qm (q_cuts σ.1 w i x, σ) M) 51 [vR 141, vI w, vI i, vI x, vI n, vI (ct σ.1 w n), l6] [] M1) (fun n n0 n1 ih hj hni l6 => ?_) (by decide) (fun j a b => by omega) (by omega) _
    have hc := ct_sp hV.1 q.1 n n0
    have hcb : 0 ≤ ct σ.1 w n ∧ (ct σ.1 w n = 1000000 ∨ ct σ.1 w n ≤ 999) := ⟨hc.1, hc.2.elim Or.inl (fun z => Or.inr z.1)⟩
    rw [r_RM_cuts_51]
    simp only [r_RM_cuts_53, r_RM_cuts_55, r_RM_cuts_58, r_RM_cuts_60, r_RM_cuts_61, r_RM_cuts_64, r_RM_cuts_67, r_RM_cuts_68, r_RM_cuts_70, r_RM_cuts_71, r_RM_cuts_72, true_and, and_true, or_true, true_or, or_false, false_or, false_and, and_false, not_true_eq_false, not_false_eq_true, implies_true, true_implies, false_implies]
    refine ⟨r32 (by omega) (by omega), r32 (by decide) (by decide), fun q2 => ?_, fun q2 => ⟨r32 (by omega) (by omega), hi, fun q3 => ?_, fun q3 => ?_⟩⟩
    · have ecc : cc σ.1 w = n := cc_n hV.1 q.1 n0 n1 hj (by omega)
      simp only [r_RM_cuts_80, r_RM_cuts_81, r_RM_cuts_82, r_RM_cuts_85, r_RM_cuts_87, r_RM_cuts_88, r_RM_cuts_90, r_RM_cuts_92, r_RM_cuts_95, r_RM_cuts_96, true_and, and_true, or_true, true_or, or_false, false_or, false_and, and_false, not_true_eq_false, not_false_eq_true, implies_true, true_implies, false_implies]
      refine ⟨hi, r32 (by decide) (by decide), fun q3 => ⟨r32 (by omega) (by omega), r32 (by decide) (by decide), fun q4 => by omega, fun q4 => Qm.q h0 k0 (by rw [ee, if_neg q3, if_pos (by omega)])⟩, fun q3 => Qm.q h0 k0 (by rw [ee, if_pos (by omega)]; omega)⟩
    · have hge : i + 1 ≤ cc σ.1 w := by
        refine cc_ge (by omega) ?_ (fun j a b => ?_)
        · by_cases y : n = 20
          · have := ct_fin hV.1 q.1 (n := n) (by omega); omega
          · omega
        · by_cases y : j = n
          · rw [y]; omega
          · exact hj j a (by omega)
      have ee2 : q_cuts σ.1 w i x = if x = 0 then ct σ.1 w n else if x = 1 then win σ.1 (ct σ.1 w n) (ct σ.1 w n + w) else fb (nr σ.1 (win σ.1 (ct σ.1 w n) (ct σ.1 w n + w))) := by
        rw [ee, if_neg (by omega), if_neg (by omega), show n = i by omega]
      have hwb := win_b hV.1 (ct σ.1 w n) (ct σ.1 w n + w)
      simp only [r_RM_cuts_80, r_RM_cuts_81, r_RM_cuts_82, r_RM_cuts_85, r_RM_cuts_87, r_RM_cuts_88, r_RM_cuts_90, r_RM_cuts_92, r_RM_cuts_95, r_RM_cuts_96, r_RM_cuts_97, r_RM_cuts_98, true_and, and_true, or_true, true_or, or_false, false_or, false_and, and_false, not_true_eq_false, not_false_eq_true, implies_true, true_implies, false_implies]
      refine ⟨hi, r32 (by decide) (by decide), fun _ => ⟨r32 (by omega) (by omega), r32 (by decide) (by decide), fun _ => ?_, fun q4 => by omega⟩, fun q4 => by omega⟩
      refine (M_layCodes hV h0).mono ?_
      rintro _ M2 ⟨rfl, ⟨h2, n2, l2⟩, k2⟩
      simp only [r_RM_cuts_101, r_RM_cuts_102, r_RM_cuts_104, r_RM_cuts_106, r_RM_cuts_107, r_RM_cuts_108, r_RM_cuts_109, r_RM_cuts_110, r_RM_cuts_113, r_RM_cuts_115, r_RM_cuts_116, r_RM_cuts_118, true_and, and_true, or_true, true_or, or_false, false_or, false_and, and_false, not_true_eq_false, not_false_eq_true, implies_true, true_implies, false_implies]
      refine ⟨r32 (by omega) (by omega), hw, Cal.I (signsIn_s hV.1 h2.1 (r32 (by omega) (by omega)) (by omega)) ?_⟩
      refine (layNearest_s hV.1 h2.1 n2 l2 hwb.1 hwb.2.2).mono ?_
      rintro _ M3 ⟨rfl, a3, b3, d3, k3⟩
      have h3 := h2.kr k3.kr
      have kk := (k0.trans k2.m).trans k3.kr.m
      have hnb := nr_bd hV.1 (win σ.1 (ct σ.1 w n) (ct σ.1 w n + w))
      simp only [r_RM_cuts_121, r_RM_cuts_122, r_RM_cuts_125, r_RM_cuts_127, r_RM_cuts_130, r_RM_cuts_131, r_RM_cuts_132, r_RM_cuts_135, r_RM_cuts_137, r_RM_cuts_140, r_RM_cuts_141, r_RM_cuts_144, r_RM_cuts_147, true_and, and_true, or_true, true_or, or_false, false_or, false_and, and_false, not_true_eq_false, not_false_eq_true, implies_true, true_implies, false_implies, b3]
      refine ⟨hx, fun q5 => ⟨hx, r32 (by decide) (by decide), fun q6 => Cal.I (lowest_fb M3 hnb.1 hnb.2.2) (Qm.q h3 kk (by rw [ee2, if_neg q5, if_neg q6])), fun q6 => Qm.q h3 kk (by rw [ee2, if_neg q5, if_pos (by omega)])⟩, fun q5 => Qm.q h3 kk (by rw [ee2, if_pos (by omega)])⟩
    · refine Cal.I (rearliestFrom_s hV.1 h0.1 (r32 (by omega) (by omega))) ?_
      simp only [r_RM_cuts_75, r_RM_cuts_77, true_and, and_true, or_true, true_or, or_false, false_or, false_and, and_false, not_true_eq_false, not_false_eq_true, implies_true, true_implies, false_implies]
      rw [← ct_s σ.1 w n0]
      refine ih ?_ (fun j a b => ?_) (by omega) _
      · by_cases y : n = 20
        · have := ct_fin hV.1 q.1 (n := n) (by omega); omega
        · omega
      · by_cases y : j = n
        · rw [y]; omega
        · exact hj j a (by omega)
  refine ⟨hw, in_e hw.l (l64 (by decide) (by decide)) (l64 (by decide) (by decide)) (fun q => ⟨hi, r32 (by decide) (by decide), fun q2 => no (by omega), fun q2 => ⟨hi, r32 (by decide) (by decide), fun q3 => go q (Or.inl q3), fun q3 => ⟨hx, in_n hx.l (l64 (by decide) (by decide)) (l64 (by decide) (by decide)) (fun q4 => go q (by omega)) (fun q4 => Qm.q h0 k0 ?_)⟩⟩⟩) (fun q => no (by omega))⟩
  unfold q_cuts
  rw [if_neg (by omega), if_neg q3, if_pos (by omega)]
