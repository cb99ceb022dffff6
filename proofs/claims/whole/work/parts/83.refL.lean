/-! the reference: ordered, sure, ofCause, ofSign -/
def TF (ρ : Rw) (c : Int) (M : Mem) : Prop := ∀ g, 0 ≤ g → g < 80 → M.1 153 g = sp (tau ρ) (-1) (p2 c) g
theorem rsT {ρ : Rw} (hV : VR ρ) {M : Mem} (hN : NU ρ M) {c : Int} (hF : TF ρ c M) {s : Int} (s0 : 0 ≤ s) (s1 : s < nS ρ) : Cal Y_RM_signTime [vR 141, vI s] M (fun r M' => r = some (vI (sT ρ c s)) ∧ M' = M) := by
  have s2 : s < nS (tau ρ) := by rw [nS_tau hV]; exact s1
  have hb := sf_bd (VR_tau hV) s0 s2
  have := rsignTime_s (VR_tau hV) (hN.t hV) s0 s2
  rw [hF _ hb.1 hb.2] at this
  exact this
theorem aheadOf_s {ρ : Rw} (hV : VR ρ) {M : Mem} (hN : NU ρ M) {c : Int} (hF : TF ρ c M) {s : Int} (s0 : 0 ≤ s) (s1 : s < nS ρ) : Cal Y_RM_aheadOf [vR 141, vI s] M (fun r M' => r = some (vI (ahd ρ c s)) ∧ M' = M) := by
  have hs := nS_bd hV
  have hts := sT_bd hV (c := c) s0 s1
  refine Cal.mk (y := Y_RM_aheadOf) (loc := [vR 141, vI s, vN, vN]) G_RM_aheadOf rfl (by decide) rfl rfl (Nat.le_of_ble_eq_true rfl) ?_
  simp only [r_RM_aheadOf_0, r_RM_aheadOf_1, r_RM_aheadOf_2, r_RM_aheadOf_3, true_and, and_true, or_true, true_or, or_false, false_or, false_and, and_false, not_true_eq_false, not_false_eq_true, implies_true, true_implies, false_implies]
  refine up_loop (lo := 0) (hi := nS ρ) (P := fun o => Run C_RM_aheadOf (fun r M' => r = some (vI (ahd ρ c s)) ∧ M' = M) 4 [vR 141, vI s, vI (cntI (bfr ρ c s) o), vI o] [] M) (fun o o0 o1 ih => ?_) hs.1
  rw [r_RM_aheadOf_4]
  simp only [r_RM_aheadOf_5, r_RM_aheadOf_6, r_RM_aheadOf_9, r_RM_aheadOf_12, r_RM_aheadOf_13, r_RM_aheadOf_14, r_RM_aheadOf_15, r_RM_aheadOf_18, r_RM_aheadOf_19, r_RM_aheadOf_20, r_RM_aheadOf_23, r_RM_aheadOf_26, r_RM_aheadOf_27, r_RM_aheadOf_28, r_RM_aheadOf_31, r_RM_aheadOf_32, r_RM_aheadOf_33, r_RM_aheadOf_36, r_RM_aheadOf_39, r_RM_aheadOf_40, r_RM_aheadOf_41, r_RM_aheadOf_44, r_RM_aheadOf_45, r_RM_aheadOf_48, r_RM_aheadOf_49, r_RM_aheadOf_50, r_RM_aheadOf_51, r_RM_aheadOf_54, r_RM_aheadOf_57, r_RM_aheadOf_58, true_and, and_true, or_true, true_or, or_false, false_or, false_and, and_false, not_true_eq_false, not_false_eq_true, implies_true, true_implies, false_implies, hN.2.1]
  refine ⟨r32 (by omega) (by omega), r32 (by omega) (by omega), fun q => ?_, fun q => ?_⟩
  · rw [show o = nS ρ by omega]; rfl
  · have ht := sT_bd hV (c := c) o0 (by omega)
    have hih := ih (by omega)
    rw [cntI_s _ o0] at hih
    have f1 : (sT ρ c o < sT ρ c s ∨ (sT ρ c o = sT ρ c s ∧ o < s)) → (if bfr ρ c s o = true then (1 : Int) else 0) = 1 := fun z => if_pos (decide_eq_true z)
    have f0 : ¬ (sT ρ c o < sT ρ c s ∨ (sT ρ c o = sT ρ c s ∧ o < s)) → (if bfr ρ c s o = true then (1 : Int) else 0) = 0 := fun z => if_neg (by unfold bfr; rw [decide_eq_true_eq]; exact z)
    refine Cal.I (rsT hV hN hF o0 (by omega)) (Cal.I (rsT hV hN hF s0 s1) ⟨r32 (by omega) (by omega), r32 (by omega) (by omega), fun q2 => ?_, fun q2 => Cal.I (rsT hV hN hF o0 (by omega)) (Cal.I (rsT hV hN hF s0 s1) ⟨r32 (by omega) (by omega), r32 (by omega) (by omega), fun q3 => ?_, fun q3 => ⟨r32 (by omega) (by omega), r32 (by omega) (by omega), fun q4 => ?_, fun q4 => ?_⟩⟩)⟩)
    · rw [f1 (by omega)] at hih; exact hih
    · rw [f0 (by omega)] at hih; exact hih
    · rw [f0 (by omega)] at hih; exact hih
    · rw [f1 (by omega)] at hih; exact hih
theorem M_ordered {σ : St} {M : Mem} (h : MI σ M) (hV : VS σ) {c i : Int} (hc : R32 c) (hi : R32 i) : Cal Y_RM_ordered [vR 141, vI c, vI i] M (Qm (q_ordered σ.1 c i, σ) M) := by
  have hn := nC_bd hV.1
  have hs := nS_bd hV.1
  have ⟨h0, k0⟩ := th0 h
  refine Cal.mk (y := Y_RM_ordered) (loc := [vR 141, vI c, vI i, vN, vN]) G_RM_ordered rfl (by decide) rfl rfl (Nat.le_of_ble_eq_true rfl) ?_
  simp only [r_RM_ordered_0, r_RM_ordered_1, r_RM_ordered_2, r_RM_ordered_5, r_RM_ordered_6, r_RM_ordered_7, r_RM_ordered_10, r_RM_ordered_13, r_RM_ordered_14, r_RM_ordered_15, r_RM_ordered_16, r_RM_ordered_17, r_RM_ordered_18, r_RM_ordered_19, true_and, and_true, or_true, true_or, or_false, false_or, false_and, and_false, not_true_eq_false, not_false_eq_true, implies_true, true_implies, false_implies, p2_def]
  refine (M_isCause hV h0 hc).Bn' (fun q M1 ⟨n1, h1, k1⟩ => ?_) (fun q M1 ⟨n1, h1, k1⟩ => Qm.q h1 (k0.trans k1.m) (by unfold q_ordered; rw [if_pos (by omega)]))
  have hp := p2_pos c
  have hp2 := p2_lt (a := c) (b := 12) (by omega) (by omega)
  have e12 : p2 12 = 4096 := by decide
  refine ⟨⟨by omega, by omega⟩, (M_spreadOf hV h1 n1 (by omega) (by omega)).mono ?_⟩
  rintro _ M2 ⟨rfl, h2, n2, f2, k2, -⟩
  have kk := (k0.trans k1.m).trans k2.m
  have ee : q_ordered σ.1 c i = ord σ.1 c i := if_neg (by omega)
  simp only [r_RM_ordered_22, r_RM_ordered_23, r_RM_ordered_24, r_RM_ordered_25, true_and, and_true, or_true, true_or, or_false, false_or, false_and, and_false, not_true_eq_false, not_false_eq_true, implies_true, true_implies, false_implies]
  refine up_loop (lo := 0) (hi := nS σ.1) (P := fun s => Run C_RM_ordered (Qm (q_ordered σ.1 c i, σ) M) 27 [vR 141, vI c, vI i, vI (foI (orS σ.1 c i) (-1) s), vI s] [] M2) (fun s s0 s1 ih => ?_) hs.1
  rw [r_RM_ordered_27]
  simp only [r_RM_ordered_29, r_RM_ordered_30, r_RM_ordered_33, r_RM_ordered_36, r_RM_ordered_37, r_RM_ordered_39, r_RM_ordered_42, r_RM_ordered_44, r_RM_ordered_47, r_RM_ordered_48, r_RM_ordered_50, r_RM_ordered_53, r_RM_ordered_54, r_RM_ordered_57, r_RM_ordered_59, r_RM_ordered_62, r_RM_ordered_63, r_RM_ordered_64, r_RM_ordered_67, r_RM_ordered_70, r_RM_ordered_71, true_and, and_true, or_true, true_or, or_false, false_or, false_and, and_false, not_true_eq_false, not_false_eq_true, implies_true, true_implies, false_implies, n2.2.1]
  refine ⟨r32 (by omega) (by omega), r32 (by omega) (by omega), fun q2 => ?_, fun q2 => ?_⟩
  · rw [show s = nS σ.1 by omega]; exact Qm.q h2 kk ee.symm
  · have ht := sT_bd hV.1 (c := c) s0 (by omega)
    have ha := cntI_bd (bfr σ.1 c s) hs.1
    have hih := ih (by omega)
    rw [foI_s _ _ s0] at hih
    have f1 : sT σ.1 c s < 1000000 ∧ ahd σ.1 c s = i → orS σ.1 c i s (foI (orS σ.1 c i) (-1) s) = s := fun z => if_pos z
    have f0 : ¬ (sT σ.1 c s < 1000000 ∧ ahd σ.1 c s = i) → orS σ.1 c i s (foI (orS σ.1 c i) (-1) s) = foI (orS σ.1 c i) (-1) s := fun z => if_neg z
    refine Cal.I (rsT hV.1 n2 f2 s0 (by omega)) ⟨r32 (by omega) (by omega), r32 (by decide) (by decide), fun q3 => ?_, fun q3 => Cal.I (aheadOf_s hV.1 n2 f2 s0 (by omega)) ⟨by unfold ahd; exact r32 (by omega) (by omega), hi, fun q4 => ?_, fun q4 => ?_⟩⟩
    · rw [f0 (by omega)] at hih; exact hih
    · rw [f0 (by omega)] at hih; exact hih
    · rw [f1 (by omega)] at hih; exact hih
theorem rsignsBy_s {ρ : Rw} (hV : VR ρ) {M : Mem} (hN : NU ρ M) {c : Int} (hF : TF ρ c M) {t : Int} (ht : R32 t) : Cal Y_RM_signsBy [vR 141, vI t] M (fun r M' => r = some (vI (sby ρ c t)) ∧ M' = M) := by
  have hs := nS_bd hV
  refine Cal.mk (y := Y_RM_signsBy) (loc := [vR 141, vI t, vN, vN]) G_RM_signsBy rfl (by decide) rfl rfl (Nat.le_of_ble_eq_true rfl) ?_
  simp only [r_RM_signsBy_0, r_RM_signsBy_1, r_RM_signsBy_2, r_RM_signsBy_3, true_and, and_true, or_true, true_or, or_false, false_or, false_and, and_false, not_true_eq_false, not_false_eq_true, implies_true, true_implies, false_implies]
  refine up_loop (lo := 0) (hi := nS ρ) (P := fun s => Run C_RM_signsBy (fun r M' => r = some (vI (sby ρ c t)) ∧ M' = M) 4 [vR 141, vI t, vI (bsI (fun s => decide (sT ρ c s ≤ t)) s), vI s] [] M) (fun s s0 s1 ih => ?_) hs.1
  have hbd := bsI_bd (fun s => decide (sT ρ c s ≤ t)) s
  have hp := p2_12 (show s ≤ 12 by omega)
  rw [r_RM_signsBy_4]
  simp only [r_RM_signsBy_5, r_RM_signsBy_6, r_RM_signsBy_9, r_RM_signsBy_12, r_RM_signsBy_13, r_RM_signsBy_14, r_RM_signsBy_15, r_RM_signsBy_18, r_RM_signsBy_19, r_RM_signsBy_22, r_RM_signsBy_23, r_RM_signsBy_24, r_RM_signsBy_25, r_RM_signsBy_28, r_RM_signsBy_29, r_RM_signsBy_30, r_RM_signsBy_31, r_RM_signsBy_34, r_RM_signsBy_37, r_RM_signsBy_38, true_and, and_true, or_true, true_or, or_false, false_or, false_and, and_false, not_true_eq_false, not_false_eq_true, implies_true, true_implies, false_implies, hN.2.1, p2_def]
  refine ⟨r32 (by omega) (by omega), r32 (by omega) (by omega), fun q => ?_, fun q => ?_⟩
  · rw [show s = nS ρ by omega]; rfl
  · have hb := sT_bd hV (c := c) s0 (by omega)
    have hih := ih (by omega)
    rw [bsI_s s0 (by omega)] at hih
    refine Cal.I (rsT hV hN hF s0 (by omega)) ⟨r32 (by omega) (by omega), ht, fun q2 => ?_, fun q2 => ⟨⟨s0, by omega⟩, ?_⟩⟩
    · rw [if_neg (by rw [decide_eq_true_eq]; omega)] at hih
      rw [ior_0 hbd.1 (by omega)]; exact hih
    · rw [if_pos (by rw [decide_eq_true_eq]; omega)] at hih; exact hih
theorem M_ofCause {σ : St} {M : Mem} (h : MI σ M) (hV : VS σ) {c w : Int} (hc : R32 c) (hw : R32 w) : Cal Y_RM_ofCause [vR 141, vI c, vI w] M (Qm (q_ofCause σ.1 c w, σ) M) := by
  have hn := nC_bd hV.1
  have hs := nS_bd hV.1
  have ⟨h0, k0⟩ := th0 h
  refine Cal.mk (y := Y_RM_ofCause) (loc := [vR 141, vI c, vI w, vN, vN, vN, vN, vN]) G_RM_ofCause rfl (by decide) rfl rfl (Nat.le_of_ble_eq_true rfl) ?_
  simp only [r_RM_ofCause_0, r_RM_ofCause_1, r_RM_ofCause_2, r_RM_ofCause_5, r_RM_ofCause_6, r_RM_ofCause_7, r_RM_ofCause_10, r_RM_ofCause_13, r_RM_ofCause_14, r_RM_ofCause_15, r_RM_ofCause_16, r_RM_ofCause_19, r_RM_ofCause_22, r_RM_ofCause_25, r_RM_ofCause_26, r_RM_ofCause_27, r_RM_ofCause_28, r_RM_ofCause_31, r_RM_ofCause_32, r_RM_ofCause_33, r_RM_ofCause_34, r_RM_ofCause_35, r_RM_ofCause_38, r_RM_ofCause_39, r_RM_ofCause_40, r_RM_ofCause_42, r_RM_ofCause_43, r_RM_ofCause_44, r_RM_ofCause_45, r_RM_ofCause_46, true_and, and_true, or_true, true_or, or_false, false_or, false_and, and_false, not_true_eq_false, not_false_eq_true, implies_true, true_implies, false_implies, p2_def]
  refine (M_isCause hV h0 hc).Be' (fun q M1 ⟨n1, h1, k1⟩ => ?_) (fun q M1 ⟨n1, h1, k1⟩ => Qm.q h1 (k0.trans k1.m) (by unfold q_ofCause; rw [if_pos (by omega)]))
  refine ⟨hw, in_n hw.l (l64 (by decide) (by decide)) (l64 (by decide) (by decide)) (fun q1 => ?_) (fun q1 => Qm.q h1 (k0.trans k1.m) (by unfold q_ofCause; rw [if_pos (by omega)]))⟩
  have hp := p2_pos c
  have hp2 := p2_lt (a := c) (b := 12) (by omega) (by omega)
  have e12 : p2 12 = 4096 := by decide
  rw [(n1.2.2.1 c (by omega) (by omega)).1, (n1.2.2.1 c (by omega) (by omega)).2]
  refine ⟨by omega, by omega, by omega, by omega, ⟨by omega, by omega⟩, (M_spreadOf hV h1 n1 (by omega) (by omega)).mono ?_⟩
  rintro _ M2 ⟨rfl, h2, n2, f2, k2, -⟩
  have kk := (k0.trans k1.m).trans k2.m
  have ee : q_ofCause σ.1 c w = if w = 0 then cf (tau σ.1) c / 8 else if w = 1 then cf (tau σ.1) c % 8 else if w = 2 then wC (tau σ.1) (cf (tau σ.1) c) else if w = 3 then pcI (gC σ.1 c) else lsT σ.1 c := if_neg (by omega)
  simp only [r_RM_ofCause_49, r_RM_ofCause_50, r_RM_ofCause_52, r_RM_ofCause_53, true_and, and_true, or_true, true_or, or_false, false_or, false_and, and_false, not_true_eq_false, not_false_eq_true, implies_true, true_implies, false_implies]
  refine up_loop (lo := 0) (hi := nS σ.1) (P := fun s => ∀ l7, Run C_RM_ofCause (Qm (q_ofCause σ.1 c w, σ) M) 55 [vR 141, vI c, vI w, vI (cf (tau σ.1) c / 8), vI (cf (tau σ.1) c % 8), vI (foI (lsS σ.1 c) (-1) s), vI s, l7] [] M2) (fun s s0 s1 ih l7 => ?_) hs.1 _
  have hl := lsT_bd σ.1 c s s0
  rw [r_RM_ofCause_55]
  simp only [r_RM_ofCause_57, r_RM_ofCause_58, r_RM_ofCause_61, r_RM_ofCause_64, r_RM_ofCause_65, r_RM_ofCause_67, r_RM_ofCause_70, r_RM_ofCause_72, r_RM_ofCause_74, r_RM_ofCause_76, r_RM_ofCause_79, r_RM_ofCause_81, r_RM_ofCause_83, r_RM_ofCause_86, r_RM_ofCause_88, r_RM_ofCause_91, r_RM_ofCause_93, r_RM_ofCause_95, r_RM_ofCause_98, true_and, and_true, or_true, true_or, or_false, false_or, false_and, and_false, not_true_eq_false, not_false_eq_true, implies_true, true_implies, false_implies, n2.2.1]
  refine ⟨r32 (by omega) (by omega), r32 (by omega) (by omega), fun q2 => ?_, fun q2 => ?_⟩
  · have es : s = nS σ.1 := by omega
    rw [es]
    have hg := gC_bd hV.1 c
    have hcf := cf_sp (VR_tau hV.1) (c := c) (by omega) (by rw [nC_tau hV.1]; omega)
    have t0 : tau σ.1 0 = σ.1 0 := tau_lo (by decide) (by decide)
    have hr0 := hV.1.1
    have hkd := hV.1.2.2.2.2.1 (cf (tau σ.1) c / 8) (by omega) (by omega)
    have t2 : wC (tau σ.1) (cf (tau σ.1) c) = σ.1 (136 + (8 * σ.1 (6 + cf (tau σ.1) c / 8) + cf (tau σ.1) c % 8)) := by
      rw [wC_tau hV.1 (by omega) (by omega)]
      unfold wC
      rw [Int.mul_comm]
    simp only [r_RM_ofCause_101, r_RM_ofCause_102, r_RM_ofCause_105, r_RM_ofCause_106, r_RM_ofCause_109, r_RM_ofCause_110, r_RM_ofCause_111, r_RM_ofCause_114, r_RM_ofCause_116, r_RM_ofCause_119, r_RM_ofCause_120, r_RM_ofCause_121, r_RM_ofCause_124, r_RM_ofCause_125, r_RM_ofCause_128, r_RM_ofCause_131, r_RM_ofCause_132, r_RM_ofCause_133, r_RM_ofCause_136, r_RM_ofCause_138, r_RM_ofCause_139, r_RM_ofCause_140, r_RM_ofCause_141, r_RM_ofCause_143, r_RM_ofCause_146, r_RM_ofCause_147, r_RM_ofCause_148, r_RM_ofCause_151, r_RM_ofCause_152, r_RM_ofCause_153, r_RM_ofCause_156, r_RM_ofCause_157, r_RM_ofCause_160, r_RM_ofCause_163, r_RM_ofCause_166, r_RM_ofCause_168, true_and, and_true, or_true, true_or, or_false, false_or, false_and, and_false, not_true_eq_false, not_false_eq_true, implies_true, true_implies, false_implies]
    refine ⟨hw, fun q3 => ⟨hw, r32 (by decide) (by decide), fun q4 => ⟨hw, r32 (by decide) (by decide), fun q5 => ⟨hw, r32 (by decide) (by decide), fun q6 => Qm.q h2 kk ?_, fun q6 => ?_⟩, fun q5 => ⟨by omega, by omega, Cal.I (fact_s M2) ⟨?_, ?_, Qm.q h2 kk ?_⟩⟩⟩, fun q4 => Qm.q h2 kk ?_⟩, fun q3 => Qm.q h2 kk ?_⟩
    · rw [ee, if_neg q3, if_neg q4, if_neg q5, if_neg q6]; rfl
    · refine Cal.I (signsOf_s (VR_tau hV.1) (S := p2 c) (n2.t hV.1) f2) (Cal.I (bits_s M2 (v := gC σ.1 c) hg.1 (by omega)) (Qm.q h2 kk ?_))
      rw [ee, if_neg q3, if_neg q4, if_neg q5, if_pos (by omega)]
    · rw [h2.1 _ (by omega) (by omega)]; omega
    · rw [h2.1 _ (by omega) (by omega)]; omega
    · rw [h2.1 (6 + cf (tau σ.1) c / 8) (by omega) (by omega), h2.1 _ (by omega) (by omega), ee, if_neg q3, if_neg q4, if_pos (by omega), t2]
    · rw [ee, if_neg q3, if_pos (by omega)]
    · rw [ee, if_pos (by omega)]
  · have ht := sT_bd hV.1 (c := c) s0 (by omega)
    have hih := ih (by omega) (vI (sT σ.1 c s))
    rw [foI_s _ _ s0] at hih
    have f1 : sT σ.1 c s < 1000000 ∧ foI (lsS σ.1 c) (-1) s < sT σ.1 c s → lsS σ.1 c s (foI (lsS σ.1 c) (-1) s) = sT σ.1 c s := fun z => if_pos z
    have f0 : ¬ (sT σ.1 c s < 1000000 ∧ foI (lsS σ.1 c) (-1) s < sT σ.1 c s) → lsS σ.1 c s (foI (lsS σ.1 c) (-1) s) = foI (lsS σ.1 c) (-1) s := fun z => if_neg z
    refine Cal.I (rsT hV.1 n2 f2 s0 (by omega)) ⟨r32 (by omega) (by omega), r32 (by decide) (by decide), fun q3 => ?_, fun q3 => ⟨r32 (by omega) (by omega), r32 (by omega) (by omega), fun q4 => ?_, fun q4 => ?_⟩⟩
    · rw [f0 (by omega)] at hih; exact hih
    · rw [f0 (by omega)] at hih; exact hih
    · rw [f1 (by omega)] at hih; exact hih
