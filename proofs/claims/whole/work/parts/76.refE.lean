/-! the reference's acts: link, cut, rule, drop, cause, sign, object; ofObject, ofRule, count, status -/
theorem isLink_s {ρ : Rw} {M : Mem} (hV : VR ρ) (hR : RR ρ M) {r a b : Int} (hr : R32 r) (ha : R32 a) (hb : R32 b) : Cal Y_RM_isLink [vR 141, vI r, vI a, vI b] M (fun v M' => v = some (vI (if 0 < cntI (isL ρ r a b) (ρ 1) then 1 else 0)) ∧ M' = M) := by
  have h1 := hV.2.1
  have h0 := hV.1
  refine Cal.mk (y := Y_RM_isLink) (loc := [vR 141, vI r, vI a, vI b, vN, vN, vN]) G_RM_isLink rfl (by decide) rfl rfl (Nat.le_of_ble_eq_true rfl) ?_
  simp only [r_RM_isLink_0, r_RM_isLink_1, r_RM_isLink_3, r_RM_isLink_4, true_and, and_true, or_true, true_or, or_false, false_or, false_and, and_false, not_true_eq_false, not_false_eq_true, implies_true, true_implies, false_implies]
  refine up_loop (lo := 0) (hi := ρ 1) (P := fun l => ∀ l6, Run C_RM_isLink (fun v M' => v = some (vI (if 0 < cntI (isL ρ r a b) (ρ 1) then 1 else 0)) ∧ M' = M) 6 [vR 141, vI r, vI a, vI b, vI (if 0 < cntI (isL ρ r a b) l then 1 else 0), vI l, l6] [] M) (fun l l0 l1 ih l6 => ?_) h1.1 _
  have hc := cntI_bd (isL ρ r a b) l0
  rw [r_RM_isLink_6]
  simp only [r_RM_isLink_8, r_RM_isLink_9, r_RM_isLink_12, r_RM_isLink_13, r_RM_isLink_14, r_RM_isLink_17, r_RM_isLink_19, r_RM_isLink_20, r_RM_isLink_22, r_RM_isLink_23, r_RM_isLink_24, r_RM_isLink_26, r_RM_isLink_28, r_RM_isLink_31, r_RM_isLink_32, r_RM_isLink_35, r_RM_isLink_37, r_RM_isLink_38, r_RM_isLink_39, r_RM_isLink_42, r_RM_isLink_43, r_RM_isLink_46, r_RM_isLink_48, r_RM_isLink_49, r_RM_isLink_50, r_RM_isLink_51, r_RM_isLink_52, r_RM_isLink_55, r_RM_isLink_56, r_RM_isLink_59, r_RM_isLink_61, r_RM_isLink_62, r_RM_isLink_63, r_RM_isLink_64, r_RM_isLink_65, r_RM_isLink_68, r_RM_isLink_69, r_RM_isLink_72, r_RM_isLink_73, r_RM_isLink_75, r_RM_isLink_78, r_RM_isLink_81, r_RM_isLink_83, true_and, and_true, or_true, true_or, or_false, false_or, false_and, and_false, not_true_eq_false, not_false_eq_true, implies_true, true_implies, false_implies, hR 1 (by decide) (by decide)]
  refine ⟨by decide, by decide, r32 (by omega) (by omega), r32 (by omega) (by omega), fun q => ?_, fun q => ?_⟩
  · rw [show l = ρ 1 by omega]; exact ⟨ite01, rfl⟩
  · have hv := hV.2.2.2.2.2.1 l l0 (by omega)
    rw [show (16 : Int) + 3 * l + 1 = 17 + 3 * l by omega, show (16 : Int) + 3 * l + 2 = 18 + 3 * l by omega, hR (16 + 3 * l) (by omega) (by omega), hR (17 + 3 * l) (by omega) (by omega), hR (18 + 3 * l) (by omega) (by omega)]
    have hih := ih (by omega) (vI (16 + 3 * l))
    rw [cntI_s _ l0] at hih
    have yes : (0 < cntI (isL ρ r a b) l ∨ (ρ (16 + 3 * l) = r ∧ ρ (17 + 3 * l) = a ∧ ρ (18 + 3 * l) = b)) → Run C_RM_isLink (fun v M' => v = some (vI (if 0 < cntI (isL ρ r a b) (ρ 1) then 1 else 0)) ∧ M' = M) 6 [vR 141, vI r, vI a, vI b, vI 1, vI (l + 1), vI (16 + 3 * l)] [] M := fun z => by
      have : 0 < cntI (isL ρ r a b) l + (if isL ρ r a b l = true then 1 else 0) := by
        rcases z with z | z
        · split <;> omega
        · rw [if_pos (show isL ρ r a b l = true from decide_eq_true z)]; omega
      rw [if_pos this] at hih
      exact hih
    have no : ¬ (0 < cntI (isL ρ r a b) l ∨ (ρ (16 + 3 * l) = r ∧ ρ (17 + 3 * l) = a ∧ ρ (18 + 3 * l) = b)) → Run C_RM_isLink (fun v M' => v = some (vI (if 0 < cntI (isL ρ r a b) (ρ 1) then 1 else 0)) ∧ M' = M) 6 [vR 141, vI r, vI a, vI b, vI 0, vI (l + 1), vI (16 + 3 * l)] [] M := fun z => by
      have : ¬ 0 < cntI (isL ρ r a b) l + (if isL ρ r a b l = true then 1 else 0) := by
        rw [if_neg (by unfold isL; rw [decide_eq_true_eq]; omega)]; omega
      rw [if_neg this] at hih
      exact hih
    by_cases y : 0 < cntI (isL ρ r a b) l
    · rw [if_pos y]
      exact ⟨r32 (by decide) (by decide), fun _ => yes (Or.inl y), fun z => absurd (by decide) z⟩
    · rw [if_neg y]
      refine ⟨r32 (by decide) (by decide), fun z => absurd rfl z, fun _ => ⟨by omega, by omega, r32 (by omega) (by omega), hr, fun q2 => no (by omega), fun q2 => ⟨by omega, by omega, r32 (by omega) (by omega), ha, fun q3 => no (by omega), fun q3 => ⟨by omega, by omega, r32 (by omega) (by omega), hb, fun q4 => no (by omega), fun q4 => yes (Or.inr (by omega))⟩⟩⟩⟩
theorem M_link {σ : St} {M : Mem} (h : MI σ M) (hV : VS σ) {r a b : Int} (hr : R32 r) (ha : R32 a) (hb : R32 b) : Cal Y_RM_link [vR 141, vI r, vI a, vI b] M (Qm (s_link σ r a b) M) := by
  have h0' := hV.1.1
  have h1' := hV.1.2.1
  have ⟨h0, k0⟩ := th0 h
  refine Cal.mk (y := Y_RM_link) (loc := [vR 141, vI r, vI a, vI b, vN]) G_RM_link rfl (by decide) rfl rfl (Nat.le_of_ble_eq_true rfl) ?_
  simp only [r_RM_link_0, r_RM_link_1, r_RM_link_2, r_RM_link_5, r_RM_link_6, r_RM_link_7, r_RM_link_8, r_RM_link_11, r_RM_link_14, r_RM_link_17, r_RM_link_18, r_RM_link_19, r_RM_link_22, r_RM_link_23, r_RM_link_24, r_RM_link_25, r_RM_link_28, r_RM_link_31, r_RM_link_32, r_RM_link_33, r_RM_link_36, r_RM_link_39, r_RM_link_40, r_RM_link_42, r_RM_link_45, r_RM_link_46, r_RM_link_47, r_RM_link_48, r_RM_link_51, r_RM_link_52, r_RM_link_53, r_RM_link_54, r_RM_link_55, r_RM_link_58, r_RM_link_61, r_RM_link_62, r_RM_link_64, r_RM_link_67, r_RM_link_68, r_RM_link_69, r_RM_link_72, r_RM_link_73, r_RM_link_74, r_RM_link_76, r_RM_link_78, r_RM_link_80, r_RM_link_83, r_RM_link_84, r_RM_link_86, r_RM_link_89, r_RM_link_90, r_RM_link_91, r_RM_link_92, true_and, and_true, or_true, true_or, or_false, false_or, false_and, and_false, not_true_eq_false, not_false_eq_true, implies_true, true_implies, false_implies, h0.1 1 (by decide) (by decide)]
  refine ⟨hr, in_n hr.l (l64 (by decide) (by decide)) (l64 (by decide) (by decide)) (fun q => ?_) (fun q => Qm.ref h0 k0 (Or.inl rfl) (if_pos (by omega)))⟩
  have e1 : s_link σ r a b = if (a < 0 ∨ σ.1 0 ≤ a) ∨ (b < 0 ∨ σ.1 0 ≤ b) then (-2, rfs σ (-2)) else if a = b ∨ 0 < cntI (isL σ.1 r a b) (σ.1 1) then (-4, rfs σ (-4)) else if 20 ≤ σ.1 1 then (-5, rfs σ (-5)) else (σ.1 1, act σ 1 (addL σ.1 r a b)) := if_neg (by omega)
  refine (isObject_s hV.1 h0.1 ha).Be (fun q1 => (isObject_s hV.1 h0.1 hb).Bn (fun q2 => ?_) (fun q2 => Qm.ref h0 k0 (Or.inr (Or.inl rfl)) (e1.trans (if_pos (by omega))))) (fun q1 => Qm.ref h0 k0 (Or.inr (Or.inl rfl)) (e1.trans (if_pos (by omega))))
  have e2 : s_link σ r a b = if a = b ∨ 0 < cntI (isL σ.1 r a b) (σ.1 1) then (-4, rfs σ (-4)) else if 20 ≤ σ.1 1 then (-5, rfs σ (-5)) else (σ.1 1, act σ 1 (addL σ.1 r a b)) := e1.trans (if_neg (by omega))
  refine ⟨ha, hb, fun q3 => Qm.ref h0 k0 (Or.inr (Or.inr (Or.inl rfl))) (e2.trans (if_pos (Or.inl q3))), fun q3 => (isLink_s hV.1 h0.1 hr ha hb).Be (fun q4 => Qm.ref h0 k0 (Or.inr (Or.inr (Or.inl rfl))) (e2.trans (if_pos (Or.inr q4)))) (fun q4 => ?_)⟩
  have e3 : s_link σ r a b = if 20 ≤ σ.1 1 then (-5, rfs σ (-5)) else (σ.1 1, act σ 1 (addL σ.1 r a b)) := e2.trans (if_neg (by omega))
  rw [h0.1 1 (by decide) (by decide)]
  refine ⟨by decide, by decide, r32 (by omega) (by omega), r32 (by decide) (by decide), fun q5 => ?_, fun q5 => Qm.ref h0 k0 (Or.inr (Or.inr (Or.inr rfl))) (e3.trans (if_pos (by omega)))⟩
  rw [e3, if_neg (by omega)]
  refine (M_remember h0 1).mono ?_
  rintro _ M2 ⟨rfl, h2, k2, -⟩
  simp only [r_RM_link_95, r_RM_link_96, r_RM_link_99, r_RM_link_101, r_RM_link_102, r_RM_link_104, r_RM_link_105, r_RM_link_106, r_RM_link_107, r_RM_link_108, r_RM_link_109, r_RM_link_112, r_RM_link_114, r_RM_link_115, r_RM_link_117, r_RM_link_118, r_RM_link_119, r_RM_link_120, r_RM_link_121, r_RM_link_122, r_RM_link_123, r_RM_link_124, r_RM_link_127, r_RM_link_129, r_RM_link_130, r_RM_link_132, r_RM_link_133, r_RM_link_134, r_RM_link_135, r_RM_link_136, r_RM_link_137, r_RM_link_138, r_RM_link_139, r_RM_link_142, r_RM_link_143, r_RM_link_144, r_RM_link_145, r_RM_link_146, r_RM_link_147, r_RM_link_148, r_RM_link_149, r_RM_link_151, r_RM_link_154, true_and, and_true, or_true, true_or, or_false, false_or, false_and, and_false, not_true_eq_false, not_false_eq_true, implies_true, true_implies, false_implies]
  refine ⟨by omega, by omega, by omega, by omega, by omega, by omega, by decide, by decide, by decide, by decide, ?_⟩
  have e4 : (wI (wI (wI M2 144 (16 + 3 * σ.1 1) r) 144 (16 + 3 * σ.1 1 + 1) a) 144 (16 + 3 * σ.1 1 + 2) b).1 144 1 = σ.1 1 := by
    rw [wI_oth (by omega), wI_oth (by omega), wI_oth (by omega)]; exact h2.1 1 (by decide) (by decide)
  rw [e4]
  refine Qm.tell ((((h2.w (16 + 3 * σ.1 1) r).w (16 + 3 * σ.1 1 + 1) a).w (16 + 3 * σ.1 1 + 2) b).w 1 (σ.1 1 + 1)) (((((k0.trans k2).w (by unfold KM; decide)).w (by unfold KM; decide)).w (by unfold KM; decide)).w (by unfold KM; decide)) ?_
  unfold act addL
  rw [show 16 + 3 * σ.1 1 + 1 = 17 + 3 * σ.1 1 by omega, show 16 + 3 * σ.1 1 + 2 = 18 + 3 * σ.1 1 by omega]
theorem M_cut {σ : St} {M : Mem} (h : MI σ M) (hV : VS σ) {l : Int} (hl : R32 l) : Cal Y_RM_cut [vR 141, vI l] M (Qm (s_cut σ l) M) := by
  have h1 := hV.1.2.1
  have ⟨h0, k0⟩ := th0 h
  refine Cal.mk (y := Y_RM_cut) (loc := [vR 141, vI l, vN]) G_RM_cut rfl (by decide) rfl rfl (Nat.le_of_ble_eq_true rfl) ?_
  simp only [r_RM_cut_0, r_RM_cut_1, r_RM_cut_2, r_RM_cut_5, r_RM_cut_6, r_RM_cut_7, r_RM_cut_8, r_RM_cut_9, r_RM_cut_12, r_RM_cut_13, r_RM_cut_14, r_RM_cut_15, r_RM_cut_16, r_RM_cut_17, r_RM_cut_20, r_RM_cut_23, r_RM_cut_24, r_RM_cut_26, r_RM_cut_29, r_RM_cut_30, r_RM_cut_31, r_RM_cut_32, true_and, and_true, or_true, true_or, or_false, false_or, false_and, and_false, not_true_eq_false, not_false_eq_true, implies_true, true_implies, false_implies, h0.1 1 (by decide) (by decide)]
  refine ⟨hl, by decide, by decide, r32 (by omega) (by omega), in_n hl.l (l64 (by decide) (by decide)) (l64 (by omega) (by omega)) (fun q => ?_) (fun q => Qm.ref h0 k0 (Or.inr (Or.inl rfl)) (if_pos (by omega)))⟩
  have es : s_cut σ l = (σ.1 1 - 1, act σ 2 (cutL σ.1 l)) := if_neg (by omega)
  rw [es]
  refine (M_remember h0 2).mono ?_
  rintro _ M2 ⟨rfl, h2, k2, -⟩
  simp only [r_RM_cut_35, r_RM_cut_36, r_RM_cut_39, r_RM_cut_40, r_RM_cut_41, r_RM_cut_42, r_RM_cut_43, r_RM_cut_44, r_RM_cut_45, r_RM_cut_47, r_RM_cut_48, r_RM_cut_49, r_RM_cut_50, r_RM_cut_51, true_and, and_true, or_true, true_or, or_false, false_or, false_and, and_false, not_true_eq_false, not_false_eq_true, implies_true, true_implies, false_implies, show M2.1 144 1 = σ.1 1 from h2.1 1 (by decide) (by decide)]
  refine ⟨by decide, by decide, by decide, by decide, ?_⟩
  refine up_loop (lo := 16 + 3 * l) (hi := 16 + 3 * (σ.1 1 - 1)) (P := fun k => ∀ M3, Kp (fun c => c = 144) M2 M3 → RR (fun i => if i = 1 then σ.1 1 - 1 else if 16 + 3 * l ≤ i ∧ i < k then σ.1 (i + 3) else σ.1 i) M3 → Run C_RM_cut (Qm (σ.1 1 - 1, act σ 2 (cutL σ.1 l)) M) 52 [vR 141, vI l, vI k] [] M3) (fun k kl kh ih M3 k3 r3 => ?_) (by omega) _ (Kp.w Kp.rf rfl) (fun i a b => ?_)
  · have e1 : M3.1 144 1 = σ.1 1 - 1 := by rw [r3 1 (by decide) (by decide)]; rfl
    rw [r_RM_cut_52]
    simp only [r_RM_cut_53, r_RM_cut_55, r_RM_cut_56, r_RM_cut_57, r_RM_cut_60, r_RM_cut_61, r_RM_cut_62, r_RM_cut_63, r_RM_cut_64, r_RM_cut_67, r_RM_cut_68, r_RM_cut_71, r_RM_cut_72, r_RM_cut_73, r_RM_cut_76, r_RM_cut_77, r_RM_cut_78, r_RM_cut_79, r_RM_cut_80, r_RM_cut_81, r_RM_cut_84, r_RM_cut_87, r_RM_cut_88, r_RM_cut_89, r_RM_cut_92, r_RM_cut_93, r_RM_cut_94, r_RM_cut_97, true_and, and_true, or_true, true_or, or_false, false_or, false_and, and_false, not_true_eq_false, not_false_eq_true, implies_true, true_implies, false_implies, e1]
    refine ⟨by decide, by decide, r32 (by omega) (by omega), r32 (by omega) (by omega), fun q2 => ⟨by decide, by decide, ?_⟩, fun q2 => ⟨by omega, by omega, by omega, by omega, ih (by omega) _ (Kp.w k3 rfl) (fun i a b => ?_)⟩⟩
    · rw [show k = 16 + 3 * (σ.1 1 - 1) by omega] at r3
      exact Qm.tell (h2.row (ρ' := cutL σ.1 l) r3 k3) ((k0.trans k2).trans (k3.sub (fun c z => by unfold KM; omega))) rfl
    · have r3' : ∀ i, 0 ≤ i → i < 240 → M3.1 144 i = if i = 1 then σ.1 1 - 1 else if 16 + 3 * l ≤ i ∧ i < k then σ.1 (i + 3) else σ.1 i := r3
      rw [wI_at]
      show _ = if i = 1 then σ.1 1 - 1 else if 16 + 3 * l ≤ i ∧ i < k + 1 then σ.1 (i + 3) else σ.1 i
      by_cases z : i = k
      · rw [if_pos ⟨rfl, z⟩, r3' _ (by omega) (by omega), if_neg (show ¬ k + 3 = 1 by omega), if_neg (show ¬ (16 + 3 * l ≤ k + 3 ∧ k + 3 < k) by omega), if_neg (show ¬ i = 1 by omega), if_pos (by omega), z]
      · rw [if_neg (fun w => z w.2), r3' i a b]
        by_cases z1 : i = 1
        · rw [if_pos z1, if_pos z1]
        · rw [if_neg z1, if_neg z1]
          by_cases z2 : 16 + 3 * l ≤ i ∧ i < k
          · rw [if_pos z2, if_pos (by omega)]
          · rw [if_neg z2, if_neg (by omega)]
  · rw [wI_at]
    show _ = if i = 1 then σ.1 1 - 1 else if 16 + 3 * l ≤ i ∧ i < 16 + 3 * l then σ.1 (i + 3) else σ.1 i
    by_cases z : i = 1
    · rw [if_pos ⟨rfl, z⟩, if_pos z]
    · rw [if_neg (fun w => z w.2), if_neg z, if_neg (by omega)]; exact h2.1 i a b
theorem M_drop {σ : St} {M : Mem} (h : MI σ M) (hV : VS σ) {l : Int} (hl : R32 l) : Cal Y_RM_drop [vR 141, vI l] M (Qm (s_drop σ l) M) := by
  have h1 := hV.1.2.2.1
  have ⟨h0, k0⟩ := th0 h
  refine Cal.mk (y := Y_RM_drop) (loc := [vR 141, vI l, vN]) G_RM_drop rfl (by decide) rfl rfl (Nat.le_of_ble_eq_true rfl) ?_
  simp only [r_RM_drop_0, r_RM_drop_1, r_RM_drop_2, r_RM_drop_5, r_RM_drop_6, r_RM_drop_7, r_RM_drop_8, r_RM_drop_9, r_RM_drop_12, r_RM_drop_13, r_RM_drop_14, r_RM_drop_15, r_RM_drop_16, r_RM_drop_17, r_RM_drop_20, r_RM_drop_23, r_RM_drop_24, r_RM_drop_26, r_RM_drop_29, r_RM_drop_30, r_RM_drop_31, r_RM_drop_32, true_and, and_true, or_true, true_or, or_false, false_or, false_and, and_false, not_true_eq_false, not_false_eq_true, implies_true, true_implies, false_implies, h0.1 2 (by decide) (by decide)]
  refine ⟨hl, by decide, by decide, r32 (by omega) (by omega), in_n hl.l (l64 (by decide) (by decide)) (l64 (by omega) (by omega)) (fun q => ?_) (fun q => Qm.ref h0 k0 (Or.inr (Or.inl rfl)) (if_pos (by omega)))⟩
  have es : s_drop σ l = (σ.1 2 - 1, act σ 4 (cutR σ.1 l)) := if_neg (by omega)
  rw [es]
  refine (M_remember h0 4).mono ?_
  rintro _ M2 ⟨rfl, h2, k2, -⟩
  simp only [r_RM_drop_35, r_RM_drop_36, r_RM_drop_39, r_RM_drop_40, r_RM_drop_41, r_RM_drop_42, r_RM_drop_43, r_RM_drop_44, r_RM_drop_45, r_RM_drop_47, r_RM_drop_48, r_RM_drop_49, r_RM_drop_50, r_RM_drop_51, true_and, and_true, or_true, true_or, or_false, false_or, false_and, and_false, not_true_eq_false, not_false_eq_true, implies_true, true_implies, false_implies, show M2.1 144 2 = σ.1 2 from h2.1 2 (by decide) (by decide)]
  refine ⟨by decide, by decide, by decide, by decide, ?_⟩
  refine up_loop (lo := 76 + 5 * l) (hi := 76 + 5 * (σ.1 2 - 1)) (P := fun k => ∀ M3, Kp (fun c => c = 144) M2 M3 → RR (fun i => if i = 2 then σ.1 2 - 1 else if 76 + 5 * l ≤ i ∧ i < k then σ.1 (i + 5) else σ.1 i) M3 → Run C_RM_drop (Qm (σ.1 2 - 1, act σ 4 (cutR σ.1 l)) M) 52 [vR 141, vI l, vI k] [] M3) (fun k kl kh ih M3 k3 r3 => ?_) (by omega) _ (Kp.w Kp.rf rfl) (fun i a b => ?_)
  · have e1 : M3.1 144 2 = σ.1 2 - 1 := by rw [r3 2 (by decide) (by decide)]; rfl
    rw [r_RM_drop_52]
    simp only [r_RM_drop_53, r_RM_drop_55, r_RM_drop_56, r_RM_drop_57, r_RM_drop_60, r_RM_drop_61, r_RM_drop_62, r_RM_drop_63, r_RM_drop_64, r_RM_drop_67, r_RM_drop_68, r_RM_drop_71, r_RM_drop_72, r_RM_drop_73, r_RM_drop_76, r_RM_drop_77, r_RM_drop_78, r_RM_drop_79, r_RM_drop_80, r_RM_drop_81, r_RM_drop_84, r_RM_drop_87, r_RM_drop_88, r_RM_drop_89, r_RM_drop_92, r_RM_drop_93, r_RM_drop_94, r_RM_drop_97, true_and, and_true, or_true, true_or, or_false, false_or, false_and, and_false, not_true_eq_false, not_false_eq_true, implies_true, true_implies, false_implies, e1]
    refine ⟨by decide, by decide, r32 (by omega) (by omega), r32 (by omega) (by omega), fun q2 => ⟨by decide, by decide, ?_⟩, fun q2 => ⟨by omega, by omega, by omega, by omega, ih (by omega) _ (Kp.w k3 rfl) (fun i a b => ?_)⟩⟩
    · rw [show k = 76 + 5 * (σ.1 2 - 1) by omega] at r3
      exact Qm.tell (h2.row (ρ' := cutR σ.1 l) r3 k3) ((k0.trans k2).trans (k3.sub (fun c z => by unfold KM; omega))) rfl
    · have r3' : ∀ i, 0 ≤ i → i < 240 → M3.1 144 i = if i = 2 then σ.1 2 - 1 else if 76 + 5 * l ≤ i ∧ i < k then σ.1 (i + 5) else σ.1 i := r3
      rw [wI_at]
      show _ = if i = 2 then σ.1 2 - 1 else if 76 + 5 * l ≤ i ∧ i < k + 1 then σ.1 (i + 5) else σ.1 i
      by_cases z : i = k
      · rw [if_pos ⟨rfl, z⟩, r3' _ (by omega) (by omega), if_neg (show ¬ k + 5 = 2 by omega), if_neg (show ¬ (76 + 5 * l ≤ k + 5 ∧ k + 5 < k) by omega), if_neg (show ¬ i = 2 by omega), if_pos (by omega), z]
      · rw [if_neg (fun w => z w.2), r3' i a b]
        by_cases z1 : i = 2
        · rw [if_pos z1, if_pos z1]
        · rw [if_neg z1, if_neg z1]
          by_cases z2 : 76 + 5 * l ≤ i ∧ i < k
          · rw [if_pos z2, if_pos (by omega)]
          · rw [if_neg z2, if_neg (by omega)]
  · rw [wI_at]
    show _ = if i = 2 then σ.1 2 - 1 else if 76 + 5 * l ≤ i ∧ i < 76 + 5 * l then σ.1 (i + 5) else σ.1 i
    by_cases z : i = 2
    · rw [if_pos ⟨rfl, z⟩, if_pos z]
    · rw [if_neg (fun w => z w.2), if_neg z, if_neg (by omega)]; exact h2.1 i a b
theorem M_rule {σ : St} {M : Mem} (h : MI σ M) (hV : VS σ) {s a r b d : Int} (hs : R32 s) (ha : R32 a) (hr : R32 r) (hb : R32 b) (hd : R32 d) : Cal Y_RM_rule [vR 141, vI s, vI a, vI r, vI b, vI d] M (Qm (s_rule σ s a r b d) M) := by
  have h2' := hV.1.2.2.1
  have ⟨h0, k0⟩ := th0 h
  have L1 : ∀ z : Int, 0 ≤ z → z ≤ 31 → R64 z := fun z a b => l64 (by omega) (by omega)
  refine Cal.mk (y := Y_RM_rule) (loc := [vR 141, vI s, vI a, vI r, vI b, vI d, vN, vN]) G_RM_rule rfl (by decide) rfl rfl (Nat.le_of_ble_eq_true rfl) ?_
  simp only [r_RM_rule_0, r_RM_rule_1, r_RM_rule_2, r_RM_rule_5, r_RM_rule_6, r_RM_rule_7, r_RM_rule_8, r_RM_rule_11, r_RM_rule_14, r_RM_rule_17, r_RM_rule_18, r_RM_rule_19, r_RM_rule_20, r_RM_rule_23, r_RM_rule_26, r_RM_rule_29, r_RM_rule_30, r_RM_rule_31, r_RM_rule_32, r_RM_rule_35, r_RM_rule_38, r_RM_rule_41, r_RM_rule_43, r_RM_rule_44, r_RM_rule_45, r_RM_rule_48, r_RM_rule_51, r_RM_rule_54, r_RM_rule_56, r_RM_rule_57, r_RM_rule_58, r_RM_rule_61, r_RM_rule_64, r_RM_rule_67, r_RM_rule_68, r_RM_rule_69, r_RM_rule_72, r_RM_rule_73, r_RM_rule_74, r_RM_rule_77, r_RM_rule_78, r_RM_rule_79, r_RM_rule_81, r_RM_rule_83, r_RM_rule_85, r_RM_rule_88, r_RM_rule_89, r_RM_rule_91, r_RM_rule_94, r_RM_rule_95, r_RM_rule_96, r_RM_rule_97, true_and, and_true, or_true, true_or, or_false, false_or, false_and, and_false, not_true_eq_false, not_false_eq_true, implies_true, true_implies, false_implies]
  refine ⟨hs, in_e hs.l (L1 0 (by decide) (by decide)) (L1 4 (by decide) (by decide)) (fun q1 => ⟨ha, in_e ha.l (L1 0 (by decide) (by decide)) (L1 31 (by decide) (by decide)) (fun q2 => ⟨hr, in_e hr.l (L1 0 (by decide) (by decide)) (L1 2 (by decide) (by decide)) (fun q3 => ⟨hb, in_e hb.l (L1 0 (by decide) (by decide)) (L1 31 (by decide) (by decide)) (fun q4 => ⟨hd, in_n hd.l (L1 0 (by decide) (by decide)) (L1 9 (by decide) (by decide)) (fun q5 => ?_) (fun q5 => Qm.ref h0 k0 (Or.inl rfl) (if_pos (by omega)))⟩) (fun q4 => Qm.ref h0 k0 (Or.inl rfl) (if_pos (by omega)))⟩) (fun q3 => Qm.ref h0 k0 (Or.inl rfl) (if_pos (by omega)))⟩) (fun q2 => Qm.ref h0 k0 (Or.inl rfl) (if_pos (by omega)))⟩) (fun q1 => Qm.ref h0 k0 (Or.inl rfl) (if_pos (by omega)))⟩
  have e1 : s_rule σ s a r b d = if 12 ≤ σ.1 2 then (-5, rfs σ (-5)) else (σ.1 2, act σ 3 (addR σ.1 s a r b d)) := if_neg (by omega)
  rw [h0.1 2 (by decide) (by decide)]
  refine ⟨by decide, by decide, r32 (by omega) (by omega), r32 (by decide) (by decide), fun q6 => ?_, fun q6 => Qm.ref h0 k0 (Or.inr (Or.inr (Or.inr rfl))) (e1.trans (if_pos (by omega)))⟩
  rw [e1, if_neg (by omega)]
  refine (M_remember h0 3).mono ?_
  rintro _ M2 ⟨rfl, h2, k2, -⟩
  simp only [r_RM_rule_100, r_RM_rule_102, r_RM_rule_103, r_RM_rule_105, r_RM_rule_106, r_RM_rule_107, r_RM_rule_109, r_RM_rule_110, r_RM_rule_113, r_RM_rule_115, r_RM_rule_116, r_RM_rule_117, r_RM_rule_118, r_RM_rule_121, r_RM_rule_123, r_RM_rule_124, r_RM_rule_125, r_RM_rule_126, r_RM_rule_127, r_RM_rule_128, r_RM_rule_131, r_RM_rule_133, r_RM_rule_134, r_RM_rule_135, r_RM_rule_136, r_RM_rule_137, r_RM_rule_138, r_RM_rule_141, r_RM_rule_143, r_RM_rule_144, r_RM_rule_145, r_RM_rule_147, r_RM_rule_148, r_RM_rule_149, r_RM_rule_152, r_RM_rule_154, r_RM_rule_155, r_RM_rule_156, r_RM_rule_158, r_RM_rule_159, r_RM_rule_160, r_RM_rule_163, r_RM_rule_164, r_RM_rule_165, r_RM_rule_166, r_RM_rule_167, r_RM_rule_168, r_RM_rule_169, r_RM_rule_170, r_RM_rule_172, r_RM_rule_175, true_and, and_true, or_true, true_or, or_false, false_or, false_and, and_false, not_true_eq_false, not_false_eq_true, implies_true, true_implies, false_implies]
  refine ⟨by omega, by omega, by omega, by omega, by omega, by omega, by omega, by omega, by omega, by omega, by decide, by decide, by decide, by decide, ?_⟩
  have e4 : (wI (wI (wI (wI (wI M2 144 (76 + 5 * σ.1 2) s) 144 (76 + 5 * σ.1 2 + 1) a) 144 (76 + 5 * σ.1 2 + 2) r) 144 (76 + 5 * σ.1 2 + 3) b) 144 (76 + 5 * σ.1 2 + 4) d).1 144 2 = σ.1 2 := by
    rw [wI_oth (by omega), wI_oth (by omega), wI_oth (by omega), wI_oth (by omega), wI_oth (by omega)]; exact h2.1 2 (by decide) (by decide)
  rw [e4]
  have kw : ∀ {M1 : Mem} {i v : Int}, Kp KM M M1 → Kp KM M (wI M1 144 i v) := fun z => z.w (by unfold KM; decide)
  refine Qm.tell ((((((h2.w (76 + 5 * σ.1 2) s).w (76 + 5 * σ.1 2 + 1) a).w (76 + 5 * σ.1 2 + 2) r).w (76 + 5 * σ.1 2 + 3) b).w (76 + 5 * σ.1 2 + 4) d).w 2 (σ.1 2 + 1)) (kw (kw (kw (kw (kw (kw (k0.trans k2))))))) ?_
  unfold act addR
  rw [show 76 + 5 * σ.1 2 + 1 = 77 + 5 * σ.1 2 by omega, show 76 + 5 * σ.1 2 + 2 = 78 + 5 * σ.1 2 by omega, show 76 + 5 * σ.1 2 + 3 = 79 + 5 * σ.1 2 by omega, show 76 + 5 * σ.1 2 + 4 = 80 + 5 * σ.1 2 by omega]
theorem isFact_s (M : Mem) {k e : Int} (hk : R32 k) (he : R32 e) : Cal Y_RM_isFact [vI k, vI e] M (fun r M' => r = some (vI (if (0 ≤ k ∧ k ≤ 3) ∧ 0 ≤ e ∧ e ≤ 7 then 1 else 0)) ∧ M' = M) := by
  refine Cal.mk (y := Y_RM_isFact) (loc := [vI k, vI e]) G_RM_isFact rfl (by decide) rfl rfl (Nat.le_of_ble_eq_true rfl) ?_
  simp only [r_RM_isFact_0, r_RM_isFact_1, r_RM_isFact_2, r_RM_isFact_3, r_RM_isFact_6, r_RM_isFact_9, r_RM_isFact_12, r_RM_isFact_13, r_RM_isFact_14, r_RM_isFact_15, r_RM_isFact_18, r_RM_isFact_21, r_RM_isFact_24, r_RM_isFact_25, r_RM_isFact_28, r_RM_isFact_29, true_and, and_true, or_true, true_or, or_false, false_or, false_and, and_false, not_true_eq_false, not_false_eq_true, implies_true, true_implies, false_implies]
  refine ⟨hk, in_e hk.l (l64 (by decide) (by decide)) (l64 (by decide) (by decide)) (fun q => ⟨he, in_e he.l (l64 (by decide) (by decide)) (l64 (by decide) (by decide)) (fun q2 => ?_) (fun q2 => ?_)⟩) (fun q => ?_)⟩
  · rw [if_pos ⟨q, q2⟩]; exact ⟨rfl, rfl⟩
  · rw [if_neg (fun z => q2 z.2)]; exact ⟨rfl, rfl⟩
  · rw [if_neg (fun z => q z.1)]; exact ⟨rfl, rfl⟩
theorem ofKind_s {ρ : Rw} {M : Mem} (hV : VR ρ) (hR : RR ρ M) {k : Int} (hk : R32 k) : Cal Y_RM_ofKind [vR 141, vI k] M (fun r M' => r = some (vI (kc ρ k)) ∧ M' = M) := by
  have h0 := hV.1
  refine Cal.mk (y := Y_RM_ofKind) (loc := [vR 141, vI k, vN, vN]) G_RM_ofKind rfl (by decide) rfl rfl (Nat.le_of_ble_eq_true rfl) ?_
  simp only [r_RM_ofKind_0, r_RM_ofKind_1, r_RM_ofKind_2, r_RM_ofKind_3, true_and, and_true, or_true, true_or, or_false, false_or, false_and, and_false, not_true_eq_false, not_false_eq_true, implies_true, true_implies, false_implies]
  refine up_loop (lo := 0) (hi := ρ 0) (P := fun o => Run C_RM_ofKind (fun r M' => r = some (vI (kc ρ k)) ∧ M' = M) 4 [vR 141, vI k, vI (cntI (fun o => decide (ρ (6 + o) = k)) o), vI o] [] M) (fun o o0 o1 ih => ?_) h0.1
  rw [r_RM_ofKind_4]
  simp only [r_RM_ofKind_5, r_RM_ofKind_6, r_RM_ofKind_9, r_RM_ofKind_10, r_RM_ofKind_11, r_RM_ofKind_14, r_RM_ofKind_15, r_RM_ofKind_16, r_RM_ofKind_19, r_RM_ofKind_21, r_RM_ofKind_22, r_RM_ofKind_23, r_RM_ofKind_24, r_RM_ofKind_25, r_RM_ofKind_28, r_RM_ofKind_29, r_RM_ofKind_32, r_RM_ofKind_33, r_RM_ofKind_34, r_RM_ofKind_35, r_RM_ofKind_38, r_RM_ofKind_41, r_RM_ofKind_42, true_and, and_true, or_true, true_or, or_false, false_or, false_and, and_false, not_true_eq_false, not_false_eq_true, implies_true, true_implies, false_implies, hR 0 (by decide) (by decide)]
  refine ⟨by decide, by decide, r32 (by omega) (by omega), r32 (by omega) (by omega), fun q => ?_, fun q => ⟨by omega, by omega, ?_⟩⟩
  · rw [show o = ρ 0 by omega]; rfl
  · have hv := hV.2.2.2.2.1 o o0 (by omega)
    rw [hR (6 + o) (by omega) (by omega)]
    have hih := ih (by omega)
    rw [cntI_s _ o0] at hih
    refine ⟨r32 (by omega) (by omega), hk, fun q2 => ?_, fun q2 => ?_⟩
    · rw [if_neg (by rw [decide_eq_true_eq]; exact q2)] at hih; exact hih
    · rw [if_pos (by rw [decide_eq_true_eq]; exact Classical.not_not.1 q2)] at hih; exact hih
theorem factsOf_s {ρ : Rw} {M : Mem} {b k : Int} (hb : b = 136 ∨ b = 168) (k0 : 0 ≤ k) (k1 : k < 4) (hR : ∀ j, 0 ≤ j → j < 32 → M.1 144 (b + j) = ρ (b + j) ∧ 0 ≤ ρ (b + j) ∧ ρ (b + j) ≤ 9) : Cal Y_RM_factsOf [vR 141, vI b, vI k] M (fun r M' => r = some (vI (mk ρ b k)) ∧ M' = M) := by
  refine Cal.mk (y := Y_RM_factsOf) (loc := [vR 141, vI b, vI k, vN, vN]) G_RM_factsOf rfl (by decide) rfl rfl (Nat.le_of_ble_eq_true rfl) ?_
  simp only [r_RM_factsOf_0, r_RM_factsOf_1, r_RM_factsOf_2, r_RM_factsOf_3, true_and, and_true, or_true, true_or, or_false, false_or, false_and, and_false, not_true_eq_false, not_false_eq_true, implies_true, true_implies, false_implies]
  refine up_loop (lo := 0) (hi := 8) (P := fun e => Run C_RM_factsOf (fun r M' => r = some (vI (mk ρ b k)) ∧ M' = M) 5 [vR 141, vI b, vI k, vI (cntI (fun j => decide (¬ ρ (b + (k * 8 + j)) = 0)) e), vI e] [] M) (fun e e0 e1 ih => ?_) (by decide)
  rw [r_RM_factsOf_5]
  simp only [r_RM_factsOf_7, r_RM_factsOf_9, r_RM_factsOf_12, r_RM_factsOf_13, r_RM_factsOf_14, r_RM_factsOf_17, r_RM_factsOf_18, r_RM_factsOf_19, r_RM_factsOf_20, r_RM_factsOf_22, r_RM_factsOf_25, r_RM_factsOf_26, r_RM_factsOf_27, r_RM_factsOf_30, r_RM_factsOf_31, r_RM_factsOf_34, r_RM_factsOf_35, r_RM_factsOf_36, r_RM_factsOf_37, r_RM_factsOf_40, r_RM_factsOf_43, r_RM_factsOf_44, true_and, and_true, or_true, true_or, or_false, false_or, false_and, and_false, not_true_eq_false, not_false_eq_true, implies_true, true_implies, false_implies]
  refine ⟨r32 (by omega) (by omega), r32 (by decide) (by decide), fun q => ?_, fun q => ?_⟩
  · rw [show e = 8 by omega]; rfl
  · refine Cal.I (fact_s M) ⟨by omega, by omega, ?_⟩
    have hr := hR (8 * k + e) (by omega) (by omega)
    rw [hr.1]
    have hih := ih (by omega)
    rw [cntI_s _ e0, show k * 8 + e = 8 * k + e by omega] at hih
    refine ⟨r32 (by omega) (by omega), fun q2 => ?_, fun q2 => ?_⟩
    · rw [if_neg (by rw [decide_eq_true_eq]; omega)] at hih; exact hih
    · rw [if_pos (by rw [decide_eq_true_eq]; omega)] at hih; exact hih
theorem RR.m {ρ : Rw} {M : Mem} (hV : VR ρ) (hR : RR ρ M) {b : Int} (hb : b = 136 ∨ b = 168) : ∀ j, 0 ≤ j → j < 32 → M.1 144 (b + j) = ρ (b + j) ∧ 0 ≤ ρ (b + j) ∧ ρ (b + j) ≤ 9 := fun j a c => by
  have hv := hV.2.2.2.2.2.2.2.2.1 j a c
  refine ⟨hR _ (by omega) (by omega), ?_⟩
  rcases hb with rfl | rfl <;> omega
theorem M_cause {σ : St} {M : Mem} (h : MI σ M) (hV : VS σ) {k e w : Int} (hk : R32 k) (he : R32 e) (hw : R32 w) : Cal Y_RM_cause [vR 141, vI k, vI e, vI w] M (Qm (s_cause σ k e w) M) := by
  have hc := nC_bd hV.1
  have ⟨h0, k0⟩ := th0 h
  refine Cal.mk (y := Y_RM_cause) (loc := [vR 141, vI k, vI e, vI w, vN, vN]) G_RM_cause rfl (by decide) rfl rfl (Nat.le_of_ble_eq_true rfl) ?_
  simp only [r_RM_cause_0, r_RM_cause_1, r_RM_cause_2, r_RM_cause_5, r_RM_cause_6, r_RM_cause_7, r_RM_cause_10, r_RM_cause_13, r_RM_cause_14, r_RM_cause_15, r_RM_cause_16, r_RM_cause_19, r_RM_cause_22, r_RM_cause_25, r_RM_cause_26, r_RM_cause_27, r_RM_cause_30, r_RM_cause_31, r_RM_cause_34, r_RM_cause_35, r_RM_cause_36, r_RM_cause_37, r_RM_cause_40, r_RM_cause_41, r_RM_cause_43, r_RM_cause_44, r_RM_cause_47, r_RM_cause_49, r_RM_cause_50, r_RM_cause_52, r_RM_cause_54, r_RM_cause_55, r_RM_cause_58, r_RM_cause_59, r_RM_cause_61, r_RM_cause_64, r_RM_cause_65, r_RM_cause_66, true_and, and_true, or_true, true_or, or_false, false_or, false_and, and_false, not_true_eq_false, not_false_eq_true, implies_true, true_implies, false_implies]
  refine (isFact_s _ hk he).Be (fun q => ⟨hw, in_n hw.l (l64 (by decide) (by decide)) (l64 (by decide) (by decide)) (fun q2 => ?_) (fun q2 => Qm.ref h0 k0 (Or.inl rfl) (if_pos (by omega)))⟩) (fun q => Qm.ref h0 k0 (Or.inl rfl) (if_pos (by omega)))
  have e1 : s_cause σ k e w = if σ.1 (136 + (k * 8 + e)) = w then (-4, rfs σ (-4)) else if σ.1 (136 + (k * 8 + e)) = 0 ∧ 12 < nC σ.1 + kc σ.1 k then (-5, rfs σ (-5)) else (σ.1 (136 + (k * 8 + e)), act σ 5 (rs σ.1 (136 + (k * 8 + e)) w)) := if_neg (by omega)
  have hv := hV.1.2.2.2.2.2.2.2.2.1 (k * 8 + e) (by omega) (by omega)
  refine Cal.I (fact_s _) ?_
  rw [show (8 : Int) * k + e = k * 8 + e by omega, h0.1 (136 + (k * 8 + e)) (by omega) (by omega)]
  refine ⟨by omega, by omega, r32 (by omega) (by omega), hw, fun q3 => ?_, fun q3 => Qm.ref h0 k0 (Or.inr (Or.inr (Or.inl rfl))) (e1.trans (if_pos (by omega)))⟩
  have e2 : s_cause σ k e w = if σ.1 (136 + (k * 8 + e)) = 0 ∧ 12 < nC σ.1 + kc σ.1 k then (-5, rfs σ (-5)) else (σ.1 (136 + (k * 8 + e)), act σ 5 (rs σ.1 (136 + (k * 8 + e)) w)) := e1.trans (if_neg q3)
  refine (M_number hV h0).mono ?_
  rintro _ M1 ⟨rfl, n1, h1, k1⟩
  have kk := k0.trans k1.m
  have go : ¬ (σ.1 (136 + (k * 8 + e)) = 0 ∧ 12 < nC σ.1 + kc σ.1 k) → Run C_RM_cause (Qm (s_cause σ k e w) M) 96 [vR 141, vI k, vI e, vI w, vI (136 + (k * 8 + e)), vI (σ.1 (136 + (k * 8 + e)))] [] M1 := fun z => by
    simp only [r_RM_cause_96, r_RM_cause_97, r_RM_cause_98, true_and, and_true, or_true, true_or, or_false, false_or, false_and, and_false, not_true_eq_false, not_false_eq_true, implies_true, true_implies, false_implies]
    rw [e2, if_neg z]
    refine (M_remember h1 5).mono ?_
    rintro _ M2 ⟨rfl, h2, k2, -⟩
    simp only [r_RM_cause_101, r_RM_cause_102, r_RM_cause_105, r_RM_cause_107, r_RM_cause_108, r_RM_cause_109, r_RM_cause_110, r_RM_cause_112, r_RM_cause_115, true_and, and_true, or_true, true_or, or_false, false_or, false_and, and_false, not_true_eq_false, not_false_eq_true, implies_true, true_implies, false_implies]
    exact ⟨by omega, by omega, Qm.tell (h2.w (136 + (k * 8 + e)) w) ((kk.trans k2).w (by unfold KM; decide)) rfl⟩
  simp only [r_RM_cause_69, r_RM_cause_71, r_RM_cause_74, r_RM_cause_75, r_RM_cause_78, r_RM_cause_79, r_RM_cause_80, r_RM_cause_83, r_RM_cause_84, r_RM_cause_86, r_RM_cause_89, r_RM_cause_90, r_RM_cause_92, true_and, and_true, or_true, true_or, or_false, false_or, false_and, and_false, not_true_eq_false, not_false_eq_true, implies_true, true_implies, false_implies, n1.1]
  have hkc := cntI_bd (fun o => decide (σ.1 (6 + o) = k)) (n := σ.1 0) hV.1.1.1
  have hkc' : kc σ.1 k = cntI (fun o => decide (σ.1 (6 + o) = k)) (σ.1 0) := rfl
  have h00 := hV.1.1
  refine ⟨r32 (by omega) (by omega), fun q4 => go (by omega), fun q4 => Cal.I (ofKind_s hV.1 h1.1 hk) ⟨r32 (by omega) (by omega), r32 (by decide) (by decide), fun q5 => go (by omega), fun q5 => ?_⟩⟩
  simp only [r_RM_cause_95, true_and, and_true, or_true, true_or, or_false, false_or, false_and, and_false, not_true_eq_false, not_false_eq_true, implies_true, true_implies, false_implies]
  exact Qm.ref h1 kk (Or.inr (Or.inr (Or.inr rfl))) (e2.trans (if_pos (by omega)))
theorem nS_an {ρ : Rw} (hV : VR (anew ρ)) : nS (anew ρ) = nS ρ := by
  have e0 : anew ρ 0 = ρ 0 := anew_oth (by decide)
  have h0 := hV.1
  rw [e0] at h0
  exact nS_cong h0 (fun o a b => by
    have := hV.2.2.2.2.1 o a (by rw [e0]; exact b)
    rw [anew_oth (by omega)] at this
    exact this) e0 (fun i a b => anew_oth (by omega)) (fun i a b => anew_oth (by omega))
theorem M_others {ρ : Rw} {s2 : List (Int × Rw) × (Int → Option Rw) × Rw × Rw × Int} {M : Mem} (hV : VR (anew ρ)) (h : MI (ρ, s2) M) : Cal Y_RM_others [vR 141] M (fun r M' => r = none ∧ MI (anew ρ, s2) M' ∧ M'.1 141 15 = nS ρ ∧ Kp KM M M') := by
  have hs := nS_bd hV
  rw [nS_an hV] at hs
  refine Cal.mk (y := Y_RM_others) (loc := [vR 141]) G_RM_others rfl (by decide) rfl rfl (Nat.le_of_ble_eq_true rfl) ?_
  simp only [r_RM_others_0, r_RM_others_1, true_and, and_true, or_true, true_or, or_false, false_or, false_and, and_false, not_true_eq_false, not_false_eq_true, implies_true, true_implies, false_implies]
  refine (number_s hV (fun i z => by rw [anew_oth (by omega)]; exact h.1 i (by omega) (by omega))).mono ?_
  rintro _ M1 ⟨rfl, n1, k1, -, -⟩
  have h1 := h.kr k1
  have e15 : M1.1 141 15 = nS ρ := by rw [n1.2.1, nS_an hV]
  simp only [r_RM_others_4, r_RM_others_5, r_RM_others_8, r_RM_others_9, r_RM_others_10, r_RM_others_11, r_RM_others_14, r_RM_others_15, r_RM_others_16, r_RM_others_17, r_RM_others_18, r_RM_others_19, r_RM_others_22, r_RM_others_23, r_RM_others_24, r_RM_others_25, r_RM_others_26, r_RM_others_29, r_RM_others_30, r_RM_others_31, r_RM_others_32, true_and, and_true, or_true, true_or, or_false, false_or, false_and, and_false, not_true_eq_false, not_false_eq_true, implies_true, true_implies, false_implies, e15, p2_def]
  refine ⟨⟨hs.1, by omega⟩, by decide, by decide, by decide, by decide, by decide, by decide, ?_, ?_, ?_⟩
  · exact ((h1.w 4 (p2 (nS ρ) - 1)).w 5 0).w 3 0
  · rw [wI_c (by decide), wI_c (by decide), wI_c (by decide)]; exact e15
  · exact ((k1.m.w (by unfold KM; decide)).w (by unfold KM; decide)).w (by unfold KM; decide)
theorem M_sign {σ : St} {M : Mem} (h : MI σ M) (hV : VS σ) {k e : Int} (hk : R32 k) (he : R32 e) : Cal Y_RM_sign [vR 141, vI k, vI e] M (Qm (s_sign σ k e) M) := by
  have hs := nS_bd hV.1
  have h00 := hV.1.1
  have ⟨h0, k0⟩ := th0 h
  refine Cal.mk (y := Y_RM_sign) (loc := [vR 141, vI k, vI e, vN]) G_RM_sign rfl (by decide) rfl rfl (Nat.le_of_ble_eq_true rfl) ?_
  simp only [r_RM_sign_0, r_RM_sign_1, r_RM_sign_2, r_RM_sign_5, r_RM_sign_6, r_RM_sign_7, r_RM_sign_10, r_RM_sign_13, r_RM_sign_14, r_RM_sign_15, r_RM_sign_18, r_RM_sign_19, r_RM_sign_22, r_RM_sign_23, r_RM_sign_24, r_RM_sign_25, r_RM_sign_28, r_RM_sign_29, r_RM_sign_30, r_RM_sign_31, true_and, and_true, or_true, true_or, or_false, false_or, false_and, and_false, not_true_eq_false, not_false_eq_true, implies_true, true_implies, false_implies]
  refine (isFact_s _ hk he).Bn (fun q => ?_) (fun q => Qm.ref h0 k0 (Or.inl rfl) (if_pos (by omega)))
  have e1 : s_sign σ k e = if σ.1 (168 + (k * 8 + e)) = 0 ∧ 12 < nS σ.1 + kc σ.1 k then (-5, rfs σ (-5)) else (nS (rs σ.1 (168 + (k * 8 + e)) (1 - σ.1 (168 + (k * 8 + e)))), act σ 6 (anew (rs σ.1 (168 + (k * 8 + e)) (1 - σ.1 (168 + (k * 8 + e)))))) := if_neg (by omega)
  have hv := hV.1.2.2.2.2.2.2.2.2.1 (k * 8 + e) (by omega) (by omega)
  refine Cal.I (fact_s _) ?_
  rw [show (8 : Int) * k + e = k * 8 + e by omega]
  refine (M_number hV h0).mono ?_
  rintro _ M1 ⟨rfl, n1, h1, k1⟩
  have kk := k0.trans k1.m
  have go : ¬ (σ.1 (168 + (k * 8 + e)) = 0 ∧ 12 < nS σ.1 + kc σ.1 k) → Run C_RM_sign (Qm (s_sign σ k e) M) 65 [vR 141, vI k, vI e, vI (168 + (k * 8 + e))] [] M1 := fun z => by
    have hVs := (VR_sign hV.1 (k := k) (e := e) (by omega) (by omega) (by omega) (by omega) z).1
    simp only [r_RM_sign_65, r_RM_sign_66, r_RM_sign_68, true_and, and_true, or_true, true_or, or_false, false_or, false_and, and_false, not_true_eq_false, not_false_eq_true, implies_true, true_implies, false_implies]
    rw [e1, if_neg z]
    refine (M_remember h1 6).mono ?_
    rintro _ M2 ⟨rfl, h2, k2, -⟩
    simp only [r_RM_sign_71, r_RM_sign_72, r_RM_sign_75, r_RM_sign_76, r_RM_sign_77, r_RM_sign_78, r_RM_sign_81, r_RM_sign_82, r_RM_sign_83, r_RM_sign_84, r_RM_sign_85, r_RM_sign_86, true_and, and_true, or_true, true_or, or_false, false_or, false_and, and_false, not_true_eq_false, not_false_eq_true, implies_true, true_implies, false_implies, show M2.1 144 (168 + (k * 8 + e)) = σ.1 (168 + (k * 8 + e)) from h2.1 _ (by omega) (by omega)]
    refine ⟨by omega, by omega, by omega, by omega, ?_⟩
    refine (M_others hVs (h2.w (168 + (k * 8 + e)) (1 - σ.1 (168 + (k * 8 + e))))).mono ?_
    rintro _ M3 ⟨rfl, h3, e15, k3⟩
    simp only [r_RM_sign_89, r_RM_sign_90, r_RM_sign_91, r_RM_sign_94, r_RM_sign_97, true_and, and_true, or_true, true_or, or_false, false_or, false_and, and_false, not_true_eq_false, not_false_eq_true, implies_true, true_implies, false_implies, e15]
    exact Qm.tell h3 (((kk.trans k2).w (by unfold KM; decide)).trans k3) rfl
  simp only [r_RM_sign_34, r_RM_sign_35, r_RM_sign_38, r_RM_sign_39, r_RM_sign_40, r_RM_sign_43, r_RM_sign_44, r_RM_sign_47, r_RM_sign_48, r_RM_sign_49, r_RM_sign_52, r_RM_sign_53, r_RM_sign_55, r_RM_sign_58, r_RM_sign_59, r_RM_sign_61, true_and, and_true, or_true, true_or, or_false, false_or, false_and, and_false, not_true_eq_false, not_false_eq_true, implies_true, true_implies, false_implies, n1.2.1, show M1.1 144 (168 + (k * 8 + e)) = σ.1 (168 + (k * 8 + e)) from h1.1 _ (by omega) (by omega)]
  have hkc := cntI_bd (fun o => decide (σ.1 (6 + o) = k)) (n := σ.1 0) hV.1.1.1
  have hkc' : kc σ.1 k = cntI (fun o => decide (σ.1 (6 + o) = k)) (σ.1 0) := rfl
  refine ⟨by omega, by omega, r32 (by omega) (by omega), fun q4 => go (by omega), fun q4 => Cal.I (ofKind_s hV.1 h1.1 hk) ⟨r32 (by omega) (by omega), r32 (by decide) (by decide), fun q5 => go (by omega), fun q5 => ?_⟩⟩
  simp only [r_RM_sign_64, true_and, and_true, or_true, true_or, or_false, false_or, false_and, and_false, not_true_eq_false, not_false_eq_true, implies_true, true_implies, false_implies]
  exact Qm.ref h1 kk (Or.inr (Or.inr (Or.inr rfl))) (e1.trans (if_pos (by omega)))
theorem M_object {σ : St} {M : Mem} (h : MI σ M) (hV : VS σ) {k : Int} (hk : R32 k) : Cal Y_RM_object [vR 141, vI k] M (Qm (s_object σ k) M) := by
  have hs := nS_bd hV.1
  have hc := nC_bd hV.1
  have h00 := hV.1.1
  have m1 := mk_bd σ.1 136 k
  have m2 := mk_bd σ.1 168 k
  have ⟨h0, k0⟩ := th0 h
  refine Cal.mk (y := Y_RM_object) (loc := [vR 141, vI k, vN]) G_RM_object rfl (by decide) rfl rfl (Nat.le_of_ble_eq_true rfl) ?_
  simp only [r_RM_object_0, r_RM_object_1, r_RM_object_2, r_RM_object_5, r_RM_object_6, r_RM_object_7, r_RM_object_8, r_RM_object_11, r_RM_object_14, r_RM_object_17, r_RM_object_18, r_RM_object_19, r_RM_object_22, r_RM_object_23, r_RM_object_24, true_and, and_true, or_true, true_or, or_false, false_or, false_and, and_false, not_true_eq_false, not_false_eq_true, implies_true, true_implies, false_implies]
  refine ⟨hk, in_n hk.l (l64 (by decide) (by decide)) (l64 (by decide) (by decide)) (fun q => ?_) (fun q => Qm.ref h0 k0 (Or.inl rfl) (if_pos (by omega)))⟩
  have e1 : s_object σ k = if 10 ≤ σ.1 0 ∨ 12 < nC σ.1 + mk σ.1 136 k ∨ 12 < nS σ.1 + mk σ.1 168 k then (-5, rfs σ (-5)) else (σ.1 0, act σ 0 (if 0 < mk σ.1 168 k then anew (addO σ.1 k) else addO σ.1 k)) := if_neg (by omega)
  refine (M_number hV h0).mono ?_
  rintro _ M1 ⟨rfl, n1, h1, k1⟩
  have kk := k0.trans k1.m
  have no : (10 ≤ σ.1 0 ∨ 12 < nC σ.1 + mk σ.1 136 k ∨ 12 < nS σ.1 + mk σ.1 168 k) → Run C_RM_object (Qm (s_object σ k) M) 76 [vR 141, vI k, vI (σ.1 0)] [] M1 := fun z => by
    simp only [r_RM_object_76, r_RM_object_77, r_RM_object_79, r_RM_object_82, true_and, and_true, or_true, true_or, or_false, false_or, false_and, and_false, not_true_eq_false, not_false_eq_true, implies_true, true_implies, false_implies]
    exact Qm.ref h1 kk (Or.inr (Or.inr (Or.inr rfl))) (e1.trans (if_pos z))
  simp only [r_RM_object_27, r_RM_object_28, r_RM_object_31, r_RM_object_32, r_RM_object_33, r_RM_object_34, r_RM_object_35, r_RM_object_37, r_RM_object_40, r_RM_object_41, r_RM_object_44, r_RM_object_45, r_RM_object_48, r_RM_object_49, r_RM_object_52, r_RM_object_53, r_RM_object_55, true_and, and_true, or_true, true_or, or_false, false_or, false_and, and_false, not_true_eq_false, not_false_eq_true, implies_true, true_implies, false_implies, n1.1, show M1.1 144 0 = σ.1 0 from h1.1 0 (by decide) (by decide)]
  refine ⟨by decide, by decide, r32 (by omega) (by omega), r32 (by decide) (by decide), fun q2 => no (by omega), fun q2 => ?_⟩
  refine Cal.I (factsOf_s (Or.inl rfl) (by omega) (by omega) (h1.1.m hV.1 (Or.inl rfl))) ⟨r32 (by omega) (by omega), r32 (by decide) (by decide), fun q3 => no (by omega), fun q3 => ?_⟩
  simp only [r_RM_object_58, r_RM_object_59, r_RM_object_62, r_RM_object_63, r_RM_object_66, r_RM_object_67, r_RM_object_70, r_RM_object_71, r_RM_object_73, true_and, and_true, or_true, true_or, or_false, false_or, false_and, and_false, not_true_eq_false, not_false_eq_true, implies_true, true_implies, false_implies, n1.2.1]
  refine Cal.I (factsOf_s (Or.inr rfl) (by omega) (by omega) (h1.1.m hV.1 (Or.inr rfl))) ⟨r32 (by omega) (by omega), r32 (by decide) (by decide), fun q4 => ?_, fun q4 => no (by omega)⟩
  rw [e1, if_neg (by omega)]
  simp only [r_RM_object_83, r_RM_object_84, r_RM_object_85, true_and, and_true, or_true, true_or, or_false, false_or, false_and, and_false, not_true_eq_false, not_false_eq_true, implies_true, true_implies, false_implies]
  refine (M_remember h1 0).mono ?_
  rintro _ M2 ⟨rfl, h2, k2, -⟩
  simp only [r_RM_object_88, r_RM_object_89, r_RM_object_92, r_RM_object_94, r_RM_object_95, r_RM_object_96, r_RM_object_97, r_RM_object_98, r_RM_object_99, r_RM_object_102, r_RM_object_103, r_RM_object_104, r_RM_object_105, r_RM_object_106, r_RM_object_107, r_RM_object_108, r_RM_object_109, r_RM_object_112, r_RM_object_113, true_and, and_true, or_true, true_or, or_false, false_or, false_and, and_false, not_true_eq_false, not_false_eq_true, implies_true, true_implies, false_implies]
  refine ⟨by omega, by omega, by decide, by decide, by decide, by decide, ?_⟩
  have e4 : (wI M2 144 (6 + σ.1 0) k).1 144 0 = σ.1 0 := by rw [wI_oth (by omega)]; exact h2.1 0 (by decide) (by decide)
  rw [e4]
  have h3 := (h2.w (6 + σ.1 0) k).w 0 (σ.1 0 + 1)
  generalize hM3 : wI (wI M2 144 (6 + σ.1 0) k) 144 0 (σ.1 0 + 1) = M3 at h3 ⊢
  have k3 : Kp KM M M3 := by rw [← hM3]; exact ((kk.trans k2).w (by unfold KM; decide)).w (by unfold KM; decide)
  have hva := VR_addO hV.1 (k := k) (by omega) (by omega) (by omega) (by omega) (by omega)
  refine Cal.I (factsOf_s (ρ := σ.1) (Or.inr rfl) (by omega) (by omega) (fun j a b => ?_)) ?_
  · have hv := hV.1.2.2.2.2.2.2.2.2.1 j a b
    refine ⟨?_, by omega, by omega⟩
    rw [h3.1 (168 + j) (by omega) (by omega)]
    show rs (rs σ.1 (6 + σ.1 0) k) 0 (σ.1 0 + 1) (168 + j) = σ.1 (168 + j)
    rw [rs_oth (by omega), rs_oth (by omega)]
  · simp only [r_RM_object_116, r_RM_object_119, r_RM_object_120, true_and, and_true, or_true, true_or, or_false, false_or, false_and, and_false, not_true_eq_false, not_false_eq_true, implies_true, true_implies, false_implies]
    refine ⟨r32 (by omega) (by omega), fun q5 => ?_, fun q5 => ?_⟩
    · rw [if_neg (by omega)]
      simp only [r_RM_object_123, r_RM_object_124, r_RM_object_125, r_RM_object_128, true_and, and_true, or_true, true_or, or_false, false_or, false_and, and_false, not_true_eq_false, not_false_eq_true, implies_true, true_implies, false_implies]
      exact Qm.tell h3 k3 rfl
    · rw [if_pos (by omega)]
      refine (M_others (ρ := addO σ.1 k) hva.2 h3).mono ?_
      rintro _ M4 ⟨rfl, h4, -, k4⟩
      simp only [r_RM_object_123, r_RM_object_124, r_RM_object_125, r_RM_object_128, true_and, and_true, or_true, true_or, or_false, false_or, false_and, and_false, not_true_eq_false, not_false_eq_true, implies_true, true_implies, false_implies]
      exact Qm.tell h4 (k3.trans k4) rfl
