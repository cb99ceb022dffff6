/-! distance, nearest, groups, group, ordered, ofCause, ofSign of the class -/
noncomputable def q_distance (ρ : Rw) (c o w : Int) : Int := if (c < 0 ∨ nC ρ ≤ c) ∨ (¬ o = -1 ∧ (o < 0 ∨ nC ρ ≤ o)) ∨ (w < 0 ∨ 2 ≤ w) then -1 else if w = 0 then gp ρ (gC ρ c) (if o = -1 then 0 else gC ρ o) else pcI (ixor (gC ρ c) (if o = -1 then 0 else gC ρ o))
theorem X_distance {σ : St} {M : Mem} (h : XI σ M) (hV : VS σ) {c o w : Int} (hc : R32 c) (ho : R32 o) (hw : R32 w) : Cal Y_CB_distance [vR 0, vI c, vI o, vI w] M (Qx (q_distance σ.1 c o w, σ) M) := by
  have hn := nC_bd hV.1
  have hbk := bk_bd hV.1
  have no : ∀ l4, (c < 0 ∨ nC σ.1 ≤ c) ∨ (¬ o = -1 ∧ (o < 0 ∨ nC σ.1 ≤ o)) → Run C_CB_distance (Qx (q_distance σ.1 c o w, σ) M) 25 [vR 0, vI c, vI o, vI w, l4, vN, vN] [] M := by
    intro l4 z
    simp only [r_CB_distance_25, r_CB_distance_26, r_CB_distance_28, r_CB_distance_30, r_CB_distance_33, r_CB_distance_34, r_CB_distance_35, r_CB_distance_38, r_CB_distance_41, r_CB_distance_42, true_and, and_true, or_true, true_or, or_false, false_or, false_and, and_false, not_true_eq_false, not_false_eq_true, implies_true, true_implies, false_implies]
    refine ⟨r32 (by decide) (by decide), Qx.q h Kp.rf ?_⟩
    unfold q_distance; rw [if_pos (by omega)]
  have yes : ∀ l4, ¬ (c < 0 ∨ nC σ.1 ≤ c) → ¬ (¬ o = -1 ∧ (o < 0 ∨ nC σ.1 ≤ o)) → Run C_CB_distance (Qx (q_distance σ.1 c o w, σ) M) 21 [vR 0, vI c, vI o, vI w, l4, vN, vN] [] M := by
    intro l4 z1 z2
    simp only [r_CB_distance_21, r_CB_distance_22, r_CB_distance_25, r_CB_distance_26, r_CB_distance_28, r_CB_distance_30, r_CB_distance_33, r_CB_distance_34, r_CB_distance_35, r_CB_distance_38, r_CB_distance_41, r_CB_distance_42, r_CB_distance_43, r_CB_distance_44, r_CB_distance_47, true_and, and_true, or_true, true_or, or_false, false_or, false_and, and_false, not_true_eq_false, not_false_eq_true, implies_true, true_implies, false_implies]
    refine ⟨r32 (by decide) (by decide), fun y => absurd y (by decide), fun _ => ?_⟩
    refine out_eq hw R2 (fun q3 => Qx.q h Kp.rf (by unfold q_distance; rw [if_pos (Or.inr (Or.inr q3))])) (fun q3 => ?_)
    refine (X_renew hV h).mono ?_
    rintro _ M1 ⟨rfl, h1, k1⟩
    have D := h1.dx hV
    have hg := gC_bd hV.1 c
    have ee : q_distance σ.1 c o w = if w = 0 then gp σ.1 (gC σ.1 c) (if o = -1 then 0 else gC σ.1 o) else pcI (ixor (gC σ.1 c) (if o = -1 then 0 else gC σ.1 o)) := if_neg (by omega)
    have fin : ∀ g, 0 ≤ g → g < 4096 → g = (if o = -1 then 0 else gC σ.1 o) → Run C_CB_distance (Qx (q_distance σ.1 c o w, σ) M) 68 [vR 0, vI c, vI o, vI w, vI 1, vN, vN] [vI g] M1 := by
      intro g g0 g1 eg
      simp only [r_CB_distance_68, r_CB_distance_70, r_CB_distance_71, r_CB_distance_74, r_CB_distance_77, r_CB_distance_78, r_CB_distance_79, r_CB_distance_81, r_CB_distance_82, r_CB_distance_84, r_CB_distance_85, r_CB_distance_88, r_CB_distance_90, r_CB_distance_91, r_CB_distance_94, r_CB_distance_97, r_CB_distance_98, r_CB_distance_101, r_CB_distance_103, r_CB_distance_106, true_and, and_true, or_true, true_or, or_false, false_or, false_and, and_false, not_true_eq_false, not_false_eq_true, implies_true, true_implies, false_implies]
      refine ⟨by omega, by omega, ?_⟩
      rw [D.2.2.2.2.2.1 c (by omega) (by omega), D.2.2.2.1]
      have hx := x12 hg.1 hg.2.2 g0 g1
      have ha := iand_bd hx.1 (by omega) hbk.1
      rw [← eg] at ee
      refine ⟨hw, fun q4 => ?_, fun q4 => ?_⟩
      · exact Cal.I (bitCount_s M1 hx.1 (by omega)) (Qx.q h1.1 (k1.x (fun c z => by omega)) (by rw [ee, if_neg q4]))
      · exact Cal.I (bitCount_s M1 ha.1 (by omega)) (Qx.q h1.1 (k1.x (fun c z => by omega)) (by rw [ee, if_pos (Classical.not_not.1 q4)]; rfl))
    simp only [r_CB_distance_50, r_CB_distance_51, r_CB_distance_52, r_CB_distance_55, r_CB_distance_56, r_CB_distance_59, r_CB_distance_60, r_CB_distance_63, r_CB_distance_66, r_CB_distance_67, true_and, and_true, or_true, true_or, or_false, false_or, false_and, and_false, not_true_eq_false, not_false_eq_true, implies_true, true_implies, false_implies]
    refine ⟨ho, r32 (by decide) (by decide), fun q4 => ⟨by omega, by omega, ?_⟩, fun q4 => fin 0 (by decide) (by decide) (by rw [if_pos (by omega)])⟩
    have hg2 := gC_bd hV.1 o
    rw [D.2.2.2.2.2.1 o (by omega) (by omega)]
    exact fin _ hg2.1 hg2.2.2 (by rw [if_neg q4])
  refine Cal.mk (y := Y_CB_distance) (loc := [vR 0, vI c, vI o, vI w, vN, vN, vN]) G_CB_distance rfl (by decide) rfl rfl (Nat.le_of_ble_eq_true rfl) ?_
  simp only [r_CB_distance_0, r_CB_distance_1, r_CB_distance_2, r_CB_distance_5, r_CB_distance_8, r_CB_distance_9, r_CB_distance_10, r_CB_distance_13, r_CB_distance_14, r_CB_distance_15, r_CB_distance_18, true_and, and_true, or_true, true_or, or_false, false_or, false_and, and_false, not_true_eq_false, not_false_eq_true, implies_true, true_implies, false_implies]
  refine (noSuchCause_s hV h hc).Bn (fun q => no _ (Or.inl q)) (fun q => ?_)
  refine ⟨ho, r32 (by decide) (by decide), fun q2 => yes _ q (fun y => y.1 q2), fun q2 => ?_⟩
  exact (noSuchCause_s hV h ho).Bn (fun q3 => no _ (Or.inr ⟨q2, q3⟩)) (fun q3 => yes _ q (fun y => q3 y.2))
noncomputable def q_nearest (ρ : Rw) (w : Int) : Int := if nC ρ = 0 ∨ (w < 0 ∨ 5 ≤ w) then -1 else if w = 0 then lst ρ (ρ 5) else if w = 1 then pcI (nr ρ (ρ 5)) else if w = 2 then fb (nr ρ (ρ 5)) else if w = 3 then nr ρ (ρ 5) else if lob ρ (ρ 5) = 1000000 then -1 else lob ρ (ρ 5)
theorem X_nearest {σ : St} {M : Mem} (h : XI σ M) (hV : VS σ) {w : Int} (hw : R32 w) : Cal Y_CB_nearest [vR 0, vI w] M (Qx (q_nearest σ.1 w, σ) M) := by
  have hn := nC_bd hV.1
  have e0 := XI_nC hV.1 h
  have hse := se_bd hV.1
  refine Cal.mk (y := Y_CB_nearest) (loc := [vR 0, vI w, vN]) G_CB_nearest rfl (by decide) rfl rfl (Nat.le_of_ble_eq_true rfl) ?_
  simp only [r_CB_nearest_0, r_CB_nearest_1, r_CB_nearest_4, r_CB_nearest_7, r_CB_nearest_10, r_CB_nearest_11, r_CB_nearest_12, r_CB_nearest_15, r_CB_nearest_18, r_CB_nearest_19, r_CB_nearest_20, r_CB_nearest_21, r_CB_nearest_24, true_and, and_true, or_true, true_or, or_false, false_or, false_and, and_false, not_true_eq_false, not_false_eq_true, implies_true, true_implies, false_implies, e0]
  refine ⟨r32 (by omega) (by omega), fun q => Qx.q h Kp.rf (by unfold q_nearest; rw [if_pos (Or.inl q)]), fun q => ?_⟩
  refine out_eq hw R5 (fun q2 => Qx.q h Kp.rf (by unfold q_nearest; rw [if_pos (Or.inr q2)])) (fun q2 => ?_)
  have ee : q_nearest σ.1 w = if w = 0 then lst σ.1 (σ.1 5) else if w = 1 then pcI (nr σ.1 (σ.1 5)) else if w = 2 then fb (nr σ.1 (σ.1 5)) else if w = 3 then nr σ.1 (σ.1 5) else if lob σ.1 (σ.1 5) = 1000000 then -1 else lob σ.1 (σ.1 5) := if_neg (by omega)
  refine (X_renew hV h).mono ?_
  rintro _ M1 ⟨rfl, h1, k1⟩
  have D := h1.dx hV
  simp only [r_CB_nearest_27, r_CB_nearest_28, r_CB_nearest_31, r_CB_nearest_32, r_CB_nearest_35, r_CB_nearest_38, true_and, and_true, or_true, true_or, or_false, false_or, false_and, and_false, not_true_eq_false, not_false_eq_true, implies_true, true_implies, false_implies, D.2.2.2.2.1]
  refine (nearestTo_s D hse.1 hse.2).mono ?_
  rintro _ M2 ⟨rfl, e2, k2⟩
  have h2 := h1.kp k2 (fun c a => by omega) (fun c a b => by omega) (fun c a b => by omega)
  have D2 := h2.dx hV
  have hb := nr_bd hV.1 (σ.1 5)
  have kk := (k1.x (fun c z => by omega)).trans (k2.x (fun c z => by omega))
  refine ⟨_, rfl, ?_⟩
  simp only [r_CB_nearest_41, r_CB_nearest_42, r_CB_nearest_43, r_CB_nearest_72, r_CB_nearest_73, r_CB_nearest_76, r_CB_nearest_79, r_CB_nearest_80, r_CB_nearest_81, r_CB_nearest_84, r_CB_nearest_85, r_CB_nearest_86, r_CB_nearest_89, r_CB_nearest_90, r_CB_nearest_91, r_CB_nearest_92, r_CB_nearest_93, r_CB_nearest_96, r_CB_nearest_97, r_CB_nearest_100, true_and, and_true, or_true, true_or, or_false, false_or, false_and, and_false, not_true_eq_false, not_false_eq_true, implies_true, true_implies, false_implies, e2]
  refine ⟨hw, ⟨fun q3 => Qx.q h2.1 kk ?_, fun q3 => ?_, fun q3 => ?_, fun q3 => Qx.q h2.1 kk ?_⟩, fun q3 => ?_⟩
  · rw [ee, if_pos q3]
  · exact Cal.I (bitCount_s M2 hb.1 (by omega)) (Qx.q h2.1 kk (by rw [ee, if_neg (by omega), if_pos q3]))
  · exact Cal.I (firstOf_s M2 hb.1 hb.2.2) (Qx.q h2.1 kk (by rw [ee, if_neg (by omega), if_neg (by omega), if_pos q3]))
  · rw [ee, if_neg (by omega), if_neg (by omega), if_neg (by omega), if_pos q3]
  · exact Cal.I (leastBeside_s D2) (Qx.q h2.1 kk (ee.trans ((if_neg (by omega)).trans ((if_neg (by omega)).trans ((if_neg (by omega)).trans (if_neg (by omega)))))).symm)
noncomputable def q_groups (ρ : Rw) (w : Int) : Int := if w < 0 ∨ 5 ≤ w then -1 else if w = 0 then cntI (fun c => decide (lg ρ c = c)) (nC ρ) else if w = 1 then (if mg ρ (nC ρ) = 1000000 then -1 else mg ρ (nC ρ)) else if w = 2 then (if mg ρ (nC ρ) = 1000000 then -1 else Int.tdiv (mg ρ (nC ρ) - 1) 2) else if w = 3 then lke ρ 0 else sno ρ
theorem X_groups {σ : St} {M : Mem} (h : XI σ M) (hV : VS σ) {w : Int} (hw : R32 w) : Cal Y_CB_groups [vR 0, vI w] M (Qx (q_groups σ.1 w, σ) M) := by
  refine Cal.mk (y := Y_CB_groups) (loc := [vR 0, vI w, vN]) G_CB_groups rfl (by decide) rfl rfl (Nat.le_of_ble_eq_true rfl) ?_
  simp only [r_CB_groups_0, r_CB_groups_1, r_CB_groups_2, r_CB_groups_5, r_CB_groups_8, r_CB_groups_9, r_CB_groups_10, r_CB_groups_11, r_CB_groups_14, true_and, and_true, or_true, true_or, or_false, false_or, false_and, and_false, not_true_eq_false, not_false_eq_true, implies_true, true_implies, false_implies]
  refine out_eq hw R5 (fun q2 => Qx.q h Kp.rf (by unfold q_groups; rw [if_pos q2])) (fun q2 => ?_)
  have ee : q_groups σ.1 w = if w = 0 then cntI (fun c => decide (lg σ.1 c = c)) (nC σ.1) else if w = 1 then (if mg σ.1 (nC σ.1) = 1000000 then -1 else mg σ.1 (nC σ.1)) else if w = 2 then (if mg σ.1 (nC σ.1) = 1000000 then -1 else Int.tdiv (mg σ.1 (nC σ.1) - 1) 2) else if w = 3 then lke σ.1 0 else sno σ.1 := if_neg (by omega)
  refine (X_renew hV h).mono ?_
  rintro _ M1 ⟨rfl, h1, k1⟩
  have D := h1.dx hV
  have hm := mg_bd σ.1 (nC σ.1) (nC_bd hV.1).1
  have kk := k1.x (fun c z => by omega)
  simp only [r_CB_groups_17, r_CB_groups_18, r_CB_groups_21, true_and, and_true, or_true, true_or, or_false, false_or, false_and, and_false, not_true_eq_false, not_false_eq_true, implies_true, true_implies, false_implies]
  refine Cal.I (margin_s D) ?_
  simp only [r_CB_groups_24, r_CB_groups_25, r_CB_groups_26, r_CB_groups_56, r_CB_groups_57, r_CB_groups_60, r_CB_groups_63, r_CB_groups_64, r_CB_groups_65, r_CB_groups_67, r_CB_groups_70, r_CB_groups_71, r_CB_groups_74, r_CB_groups_75, r_CB_groups_76, r_CB_groups_77, r_CB_groups_79, r_CB_groups_82, r_CB_groups_83, r_CB_groups_86, r_CB_groups_87, r_CB_groups_88, r_CB_groups_89, r_CB_groups_90, r_CB_groups_91, r_CB_groups_92, r_CB_groups_93, r_CB_groups_96, r_CB_groups_97, r_CB_groups_100, r_CB_groups_101, r_CB_groups_102, r_CB_groups_105, r_CB_groups_108, true_and, and_true, or_true, true_or, or_false, false_or, false_and, and_false, not_true_eq_false, not_false_eq_true, implies_true, true_implies, false_implies]
  refine ⟨hw, ⟨fun q3 => ?_, fun q3 => ⟨r32 (by omega) (by omega), r32 (by decide) (by decide), fun q4 => Qx.q h1.1 kk ?_, fun q4 => Qx.q h1.1 kk ?_⟩, fun q3 => ⟨r32 (by omega) (by omega), r32 (by decide) (by decide), fun q4 => ⟨⟨r32 (by omega) (by omega), by decide, by decide⟩, Qx.q h1.1 kk ?_⟩, fun q4 => Qx.q h1.1 kk ?_⟩, fun q3 => ?_⟩, fun q3 => ?_⟩
  · exact Cal.I (groupCount_s D) (Qx.q h1.1 kk (by rw [ee, if_pos q3]))
  · rw [ee, if_neg (by omega), if_pos q3, if_neg q4]
  · rw [ee, if_neg (by omega), if_pos q3, if_pos (by omega)]
  · rw [ee, if_neg (by omega), if_neg (by omega), if_pos q3, if_neg q4]
  · rw [ee, if_neg (by omega), if_neg (by omega), if_pos q3, if_pos (by omega)]
  · exact Cal.I (causesLike_s D (by decide) (by decide)) (Qx.q h1.1 kk (by rw [ee, if_neg (by omega), if_neg (by omega), if_neg (by omega), if_pos q3]))
  · exact Cal.I (signsInNone_s D) (Qx.q h1.1 kk (by rw [ee, if_neg (by omega), if_neg (by omega), if_neg (by omega), if_neg (by omega)]))
noncomputable def q_group (ρ : Rw) (c : Int) : Int := if c < 0 ∨ nC ρ ≤ c then -1 else lg ρ c
theorem X_group {σ : St} {M : Mem} (h : XI σ M) (hV : VS σ) {c : Int} (hc : R32 c) : Cal Y_CB_group [vR 0, vI c] M (Qx (q_group σ.1 c, σ) M) := by
  refine Cal.mk (y := Y_CB_group) (loc := [vR 0, vI c]) G_CB_group rfl (by decide) rfl rfl (Nat.le_of_ble_eq_true rfl) ?_
  simp only [r_CB_group_0, r_CB_group_1, r_CB_group_2, r_CB_group_5, r_CB_group_8, r_CB_group_9, r_CB_group_10, r_CB_group_11, r_CB_group_14, true_and, and_true, or_true, true_or, or_false, false_or, false_and, and_false, not_true_eq_false, not_false_eq_true, implies_true, true_implies, false_implies]
  refine (noSuchCause_s hV h hc).Be (fun q => Qx.q h Kp.rf (by unfold q_group; rw [if_pos q])) (fun q => ?_)
  refine (X_renew hV h).mono ?_
  rintro _ M1 ⟨rfl, h1, k1⟩
  simp only [r_CB_group_17, r_CB_group_18, r_CB_group_21, r_CB_group_22, r_CB_group_25, true_and, and_true, or_true, true_or, or_false, false_or, false_and, and_false, not_true_eq_false, not_false_eq_true, implies_true, true_implies, false_implies]
  exact Cal.I (leastOfGroup_s (h1.dx hV) (by omega) (by omega)) (Qx.q h1.1 (k1.x (fun c z => by omega)) (by unfold q_group; rw [if_neg q]))
noncomputable def q_ordered (ρ : Rw) (c i : Int) : Int := if c < 0 ∨ nC ρ ≤ c then -1 else ord ρ c i
theorem X_ordered {σ : St} {M : Mem} (h : XI σ M) (hV : VS σ) {c i : Int} (hc : R32 c) (hi : R32 i) : Cal Y_CB_ordered [vR 0, vI c, vI i] M (Qx (q_ordered σ.1 c i, σ) M) := by
  refine Cal.mk (y := Y_CB_ordered) (loc := [vR 0, vI c, vI i]) G_CB_ordered rfl (by decide) rfl rfl (Nat.le_of_ble_eq_true rfl) ?_
  simp only [r_CB_ordered_0, r_CB_ordered_1, r_CB_ordered_2, r_CB_ordered_5, r_CB_ordered_8, r_CB_ordered_9, r_CB_ordered_10, r_CB_ordered_11, r_CB_ordered_14, true_and, and_true, or_true, true_or, or_false, false_or, false_and, and_false, not_true_eq_false, not_false_eq_true, implies_true, true_implies, false_implies]
  refine (noSuchCause_s hV h hc).Be (fun q => Qx.q h Kp.rf (by unfold q_ordered; rw [if_pos q])) (fun q => ?_)
  refine (X_renew hV h).mono ?_
  rintro _ M1 ⟨rfl, h1, k1⟩
  simp only [r_CB_ordered_17, r_CB_ordered_18, r_CB_ordered_21, r_CB_ordered_22, r_CB_ordered_23, r_CB_ordered_26, true_and, and_true, or_true, true_or, or_false, false_or, false_and, and_false, not_true_eq_false, not_false_eq_true, implies_true, true_implies, false_implies]
  exact Cal.I (signAtRank_s (h1.dx hV) (by omega) (by omega) hi) (Qx.q h1.1 (k1.x (fun c z => by omega)) (by unfold q_ordered; rw [if_neg q]))
noncomputable def q_ofCause (ρ : Rw) (c w : Int) : Int := if (c < 0 ∨ nC ρ ≤ c) ∨ (w < 0 ∨ 5 ≤ w) then -1 else if w = 0 then cf (tau ρ) c / 8 else if w = 1 then cf (tau ρ) c % 8 else if w = 2 then wC (tau ρ) (cf (tau ρ) c) else if w = 3 then pcI (gC ρ c) else lsT ρ c
theorem X_ofCause {σ : St} {M : Mem} (h : XI σ M) (hV : VS σ) {c w : Int} (hc : R32 c) (hw : R32 w) : Cal Y_CB_ofCause [vR 0, vI c, vI w] M (Qx (q_ofCause σ.1 c w, σ) M) := by
  have hn := nC_bd hV.1
  refine Cal.mk (y := Y_CB_ofCause) (loc := [vR 0, vI c, vI w]) G_CB_ofCause rfl (by decide) rfl rfl (Nat.le_of_ble_eq_true rfl) ?_
  simp only [r_CB_ofCause_0, r_CB_ofCause_1, r_CB_ofCause_2, r_CB_ofCause_5, r_CB_ofCause_8, r_CB_ofCause_9, r_CB_ofCause_10, r_CB_ofCause_13, r_CB_ofCause_16, r_CB_ofCause_17, r_CB_ofCause_18, r_CB_ofCause_19, r_CB_ofCause_22, true_and, and_true, or_true, true_or, or_false, false_or, false_and, and_false, not_true_eq_false, not_false_eq_true, implies_true, true_implies, false_implies]
  refine (noSuchCause_s hV h hc).Bn (fun q => Qx.q h Kp.rf (by unfold q_ofCause; rw [if_pos (Or.inl q)])) (fun q => ?_)
  refine out_eq hw R5 (fun q2 => Qx.q h Kp.rf (by unfold q_ofCause; rw [if_pos (Or.inr q2)])) (fun q2 => ?_)
  have ee : q_ofCause σ.1 c w = if w = 0 then cf (tau σ.1) c / 8 else if w = 1 then cf (tau σ.1) c % 8 else if w = 2 then wC (tau σ.1) (cf (tau σ.1) c) else if w = 3 then pcI (gC σ.1 c) else lsT σ.1 c := if_neg (by omega)
  refine (X_renew hV h).mono ?_
  rintro _ M1 ⟨rfl, h1, k1⟩
  have D := h1.dx hV
  have kk := k1.x (fun c z => by omega)
  have hb := gC_bd hV.1 c
  obtain ⟨x0, x1, x2, x3, x4, x5, x6⟩ := h1.1.rc.ca (VR_tau hV.1) (c := c) (by omega) (by rw [nC_t hV]; omega)
  simp only [r_CB_ofCause_25, r_CB_ofCause_26, r_CB_ofCause_56, r_CB_ofCause_57, r_CB_ofCause_60, r_CB_ofCause_63, r_CB_ofCause_64, r_CB_ofCause_65, r_CB_ofCause_66, r_CB_ofCause_67, r_CB_ofCause_70, r_CB_ofCause_73, r_CB_ofCause_74, r_CB_ofCause_75, r_CB_ofCause_76, r_CB_ofCause_77, r_CB_ofCause_80, r_CB_ofCause_83, r_CB_ofCause_84, r_CB_ofCause_85, r_CB_ofCause_86, r_CB_ofCause_87, r_CB_ofCause_90, r_CB_ofCause_93, r_CB_ofCause_94, r_CB_ofCause_95, r_CB_ofCause_98, r_CB_ofCause_99, r_CB_ofCause_100, r_CB_ofCause_103, r_CB_ofCause_104, r_CB_ofCause_107, true_and, and_true, or_true, true_or, or_false, false_or, false_and, and_false, not_true_eq_false, not_false_eq_true, implies_true, true_implies, false_implies, x4, x5, x6]
  refine ⟨hw, ⟨fun q3 => ⟨by omega, by omega, Qx.q h1.1 kk ?_⟩, fun q3 => ⟨by omega, by omega, Qx.q h1.1 kk ?_⟩, fun q3 => ⟨by omega, by omega, Qx.q h1.1 kk ?_⟩, fun q3 => ⟨by omega, by omega, ?_⟩⟩, fun q3 => ?_⟩
  · rw [ee, if_pos q3]
  · rw [ee, if_neg (by omega), if_pos q3]
  · rw [ee, if_neg (by omega), if_neg (by omega), if_pos q3]
  · rw [D.2.2.2.2.2.1 c (by omega) (by omega)]
    exact Cal.I (bitCount_s M1 hb.1 (by omega)) (Qx.q h1.1 kk (by rw [ee, if_neg (by omega), if_neg (by omega), if_neg (by omega), if_pos q3]))
  · exact Cal.I (lastSignTime_s D (by omega) (by omega)) (Qx.q h1.1 kk (by rw [ee, if_neg (by omega), if_neg (by omega), if_neg (by omega), if_neg (by omega)]))
noncomputable def q_ofSign (ρ : Rw) (s w : Int) : Int := if (s < 0 ∨ nS ρ ≤ s) ∨ (w < 0 ∨ 5 ≤ w) then -1 else if w = 0 then sf (tau ρ) s / 8 else if w = 1 then sf (tau ρ) s % 8 else if w = 2 then (if bit (ρ 4) s = true then 1 else 0) else if w = 3 then (if bit (ρ 5) s = true then 1 else 0) else cw ρ s
theorem X_ofSign {σ : St} {M : Mem} (h : XI σ M) (hV : VS σ) {s w : Int} (hs : R32 s) (hw : R32 w) : Cal Y_CB_ofSign [vR 0, vI s, vI w] M (Qx (q_ofSign σ.1 s w, σ) M) := by
  have hn := nS_bd hV.1
  have e0 := XI_nS hV.1 h
  have hb := bk_bd hV.1
  have hse := se_bd hV.1
  refine Cal.mk (y := Y_CB_ofSign) (loc := [vR 0, vI s, vI w]) G_CB_ofSign rfl (by decide) rfl rfl (Nat.le_of_ble_eq_true rfl) ?_
  simp only [r_CB_ofSign_0, r_CB_ofSign_1, r_CB_ofSign_2, r_CB_ofSign_5, r_CB_ofSign_8, r_CB_ofSign_11, r_CB_ofSign_14, r_CB_ofSign_15, r_CB_ofSign_16, r_CB_ofSign_19, r_CB_ofSign_22, r_CB_ofSign_23, r_CB_ofSign_24, r_CB_ofSign_25, r_CB_ofSign_56, r_CB_ofSign_57, r_CB_ofSign_60, r_CB_ofSign_63, r_CB_ofSign_64, r_CB_ofSign_65, r_CB_ofSign_66, r_CB_ofSign_67, r_CB_ofSign_70, r_CB_ofSign_73, r_CB_ofSign_74, r_CB_ofSign_75, r_CB_ofSign_76, r_CB_ofSign_77, r_CB_ofSign_80, r_CB_ofSign_83, r_CB_ofSign_84, r_CB_ofSign_85, r_CB_ofSign_86, r_CB_ofSign_87, r_CB_ofSign_88, r_CB_ofSign_89, r_CB_ofSign_92, r_CB_ofSign_95, r_CB_ofSign_96, r_CB_ofSign_97, r_CB_ofSign_98, r_CB_ofSign_99, r_CB_ofSign_100, r_CB_ofSign_101, r_CB_ofSign_104, true_and, and_true, or_true, true_or, or_false, false_or, false_and, and_false, not_true_eq_false, not_false_eq_true, implies_true, true_implies, false_implies, e0]
  refine out_ne hs (r32 (by omega) (by omega)) (fun q => Qx.q h Kp.rf (by unfold q_ofSign; rw [if_pos (by omega)])) (fun q => ?_)
  refine out_eq hw R5 (fun q2 => Qx.q h Kp.rf (by unfold q_ofSign; rw [if_pos (Or.inr q2)])) (fun q2 => ?_)
  have ee : q_ofSign σ.1 s w = if w = 0 then sf (tau σ.1) s / 8 else if w = 1 then sf (tau σ.1) s % 8 else if w = 2 then (if bit (σ.1 4) s = true then 1 else 0) else if w = 3 then (if bit (σ.1 5) s = true then 1 else 0) else cw σ.1 s := if_neg (by omega)
  obtain ⟨x0, x1, x2, x3, x4, x5⟩ := h.rs.si (VR_tau hV.1) (c := s) (by omega) (by rw [nS_t hV]; omega)
  rw [x4, x5, h.1.1 4 (by decide) (by decide), h.1.1 5 (by decide) (by decide), shr_bit hb.1 (by omega), shr_bit hse.1 (by omega)]
  refine ⟨hw, ⟨fun q3 => ⟨by omega, by omega, Qx.q h Kp.rf ?_⟩, fun q3 => ⟨by omega, by omega, Qx.q h Kp.rf ?_⟩, fun q3 => ⟨⟨r32 (by omega) (by omega), by omega, by omega⟩, Qx.q h Kp.rf ?_⟩, fun q3 => ⟨⟨r32 (by omega) (by omega), by omega, by omega⟩, Qx.q h Kp.rf ?_⟩⟩, fun q3 => ?_⟩
  · rw [ee, if_pos q3]
  · rw [ee, if_neg (by omega), if_pos q3]
  · exact (ee.trans ((if_neg (by omega)).trans ((if_neg (by omega)).trans (if_pos q3)))).symm
  · exact (ee.trans ((if_neg (by omega)).trans ((if_neg (by omega)).trans ((if_neg (by omega)).trans (if_pos q3))))).symm
  · refine (X_renew hV h).mono ?_
    rintro _ M1 ⟨rfl, h1, k1⟩
    simp only [r_CB_ofSign_107, r_CB_ofSign_108, r_CB_ofSign_111, r_CB_ofSign_112, r_CB_ofSign_115, true_and, and_true, or_true, true_or, or_false, false_or, false_and, and_false, not_true_eq_false, not_false_eq_true, implies_true, true_implies, false_implies]
    exact Cal.I (causesWith_s (h1.dx hV) (by omega) (by omega)) (Qx.q h1.1 (k1.x (fun c z => by omega)) (by rw [ee, if_neg (by omega), if_neg (by omega), if_neg (by omega), if_neg (by omega)]))
