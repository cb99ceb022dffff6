/-! the reference: groups, group, hold, ask -/
theorem ixor_comm' {a b : Int} (a0 : 0 ≤ a) (a1 : a < 4096) (b0 : 0 ≤ b) (b1 : b < 4096) : ixor a b = ixor b a := by
  apply bit_ext (x12 a0 a1 b0 b1).1 (x12 b0 b1 a0 a1).1
  intro i hi
  rw [bit_ixor a0 (by omega) b0 (by omega), bit_ixor b0 (by omega) a0 (by omega), Bool.xor_comm]
theorem ixor_self' {a : Int} (a0 : 0 ≤ a) (a1 : a < 4096) : ixor a a = 0 := by
  apply bit_ext (x12 a0 a1 a0 a1).1 (Int.le_refl _)
  intro i hi
  rw [bit_ixor a0 (by omega) a0 (by omega), bit_0, Bool.xor_self]
theorem ixor_0' {a : Int} (a0 : 0 ≤ a) (a1 : a < 4096) : ixor a 0 = a := by
  apply bit_ext (x12 a0 a1 (by decide) (by decide)).1 a0
  intro i hi
  rw [bit_ixor a0 (by omega) (by decide) (by decide), bit_0, Bool.xor_false]
theorem zero_iand (a : Int) (a0 : 0 ≤ a) : iand 0 a = 0 := by
  have := iand_bd (a := 0) (b := a) (by decide) (by decide) a0
  omega
theorem pc_0 {a : Int} (a0 : 0 ≤ a) (a1 : a < 1073741824) : pcI a = 0 ↔ a = 0 := by
  constructor
  · intro h
    rcases Int.lt_or_le 0 a with q | q
    · have := pc_clear q a1
      have := pcI_bd (iand a (a - 1))
      omega
    · omega
  · intro h; rw [h, pcI_z]
theorem gp_comm {ρ : Rw} (hV : VR ρ) (c o : Int) : gp ρ (gC ρ c) (gC ρ o) = gp ρ (gC ρ o) (gC ρ c) := by
  have h1 := gC_bd hV c
  have h2 := gC_bd hV o
  unfold gp
  rw [ixor_comm' h1.1 h1.2.2 h2.1 h2.2.2]
theorem gp_self {ρ : Rw} (hV : VR ρ) (c : Int) : gp ρ (gC ρ c) (gC ρ c) = 0 := by
  have h1 := gC_bd hV c
  unfold gp
  rw [ixor_self' h1.1 h1.2.2, zero_iand _ (bk_bd hV).1, pcI_z]
theorem lke_bit {ρ : Rw} {x c : Int} (c0 : 0 ≤ c) (c1 : c < nC ρ) : (bit (lke ρ x) c = true ↔ gp ρ (gC ρ c) x = 0) := by
  unfold lke
  rw [bsI_bit _ c0, decide_eq_true c1, Bool.true_and, decide_eq_true_eq]
theorem groupOf_s {ρ : Rw} (hV : VR ρ) {M : Mem} (hR : RR ρ M) (hL : LC ρ M) {c : Int} (c0 : 0 ≤ c) (c1 : c < nC ρ) : Cal Y_RM_groupOf [vR 141, vI c] M (fun r M' => r = some (vI (lg ρ c)) ∧ M' = M) := by
  have hc := nC_bd hV
  have hbk := bk_bd hV
  have hg := gC_bd hV c
  refine Cal.mk (y := Y_RM_groupOf) (loc := [vR 141, vI c, vN, vN]) G_RM_groupOf rfl (by decide) rfl rfl (Nat.le_of_ble_eq_true rfl) ?_
  simp only [r_RM_groupOf_0, r_RM_groupOf_1, r_RM_groupOf_2, r_RM_groupOf_3, r_RM_groupOf_4, r_RM_groupOf_5, true_and, and_true, or_true, true_or, or_false, false_or, false_and, and_false, not_true_eq_false, not_false_eq_true, implies_true, true_implies, false_implies]
  have main : ∀ its, c - 0 ≤ its → its ≤ c → gp ρ (gC ρ c) (gC ρ its) = 0 → (∀ o, c - 0 ≤ o → o < its → ¬ gp ρ (gC ρ c) (gC ρ o) = 0) → Run C_RM_groupOf (fun r M' => r = some (vI (lg ρ c)) ∧ M' = M) 6 [vR 141, vI c, vI its, vI (c - 1 - 0)] [] M := by
    refine up_loop (lo := 0) (hi := c) (P := fun j => ∀ its, c - j ≤ its → its ≤ c → gp ρ (gC ρ c) (gC ρ its) = 0 → (∀ o, c - j ≤ o → o < its → ¬ gp ρ (gC ρ c) (gC ρ o) = 0) → Run C_RM_groupOf (fun r M' => r = some (vI (lg ρ c)) ∧ M' = M) 6 [vR 141, vI c, vI its, vI (c - 1 - j)] [] M) (fun j j0 jn ih its i0 i1 i2 i3 => ?_) c0
    rw [r_RM_groupOf_6]
    simp only [r_RM_groupOf_7, r_RM_groupOf_10, r_RM_groupOf_11, r_RM_groupOf_12, r_RM_groupOf_15, r_RM_groupOf_16, r_RM_groupOf_17, r_RM_groupOf_18, r_RM_groupOf_21, r_RM_groupOf_22, r_RM_groupOf_23, r_RM_groupOf_24, r_RM_groupOf_27, r_RM_groupOf_28, r_RM_groupOf_29, r_RM_groupOf_32, r_RM_groupOf_35, r_RM_groupOf_36, r_RM_groupOf_39, r_RM_groupOf_40, r_RM_groupOf_41, r_RM_groupOf_44, r_RM_groupOf_47, r_RM_groupOf_48, true_and, and_true, or_true, true_or, or_false, false_or, false_and, and_false, not_true_eq_false, not_false_eq_true, implies_true, true_implies, false_implies, show M.1 144 4 = ρ 4 from hR 4 (by decide) (by decide)]
    refine ⟨r32 (by omega) (by omega), fun q => ?_, fun q => ⟨c0, by omega, by omega, by omega, by decide, by decide, ?_⟩⟩
    · have ej : c - j = 0 := by omega
      rw [ej] at i3 i0
      have : lg ρ c = its := by
        unfold lg
        refine fb_eq i0 (by omega) ((lke_bit i0 (by omega)).2 (by rw [gp_comm hV]; exact i2)) (fun o a b => ?_)
        cases z : bit (lke ρ (gC ρ c)) o with
        | false => rfl
        | true => exact absurd ((gp_comm hV c o).trans ((lke_bit a (by omega)).1 z)) (i3 o a b)
      rw [this]
    · rw [hL c c0 c1, hL (c - 1 - j) (by omega) (by omega)]
      have hg2 := gC_bd hV (c - 1 - j)
      refine Cal.I (far_s M hg.1 hg.2.2 hg2.1 hg2.2.2 hbk.1) ?_
      rw [show pcI (iand (ixor (gC ρ c) (gC ρ (c - 1 - j))) (ρ 4)) = gp ρ (gC ρ c) (gC ρ (c - 1 - j)) from rfl]
      have hgp := gp_bd ρ (gC ρ c) (gC ρ (c - 1 - j))
      have ih' := ih (by omega)
      rw [show c - 1 - (j + 1) = c - 1 - j + -1 by omega] at ih'
      refine ⟨r32 (by omega) (by omega), fun q2 => ih' its (by omega) i1 i2 (fun o a b => ?_), fun q2 => ih' (c - 1 - j) (by omega) (by omega) (by omega) (fun o a b => by omega)⟩
      by_cases z : o = c - 1 - j
      · rw [z]; exact q2
      · exact i3 o (by omega) b
  have := main c (by omega) (Int.le_refl _) (gp_self hV c) (fun o a b => by omega)
  rw [Int.sub_zero] at this
  exact this
theorem rmargin_s {ρ : Rw} (hV : VR ρ) {M : Mem} (hR : RR ρ M) (hN : NU ρ M) (hL : LC ρ M) : Cal Y_RM_margin [vR 141] M (fun r M' => r = some (vI (if mg ρ (nC ρ) = 1000000 then -1 else mg ρ (nC ρ))) ∧ M' = M) := by
  have hc := nC_bd hV
  have hbk := bk_bd hV
  refine Cal.mk (y := Y_RM_margin) (loc := [vR 141, vN, vN, vN, vN]) G_RM_margin rfl (by decide) rfl rfl (Nat.le_of_ble_eq_true rfl) ?_
  simp only [r_RM_margin_0, r_RM_margin_2, r_RM_margin_3, r_RM_margin_4, true_and, and_true, or_true, true_or, or_false, false_or, false_and, and_false, not_true_eq_false, not_false_eq_true, implies_true, true_implies, false_implies]
  refine up_loop (lo := 0) (hi := nC ρ) (P := fun c => ∀ l3 l4, Run C_RM_margin (fun r M' => r = some (vI (if mg ρ (nC ρ) = 1000000 then -1 else mg ρ (nC ρ))) ∧ M' = M) 5 [vR 141, vI (mg ρ c), vI c, l3, l4] [] M) (fun c c0 c1 ih l3 l4 => ?_) hc.1 _ _
  have hm := mg_bd ρ c c0
  rw [r_RM_margin_5]
  simp only [r_RM_margin_6, r_RM_margin_7, r_RM_margin_10, r_RM_margin_13, r_RM_margin_14, true_and, and_true, or_true, true_or, or_false, false_or, false_and, and_false, not_true_eq_false, not_false_eq_true, implies_true, true_implies, false_implies, hN.1]
  refine ⟨r32 (by omega) (by omega), r32 (by omega) (by omega), fun q => ?_, fun q => ?_⟩
  · simp only [r_RM_margin_74, r_RM_margin_75, r_RM_margin_77, r_RM_margin_80, r_RM_margin_81, r_RM_margin_84, r_RM_margin_85, true_and, and_true, or_true, true_or, or_false, false_or, false_and, and_false, not_true_eq_false, not_false_eq_true, implies_true, true_implies, false_implies]
    rw [show c = nC ρ by omega] at hm ⊢
    refine ⟨r32 (by omega) (by omega), r32 (by decide) (by decide), fun z => by rw [if_neg z], fun z => by rw [if_pos (by omega)]⟩
  · refine up_loop (lo := 0) (hi := c) (P := fun o => ∀ l4, Run C_RM_margin (fun r M' => r = some (vI (if mg ρ (nC ρ) = 1000000 then -1 else mg ρ (nC ρ))) ∧ M' = M) 15 [vR 141, vI (mn (mgF ρ c) (mg ρ c) o), vI c, vI o, l4] [] M) (fun o o0 o1 ih2 l4 => ?_) c0 _
    have hi := mg_in ρ hm.1 hm.2 c0 o0
    rw [r_RM_margin_15]
    simp only [r_RM_margin_16, r_RM_margin_17, r_RM_margin_20, r_RM_margin_21, r_RM_margin_22, r_RM_margin_25, r_RM_margin_26, r_RM_margin_27, r_RM_margin_28, r_RM_margin_31, r_RM_margin_32, r_RM_margin_33, r_RM_margin_34, r_RM_margin_37, r_RM_margin_38, r_RM_margin_39, r_RM_margin_42, r_RM_margin_44, r_RM_margin_46, r_RM_margin_49, r_RM_margin_51, r_RM_margin_52, r_RM_margin_55, r_RM_margin_57, r_RM_margin_60, r_RM_margin_61, r_RM_margin_62, r_RM_margin_65, r_RM_margin_68, r_RM_margin_71, true_and, and_true, or_true, true_or, or_false, false_or, false_and, and_false, not_true_eq_false, not_false_eq_true, implies_true, true_implies, false_implies, show M.1 144 4 = ρ 4 from hR 4 (by decide) (by decide)]
    refine ⟨r32 (by omega) (by omega), r32 (by omega) (by omega), fun q2 => ?_, fun q2 => ⟨c0, by omega, o0, by omega, by decide, by decide, ?_⟩⟩
    · have hih := ih (by omega) (vI o) l4
      rw [show mg ρ (c + 1) = mn (mgF ρ c) (mg ρ c) c by unfold mg; rw [foI_s _ _ c0]] at hih
      rw [show o = c by omega] at hih ⊢
      exact hih
    · rw [hL c c0 (by omega), hL o o0 (by omega)]
      have hb := gC_bd hV c
      have hb2 := gC_bd hV o
      have hg := gp_bd ρ (gC ρ c) (gC ρ o)
      refine Cal.I (far_s M hb.1 hb.2.2 hb2.1 hb2.2.2 hbk.1) ?_
      rw [show pcI (iand (ixor (gC ρ c) (gC ρ o)) (ρ 4)) = gp ρ (gC ρ c) (gC ρ o) from rfl]
      have hih := ih2 (by omega) (vI (gp ρ (gC ρ c) (gC ρ o)))
      rw [mn_s _ _ o0] at hih
      have f1 : 0 < gp ρ (gC ρ c) (gC ρ o) → mgF ρ c o = gp ρ (gC ρ c) (gC ρ o) := fun z => if_pos z
      have f0 : ¬ 0 < gp ρ (gC ρ c) (gC ρ o) → mgF ρ c o = 1000000 := fun z => if_neg z
      refine ⟨r32 (by omega) (by omega), fun q3 => ?_, fun q3 => ⟨r32 (by omega) (by omega), r32 (by omega) (by omega), fun q4 => ?_, fun q4 => ?_⟩⟩
      · rw [f0 (by omega), if_neg (show ¬ 1000000 < mn (mgF ρ c) (mg ρ c) o by omega)] at hih; exact hih
      · rw [f1 (by omega), if_neg (show ¬ gp ρ (gC ρ c) (gC ρ o) < mn (mgF ρ c) (mg ρ c) o by omega)] at hih; exact hih
      · rw [f1 (by omega), if_pos (show gp ρ (gC ρ c) (gC ρ o) < mn (mgF ρ c) (mg ρ c) o by omega)] at hih; exact hih
theorem emptyOnes_s {ρ : Rw} (hV : VR ρ) {M : Mem} (hR : RR ρ M) (hN : NU ρ M) (hL : LC ρ M) : Cal Y_RM_emptyOnes [vR 141] M (fun r M' => r = some (vI (lke ρ 0)) ∧ M' = M) := by
  have hc := nC_bd hV
  have hbk := bk_bd hV
  refine Cal.mk (y := Y_RM_emptyOnes) (loc := [vR 141, vN, vN]) G_RM_emptyOnes rfl (by decide) rfl rfl (Nat.le_of_ble_eq_true rfl) ?_
  simp only [r_RM_emptyOnes_0, r_RM_emptyOnes_1, r_RM_emptyOnes_2, r_RM_emptyOnes_3, true_and, and_true, or_true, true_or, or_false, false_or, false_and, and_false, not_true_eq_false, not_false_eq_true, implies_true, true_implies, false_implies]
  refine up_loop (lo := 0) (hi := nC ρ) (P := fun c => Run C_RM_emptyOnes (fun r M' => r = some (vI (lke ρ 0)) ∧ M' = M) 4 [vR 141, vI (bsI (fun c => decide (gp ρ (gC ρ c) 0 = 0)) c), vI c] [] M) (fun c c0 c1 ih => ?_) hc.1
  have hbd := bsI_bd (fun c => decide (gp ρ (gC ρ c) 0 = 0)) c
  have hp := p2_12 (show c ≤ 12 by omega)
  rw [r_RM_emptyOnes_4]
  simp only [r_RM_emptyOnes_5, r_RM_emptyOnes_6, r_RM_emptyOnes_9, r_RM_emptyOnes_12, r_RM_emptyOnes_13, r_RM_emptyOnes_14, r_RM_emptyOnes_17, r_RM_emptyOnes_18, r_RM_emptyOnes_19, r_RM_emptyOnes_20, r_RM_emptyOnes_23, r_RM_emptyOnes_24, r_RM_emptyOnes_25, r_RM_emptyOnes_26, r_RM_emptyOnes_29, r_RM_emptyOnes_30, r_RM_emptyOnes_31, r_RM_emptyOnes_32, r_RM_emptyOnes_35, r_RM_emptyOnes_36, r_RM_emptyOnes_37, r_RM_emptyOnes_38, r_RM_emptyOnes_41, r_RM_emptyOnes_44, r_RM_emptyOnes_45, true_and, and_true, or_true, true_or, or_false, false_or, false_and, and_false, not_true_eq_false, not_false_eq_true, implies_true, true_implies, false_implies, hN.1, p2_def, show M.1 144 4 = ρ 4 from hR 4 (by decide) (by decide)]
  refine ⟨r32 (by omega) (by omega), r32 (by omega) (by omega), fun q => ?_, fun q => ⟨c0, by omega, by decide, by decide, ?_⟩⟩
  · rw [show c = nC ρ by omega]; rfl
  · rw [hL c c0 (by omega)]
    have hg := gC_bd hV c
    have ha := iand_bd (a := gC ρ c) (b := ρ 4) hg.1 (by omega) hbk.1
    have e : gp ρ (gC ρ c) 0 = pcI (iand (gC ρ c) (ρ 4)) := by unfold gp; rw [ixor_0' hg.1 hg.2.2]
    have hih := ih (by omega)
    rw [bsI_s c0 (by omega), e] at hih
    refine ⟨r32 (by omega) (by omega), fun q2 => ?_, fun q2 => ⟨⟨c0, by omega⟩, ?_⟩⟩
    · rw [if_neg (by rw [decide_eq_true_eq, pc_0 ha.1 (by omega)]; exact q2)] at hih
      rw [ior_0 hbd.1 (by omega)]; exact hih
    · rw [if_pos (by rw [decide_eq_true_eq, pc_0 ha.1 (by omega)]; exact Classical.not_not.1 q2)] at hih
      exact hih
theorem M_groups {σ : St} {M : Mem} (h : MI σ M) (hV : VS σ) {w : Int} (hw : R32 w) : Cal Y_RM_groups [vR 141, vI w] M (Qm (q_groups σ.1 w, σ) M) := by
  have hc := nC_bd hV.1
  have hs := nS_bd hV.1
  have hm := mg_bd σ.1 (nC σ.1) hc.1
  have ⟨h0, k0⟩ := th0 h
  refine Cal.mk (y := Y_RM_groups) (loc := [vR 141, vI w, vN, vN, vN]) G_RM_groups rfl (by decide) rfl rfl (Nat.le_of_ble_eq_true rfl) ?_
  simp only [r_RM_groups_0, r_RM_groups_1, r_RM_groups_2, r_RM_groups_5, r_RM_groups_6, true_and, and_true, or_true, true_or, or_false, false_or, false_and, and_false, not_true_eq_false, not_false_eq_true, implies_true, true_implies, false_implies]
  refine (M_layCodes hV h0).mono ?_
  rintro _ M2 ⟨rfl, ⟨h2, n2, l2⟩, k2⟩
  have kk := k0.trans k2.m
  have p1 := p2_pos (nC σ.1)
  simp only [r_RM_groups_9, r_RM_groups_10, r_RM_groups_11, r_RM_groups_12, r_RM_groups_13, r_RM_groups_14, true_and, and_true, or_true, true_or, or_false, false_or, false_and, and_false, not_true_eq_false, not_false_eq_true, implies_true, true_implies, false_implies]
  refine up_loop (lo := 0) (hi := nC σ.1) (P := fun c => Run C_RM_groups (Qm (q_groups σ.1 w, σ) M) 16 [vR 141, vI w, vI (cntI (fun c => decide (lg σ.1 c = c)) c), vI (foI (unS σ.1 (p2 (nC σ.1) - 1)) 0 c), vI c] [] M2) (fun c c0 c1 ih => ?_) hc.1
  rw [r_RM_groups_16]
  simp only [r_RM_groups_18, r_RM_groups_19, r_RM_groups_22, r_RM_groups_25, r_RM_groups_26, r_RM_groups_27, r_RM_groups_29, r_RM_groups_32, r_RM_groups_34, r_RM_groups_37, r_RM_groups_38, r_RM_groups_41, r_RM_groups_42, r_RM_groups_43, r_RM_groups_44, r_RM_groups_45, r_RM_groups_46, r_RM_groups_49, r_RM_groups_51, r_RM_groups_52, r_RM_groups_53, r_RM_groups_54, r_RM_groups_57, true_and, and_true, or_true, true_or, or_false, false_or, false_and, and_false, not_true_eq_false, not_false_eq_true, implies_true, true_implies, false_implies, n2.1]
  refine ⟨r32 (by omega) (by omega), r32 (by omega) (by omega), fun q => ?_, fun q => ?_⟩
  · simp only [r_RM_groups_60, r_RM_groups_61, r_RM_groups_96, r_RM_groups_97, r_RM_groups_98, r_RM_groups_99, r_RM_groups_102, r_RM_groups_103, r_RM_groups_104, r_RM_groups_107, r_RM_groups_108, r_RM_groups_111, r_RM_groups_112, r_RM_groups_115, r_RM_groups_116, r_RM_groups_119, r_RM_groups_120, r_RM_groups_121, r_RM_groups_122, r_RM_groups_123, r_RM_groups_124, r_RM_groups_125, r_RM_groups_128, r_RM_groups_129, r_RM_groups_130, r_RM_groups_131, r_RM_groups_134, r_RM_groups_135, r_RM_groups_136, r_RM_groups_137, r_RM_groups_138, r_RM_groups_139, r_RM_groups_140, r_RM_groups_141, r_RM_groups_142, r_RM_groups_143, true_and, and_true, or_true, true_or, or_false, false_or, false_and, and_false, not_true_eq_false, not_false_eq_true, implies_true, true_implies, false_implies, n2.2.1, p2_def]
    rw [show c = nC σ.1 by omega]
    refine ⟨hw, ⟨fun z => Qm.q h2 kk (by unfold q_groups; rw [if_neg (by omega), if_pos z]), fun z => Cal.I (rmargin_s hV.1 h2.1 n2 l2) (Qm.q h2 kk (((if_neg (by omega)).trans ((if_neg (by omega)).trans (if_pos z))).symm)), fun z => ?_, fun z => Cal.I (emptyOnes_s hV.1 h2.1 n2 l2) (Qm.q h2 kk (by unfold q_groups; rw [if_neg (by omega), if_neg (by omega), if_neg (by omega), if_neg (by omega), if_pos z])), fun z => ⟨⟨hs.1, by omega⟩, Qm.q h2 kk (by unfold q_groups; rw [if_neg (by omega), if_neg (by omega), if_neg (by omega), if_neg (by omega), if_neg (by omega)]; rfl)⟩⟩, fun z => Qm.q h2 kk (by unfold q_groups; rw [if_pos (by omega)])⟩
    have ee : q_groups σ.1 w = (if mg σ.1 (nC σ.1) = 1000000 then -1 else Int.tdiv (mg σ.1 (nC σ.1) - 1) 2) := (if_neg (by omega)).trans ((if_neg (by omega)).trans ((if_neg (by omega)).trans (if_pos z)))
    refine Cal.I (rmargin_s hV.1 h2.1 n2 l2) ?_
    by_cases y : mg σ.1 (nC σ.1) = 1000000
    · rw [if_pos y] at ee ⊢
      exact ⟨r32 (by decide) (by decide), r32 (by decide) (by decide), fun u => absurd rfl u, fun _ => Qm.q h2 kk ee.symm⟩
    · rw [if_neg y] at ee ⊢
      refine ⟨r32 (by omega) (by omega), r32 (by decide) (by decide), fun _ => Cal.I (rmargin_s hV.1 h2.1 n2 l2) ?_, fun u => by omega⟩
      rw [if_neg y]
      exact ⟨⟨r32 (by omega) (by omega), by decide, by decide⟩, Qm.q h2 kk ee.symm⟩
  · refine Cal.I (groupOf_s hV.1 h2.1 l2 c0 (by omega)) ?_
    have hfb := fb_bd (lke σ.1 (gC σ.1 c))
    have hih := ih (by omega)
    rw [cntI_s _ c0, foI_s _ _ c0, show unS σ.1 (p2 (nC σ.1) - 1) c (foI (unS σ.1 (p2 (nC σ.1) - 1)) 0 c) = ior (foI (unS σ.1 (p2 (nC σ.1) - 1)) 0 c) (gC σ.1 c) from if_pos (by rw [bit_ones hc.1 c0, decide_eq_true_eq]; omega)] at hih
    rw [l2 c c0 (by omega)]
    refine ⟨by unfold lg; exact r32 (by omega) (by omega), r32 (by omega) (by omega), fun q2 => ⟨c0, by omega, ?_⟩, fun q2 => ⟨c0, by omega, ?_⟩⟩
    · rw [if_neg (by rw [decide_eq_true_eq]; exact q2)] at hih; exact hih
    · rw [if_pos (by rw [decide_eq_true_eq]; exact Classical.not_not.1 q2)] at hih; exact hih
theorem M_group {σ : St} {M : Mem} (h : MI σ M) (hV : VS σ) {c : Int} (hc : R32 c) : Cal Y_RM_group [vR 141, vI c] M (Qm (q_group σ.1 c, σ) M) := by
  have hn := nC_bd hV.1
  have ⟨h0, k0⟩ := th0 h
  refine Cal.mk (y := Y_RM_group) (loc := [vR 141, vI c]) G_RM_group rfl (by decide) rfl rfl (Nat.le_of_ble_eq_true rfl) ?_
  simp only [r_RM_group_0, r_RM_group_1, r_RM_group_2, r_RM_group_5, r_RM_group_6, true_and, and_true, or_true, true_or, or_false, false_or, false_and, and_false, not_true_eq_false, not_false_eq_true, implies_true, true_implies, false_implies]
  refine (M_layCodes hV h0).mono ?_
  rintro _ M2 ⟨rfl, ⟨h2, n2, l2⟩, k2⟩
  have kk := k0.trans k2.m
  simp only [r_RM_group_9, r_RM_group_10, r_RM_group_11, r_RM_group_12, r_RM_group_13, r_RM_group_16, r_RM_group_17, r_RM_group_18, r_RM_group_19, r_RM_group_22, r_RM_group_25, r_RM_group_26, r_RM_group_27, r_RM_group_30, r_RM_group_33, r_RM_group_34, true_and, and_true, or_true, true_or, or_false, false_or, false_and, and_false, not_true_eq_false, not_false_eq_true, implies_true, true_implies, false_implies, n2.1]
  refine ⟨hc, r32 (by omega) (by omega), in_e hc.l (l64 (by decide) (by decide)) (l64 (by omega) (by omega)) (fun q => Cal.I (groupOf_s hV.1 h2.1 l2 (by omega) (by omega)) (Qm.q h2 kk (by unfold q_group; rw [if_neg (by omega)]))) (fun q => Qm.q h2 kk (by unfold q_group; rw [if_pos (by omega)]))⟩
theorem M_hold {σ : St} {M : Mem} (h : MI σ M) (hV : VS σ) {w : Int} (hw : R32 w) : Cal Y_RM_hold [vR 141, vI w] M (Qm (q_hold σ.1 w, σ) M) := by
  have hc := nC_bd hV.1
  have hs := nS_bd hV.1
  have hse := se_bd hV.1
  have hbk := bk_bd hV.1
  have hps := p2_12 hs.2
  have hp0 := p2_pos (nS σ.1)
  have hn := nr_bd hV.1 (σ.1 5)
  have ⟨h0, k0⟩ := th0 h
  refine Cal.mk (y := Y_RM_hold) (loc := [vR 141, vI w, vN, vN, vN]) G_RM_hold rfl (by decide) rfl rfl (Nat.le_of_ble_eq_true rfl) ?_
  simp only [r_RM_hold_0, r_RM_hold_1, r_RM_hold_2, r_RM_hold_5, r_RM_hold_6, true_and, and_true, or_true, true_or, or_false, false_or, false_and, and_false, not_true_eq_false, not_false_eq_true, implies_true, true_implies, false_implies]
  refine (M_layCodes hV h0).mono ?_
  rintro _ M2 ⟨rfl, ⟨h2, n2, l2⟩, k2⟩
  have kk := k0.trans k2.m
  simp only [r_RM_hold_9, r_RM_hold_10, r_RM_hold_13, r_RM_hold_16, r_RM_hold_17, r_RM_hold_18, r_RM_hold_19, r_RM_hold_20, r_RM_hold_23, r_RM_hold_26, r_RM_hold_27, r_RM_hold_28, r_RM_hold_29, r_RM_hold_30, r_RM_hold_33, r_RM_hold_34, r_RM_hold_35, true_and, and_true, or_true, true_or, or_false, false_or, false_and, and_false, not_true_eq_false, not_false_eq_true, implies_true, true_implies, false_implies, n2.1]
  refine ⟨r32 (by omega) (by omega), fun q => Qm.q h2 kk ?_, fun q => ⟨hw, in_n hw.l (l64 (by decide) (by decide)) (l64 (by decide) (by decide)) (fun q2 => ?_) (fun q2 => Qm.q h2 kk (by unfold q_hold; rw [if_pos (by omega)]))⟩⟩
  · have nz : ∀ x, nr σ.1 x = 0 := fun x => by unfold nr; rw [q]; rfl
    have hz : ∀ n, 0 ≤ n → foI (hdS σ.1) 0 n = 0 := by
      refine int_ind rfl (fun n hn ih => ?_)
      rw [foI_s _ _ hn, ih]
      unfold hdS
      rw [if_neg]
      rintro ⟨-, -, -, y⟩
      have hb := iandn_bd (a := nr σ.1 (ixor (σ.1 5) n)) (b := nr σ.1 (σ.1 5)) (by rw [nz]; exact Int.le_refl _) (by rw [nz]; decide) (by rw [nz]; exact Int.le_refl _)
      rw [nz (ixor (σ.1 5) n)] at hb y
      omega
    unfold q_hold
    rw [if_pos (Or.inr (by unfold hld; exact hz _ (by omega)))]
  rw [show M2.1 144 5 = σ.1 5 from h2.1 5 (by decide) (by decide)]
  refine ⟨by decide, by decide, (layNearest_s hV.1 h2.1 n2 l2 hse.1 hse.2).mono ?_⟩
  rintro _ M3 ⟨rfl, a3, b3, d3, k3⟩
  simp only [r_RM_hold_38, r_RM_hold_39, r_RM_hold_42, r_RM_hold_43, r_RM_hold_44, r_RM_hold_45, r_RM_hold_46, true_and, and_true, or_true, true_or, or_false, false_or, false_and, and_false, not_true_eq_false, not_false_eq_true, implies_true, true_implies, false_implies, b3]
  have main : ∀ M4, KN M2 M4 → Run C_RM_hold (Qm (q_hold σ.1 w, σ) M) 48 [vR 141, vI w, vI (nr σ.1 (σ.1 5)), vI (if foI (hdS σ.1) 0 1 = 0 then -1 else foI (hdS σ.1) 0 1), vI 1] [] M4 := by
    refine up_loop (lo := 1) (hi := p2 (nS σ.1)) (P := fun k => ∀ M4, KN M2 M4 → Run C_RM_hold (Qm (q_hold σ.1 w, σ) M) 48 [vR 141, vI w, vI (nr σ.1 (σ.1 5)), vI (if foI (hdS σ.1) 0 k = 0 then -1 else foI (hdS σ.1) 0 k), vI k] [] M4) (fun k k1 kn ih M4 k4 => ?_) (by omega)
    have N4 := k4.nu n2
    have R4 := k4.rr h2.1
    have L4 := k4.lc l2
    have h4 := h2.kr k4.kr
    have kk4 := kk.trans k4.kr.m
    have hf := hd_bd σ.1 k (by omega)
    generalize hacc : foI (hdS σ.1) 0 k = acc at hf
    rw [r_RM_hold_48]
    simp only [r_RM_hold_50, r_RM_hold_51, r_RM_hold_52, r_RM_hold_55, r_RM_hold_56, r_RM_hold_59, r_RM_hold_61, r_RM_hold_62, r_RM_hold_65, r_RM_hold_66, r_RM_hold_67, r_RM_hold_68, r_RM_hold_69, r_RM_hold_70, r_RM_hold_73, r_RM_hold_74, r_RM_hold_75, r_RM_hold_78, r_RM_hold_80, r_RM_hold_83, r_RM_hold_84, r_RM_hold_87, r_RM_hold_90, r_RM_hold_91, r_RM_hold_92, r_RM_hold_95, r_RM_hold_96, r_RM_hold_97, r_RM_hold_99, r_RM_hold_100, true_and, and_true, or_true, true_or, or_false, false_or, false_and, and_false, not_true_eq_false, not_false_eq_true, implies_true, true_implies, false_implies, N4.2.1, p2_def, show M4.1 144 4 = σ.1 4 from R4 4 (by decide) (by decide), show M4.1 144 5 = σ.1 5 from R4 5 (by decide) (by decide)]
    refine ⟨⟨hs.1, by omega⟩, r32 (by omega) (by omega), r32 (by omega) (by omega), fun q3 => ?_, fun q3 => ⟨by decide, by decide, ?_⟩⟩
    · simp only [r_RM_hold_127, r_RM_hold_128, r_RM_hold_129, r_RM_hold_132, r_RM_hold_133, r_RM_hold_136, r_RM_hold_137, r_RM_hold_140, r_RM_hold_141, r_RM_hold_144, r_RM_hold_147, r_RM_hold_148, true_and, and_true, or_true, true_or, or_false, false_or, false_and, and_false, not_true_eq_false, not_false_eq_true, implies_true, true_implies, false_implies]
      have ek : k = p2 (nS σ.1) := by omega
      rw [ek] at hacc
      have hh : hld σ.1 = acc := hacc
      by_cases y : acc = 0
      · rw [if_pos y]
        exact ⟨r32 (by decide) (by decide), r32 (by decide) (by decide), fun u => absurd rfl u, fun _ => Qm.q h4 kk4 (by unfold q_hold; rw [if_pos (Or.inr (by omega))])⟩
      · rw [if_neg y]
        have ee : q_hold σ.1 w = if w = 0 then pcI (hld σ.1) else hld σ.1 := if_neg (by omega)
        rw [hh] at ee
        exact ⟨r32 (by omega) (by omega), r32 (by decide) (by decide), fun _ => ⟨hw, fun u => Qm.q h4 kk4 (by rw [ee, if_neg u]), fun u => Cal.I (bits_s M4 (v := acc) (by omega) (by omega)) (Qm.q h4 kk4 (by rw [ee, if_pos (by omega)]))⟩, fun u => by omega⟩
    · have ha := iandn_bd (a := k) (b := σ.1 4) (by omega) (by omega) hbk.1
      have hih := fun M5 a => ih (by omega) M5 a
      rw [foI_s _ _ (by omega), hacc] at hih
      have skip : ¬ (1 ≤ k ∧ iand k (ixor (σ.1 4) (-1)) = 0 ∧ (acc = 0 ∨ pcI k < pcI acc) ∧ ¬ iand (nr σ.1 (ixor (σ.1 5) k)) (ixor (nr σ.1 (σ.1 5)) (-1)) = 0) → ∀ M5, KN M2 M5 → Run C_RM_hold (Qm (q_hold σ.1 w, σ) M) 121 [vR 141, vI w, vI (nr σ.1 (σ.1 5)), vI (if acc = 0 then -1 else acc), vI k] [] M5 := fun y M5 k5 => by
        have e : hdS σ.1 k acc = acc := if_neg y
        rw [e] at hih
        simp only [r_RM_hold_121, r_RM_hold_124, true_and, and_true, or_true, true_or, or_false, false_or, false_and, and_false, not_true_eq_false, not_false_eq_true, implies_true, true_implies, false_implies]
        exact hih M5 k5
      have look : iand k (ixor (σ.1 4) (-1)) = 0 → (acc = 0 ∨ pcI k < pcI acc) → Run C_RM_hold (Qm (q_hold σ.1 w, σ) M) 90 [vR 141, vI w, vI (nr σ.1 (σ.1 5)), vI (if acc = 0 then -1 else acc), vI k] [] M4 := fun y1 y2 => by
        have hx := x12 hse.1 hse.2 (show 0 ≤ k by omega) (by omega)
        have hnx := nr_bd hV.1 (ixor (σ.1 5) k)
        have hni := iandn_bd (a := nr σ.1 (ixor (σ.1 5) k)) (b := nr σ.1 (σ.1 5)) hnx.1 (by omega) hn.1
        simp only [r_RM_hold_90, r_RM_hold_91, r_RM_hold_92, r_RM_hold_95, r_RM_hold_96, r_RM_hold_97, r_RM_hold_99, r_RM_hold_100, true_and, and_true, or_true, true_or, or_false, false_or, false_and, and_false, not_true_eq_false, not_false_eq_true, implies_true, true_implies, false_implies, show M4.1 144 5 = σ.1 5 from R4 5 (by decide) (by decide)]
        refine ⟨by decide, by decide, (layNearest_s hV.1 R4 N4 L4 hx.1 hx.2).mono ?_⟩
        rintro _ M5 ⟨rfl, a5, b5, d5, k5⟩
        simp only [r_RM_hold_103, r_RM_hold_104, r_RM_hold_107, r_RM_hold_108, r_RM_hold_109, r_RM_hold_110, r_RM_hold_111, r_RM_hold_114, r_RM_hold_116, r_RM_hold_119, r_RM_hold_120, true_and, and_true, or_true, true_or, or_false, false_or, false_and, and_false, not_true_eq_false, not_false_eq_true, implies_true, true_implies, false_implies, b5]
        refine ⟨r32 (by omega) (by omega), fun y3 => skip (fun z => z.2.2.2 y3) M5 (k4.trans k5), fun y3 => ?_⟩
        have e : hdS σ.1 k acc = k := if_pos ⟨k1, y1, y2, y3⟩
        rw [e, if_neg (show ¬ k = 0 by omega)] at hih
        simp only [r_RM_hold_121, r_RM_hold_124, true_and, and_true, or_true, true_or, or_false, false_or, false_and, and_false, not_true_eq_false, not_false_eq_true, implies_true, true_implies, false_implies]
        exact hih M5 (k4.trans k5)
      refine ⟨r32 (by omega) (by omega), fun y => skip (fun z => y z.2.1) M4 k4, fun y => ?_⟩
      have y' : iand k (ixor (σ.1 4) (-1)) = 0 := Classical.not_not.1 y
      by_cases z : acc = 0
      · have lk := look y' (Or.inl z)
        rw [if_pos z] at lk ⊢
        simp only [r_RM_hold_90, r_RM_hold_91, r_RM_hold_92, r_RM_hold_95, r_RM_hold_96, r_RM_hold_97, r_RM_hold_99, r_RM_hold_100, true_and, and_true, or_true, true_or, or_false, false_or, false_and, and_false, not_true_eq_false, not_false_eq_true, implies_true, true_implies, false_implies, show M4.1 144 5 = σ.1 5 from R4 5 (by decide) (by decide)] at lk
        exact ⟨r32 (by decide) (by decide), r32 (by decide) (by decide), fun _ => lk, fun u => absurd rfl u⟩
      · have hpa := pcI_bd acc
        have hpk := pcI_bd k
        have lk := fun u => look y' (Or.inr u)
        have sk := fun u => skip u M4 k4
        rw [if_neg z] at lk sk ⊢
        simp only [r_RM_hold_90, r_RM_hold_91, r_RM_hold_92, r_RM_hold_95, r_RM_hold_96, r_RM_hold_97, r_RM_hold_99, r_RM_hold_100, true_and, and_true, or_true, true_or, or_false, false_or, false_and, and_false, not_true_eq_false, not_false_eq_true, implies_true, true_implies, false_implies, show M4.1 144 5 = σ.1 5 from R4 5 (by decide) (by decide)] at lk
        refine ⟨r32 (by omega) (by omega), r32 (by decide) (by decide), fun u => by omega, fun _ => Cal.I (bits_s M4 (v := k) (by omega) (by omega)) (Cal.I (bits_s M4 (v := acc) (by omega) (by omega)) ⟨r32 (by omega) (by omega), r32 (by omega) (by omega), fun u => sk (fun v => by omega), fun u => ?_⟩)⟩
        rw [show M4.1 144 5 = σ.1 5 from R4 5 (by decide) (by decide)]
        exact lk (by omega)
  exact main M3 k3
theorem wth_cnt {ρ : Rw} (hV : VR ρ) {s : Int} : wth ρ s = cntI (fun c => bit (nr ρ (ρ 5)) c && bit (gC ρ c) s) (nC ρ) := by
  have hc := nC_bd hV
  have h1 := cw_bd hV s
  have h2 := nr_bd hV (ρ 5)
  have ha := iand_bd (a := cw ρ s) (b := nr ρ (ρ 5)) h1.1 (by omega) h2.1
  have hcw := bsI_bd (fun c => bit (gC ρ c) s) (nC ρ)
  have hlt : iand (cw ρ s) (nr ρ (ρ 5)) < p2 (nC ρ) := Int.lt_of_le_of_lt ha.2 hcw.2
  unfold wth
  rw [pcI_n (n := nC ρ) ha.1 hc.1 (by omega) hlt]
  refine cntI_cong hc.1 (fun c a b => ?_)
  rw [bit_iand h1.1 (by omega) h2.1]
  unfold cw
  rw [bsI_bit _ a, decide_eq_true b, Bool.true_and, Bool.and_comm]
theorem M_ask {σ : St} {M : Mem} (h : MI σ M) (hV : VS σ) {w : Int} (hw : R32 w) : Cal Y_RM_ask [vR 141, vI w] M (Qm (q_ask σ.1 w, σ) M) := by
  have hc := nC_bd hV.1
  have hs := nS_bd hV.1
  have hse := se_bd hV.1
  have hbk := bk_bd hV.1
  have hn := nr_bd hV.1 (σ.1 5)
  have hpn := pcI_bd (nr σ.1 (σ.1 5))
  have ⟨h0, k0⟩ := th0 h
  refine Cal.mk (y := Y_RM_ask) (loc := [vR 141, vI w, vN, vN, vN, vN, vN, vN]) G_RM_ask rfl (by decide) rfl rfl (Nat.le_of_ble_eq_true rfl) ?_
  simp only [r_RM_ask_0, r_RM_ask_1, r_RM_ask_2, r_RM_ask_5, r_RM_ask_6, true_and, and_true, or_true, true_or, or_false, false_or, false_and, and_false, not_true_eq_false, not_false_eq_true, implies_true, true_implies, false_implies]
  refine (M_layCodes hV h0).mono ?_
  rintro _ M2 ⟨rfl, ⟨h2, n2, l2⟩, k2⟩
  have kk := k0.trans k2.m
  simp only [r_RM_ask_9, r_RM_ask_10, r_RM_ask_13, r_RM_ask_16, r_RM_ask_17, r_RM_ask_18, r_RM_ask_19, r_RM_ask_20, r_RM_ask_23, r_RM_ask_26, r_RM_ask_27, r_RM_ask_28, r_RM_ask_29, r_RM_ask_30, r_RM_ask_33, r_RM_ask_34, r_RM_ask_35, true_and, and_true, or_true, true_or, or_false, false_or, false_and, and_false, not_true_eq_false, not_false_eq_true, implies_true, true_implies, false_implies, n2.1]
  refine ⟨r32 (by omega) (by omega), fun q => Qm.q h2 kk ?_, fun q => ⟨hw, in_n hw.l (l64 (by decide) (by decide)) (l64 (by decide) (by decide)) (fun q2 => ?_) (fun q2 => Qm.q h2 kk (by unfold q_ask; rw [if_pos (by omega)]))⟩⟩
  · have nz : nr σ.1 (σ.1 5) = 0 := by unfold nr; rw [q]; rfl
    have e1 : akA σ.1 = -1 := by unfold akA; rw [nz, pcI_z]; rfl
    unfold q_ask
    by_cases z : w < 0 ∨ 2 ≤ w
    · rw [if_pos z]
    · rw [if_neg z, if_pos (Or.inr e1), e1]
  rw [show M2.1 144 5 = σ.1 5 from h2.1 5 (by decide) (by decide)]
  refine ⟨by decide, by decide, (layNearest_s hV.1 h2.1 n2 l2 hse.1 hse.2).mono ?_⟩
  rintro _ M3 ⟨rfl, a3, b3, d3, k3⟩
  have N3 := k3.nu n2
  have R3 := k3.rr h2.1
  have L3 := k3.lc l2
  have h3 := h2.kr k3.kr
  have kk3 := kk.trans k3.kr.m
  have ee : q_ask σ.1 w = if w = 0 ∨ akA σ.1 = -1 then akA σ.1 else akL σ.1 := if_neg (by omega)
  simp only [r_RM_ask_38, r_RM_ask_39, r_RM_ask_42, true_and, and_true, or_true, true_or, or_false, false_or, false_and, and_false, not_true_eq_false, not_false_eq_true, implies_true, true_implies, false_implies, b3]
  refine Cal.I (bits_s M3 hn.1 (by omega)) ?_
  simp only [r_RM_ask_45, r_RM_ask_46, r_RM_ask_47, r_RM_ask_48, r_RM_ask_50, r_RM_ask_52, r_RM_ask_53, true_and, and_true, or_true, true_or, or_false, false_or, false_and, and_false, not_true_eq_false, not_false_eq_true, implies_true, true_implies, false_implies]
  generalize hmy : pcI (nr σ.1 (σ.1 5)) = many at hpn
  -- the end
  have fin : ∀ a p, a = akA σ.1 → (¬ a = -1 → p = akL σ.1) → -1 ≤ a → a ≤ 12 → ∀ l5 l6 l7, Run C_RM_ask (Qm (q_ask σ.1 w, σ) M) 197 [vR 141, vI w, vI many, vI a, vI p, l5, l6, l7] [] M3 := by
    intro a p ea ep a0 a1 l5 l6 l7
    simp only [r_RM_ask_197, r_RM_ask_198, r_RM_ask_199, r_RM_ask_202, r_RM_ask_203, r_RM_ask_206, r_RM_ask_207, r_RM_ask_210, r_RM_ask_211, r_RM_ask_214, r_RM_ask_216, true_and, and_true, or_true, true_or, or_false, false_or, false_and, and_false, not_true_eq_false, not_false_eq_true, implies_true, true_implies, false_implies]
    refine ⟨r32 (by omega) (by omega), r32 (by decide) (by decide), fun y => ⟨hw, fun u => Qm.q h3 kk3 (by rw [ee, if_neg (by omega), ep y]), fun u => Qm.q h3 kk3 (by rw [ee, if_pos (by omega), ea])⟩, fun y => Qm.q h3 kk3 (by rw [ee, if_pos (by omega)]; omega)⟩
  by_cases hm2 : many < 2
  · rw [r_RM_ask_55]
    simp only [r_RM_ask_57, r_RM_ask_58, r_RM_ask_61, r_RM_ask_64, r_RM_ask_65, r_RM_ask_66, true_and, and_true, or_true, true_or, or_false, false_or, false_and, and_false, not_true_eq_false, not_false_eq_true, implies_true, true_implies, false_implies, N3.2.1]
    have eA : (-1 : Int) = akA σ.1 := by unfold akA; rw [hmy, if_pos hm2]
    exact ⟨r32 (by decide) (by decide), r32 (by omega) (by omega), fun _ => fin (-1) 1000000 eA (fun y => absurd rfl y) (by decide) (by decide) _ _ _, fun _ => ⟨r32 (by omega) (by omega), r32 (by decide) (by decide), fun _ => fin (-1) 1000000 eA (fun y => absurd rfl y) (by decide) (by decide) _ _ _, fun y => by omega⟩⟩
  · have eA : akA σ.1 = am (akF σ.1) 1000000 (nS σ.1) := by unfold akA; rw [hmy, if_neg hm2]
    have eL : akL σ.1 = mn (akF σ.1) 1000000 (nS σ.1) := by unfold akL; rw [hmy, if_neg hm2]
    refine up_loop (lo := 0) (hi := nS σ.1) (P := fun s => ∀ l6 l7, Run C_RM_ask (Qm (q_ask σ.1 w, σ) M) 55 [vR 141, vI w, vI many, vI (am (akF σ.1) 1000000 s), vI (mn (akF σ.1) 1000000 s), vI s, l6, l7] [] M3) (fun s s0 sn ih l6 l7 => ?_) hs.1 _ _
    have hab := am_bd (akF σ.1) 1000000 s s0
    have hmn := mn_nn (f := akF σ.1) (z := 1000000) s0 (by decide) (fun k _ _ => by
      have := gtr_bd σ.1 k
      unfold akF; split <;> omega)
    rw [r_RM_ask_55]
    simp only [r_RM_ask_57, r_RM_ask_58, r_RM_ask_61, r_RM_ask_64, r_RM_ask_65, r_RM_ask_66, r_RM_ask_69, r_RM_ask_70, r_RM_ask_73, r_RM_ask_74, r_RM_ask_75, r_RM_ask_77, r_RM_ask_80, r_RM_ask_83, r_RM_ask_84, r_RM_ask_86, r_RM_ask_87, true_and, and_true, or_true, true_or, or_false, false_or, false_and, and_false, not_true_eq_false, not_false_eq_true, implies_true, true_implies, false_implies, N3.2.1, show M3.1 144 4 = σ.1 4 from R3 4 (by decide) (by decide)]
    refine ⟨r32 (by omega) (by omega), r32 (by omega) (by omega), fun y => ?_, fun y => ⟨r32 (by omega) (by omega), r32 (by decide) (by decide), fun y2 => by omega, fun y2 => ⟨by decide, by decide, ?_⟩⟩⟩
    · rw [show s = nS σ.1 by omega] at hab ⊢
      exact fin _ _ eA.symm (fun _ => eL.symm) (by omega) (by omega) _ _ _
    · have hih := fun a b => ih (by omega) a b
      simp only [am_s _ _ s0, mn_s _ _ s0] at hih
      refine rhas_if hbk.1 (by omega) s0 (by omega) (fun y3 => ?_) (fun y3 => ?_)
      · have ef : akF σ.1 s = gtr σ.1 s := if_pos y3
        have hg := gtr_bd σ.1 s
        rw [ef] at hih
        refine up_loop (lo := 0) (hi := nC σ.1) (P := fun c => Run C_RM_ask (Qm (q_ask σ.1 w, σ) M) 89 [vR 141, vI w, vI many, vI (am (akF σ.1) 1000000 s), vI (mn (akF σ.1) 1000000 s), vI s, vI (cntI (fun c => bit (nr σ.1 (σ.1 5)) c && bit (gC σ.1 c) s) c), vI c] [] M3) (fun c c0 cn ihc => ?_) hc.1
        have hcb := cntI_bd (fun c => bit (nr σ.1 (σ.1 5)) c && bit (gC σ.1 c) s) c0
        rw [r_RM_ask_89]
        simp only [r_RM_ask_91, r_RM_ask_92, r_RM_ask_95, r_RM_ask_98, r_RM_ask_100, r_RM_ask_101, r_RM_ask_104, r_RM_ask_106, r_RM_ask_109, r_RM_ask_112, r_RM_ask_113, r_RM_ask_116, r_RM_ask_118, r_RM_ask_119, r_RM_ask_121, r_RM_ask_124, r_RM_ask_127, r_RM_ask_128, r_RM_ask_131, r_RM_ask_132, r_RM_ask_133, r_RM_ask_135, r_RM_ask_138, true_and, and_true, or_true, true_or, or_false, false_or, false_and, and_false, not_true_eq_false, not_false_eq_true, implies_true, true_implies, false_implies, N3.1, b3]
        refine ⟨r32 (by omega) (by omega), r32 (by omega) (by omega), fun z => ?_, fun z => ?_⟩
        · have ec : c = nC σ.1 := by omega
          rw [ec] at hcb ⊢
          rw [← wth_cnt hV.1] at hcb ⊢
          have gd : ∀ g, g = gtr σ.1 s → Run C_RM_ask (Qm (q_ask σ.1 w, σ) M) 159 [vR 141, vI w, vI many, vI (am (akF σ.1) 1000000 s), vI (mn (akF σ.1) 1000000 s), vI s, vI (wth σ.1 s), vI (nC σ.1)] [vI g] M3 := by
            intro g eg
            simp only [r_RM_ask_159, r_RM_ask_161, r_RM_ask_163, r_RM_ask_165, r_RM_ask_168, r_RM_ask_170, r_RM_ask_173, r_RM_ask_174, r_RM_ask_175, r_RM_ask_177, r_RM_ask_179, r_RM_ask_182, r_RM_ask_184, r_RM_ask_187, r_RM_ask_189, r_RM_ask_191, r_RM_ask_194, true_and, and_true, or_true, true_or, or_false, false_or, false_and, and_false, not_true_eq_false, not_false_eq_true, implies_true, true_implies, false_implies]
            rw [eg]
            by_cases u : gtr σ.1 s < mn (akF σ.1) 1000000 s
            · simp only [if_pos u] at hih
              exact ⟨r32 (by omega) (by omega), r32 (by omega) (by omega), fun v => by omega, fun _ => ⟨r32 (by omega) (by omega), r32 (by omega) (by omega), fun v => by omega, fun _ => hih _ _⟩⟩
            · simp only [if_neg u] at hih
              exact ⟨r32 (by omega) (by omega), r32 (by omega) (by omega), fun _ => ⟨r32 (by omega) (by omega), r32 (by omega) (by omega), fun _ => hih _ _, fun v => by omega⟩, fun v => by omega⟩
          simp only [r_RM_ask_141, r_RM_ask_143, r_RM_ask_144, r_RM_ask_146, r_RM_ask_147, r_RM_ask_150, r_RM_ask_152, r_RM_ask_155, r_RM_ask_156, r_RM_ask_158, true_and, and_true, or_true, true_or, or_false, false_or, false_and, and_false, not_true_eq_false, not_false_eq_true, implies_true, true_implies, false_implies]
          have eg : gtr σ.1 s = if wth σ.1 s < many - wth σ.1 s then many - wth σ.1 s else wth σ.1 s := by unfold gtr; rw [hmy]
          refine ⟨r32 (by omega) (by omega), r32 (by omega) (by omega), fun u => gd _ ?_, fun u => gd _ ?_⟩
          · rw [eg]; split <;> omega
          · rw [eg, if_neg (by omega)]
        · have ihc' := ihc (by omega)
          rw [cntI_s _ c0] at ihc'
          have hg2 := gC_bd hV.1 c
          refine rhas_if hn.1 (by omega) c0 (by omega) (fun u => ⟨c0, by omega, ?_⟩) (fun u => ?_)
          · rw [L3 c c0 (by omega)]
            refine rhas_if hg2.1 (by omega) s0 (by omega) (fun v => ?_) (fun v => ?_)
            · rw [if_pos (by rw [u, v]; rfl)] at ihc'; exact ihc'
            · rw [if_neg (by rw [u, Bool.true_and]; exact v)] at ihc'; exact ihc'
          · rw [if_neg (by rw [Bool.and_eq_true]; exact fun v => u v.1)] at ihc'; exact ihc'
      · have ef : akF σ.1 s = 1000000 := if_neg y3
        simp only [ef, if_neg (show ¬ 1000000 < mn (akF σ.1) 1000000 s by omega)] at hih
        simp only [r_RM_ask_191, r_RM_ask_194, true_and, and_true, or_true, true_or, or_false, false_or, false_and, and_false, not_true_eq_false, not_false_eq_true, implies_true, true_implies, false_implies]
        exact hih _ _
