/-! the reference: without, weakest -/
theorem MI.row2 {σ : St} {M M' : Mem} (h : MI σ M) (hR : RR σ.1 M') (hk : Kp (fun c => c = 144 ∨ 149 ≤ c) M M') : MI σ M' := by
  obtain ⟨h1, h2, h3, h4, h5, h6⟩ := h
  have e1 := hk.c (c := 141) (by decide)
  have e2 := hk.c (c := 142) (by decide)
  have e3 := hk.c (c := 143) (by decide)
  have e5 := hk.c (c := 145) (by decide)
  have e6 := hk.c (c := 146) (by decide)
  have e7 := hk.c (c := 147) (by decide)
  have e8 := hk.c (c := 148) (by decide)
  refine ⟨hR, ?_, ?_, ?_, ?_, ?_⟩
  · unfold MU at *; rw [e1, e5, e6]; exact h2
  · unfold MG at *; rw [e7, e8]; exact h3
  · rw [e3]; exact h4
  · rw [e2]; exact h5
  · rw [e1]; exact h6
def KW (c : Nat) : Prop := c = 144 ∨ c = 153 ∨ c = 156
theorem without_s {ρ : Rw} (hV : VR ρ) {M : Mem} (hR : RR ρ M) (hN : NU ρ M) (hC : ∀ c, 0 ≤ c → c < nC ρ → M.1 155 c = gC ρ c) {l : Int} (l0 : 0 ≤ l) (l1 : l < ρ 1) : Cal Y_RM_without [vR 141, vI l] M (fun r M' => r = some (vI (chg (tau ρ) l)) ∧ RR ρ M' ∧ Kp KW M M') := by
  have h1 := hV.2.1
  have hc := nC_bd hV
  have hT := VR_tau hV
  have t1 : tau ρ 1 = ρ 1 := tau_lo (by decide) (by decide)
  have hcb : ∀ w S, 0 ≤ cod (tau ρ) w S ∧ cod (tau ρ) w S < 4096 := fun w S => by
    have h := bsI_bd (fun s => decide (sp (tau ρ) w S (sf (tau ρ) s) < 1000000)) (nS (tau ρ))
    have := p2_12 (nS_bd hT).2
    unfold cod
    omega
  refine Cal.mk (y := Y_RM_without) (loc := [vR 141, vI l, vN, vN]) G_RM_without rfl (by decide) rfl rfl (Nat.le_of_ble_eq_true rfl) ?_
  simp only [r_RM_without_0, r_RM_without_1, true_and, and_true, or_true, true_or, or_false, false_or, false_and, and_false, not_true_eq_false, not_false_eq_true, implies_true, true_implies, false_implies]
  -- the row as it was, again
  have put : ∀ i, 0 ≤ i → i ≤ 60 → ∀ M5 x, Kp KW M M5 → (∀ j, 0 ≤ j → j < 60 → M5.1 156 j = ρ (16 + j)) → (∀ j, 0 ≤ j → j < 240 → M5.1 144 j = if j = 1 then ρ 1 else if 16 ≤ j ∧ j < 16 + i then ρ j else cutL ρ l j) → x = chg (tau ρ) l → Run C_RM_without (fun r M' => r = some (vI (chg (tau ρ) l)) ∧ RR ρ M' ∧ Kp KW M M') 135 [vR 141, vI l, vI x, vI i] [] M5 := by
    intro i i0 i1
    refine up_loop (lo := i) (hi := 60) (P := fun i => ∀ M5 x, Kp KW M M5 → (∀ j, 0 ≤ j → j < 60 → M5.1 156 j = ρ (16 + j)) → (∀ j, 0 ≤ j → j < 240 → M5.1 144 j = if j = 1 then ρ 1 else if 16 ≤ j ∧ j < 16 + i then ρ j else cutL ρ l j) → x = chg (tau ρ) l → Run C_RM_without (fun r M' => r = some (vI (chg (tau ρ) l)) ∧ RR ρ M' ∧ Kp KW M M') 135 [vR 141, vI l, vI x, vI i] [] M5) (fun i a b ih M5 x k5 e5 r5 ex => ?_) i1
    rw [r_RM_without_135]
    simp only [r_RM_without_136, r_RM_without_138, r_RM_without_141, r_RM_without_142, r_RM_without_145, r_RM_without_147, r_RM_without_148, r_RM_without_149, r_RM_without_150, r_RM_without_153, r_RM_without_154, r_RM_without_155, r_RM_without_156, r_RM_without_159, r_RM_without_162, r_RM_without_163, true_and, and_true, or_true, true_or, or_false, false_or, false_and, and_false, not_true_eq_false, not_false_eq_true, implies_true, true_implies, false_implies]
    refine ⟨r32 (by omega) (by omega), r32 (by decide) (by decide), fun q => ?_, fun q => ⟨by omega, by omega, by omega, by omega, ih (by omega) _ x (Kp.w k5 (Or.inl rfl)) (fun j y z => ?_) (fun j y z => ?_) ex⟩⟩
    · rw [ex]
      refine ⟨rfl, fun j y z => ?_, k5⟩
      rw [r5 j y z]
      by_cases p1 : j = 1
      · rw [if_pos p1, p1]
      · rw [if_neg p1]
        by_cases p2 : 16 ≤ j ∧ j < 16 + i
        · rw [if_pos p2]
        · rw [if_neg p2]; exact cutL_oth hV l0 j (by omega) p1
    · rw [wI_c (by decide)]; exact e5 j y z
    · rw [wI_at]
      by_cases p1 : j = 16 + i
      · rw [if_pos ⟨rfl, p1⟩, if_neg (by omega), if_pos (by omega), e5 i (by omega) (by omega), p1]
      · rw [if_neg (fun w => p1 w.2), r5 j y z]
        by_cases p2 : j = 1
        · rw [if_pos p2, if_pos p2]
        · rw [if_neg p2, if_neg p2]
          by_cases p3 : 16 ≤ j ∧ j < 16 + i
          · rw [if_pos p3, if_pos (by omega)]
          · rw [if_neg p3, if_neg (by omega)]
  -- the causes, with the row cut
  have cnt : ∀ M3, Kp KW M M3 → (∀ j, 0 ≤ j → j < 60 → M3.1 156 j = ρ (16 + j)) → RR (cutL ρ l) M3 → Run C_RM_without (fun r M' => r = some (vI (chg (tau ρ) l)) ∧ RR ρ M' ∧ Kp KW M M') 85 [vR 141, vI l, vI 0, vI 0] [] M3 := by
    intro M3 k3 e3 r3
    refine up_loop (lo := 0) (hi := nC ρ) (P := fun c => ∀ M4, Kp (fun c => c = 153) M3 M4 → Run C_RM_without (fun r M' => r = some (vI (chg (tau ρ) l)) ∧ RR ρ M' ∧ Kp KW M M') 85 [vR 141, vI l, vI (cntI (fun c => decide (¬ cod (tau ρ) l (p2 c) = cod (tau ρ) (-1) (p2 c))) c), vI c] [] M4) (fun c c0 c1 ih M4 k4 => ?_) hc.1 M3 Kp.rf
    have kk : Kp KW M M4 := k3.trans (k4.sub (fun c z => Or.inr (Or.inl z)))
    have N4 : NU ρ M4 := hN.kp kk (fun c a b z => by unfold KW at z; omega) (by rw [kk.at (by unfold KW; decide)]) (by rw [kk.at (by unfold KW; decide)])
    have r4 : RR (cutL ρ l) M4 := fun j a b => by rw [k4.at (by decide)]; exact r3 j a b
    have e4 : ∀ j, 0 ≤ j → j < 60 → M4.1 156 j = ρ (16 + j) := fun j a b => by rw [k4.at (by decide)]; exact e3 j a b
    rw [r_RM_without_85]
    simp only [r_RM_without_86, r_RM_without_87, r_RM_without_90, r_RM_without_93, r_RM_without_94, r_RM_without_95, r_RM_without_96, r_RM_without_97, r_RM_without_98, r_RM_without_101, r_RM_without_102, r_RM_without_105, r_RM_without_106, r_RM_without_107, r_RM_without_110, r_RM_without_111, r_RM_without_114, r_RM_without_115, r_RM_without_116, r_RM_without_117, r_RM_without_120, true_and, and_true, or_true, true_or, or_false, false_or, false_and, and_false, not_true_eq_false, not_false_eq_true, implies_true, true_implies, false_implies, N4.1, p2_def]
    refine ⟨r32 (by omega) (by omega), r32 (by omega) (by omega), fun q => ?_, fun q => ⟨⟨c0, by omega⟩, ?_⟩⟩
    · simp only [r_RM_without_123, r_RM_without_124, r_RM_without_127, r_RM_without_128, r_RM_without_129, r_RM_without_130, r_RM_without_131, r_RM_without_132, r_RM_without_133, r_RM_without_134, true_and, and_true, or_true, true_or, or_false, false_or, false_and, and_false, not_true_eq_false, not_false_eq_true, implies_true, true_implies, false_implies, show M4.1 144 1 = ρ 1 - 1 from (r4 1 (by decide) (by decide)).trans (cutL_1 ρ l)]
      refine ⟨by decide, by decide, by decide, by decide, put 0 (by decide) (by decide) _ _ (Kp.w kk (Or.inl rfl)) (fun j a b => by rw [wI_c (by decide)]; exact e4 j a b) (fun j a b => ?_) ?_⟩
      · rw [wI_at]
        by_cases z : j = 1
        · rw [if_pos ⟨rfl, z⟩, if_pos z]; omega
        · rw [if_neg (fun w => z w.2), if_neg z, if_neg (by omega)]; exact r4 j a b
      · unfold chg
        rw [nC_tau hV, show c = nC ρ by omega]
    · have hp := p2_pos c
      have hp2 := p2_lt (a := c) (b := 12) (by omega) (by omega)
      have e12 : p2 12 = 4096 := by decide
      refine (codeOf_s (VR_cutL hT l0 (by omega)) (S := p2 c) (by omega) (by omega) (RT_cut hV l0 r4) (NT_cut hT l0 (N4.t hV))).mono ?_
      rintro _ M5 ⟨rfl, -, k5⟩
      have e5 : M5.1 155 c = cod (tau ρ) (-1) (p2 c) := by
        rw [k5.at (by decide), kk.at (by unfold KW; decide)]; exact hC c c0 (by omega)
      refine ⟨_, rfl, c0, by omega, ?_⟩
      rw [e5, cod_cut hT l0 (by omega)]
      have b1 := hcb l (p2 c)
      have b2 := hcb (-1) (p2 c)
      have hih := ih (by omega) M5 (k4.trans k5)
      rw [cntI_s _ c0] at hih
      refine ⟨r32 (by omega) (by omega), r32 (by omega) (by omega), fun q2 => ?_, fun q2 => ?_⟩
      · rw [if_neg (by rw [decide_eq_true_eq]; omega)] at hih; exact hih
      · rw [if_pos (by rw [decide_eq_true_eq]; exact q2)] at hih; exact hih
  -- the cut
  have cut : ∀ M2, Kp KW M M2 → (∀ j, 0 ≤ j → j < 60 → M2.1 156 j = ρ (16 + j)) → (∀ j, 0 ≤ j → j < 240 → M2.1 144 j = if j = 1 then ρ 1 - 1 else ρ j) → ∀ l3, Run C_RM_without (fun r M' => r = some (vI (chg (tau ρ) l)) ∧ RR ρ M' ∧ Kp KW M M') 43 [vR 141, vI l, vI (3 * l), l3] [] M2 := by
    intro M2 k2 e2 r2 l3
    refine up_loop (lo := 3 * l) (hi := 3 * (ρ 1 - 1)) (P := fun i => ∀ M3, Kp KW M M3 → (∀ j, 0 ≤ j → j < 60 → M3.1 156 j = ρ (16 + j)) → (∀ j, 0 ≤ j → j < 240 → M3.1 144 j = if j = 1 then ρ 1 - 1 else if 16 + 3 * l ≤ j ∧ j < 16 + i then ρ (j + 3) else ρ j) → Run C_RM_without (fun r M' => r = some (vI (chg (tau ρ) l)) ∧ RR ρ M' ∧ Kp KW M M') 43 [vR 141, vI l, vI i, l3] [] M3) (fun i i0 i1 ih M3 k3 e3 r3 => ?_) (by omega) M2 k2 e2 (fun j a b => by rw [r2 j a b, if_neg (c := 16 + 3 * l ≤ j ∧ j < 16 + 3 * l) (by omega)])
    have x1 : M3.1 144 1 = ρ 1 - 1 := (r3 1 (by decide) (by decide)).trans (if_pos rfl)
    rw [r_RM_without_43]
    simp only [r_RM_without_44, r_RM_without_45, r_RM_without_46, r_RM_without_49, r_RM_without_50, r_RM_without_51, r_RM_without_52, r_RM_without_55, r_RM_without_56, r_RM_without_59, r_RM_without_61, r_RM_without_62, r_RM_without_63, r_RM_without_64, r_RM_without_67, r_RM_without_69, r_RM_without_70, r_RM_without_71, r_RM_without_72, r_RM_without_73, r_RM_without_74, r_RM_without_75, r_RM_without_78, r_RM_without_81, r_RM_without_82, r_RM_without_83, r_RM_without_84, true_and, and_true, or_true, true_or, or_false, false_or, false_and, and_false, not_true_eq_false, not_false_eq_true, implies_true, true_implies, false_implies, x1]
    refine ⟨by decide, by decide, r32 (by omega) (by omega), r32 (by omega) (by omega), fun q => ?_, fun q => ⟨by omega, by omega, by omega, by omega, ih (by omega) _ (Kp.w k3 (Or.inl rfl)) (fun j a b => by rw [wI_c (by decide)]; exact e3 j a b) (fun j a b => ?_)⟩⟩
    · refine cnt M3 k3 e3 (fun j a b => ?_)
      rw [r3 j a b, show i = 3 * (ρ 1 - 1) by omega]; rfl
    · rw [wI_at]
      by_cases z : j = 16 + i
      · rw [if_pos ⟨rfl, z⟩, if_neg (by omega), if_pos (by omega), r3 (16 + i + 3) (by omega) (by omega), if_neg (by omega), if_neg (by omega), z]
      · rw [if_neg (fun w => z w.2), r3 j a b]
        by_cases z2 : 16 + 3 * l ≤ j ∧ j < 16 + i
        · rw [if_pos z2, if_pos (show 16 + 3 * l ≤ j ∧ j < 16 + (i + 1) by omega)]
        · rw [if_neg z2, if_neg (show ¬ (16 + 3 * l ≤ j ∧ j < 16 + (i + 1)) by omega)]
  -- the links kept
  refine up_loop (lo := 0) (hi := 60) (P := fun i => ∀ M1 l3, Kp (fun c => c = 156) M M1 → (∀ j, 0 ≤ j → j < i → M1.1 156 j = ρ (16 + j)) → Run C_RM_without (fun r M' => r = some (vI (chg (tau ρ) l)) ∧ RR ρ M' ∧ Kp KW M M') 2 [vR 141, vI l, vI i, l3] [] M1) (fun i i0 i1 ih M1 l3 k1 e1 => ?_) (by decide) M _ Kp.rf (fun j a b => by omega)
  have r1 : RR ρ M1 := fun j a b => by rw [k1.at (by decide)]; exact hR j a b
  rw [r_RM_without_2]
  simp only [r_RM_without_3, r_RM_without_5, r_RM_without_8, r_RM_without_9, r_RM_without_12, r_RM_without_13, r_RM_without_14, r_RM_without_17, r_RM_without_19, r_RM_without_20, r_RM_without_21, r_RM_without_22, r_RM_without_23, r_RM_without_26, true_and, and_true, or_true, true_or, or_false, false_or, false_and, and_false, not_true_eq_false, not_false_eq_true, implies_true, true_implies, false_implies]
  refine ⟨r32 (by omega) (by omega), r32 (by decide) (by decide), fun q => ?_, fun q => ⟨by omega, by omega, by omega, by omega, ih (by omega) _ _ (Kp.w k1 rfl) (fun j a b => ?_)⟩⟩
  · simp only [r_RM_without_29, r_RM_without_30, r_RM_without_33, r_RM_without_34, r_RM_without_35, r_RM_without_36, r_RM_without_37, r_RM_without_38, r_RM_without_39, r_RM_without_40, r_RM_without_41, r_RM_without_42, true_and, and_true, or_true, true_or, or_false, false_or, false_and, and_false, not_true_eq_false, not_false_eq_true, implies_true, true_implies, false_implies, show M1.1 144 1 = ρ 1 from r1 1 (by decide) (by decide)]
    refine ⟨by decide, by decide, by decide, by decide, cut _ (Kp.w (k1.sub (fun c z => Or.inr (Or.inr z))) (Or.inl rfl)) (fun j a b => by rw [wI_c (by decide)]; exact e1 j a (by omega)) (fun j a b => ?_) _⟩
    rw [wI_at]
    by_cases z : j = 1
    · rw [if_pos ⟨rfl, z⟩, if_pos z]
    · rw [if_neg (fun w => z w.2), if_neg z]; exact r1 j a b
  · rw [wI_at]
    by_cases z : j = i
    · rw [if_pos ⟨rfl, z⟩, z]; exact r1 _ (by omega) (by omega)
    · rw [if_neg (fun w => z w.2)]; exact e1 j a (by omega)
theorem M_weakest {σ : St} {M : Mem} (h : MI σ M) (hV : VS σ) {w : Int} (hw : R32 w) : Cal Y_RM_weakest [vR 141, vI w] M (Qm (q_weakest σ.1 w, σ) M) := by
  have h1' := hV.1.2.1
  have hc := nC_bd hV.1
  have ⟨h0, k0⟩ := th0 h
  refine Cal.mk (y := Y_RM_weakest) (loc := [vR 141, vI w, vN, vN, vN, vN]) G_RM_weakest rfl (by decide) rfl rfl (Nat.le_of_ble_eq_true rfl) ?_
  simp only [r_RM_weakest_0, r_RM_weakest_1, r_RM_weakest_2, r_RM_weakest_5, r_RM_weakest_6, r_RM_weakest_7, r_RM_weakest_8, r_RM_weakest_9, r_RM_weakest_12, r_RM_weakest_15, r_RM_weakest_16, r_RM_weakest_17, r_RM_weakest_18, true_and, and_true, or_true, true_or, or_false, false_or, false_and, and_false, not_true_eq_false, not_false_eq_true, implies_true, true_implies, false_implies]
  refine ⟨hw, in_n hw.l (l64 (by decide) (by decide)) (l64 (by decide) (by decide)) (fun q => ?_) (fun q => Qm.q h0 k0 (by unfold q_weakest; rw [if_pos (by omega)]))⟩
  have ee : q_weakest σ.1 w = if w = 0 then ax (chg (tau σ.1)) (-1) (σ.1 1) else mxf (chg (tau σ.1)) (-1) (σ.1 1) := by
    unfold q_weakest
    by_cases z : σ.1 1 = 0
    · rw [if_pos (Or.inl z), z, show ax (chg (tau σ.1)) (-1) 0 = -1 from rfl, show mxf (chg (tau σ.1)) (-1) 0 = -1 from rfl]; split <;> rfl
    · rw [if_neg (by omega)]
  refine (M_layCodes hV h0).mono ?_
  rintro _ M2 ⟨rfl, ⟨h2, n2, l2⟩, k2⟩
  have kk := k0.trans k2.m
  simp only [r_RM_weakest_21, r_RM_weakest_22, true_and, and_true, or_true, true_or, or_false, false_or, false_and, and_false, not_true_eq_false, not_false_eq_true, implies_true, true_implies, false_implies]
  have links : ∀ M3, Kp (fun c => c = 155) M2 M3 → (∀ c, 0 ≤ c → c < nC σ.1 → M3.1 155 c = gC σ.1 c) → ∀ l5, Run C_RM_weakest (Qm (q_weakest σ.1 w, σ) M) 56 [vR 141, vI w, vI (-1), vI (-1), vI 0, l5] [] M3 := by
    intro M3 k3 e3 l5
    refine up_loop (lo := 0) (hi := σ.1 1) (P := fun l => ∀ M4 l5, RR σ.1 M4 → Kp KW M3 M4 → Run C_RM_weakest (Qm (q_weakest σ.1 w, σ) M) 56 [vR 141, vI w, vI (ax (chg (tau σ.1)) (-1) l), vI (mxf (chg (tau σ.1)) (-1) l), vI l, l5] [] M4) (fun l l0 l1 ih M4 l5 r4 k4 => ?_) h1'.1 M3 l5 (fun j a b => by rw [k3.at (by decide)]; exact h2.1 j a b) Kp.rf
    have kA : Kp (fun c => c = 144 ∨ 149 ≤ c) M2 M4 := (k3.sub (fun c z => Or.inr (by omega))).trans (k4.sub (fun c z => by unfold KW at z; omega))
    have h4 := h2.row2 r4 kA
    have kk4 : Kp KM M M4 := kk.trans (kA.sub (fun c z => by unfold KM; omega))
    have n4 : NU σ.1 M4 := (n2.of k3 (fun c z => by omega)).kp k4 (fun c a b z => by unfold KW at z; omega) (by rw [k4.at (by unfold KW; decide)]) (by rw [k4.at (by unfold KW; decide)])
    have e4 : ∀ c, 0 ≤ c → c < nC σ.1 → M4.1 155 c = gC σ.1 c := fun c a b => by rw [k4.at (by unfold KW; decide)]; exact e3 c a b
    have hm : -1 ≤ mxf (chg (tau σ.1)) (-1) l ∧ mxf (chg (tau σ.1)) (-1) l ≤ 12 := by
      rcases ax_sp (chg (tau σ.1)) (-1) l l0 with ⟨a, -⟩ | ⟨-, -, a, b, -⟩
      · omega
      · have := chg_bd (VR_tau hV.1) (ax (chg (tau σ.1)) (-1) l)
        omega
    rw [r_RM_weakest_56]
    simp only [r_RM_weakest_58, r_RM_weakest_59, r_RM_weakest_62, r_RM_weakest_63, r_RM_weakest_64, r_RM_weakest_67, r_RM_weakest_68, r_RM_weakest_70, true_and, and_true, or_true, true_or, or_false, false_or, false_and, and_false, not_true_eq_false, not_false_eq_true, implies_true, true_implies, false_implies, show M4.1 144 1 = σ.1 1 from r4 1 (by decide) (by decide)]
    refine ⟨by decide, by decide, r32 (by omega) (by omega), r32 (by omega) (by omega), fun q2 => ?_, fun q2 => ?_⟩
    · simp only [r_RM_weakest_107, r_RM_weakest_108, r_RM_weakest_111, r_RM_weakest_112, r_RM_weakest_115, r_RM_weakest_116, true_and, and_true, or_true, true_or, or_false, false_or, false_and, and_false, not_true_eq_false, not_false_eq_true, implies_true, true_implies, false_implies]
      have el : l = σ.1 1 := by omega
      rw [el]
      exact ⟨hw, fun q3 => Qm.q h4 kk4 (by rw [ee, if_neg q3]), fun q3 => Qm.q h4 kk4 (by rw [ee, if_pos (by omega)])⟩
    · refine (without_s hV.1 r4 n4 e4 l0 (by omega)).mono ?_
      rintro _ M5 ⟨rfl, r5, k5⟩
      refine ⟨_, rfl, ?_⟩
      have hb := chg_bd (VR_tau hV.1) l
      have hih := ih (by omega) M5 (vI (chg (tau σ.1) l)) r5 (k4.trans k5)
      rw [mxf_s _ _ l0, ax_s _ _ l0] at hih
      simp only [r_RM_weakest_73, r_RM_weakest_75, r_RM_weakest_77, r_RM_weakest_78, r_RM_weakest_81, r_RM_weakest_83, r_RM_weakest_86, r_RM_weakest_87, r_RM_weakest_88, r_RM_weakest_90, r_RM_weakest_91, r_RM_weakest_94, r_RM_weakest_96, r_RM_weakest_99, r_RM_weakest_100, r_RM_weakest_101, r_RM_weakest_104, true_and, and_true, or_true, true_or, or_false, false_or, false_and, and_false, not_true_eq_false, not_false_eq_true, implies_true, true_implies, false_implies]
      refine ⟨r32 (by omega) (by omega), r32 (by omega) (by omega), fun q3 => ⟨r32 (by omega) (by omega), r32 (by omega) (by omega), fun q4 => ?_, fun q4 => by omega⟩, fun q3 => ⟨r32 (by omega) (by omega), r32 (by omega) (by omega), fun q4 => by omega, fun q4 => ?_⟩⟩
      · rw [if_neg (show ¬ mxf (chg (tau σ.1)) (-1) l < chg (tau σ.1) l by omega), if_neg (show ¬ mxf (chg (tau σ.1)) (-1) l < chg (tau σ.1) l by omega)] at hih; exact hih
      · rw [if_pos (show mxf (chg (tau σ.1)) (-1) l < chg (tau σ.1) l by omega), if_pos (show mxf (chg (tau σ.1)) (-1) l < chg (tau σ.1) l by omega)] at hih; exact hih
  refine up_loop (lo := 0) (hi := nC σ.1) (P := fun c => ∀ M3 l3 l4 l5, Kp (fun c => c = 155) M2 M3 → (∀ j, 0 ≤ j → j < c → M3.1 155 j = gC σ.1 j) → Run C_RM_weakest (Qm (q_weakest σ.1 w, σ) M) 23 [vR 141, vI w, vI c, l3, l4, l5] [] M3) (fun c c0 c1 ih M3 l3 l4 l5 k3 e3 => ?_) hc.1 M2 _ _ _ Kp.rf (fun j a b => by omega)
  rw [r_RM_weakest_23]
  simp only [r_RM_weakest_24, r_RM_weakest_25, r_RM_weakest_28, r_RM_weakest_31, r_RM_weakest_32, r_RM_weakest_35, r_RM_weakest_36, r_RM_weakest_37, r_RM_weakest_40, r_RM_weakest_41, r_RM_weakest_42, r_RM_weakest_43, r_RM_weakest_46, r_RM_weakest_49, r_RM_weakest_50, r_RM_weakest_51, r_RM_weakest_52, r_RM_weakest_53, r_RM_weakest_54, true_and, and_true, or_true, true_or, or_false, false_or, false_and, and_false, not_true_eq_false, not_false_eq_true, implies_true, true_implies, false_implies, show M3.1 141 12 = nC σ.1 from (by rw [k3.at (by decide)]; exact n2.1)]
  refine ⟨r32 (by omega) (by omega), r32 (by omega) (by omega), fun q2 => links M3 k3 (fun j a b => e3 j a (by omega)) _, fun q2 => ⟨by omega, by omega, by omega, by omega, ih (by omega) _ _ _ _ (Kp.w k3 rfl) (fun j a b => ?_)⟩⟩
  rw [wI_at]
  by_cases z : j = c
  · rw [if_pos ⟨rfl, z⟩, z, k3.at (by decide)]; exact l2 c c0 (by omega)
  · rw [if_neg (fun w => z w.2)]; exact e3 j a (by omega)
