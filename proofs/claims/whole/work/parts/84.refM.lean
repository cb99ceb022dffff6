/-! the reference: sure, ofSign, ofRule, count, status -/
theorem M_sure {σ : St} {M : Mem} (h : MI σ M) (hV : VS σ) {c : Int} (hc : R32 c) : Cal Y_RM_sure [vR 141, vI c] M (Qm (q_sure σ.1 c, σ) M) := by
  have hn := nC_bd hV.1
  have hs := nS_bd hV.1
  have hbk := bk_bd hV.1
  have ⟨h0, k0⟩ := th0 h
  refine Cal.mk (y := Y_RM_sure) (loc := [vR 141, vI c, vN, vN, vN]) G_RM_sure rfl (by decide) rfl rfl (Nat.le_of_ble_eq_true rfl) ?_
  simp only [r_RM_sure_0, r_RM_sure_1, r_RM_sure_2, r_RM_sure_5, r_RM_sure_6, true_and, and_true, or_true, true_or, or_false, false_or, false_and, and_false, not_true_eq_false, not_false_eq_true, implies_true, true_implies, false_implies]
  refine (M_layCodes hV h0).mono ?_
  rintro _ M2 ⟨rfl, ⟨h2, n2, l2⟩, k2⟩
  have kk := k0.trans k2.m
  simp only [r_RM_sure_9, r_RM_sure_10, r_RM_sure_11, r_RM_sure_12, r_RM_sure_13, r_RM_sure_16, r_RM_sure_17, r_RM_sure_18, r_RM_sure_19, r_RM_sure_22, r_RM_sure_25, r_RM_sure_26, r_RM_sure_27, r_RM_sure_28, r_RM_sure_29, r_RM_sure_30, true_and, and_true, or_true, true_or, or_false, false_or, false_and, and_false, not_true_eq_false, not_false_eq_true, implies_true, true_implies, false_implies, n2.1]
  refine ⟨hc, r32 (by omega) (by omega), in_n hc.l (l64 (by decide) (by decide)) (l64 (by omega) (by omega)) (fun q => ?_) (fun q => Qm.q h2 kk (by unfold q_sure; rw [if_pos (by omega)]))⟩
  have ee : q_sure σ.1 c = if sur σ.1 c = 1000000 then -2 else sur σ.1 c := if_neg (by omega)
  have hg2 := gC_bd hV.1 c
  refine up_loop (lo := 0) (hi := nC σ.1) (P := fun k => ∀ l4, Run C_RM_sure (Qm (q_sure σ.1 c, σ) M) 31 [vR 141, vI c, vI (bsI (fun k => decide (gp σ.1 (gC σ.1 k) (gC σ.1 c) = 0)) k), vI k, l4] [] M2) (fun k k0 k1 ih l4 => ?_) hn.1 _
  have hbd := bsI_bd (fun k => decide (gp σ.1 (gC σ.1 k) (gC σ.1 c) = 0)) k
  have hp := p2_12 (show k ≤ 12 by omega)
  rw [r_RM_sure_31]
  simp only [r_RM_sure_32, r_RM_sure_33, r_RM_sure_36, r_RM_sure_39, r_RM_sure_40, r_RM_sure_41, r_RM_sure_42, r_RM_sure_45, r_RM_sure_46, r_RM_sure_47, r_RM_sure_48, r_RM_sure_51, r_RM_sure_52, r_RM_sure_53, r_RM_sure_54, r_RM_sure_57, r_RM_sure_58, r_RM_sure_59, r_RM_sure_62, r_RM_sure_65, r_RM_sure_66, r_RM_sure_67, r_RM_sure_68, r_RM_sure_71, r_RM_sure_72, r_RM_sure_73, r_RM_sure_74, r_RM_sure_77, true_and, and_true, or_true, true_or, or_false, false_or, false_and, and_false, not_true_eq_false, not_false_eq_true, implies_true, true_implies, false_implies, n2.1, p2_def, show M2.1 144 4 = σ.1 4 from h2.1 4 (by decide) (by decide)]
  refine ⟨r32 (by omega) (by omega), r32 (by omega) (by omega), fun q1 => ?_, fun q1 => ⟨k0, by omega, by omega, by omega, by decide, by decide, ?_⟩⟩
  · rw [show bsI (fun k => decide (gp σ.1 (gC σ.1 k) (gC σ.1 c) = 0)) k = lke σ.1 (gC σ.1 c) by rw [show k = nC σ.1 by omega]; rfl]
    have hp := p2_pos c
    have hp2 := p2_lt (a := c) (b := 12) (by omega) (by omega)
    have e12 : p2 12 = 4096 := by decide
    have hlk := bsI_bd (fun k => decide (gp σ.1 (gC σ.1 k) (gC σ.1 c) = 0)) (nC σ.1)
    have hlk2 : lke σ.1 (gC σ.1 c) = bsI (fun k => decide (gp σ.1 (gC σ.1 k) (gC σ.1 c) = 0)) (nC σ.1) := rfl
    have hpn := p2_12 hn.2
    simp only [r_RM_sure_80, r_RM_sure_81, r_RM_sure_82, r_RM_sure_83, r_RM_sure_84, true_and, and_true, or_true, true_or, or_false, false_or, false_and, and_false, not_true_eq_false, not_false_eq_true, implies_true, true_implies, false_implies, p2_def]
    refine ⟨⟨by omega, by omega⟩, (M_spreadOf hV h2 n2 (by omega) (by omega)).mono ?_⟩
    rintro _ M3 ⟨rfl, h3, n3, f3, k3, k3'⟩
    have l3 : LC σ.1 M3 := fun c a b => by rw [k3'.at (by decide)]; exact l2 c a b
    have kk3 := kk.trans k3.m
    simp only [r_RM_sure_87, r_RM_sure_89, r_RM_sure_90, r_RM_sure_93, true_and, and_true, or_true, true_or, or_false, false_or, false_and, and_false, not_true_eq_false, not_false_eq_true, implies_true, true_implies, false_implies]
    generalize hlk' : lke σ.1 (gC σ.1 c) = L at hlk2
    have sufe : ∀ u, suF σ.1 c u = if nr σ.1 (sby σ.1 c u) = L then u else 1000000 := fun u => by unfold suF; rw [hlk']
    have main : ∀ M4, KN M3 M4 → ∀ v, ((v = -2 ∧ ∀ u, 720 - 0 < u → u ≤ 720 → ¬ nr σ.1 (sby σ.1 c u) = L) ∨ (720 - 0 < v ∧ v ≤ 720 ∧ nr σ.1 (sby σ.1 c v) = L ∧ ∀ u, 720 - 0 < u → u < v → ¬ nr σ.1 (sby σ.1 c u) = L)) → Run C_RM_sure (Qm (q_sure σ.1 c, σ) M) 95 [vR 141, vI c, vI L, vI v, vI (720 - 0)] [] M4 := by
      refine up_loop (lo := 0) (hi := 721) (P := fun j => ∀ M4, KN M3 M4 → ∀ v, ((v = -2 ∧ ∀ u, 720 - j < u → u ≤ 720 → ¬ nr σ.1 (sby σ.1 c u) = L) ∨ (720 - j < v ∧ v ≤ 720 ∧ nr σ.1 (sby σ.1 c v) = L ∧ ∀ u, 720 - j < u → u < v → ¬ nr σ.1 (sby σ.1 c u) = L)) → Run C_RM_sure (Qm (q_sure σ.1 c, σ) M) 95 [vR 141, vI c, vI L, vI v, vI (720 - j)] [] M4) (fun j j0 j1 ihj M4 k4 v hI => ?_) (by decide)
      have h4 := h3.kr k4.kr
      have kk4 := kk3.trans k4.kr.m
      have F4 : TF σ.1 c M4 := fun g a b => by rw [k4.1.at (by decide)]; exact f3 g a b
      rw [r_RM_sure_95]
      simp only [r_RM_sure_97, r_RM_sure_100, r_RM_sure_101, r_RM_sure_102, r_RM_sure_104, r_RM_sure_107, true_and, and_true, or_true, true_or, or_false, false_or, false_and, and_false, not_true_eq_false, not_false_eq_true, implies_true, true_implies, false_implies]
      refine ⟨r32 (by omega) (by omega), fun q2 => ?_, fun q2 => ?_⟩
      · simp only [r_RM_sure_131, r_RM_sure_132, true_and, and_true, or_true, true_or, or_false, false_or, false_and, and_false, not_true_eq_false, not_false_eq_true, implies_true, true_implies, false_implies]
        have ej : j = 721 := by omega
        rw [ej] at hI
        refine Qm.q h4 kk4 ?_
        rw [ee]
        rcases hI with ⟨a, b⟩ | ⟨a, b, d, e⟩
        · have : sur σ.1 c = 1000000 := mn_eq (by decide) (Int.le_refl _) (fun k x y => by rw [sufe, if_neg (b k (by omega) (by omega))]; exact Int.le_refl _) (Or.inl rfl)
          rw [if_pos this, a]
        · have : sur σ.1 c = v := by
            refine mn_eq (by decide) (by omega) (fun k x y => ?_) (Or.inr ⟨v, by omega, by omega, by rw [sufe, if_pos d]⟩)
            rw [sufe]
            by_cases z : k < v
            · rw [if_neg (e k (by omega) z)]; omega
            · split <;> omega
          rw [this, if_neg (by omega)]
      · have hb := sby_bd hV.1 c (720 - j)
        have hnx := nr_bd hV.1 (sby σ.1 c (720 - j))
        refine Cal.I (rsignsBy_s hV.1 (k4.nu n3) F4 (r32 (by omega) (by omega))) ((layNearest_s hV.1 h4.1 (k4.nu n3) (k4.lc l3) hb.1 hb.2).mono ?_)
        rintro _ M5 ⟨rfl, a5, b5, d5, k5⟩
        simp only [r_RM_sure_110, r_RM_sure_111, r_RM_sure_114, r_RM_sure_115, r_RM_sure_118, r_RM_sure_120, r_RM_sure_123, r_RM_sure_124, r_RM_sure_125, r_RM_sure_128, true_and, and_true, or_true, true_or, or_false, false_or, false_and, and_false, not_true_eq_false, not_false_eq_true, implies_true, true_implies, false_implies, b5]
        have ih' := ihj (by omega) M5 (k4.trans k5)
        rw [show 720 - (j + 1) = 720 - j + -1 by omega] at ih'
        refine ⟨r32 (by omega) (by omega), r32 (by omega) (by omega), fun q3 => ih' v ?_, fun q3 => ih' (720 - j) (Or.inr ⟨by omega, by omega, Classical.not_not.1 q3, fun u x y => by omega⟩)⟩
        rcases hI with ⟨a, b⟩ | ⟨a, b, d, e⟩
        · refine Or.inl ⟨a, fun u x y => ?_⟩
          by_cases z : u = 720 - j
          · rw [z]; exact q3
          · exact b u (by omega) y
        · refine Or.inr ⟨by omega, b, d, fun u x y => ?_⟩
          by_cases z : u = 720 - j
          · rw [z]; exact q3
          · exact e u (by omega) y
    have hm := main M3 KN.rf (-2) (Or.inl ⟨rfl, fun u x y => by omega⟩)
    rw [Int.sub_zero] at hm
    exact hm
  · rw [l2 k k0 (by omega), l2 c (by omega) (by omega)]
    have hg := gC_bd hV.1 k
    have hgp := gp_bd σ.1 (gC σ.1 k) (gC σ.1 c)
    have hih := ih (by omega) l4
    rw [bsI_s k0 (by omega)] at hih
    refine Cal.I (far_s M2 hg.1 hg.2.2 hg2.1 hg2.2.2 hbk.1) ?_
    rw [show pcI (iand (ixor (gC σ.1 k) (gC σ.1 c)) (σ.1 4)) = gp σ.1 (gC σ.1 k) (gC σ.1 c) from rfl]
    refine ⟨r32 (by omega) (by omega), fun q2 => ?_, fun q2 => ⟨⟨k0, by omega⟩, ?_⟩⟩
    · rw [if_neg (by rw [decide_eq_true_eq]; exact q2)] at hih
      rw [ior_0 hbd.1 (by omega)]; exact hih
    · rw [if_pos (by rw [decide_eq_true_eq]; exact Classical.not_not.1 q2)] at hih
      exact hih
theorem M_ofSign {σ : St} {M : Mem} (h : MI σ M) (hV : VS σ) {s w : Int} (hs : R32 s) (hw : R32 w) : Cal Y_RM_ofSign [vR 141, vI s, vI w] M (Qm (q_ofSign σ.1 s w, σ) M) := by
  have hc := nC_bd hV.1
  have hn := nS_bd hV.1
  have hbk := bk_bd hV.1
  have hse := se_bd hV.1
  have ⟨h0, k0⟩ := th0 h
  refine Cal.mk (y := Y_RM_ofSign) (loc := [vR 141, vI s, vI w, vN, vN]) G_RM_ofSign rfl (by decide) rfl rfl (Nat.le_of_ble_eq_true rfl) ?_
  simp only [r_RM_ofSign_0, r_RM_ofSign_1, r_RM_ofSign_2, r_RM_ofSign_5, r_RM_ofSign_6, true_and, and_true, or_true, true_or, or_false, false_or, false_and, and_false, not_true_eq_false, not_false_eq_true, implies_true, true_implies, false_implies]
  refine (M_layCodes hV h0).mono ?_
  rintro _ M2 ⟨rfl, ⟨h2, n2, l2⟩, k2⟩
  have kk := k0.trans k2.m
  simp only [r_RM_ofSign_9, r_RM_ofSign_10, r_RM_ofSign_11, r_RM_ofSign_12, r_RM_ofSign_13, r_RM_ofSign_16, r_RM_ofSign_17, r_RM_ofSign_18, r_RM_ofSign_19, r_RM_ofSign_22, r_RM_ofSign_25, r_RM_ofSign_26, r_RM_ofSign_27, r_RM_ofSign_28, r_RM_ofSign_29, r_RM_ofSign_30, true_and, and_true, or_true, true_or, or_false, false_or, false_and, and_false, not_true_eq_false, not_false_eq_true, implies_true, true_implies, false_implies, n2.2.1]
  refine ⟨hs, r32 (by omega) (by omega), in_n hs.l (l64 (by decide) (by decide)) (l64 (by omega) (by omega)) (fun q => ?_) (fun q => Qm.q h2 kk (by unfold q_ofSign; rw [if_pos (by omega)]))⟩
  refine up_loop (lo := 0) (hi := nC σ.1) (P := fun k => Run C_RM_ofSign (Qm (q_ofSign σ.1 s w, σ) M) 32 [vR 141, vI s, vI w, vI (bsI (fun c => bit (gC σ.1 c) s) k), vI k] [] M2) (fun k k0 k1 ih => ?_) hc.1
  have hbd := bsI_bd (fun c => bit (gC σ.1 c) s) k
  have hp := p2_12 (show k ≤ 12 by omega)
  rw [r_RM_ofSign_32]
  simp only [r_RM_ofSign_34, r_RM_ofSign_35, r_RM_ofSign_38, r_RM_ofSign_41, r_RM_ofSign_42, r_RM_ofSign_43, r_RM_ofSign_46, r_RM_ofSign_48, r_RM_ofSign_49, r_RM_ofSign_50, r_RM_ofSign_53, r_RM_ofSign_56, r_RM_ofSign_57, r_RM_ofSign_59, r_RM_ofSign_60, r_RM_ofSign_63, r_RM_ofSign_64, r_RM_ofSign_65, r_RM_ofSign_66, r_RM_ofSign_69, true_and, and_true, or_true, true_or, or_false, false_or, false_and, and_false, not_true_eq_false, not_false_eq_true, implies_true, true_implies, false_implies, n2.1, p2_def]
  refine ⟨r32 (by omega) (by omega), r32 (by omega) (by omega), fun q1 => ?_, fun q1 => ⟨k0, by omega, ?_⟩⟩
  · rw [show bsI (fun c => bit (gC σ.1 c) s) k = cw σ.1 s by rw [show k = nC σ.1 by omega]; rfl]
    simp only [r_RM_ofSign_72, r_RM_ofSign_73, r_RM_ofSign_108, r_RM_ofSign_109, r_RM_ofSign_112, r_RM_ofSign_113, r_RM_ofSign_114, r_RM_ofSign_115, r_RM_ofSign_116, r_RM_ofSign_119, r_RM_ofSign_120, r_RM_ofSign_121, r_RM_ofSign_122, r_RM_ofSign_123, r_RM_ofSign_126, r_RM_ofSign_127, r_RM_ofSign_128, r_RM_ofSign_129, r_RM_ofSign_130, r_RM_ofSign_131, r_RM_ofSign_132, r_RM_ofSign_133, r_RM_ofSign_134, r_RM_ofSign_137, r_RM_ofSign_138, r_RM_ofSign_139, r_RM_ofSign_140, r_RM_ofSign_141, r_RM_ofSign_142, r_RM_ofSign_143, r_RM_ofSign_144, r_RM_ofSign_145, r_RM_ofSign_146, r_RM_ofSign_147, true_and, and_true, or_true, true_or, or_false, false_or, false_and, and_false, not_true_eq_false, not_false_eq_true, implies_true, true_implies, false_implies, show M2.1 144 4 = σ.1 4 from h2.1 4 (by decide) (by decide), show M2.1 144 5 = σ.1 5 from h2.1 5 (by decide) (by decide)]
    rw [(n2.2.2.2 s (by omega) (by omega)).1, (n2.2.2.2 s (by omega) (by omega)).2, shr_bit hbk.1 (by omega), shr_bit hse.1 (by omega)]
    have ee : ¬ (w < 0 ∨ 5 ≤ w) → q_ofSign σ.1 s w = if w = 0 then sf (tau σ.1) s / 8 else if w = 1 then sf (tau σ.1) s % 8 else if w = 2 then (if bit (σ.1 4) s = true then 1 else 0) else if w = 3 then (if bit (σ.1 5) s = true then 1 else 0) else cw σ.1 s := fun z => if_neg (by omega)
    refine ⟨hw, ⟨fun q3 => ⟨by omega, by omega, Qm.q h2 kk ?_⟩, fun q3 => ⟨by omega, by omega, Qm.q h2 kk ?_⟩, fun q3 => ⟨by decide, by decide, ⟨r32 (by omega) (by omega), by omega, by omega⟩, Qm.q h2 kk ?_⟩, fun q3 => ⟨by decide, by decide, ⟨r32 (by omega) (by omega), by omega, by omega⟩, Qm.q h2 kk ?_⟩, fun q3 => Qm.q h2 kk ?_⟩, fun q3 => Qm.q h2 kk ?_⟩
    · rw [ee (by omega), if_pos q3]
    · rw [ee (by omega), if_neg (by omega), if_pos q3]
    · exact ((ee (by omega)).trans ((if_neg (by omega)).trans ((if_neg (by omega)).trans (if_pos q3)))).symm
    · exact ((ee (by omega)).trans ((if_neg (by omega)).trans ((if_neg (by omega)).trans ((if_neg (by omega)).trans (if_pos q3))))).symm
    · rw [ee (by omega), if_neg (by omega), if_neg (by omega), if_neg (by omega), if_neg (by omega)]
    · unfold q_ofSign; rw [if_pos (by omega)]
  · rw [l2 k k0 (by omega)]
    have hg := gC_bd hV.1 k
    have hih := ih (by omega)
    rw [bsI_s k0 (by omega)] at hih
    refine rhas_if hg.1 (by omega) (by omega) (by omega) (fun q2 => ⟨⟨k0, by omega⟩, ?_⟩) (fun q2 => ?_)
    · rw [if_pos q2] at hih; exact hih
    · rw [if_neg q2] at hih
      rw [ior_0 hbd.1 (by omega)]; exact hih
theorem M_ofRule {σ : St} {M : Mem} (h : MI σ M) (hV : VS σ) {r p : Int} (hr : R32 r) (hp : R32 p) : Cal Y_RM_ofRule [vR 141, vI r, vI p] M (Qm (s_ofRule σ r p) M) := by
  have h2 := hV.1.2.2.1
  have ⟨h0, k0⟩ := th0 h
  have fin : ∀ x, x = (s_ofRule σ r p).1 → Qm (s_ofRule σ r p) M (some (vI x)) (wI M 141 0 0) := fun x e => ⟨by rw [e], h0, k0⟩
  have no : ((r < 0 ∨ σ.1 2 ≤ r) ∨ (p < 0 ∨ 5 ≤ p)) → (s_ofRule σ r p).1 = -1 := fun z => if_pos z
  have ye : ¬ ((r < 0 ∨ σ.1 2 ≤ r) ∨ (p < 0 ∨ 5 ≤ p)) → (s_ofRule σ r p).1 = σ.1 (76 + 5 * r + p) := fun z => if_neg z
  have e2 : (wI M 141 0 0).1 144 2 = σ.1 2 := h0.1 2 (by decide) (by decide)
  have e2' : M.1 144 2 = σ.1 2 := h.1 2 (by decide) (by decide)
  refine Cal.mk (y := Y_RM_ofRule) (loc := [vR 141, vI r, vI p]) G_RM_ofRule rfl (by decide) rfl rfl (Nat.le_of_ble_eq_true rfl) ?_
  simp only [r_RM_ofRule_0, r_RM_ofRule_1, r_RM_ofRule_2, r_RM_ofRule_5, r_RM_ofRule_6, r_RM_ofRule_7, r_RM_ofRule_8, r_RM_ofRule_9, r_RM_ofRule_12, r_RM_ofRule_13, r_RM_ofRule_14, r_RM_ofRule_15, r_RM_ofRule_16, r_RM_ofRule_17, r_RM_ofRule_20, r_RM_ofRule_23, r_RM_ofRule_24, r_RM_ofRule_25, r_RM_ofRule_26, r_RM_ofRule_29, r_RM_ofRule_32, r_RM_ofRule_35, r_RM_ofRule_36, r_RM_ofRule_39, r_RM_ofRule_41, r_RM_ofRule_42, r_RM_ofRule_43, r_RM_ofRule_44, r_RM_ofRule_45, r_RM_ofRule_46, r_RM_ofRule_47, r_RM_ofRule_48, r_RM_ofRule_51, r_RM_ofRule_52, true_and, and_true, or_true, true_or, or_false, false_or, false_and, and_false, not_true_eq_false, not_false_eq_true, implies_true, true_implies, false_implies, e2, e2']
  refine ⟨hr, by decide, by decide, r32 (by omega) (by omega), in_e hr.l (l64 (by decide) (by decide)) (l64 (by omega) (by omega)) (fun q => ⟨hp, in_e hp.l (l64 (by decide) (by decide)) (l64 (by decide) (by decide)) (fun q2 => ⟨by omega, by omega, fin _ ?_⟩) (fun q2 => fin _ (no (by omega)).symm)⟩) (fun q => fin _ (no (by omega)).symm)⟩
  rw [ye (by omega)]
  exact h0.1 _ (by omega) (by omega)
theorem M_status {σ : St} {M : Mem} (h : MI σ M) : Cal Y_RM_status [vR 141] M (Qm (s_status σ) M) := by
  have ⟨h0, k0⟩ := th0 h
  refine Cal.mk (y := Y_RM_status) (loc := [vR 141]) G_RM_status rfl (by decide) rfl rfl (Nat.le_of_ble_eq_true rfl) ?_
  simp only [r_RM_status_0, r_RM_status_1, r_RM_status_2, r_RM_status_5, r_RM_status_6, r_RM_status_9, true_and, and_true, or_true, true_or, or_false, false_or, false_and, and_false, not_true_eq_false, not_false_eq_true, implies_true, true_implies, false_implies]
  exact ⟨by rw [h0.2.2.2.2.2]; rfl, h0, k0⟩
theorem M_count {σ : St} {M : Mem} (h : MI σ M) (hV : VS σ) {w : Int} (hw : R32 w) : Cal Y_RM_count [vR 141, vI w] M (Qm (s_count σ w) M) := by
  have ⟨h0, k0⟩ := th0 h
  refine Cal.mk (y := Y_RM_count) (loc := [vR 141, vI w]) G_RM_count rfl (by decide) rfl rfl (Nat.le_of_ble_eq_true rfl) ?_
  simp only [r_RM_count_0, r_RM_count_1, r_RM_count_2, r_RM_count_5, r_RM_count_6, true_and, and_true, or_true, true_or, or_false, false_or, false_and, and_false, not_true_eq_false, not_false_eq_true, implies_true, true_implies, false_implies]
  refine (M_number hV h0).mono ?_
  rintro _ M2 ⟨rfl, n2, h2, k2⟩
  have kk := k0.trans k2.m
  have fin : ∀ x, x = (s_count σ w).1 → Qm (s_count σ w) M (some (vI x)) M2 := fun x e => ⟨by rw [e], h2, kk⟩
  simp only [r_RM_count_9, r_RM_count_10, r_RM_count_76, r_RM_count_77, r_RM_count_80, r_RM_count_81, r_RM_count_82, r_RM_count_83, r_RM_count_84, r_RM_count_87, r_RM_count_88, r_RM_count_89, r_RM_count_90, r_RM_count_91, r_RM_count_94, r_RM_count_95, r_RM_count_96, r_RM_count_97, r_RM_count_98, r_RM_count_101, r_RM_count_102, r_RM_count_103, r_RM_count_106, r_RM_count_107, r_RM_count_108, r_RM_count_111, r_RM_count_112, r_RM_count_113, r_RM_count_114, r_RM_count_115, r_RM_count_118, r_RM_count_119, r_RM_count_120, r_RM_count_121, r_RM_count_122, r_RM_count_125, r_RM_count_126, r_RM_count_127, r_RM_count_128, r_RM_count_129, r_RM_count_132, r_RM_count_133, r_RM_count_134, r_RM_count_137, r_RM_count_138, r_RM_count_139, r_RM_count_140, r_RM_count_141, r_RM_count_144, r_RM_count_145, r_RM_count_146, r_RM_count_147, r_RM_count_148, r_RM_count_151, r_RM_count_152, r_RM_count_153, r_RM_count_154, r_RM_count_155, r_RM_count_158, r_RM_count_159, r_RM_count_160, r_RM_count_161, r_RM_count_162, r_RM_count_163, r_RM_count_166, r_RM_count_169, r_RM_count_172, r_RM_count_175, r_RM_count_176, r_RM_count_179, r_RM_count_180, r_RM_count_182, r_RM_count_183, r_RM_count_184, r_RM_count_187, r_RM_count_188, true_and, and_true, or_true, true_or, or_false, false_or, false_and, and_false, not_true_eq_false, not_false_eq_true, implies_true, true_implies, false_implies]
  obtain ⟨hR, hU, hG, hT, ⟨f1, f2, f3, f4⟩, hst⟩ := h2
  refine ⟨hw, ⟨fun q => ⟨by decide, by decide, fin _ ?_⟩, fun q => ⟨by decide, by decide, fin _ ?_⟩, fun q => ⟨by decide, by decide, fin _ ?_⟩, fun q => fin _ ?_, fun q => fin _ ?_, fun q => ⟨by decide, by decide, fin _ ?_⟩, fun q => ⟨by decide, by decide, fin _ ?_⟩, fun q => ⟨by decide, by decide, fin _ ?_⟩, fun q => fin _ ?_, fun q => ⟨by decide, by decide, fin _ ?_⟩, fun q => ⟨by decide, by decide, fin _ ?_⟩, fun q => ⟨by decide, by decide, fin _ ?_⟩, fun q => ⟨by decide, by decide, fin _ ?_⟩⟩, fun q => ⟨hw, in_e hw.l (l64 (by decide) (by decide)) (l64 (by decide) (by decide)) (fun q2 => ⟨by omega, by omega, fin _ ?_⟩) (fun q2 => fin _ ?_)⟩⟩
  · subst q; exact (hR 0 (by decide) (by decide)).trans (by simp [s_count])
  · subst q; exact (hR 1 (by decide) (by decide)).trans (by simp [s_count])
  · subst q; exact (hR 2 (by decide) (by decide)).trans (by simp [s_count])
  · subst q; exact n2.1.trans (by simp [s_count])
  · subst q; exact n2.2.1.trans (by simp [s_count])
  · subst q; exact (hR 4 (by decide) (by decide)).trans (by simp [s_count])
  · subst q; exact (hR 5 (by decide) (by decide)).trans (by simp [s_count])
  · subst q; exact (hR 3 (by decide) (by decide)).trans (by simp [s_count])
  · subst q; exact hU.1.trans (by simp [s_count])
  · subst q; exact f1.trans (by simp [s_count])
  · subst q; exact f2.trans (by simp [s_count])
  · subst q; exact f3.trans (by simp [s_count])
  · subst q; exact f4.trans (by simp [s_count])
  · rw [hT _ (by omega) (by omega)]
    show _ = (if _ then _ else _)
    rw [if_neg (by omega), if_pos (by omega)]
  · show _ = (if _ then _ else _)
    rw [if_neg (by omega), if_neg (by omega), if_neg (by omega), if_neg (by omega), if_neg (by omega), if_neg (by omega), if_neg (by omega), if_neg (by omega), if_neg (by omega), if_neg (by omega), if_neg (by omega)]
