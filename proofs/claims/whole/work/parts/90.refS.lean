/-! the reference: ranked, likeliest -/
theorem rkd_eq {ρ tm : Rw} (hV : VR ρ) {c i : Int} (c0 : 0 ≤ c) (c1 : c < nC ρ) (h : rnk ρ tm c = i) : rkd ρ tm i = c := by
  unfold rkd
  rw [foI_stop (m := c + 1) (by omega) (nC ρ) (by omega) (fun k a b d => ?_), foI_s _ _ c0]
  · exact if_pos h
  · unfold rkS
    rw [if_neg]
    intro y
    have := rnk_inj (tm := tm) hV (s := k) (o := c) (by omega) d c0 c1 (by omega)
    omega
theorem rnk_top {ρ tm : Rw} (hV : VR ρ) {c : Int} (c0 : 0 ≤ c) (c1 : c < nC ρ) : 0 ≤ rnk ρ tm c ∧ rnk ρ tm c < nC ρ := by
  have hn := nC_bd hV
  have h1 := cntI_bd (bfc ρ tm c) hn.1
  have h2 := cntI_strict (p := bfc ρ tm c) (q := fun _ => true) (nC ρ) hn.1 (fun i a b z => rfl) ⟨c, c0, c1, by unfold bfc; rw [decide_eq_false_iff_not]; omega, rfl⟩
  have h3 := cntI_bd (fun _ => true) hn.1
  unfold rnk
  omega
theorem rankOf_s {ρ tm : Rw} {M : Mem} (hV : VR ρ) (hm : TM tm) (hR : RR ρ M) (hN : NU ρ M) (hL : LC ρ M) (ht : ∀ i, 0 ≤ i → i < 4 → M.1 143 i = tm i) {c : Int} (c0 : 0 ≤ c) (c1 : c < nC ρ) : Cal Y_RM_rankOf [vR 141, vI c] M (fun r M' => r = some (vI (rnk ρ tm c)) ∧ M' = M) := by
  have hc := nC_bd hV
  have hb := sh_bd hV hm c0 c1
  have ec : shn ρ tm c = sh ρ tm c := if_neg (by omega)
  have wc := weighed_s hV hm hR hN hL ht (c := c) (by omega) c1
  rw [ec] at wc
  refine Cal.mk (y := Y_RM_rankOf) (loc := [vR 141, vI c, vN, vN]) G_RM_rankOf rfl (by decide) rfl rfl (Nat.le_of_ble_eq_true rfl) ?_
  simp only [r_RM_rankOf_0, r_RM_rankOf_1, r_RM_rankOf_2, r_RM_rankOf_3, true_and, and_true, or_true, true_or, or_false, false_or, false_and, and_false, not_true_eq_false, not_false_eq_true, implies_true, true_implies, false_implies]
  refine up_loop (lo := 0) (hi := nC ρ) (P := fun o => Run C_RM_rankOf (fun r M' => r = some (vI (rnk ρ tm c)) ∧ M' = M) 4 [vR 141, vI c, vI (cntI (bfc ρ tm c) o), vI o] [] M) (fun o o0 o1 ih => ?_) hc.1
  rw [r_RM_rankOf_4]
  simp only [r_RM_rankOf_5, r_RM_rankOf_6, r_RM_rankOf_9, r_RM_rankOf_12, r_RM_rankOf_13, r_RM_rankOf_14, r_RM_rankOf_15, r_RM_rankOf_18, r_RM_rankOf_19, r_RM_rankOf_20, r_RM_rankOf_23, r_RM_rankOf_24, r_RM_rankOf_27, r_RM_rankOf_28, r_RM_rankOf_29, r_RM_rankOf_32, r_RM_rankOf_33, r_RM_rankOf_34, r_RM_rankOf_37, r_RM_rankOf_38, r_RM_rankOf_41, r_RM_rankOf_42, r_RM_rankOf_43, r_RM_rankOf_46, r_RM_rankOf_47, r_RM_rankOf_50, r_RM_rankOf_51, r_RM_rankOf_52, r_RM_rankOf_53, r_RM_rankOf_56, r_RM_rankOf_59, r_RM_rankOf_60, true_and, and_true, or_true, true_or, or_false, false_or, false_and, and_false, not_true_eq_false, not_false_eq_true, implies_true, true_implies, false_implies, hN.1]
  refine ⟨r32 (by omega) (by omega), r32 (by omega) (by omega), fun q => ?_, fun q => ?_⟩
  · rw [show o = nC ρ by omega]; rfl
  · have ho := sh_bd hV hm o0 (by omega)
    have wo := weighed_s hV hm hR hN hL ht (c := o) (by omega) (by omega)
    rw [show shn ρ tm o = sh ρ tm o from if_neg (by omega)] at wo
    have hih := ih (by omega)
    rw [cntI_s _ o0] at hih
    have f1 : (sh ρ tm c < sh ρ tm o ∨ (sh ρ tm o = sh ρ tm c ∧ o < c)) → (if bfc ρ tm c o = true then (1 : Int) else 0) = 1 := fun z => if_pos (decide_eq_true z)
    have f0 : ¬ (sh ρ tm c < sh ρ tm o ∨ (sh ρ tm o = sh ρ tm c ∧ o < c)) → (if bfc ρ tm c o = true then (1 : Int) else 0) = 0 := fun z => if_neg (by unfold bfc; rw [decide_eq_true_eq]; exact z)
    refine Cal.L wo (Cal.L wc ⟨r64 (by omega) (by omega), r64 (by omega) (by omega), c3_r, fun q2 => ?_, fun q2 => Cal.L wo (Cal.L wc ⟨r64 (by omega) (by omega), r64 (by omega) (by omega), c3_r, fun q3 => ?_, fun q3 => ⟨r32 (by omega) (by omega), r32 (by omega) (by omega), fun q4 => ?_, fun q4 => ?_⟩⟩)⟩)
    · rw [c3_p] at q2
      rw [f1 (by omega)] at hih; exact hih
    · rw [c3_p] at q2
      rw [c3_z] at q3
      rw [f0 (by omega)] at hih; exact hih
    · rw [c3_p] at q2
      rw [f0 (by omega)] at hih; exact hih
    · rw [c3_p] at q2
      rw [c3_z] at q3
      rw [f1 (by omega)] at hih; exact hih
theorem M_ranked {σ : St} {M : Mem} (h : MI σ M) (hV : VS σ) {i : Int} (hi : R32 i) : Cal Y_RM_ranked [vR 141, vI i] M (Qm (q_ranked σ.1 σ.2.2.2.1 i, σ) M) := by
  have hc := nC_bd hV.1
  generalize htm : σ.2.2.2.1 = tm
  have hm : TM tm := by rw [← htm]; exact hV.tm
  have ⟨h0, k0⟩ := th0 h
  refine Cal.mk (y := Y_RM_ranked) (loc := [vR 141, vI i, vN, vN]) G_RM_ranked rfl (by decide) rfl rfl (Nat.le_of_ble_eq_true rfl) ?_
  simp only [r_RM_ranked_0, r_RM_ranked_1, r_RM_ranked_2, r_RM_ranked_5, r_RM_ranked_6, true_and, and_true, or_true, true_or, or_false, false_or, false_and, and_false, not_true_eq_false, not_false_eq_true, implies_true, true_implies, false_implies]
  refine (M_layCodes hV h0).mono ?_
  rintro _ M2 ⟨rfl, ⟨h2, n2, l2⟩, k2⟩
  have kk := k0.trans k2.m
  have T2 : ∀ i, 0 ≤ i → i < 4 → M2.1 143 i = tm i := by rw [← htm]; exact h2.2.2.2.1
  have ee : q_ranked σ.1 tm i = rkd σ.1 tm i := by
    unfold q_ranked
    by_cases z : i < 0 ∨ nC σ.1 ≤ i
    · rw [if_pos z]
      unfold rkd
      rw [foI_stop (m := 0) (by decide) (nC σ.1) hc.1 (fun k a b d => ?_)]
      · rfl
      · unfold rkS
        have := rnk_top (tm := tm) hV.1 b d
        rw [if_neg (by omega)]
    · rw [if_neg z]
  simp only [r_RM_ranked_9, r_RM_ranked_10, r_RM_ranked_11, r_RM_ranked_12, true_and, and_true, or_true, true_or, or_false, false_or, false_and, and_false, not_true_eq_false, not_false_eq_true, implies_true, true_implies, false_implies]
  refine up_loop (lo := 0) (hi := nC σ.1) (P := fun c => Run C_RM_ranked (Qm (q_ranked σ.1 tm i, σ) M) 13 [vR 141, vI i, vI (foI (rkS σ.1 tm i) (-1) c), vI c] [] M2) (fun c c0 c1 ih => ?_) hc.1
  rw [r_RM_ranked_13]
  simp only [r_RM_ranked_14, r_RM_ranked_15, r_RM_ranked_18, r_RM_ranked_21, r_RM_ranked_22, r_RM_ranked_23, r_RM_ranked_26, r_RM_ranked_27, r_RM_ranked_30, r_RM_ranked_31, r_RM_ranked_34, r_RM_ranked_35, r_RM_ranked_36, r_RM_ranked_39, r_RM_ranked_42, r_RM_ranked_43, true_and, and_true, or_true, true_or, or_false, false_or, false_and, and_false, not_true_eq_false, not_false_eq_true, implies_true, true_implies, false_implies, n2.1]
  refine ⟨r32 (by omega) (by omega), r32 (by omega) (by omega), fun q => ?_, fun q => ?_⟩
  · rw [show c = nC σ.1 by omega]; exact Qm.q h2 kk ee.symm
  · have ht := rnk_top (tm := tm) hV.1 c0 (show c < nC σ.1 by omega)
    have hih := ih (by omega)
    rw [foI_s _ _ c0] at hih
    refine Cal.I (rankOf_s hV.1 hm h2.1 n2 l2 T2 c0 (by omega)) ⟨r32 (by omega) (by omega), hi, fun q2 => ?_, fun q2 => ?_⟩
    · rw [show rkS σ.1 tm i c (foI (rkS σ.1 tm i) (-1) c) = foI (rkS σ.1 tm i) (-1) c from if_neg q2] at hih; exact hih
    · rw [show rkS σ.1 tm i c (foI (rkS σ.1 tm i) (-1) c) = c from if_pos (Classical.not_not.1 q2)] at hih; exact hih
theorem M_likeliest {σ : St} {M : Mem} (h : MI σ M) (hV : VS σ) {w : Int} (hw : R32 w) : Cal Y_RM_likeliest [vR 141, vI w] M (Qm (q_likeliest σ.1 σ.2.2.2.1 w, σ) M) := by
  have hc := nC_bd hV.1
  generalize htm : σ.2.2.2.1 = tm
  have hm : TM tm := by rw [← htm]; exact hV.tm
  have hnt := nt_bd hV.1 hm
  have ⟨h0, k0⟩ := th0 h
  refine Cal.mk (y := Y_RM_likeliest) (loc := [vR 141, vI w, vN, vN, vN, vN, vN]) G_RM_likeliest rfl (by decide) rfl rfl (Nat.le_of_ble_eq_true rfl) ?_
  simp only [r_RM_likeliest_0, r_RM_likeliest_1, r_RM_likeliest_2, r_RM_likeliest_5, r_RM_likeliest_6, true_and, and_true, or_true, true_or, or_false, false_or, false_and, and_false, not_true_eq_false, not_false_eq_true, implies_true, true_implies, false_implies]
  refine (M_layCodes hV h0).mono ?_
  rintro _ M2 ⟨rfl, ⟨h2, n2, l2⟩, k2⟩
  have kk := k0.trans k2.m
  have T2 : ∀ i, 0 ≤ i → i < 4 → M2.1 143 i = tm i := by rw [← htm]; exact h2.2.2.2.1
  simp only [r_RM_likeliest_9, r_RM_likeliest_10, r_RM_likeliest_13, r_RM_likeliest_16, r_RM_likeliest_17, r_RM_likeliest_18, r_RM_likeliest_19, r_RM_likeliest_22, r_RM_likeliest_25, r_RM_likeliest_28, r_RM_likeliest_29, r_RM_likeliest_30, r_RM_likeliest_31, r_RM_likeliest_32, r_RM_likeliest_33, r_RM_likeliest_34, r_RM_likeliest_35, true_and, and_true, or_true, true_or, or_false, false_or, false_and, and_false, not_true_eq_false, not_false_eq_true, implies_true, true_implies, false_implies, n2.1]
  refine ⟨r32 (by omega) (by omega), fun q => Qm.q h2 kk (by unfold q_likeliest; rw [if_pos (Or.inl q)]), fun q => ⟨hw, in_n hw.l (l64 (by decide) (by decide)) (l64 (by decide) (by decide)) (fun q2 => ?_) (fun q2 => Qm.q h2 kk (by unfold q_likeliest; rw [if_pos (by omega)]))⟩⟩
  have ee : q_likeliest σ.1 tm w = if w = 0 ∨ rkd σ.1 tm 0 < 0 then rkd σ.1 tm 0 else if w = 1 then cntI (fun o => decide (sh σ.1 tm o = sh σ.1 tm (rkd σ.1 tm 0))) (nC σ.1) else if sh σ.1 tm (rkd σ.1 tm 0) < nt σ.1 tm then 1 else 0 := if_neg (by omega)
  have wt : ∀ c, 0 ≤ c → c < nC σ.1 → Cal Y_RM_weighed [vR 141, vI c] M2 (fun r M' => r = some (vL (sh σ.1 tm c)) ∧ M' = M2) := fun c a b => by
    have := weighed_s hV.1 hm h2.1 n2 l2 T2 (c := c) (by omega) b
    rw [show shn σ.1 tm c = sh σ.1 tm c from if_neg (by omega)] at this
    exact this
  have wn := weighed_s hV.1 hm h2.1 n2 l2 T2 (c := -1) (by decide) (by omega)
  rw [show shn σ.1 tm (-1) = nt σ.1 tm from if_pos rfl] at wn
  refine up_loop (lo := 0) (hi := nC σ.1) (P := fun c => ∀ b m l5 l6, 0 ≤ b → b < nC σ.1 → (∀ u, 0 ≤ u → u < c → sh σ.1 tm u ≤ sh σ.1 tm b) → (∀ u, 0 ≤ u → u < b → sh σ.1 tm u < sh σ.1 tm b) → m = cntI (fun o => decide (sh σ.1 tm o = sh σ.1 tm b)) c → b ≤ c → Run C_RM_likeliest (Qm (q_likeliest σ.1 tm w, σ) M) 37 [vR 141, vI w, vI b, vI m, vI c, l5, l6] [] M2) (fun c c0 c1 ih b m l5 l6 b0 b1 hall hlt hmm hbc => ?_) hc.1 0 0 _ _ (Int.le_refl _) (by omega) (fun u a b => by omega) (fun u a b => by omega) rfl (Int.le_refl _)
  have hsb := sh_bd hV.1 hm b0 b1
  have hmb := cntI_bd (fun o => decide (sh σ.1 tm o = sh σ.1 tm b)) c0
  rw [r_RM_likeliest_37]
  simp only [r_RM_likeliest_39, r_RM_likeliest_40, r_RM_likeliest_43, r_RM_likeliest_46, r_RM_likeliest_47, r_RM_likeliest_49, r_RM_likeliest_52, r_RM_likeliest_54, r_RM_likeliest_56, r_RM_likeliest_57, r_RM_likeliest_58, r_RM_likeliest_61, r_RM_likeliest_62, r_RM_likeliest_65, r_RM_likeliest_66, r_RM_likeliest_69, r_RM_likeliest_71, r_RM_likeliest_72, r_RM_likeliest_73, r_RM_likeliest_76, r_RM_likeliest_77, r_RM_likeliest_80, r_RM_likeliest_81, r_RM_likeliest_82, r_RM_likeliest_83, r_RM_likeliest_86, r_RM_likeliest_87, r_RM_likeliest_88, r_RM_likeliest_90, r_RM_likeliest_91, r_RM_likeliest_92, r_RM_likeliest_95, r_RM_likeliest_96, r_RM_likeliest_99, r_RM_likeliest_101, r_RM_likeliest_104, r_RM_likeliest_105, r_RM_likeliest_106, r_RM_likeliest_109, true_and, and_true, or_true, true_or, or_false, false_or, false_and, and_false, not_true_eq_false, not_false_eq_true, implies_true, true_implies, false_implies, n2.1]
  refine ⟨r32 (by omega) (by omega), r32 (by omega) (by omega), fun q3 => ?_, fun q3 => ?_⟩
  · have e : rkd σ.1 tm 0 = b := by
      refine rkd_eq hV.1 b0 b1 ?_
      unfold rnk
      have hz := cntI_cong (p := bfc σ.1 tm b) (q := fun _ => false) hc.1 (fun o a d => by
        unfold bfc
        rw [decide_eq_false_iff_not]
        have := hall o a (by omega)
        by_cases z : o < b
        · have := hlt o a z; omega
        · omega)
      rw [hz]
      have key : ∀ n : Int, 0 ≤ n → cntI (fun _ => false) n = 0 := int_ind rfl (fun n hn ih => by rw [cntI_s _ hn, ih]; rfl)
      exact key _ hc.1
    rw [e] at ee
    rw [show c = nC σ.1 by omega] at hmm
    simp only [r_RM_likeliest_112, r_RM_likeliest_113, r_RM_likeliest_116, r_RM_likeliest_117, r_RM_likeliest_120, r_RM_likeliest_121, r_RM_likeliest_122, r_RM_likeliest_125, r_RM_likeliest_126, r_RM_likeliest_129, r_RM_likeliest_130, r_RM_likeliest_131, r_RM_likeliest_134, r_RM_likeliest_135, r_RM_likeliest_136, r_RM_likeliest_139, r_RM_likeliest_140, r_RM_likeliest_143, r_RM_likeliest_144, r_RM_likeliest_147, r_RM_likeliest_148, true_and, and_true, or_true, true_or, or_false, false_or, false_and, and_false, not_true_eq_false, not_false_eq_true, implies_true, true_implies, false_implies]
    refine ⟨hw, fun q4 => ⟨hw, r32 (by decide) (by decide), fun q5 => Cal.L wn (Cal.L (wt b b0 b1) ⟨r64 (by omega) (by omega), r64 (by omega) (by omega), c3_r, fun q6 => Qm.q h2 kk ?_, fun q6 => Qm.q h2 kk ?_⟩), fun q5 => Qm.q h2 kk ?_⟩, fun q4 => Qm.q h2 kk ?_⟩
    · have q7 : ¬ sh σ.1 tm b < nt σ.1 tm := fun z => by have := c3_p.2 z; omega
      rw [ee, if_neg (by omega), if_neg q5, if_neg q7]
    · have q7 : sh σ.1 tm b < nt σ.1 tm := c3_p.1 (by omega)
      rw [ee, if_neg (by omega), if_neg q5, if_pos q7]
    · rw [ee, if_neg (by omega), if_pos (by omega), hmm]
    · rw [ee, if_pos (by omega)]
  · have hs := sh_bd hV.1 hm c0 (show c < nC σ.1 by omega)
    have W1 := wt c c0 (by omega)
    have W2 := wt b b0 b1
    refine Cal.L W1 (Cal.L W2 ⟨r64 (by omega) (by omega), r64 (by omega) (by omega), c3_r, fun q4 => Cal.L W2 ⟨r64 (by omega) (by omega), r64 (by omega) (by omega), c3_r, fun q5 => Cal.L W2 ⟨r64 (by omega) (by omega), r64 (by omega) (by omega), c3_r, fun q6 => ?_, fun q6 => absurd q4 q6⟩, fun q5 => Cal.L W2 ⟨r64 (by omega) (by omega), r64 (by omega) (by omega), c3_r, fun q6 => ?_, fun q6 => absurd q4 q6⟩⟩, fun q4 => Cal.L W2 ⟨r64 (by omega) (by omega), r64 (by omega) (by omega), c3_r, fun q6 => absurd q6 q4, fun q6 => ?_⟩⟩)
    · have p1 : ¬ sh σ.1 tm b < sh σ.1 tm c := fun z => by have := c3_p.2 z; omega
      have p2 : ¬ sh σ.1 tm c = sh σ.1 tm b := fun z => q5 (c3_z.2 z)
      refine ih (by omega) b m _ _ b0 b1 (fun u x y => ?_) hlt ?_ (by omega)
      · by_cases z : u = c
        · rw [z]; omega
        · exact hall u x (by omega)
      · rw [cntI_s _ c0, if_neg (by rw [decide_eq_true_eq]; exact p2), hmm]; omega
    · have p2 : sh σ.1 tm c = sh σ.1 tm b := c3_z.1 (Classical.not_not.1 q5)
      refine ih (by omega) b (m + 1) _ _ b0 b1 (fun u x y => ?_) hlt ?_ (by omega)
      · by_cases z : u = c
        · rw [z]; omega
        · exact hall u x (by omega)
      · rw [cntI_s _ c0, if_pos (by rw [decide_eq_true_eq]; exact p2), hmm]
    · have p1 : sh σ.1 tm b < sh σ.1 tm c := c3_p.1 (by omega)
      refine ih (by omega) c 1 _ _ c0 (by omega) (fun u x y => ?_) (fun u x y => ?_) ?_ (by omega)
      · by_cases z : u = c
        · rw [z]; exact Int.le_refl _
        · have := hall u x (by omega); omega
      · have := hall u x y; omega
      · have hz := cntI_cong (p := fun o => decide (sh σ.1 tm o = sh σ.1 tm c)) (q := fun _ => false) c0 (fun o a d => by
          rw [decide_eq_false_iff_not]
          have := hall o a d
          omega)
        have key : ∀ n : Int, 0 ≤ n → cntI (fun _ => false) n = 0 := int_ind rfl (fun n hn ih => by rw [cntI_s _ hn, ih]; rfl)
        rw [cntI_s _ c0, if_pos (by rw [decide_eq_true_eq]), hz, key c c0]; rfl
