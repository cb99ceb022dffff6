/-! the reference: distance, nearest -/
theorem far_s (M : Mem) {a b k : Int} (a0 : 0 ≤ a) (a1 : a < 4096) (b0 : 0 ≤ b) (b1 : b < 4096) (k0 : 0 ≤ k) : Cal Y_RM_far [vR 141, vI a, vI b, vI k] M (fun r M' => r = some (vI (pcI (iand (ixor a b) k))) ∧ M' = M) := by
  have hx := x12 a0 a1 b0 b1
  have ha := iand_bd hx.1 (by omega) k0
  refine Cal.mk (y := Y_RM_far) (loc := [vR 141, vI a, vI b, vI k]) G_RM_far rfl (by decide) rfl rfl (Nat.le_of_ble_eq_true rfl) ?_
  simp only [r_RM_far_0, r_RM_far_1, r_RM_far_2, r_RM_far_3, r_RM_far_4, r_RM_far_5, r_RM_far_8, true_and, and_true, or_true, true_or, or_false, false_or, false_and, and_false, not_true_eq_false, not_false_eq_true, implies_true, true_implies, false_implies]
  exact Cal.I (bits_s M ha.1 (by omega)) ⟨rfl, rfl⟩
theorem apart_s {ρ : Rw} (hV : VR ρ) {M : Mem} (hL : LC ρ M) {c o : Int} (c0 : 0 ≤ c) (c1 : c < nC ρ) (o0 : -1 ≤ o) (o1 : o < nC ρ) : Cal Y_RM_apart [vR 141, vI c, vI o] M (fun r M' => r = some (vI (pcI (ap ρ c o))) ∧ M' = M) := by
  have hc := nC_bd hV
  have hb := ap_bd hV c o
  refine Cal.mk (y := Y_RM_apart) (loc := [vR 141, vI c, vI o]) G_RM_apart rfl (by decide) rfl rfl (Nat.le_of_ble_eq_true rfl) ?_
  simp only [r_RM_apart_0, r_RM_apart_1, r_RM_apart_4, r_RM_apart_5, r_RM_apart_6, r_RM_apart_7, r_RM_apart_8, r_RM_apart_11, r_RM_apart_12, r_RM_apart_15, r_RM_apart_16, r_RM_apart_19, r_RM_apart_20, r_RM_apart_21, r_RM_apart_22, r_RM_apart_25, true_and, and_true, or_true, true_or, or_false, false_or, false_and, and_false, not_true_eq_false, not_false_eq_true, implies_true, true_implies, false_implies]
  rw [hL c c0 c1]
  refine ⟨c0, by omega, r32 (by omega) (by omega), r32 (by decide) (by decide), fun q => ⟨by omega, by omega, ?_⟩, fun q => ?_⟩
  · rw [hL o (by omega) o1, show ixor (gC ρ c) (gC ρ o) = ap ρ c o by unfold ap; rw [if_neg q]]
    exact Cal.I (bits_s M hb.1 (by omega)) ⟨rfl, rfl⟩
  · rw [show ixor (gC ρ c) 0 = ap ρ c o by unfold ap; rw [if_pos (by omega)]]
    exact Cal.I (bits_s M hb.1 (by omega)) ⟨rfl, rfl⟩
theorem M_distance {σ : St} {M : Mem} (h : MI σ M) (hV : VS σ) {c o w : Int} (hc : R32 c) (ho : R32 o) (hw : R32 w) : Cal Y_RM_distance [vR 141, vI c, vI o, vI w] M (Qm (q_distance σ.1 c o w, σ) M) := by
  have hn := nC_bd hV.1
  have hbk := bk_bd hV.1
  have ⟨h0, k0⟩ := th0 h
  have no : ∀ M1, MI σ M1 → Kp KM M M1 → ((c < 0 ∨ nC σ.1 ≤ c) ∨ (¬ o = -1 ∧ (o < 0 ∨ nC σ.1 ≤ o)) ∨ (w < 0 ∨ 2 ≤ w)) → Qm (q_distance σ.1 c o w, σ) M (some (vI (-1))) M1 := fun M1 h1 k1 z => Qm.q h1 k1 (by unfold q_distance; rw [if_pos z])
  have go : ∀ M1, MI σ M1 → Kp KM M M1 → ¬ (c < 0 ∨ nC σ.1 ≤ c) → ¬ (¬ o = -1 ∧ (o < 0 ∨ nC σ.1 ≤ o)) → Run C_RM_distance (Qm (q_distance σ.1 c o w, σ) M) 26 [vR 141, vI c, vI o, vI w] [] M1 := by
    intro M1 h1 k1 z1 z2
    simp only [r_RM_distance_26, r_RM_distance_27, r_RM_distance_28, r_RM_distance_29, r_RM_distance_30, r_RM_distance_33, r_RM_distance_36, r_RM_distance_37, r_RM_distance_38, r_RM_distance_39, true_and, and_true, or_true, true_or, or_false, false_or, false_and, and_false, not_true_eq_false, not_false_eq_true, implies_true, true_implies, false_implies]
    refine ⟨hw, in_n hw.l (l64 (by decide) (by decide)) (l64 (by decide) (by decide)) (fun q => ?_) (fun q => no M1 h1 k1 (by omega))⟩
    have ee : q_distance σ.1 c o w = if w = 0 then gp σ.1 (gC σ.1 c) (if o = -1 then 0 else gC σ.1 o) else pcI (ixor (gC σ.1 c) (if o = -1 then 0 else gC σ.1 o)) := if_neg (by omega)
    refine (M_layCodes hV h1).mono ?_
    rintro _ M2 ⟨rfl, ⟨h2, n2, l2⟩, k2⟩
    have kk := k1.trans k2.m
    have hg := gC_bd hV.1 c
    have hg2 := gC_bd hV.1 o
    simp only [r_RM_distance_42, r_RM_distance_43, r_RM_distance_44, r_RM_distance_47, r_RM_distance_48, r_RM_distance_49, r_RM_distance_50, r_RM_distance_53, r_RM_distance_56, r_RM_distance_57, r_RM_distance_58, r_RM_distance_61, r_RM_distance_62, r_RM_distance_63, r_RM_distance_64, r_RM_distance_65, r_RM_distance_68, r_RM_distance_69, r_RM_distance_72, r_RM_distance_73, r_RM_distance_76, r_RM_distance_77, true_and, and_true, or_true, true_or, or_false, false_or, false_and, and_false, not_true_eq_false, not_false_eq_true, implies_true, true_implies, false_implies]
    refine ⟨hw, r32 (by decide) (by decide), fun q2 => ⟨by omega, by omega, ho, r32 (by decide) (by decide), fun q3 => ⟨by omega, by omega, ?_⟩, fun q3 => ?_⟩, fun q2 => ?_⟩
    · rw [l2 c (by omega) (by omega), l2 o (by omega) (by omega)]
      simp only [r_RM_distance_78, r_RM_distance_79, r_RM_distance_82, r_RM_distance_83, r_RM_distance_84, r_RM_distance_87, true_and, and_true, or_true, true_or, or_false, false_or, false_and, and_false, not_true_eq_false, not_false_eq_true, implies_true, true_implies, false_implies, show M2.1 144 4 = σ.1 4 from h2.1 4 (by decide) (by decide)]
      exact ⟨by decide, by decide, Cal.I (far_s M2 hg.1 hg.2.2 hg2.1 hg2.2.2 hbk.1) (Qm.q h2 kk (by rw [ee, if_pos (by omega), if_neg q3]; rfl))⟩
    · rw [l2 c (by omega) (by omega)]
      simp only [r_RM_distance_78, r_RM_distance_79, r_RM_distance_82, r_RM_distance_83, r_RM_distance_84, r_RM_distance_87, true_and, and_true, or_true, true_or, or_false, false_or, false_and, and_false, not_true_eq_false, not_false_eq_true, implies_true, true_implies, false_implies, show M2.1 144 4 = σ.1 4 from h2.1 4 (by decide) (by decide)]
      exact ⟨by decide, by decide, Cal.I (far_s M2 hg.1 hg.2.2 (by decide) (by decide) hbk.1) (Qm.q h2 kk (by rw [ee, if_pos (by omega), if_pos (by omega)]; rfl))⟩
    · refine Cal.I (apart_s hV.1 l2 (c := c) (o := o) (by omega) (by omega) (by omega) (by omega)) ?_
      simp only [r_RM_distance_53, r_RM_distance_87, true_and, and_true, or_true, true_or, or_false, false_or, false_and, and_false, not_true_eq_false, not_false_eq_true, implies_true, true_implies, false_implies]
      exact Qm.q h2 kk (by rw [ee, if_neg (by omega)]; rfl)
  refine Cal.mk (y := Y_RM_distance) (loc := [vR 141, vI c, vI o, vI w]) G_RM_distance rfl (by decide) rfl rfl (Nat.le_of_ble_eq_true rfl) ?_
  simp only [r_RM_distance_0, r_RM_distance_1, r_RM_distance_2, r_RM_distance_5, r_RM_distance_6, r_RM_distance_7, r_RM_distance_10, r_RM_distance_13, r_RM_distance_14, r_RM_distance_15, r_RM_distance_18, r_RM_distance_19, r_RM_distance_20, r_RM_distance_23, true_and, and_true, or_true, true_or, or_false, false_or, false_and, and_false, not_true_eq_false, not_false_eq_true, implies_true, true_implies, false_implies]
  refine (M_isCause hV h0 hc).Be' (fun q M1 ⟨n1, h1, k1⟩ => ?_) (fun q M1 ⟨n1, h1, k1⟩ => ?_)
  · refine ⟨ho, r32 (by decide) (by decide), fun q2 => go M1 h1 (k0.trans k1.m) (by omega) (by omega), fun q2 => (M_isCause hV h1 ho).Be' (fun q3 M2 ⟨n2, h2, k2⟩ => go M2 h2 ((k0.trans k1.m).trans k2.m) (by omega) (by omega)) (fun q3 M2 ⟨n2, h2, k2⟩ => ?_)⟩
    simp only [r_RM_distance_36, r_RM_distance_37, true_and, and_true, or_true, true_or, or_false, false_or, false_and, and_false, not_true_eq_false, not_false_eq_true, implies_true, true_implies, false_implies]
    exact no M2 h2 ((k0.trans k1.m).trans k2.m) (by omega)
  · simp only [r_RM_distance_36, r_RM_distance_37, true_and, and_true, or_true, true_or, or_false, false_or, false_and, and_false, not_true_eq_false, not_false_eq_true, implies_true, true_implies, false_implies]
    exact no M1 h1 (k0.trans k1.m) (by omega)
/-- the reference has looked for the nearest: what stays -/
def KN (M M' : Mem) : Prop := Kp (fun c => c = 141) M M' ∧ ∀ i, ¬ i = 18 → ¬ i = 19 → ¬ i = 20 → M'.1 141 i = M.1 141 i
theorem KN.kr {M M' : Mem} (h : KN M M') : KR M M' := ⟨h.1.sub (fun c z => Or.inl z), h.2 1 (by decide) (by decide) (by decide), h.2 7 (by decide) (by decide) (by decide)⟩
theorem KN.nu {ρ : Rw} {M M' : Mem} (h : KN M M') (n : NU ρ M) : NU ρ M' := n.kp h.1 (fun c a b => by omega) (h.2 12 (by decide) (by decide) (by decide)) (h.2 15 (by decide) (by decide) (by decide))
theorem KN.lc {ρ : Rw} {M M' : Mem} (h : KN M M') (n : LC ρ M) : LC ρ M' := fun c a b => by rw [h.1.at (by decide)]; exact n c a b
theorem KN.rr {ρ : Rw} {M M' : Mem} (h : KN M M') (n : RR ρ M) : RR ρ M' := fun c a b => by rw [h.1.at (by decide)]; exact n c a b
theorem KN.trans {M M' M'' : Mem} (h1 : KN M M') (h2 : KN M' M'') : KN M M'' := ⟨h1.1.trans h2.1, fun i a b c => (h2.2 i a b c).trans (h1.2 i a b c)⟩
theorem KN.rf {M : Mem} : KN M M := ⟨Kp.rf, fun _ _ _ _ => rfl⟩
theorem KN.w {M M' : Mem} {i z : Int} (h : KN M M') (hi : i = 18 ∨ i = 19 ∨ i = 20) : KN M (wI M' 141 i z) := ⟨Kp.w h.1 rfl, fun j a b c => by rw [wI_oth (by omega)]; exact h.2 j a b c⟩
theorem layNearest_s {ρ : Rw} (hV : VR ρ) {M : Mem} (hR : RR ρ M) (hN : NU ρ M) (hL : LC ρ M) {x : Int} (x0 : 0 ≤ x) (x1 : x < 4096) : Cal Y_RM_layNearest [vR 141, vI x] M (fun r M' => r = none ∧ M'.1 141 18 = lst ρ x ∧ M'.1 141 19 = nr ρ x ∧ M'.1 141 20 = lob ρ x ∧ KN M M') := by
  have hc := nC_bd hV
  have hbk := bk_bd hV
  have hlb := lst_bd hV x
  refine Cal.mk (y := Y_RM_layNearest) (loc := [vR 141, vI x, vN, vN]) G_RM_layNearest rfl (by decide) rfl rfl (Nat.le_of_ble_eq_true rfl) ?_
  simp only [r_RM_layNearest_0, r_RM_layNearest_1, r_RM_layNearest_3, r_RM_layNearest_6, r_RM_layNearest_7, true_and, and_true, or_true, true_or, or_false, false_or, false_and, and_false, not_true_eq_false, not_false_eq_true, implies_true, true_implies, false_implies]
  refine up_loop (lo := 0) (hi := nC ρ) (P := fun c => ∀ M1 l3, KN M M1 → M1.1 141 18 = mn (fun c => gp ρ (gC ρ c) x) 1000000 c → Run C_RM_layNearest (fun r M' => r = none ∧ M'.1 141 18 = lst ρ x ∧ M'.1 141 19 = nr ρ x ∧ M'.1 141 20 = lob ρ x ∧ KN M M') 8 [vR 141, vI x, vI c, l3] [] M1) (fun c c0 cn ih M1 l3 k1 e1 => ?_) hc.1 _ _ (KN.rf.w (Or.inl rfl)) (wI_same _ _ _ _)
  have N1 := k1.nu hN
  have hm := mn_nn (f := fun c => gp ρ (gC ρ c) x) (z := 1000000) c0 (by decide) (fun k _ _ => (gp_bd _ _ _).1)
  rw [r_RM_layNearest_8]
  simp only [r_RM_layNearest_9, r_RM_layNearest_10, r_RM_layNearest_13, r_RM_layNearest_16, r_RM_layNearest_17, r_RM_layNearest_18, r_RM_layNearest_21, r_RM_layNearest_22, r_RM_layNearest_23, r_RM_layNearest_24, r_RM_layNearest_25, r_RM_layNearest_28, r_RM_layNearest_29, r_RM_layNearest_30, r_RM_layNearest_33, r_RM_layNearest_34, r_RM_layNearest_35, r_RM_layNearest_36, r_RM_layNearest_37, r_RM_layNearest_40, r_RM_layNearest_43, r_RM_layNearest_44, r_RM_layNearest_47, r_RM_layNearest_48, r_RM_layNearest_51, r_RM_layNearest_54, r_RM_layNearest_57, true_and, and_true, or_true, true_or, or_false, false_or, false_and, and_false, not_true_eq_false, not_false_eq_true, implies_true, true_implies, false_implies, N1.1, show M1.1 144 4 = ρ 4 from k1.rr hR 4 (by decide) (by decide)]
  refine ⟨r32 (by omega) (by omega), r32 (by omega) (by omega), fun q => ?_, fun q => ⟨c0, by omega, by decide, by decide, ?_⟩⟩
  · simp only [r_RM_layNearest_60, r_RM_layNearest_61, r_RM_layNearest_62, r_RM_layNearest_65, r_RM_layNearest_66, r_RM_layNearest_68, r_RM_layNearest_71, r_RM_layNearest_72, true_and, and_true, or_true, true_or, or_false, false_or, false_and, and_false, not_true_eq_false, not_false_eq_true, implies_true, true_implies, false_implies]
    have ec : c = nC ρ := by omega
    rw [ec] at e1
    refine up_loop (lo := 0) (hi := nC ρ) (P := fun c => ∀ M2 l3, KN M M2 → M2.1 141 18 = lst ρ x → M2.1 141 19 = bsI (fun k => decide (gp ρ (gC ρ k) x = lst ρ x)) c → M2.1 141 20 = mn (lbF ρ x) 1000000 c → Run C_RM_layNearest (fun r M' => r = none ∧ M'.1 141 18 = lst ρ x ∧ M'.1 141 19 = nr ρ x ∧ M'.1 141 20 = lob ρ x ∧ KN M M') 73 [vR 141, vI x, vI c, l3] [] M2) (fun c c0 cn ih M2 l3 k2 a2 b2 d2 => ?_) hc.1 _ _ ((k1.w (Or.inr (Or.inl rfl))).w (Or.inr (Or.inr rfl))) (by rw [wI_oth (by decide), wI_oth (by decide)]; exact e1) (by rw [wI_oth (by decide), wI_same]; rfl) (by rw [wI_same]; rfl)
    have N2 := k2.nu hN
    have hb := bsI_bd (fun k => decide (gp ρ (gC ρ k) x = lst ρ x)) c
    have hp := p2_12 (show c ≤ 12 by omega)
    have hm2 := mn_nn (f := lbF ρ x) (z := 1000000) c0 (by decide) (fun k _ _ => (lbF_bd ρ x k).1)
    rw [r_RM_layNearest_73]
    simp only [r_RM_layNearest_74, r_RM_layNearest_75, r_RM_layNearest_78, r_RM_layNearest_81, r_RM_layNearest_82, r_RM_layNearest_83, r_RM_layNearest_86, r_RM_layNearest_87, r_RM_layNearest_88, r_RM_layNearest_89, r_RM_layNearest_90, r_RM_layNearest_93, r_RM_layNearest_94, r_RM_layNearest_95, true_and, and_true, or_true, true_or, or_false, false_or, false_and, and_false, not_true_eq_false, not_false_eq_true, implies_true, true_implies, false_implies, N2.1, show M2.1 144 4 = ρ 4 from k2.rr hR 4 (by decide) (by decide)]
    refine ⟨r32 (by omega) (by omega), r32 (by omega) (by omega), fun q2 => ?_, fun q2 => ⟨c0, by omega, by decide, by decide, ?_⟩⟩
    · simp only [r_RM_layNearest_157, true_and, and_true, or_true, true_or, or_false, false_or, false_and, and_false, not_true_eq_false, not_false_eq_true, implies_true, true_implies, false_implies]
      rw [show c = nC ρ by omega] at b2 d2
      exact ⟨a2, b2, d2, k2⟩
    · rw [k2.lc hL c c0 (by omega)]
      have hg := gC_bd hV c
      refine Cal.I (far_s M2 hg.1 hg.2.2 x0 x1 hbk.1) ?_
      rw [show pcI (iand (ixor (gC ρ c) x) (ρ 4)) = gp ρ (gC ρ c) x from rfl]
      have hgp := gp_bd ρ (gC ρ c) x
      have hge : lst ρ x ≤ gp ρ (gC ρ c) x := (mn_sp (fun c => gp ρ (gC ρ c) x) 1000000 (nC ρ) hc.1).2.1 c c0 (by omega)
      have hih := ih (by omega)
      rw [bsI_s c0 (by omega), mn_s _ _ c0] at hih
      -- behind the bits
      have ot : ∀ u, u = (if decide (gp ρ (gC ρ c) x = lst ρ x) = true then ior (bsI (fun k => decide (gp ρ (gC ρ k) x = lst ρ x)) c) (p2 c) else bsI (fun k => decide (gp ρ (gC ρ k) x = lst ρ x)) c) → Run C_RM_layNearest (fun r M' => r = none ∧ M'.1 141 18 = lst ρ x ∧ M'.1 141 19 = nr ρ x ∧ M'.1 141 20 = lob ρ x ∧ KN M M') 120 [vR 141, vI x, vI c, vI (gp ρ (gC ρ c) x)] [vI u, vR 141] M2 := by
        intro u eu
        have w18 : (wI M2 141 19 u).1 141 18 = lst ρ x := by rw [wI_oth (by decide)]; exact a2
        have w20 : (wI M2 141 19 u).1 141 20 = mn (lbF ρ x) 1000000 c := by rw [wI_oth (by decide)]; exact d2
        simp only [r_RM_layNearest_120, r_RM_layNearest_123, r_RM_layNearest_124, r_RM_layNearest_125, r_RM_layNearest_126, r_RM_layNearest_129, r_RM_layNearest_132, r_RM_layNearest_133, r_RM_layNearest_134, r_RM_layNearest_137, r_RM_layNearest_140, r_RM_layNearest_141, r_RM_layNearest_144, r_RM_layNearest_145, r_RM_layNearest_148, r_RM_layNearest_151, r_RM_layNearest_154, true_and, and_true, or_true, true_or, or_false, false_or, false_and, and_false, not_true_eq_false, not_false_eq_true, implies_true, true_implies, false_implies, w18, w20]
        have st : ∀ z, z = (if lbF ρ x c < mn (lbF ρ x) 1000000 c then lbF ρ x c else mn (lbF ρ x) 1000000 c) → Run C_RM_layNearest (fun r M' => r = none ∧ M'.1 141 18 = lst ρ x ∧ M'.1 141 19 = nr ρ x ∧ M'.1 141 20 = lob ρ x ∧ KN M M') 73 [vR 141, vI x, vI (c + 1), vI (gp ρ (gC ρ c) x)] [] (wI (wI M2 141 19 u) 141 20 z) := fun z ez => hih _ _ ((k2.w (Or.inr (Or.inl rfl))).w (Or.inr (Or.inr rfl))) (by rw [wI_oth (by decide), wI_oth (by decide)]; exact a2) (by rw [wI_oth (by decide), wI_same]; exact eu) (by rw [wI_same]; exact ez)
        have eq1 : gp ρ (gC ρ c) x = lst ρ x → lbF ρ x c = 1000000 := fun z => if_pos z
        have eq2 : ¬ gp ρ (gC ρ c) x = lst ρ x → lbF ρ x c = gp ρ (gC ρ c) x := fun z => if_neg z
        refine ⟨r32 (by omega) (by omega), r32 (by omega) (by omega), fun c1 => st _ (by rw [eq1 (by omega), if_neg (by omega)]), fun c1 => ⟨r32 (by omega) (by omega), r32 (by omega) (by omega), fun c2 => st _ (by rw [eq2 (by omega), if_neg (by omega)]), fun c2 => st _ (by rw [eq2 (by omega), if_pos (by omega)])⟩⟩
      simp only [r_RM_layNearest_98, r_RM_layNearest_99, r_RM_layNearest_100, r_RM_layNearest_101, r_RM_layNearest_104, r_RM_layNearest_105, r_RM_layNearest_106, r_RM_layNearest_109, r_RM_layNearest_112, r_RM_layNearest_113, r_RM_layNearest_114, r_RM_layNearest_115, r_RM_layNearest_118, r_RM_layNearest_119, true_and, and_true, or_true, true_or, or_false, false_or, false_and, and_false, not_true_eq_false, not_false_eq_true, implies_true, true_implies, false_implies, a2, b2, p2_def]
      refine ⟨r32 (by omega) (by omega), r32 (by omega) (by omega), fun c1 => ?_, fun c1 => ⟨⟨c0, by omega⟩, ot _ (by rw [if_pos (by rw [decide_eq_true_eq]; omega)])⟩⟩
      rw [ior_0 hb.1 (by omega)]
      exact ot _ (by rw [if_neg (by rw [decide_eq_true_eq]; exact c1)])
  · rw [k1.lc hL c c0 (by omega)]
    have hg := gC_bd hV c
    refine Cal.I (far_s M1 hg.1 hg.2.2 x0 x1 hbk.1) ?_
    rw [show pcI (iand (ixor (gC ρ c) x) (ρ 4)) = gp ρ (gC ρ c) x from rfl, e1]
    have hgp := gp_bd ρ (gC ρ c) x
    have hih := ih (by omega)
    rw [mn_s _ _ c0] at hih
    refine ⟨r32 (by omega) (by omega), r32 (by omega) (by omega), fun c1 => hih _ _ (k1.w (Or.inl rfl)) (by rw [wI_same, if_neg (by omega)]), fun c1 => hih _ _ (k1.w (Or.inl rfl)) (by rw [wI_same, if_pos (by omega)])⟩
theorem lowest_s (M : Mem) {v : Int} (v0 : 0 ≤ v) (v1 : v < 1073741824) : Cal Y_RM_lowest [vI v] M (fun r M' => ∃ z, r = some (vI z) ∧ ((v = 0 ∧ z = -1) ∨ (¬ v = 0 ∧ lowb v z)) ∧ M' = M) := by
  have hdiv : ∀ k : Int, 0 ≤ v / 2 ^ k.toNat ∧ v / 2 ^ k.toNat ≤ v := fun k => by
    have hp := p2_pos k
    unfold p2 at hp
    exact ⟨Int.ediv_nonneg v0 (by omega), Int.ediv_le_self _ v0⟩
  refine Cal.mk (y := Y_RM_lowest) (loc := [vI v, vN]) G_RM_lowest rfl (by decide) rfl rfl (Nat.le_of_ble_eq_true rfl) ?_
  simp only [r_RM_lowest_0, r_RM_lowest_1, true_and, and_true, or_true, true_or, or_false, false_or, false_and, and_false, not_true_eq_false, not_false_eq_true, implies_true, true_implies, false_implies]
  by_cases hz : v = 0
  · rw [r_RM_lowest_2]
    simp only [r_RM_lowest_3, r_RM_lowest_4, r_RM_lowest_5, r_RM_lowest_8, r_RM_lowest_9, r_RM_lowest_10, r_RM_lowest_13, r_RM_lowest_16, r_RM_lowest_19, r_RM_lowest_22, r_RM_lowest_23, r_RM_lowest_26, r_RM_lowest_27, r_RM_lowest_30, r_RM_lowest_31, true_and, and_true, or_true, true_or, or_false, false_or, false_and, and_false, not_true_eq_false, not_false_eq_true, implies_true, true_implies, false_implies]
    have := hdiv 0
    refine ⟨⟨r32 (by omega) (by omega), by decide, by decide⟩, r32 (by omega) (by omega), fun _ => ⟨r32 (by omega) (by omega), fun q => absurd hz q, fun _ => ⟨-1, rfl, Or.inl ⟨hz, rfl⟩⟩⟩, fun q => by omega⟩
  · obtain ⟨h, hl⟩ := lowb_ex v0 hz
    have hh := lowb_lt (n := 30) v0 (by have : p2 30 = 1073741824 := by decide
                                        omega) hl
    have hge : p2 h ≤ v := by
      rcases Int.lt_or_le v (p2 h) with q | q
      · have := bit_hi v0 q (Int.le_refl h)
        rw [hl.2.1] at this; exact Bool.noConfusion this
      · exact q
    refine up_loop (lo := 0) (hi := h) (P := fun k => Run C_RM_lowest (fun r M' => ∃ z, r = some (vI z) ∧ ((v = 0 ∧ z = -1) ∨ (¬ v = 0 ∧ lowb v z)) ∧ M' = M) 2 [vI v, vI k] [] M) (fun k k0 kn ih => ?_) hl.1
    have hd := hdiv k
    have hk : 1 ≤ v / 2 ^ k.toNat := by
      have hp := p2_pos k
      have hm := p2_mono kn
      unfold p2 at hp hm hge
      exact Int.le_ediv_of_mul_le hp (by omega)
    rw [r_RM_lowest_2]
    simp only [r_RM_lowest_3, r_RM_lowest_4, r_RM_lowest_5, r_RM_lowest_8, r_RM_lowest_9, r_RM_lowest_10, r_RM_lowest_13, r_RM_lowest_16, r_RM_lowest_19, true_and, and_true, or_true, true_or, or_false, false_or, false_and, and_false, not_true_eq_false, not_false_eq_true, implies_true, true_implies, false_implies]
    refine ⟨⟨r32 (by omega) (by omega), k0, by omega⟩, r32 (by omega) (by omega), fun q => by omega, fun q => (rhas_s M v0 (by omega) k0 (by omega)).Bn (fun q2 => ?_) (fun q2 => ?_)⟩
    · simp only [r_RM_lowest_22, r_RM_lowest_23, r_RM_lowest_26, r_RM_lowest_27, r_RM_lowest_30, r_RM_lowest_31, true_and, and_true, or_true, true_or, or_false, false_or, false_and, and_false, not_true_eq_false, not_false_eq_true, implies_true, true_implies, false_implies]
      have ek : k = h := by
        rcases Int.lt_or_le k h with w | w
        · have := hl.2.2 k k0 w; rw [q2] at this; exact Bool.noConfusion this
        · omega
      refine ⟨r32 (by omega) (by omega), fun _ => ⟨k, rfl, Or.inr ⟨hz, by rw [ek]; exact hl⟩⟩, fun w => absurd hz w⟩
    · refine ih ?_
      rcases Int.lt_or_le k h with w | w
      · exact w
      · rw [show k = h by omega] at q2; exact absurd hl.2.1 q2
theorem fb_low {v h : Int} (v0 : 0 ≤ v) (v1 : v < 4096) (hl : lowb v h) : fb v = h := fb_eq hl.1 (lowb_lt (n := 12) v0 (by exact v1) hl) hl.2.1 hl.2.2
theorem lowest_fb (M : Mem) {v : Int} (v0 : 0 ≤ v) (v1 : v < 4096) : Cal Y_RM_lowest [vI v] M (fun r M' => r = some (vI (fb v)) ∧ M' = M) := by
  refine (lowest_s M v0 (by omega)).mono ?_
  rintro _ M' ⟨z, rfl, y, rfl⟩
  rcases y with ⟨rfl, rfl⟩ | ⟨-, y⟩
  · rw [fb_none (fun j _ _ => bit_0 j)]; exact ⟨rfl, rfl⟩
  · rw [fb_low v0 v1 y]; exact ⟨rfl, rfl⟩
theorem M_nearest {σ : St} {M : Mem} (h : MI σ M) (hV : VS σ) {w : Int} (hw : R32 w) : Cal Y_RM_nearest [vR 141, vI w] M (Qm (q_nearest σ.1 w, σ) M) := by
  have hc := nC_bd hV.1
  have hse := se_bd hV.1
  have ⟨h0, k0⟩ := th0 h
  refine Cal.mk (y := Y_RM_nearest) (loc := [vR 141, vI w]) G_RM_nearest rfl (by decide) rfl rfl (Nat.le_of_ble_eq_true rfl) ?_
  simp only [r_RM_nearest_0, r_RM_nearest_1, r_RM_nearest_2, r_RM_nearest_5, r_RM_nearest_6, true_and, and_true, or_true, true_or, or_false, false_or, false_and, and_false, not_true_eq_false, not_false_eq_true, implies_true, true_implies, false_implies]
  refine (M_layCodes hV h0).mono ?_
  rintro _ M2 ⟨rfl, ⟨h2, n2, l2⟩, k2⟩
  have kk := k0.trans k2.m
  simp only [r_RM_nearest_9, r_RM_nearest_10, r_RM_nearest_13, r_RM_nearest_16, r_RM_nearest_17, r_RM_nearest_18, r_RM_nearest_19, r_RM_nearest_22, r_RM_nearest_25, r_RM_nearest_28, r_RM_nearest_29, r_RM_nearest_30, r_RM_nearest_31, r_RM_nearest_32, r_RM_nearest_35, r_RM_nearest_36, r_RM_nearest_37, true_and, and_true, or_true, true_or, or_false, false_or, false_and, and_false, not_true_eq_false, not_false_eq_true, implies_true, true_implies, false_implies, n2.1, show M2.1 144 5 = σ.1 5 from h2.1 5 (by decide) (by decide)]
  refine ⟨r32 (by omega) (by omega), fun q => Qm.q h2 kk (by unfold q_nearest; rw [if_pos (Or.inl q)]), fun q => ⟨hw, in_n hw.l (l64 (by decide) (by decide)) (l64 (by decide) (by decide)) (fun q2 => ?_) (fun q2 => Qm.q h2 kk (by unfold q_nearest; rw [if_pos (by omega)]))⟩⟩
  have ee : q_nearest σ.1 w = if w = 0 then lst σ.1 (σ.1 5) else if w = 1 then pcI (nr σ.1 (σ.1 5)) else if w = 2 then fb (nr σ.1 (σ.1 5)) else if w = 3 then nr σ.1 (σ.1 5) else if lob σ.1 (σ.1 5) = 1000000 then -1 else lob σ.1 (σ.1 5) := if_neg (by omega)
  rw [show M2.1 144 5 = σ.1 5 from h2.1 5 (by decide) (by decide)]
  refine ⟨by decide, by decide, (layNearest_s hV.1 h2.1 n2 l2 hse.1 hse.2).mono ?_⟩
  rintro _ M3 ⟨rfl, a3, b3, d3, k3⟩
  have h3 := h2.kr k3.kr
  have kk3 := kk.trans k3.kr.m
  have hb := nr_bd hV.1 (σ.1 5)
  have hlo := mn_nn (f := lbF σ.1 (σ.1 5)) (z := 1000000) hc.1 (by decide) (fun k _ _ => (lbF_bd σ.1 (σ.1 5) k).1)
  have hlo' : lob σ.1 (σ.1 5) = mn (lbF σ.1 (σ.1 5)) 1000000 (nC σ.1) := rfl
  simp only [r_RM_nearest_40, r_RM_nearest_41, r_RM_nearest_72, r_RM_nearest_73, r_RM_nearest_76, r_RM_nearest_77, r_RM_nearest_78, r_RM_nearest_81, r_RM_nearest_84, r_RM_nearest_85, r_RM_nearest_86, r_RM_nearest_89, r_RM_nearest_92, r_RM_nearest_93, r_RM_nearest_94, r_RM_nearest_97, r_RM_nearest_98, r_RM_nearest_99, r_RM_nearest_102, r_RM_nearest_104, r_RM_nearest_107, r_RM_nearest_108, r_RM_nearest_111, r_RM_nearest_112, r_RM_nearest_115, true_and, and_true, or_true, true_or, or_false, false_or, false_and, and_false, not_true_eq_false, not_false_eq_true, implies_true, true_implies, false_implies, a3, b3, d3]
  refine ⟨hw, ⟨fun q3 => Qm.q h3 kk3 (by rw [ee, if_pos q3]), fun q3 => Cal.I (bits_s M3 hb.1 (by omega)) (Qm.q h3 kk3 (by rw [ee, if_neg (by omega), if_pos q3])), fun q3 => Cal.I (lowest_fb M3 hb.1 hb.2.2) (Qm.q h3 kk3 (by rw [ee, if_neg (by omega), if_neg (by omega), if_pos q3])), fun q3 => Qm.q h3 kk3 (by rw [ee, if_neg (by omega), if_neg (by omega), if_neg (by omega), if_pos q3])⟩, fun q3 => ⟨r32 (by omega) (by omega), r32 (by decide) (by decide), fun q4 => Qm.q h3 kk3 (by rw [ee, if_neg (by omega), if_neg (by omega), if_neg (by omega), if_neg (by omega), if_neg q4]), fun q4 => Qm.q h3 kk3 (by rw [ee, if_neg (by omega), if_neg (by omega), if_neg (by omega), if_neg (by omega), if_pos (by omega)])⟩⟩
