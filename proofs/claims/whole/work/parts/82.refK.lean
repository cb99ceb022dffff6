/-! the reference: reduce, reduced, ordered, sure -/
theorem isEnough_s {ρ : Rw} (hV : VR ρ) {M : Mem} (hN : NU ρ M) (hL : LC ρ M) {k d : Int} (k0 : 0 ≤ k) (k1 : k < 4096) (d0 : 1 ≤ d) (d1 : d ≤ 6) : Cal Y_RM_isEnough [vR 141, vI k, vI d] M (fun r M' => r = some (vI (if dec (enough ρ d k) = true then 1 else 0)) ∧ M' = M) := by
  have hc := nC_bd hV
  refine Cal.mk (y := Y_RM_isEnough) (loc := [vR 141, vI k, vI d, vN, vN, vN, vN]) G_RM_isEnough rfl (by decide) rfl rfl (Nat.le_of_ble_eq_true rfl) ?_
  simp only [r_RM_isEnough_0, r_RM_isEnough_1, r_RM_isEnough_2, r_RM_isEnough_3, true_and, and_true, or_true, true_or, or_false, false_or, false_and, and_false, not_true_eq_false, not_false_eq_true, implies_true, true_implies, false_implies]
  have no5 : ¬ enough ρ d k → ∀ c l5 l6, 0 ≤ c → c ≤ nC ρ → Run C_RM_isEnough (fun r M' => r = some (vI (if dec (enough ρ d k) = true then 1 else 0)) ∧ M' = M) 5 [vR 141, vI k, vI d, vI 0, vI c, l5, l6] [] M := by
    intro z c l5 l6 c0 c1
    rw [r_RM_isEnough_5]
    simp only [r_RM_isEnough_7, r_RM_isEnough_8, r_RM_isEnough_11, r_RM_isEnough_14, r_RM_isEnough_15, r_RM_isEnough_104, r_RM_isEnough_105, true_and, and_true, or_true, true_or, or_false, false_or, false_and, and_false, not_true_eq_false, not_false_eq_true, implies_true, true_implies, false_implies, hN.1]
    rw [if_neg (fun y => z (dec_iff.1 y))]
    exact ⟨r32 (by omega) (by omega), r32 (by omega) (by omega), fun _ => rfl, fun _ => ⟨r32 (by decide) (by decide), rfl⟩⟩
  have no : ¬ enough ρ d k → ∀ c o l6, 0 ≤ c → c < nC ρ → -1 ≤ o → o ≤ c → Run C_RM_isEnough (fun r M' => r = some (vI (if dec (enough ρ d k) = true then 1 else 0)) ∧ M' = M) 21 [vR 141, vI k, vI d, vI 0, vI c, vI o, l6] [] M := by
    intro z c o l6 c0 c1 o0 o1
    rw [r_RM_isEnough_21]
    simp only [r_RM_isEnough_23, r_RM_isEnough_25, r_RM_isEnough_28, r_RM_isEnough_29, r_RM_isEnough_98, r_RM_isEnough_101, true_and, and_true, or_true, true_or, or_false, false_or, false_and, and_false, not_true_eq_false, not_false_eq_true, implies_true, true_implies, false_implies]
    exact ⟨r32 (by omega) (by omega), r32 (by omega) (by omega), fun _ => no5 z _ _ _ (by omega) (by omega), fun _ => ⟨r32 (by decide) (by decide), no5 z _ _ _ (by omega) (by omega)⟩⟩
  refine up_loop (lo := 0) (hi := nC ρ) (P := fun c => (∀ c' o', 0 ≤ c' → c' < c → -1 ≤ o' → o' < c' → nd (ap ρ c' o') d k) → ∀ l5 l6, Run C_RM_isEnough (fun r M' => r = some (vI (if dec (enough ρ d k) = true then 1 else 0)) ∧ M' = M) 5 [vR 141, vI k, vI d, vI 1, vI c, l5, l6] [] M) (fun c c0 c1 ih hE l5 l6 => ?_) hc.1 (fun c' o' a b => by omega) _ _
  rw [r_RM_isEnough_5]
  simp only [r_RM_isEnough_7, r_RM_isEnough_8, r_RM_isEnough_11, r_RM_isEnough_14, r_RM_isEnough_15, r_RM_isEnough_18, r_RM_isEnough_19, true_and, and_true, or_true, true_or, or_false, false_or, false_and, and_false, not_true_eq_false, not_false_eq_true, implies_true, true_implies, false_implies, hN.1]
  refine ⟨r32 (by omega) (by omega), r32 (by omega) (by omega), fun q => ?_, fun q => ⟨r32 (by decide) (by decide), fun y => absurd y (by decide), fun _ => ?_⟩⟩
  · simp only [r_RM_isEnough_104, r_RM_isEnough_105, true_and, and_true, or_true, true_or, or_false, false_or, false_and, and_false, not_true_eq_false, not_false_eq_true, implies_true, true_implies, false_implies]
    rw [if_pos (dec_t (show enough ρ d k from fun c' o' a b x y => hE c' o' a (by omega) x y))]
  · refine up_loop (lo := -1) (hi := c) (P := fun o => (∀ o', -1 ≤ o' → o' < o → nd (ap ρ c o') d k) → ∀ l6, Run C_RM_isEnough (fun r M' => r = some (vI (if dec (enough ρ d k) = true then 1 else 0)) ∧ M' = M) 21 [vR 141, vI k, vI d, vI 1, vI c, vI o, l6] [] M) (fun o o0 o1 ih2 hE2 l6 => ?_) (by omega) (fun o' a b => by omega) _
    rw [r_RM_isEnough_21]
    simp only [r_RM_isEnough_23, r_RM_isEnough_25, r_RM_isEnough_28, r_RM_isEnough_29, r_RM_isEnough_32, r_RM_isEnough_33, r_RM_isEnough_35, r_RM_isEnough_37, r_RM_isEnough_40, r_RM_isEnough_42, r_RM_isEnough_43, r_RM_isEnough_44, r_RM_isEnough_47, r_RM_isEnough_49, r_RM_isEnough_50, r_RM_isEnough_52, r_RM_isEnough_53, r_RM_isEnough_56, r_RM_isEnough_57, r_RM_isEnough_60, r_RM_isEnough_61, r_RM_isEnough_64, r_RM_isEnough_66, r_RM_isEnough_67, r_RM_isEnough_68, r_RM_isEnough_98, r_RM_isEnough_101, true_and, and_true, or_true, true_or, or_false, false_or, false_and, and_false, not_true_eq_false, not_false_eq_true, implies_true, true_implies, false_implies]
    refine ⟨r32 (by omega) (by omega), r32 (by omega) (by omega), fun q2 => ih (by omega) (fun c' o' a b x y => ?_) _ _, fun q2 => ⟨r32 (by decide) (by decide), fun y => absurd y (by decide), fun _ => ?_⟩⟩
    · by_cases z : c' = c
      · rw [z]; exact hE2 o' x (by omega)
      · exact hE c' o' a (by omega) x y
    have hb := ap_bd hV c o
    have hp := pcI_bd (ap ρ c o)
    have hpk := pcI_bd (iand (ap ρ c o) k)
    have bad : ¬ nd (ap ρ c o) d k → ¬ enough ρ d k := fun z y => z (y c o c0 (by omega) o0 (by omega))
    have good : nd (ap ρ c o) d k → ∀ l6, Run C_RM_isEnough (fun r M' => r = some (vI (if dec (enough ρ d k) = true then 1 else 0)) ∧ M' = M) 21 [vR 141, vI k, vI d, vI 1, vI c, vI (o + 1), l6] [] M := fun z => ih2 (by omega) (fun o' a b => by
      by_cases y : o' = o
      · rw [y]; exact z
      · exact hE2 o' a (by omega))
    have fin : Run C_RM_isEnough (fun r M' => r = some (vI (if dec (enough ρ d k) = true then 1 else 0)) ∧ M' = M) 71 [vR 141, vI k, vI d, vI 1, vI c, vI o, vI (pcI (ap ρ c o))] [vI (pcI (iand (ap ρ c o) k))] M := by
      simp only [r_RM_isEnough_71, r_RM_isEnough_73, r_RM_isEnough_74, r_RM_isEnough_77, r_RM_isEnough_79, r_RM_isEnough_82, r_RM_isEnough_83, r_RM_isEnough_86, r_RM_isEnough_87, r_RM_isEnough_90, r_RM_isEnough_91, r_RM_isEnough_92, r_RM_isEnough_95, true_and, and_true, or_true, true_or, or_false, false_or, false_and, and_false, not_true_eq_false, not_false_eq_true, implies_true, true_implies, false_implies]
      refine ⟨r32 (by omega) (by omega), r32 (by omega) (by omega), fun q3 => ⟨r32 (by omega) (by omega), r32 (by omega) (by omega), fun q4 => no (bad (fun y => ?_)) _ _ _ c0 (by omega) (by omega) (by omega), fun q4 => good ?_ _⟩, fun q3 => ⟨r32 (by omega) (by omega), r32 (by omega) (by omega), fun q4 => no (bad (fun y => ?_)) _ _ _ c0 (by omega) (by omega) (by omega), fun q4 => good ?_ _⟩⟩
      · unfold nd at y; split at y <;> omega
      · unfold nd; split <;> omega
      · unfold nd at y; split at y <;> omega
      · unfold nd; split <;> omega
    have hg := gC_bd hV c
    have hg2 := gC_bd hV o
    refine Cal.I (apart_s hV hL c0 (by omega) o0 (by omega)) ⟨c0, by omega, r32 (by omega) (by omega), r32 (by decide) (by decide), fun q3 => ⟨by omega, by omega, ?_⟩, fun q3 => ?_⟩
    · rw [hL c c0 (by omega), hL o (by omega) (by omega)]
      refine Cal.I (far_s M hg.1 hg.2.2 hg2.1 hg2.2.2 k0) ?_
      rw [show ixor (gC ρ c) (gC ρ o) = ap ρ c o by unfold ap; rw [if_neg q3]]
      exact fin
    · rw [hL c c0 (by omega)]
      refine Cal.I (far_s M hg.1 hg.2.2 (by decide) (by decide) k0) ?_
      rw [show ixor (gC ρ c) 0 = ap ρ c o by unfold ap; rw [if_pos (by omega)]]
      exact fin
theorem M_reducedTo {σ : St} {M : Mem} (h : MI σ M) (hV : VS σ) {d : Int} (d0 : 1 ≤ d) (d1 : d ≤ 6) : Cal Y_RM_reducedTo [vR 141, vI d] M (fun r M' => r = some (vI (red σ.1 d)) ∧ MI σ M' ∧ KR M M') := by
  have hs := nS_bd hV.1
  have hp := p2_12 hs.2
  have hp0 := p2_pos (nS σ.1)
  refine Cal.mk (y := Y_RM_reducedTo) (loc := [vR 141, vI d, vN, vN]) G_RM_reducedTo rfl (by decide) rfl rfl (Nat.le_of_ble_eq_true rfl) ?_
  simp only [r_RM_reducedTo_0, r_RM_reducedTo_1, true_and, and_true, or_true, true_or, or_false, false_or, false_and, and_false, not_true_eq_false, not_false_eq_true, implies_true, true_implies, false_implies]
  refine (M_layCodes hV h).mono ?_
  rintro _ M2 ⟨rfl, ⟨h2, n2, l2⟩, k2⟩
  simp only [r_RM_reducedTo_4, r_RM_reducedTo_5, r_RM_reducedTo_6, r_RM_reducedTo_9, r_RM_reducedTo_10, r_RM_reducedTo_11, r_RM_reducedTo_12, r_RM_reducedTo_13, r_RM_reducedTo_14, true_and, and_true, or_true, true_or, or_false, false_or, false_and, and_false, not_true_eq_false, not_false_eq_true, implies_true, true_implies, false_implies, n2.2.1, p2_def]
  refine ⟨⟨hs.1, by omega⟩, ?_⟩
  generalize hN : p2 (nS σ.1) = N at hp hp0
  have main : ∀ v, 0 ≤ v → v < N → enough σ.1 d v → (∀ j, N - 1 - 0 < j → j < N → enough σ.1 d j → pcI v ≤ pcI j) → (∀ j, N - 1 - 0 < j → j < v → enough σ.1 d j → pcI v < pcI j) → Run C_RM_reducedTo (fun r M' => r = some (vI (red σ.1 d)) ∧ MI σ M' ∧ KR M M') 15 [vR 141, vI d, vI v, vI (N - 1 - 0)] [] M2 := by
    refine up_loop (lo := 0) (hi := N) (P := fun i => ∀ v, 0 ≤ v → v < N → enough σ.1 d v → (∀ j, N - 1 - i < j → j < N → enough σ.1 d j → pcI v ≤ pcI j) → (∀ j, N - 1 - i < j → j < v → enough σ.1 d j → pcI v < pcI j) → Run C_RM_reducedTo (fun r M' => r = some (vI (red σ.1 d)) ∧ MI σ M' ∧ KR M M') 15 [vR 141, vI d, vI v, vI (N - 1 - i)] [] M2) (fun i i0 i1 ih v v0 v1 ve vm vl => ?_) (by omega)
    rw [r_RM_reducedTo_15]
    simp only [r_RM_reducedTo_16, r_RM_reducedTo_19, r_RM_reducedTo_20, r_RM_reducedTo_23, r_RM_reducedTo_24, r_RM_reducedTo_27, r_RM_reducedTo_30, r_RM_reducedTo_31, r_RM_reducedTo_32, r_RM_reducedTo_33, r_RM_reducedTo_36, r_RM_reducedTo_39, r_RM_reducedTo_40, r_RM_reducedTo_43, r_RM_reducedTo_44, r_RM_reducedTo_45, r_RM_reducedTo_48, true_and, and_true, or_true, true_or, or_false, false_or, false_and, and_false, not_true_eq_false, not_false_eq_true, implies_true, true_implies, false_implies]
    refine ⟨r32 (by omega) (by omega), fun q => ?_, fun q => ?_⟩
    · simp only [r_RM_reducedTo_51, r_RM_reducedTo_52, true_and, and_true, or_true, true_or, or_false, false_or, false_and, and_false, not_true_eq_false, not_false_eq_true, implies_true, true_implies, false_implies]
      have : red σ.1 d = v := isRed_u ⟨v0, by omega, ve, fun k a b e => vm k (by omega) (by omega) e, fun k a b e => vl k (by omega) b e⟩
      rw [this]
      exact ⟨rfl, h2, k2⟩
    · have hpk := pcI_bd (N - 1 - i)
      have hpv := pcI_bd v
      have ih' := ih (by omega)
      rw [show N - 1 - (i + 1) = N - 1 - i + -1 by omega] at ih'
      have skip : (enough σ.1 d (N - 1 - i) → pcI v < pcI (N - 1 - i)) → Run C_RM_reducedTo (fun r M' => r = some (vI (red σ.1 d)) ∧ MI σ M' ∧ KR M M') 15 [vR 141, vI d, vI v, vI (N - 1 - i + -1)] [] M2 := fun z => ih' v v0 v1 ve (fun j a b e => by
          by_cases y : j = N - 1 - i
          · rw [y] at e ⊢; have := z e; omega
          · exact vm j (by omega) b e) (fun j a b e => by
          by_cases y : j = N - 1 - i
          · rw [y] at e ⊢; exact z e
          · exact vl j (by omega) b e)
      refine Cal.I (bits_s M2 (v := N - 1 - i) (by omega) (by omega)) (Cal.I (bits_s M2 (v := v) v0 (by omega)) ⟨r32 (by omega) (by omega), r32 (by omega) (by omega), fun q2 => skip (fun _ => by omega), fun q2 => ?_⟩)
      refine (isEnough_s hV.1 n2 l2 (k := N - 1 - i) (by omega) (by omega) d0 d1).Be (fun q3 => ih' (N - 1 - i) (by omega) (by omega) (dec_iff.1 q3) (fun j a b e => ?_) (fun j a b e => by omega)) (fun q3 => skip (fun e => absurd (dec_t e) q3))
      by_cases y : j = N - 1 - i
      · rw [y]; exact Int.le_refl _
      · have := vm j (by omega) b e; omega
  have hm := main (N - 1) (by omega) (by omega) (by rw [← hN]; exact enough_all hV.1 d) (fun j a b => by omega) (fun j a b => by omega)
  rw [Int.sub_zero] at hm
  exact hm
theorem M_reduced {σ : St} {M : Mem} (h : MI σ M) (hV : VS σ) {d : Int} (hd : R32 d) : Cal Y_RM_reduced [vR 141, vI d] M (Qm (q_reduced σ.1 d, σ) M) := by
  have hb := red_bd hV.1 d
  have ⟨h0, k0⟩ := th0 h
  refine Cal.mk (y := Y_RM_reduced) (loc := [vR 141, vI d]) G_RM_reduced rfl (by decide) rfl rfl (Nat.le_of_ble_eq_true rfl) ?_
  simp only [r_RM_reduced_0, r_RM_reduced_1, r_RM_reduced_2, r_RM_reduced_5, r_RM_reduced_6, r_RM_reduced_7, r_RM_reduced_8, r_RM_reduced_11, r_RM_reduced_14, r_RM_reduced_17, r_RM_reduced_18, r_RM_reduced_19, r_RM_reduced_22, r_RM_reduced_25, r_RM_reduced_28, r_RM_reduced_29, true_and, and_true, or_true, true_or, or_false, false_or, false_and, and_false, not_true_eq_false, not_false_eq_true, implies_true, true_implies, false_implies]
  refine ⟨hd, in_e hd.l (l64 (by decide) (by decide)) (l64 (by decide) (by decide)) (fun q => ?_) (fun q => Qm.q h0 k0 (by unfold q_reduced; rw [if_pos (by omega)]))⟩
  refine (M_reducedTo h0 hV (by omega) (by omega)).mono ?_
  rintro _ M2 ⟨rfl, h2, k2⟩
  exact ⟨_, rfl, Cal.I (bits_s M2 hb.1 (by omega)) (Qm.q h2 (k0.trans k2.m) (by unfold q_reduced; rw [if_neg (by omega)]))⟩
theorem M_reduce {σ : St} {M : Mem} (h : MI σ M) (hV : VS σ) {d : Int} (hd : R32 d) : Cal Y_RM_reduce [vR 141, vI d] M (Qm (s_reduce σ d) M) := by
  have hb := red_bd hV.1 d
  have ⟨h0, k0⟩ := th0 h
  refine Cal.mk (y := Y_RM_reduce) (loc := [vR 141, vI d, vN]) G_RM_reduce rfl (by decide) rfl rfl (Nat.le_of_ble_eq_true rfl) ?_
  simp only [r_RM_reduce_0, r_RM_reduce_1, r_RM_reduce_2, r_RM_reduce_5, r_RM_reduce_6, r_RM_reduce_7, r_RM_reduce_8, r_RM_reduce_11, r_RM_reduce_14, r_RM_reduce_17, r_RM_reduce_18, r_RM_reduce_19, r_RM_reduce_22, r_RM_reduce_23, r_RM_reduce_24, r_RM_reduce_25, true_and, and_true, or_true, true_or, or_false, false_or, false_and, and_false, not_true_eq_false, not_false_eq_true, implies_true, true_implies, false_implies]
  refine ⟨hd, in_n hd.l (l64 (by decide) (by decide)) (l64 (by decide) (by decide)) (fun q => ?_) (fun q => Qm.ref h0 k0 (Or.inl rfl) (if_pos (by omega)))⟩
  have es : s_reduce σ d = (pcI (red σ.1 d), act σ 7 (rs σ.1 4 (red σ.1 d))) := if_neg (by omega)
  rw [es]
  refine (M_reducedTo h0 hV (by omega) (by omega)).mono ?_
  rintro _ M1 ⟨rfl, h1, k1⟩
  refine ⟨_, rfl, ?_⟩
  simp only [r_RM_reduce_28, r_RM_reduce_29, r_RM_reduce_30, r_RM_reduce_32, true_and, and_true, or_true, true_or, or_false, false_or, false_and, and_false, not_true_eq_false, not_false_eq_true, implies_true, true_implies, false_implies]
  refine (M_remember h1 7).mono ?_
  rintro _ M2 ⟨rfl, h2, k2, -⟩
  simp only [r_RM_reduce_35, r_RM_reduce_36, r_RM_reduce_39, r_RM_reduce_40, r_RM_reduce_41, r_RM_reduce_42, r_RM_reduce_43, r_RM_reduce_44, r_RM_reduce_47, r_RM_reduce_50, true_and, and_true, or_true, true_or, or_false, false_or, false_and, and_false, not_true_eq_false, not_false_eq_true, implies_true, true_implies, false_implies]
  exact ⟨by decide, by decide, Cal.I (bits_s _ (v := red σ.1 d) (by omega) (by omega)) (Qm.tell (h2.w 4 (red σ.1 d)) (((k0.trans k1.m).trans k2).w (by unfold KM; decide)) rfl)⟩
