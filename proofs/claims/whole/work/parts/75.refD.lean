/-! the reference's acts: book, see, note, clear, window, terms, image, undo, back -/
theorem th0 {σ : St} {M : Mem} (h : MI σ M) : MI σ (wI M 141 0 0) ∧ Kp KM M (wI M 141 0 0) := ⟨h.kr (KR.w1 KR.rf (by decide) (by decide)), Kp.w Kp.rf (by unfold KM; decide)⟩
theorem M_number {σ : St} (hV : VS σ) {M : Mem} (h : MI σ M) : Cal Y_RM_number [vR 141] M (fun r M' => r = none ∧ NU σ.1 M' ∧ MI σ M' ∧ KR M M') := by
  refine (number_s hV.1 h.1.q).mono ?_
  rintro _ M' ⟨rfl, a, b, -, -⟩
  exact ⟨rfl, a, h.kr b, b⟩
theorem M_areSigns {σ : St} (hV : VS σ) {M : Mem} (h : MI σ M) {v : Int} (hv : R32 v) : Cal Y_RM_areSigns [vR 141, vI v] M (fun r M' => r = some (vI (if 0 ≤ v ∧ v ≤ p2 (nS σ.1) - 1 then 1 else 0)) ∧ NU σ.1 M' ∧ MI σ M' ∧ KR M M') := by
  have hs := nS_bd hV.1
  have hp := p2_12 hs.2
  have hq := p2_pos (nS σ.1)
  refine Cal.mk (y := Y_RM_areSigns) (loc := [vR 141, vI v]) G_RM_areSigns rfl (by decide) rfl rfl (Nat.le_of_ble_eq_true rfl) ?_
  simp only [r_RM_areSigns_0, r_RM_areSigns_1, true_and, and_true, or_true, true_or, or_false, false_or, false_and, and_false, not_true_eq_false, not_false_eq_true, implies_true, true_implies, false_implies]
  refine (M_number hV h).mono ?_
  rintro _ M1 ⟨rfl, n1, h1, k1⟩
  simp only [r_RM_areSigns_4, r_RM_areSigns_5, r_RM_areSigns_6, r_RM_areSigns_7, r_RM_areSigns_8, r_RM_areSigns_9, r_RM_areSigns_12, r_RM_areSigns_13, r_RM_areSigns_14, r_RM_areSigns_15, r_RM_areSigns_18, true_and, and_true, or_true, true_or, or_false, false_or, false_and, and_false, not_true_eq_false, not_false_eq_true, implies_true, true_implies, false_implies, n1.2.1, p2_def]
  refine ⟨hv, ⟨hs.1, by omega⟩, (in_s M1 hv.l (l64 (by decide) (by decide)) (l64 (by omega) (by omega))).mono ?_⟩
  rintro _ M' ⟨rfl, rfl⟩
  exact ⟨_, rfl, ite01, rfl, n1, h1, k1⟩
theorem M_book {σ : St} {M : Mem} (h : MI σ M) (hV : VS σ) {v : Int} (hv : R32 v) : Cal Y_RM_book [vR 141, vI v] M (Qm (s_book σ v) M) := by
  have hp := p2_12 (nS_bd hV.1).2
  have ⟨h0, k0⟩ := th0 h
  refine Cal.mk (y := Y_RM_book) (loc := [vR 141, vI v]) G_RM_book rfl (by decide) rfl rfl (Nat.le_of_ble_eq_true rfl) ?_
  simp only [r_RM_book_0, r_RM_book_1, r_RM_book_2, r_RM_book_5, r_RM_book_6, r_RM_book_7, r_RM_book_10, r_RM_book_13, r_RM_book_14, r_RM_book_15, r_RM_book_18, r_RM_book_19, r_RM_book_20, r_RM_book_22, true_and, and_true, or_true, true_or, or_false, false_or, false_and, and_false, not_true_eq_false, not_false_eq_true, implies_true, true_implies, false_implies]
  refine (M_areSigns hV h0 hv).Bn' (fun q M1 ⟨n1, h1, k1⟩ => ?_) (fun q M1 ⟨n1, h1, k1⟩ => Qm.ref h1 (k0.trans k1.m) (Or.inl rfl) (if_pos (by omega)))
  have es : s_book σ v = (pcI v, act σ 8 (rs σ.1 4 v)) := if_neg (by omega)
  rw [es]
  refine (M_remember h1 8).mono ?_
  rintro _ M2 ⟨rfl, h2, k2, -⟩
  simp only [r_RM_book_25, r_RM_book_26, r_RM_book_29, r_RM_book_30, r_RM_book_31, r_RM_book_32, r_RM_book_33, r_RM_book_34, r_RM_book_37, r_RM_book_40, true_and, and_true, or_true, true_or, or_false, false_or, false_and, and_false, not_true_eq_false, not_false_eq_true, implies_true, true_implies, false_implies]
  exact ⟨by decide, by decide, Cal.I (bits_s _ (v := v) (by omega) (by omega)) (Qm.tell (h2.w 4 v) (((k0.trans k1.m).trans k2).w (by unfold KM; decide)) rfl)⟩
theorem M_see {σ : St} {M : Mem} (h : MI σ M) (hV : VS σ) {v : Int} (hv : R32 v) : Cal Y_RM_see [vR 141, vI v] M (Qm (s_see σ v) M) := by
  have hp := p2_12 (nS_bd hV.1).2
  have hse := se_bd hV.1
  have ⟨h0, k0⟩ := th0 h
  refine Cal.mk (y := Y_RM_see) (loc := [vR 141, vI v, vN]) G_RM_see rfl (by decide) rfl rfl (Nat.le_of_ble_eq_true rfl) ?_
  simp only [r_RM_see_0, r_RM_see_1, r_RM_see_2, r_RM_see_5, r_RM_see_6, r_RM_see_7, r_RM_see_10, r_RM_see_13, r_RM_see_14, r_RM_see_15, r_RM_see_18, r_RM_see_19, r_RM_see_20, r_RM_see_22, true_and, and_true, or_true, true_or, or_false, false_or, false_and, and_false, not_true_eq_false, not_false_eq_true, implies_true, true_implies, false_implies]
  refine (M_areSigns hV h0 hv).Bn' (fun q M1 ⟨n1, h1, k1⟩ => ?_) (fun q M1 ⟨n1, h1, k1⟩ => Qm.ref h1 (k0.trans k1.m) (Or.inl rfl) (if_pos (by omega)))
  have es : s_see σ v = (pcI (ixor (σ.1 5) v), act σ 9 (rs σ.1 5 v)) := if_neg (by omega)
  rw [es]
  refine (M_remember h1 9).mono ?_
  rintro _ M2 ⟨rfl, h2, k2, -⟩
  have hx := x12 hse.1 hse.2 (show 0 ≤ v by omega) (by omega)
  simp only [r_RM_see_25, r_RM_see_26, r_RM_see_29, r_RM_see_30, r_RM_see_31, r_RM_see_32, r_RM_see_33, r_RM_see_36, r_RM_see_37, r_RM_see_38, r_RM_see_41, r_RM_see_42, r_RM_see_43, r_RM_see_44, r_RM_see_45, r_RM_see_46, r_RM_see_49, true_and, and_true, or_true, true_or, or_false, false_or, false_and, and_false, not_true_eq_false, not_false_eq_true, implies_true, true_implies, false_implies, show M2.1 144 5 = σ.1 5 from h2.1 5 (by decide) (by decide)]
  exact ⟨by decide, by decide, Cal.I (bits_s M2 hx.1 (by omega)) ⟨by decide, by decide, Qm.tell (h2.w 5 v) (((k0.trans k1.m).trans k2).w (by unfold KM; decide)) rfl⟩⟩
theorem M_note {σ : St} {M : Mem} (h : MI σ M) (hV : VS σ) {s t : Int} (hs : R32 s) (ht : R32 t) : Cal Y_RM_note [vR 141, vI s, vI t] M (Qm (s_note σ s t) M) := by
  have hn := nS_bd hV.1
  have h3 := hV.1.2.2.2.1
  have ⟨h0, k0⟩ := th0 h
  refine Cal.mk (y := Y_RM_note) (loc := [vR 141, vI s, vI t, vN]) G_RM_note rfl (by decide) rfl rfl (Nat.le_of_ble_eq_true rfl) ?_
  simp only [r_RM_note_0, r_RM_note_1, r_RM_note_2, r_RM_note_5, r_RM_note_6, r_RM_note_7, r_RM_note_8, r_RM_note_11, r_RM_note_14, r_RM_note_17, r_RM_note_18, r_RM_note_19, r_RM_note_22, r_RM_note_23, r_RM_note_24, true_and, and_true, or_true, true_or, or_false, false_or, false_and, and_false, not_true_eq_false, not_false_eq_true, implies_true, true_implies, false_implies]
  refine ⟨ht, in_n ht.l (l64 (by decide) (by decide)) (l64 (by decide) (by decide)) (fun q => ?_) (fun q => Qm.ref h0 k0 (Or.inl rfl) (if_pos (by omega)))⟩
  have es1 : s_note σ s t = if s < 0 ∨ nS σ.1 ≤ s then (-2, rfs σ (-2)) else if 20 ≤ σ.1 3 then (-5, rfs σ (-5)) else (σ.1 3 + 1, act σ 10 (addE σ.1 s t)) := if_neg (by omega)
  refine (M_number hV h0).mono ?_
  rintro _ M1 ⟨rfl, n1, h1, k1⟩
  simp only [r_RM_note_27, r_RM_note_28, r_RM_note_29, r_RM_note_30, r_RM_note_31, r_RM_note_34, r_RM_note_35, r_RM_note_36, r_RM_note_37, r_RM_note_40, r_RM_note_43, r_RM_note_44, r_RM_note_46, r_RM_note_49, r_RM_note_50, r_RM_note_51, r_RM_note_54, r_RM_note_55, r_RM_note_56, r_RM_note_57, r_RM_note_58, r_RM_note_60, r_RM_note_63, r_RM_note_64, r_RM_note_66, r_RM_note_69, r_RM_note_70, r_RM_note_71, r_RM_note_73, true_and, and_true, or_true, true_or, or_false, false_or, false_and, and_false, not_true_eq_false, not_false_eq_true, implies_true, true_implies, false_implies, n1.2.1, show M1.1 144 3 = σ.1 3 from h1.1 3 (by decide) (by decide)]
  refine ⟨hs, r32 (by omega) (by omega), in_n hs.l (l64 (by decide) (by decide)) (l64 (by omega) (by omega)) (fun q2 => ?_) (fun q2 => Qm.ref h1 (k0.trans k1.m) (Or.inr (Or.inl rfl)) (es1.trans (if_pos (by omega))))⟩
  rw [show M1.1 144 3 = σ.1 3 from h1.1 3 (by decide) (by decide)]
  refine ⟨by decide, by decide, r32 (by omega) (by omega), r32 (by decide) (by decide), fun q3 => ?_, fun q3 => Qm.ref h1 (k0.trans k1.m) (Or.inr (Or.inr (Or.inr rfl))) (es1.trans ((if_neg (by omega)).trans (if_pos (by omega))))⟩
  have es : s_note σ s t = (σ.1 3 + 1, act σ 10 (addE σ.1 s t)) := es1.trans ((if_neg (by omega)).trans (if_neg (by omega)))
  rw [es]
  refine (M_remember h1 10).mono ?_
  rintro _ M2 ⟨rfl, h2, k2, -⟩
  simp only [r_RM_note_76, r_RM_note_77, r_RM_note_80, r_RM_note_83, r_RM_note_84, r_RM_note_85, r_RM_note_86, r_RM_note_87, r_RM_note_88, r_RM_note_89, r_RM_note_90, r_RM_note_93, r_RM_note_96, r_RM_note_97, r_RM_note_98, r_RM_note_99, r_RM_note_100, r_RM_note_101, r_RM_note_102, r_RM_note_103, r_RM_note_104, r_RM_note_105, r_RM_note_108, r_RM_note_109, r_RM_note_110, r_RM_note_111, r_RM_note_112, r_RM_note_113, r_RM_note_114, r_RM_note_115, r_RM_note_116, r_RM_note_117, r_RM_note_118, r_RM_note_121, true_and, and_true, or_true, true_or, or_false, false_or, false_and, and_false, not_true_eq_false, not_false_eq_true, implies_true, true_implies, false_implies]
  refine ⟨by omega, by omega, by omega, by omega, by decide, by decide, by decide, by decide, ?_⟩
  have e3 : (wI (wI M2 144 (200 + 2 * σ.1 3) s) 144 (200 + 2 * σ.1 3 + 1) t).1 144 3 = σ.1 3 := by
    rw [wI_oth (by omega), wI_oth (by omega)]; exact h2.1 3 (by decide) (by decide)
  rw [e3]
  refine Qm.tell (((h2.w (200 + 2 * σ.1 3) s).w (200 + 2 * σ.1 3 + 1) t).w 3 (σ.1 3 + 1)) ((((((k0.trans k1.m).trans k2).w (by unfold KM; decide)).w (by unfold KM; decide)).w (by unfold KM; decide))) ?_
  unfold act addE
  rw [show 200 + 2 * σ.1 3 + 1 = 201 + 2 * σ.1 3 by omega]
theorem M_clear {σ : St} {M : Mem} (h : MI σ M) : Cal Y_RM_clear [vR 141] M (Qm (s_clear σ) M) := by
  have ⟨h0, k0⟩ := th0 h
  refine Cal.mk (y := Y_RM_clear) (loc := [vR 141, vN]) G_RM_clear rfl (by decide) rfl rfl (Nat.le_of_ble_eq_true rfl) ?_
  simp only [r_RM_clear_0, r_RM_clear_1, r_RM_clear_2, r_RM_clear_5, r_RM_clear_6, r_RM_clear_8, true_and, and_true, or_true, true_or, or_false, false_or, false_and, and_false, not_true_eq_false, not_false_eq_true, implies_true, true_implies, false_implies]
  refine (M_remember h0 11).mono ?_
  rintro _ M2 ⟨rfl, h2, k2, -⟩
  simp only [r_RM_clear_11, r_RM_clear_12, r_RM_clear_15, r_RM_clear_16, r_RM_clear_17, r_RM_clear_18, r_RM_clear_19, r_RM_clear_22, r_RM_clear_23, r_RM_clear_24, r_RM_clear_25, r_RM_clear_26, true_and, and_true, or_true, true_or, or_false, false_or, false_and, and_false, not_true_eq_false, not_false_eq_true, implies_true, true_implies, false_implies, show M2.1 144 3 = σ.1 3 from h2.1 3 (by decide) (by decide)]
  exact ⟨by decide, by decide, by decide, by decide, rfl, h2.w 3 0, (k0.trans k2).w (by unfold KM; decide)⟩
theorem signsIn_s {ρ : Rw} {M : Mem} (hV : VR ρ) (hR : RR ρ M) {a b : Int} (ha : R32 a) (hb : -1000000000 ≤ b ∧ b ≤ 1000000000) : Cal Y_RM_signsIn [vR 141, vI a, vL b] M (fun r M' => r = some (vI (win ρ a b)) ∧ M' = M) := by
  have h3 := hV.2.2.2.1
  have hs := nS_bd hV
  refine Cal.mk (y := Y_RM_signsIn) (loc := [vR 141, vI a, vL b, vN, vN, vN]) G_RM_signsIn rfl (by decide) rfl rfl (Nat.le_of_ble_eq_true rfl) ?_
  simp only [r_RM_signsIn_0, r_RM_signsIn_1, r_RM_signsIn_3, r_RM_signsIn_4, true_and, and_true, or_true, true_or, or_false, false_or, false_and, and_false, not_true_eq_false, not_false_eq_true, implies_true, true_implies, false_implies]
  refine up_loop (lo := 0) (hi := ρ 3) (P := fun k => Run C_RM_signsIn (fun r M' => r = some (vI (win ρ a b)) ∧ M' = M) 6 [vR 141, vI a, vL b, vN, vI (foI (winS ρ a b) 0 k), vI k] [] M) (fun k k0 k1 ih => ?_) h3.1
  have hw := win_bd hV a b k k0 k1
  have hp := p2_12 hs.2
  rw [r_RM_signsIn_6]
  simp only [r_RM_signsIn_8, r_RM_signsIn_9, r_RM_signsIn_12, r_RM_signsIn_13, r_RM_signsIn_14, r_RM_signsIn_17, r_RM_signsIn_19, r_RM_signsIn_20, r_RM_signsIn_23, r_RM_signsIn_26, r_RM_signsIn_27, r_RM_signsIn_29, r_RM_signsIn_30, r_RM_signsIn_31, r_RM_signsIn_32, r_RM_signsIn_33, r_RM_signsIn_34, r_RM_signsIn_35, r_RM_signsIn_36, r_RM_signsIn_37, r_RM_signsIn_38, r_RM_signsIn_39, r_RM_signsIn_40, r_RM_signsIn_43, r_RM_signsIn_46, r_RM_signsIn_47, r_RM_signsIn_48, r_RM_signsIn_51, r_RM_signsIn_54, r_RM_signsIn_55, r_RM_signsIn_57, r_RM_signsIn_58, r_RM_signsIn_59, r_RM_signsIn_60, r_RM_signsIn_61, r_RM_signsIn_64, r_RM_signsIn_65, r_RM_signsIn_66, r_RM_signsIn_68, r_RM_signsIn_71, r_RM_signsIn_74, r_RM_signsIn_76, true_and, and_true, or_true, true_or, or_false, false_or, false_and, and_false, not_true_eq_false, not_false_eq_true, implies_true, true_implies, false_implies, hR 3 (by decide) (by decide)]
  refine ⟨by decide, by decide, r32 (by omega) (by omega), r32 (by omega) (by omega), fun q => ?_, fun q => ⟨by omega, by omega, ?_⟩⟩
  · rw [show k = ρ 3 by omega]; rfl
  · have hv := hV.2.2.2.2.2.2.2.2.2.1 k k0 (by omega)
    rw [show (200 : Int) + 2 * k + 1 = 201 + 2 * k by omega, hR (201 + 2 * k) (by omega) (by omega)]
    have hih := ih (by omega)
    rw [foI_s _ _ k0] at hih
    refine ⟨r32 (by omega) (by omega), ha, in_e (l64 (by omega) (by omega)) ha.l (r64 (by omega) (by omega)) (fun q2 => ⟨by omega, by omega, ?_⟩) (fun q2 => ?_)⟩
    · rw [hR (200 + 2 * k) (by omega) (by omega), p2_def]
      refine ⟨⟨by omega, by omega⟩, ?_⟩
      rw [show winS ρ a b k (foI (winS ρ a b) 0 k) = ior (foI (winS ρ a b) 0 k) (p2 (ρ (200 + 2 * k))) from if_pos (by omega)] at hih
      exact hih
    · rw [show winS ρ a b k (foI (winS ρ a b) 0 k) = foI (winS ρ a b) 0 k from if_neg (by omega)] at hih
      rw [ior_0 hw.1 (by omega)]
      exact hih
theorem M_window {σ : St} {M : Mem} (h : MI σ M) (hV : VS σ) {t w : Int} (ht : R32 t) (hw : R32 w) : Cal Y_RM_window [vR 141, vI t, vI w] M (Qm (s_window σ t w) M) := by
  have ⟨h0, k0⟩ := th0 h
  refine Cal.mk (y := Y_RM_window) (loc := [vR 141, vI t, vI w]) G_RM_window rfl (by decide) rfl rfl (Nat.le_of_ble_eq_true rfl) ?_
  simp only [r_RM_window_0, r_RM_window_1, r_RM_window_2, r_RM_window_5, r_RM_window_6, r_RM_window_7, r_RM_window_8, r_RM_window_11, r_RM_window_14, r_RM_window_17, r_RM_window_18, r_RM_window_19, r_RM_window_20, r_RM_window_23, r_RM_window_26, r_RM_window_29, r_RM_window_30, r_RM_window_31, r_RM_window_34, r_RM_window_35, r_RM_window_36, r_RM_window_38, true_and, and_true, or_true, true_or, or_false, false_or, false_and, and_false, not_true_eq_false, not_false_eq_true, implies_true, true_implies, false_implies]
  refine ⟨ht, in_e ht.l (l64 (by decide) (by decide)) (l64 (by decide) (by decide)) (fun q => ⟨hw, in_n hw.l (l64 (by decide) (by decide)) (l64 (by decide) (by decide)) (fun q2 => ?_) (fun q2 => Qm.ref h0 k0 (Or.inl rfl) (if_pos (by omega)))⟩) (fun q => Qm.ref h0 k0 (Or.inl rfl) (if_pos (by omega)))⟩
  have es : s_window σ t w = (pcI (win σ.1 t (t + w)), act σ 12 (rs σ.1 5 (win σ.1 t (t + w)))) := if_neg (by omega)
  rw [es]
  refine (M_remember h0 12).mono ?_
  rintro _ M2 ⟨rfl, h2, k2, -⟩
  have hwb := win_b hV.1 t (t + w)
  simp only [r_RM_window_41, r_RM_window_42, r_RM_window_45, r_RM_window_46, r_RM_window_47, r_RM_window_48, r_RM_window_49, r_RM_window_50, r_RM_window_51, r_RM_window_52, r_RM_window_53, true_and, and_true, or_true, true_or, or_false, false_or, false_and, and_false, not_true_eq_false, not_false_eq_true, implies_true, true_implies, false_implies]
  refine ⟨ht, hw, Cal.I (signsIn_s hV.1 h2.1 ht (by omega)) ?_⟩
  simp only [r_RM_window_56, r_RM_window_57, r_RM_window_58, r_RM_window_59, r_RM_window_62, r_RM_window_63, r_RM_window_64, r_RM_window_67, r_RM_window_70, true_and, and_true, or_true, true_or, or_false, false_or, false_and, and_false, not_true_eq_false, not_false_eq_true, implies_true, true_implies, false_implies, wI_same]
  refine ⟨by decide, by decide, by decide, by decide, Cal.I (bits_s _ (v := win σ.1 t (t + w)) hwb.1 (by omega)) ?_⟩
  exact Qm.tell (h2.w 5 (win σ.1 t (t + w))) ((k0.trans k2).w (by unfold KM; decide)) rfl
theorem M_undo {σ : St} {M : Mem} (h : MI σ M) : Cal Y_RM_undo [vR 141] M (Qm (s_undo σ) M) := by
  have ⟨h0, k0⟩ := th0 h
  have hl := h0.2.1.2.1
  refine Cal.mk (y := Y_RM_undo) (loc := [vR 141]) G_RM_undo rfl (by decide) rfl rfl (Nat.le_of_ble_eq_true rfl) ?_
  simp only [r_RM_undo_0, r_RM_undo_1, r_RM_undo_2, r_RM_undo_5, r_RM_undo_6, r_RM_undo_9, r_RM_undo_12, r_RM_undo_13, r_RM_undo_15, r_RM_undo_18, r_RM_undo_19, r_RM_undo_20, r_RM_undo_21, r_RM_undo_24, r_RM_undo_25, r_RM_undo_26, true_and, and_true, or_true, true_or, or_false, false_or, false_and, and_false, not_true_eq_false, not_false_eq_true, implies_true, true_implies, false_implies, show (wI M 141 0 0).1 141 7 = (σ.2.1.length : Int) from h0.2.1.1]
  refine ⟨r32 (by omega) (by omega), fun q => ?_, fun q => ?_⟩
  · obtain ⟨ρ, us, im, tm, rf, st⟩ := σ
    cases us with
    | nil => exact absurd rfl q
    | cons u us =>
      show Run C_RM_undo (Qm (u.1, (u.2, us, im, tm, rf, 0)) M) 29 _ _ _
      have hlen : ((u :: us).length : Int) = (us.length : Int) + 1 := by rw [List.length_cons]; omega
      simp only [hlen, show (us.length : Int) + 1 - 1 = (us.length : Int) by omega]
      have hU := h0.2.1
      have hu0 := hU.2.2 0 u rfl
      rw [List.length_cons, show ((us.length + 1 : Nat) : Int) - 1 - ((0 : Nat) : Int) = (us.length : Int) by omega] at hu0
      rw [List.length_cons] at hl
      simp only [r_RM_undo_29, r_RM_undo_30, r_RM_undo_33, r_RM_undo_36, r_RM_undo_37, r_RM_undo_40, r_RM_undo_41, r_RM_undo_42, r_RM_undo_45, r_RM_undo_46, true_and, and_true, or_true, true_or, or_false, false_or, false_and, and_false, not_true_eq_false, not_false_eq_true, implies_true, true_implies, false_implies, wI_same]
      refine (copy_145_144 _ (x := 240 * (us.length : Int)) (y := 0) (by omega) (by omega) (by decide) (by decide)).mono ?_
      rintro _ M2 ⟨rfl, k2, h2⟩
      have e7 : M2.1 141 7 = (us.length : Int) := by rw [k2.at (by decide), wI_same]
      have kk : Kp (fun c => c = 141 ∨ c = 144) (wI M 141 0 0) M2 := (Kp.w Kp.rf (Or.inl rfl)).trans (k2.sub (fun c z => by omega))
      simp only [r_RM_undo_49, r_RM_undo_50, r_RM_undo_51, r_RM_undo_54, r_RM_undo_55, r_RM_undo_58, r_RM_undo_59, r_RM_undo_62, true_and, and_true, or_true, true_or, or_false, false_or, false_and, and_false, not_true_eq_false, not_false_eq_true, implies_true, true_implies, false_implies, e7]
      refine ⟨by omega, by omega, ?_⟩
      rw [kk.at (by decide), hu0.1]
      obtain ⟨g1, g2, g3, g4, g5, g6⟩ := h0
      have hm : MI (u.2, us, im, tm, rf, st) M2 := by
        refine ⟨fun i a b => ?_, ⟨e7, show us.length ≤ 10 by omega, fun j v hv => ?_⟩, ?_, ?_, ?_, ?_⟩
        · rw [h2, if_pos (by omega), wI_c (by decide), show 240 * (us.length : Int) + (i - 0) = 240 * (us.length : Int) + i by omega]
          exact hu0.2 i a b
        · have hj : j < us.length := by
            rcases Nat.lt_or_ge j us.length with z | z
            · exact z
            · rw [List.getElem?_eq_none z] at hv; cases hv
          have := hU.2.2 (j + 1) v (by rw [List.getElem?_cons_succ]; exact hv)
          rw [List.length_cons, show ((us.length + 1 : Nat) : Int) - 1 - ((j + 1 : Nat) : Int) = (us.length : Int) - 1 - (j : Int) by omega] at this
          rw [kk.c (c := 146) (by decide), kk.c (c := 145) (by decide)]
          exact this
        · unfold MG at g3 ⊢
          rw [kk.c (c := 147) (by decide), kk.c (c := 148) (by decide)]; exact g3
        · rw [kk.c (c := 143) (by decide)]; exact g4
        · rw [kk.c (c := 142) (by decide)]; exact g5
        · rw [k2.at (by decide), wI_oth (by decide)]; exact g6
      exact Qm.tell hm (k0.trans (kk.sub (fun c z => by unfold KM; omega))) rfl
  · obtain ⟨ρ, us, im, tm, rf, st⟩ := σ
    cases us with
    | nil => exact Qm.ref h0 k0 (Or.inr (Or.inr (Or.inl rfl))) rfl
    | cons u us =>
      exfalso
      apply q
      show ¬ ((u :: us).length : Int) = 0
      rw [List.length_cons]; omega
theorem M_image {σ : St} {M : Mem} (h : MI σ M) {k : Int} (hk : R32 k) : Cal Y_RM_image [vR 141, vI k] M (Qm (s_image σ k) M) := by
  have ⟨h0, k0⟩ := th0 h
  refine Cal.mk (y := Y_RM_image) (loc := [vR 141, vI k]) G_RM_image rfl (by decide) rfl rfl (Nat.le_of_ble_eq_true rfl) ?_
  simp only [r_RM_image_0, r_RM_image_1, r_RM_image_2, r_RM_image_5, r_RM_image_6, r_RM_image_7, r_RM_image_8, r_RM_image_9, r_RM_image_12, r_RM_image_15, r_RM_image_16, r_RM_image_17, r_RM_image_20, r_RM_image_21, r_RM_image_22, r_RM_image_25, r_RM_image_26, r_RM_image_27, r_RM_image_30, r_RM_image_33, r_RM_image_34, r_RM_image_35, true_and, and_true, or_true, true_or, or_false, false_or, false_and, and_false, not_true_eq_false, not_false_eq_true, implies_true, true_implies, false_implies]
  refine ⟨hk, in_n hk.l (l64 (by decide) (by decide)) (l64 (by decide) (by decide)) (fun q => ?_) (fun q => Qm.ref h0 k0 (Or.inl rfl) (if_pos (by omega)))⟩
  have es : s_image σ k = (σ.1 0, (σ.1, σ.2.1, ims σ.2.2.1 k σ.1, σ.2.2.2.1, σ.2.2.2.2.1, 0)) := if_neg (by omega)
  rw [es]
  refine (copy_144_147 _ (x := 0) (y := 240 * k) (by decide) (by decide) (by omega) (by omega)).mono ?_
  rintro _ M2 ⟨rfl, k2, h2⟩
  generalize hM3 : wI M2 148 k 1 = M3
  have k3 : Kp (fun c => c = 147 ∨ c = 148) (wI M 141 0 0) M3 := by rw [← hM3]; exact Kp.w (k2.sub (fun c z => Or.inl z)) (Or.inr rfl)
  simp only [r_RM_image_38, r_RM_image_39, r_RM_image_42, r_RM_image_43, r_RM_image_44, r_RM_image_45, r_RM_image_46, r_RM_image_47, r_RM_image_50, r_RM_image_51, r_RM_image_52, r_RM_image_55, true_and, and_true, or_true, true_or, or_false, false_or, false_and, and_false, not_true_eq_false, not_false_eq_true, implies_true, true_implies, false_implies, hM3]
  obtain ⟨g1, g2, g3, g4, g5, g6⟩ := h0
  have g1' : RR σ.1 M3 := fun i a b => by rw [k3.at (by decide)]; exact g1 i a b
  refine ⟨by omega, by omega, by decide, by decide, ?_⟩
  rw [g1' 0 (by decide) (by decide)]
  refine Qm.tell (σ := (σ.1, σ.2.1, ims σ.2.2.1 k σ.1, σ.2.2.2.1, σ.2.2.2.2.1, σ.2.2.2.2.2)) ⟨g1', ?_, fun j j0 j1 => ?_, ?_, ?_, ?_⟩ (k0.trans (k3.sub (fun c z => by unfold KM; omega))) rfl
  · unfold MU at g2 ⊢
    rw [k3.c (c := 141) (by decide), k3.c (c := 145) (by decide), k3.c (c := 146) (by decide)]; exact g2
  · have e8 : ∀ i, M3.1 148 i = if i = k then 1 else (wI M 141 0 0).1 148 i := fun i => by
      rw [← hM3, wI_at, k2.at (by decide)]
      by_cases y : i = k
      · rw [if_pos ⟨rfl, y⟩, if_pos y]
      · rw [if_neg (fun x => y x.2), if_neg y]
    have e7 : ∀ i, M3.1 147 i = if 240 * k ≤ i ∧ i < 240 * k + 240 then σ.1 (i - 240 * k) else (wI M 141 0 0).1 147 i := fun i => by
      rw [← hM3, wI_c (by decide), h2]
      by_cases y : 240 * k ≤ i ∧ i < 240 * k + 240
      · rw [if_pos y, if_pos y, Int.zero_add]; exact g1 _ (by omega) (by omega)
      · rw [if_neg y, if_neg y]
    show (_ ∧ ims σ.2.2.1 k σ.1 j = none) ∨ ∃ r, _ ∧ ims σ.2.2.1 k σ.1 j = some r ∧ _
    by_cases z : j = k
    · refine Or.inr ⟨σ.1, by rw [e8, if_pos z], by unfold ims; rw [if_pos z], fun i a b => ?_⟩
      rw [e7, if_pos (by omega), z, show 240 * k + i - 240 * k = i by omega]
    · have hi : ims σ.2.2.1 k σ.1 j = σ.2.2.1 j := by unfold ims; rw [if_neg z]
      rw [hi, e8, if_neg z]
      rcases g3 j j0 j1 with y | ⟨r, y1, y2, y3⟩
      · exact Or.inl y
      · exact Or.inr ⟨r, y1, y2, fun i a b => by rw [e7, if_neg (by omega)]; exact y3 i a b⟩
  · show ∀ i, 0 ≤ i → i < 4 → M3.1 143 i = σ.2.2.2.1 i
    rw [k3.c (c := 143) (by decide)]; exact g4
  · rw [k3.c (c := 142) (by decide)]; exact g5
  · rw [k3.at (by decide)]; exact g6
theorem M_back {σ : St} {M : Mem} (h : MI σ M) {k : Int} (hk : R32 k) : Cal Y_RM_back [vR 141, vI k] M (Qm (s_back σ k) M) := by
  have ⟨h0, k0⟩ := th0 h
  refine Cal.mk (y := Y_RM_back) (loc := [vR 141, vI k]) G_RM_back rfl (by decide) rfl rfl (Nat.le_of_ble_eq_true rfl) ?_
  simp only [r_RM_back_0, r_RM_back_1, r_RM_back_2, r_RM_back_5, r_RM_back_6, r_RM_back_7, r_RM_back_8, r_RM_back_9, r_RM_back_12, r_RM_back_15, r_RM_back_16, r_RM_back_17, r_RM_back_20, r_RM_back_21, r_RM_back_22, r_RM_back_25, r_RM_back_26, r_RM_back_27, r_RM_back_30, r_RM_back_31, r_RM_back_33, r_RM_back_36, r_RM_back_37, r_RM_back_38, r_RM_back_41, r_RM_back_44, r_RM_back_45, r_RM_back_46, r_RM_back_47, r_RM_back_50, r_RM_back_51, true_and, and_true, or_true, true_or, or_false, false_or, false_and, and_false, not_true_eq_false, not_false_eq_true, implies_true, true_implies, false_implies]
  refine ⟨hk, in_n hk.l (l64 (by decide) (by decide)) (l64 (by decide) (by decide)) (fun q => ⟨by omega, by omega, ?_⟩) (fun q => Qm.ref h0 k0 (Or.inl rfl) (if_pos (by omega)))⟩
  have es : s_back σ k = (match σ.2.2.1 k with | none => (-4, rfs σ (-4)) | some r => (r 0, (r, [], σ.2.2.1, σ.2.2.2.1, σ.2.2.2.2.1, 0))) := if_neg (by omega)
  rcases h0.2.2.1 k (by omega) (by omega) with ⟨y1, y2⟩ | ⟨r, y1, y2, y3⟩
  · rw [y1]
    rw [y2] at es
    exact ⟨r32 (by decide) (by decide), fun z => absurd rfl z, fun _ => Qm.ref h0 k0 (Or.inr (Or.inr (Or.inl rfl))) es⟩
  · rw [y1]
    rw [y2] at es
    refine ⟨r32 (by decide) (by decide), fun _ => ?_, fun z => absurd (by decide) z⟩
    rw [es]
    refine (copy_147_144 _ (x := 240 * k) (y := 0) (by omega) (by omega) (by decide) (by decide)).mono ?_
    rintro _ M2 ⟨rfl, k2, h2⟩
    generalize hM3 : wI M2 141 7 0 = M3
    have k3 : Kp (fun c => c = 141 ∨ c = 144) (wI M 141 0 0) M3 := by rw [← hM3]; exact Kp.w (k2.sub (fun c z => Or.inr z)) (Or.inl rfl)
    have g1' : RR r M3 := fun i a b => by
      rw [← hM3, wI_c (by decide), h2, if_pos (by omega), show 240 * k + (i - 0) = 240 * k + i by omega]; exact y3 i a b
    simp only [r_RM_back_54, r_RM_back_55, r_RM_back_56, r_RM_back_59, r_RM_back_60, r_RM_back_61, r_RM_back_64, r_RM_back_65, r_RM_back_66, r_RM_back_69, true_and, and_true, or_true, true_or, or_false, false_or, false_and, and_false, not_true_eq_false, not_false_eq_true, implies_true, true_implies, false_implies, hM3, g1' 0 (by decide) (by decide)]
    obtain ⟨g1, g2, g3, g4, g5, g6⟩ := h0
    refine ⟨by decide, by decide, Qm.tell (σ := (r, [], σ.2.2.1, σ.2.2.2.1, σ.2.2.2.2.1, σ.2.2.2.2.2)) ⟨g1', ⟨by rw [← hM3, wI_same]; rfl, Nat.zero_le _, fun j u hu => by cases hu⟩, ?_, ?_, ?_, ?_⟩ (k0.trans (k3.sub (fun c z => by unfold KM; omega))) rfl⟩
    · unfold MG at g3 ⊢
      rw [k3.c (c := 147) (by decide), k3.c (c := 148) (by decide)]; exact g3
    · show ∀ i, 0 ≤ i → i < 4 → M3.1 143 i = σ.2.2.2.1 i
      rw [k3.c (c := 143) (by decide)]; exact g4
    · rw [k3.c (c := 142) (by decide)]; exact g5
    · rw [← hM3, wI_oth (by decide), k2.at (by decide)]; exact g6
theorem M_terms {σ : St} {M : Mem} (h : MI σ M) {a b : Int} (ha : R32 a) (hb : R32 b) : Cal Y_RM_terms [vR 141, vI a, vI b] M (Qm (s_terms σ a b) M) := by
  have ⟨h0, k0⟩ := th0 h
  have ref : ((a < 0 ∨ 4 ≤ a) ∨ b < 0 ∨ cb_mt a.toNat < b) → Run C_RM_terms (Qm (s_terms σ a b) M) 51 [vR 141, vI a, vI b, vN] [] (wI M 141 0 0) := fun z => by
    simp only [r_RM_terms_51, r_RM_terms_52, r_RM_terms_53, r_RM_terms_56, true_and, and_true, or_true, true_or, or_false, false_or, false_and, and_false, not_true_eq_false, not_false_eq_true, implies_true, true_implies, false_implies]
    exact Qm.ref h0 k0 (Or.inl rfl) (if_pos z)
  have go : ¬ (a < 0 ∨ 4 ≤ a) → ∀ z, z = cb_mt a.toNat → 5 ≤ z → z ≤ 16 → Run C_RM_terms (Qm (s_terms σ a b) M) 45 [vR 141, vI a, vI b, vN] [vL z, vL 0, vL b] (wI M 141 0 0) := fun q z ez z1 z2 => by
    simp only [r_RM_terms_45, r_RM_terms_48, r_RM_terms_51, r_RM_terms_52, r_RM_terms_53, r_RM_terms_56, r_RM_terms_57, r_RM_terms_58, r_RM_terms_61, r_RM_terms_62, r_RM_terms_63, r_RM_terms_64, r_RM_terms_65, r_RM_terms_68, r_RM_terms_69, r_RM_terms_70, r_RM_terms_71, r_RM_terms_72, r_RM_terms_73, r_RM_terms_76, true_and, and_true, or_true, true_or, or_false, false_or, false_and, and_false, not_true_eq_false, not_false_eq_true, implies_true, true_implies, false_implies]
    refine in_n hb.l (l64 (by decide) (by decide)) (l64 (by omega) (by omega)) (fun q2 => ?_) (fun q2 => Qm.ref h0 k0 (Or.inl rfl) (if_pos (by omega)))
    have es : s_terms σ a b = (σ.2.2.2.1 a, (σ.1, σ.2.1, σ.2.2.1, rs σ.2.2.2.1 a b, σ.2.2.2.2.1, 0)) := if_neg (by omega)
    rw [es, h0.2.2.2.1 a (by omega) (by omega)]
    obtain ⟨g1, g2, g3, g4, g5, g6⟩ := h0
    have k3 : Kp (fun c => c = 143) (wI M 141 0 0) (wI (wI M 141 0 0) 143 a b) := Kp.w Kp.rf rfl
    refine ⟨by omega, by omega, by omega, by omega, Qm.tell (σ := (σ.1, σ.2.1, σ.2.2.1, rs σ.2.2.2.1 a b, σ.2.2.2.2.1, σ.2.2.2.2.2)) ⟨?_, ?_, ?_, fun i x y => ?_, ?_, ?_⟩ (k0.w (by unfold KM; decide)) rfl⟩
    · intro i x y; rw [k3.at (by decide)]; exact g1 i x y
    · unfold MU at g2 ⊢
      rw [k3.c (c := 141) (by decide), k3.c (c := 145) (by decide), k3.c (c := 146) (by decide)]; exact g2
    · unfold MG at g3 ⊢
      rw [k3.c (c := 147) (by decide), k3.c (c := 148) (by decide)]; exact g3
    · show _ = rs σ.2.2.2.1 a b i
      rw [wI_at]
      unfold rs
      by_cases w : i = a
      · rw [if_pos ⟨rfl, w⟩, if_pos w]
      · rw [if_neg (fun u => w u.2), if_neg w]; exact g4 i x y
    · rw [k3.c (c := 142) (by decide)]; exact g5
    · rw [k3.at (by decide)]; exact g6
  refine Cal.mk (y := Y_RM_terms) (loc := [vR 141, vI a, vI b, vN]) G_RM_terms rfl (by decide) rfl rfl (Nat.le_of_ble_eq_true rfl) ?_
  simp only [r_RM_terms_0, r_RM_terms_1, r_RM_terms_2, r_RM_terms_5, r_RM_terms_6, r_RM_terms_7, r_RM_terms_8, r_RM_terms_11, r_RM_terms_14, r_RM_terms_17, r_RM_terms_18, r_RM_terms_19, r_RM_terms_20, r_RM_terms_21, r_RM_terms_22, r_RM_terms_25, r_RM_terms_28, r_RM_terms_31, r_RM_terms_32, r_RM_terms_33, r_RM_terms_36, r_RM_terms_39, r_RM_terms_42, true_and, and_true, or_true, true_or, or_false, false_or, false_and, and_false, not_true_eq_false, not_false_eq_true, implies_true, true_implies, false_implies]
  refine ⟨ha, in_e ha.l (l64 (by decide) (by decide)) (l64 (by decide) (by decide)) (fun q => ⟨hb, ha, r32 (by decide) (by decide), fun q2 => ⟨ha, r32 (by decide) (by decide), fun q3 => ?_, fun q3 => ?_⟩, fun q2 => ?_⟩) (fun q => ref (Or.inl (by omega)))⟩
  · have e : a = 3 := by omega
    exact go (by omega) 5 (by rw [e]; rfl) (by decide) (by decide)
  · have e : a = 2 := by omega
    exact go (by omega) 9 (by rw [e]; rfl) (by decide) (by decide)
  · rcases (show a = 0 ∨ a = 1 by omega) with e | e
    · exact go (by omega) 16 (by rw [e]; rfl) (by decide) (by decide)
    · exact go (by omega) 16 (by rw [e]; rfl) (by decide) (by decide)
