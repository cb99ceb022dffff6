/-! rows, and how a Model holds one; refusals; what is kept to be undone -/
abbrev Rw : Type := Int → Int
/-- the Model at cell b holds the row r -/
def XR (M : Mem) (b : Nat) (r : Rw) : Prop := (∀ i, 0 ≤ i → i < 6 → M.1 b i = r i) ∧ (∀ i, 0 ≤ i → i < 10 → M.1 (b + 1) i = r (6 + i)) ∧ (∀ i, 0 ≤ i → i < 60 → M.1 (b + 2) i = r (16 + i)) ∧ (∀ i, 0 ≤ i → i < 60 → M.1 (b + 3) i = r (76 + i)) ∧ (∀ i, 0 ≤ i → i < 32 → M.1 (b + 4) i = r (136 + i)) ∧ (∀ i, 0 ≤ i → i < 32 → M.1 (b + 5) i = r (168 + i)) ∧ (∀ i, 0 ≤ i → i < 20 → M.1 (b + 6) i = r (200 + 2 * i)) ∧ (∀ i, 0 ≤ i → i < 20 → M.1 (b + 7) i = r (201 + 2 * i))
theorem XR.kp {P : Nat → Prop} {M M' : Mem} {b : Nat} {r : Rw} (h : XR M b r) (hk : Kp P M M') (hP : ∀ c, b ≤ c → c ≤ b + 7 → ¬ P c) : XR M' b r := by
  obtain ⟨h0, h1, h2, h3, h4, h5, h6, h7⟩ := h
  refine ⟨fun i a c => ?_, fun i a c => ?_, fun i a c => ?_, fun i a c => ?_, fun i a c => ?_, fun i a c => ?_, fun i a c => ?_, fun i a c => ?_⟩
  · rw [hk.at (hP b (by omega) (by omega))]; exact h0 i a c
  · rw [hk.at (hP (b + 1) (by omega) (by omega))]; exact h1 i a c
  · rw [hk.at (hP (b + 2) (by omega) (by omega))]; exact h2 i a c
  · rw [hk.at (hP (b + 3) (by omega) (by omega))]; exact h3 i a c
  · rw [hk.at (hP (b + 4) (by omega) (by omega))]; exact h4 i a c
  · rw [hk.at (hP (b + 5) (by omega) (by omega))]; exact h5 i a c
  · rw [hk.at (hP (b + 6) (by omega) (by omega))]; exact h6 i a c
  · rw [hk.at (hP (b + 7) (by omega) (by omega))]; exact h7 i a c
theorem XR.ext {M : Mem} {b : Nat} {r r' : Rw} (h : XR M b r) (he : ∀ i, 0 ≤ i → i < 240 → r i = r' i) : XR M b r' := by
  obtain ⟨h0, h1, h2, h3, h4, h5, h6, h7⟩ := h
  refine ⟨fun i a c => ?_, fun i a c => ?_, fun i a c => ?_, fun i a c => ?_, fun i a c => ?_, fun i a c => ?_, fun i a c => ?_, fun i a c => ?_⟩
  · rw [h0 i a c]; exact he _ (by omega) (by omega)
  · rw [h1 i a c]; exact he _ (by omega) (by omega)
  · rw [h2 i a c]; exact he _ (by omega) (by omega)
  · rw [h3 i a c]; exact he _ (by omega) (by omega)
  · rw [h4 i a c]; exact he _ (by omega) (by omega)
  · rw [h5 i a c]; exact he _ (by omega) (by omega)
  · rw [h6 i a c]; exact he _ (by omega) (by omega)
  · rw [h7 i a c]; exact he _ (by omega) (by omega)
/-- the cells of Models -/
def moL : List Nat := [1, 12, 20, 28, 36, 44, 52, 60, 68, 76, 84, 125, 133]
theorem moL_ok : ∀ b ∈ moL, cb_kd b = (4, 5) ∧ cb_rt b 6 = b + 1 ∧ cb_rt b 7 = b + 2 ∧ cb_rt b 8 = b + 3 ∧ cb_rt b 9 = b + 4 ∧ cb_rt b 10 = b + 5 ∧ cb_rt b 11 = b + 6 ∧ cb_rt b 12 = b + 7 ∧ cb_kd (b + 1) = (0, 10) ∧ cb_kd (b + 2) = (0, 60) ∧ cb_kd (b + 3) = (0, 60) ∧ cb_kd (b + 4) = (0, 32) ∧ cb_kd (b + 5) = (0, 32) ∧ cb_kd (b + 6) = (0, 20) ∧ cb_kd (b + 7) = (0, 20) := by decide +kernel
theorem moL_ap : ∀ b ∈ moL, ∀ c ∈ moL, b = c ∨ b + 8 ≤ c ∨ c + 8 ≤ b := by decide +kernel
theorem copyFrom_s (M : Mem) {b b2 : Nat} (hb : b ∈ moL) (hb2 : b2 ∈ moL) (hne : b ≠ b2) : Cal Y_Mo_copyFrom [vR b, vR b2] M (fun r M' => r = none ∧ Kp (fun c => b ≤ c ∧ c ≤ b + 7) M M' ∧ ∀ ρ, XR M b2 ρ → XR M' b ρ) := by
  have hap := moL_ap b hb b2 hb2
  obtain ⟨k4, t6, t7, t8, t9, t10, t11, t12, d1, d2, d3, d4, d5, d6, d7⟩ := moL_ok b hb
  obtain ⟨k4', t6', t7', t8', t9', t10', t11', t12', d1', d2', d3', d4', d5', d6', d7'⟩ := moL_ok b2 hb2
  refine Cal.mk (y := Y_Mo_copyFrom) (loc := [vR b, vR b2]) G_Mo_copyFrom rfl (by decide) rfl rfl (Nat.le_of_ble_eq_true rfl) ?_
  simp only [r_Mo_copyFrom_0 (b := b) (b2 := b2), r_Mo_copyFrom_1 (b := b) (b2 := b2), r_Mo_copyFrom_2 (b := b) (b2 := b2) k4', r_Mo_copyFrom_5 (b := b) (b2 := b2) k4, r_Mo_copyFrom_8 (b := b) (b2 := b2), r_Mo_copyFrom_9 (b := b) (b2 := b2), r_Mo_copyFrom_10 (b := b) (b2 := b2) k4', r_Mo_copyFrom_13 (b := b) (b2 := b2) k4, r_Mo_copyFrom_16 (b := b) (b2 := b2), r_Mo_copyFrom_17 (b := b) (b2 := b2), r_Mo_copyFrom_18 (b := b) (b2 := b2) k4', r_Mo_copyFrom_21 (b := b) (b2 := b2) k4, r_Mo_copyFrom_24 (b := b) (b2 := b2), r_Mo_copyFrom_25 (b := b) (b2 := b2), r_Mo_copyFrom_26 (b := b) (b2 := b2) k4', r_Mo_copyFrom_29 (b := b) (b2 := b2) k4, r_Mo_copyFrom_32 (b := b) (b2 := b2), r_Mo_copyFrom_33 (b := b) (b2 := b2), r_Mo_copyFrom_34 (b := b) (b2 := b2) k4', r_Mo_copyFrom_37 (b := b) (b2 := b2) k4, r_Mo_copyFrom_40 (b := b) (b2 := b2), r_Mo_copyFrom_41 (b := b) (b2 := b2), r_Mo_copyFrom_42 (b := b) (b2 := b2) k4', r_Mo_copyFrom_45 (b := b) (b2 := b2) k4, r_Mo_copyFrom_48 (b := b) (b2 := b2), r_Mo_copyFrom_49 (b := b) (b2 := b2) k4', r_Mo_copyFrom_52 (b := b) (b2 := b2), r_Mo_copyFrom_53 (b := b) (b2 := b2), r_Mo_copyFrom_54 (b := b) (b2 := b2) k4, r_Mo_copyFrom_57 (b := b) (b2 := b2), r_Mo_copyFrom_58 (b := b) (b2 := b2), r_Mo_copyFrom_60 (b := b) (b2 := b2) (by rw [t6']; exact d1') (by rw [t6]; exact d1), r_Mo_copyFrom_63 (b := b) (b2 := b2), r_Mo_copyFrom_64 (b := b) (b2 := b2) k4', r_Mo_copyFrom_67 (b := b) (b2 := b2), r_Mo_copyFrom_68 (b := b) (b2 := b2), r_Mo_copyFrom_69 (b := b) (b2 := b2) k4, r_Mo_copyFrom_72 (b := b) (b2 := b2), r_Mo_copyFrom_73 (b := b) (b2 := b2), r_Mo_copyFrom_75 (b := b) (b2 := b2) (by rw [t7']; exact d2') (by rw [t7]; exact d2), r_Mo_copyFrom_78 (b := b) (b2 := b2), r_Mo_copyFrom_79 (b := b) (b2 := b2) k4', r_Mo_copyFrom_82 (b := b) (b2 := b2), r_Mo_copyFrom_83 (b := b) (b2 := b2), r_Mo_copyFrom_84 (b := b) (b2 := b2) k4, r_Mo_copyFrom_87 (b := b) (b2 := b2), r_Mo_copyFrom_88 (b := b) (b2 := b2), r_Mo_copyFrom_90 (b := b) (b2 := b2) (by rw [t8']; exact d3') (by rw [t8]; exact d3), r_Mo_copyFrom_93 (b := b) (b2 := b2), r_Mo_copyFrom_94 (b := b) (b2 := b2) k4', r_Mo_copyFrom_97 (b := b) (b2 := b2), r_Mo_copyFrom_98 (b := b) (b2 := b2), r_Mo_copyFrom_99 (b := b) (b2 := b2) k4, r_Mo_copyFrom_102 (b := b) (b2 := b2), r_Mo_copyFrom_103 (b := b) (b2 := b2), r_Mo_copyFrom_105 (b := b) (b2 := b2) (by rw [t9']; exact d4') (by rw [t9]; exact d4), r_Mo_copyFrom_108 (b := b) (b2 := b2), r_Mo_copyFrom_109 (b := b) (b2 := b2) k4', r_Mo_copyFrom_112 (b := b) (b2 := b2), r_Mo_copyFrom_113 (b := b) (b2 := b2), r_Mo_copyFrom_114 (b := b) (b2 := b2) k4, r_Mo_copyFrom_117 (b := b) (b2 := b2), r_Mo_copyFrom_118 (b := b) (b2 := b2), r_Mo_copyFrom_120 (b := b) (b2 := b2) (by rw [t10']; exact d5') (by rw [t10]; exact d5), r_Mo_copyFrom_123 (b := b) (b2 := b2), r_Mo_copyFrom_124 (b := b) (b2 := b2) k4', r_Mo_copyFrom_127 (b := b) (b2 := b2), r_Mo_copyFrom_128 (b := b) (b2 := b2), r_Mo_copyFrom_129 (b := b) (b2 := b2) k4, r_Mo_copyFrom_132 (b := b) (b2 := b2), r_Mo_copyFrom_133 (b := b) (b2 := b2), r_Mo_copyFrom_135 (b := b) (b2 := b2) (by rw [t11']; exact d6') (by rw [t11]; exact d6), r_Mo_copyFrom_138 (b := b) (b2 := b2), r_Mo_copyFrom_139 (b := b) (b2 := b2) k4', r_Mo_copyFrom_142 (b := b) (b2 := b2), r_Mo_copyFrom_143 (b := b) (b2 := b2), r_Mo_copyFrom_144 (b := b) (b2 := b2) k4, r_Mo_copyFrom_147 (b := b) (b2 := b2), r_Mo_copyFrom_148 (b := b) (b2 := b2), r_Mo_copyFrom_150 (b := b) (b2 := b2) (by rw [t12']; exact d7') (by rw [t12]; exact d7), r_Mo_copyFrom_153 (b := b) (b2 := b2), true_and, and_true, or_true, true_or, or_false, false_or, false_and, and_false, not_true_eq_false, not_false_eq_true, implies_true, true_implies, false_implies]
  simp only [t6, t7, t8, t9, t10, t11, t12, t6', t7', t8', t9', t10', t11', t12', true_and, and_true, or_true, true_or, or_false, false_or, false_and, and_false, not_true_eq_false, not_false_eq_true, implies_true, true_implies, false_implies]
  refine ⟨by decide, by decide, by decide, by decide, by decide, by decide, by decide, by decide, by decide, by decide, by decide, by decide, by decide, by decide, by decide, by decide, by decide, by decide, by decide, by decide, by decide, by decide, by decide, by decide, by decide, by decide, by decide, by decide, by decide, by decide, by decide, by decide, by decide, by decide, by decide, ?_⟩
  have hne' : ¬ b2 = b := fun q => hne q.symm
  refine ⟨?_, fun ρ h => ?_⟩
  · refine Kp.cp (Kp.cp (Kp.cp (Kp.cp (Kp.cp (Kp.cp (Kp.cp (Kp.w (Kp.w (Kp.w (Kp.w (Kp.w (Kp.w Kp.rf ?_) ?_) ?_) ?_) ?_) ?_) ?_) ?_) ?_) ?_) ?_) ?_) ?_ <;> omega
  · obtain ⟨h0, h1, h2, h3, h4, h5, h6, h7⟩ := h
    refine ⟨fun i a c => ?_, fun i a c => ?_, fun i a c => ?_, fun i a c => ?_, fun i a c => ?_, fun i a c => ?_, fun i a c => ?_, fun i a c => ?_⟩
    · simp (disch := omega) only [cpI_c]
      rcases (show i = 0 ∨ i = 1 ∨ i = 2 ∨ i = 3 ∨ i = 4 ∨ i = 5 by omega) with rfl | rfl | rfl | rfl | rfl | rfl <;> simp [wI_at, hne'] <;> exact h0 _ (by decide) (by decide)
    · simp (disch := omega) only [cpI_c, cpI_at, wI_c]
      rw [if_pos ⟨a, by omega⟩, show (0 : Int) + (i - 0) = i by omega]
      exact h1 i a c
    · simp (disch := omega) only [cpI_c, cpI_at, wI_c]
      rw [if_pos ⟨a, by omega⟩, show (0 : Int) + (i - 0) = i by omega]
      exact h2 i a c
    · simp (disch := omega) only [cpI_c, cpI_at, wI_c]
      rw [if_pos ⟨a, by omega⟩, show (0 : Int) + (i - 0) = i by omega]
      exact h3 i a c
    · simp (disch := omega) only [cpI_c, cpI_at, wI_c]
      rw [if_pos ⟨a, by omega⟩, show (0 : Int) + (i - 0) = i by omega]
      exact h4 i a c
    · simp (disch := omega) only [cpI_c, cpI_at, wI_c]
      rw [if_pos ⟨a, by omega⟩, show (0 : Int) + (i - 0) = i by omega]
      exact h5 i a c
    · simp (disch := omega) only [cpI_c, cpI_at, wI_c]
      rw [if_pos ⟨a, by omega⟩, show (0 : Int) + (i - 0) = i by omega]
      exact h6 i a c
    · simp (disch := omega) only [cpI_c, cpI_at, wI_c]
      rw [if_pos ⟨a, by omega⟩, show (0 : Int) + (i - 0) = i by omega]
      exact h7 i a c
def plc (w : Int) : Int := if w = -1 then 0 else if w = -2 then 1 else if w = -4 then 2 else 3
theorem place_s (M : Mem) {w : Int} (hw : w = -1 ∨ w = -2 ∨ w = -4 ∨ w = -5) : Cal Y_Rf_place [vI w] M (fun r M' => r = some (vI (plc w)) ∧ M' = M) := by
  refine Cal.mk (y := Y_Rf_place) (loc := [vI w]) G_Rf_place rfl (by decide) rfl rfl (Nat.le_of_ble_eq_true rfl) ?_
  simp only [r_Rf_place_0, r_Rf_place_1, r_Rf_place_32, r_Rf_place_33, r_Rf_place_34, r_Rf_place_35, r_Rf_place_36, r_Rf_place_37, r_Rf_place_38, r_Rf_place_39, true_and, and_true, or_true, true_or, or_false, false_or, false_and, and_false, not_true_eq_false, not_false_eq_true, implies_true, true_implies, false_implies]
  rcases hw with rfl | rfl | rfl | rfl
  · refine ⟨r32 (by decide) (by decide), ⟨fun h => absurd h (by decide), fun h => absurd h (by decide), fun h => absurd h (by decide), fun _ => rfl⟩, fun h => absurd rfl h.2.2.2⟩
  · refine ⟨r32 (by decide) (by decide), ⟨fun h => absurd h (by decide), fun h => absurd h (by decide), fun _ => rfl, fun h => absurd h (by decide)⟩, fun h => absurd rfl h.2.2.1⟩
  · refine ⟨r32 (by decide) (by decide), ⟨fun _ => rfl, fun h => absurd h (by decide), fun h => absurd h (by decide), fun h => absurd h (by decide)⟩, fun h => absurd rfl h.1⟩
  · refine ⟨r32 (by decide) (by decide), ⟨fun h => absurd h (by decide), fun h => absurd h (by decide), fun h => absurd h (by decide), fun h => absurd h (by decide)⟩, fun _ => rfl⟩
theorem plc_bd (w : Int) : 0 ≤ plc w ∧ plc w < 4 := by unfold plc; split <;> (try split) <;> (try split) <;> omega
theorem refuse_s (M : Mem) {w : Int} (hw : w = -1 ∨ w = -2 ∨ w = -4 ∨ w = -5) : Cal Y_Rf_refuse [vR 94, vI w] M (fun r M' => r = some (vI w) ∧ M' = wI (wI M 94 1 w) 95 (plc w) (M.1 95 (plc w) + 1)) := by
  refine Cal.mk (y := Y_Rf_refuse) (loc := [vR 94, vI w]) G_Rf_refuse rfl (by decide) rfl rfl (Nat.le_of_ble_eq_true rfl) ?_
  simp only [r_Rf_refuse_0, r_Rf_refuse_1, r_Rf_refuse_2, r_Rf_refuse_5, r_Rf_refuse_6, r_Rf_refuse_9, r_Rf_refuse_10, r_Rf_refuse_13, r_Rf_refuse_14, r_Rf_refuse_15, r_Rf_refuse_16, r_Rf_refuse_17, r_Rf_refuse_18, r_Rf_refuse_19, true_and, and_true, or_true, true_or, or_false, false_or, false_and, and_false, not_true_eq_false, not_false_eq_true, implies_true, true_implies, false_implies]
  refine (place_s _ hw).mono ?_
  rintro v M' ⟨rfl, rfl⟩
  have := plc_bd w
  exact ⟨plc w, rfl, this.1, this.2, this.1, this.2, by rw [wI_c (by decide)]⟩
theorem accept_s (M : Mem) : Cal Y_Rf_accept [vR 94] M (fun r M' => r = none ∧ M' = wI M 94 1 0) := by
  refine Cal.mk (y := Y_Rf_accept) (loc := [vR 94]) G_Rf_accept rfl (by decide) rfl rfl (Nat.le_of_ble_eq_true rfl) ?_
  simp only [r_Rf_accept_0, r_Rf_accept_1, r_Rf_accept_2, r_Rf_accept_5, true_and, and_true, or_true, true_or, or_false, false_or, false_and, and_false, not_true_eq_false, not_false_eq_true, implies_true, true_implies, false_implies]
