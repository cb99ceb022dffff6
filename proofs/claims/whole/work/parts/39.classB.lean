/-! cut, rule, drop -/
def cutL (ρ : Rw) (l : Int) : Rw := fun i => if i = 1 then ρ 1 - 1 else if 16 + 3 * l ≤ i ∧ i < 16 + 3 * (ρ 1 - 1) then ρ (i + 3) else ρ i
def cutR (ρ : Rw) (l : Int) : Rw := fun i => if i = 2 then ρ 2 - 1 else if 76 + 5 * l ≤ i ∧ i < 76 + 5 * (ρ 2 - 1) then ρ (i + 5) else ρ i
theorem removeLink_s {M : Mem} {ρ : Rw} (hX : XR M 1 ρ) (h1 : ρ 1 ≤ 20) {l : Int} (l0 : 0 ≤ l) (l1 : l < ρ 1) : Cal Y_Mo_removeLink [vR 1, vI l] M (fun v M' => v = none ∧ XR M' 1 (cutL ρ l) ∧ Kp (fun c => c = 1 ∨ c = 3) M M') := by
  have e1 := hX.n.2.1
  refine Cal.mk (y := Y_Mo_removeLink) (loc := [vR 1, vI l]) G_Mo_removeLink rfl (by decide) rfl rfl (Nat.le_of_ble_eq_true rfl) ?_
  simp only [r_Mo_removeLink_0, r_Mo_removeLink_1, r_Mo_removeLink_2, r_Mo_removeLink_5, r_Mo_removeLink_6, r_Mo_removeLink_7, r_Mo_removeLink_10, r_Mo_removeLink_11, r_Mo_removeLink_14, r_Mo_removeLink_15, r_Mo_removeLink_16, r_Mo_removeLink_17, r_Mo_removeLink_18, r_Mo_removeLink_19, r_Mo_removeLink_20, r_Mo_removeLink_23, r_Mo_removeLink_24, r_Mo_removeLink_25, r_Mo_removeLink_26, r_Mo_removeLink_27, r_Mo_removeLink_30, r_Mo_removeLink_31, r_Mo_removeLink_32, r_Mo_removeLink_33, r_Mo_removeLink_34, r_Mo_removeLink_37, true_and, and_true, or_true, true_or, or_false, false_or, false_and, and_false, not_true_eq_false, not_false_eq_true, implies_true, true_implies, false_implies, e1, wI_same]
  refine ⟨by omega, by omega, by omega, by omega, by omega, ?_, Kp.cp (Kp.w Kp.rf (Or.inl rfl)) (Or.inr rfl)⟩
  obtain ⟨g0, g1, g2, g3, g4, g5, g6, g7⟩ := hX
  refine ⟨fun j a c => ?_, fun j a c => ?_, fun j a c => ?_, fun j a c => ?_, fun j a c => ?_, fun j a c => ?_, fun j a c => ?_, fun j a c => ?_⟩
  · rw [cpI_c (by decide), wI_at]; unfold cutL
    by_cases q : j = 1
    · rw [if_pos ⟨rfl, q⟩, if_pos q]
    · rw [if_neg (fun z => q z.2), if_neg q, if_neg (by omega)]; exact g0 j a c
  · rw [cpI_c (by decide), wI_c (by decide)]; unfold cutL; rw [if_neg (by omega), if_neg (by omega)]; exact g1 j a c
  · show (cpI (wI M 1 1 (ρ 1 - 1)) 3 ((l + 1) * 3) 3 (l * 3) ((ρ 1 - 1 - l) * 3)).1 3 j = _
    rw [cpI_at, wI_c (by decide)]; unfold cutL
    rw [if_neg (show ¬ 16 + j = 1 by omega)]
    by_cases q : l * 3 ≤ j ∧ j < l * 3 + (ρ 1 - 1 - l) * 3
    · rw [if_pos q, if_pos (by omega), g2 _ (by omega) (by omega)]; congr 1; omega
    · rw [if_neg q, if_neg (by omega)]; exact g2 j a c
  · rw [cpI_c (by decide), wI_c (by decide)]; unfold cutL; rw [if_neg (by omega), if_neg (by omega)]; exact g3 j a c
  · rw [cpI_c (by decide), wI_c (by decide)]; unfold cutL; rw [if_neg (by omega), if_neg (by omega)]; exact g4 j a c
  · rw [cpI_c (by decide), wI_c (by decide)]; unfold cutL; rw [if_neg (by omega), if_neg (by omega)]; exact g5 j a c
  · rw [cpI_c (by decide), wI_c (by decide)]; unfold cutL; rw [if_neg (by omega), if_neg (by omega)]; exact g6 j a c
  · rw [cpI_c (by decide), wI_c (by decide)]; unfold cutL; rw [if_neg (by omega), if_neg (by omega)]; exact g7 j a c
theorem removeRule_s {M : Mem} {ρ : Rw} (hX : XR M 1 ρ) (h1 : ρ 2 ≤ 12) {l : Int} (l0 : 0 ≤ l) (l1 : l < ρ 2) : Cal Y_Mo_removeRule [vR 1, vI l] M (fun v M' => v = none ∧ XR M' 1 (cutR ρ l) ∧ Kp (fun c => c = 1 ∨ c = 4) M M') := by
  have e1 := hX.n.2.2.1
  refine Cal.mk (y := Y_Mo_removeRule) (loc := [vR 1, vI l]) G_Mo_removeRule rfl (by decide) rfl rfl (Nat.le_of_ble_eq_true rfl) ?_
  simp only [r_Mo_removeRule_0, r_Mo_removeRule_1, r_Mo_removeRule_2, r_Mo_removeRule_5, r_Mo_removeRule_6, r_Mo_removeRule_7, r_Mo_removeRule_10, r_Mo_removeRule_11, r_Mo_removeRule_14, r_Mo_removeRule_15, r_Mo_removeRule_16, r_Mo_removeRule_17, r_Mo_removeRule_18, r_Mo_removeRule_19, r_Mo_removeRule_20, r_Mo_removeRule_23, r_Mo_removeRule_24, r_Mo_removeRule_25, r_Mo_removeRule_26, r_Mo_removeRule_27, r_Mo_removeRule_30, r_Mo_removeRule_31, r_Mo_removeRule_32, r_Mo_removeRule_33, r_Mo_removeRule_34, r_Mo_removeRule_37, true_and, and_true, or_true, true_or, or_false, false_or, false_and, and_false, not_true_eq_false, not_false_eq_true, implies_true, true_implies, false_implies, e1, wI_same]
  refine ⟨by omega, by omega, by omega, by omega, by omega, ?_, Kp.cp (Kp.w Kp.rf (Or.inl rfl)) (Or.inr rfl)⟩
  obtain ⟨g0, g1, g2, g3, g4, g5, g6, g7⟩ := hX
  refine ⟨fun j a c => ?_, fun j a c => ?_, fun j a c => ?_, fun j a c => ?_, fun j a c => ?_, fun j a c => ?_, fun j a c => ?_, fun j a c => ?_⟩
  · rw [cpI_c (by decide), wI_at]; unfold cutR
    by_cases q : j = 2
    · rw [if_pos ⟨rfl, q⟩, if_pos q]
    · rw [if_neg (fun z => q z.2), if_neg q, if_neg (by omega)]; exact g0 j a c
  · rw [cpI_c (by decide), wI_c (by decide)]; unfold cutR; rw [if_neg (by omega), if_neg (by omega)]; exact g1 j a c
  · rw [cpI_c (by decide), wI_c (by decide)]; unfold cutR; rw [if_neg (by omega), if_neg (by omega)]; exact g2 j a c
  · show (cpI (wI M 1 2 (ρ 2 - 1)) 4 ((l + 1) * 5) 4 (l * 5) ((ρ 2 - 1 - l) * 5)).1 4 j = _
    rw [cpI_at, wI_c (by decide)]; unfold cutR
    rw [if_neg (show ¬ 76 + j = 2 by omega)]
    by_cases q : l * 5 ≤ j ∧ j < l * 5 + (ρ 2 - 1 - l) * 5
    · rw [if_pos q, if_pos (by omega), g3 _ (by omega) (by omega)]; congr 1; omega
    · rw [if_neg q, if_neg (by omega)]; exact g3 j a c
  · rw [cpI_c (by decide), wI_c (by decide)]; unfold cutR; rw [if_neg (by omega), if_neg (by omega)]; exact g4 j a c
  · rw [cpI_c (by decide), wI_c (by decide)]; unfold cutR; rw [if_neg (by omega), if_neg (by omega)]; exact g5 j a c
  · rw [cpI_c (by decide), wI_c (by decide)]; unfold cutR; rw [if_neg (by omega), if_neg (by omega)]; exact g6 j a c
  · rw [cpI_c (by decide), wI_c (by decide)]; unfold cutR; rw [if_neg (by omega), if_neg (by omega)]; exact g7 j a c
theorem VR_cutL {ρ : Rw} (hV : VR ρ) {l : Int} (l0 : 0 ≤ l) (l1 : l < ρ 1) : VR (cutL ρ l) := by
  have hs : ∀ i, ¬ (16 ≤ i ∧ i < 76) → ¬ i = 1 → cutL ρ l i = ρ i := fun i h1 h2 => by
    have := hV.2.1
    unfold cutL; rw [if_neg h2, if_neg (by omega)]
  have e1 : cutL ρ l 1 = ρ 1 - 1 := if_pos rfl
  have hm : ∀ m p, 0 ≤ m → m < ρ 1 - 1 → 0 ≤ p → p ≤ 2 → cutL ρ l (16 + p + 3 * m) = ρ (16 + p + 3 * (if l ≤ m then m + 1 else m)) := fun m p h1 h2 h3 h4 => by
    unfold cutL
    rw [if_neg (show ¬ 16 + p + 3 * m = 1 by omega)]
    by_cases q : l ≤ m
    · rw [if_pos (by omega), if_pos q]; congr 1; omega
    · rw [if_neg (by omega), if_neg q]
  obtain ⟨cC, cS⟩ := nCS_cong hV (ρ' := cutL ρ l) (fun i h => hs i (by omega) (by omega))
  have e0 := hs 0 (by decide) (by decide)
  obtain ⟨v0, v1, v2, v3, v4, v5, v6, v7, v8, v9, v10, v11, v12, v13⟩ := hV
  have hx : ∀ m, 0 ≤ m → m < ρ 1 - 1 → cutL ρ l (16 + 3 * m) = ρ (16 + 3 * (if l ≤ m then m + 1 else m)) ∧ cutL ρ l (17 + 3 * m) = ρ (17 + 3 * (if l ≤ m then m + 1 else m)) ∧ cutL ρ l (18 + 3 * m) = ρ (18 + 3 * (if l ≤ m then m + 1 else m)) := fun m h1 h2 => ⟨hm m 0 h1 h2 (by decide) (by decide), hm m 1 h1 h2 (by decide) (by decide), hm m 2 h1 h2 (by decide) (by decide)⟩
  refine ⟨by rw [e0]; exact v0, by rw [e1]; omega, by rw [hs 2 (by decide) (by decide)]; exact v2, by rw [hs 3 (by decide) (by decide)]; exact v3, fun o p q => ?_, fun m p q => ?_, fun m n p q t => ?_, fun k p q => ?_, fun k p q => ?_, fun k p q => ?_, by rw [cC]; exact v10, by rw [cS]; exact v11, by rw [cS, hs 4 (by decide) (by decide)]; exact v12, by rw [cS, hs 5 (by decide) (by decide)]; exact v13⟩
  · rw [e0] at q
    rw [hs _ (by omega) (by omega)]; exact v4 o p q
  · rw [e1] at q
    obtain ⟨k0, k1, k2⟩ := hx m p q
    rw [e0, k0, k1, k2]
    exact v5 _ (by split <;> omega) (by split <;> omega)
  · rw [e1] at t
    obtain ⟨k0, k1, k2⟩ := hx m p (by omega)
    obtain ⟨j0, j1, j2⟩ := hx n (by omega) t
    rw [k0, k1, k2, j0, j1, j2]
    exact v6 _ _ (by split <;> omega) (by split <;> split <;> omega) (by split <;> omega)
  · rw [hs 2 (by decide) (by decide)] at q
    rw [hs _ (by omega) (by omega), hs _ (by omega) (by omega), hs _ (by omega) (by omega), hs _ (by omega) (by omega), hs _ (by omega) (by omega)]; exact v7 k p q
  · rw [hs _ (by omega) (by omega), hs _ (by omega) (by omega)]; exact v8 k p q
  · rw [hs 3 (by decide) (by decide)] at q
    rw [hs _ (by omega) (by omega), hs _ (by omega) (by omega), cS]; exact v9 k p q
theorem VR_rules {ρ ρ' : Rw} (hV : VR ρ) (hs : ∀ i, ¬ (76 ≤ i ∧ i < 136) → ¬ i = 2 → ρ' i = ρ i) (h2 : 0 ≤ ρ' 2 ∧ ρ' 2 ≤ 12) (hr : ∀ r, 0 ≤ r → r < ρ' 2 → (0 ≤ ρ' (76 + 5 * r) ∧ ρ' (76 + 5 * r) ≤ 4) ∧ (0 ≤ ρ' (77 + 5 * r) ∧ ρ' (77 + 5 * r) ≤ 31) ∧ (0 ≤ ρ' (78 + 5 * r) ∧ ρ' (78 + 5 * r) ≤ 2) ∧ (0 ≤ ρ' (79 + 5 * r) ∧ ρ' (79 + 5 * r) ≤ 31) ∧ (0 ≤ ρ' (80 + 5 * r) ∧ ρ' (80 + 5 * r) ≤ 9)) : VR ρ' := by
  obtain ⟨cC, cS⟩ := nCS_cong hV (ρ' := ρ') (fun i h => hs i (by omega) (by omega))
  have e0 := hs 0 (by decide) (by decide)
  have e1 := hs 1 (by decide) (by decide)
  obtain ⟨v0, v1, v2, v3, v4, v5, v6, v7, v8, v9, v10, v11, v12, v13⟩ := hV
  refine ⟨by rw [e0]; exact v0, by rw [e1]; exact v1, h2, by rw [hs 3 (by decide) (by decide)]; exact v3, fun o p q => ?_, fun m p q => ?_, fun m n p q t => ?_, hr, fun k p q => ?_, fun k p q => ?_, by rw [cC]; exact v10, by rw [cS]; exact v11, by rw [cS, hs 4 (by decide) (by decide)]; exact v12, by rw [cS, hs 5 (by decide) (by decide)]; exact v13⟩
  · rw [e0] at q
    rw [hs _ (by omega) (by omega)]; exact v4 o p q
  · rw [e1] at q
    rw [e0, hs _ (by omega) (by omega), hs _ (by omega) (by omega), hs _ (by omega) (by omega)]; exact v5 m p q
  · rw [e1] at t
    rw [hs _ (by omega) (by omega), hs _ (by omega) (by omega), hs _ (by omega) (by omega), hs _ (by omega) (by omega), hs _ (by omega) (by omega), hs _ (by omega) (by omega)]; exact v6 m n p q t
  · rw [hs _ (by omega) (by omega), hs _ (by omega) (by omega)]; exact v8 k p q
  · rw [hs 3 (by decide) (by decide)] at q
    rw [hs _ (by omega) (by omega), hs _ (by omega) (by omega), cS]; exact v9 k p q
theorem VR_cutR {ρ : Rw} (hV : VR ρ) {l : Int} (l0 : 0 ≤ l) (l1 : l < ρ 2) : VR (cutR ρ l) := by
  have h2 := hV.2.2.1
  have e2 : cutR ρ l 2 = ρ 2 - 1 := if_pos rfl
  refine VR_rules hV (fun i a b => ?_) (by rw [e2]; omega) (fun r a b => ?_)
  · unfold cutR; rw [if_neg b, if_neg (by omega)]
  · rw [e2] at b
    have hm : ∀ p, 0 ≤ p → p ≤ 4 → cutR ρ l (76 + p + 5 * r) = ρ (76 + p + 5 * (if l ≤ r then r + 1 else r)) := fun p h3 h4 => by
      unfold cutR
      rw [if_neg (show ¬ 76 + p + 5 * r = 2 by omega)]
      by_cases q : l ≤ r
      · rw [if_pos (by omega), if_pos q]; congr 1; omega
      · rw [if_neg (by omega), if_neg q]
    have k0 : cutR ρ l (76 + 5 * r) = _ := hm 0 (by decide) (by decide)
    have k1 : cutR ρ l (77 + 5 * r) = _ := hm 1 (by decide) (by decide)
    have k2 : cutR ρ l (78 + 5 * r) = _ := hm 2 (by decide) (by decide)
    have k3 : cutR ρ l (79 + 5 * r) = _ := hm 3 (by decide) (by decide)
    have k4 : cutR ρ l (80 + 5 * r) = _ := hm 4 (by decide) (by decide)
    rw [k0, k1, k2, k3, k4]
    exact hV.2.2.2.2.2.2.2.1 _ (by split <;> omega) (by split <;> omega)
def s_cut (σ : St) (l : Int) : Int × St := if l < 0 ∨ σ.1 1 ≤ l then (-2, rfs σ (-2)) else (σ.1 1 - 1, act σ 2 (cutL σ.1 l))
theorem X_cut {σ : St} {M : Mem} (h : XI σ M) (hV : VS σ) {l : Int} (hl : R32 l) : Cal Y_CB_cut [vR 0, vI l] M (Qx (s_cut σ l) M) := by
  have hv := hV.1
  have h1 := hv.2.1
  have e1 := h.1.n.2.1
  refine Cal.mk (y := Y_CB_cut) (loc := [vR 0, vI l]) G_CB_cut rfl (by decide) rfl rfl (Nat.le_of_ble_eq_true rfl) ?_
  simp only [r_CB_cut_0, r_CB_cut_1, r_CB_cut_2, r_CB_cut_5, r_CB_cut_8, r_CB_cut_11, r_CB_cut_14, r_CB_cut_15, r_CB_cut_18, r_CB_cut_20, r_CB_cut_23, r_CB_cut_24, r_CB_cut_25, r_CB_cut_26, true_and, and_true, or_true, true_or, or_false, false_or, false_and, and_false, not_true_eq_false, not_false_eq_true, implies_true, true_implies, false_implies, e1]
  refine out_eq hl (r32 (by omega) (by omega)) (fun q => Qx.ref h (Or.inr (Or.inl rfl)) (if_pos q)) (fun q => ?_)
  have es : s_cut σ l = (σ.1 1 - 1, act σ 2 (cutL σ.1 l)) := if_neg q
  rw [es]
  refine (X_begin h 2).mono ?_
  rintro v M1 ⟨rfl, x1, k1⟩
  simp only [r_CB_cut_29, r_CB_cut_30, r_CB_cut_33, r_CB_cut_34, true_and, and_true, or_true, true_or, or_false, false_or, false_and, and_false, not_true_eq_false, not_false_eq_true, implies_true, true_implies, false_implies]
  refine (removeLink_s x1.1 (ρ := σ.1) (by omega) (by omega) (by omega)).mono ?_
  rintro v M2 ⟨rfl, x2, k2⟩
  simp only [r_CB_cut_37, r_CB_cut_38, r_CB_cut_41, r_CB_cut_44, r_CB_cut_45, r_CB_cut_48, r_CB_cut_51, true_and, and_true, or_true, true_or, or_false, false_or, false_and, and_false, not_true_eq_false, not_false_eq_true, implies_true, true_implies, false_implies]
  refine (forget_s M2).mono ?_
  rintro v M3 ⟨rfl, k3, hc⟩
  have x3 := x2.kp k3 (fun c p q => by omega)
  have e3 := x3.n.2.1
  refine ⟨rfl, ?_, ?_, ?_⟩
  · rw [e3]; rfl
  · exact x1.chg hv (VR_cutL hv (by omega) (by omega)) x3 ((k2.sub (fun c z => by omega)).trans (k3.sub (fun c z => by omega))) (hc _) (fun i z => by unfold cutL; rw [if_neg (by omega), if_neg (by omega)]; rfl)
  · exact ((k1.sub (fun c z => by unfold KX; omega)).trans (k2.sub (fun c z => by unfold KX; omega))).trans (k3.sub (fun c z => by unfold KX; omega))
def s_drop (σ : St) (l : Int) : Int × St := if l < 0 ∨ σ.1 2 ≤ l then (-2, rfs σ (-2)) else (σ.1 2 - 1, act σ 4 (cutR σ.1 l))
theorem X_drop {σ : St} {M : Mem} (h : XI σ M) (hV : VS σ) {l : Int} (hl : R32 l) : Cal Y_CB_drop [vR 0, vI l] M (Qx (s_drop σ l) M) := by
  have hv := hV.1
  have h1 := hv.2.2.1
  have e1 := h.1.n.2.2.1
  refine Cal.mk (y := Y_CB_drop) (loc := [vR 0, vI l]) G_CB_drop rfl (by decide) rfl rfl (Nat.le_of_ble_eq_true rfl) ?_
  simp only [r_CB_drop_0, r_CB_drop_1, r_CB_drop_2, r_CB_drop_5, r_CB_drop_8, r_CB_drop_11, r_CB_drop_14, r_CB_drop_15, r_CB_drop_18, r_CB_drop_20, r_CB_drop_23, r_CB_drop_24, r_CB_drop_25, r_CB_drop_26, true_and, and_true, or_true, true_or, or_false, false_or, false_and, and_false, not_true_eq_false, not_false_eq_true, implies_true, true_implies, false_implies, e1]
  refine out_eq hl (r32 (by omega) (by omega)) (fun q => Qx.ref h (Or.inr (Or.inl rfl)) (if_pos q)) (fun q => ?_)
  have es : s_drop σ l = (σ.1 2 - 1, act σ 4 (cutR σ.1 l)) := if_neg q
  rw [es]
  refine (X_begin h 4).mono ?_
  rintro v M1 ⟨rfl, x1, k1⟩
  simp only [r_CB_drop_29, r_CB_drop_30, r_CB_drop_33, r_CB_drop_34, true_and, and_true, or_true, true_or, or_false, false_or, false_and, and_false, not_true_eq_false, not_false_eq_true, implies_true, true_implies, false_implies]
  refine (removeRule_s x1.1 (ρ := σ.1) (by omega) (by omega) (by omega)).mono ?_
  rintro v M2 ⟨rfl, x2, k2⟩
  simp only [r_CB_drop_37, r_CB_drop_38, r_CB_drop_41, r_CB_drop_44, r_CB_drop_45, r_CB_drop_48, r_CB_drop_51, true_and, and_true, or_true, true_or, or_false, false_or, false_and, and_false, not_true_eq_false, not_false_eq_true, implies_true, true_implies, false_implies]
  refine (forget_s M2).mono ?_
  rintro v M3 ⟨rfl, k3, hc⟩
  have x3 := x2.kp k3 (fun c p q => by omega)
  have e3 := x3.n.2.2.1
  refine ⟨rfl, ?_, ?_, ?_⟩
  · rw [e3]; rfl
  · exact x1.chg hv (VR_cutR hv (by omega) (by omega)) x3 ((k2.sub (fun c z => by omega)).trans (k3.sub (fun c z => by omega))) (hc _) (fun i z => by unfold cutR; rw [if_neg (by omega), if_neg (by omega)]; rfl)
  · exact ((k1.sub (fun c z => by unfold KX; omega)).trans (k2.sub (fun c z => by unfold KX; omega))).trans (k3.sub (fun c z => by unfold KX; omega))
def addR (ρ : Rw) (s a r b d : Int) : Rw := rs (rs (rs (rs (rs (rs ρ (76 + 5 * ρ 2) s) (77 + 5 * ρ 2) a) (78 + 5 * ρ 2) r) (79 + 5 * ρ 2) b) (80 + 5 * ρ 2) d) 2 (ρ 2 + 1)
theorem addRule_s {M : Mem} {ρ : Rw} (hX : XR M 1 ρ) (h0 : 0 ≤ ρ 2) (h1 : ρ 2 < 12) {s a r b d : Int} : Cal Y_Mo_addRule [vR 1, vI s, vI a, vI r, vI b, vI d] M (fun v M' => v = none ∧ XR M' 1 (addR ρ s a r b d) ∧ Kp (fun c => c = 1 ∨ c = 4) M M') := by
  have e1 := hX.n.2.2.1
  refine Cal.mk (y := Y_Mo_addRule) (loc := [vR 1, vI s, vI a, vI r, vI b, vI d, vN]) G_Mo_addRule rfl (by decide) rfl rfl (Nat.le_of_ble_eq_true rfl) ?_
  simp only [r_Mo_addRule_0, r_Mo_addRule_1, r_Mo_addRule_4, r_Mo_addRule_5, r_Mo_addRule_6, r_Mo_addRule_8, r_Mo_addRule_9, r_Mo_addRule_12, r_Mo_addRule_14, r_Mo_addRule_15, r_Mo_addRule_16, r_Mo_addRule_17, r_Mo_addRule_18, r_Mo_addRule_19, r_Mo_addRule_22, r_Mo_addRule_24, r_Mo_addRule_25, r_Mo_addRule_26, r_Mo_addRule_27, r_Mo_addRule_28, r_Mo_addRule_29, r_Mo_addRule_32, r_Mo_addRule_34, r_Mo_addRule_35, r_Mo_addRule_36, r_Mo_addRule_37, r_Mo_addRule_38, r_Mo_addRule_39, r_Mo_addRule_42, r_Mo_addRule_44, r_Mo_addRule_45, r_Mo_addRule_46, r_Mo_addRule_48, r_Mo_addRule_49, r_Mo_addRule_50, r_Mo_addRule_53, r_Mo_addRule_55, r_Mo_addRule_56, r_Mo_addRule_57, r_Mo_addRule_59, r_Mo_addRule_60, r_Mo_addRule_61, r_Mo_addRule_62, r_Mo_addRule_65, r_Mo_addRule_66, r_Mo_addRule_67, r_Mo_addRule_70, true_and, and_true, or_true, true_or, or_false, false_or, false_and, and_false, not_true_eq_false, not_false_eq_true, implies_true, true_implies, false_implies, e1]
  refine ⟨by omega, by omega, by omega, by omega, by omega, by omega, by omega, by omega, by omega, by omega, ?_, ?_⟩
  · have x1 := hX.s3 (i := ρ 2 * 5 + 0) s (by omega) (by omega)
    have x2 := x1.s3 (i := ρ 2 * 5 + 1) a (by omega) (by omega)
    have x3 := x2.s3 (i := ρ 2 * 5 + 2) r (by omega) (by omega)
    have x4 := x3.s3 (i := ρ 2 * 5 + 3) b (by omega) (by omega)
    have x5 := x4.s3 (i := ρ 2 * 5 + 4) d (by omega) (by omega)
    have x6 := x5.s0 (i := 2) (ρ 2 + 1) (by decide) (by decide)
    simp (disch := decide) only [wI_c, e1]
    rw [show 76 + (ρ 2 * 5 + 0) = 76 + 5 * ρ 2 by omega, show 76 + (ρ 2 * 5 + 1) = 77 + 5 * ρ 2 by omega, show 76 + (ρ 2 * 5 + 2) = 78 + 5 * ρ 2 by omega, show 76 + (ρ 2 * 5 + 3) = 79 + 5 * ρ 2 by omega, show 76 + (ρ 2 * 5 + 4) = 80 + 5 * ρ 2 by omega] at x6
    exact x6
  · exact Kp.w (Kp.w (Kp.w (Kp.w (Kp.w (Kp.w Kp.rf (Or.inr rfl)) (Or.inr rfl)) (Or.inr rfl)) (Or.inr rfl)) (Or.inr rfl)) (Or.inl rfl)
theorem VR_addR {ρ : Rw} (hV : VR ρ) {s a r b d : Int} (hn : ρ 2 < 12) (hs : 0 ≤ s ∧ s ≤ 4) (ha : 0 ≤ a ∧ a ≤ 31) (hr : 0 ≤ r ∧ r ≤ 2) (hb : 0 ≤ b ∧ b ≤ 31) (hd : 0 ≤ d ∧ d ≤ 9) : VR (addR ρ s a r b d) := by
  have h2 := hV.2.2.1
  have e2 : addR ρ s a r b d 2 = ρ 2 + 1 := rs_same _ _ _
  refine VR_rules hV (fun i p q => ?_) (by rw [e2]; omega) (fun k p q => ?_)
  · unfold addR; rw [rs_oth q, rs_oth (by omega), rs_oth (by omega), rs_oth (by omega), rs_oth (by omega), rs_oth (by omega)]
  · rw [e2] at q
    by_cases hk : k = ρ 2
    · subst hk
      have l0 : addR ρ s a r b d (76 + 5 * ρ 2) = s := by unfold addR; rw [rs_oth (by omega), rs_oth (by omega), rs_oth (by omega), rs_oth (by omega), rs_oth (by omega), rs_same]
      have l1 : addR ρ s a r b d (77 + 5 * ρ 2) = a := by unfold addR; rw [rs_oth (by omega), rs_oth (by omega), rs_oth (by omega), rs_oth (by omega), rs_same]
      have l2 : addR ρ s a r b d (78 + 5 * ρ 2) = r := by unfold addR; rw [rs_oth (by omega), rs_oth (by omega), rs_oth (by omega), rs_same]
      have l3 : addR ρ s a r b d (79 + 5 * ρ 2) = b := by unfold addR; rw [rs_oth (by omega), rs_oth (by omega), rs_same]
      have l4 : addR ρ s a r b d (80 + 5 * ρ 2) = d := by unfold addR; rw [rs_oth (by omega), rs_same]
      rw [l0, l1, l2, l3, l4]
      exact ⟨hs, ha, hr, hb, hd⟩
    · have ho : ∀ j, 0 ≤ j → j ≤ 4 → addR ρ s a r b d (76 + j + 5 * k) = ρ (76 + j + 5 * k) := fun j h3 h4 => by unfold addR; rw [rs_oth (by omega), rs_oth (by omega), rs_oth (by omega), rs_oth (by omega), rs_oth (by omega), rs_oth (by omega)]
      have k0 : addR ρ s a r b d (76 + 5 * k) = ρ (76 + 5 * k) := ho 0 (by decide) (by decide)
      have k1 : addR ρ s a r b d (77 + 5 * k) = ρ (77 + 5 * k) := ho 1 (by decide) (by decide)
      have k2 : addR ρ s a r b d (78 + 5 * k) = ρ (78 + 5 * k) := ho 2 (by decide) (by decide)
      have k3 : addR ρ s a r b d (79 + 5 * k) = ρ (79 + 5 * k) := ho 3 (by decide) (by decide)
      have k4 : addR ρ s a r b d (80 + 5 * k) = ρ (80 + 5 * k) := ho 4 (by decide) (by decide)
      rw [k0, k1, k2, k3, k4]
      exact hV.2.2.2.2.2.2.2.1 k p (by omega)
def s_rule (σ : St) (s a r b d : Int) : Int × St := if (s < 0 ∨ 5 ≤ s) ∨ (a < 0 ∨ 32 ≤ a) ∨ (r < 0 ∨ 3 ≤ r) ∨ (b < 0 ∨ 32 ≤ b) ∨ d < 0 ∨ 9 < d then (-1, rfs σ (-1)) else if 12 ≤ σ.1 2 then (-5, rfs σ (-5)) else (σ.1 2, act σ 3 (addR σ.1 s a r b d))
theorem X_rule {σ : St} {M : Mem} (h : XI σ M) (hV : VS σ) {s a r b d : Int} (hs : R32 s) (ha : R32 a) (hr : R32 r) (hb : R32 b) (hd : R32 d) : Cal Y_CB_rule [vR 0, vI s, vI a, vI r, vI b, vI d] M (Qx (s_rule σ s a r b d) M) := by
  have hv := hV.1
  have h2 := hv.2.2.1
  have e2 := h.1.n.2.2.1
  refine Cal.mk (y := Y_CB_rule) (loc := [vR 0, vI s, vI a, vI r, vI b, vI d]) G_CB_rule rfl (by decide) rfl rfl (Nat.le_of_ble_eq_true rfl) ?_
  simp only [r_CB_rule_0, r_CB_rule_1, r_CB_rule_2, r_CB_rule_5, r_CB_rule_8, r_CB_rule_9, r_CB_rule_11, r_CB_rule_14, r_CB_rule_17, r_CB_rule_18, r_CB_rule_19, r_CB_rule_22, r_CB_rule_25, r_CB_rule_27, r_CB_rule_29, r_CB_rule_32, r_CB_rule_35, r_CB_rule_37, r_CB_rule_40, r_CB_rule_42, r_CB_rule_44, r_CB_rule_47, r_CB_rule_48, r_CB_rule_51, r_CB_rule_52, r_CB_rule_55, r_CB_rule_56, r_CB_rule_57, r_CB_rule_60, r_CB_rule_63, r_CB_rule_65, r_CB_rule_68, r_CB_rule_69, r_CB_rule_72, r_CB_rule_74, r_CB_rule_77, r_CB_rule_78, r_CB_rule_79, r_CB_rule_80, true_and, and_true, or_true, true_or, or_false, false_or, false_and, and_false, not_true_eq_false, not_false_eq_true, implies_true, true_implies, false_implies]
  refine out_ne hs R5 (fun q => Qx.ref h (Or.inl rfl) (if_pos (by omega))) (fun q => ?_)
  refine out_ne ha R32n (fun q => Qx.ref h (Or.inl rfl) (if_pos (by omega))) (fun q1 => ?_)
  refine out_ne hr R3 (fun q => Qx.ref h (Or.inl rfl) (if_pos (by omega))) (fun q2 => ?_)
  refine out_ne hb R32n (fun q => Qx.ref h (Or.inl rfl) (if_pos (by omega))) (fun q3 => ?_)
  refine ⟨hd, fun q4 => Qx.ref h (Or.inl rfl) (if_pos (by omega)), fun q4 => ⟨hd, r32 (by decide) (by decide), fun q5 => ?_, fun q5 => Qx.ref h (Or.inl rfl) (if_pos (by omega))⟩⟩
  rw [e2]
  refine ⟨r32 (by omega) (by omega), r32 (by decide) (by decide), fun q6 => ?_, fun q6 => Qx.ref h (Or.inr (Or.inr (Or.inr rfl))) ((if_neg (by omega)).trans (if_pos (by omega)))⟩
  have es : s_rule σ s a r b d = (σ.1 2, act σ 3 (addR σ.1 s a r b d)) := (if_neg (by omega)).trans (if_neg (by omega))
  rw [es]
  refine (X_begin h 3).mono ?_
  rintro v M1 ⟨rfl, x1, k1⟩
  simp only [r_CB_rule_83, r_CB_rule_84, r_CB_rule_87, r_CB_rule_88, r_CB_rule_89, r_CB_rule_90, r_CB_rule_92, r_CB_rule_94, true_and, and_true, or_true, true_or, or_false, false_or, false_and, and_false, not_true_eq_false, not_false_eq_true, implies_true, true_implies, false_implies]
  refine (addRule_s x1.1 (ρ := σ.1) (by omega) (by omega)).mono ?_
  rintro v M2 ⟨rfl, x2, k2⟩
  simp only [r_CB_rule_97, r_CB_rule_98, r_CB_rule_101, r_CB_rule_104, r_CB_rule_105, r_CB_rule_108, r_CB_rule_111, r_CB_rule_112, r_CB_rule_113, true_and, and_true, or_true, true_or, or_false, false_or, false_and, and_false, not_true_eq_false, not_false_eq_true, implies_true, true_implies, false_implies]
  refine (forget_s M2).mono ?_
  rintro v M3 ⟨rfl, k3, hc⟩
  have x3 := x2.kp k3 (fun c p q => by omega)
  have e3 := x3.n.2.2.1
  have e9 : addR σ.1 s a r b d 2 = σ.1 2 + 1 := rs_same _ _ _
  refine ⟨rfl, ?_, ?_, ?_⟩
  · rw [e3, e9]; congr 2; omega
  · exact x1.chg hv (VR_addR hv (by omega) (by omega) (by omega) (by omega) (by omega) (by omega)) x3 ((k2.sub (fun c z => by omega)).trans (k3.sub (fun c z => by omega))) (hc _) (fun i z => by unfold addR; rw [rs_oth (by omega), rs_oth (by omega), rs_oth (by omega), rs_oth (by omega), rs_oth (by omega), rs_oth (by omega)]; rfl)
  · exact ((k1.sub (fun c z => by unfold KX; omega)).trans (k2.sub (fun c z => by unfold KX; omega))).trans (k3.sub (fun c z => by unfold KX; omega))
