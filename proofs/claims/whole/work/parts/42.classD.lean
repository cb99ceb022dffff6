/-! window, undo, image, back, count, status, ofRule -/
theorem isWidth_s (M : Mem) {w : Int} (hw : R32 w) : Cal Y_CB_isWidth [vI w] M (fun r M' => r = some (vI (if 1 ≤ w ∧ w < 1000 then 1 else 0)) ∧ M' = M) := by
  refine Cal.mk (y := Y_CB_isWidth) (loc := [vI w]) G_CB_isWidth rfl (by decide) rfl rfl (Nat.le_of_ble_eq_true rfl) ?_
  simp only [r_CB_isWidth_0, r_CB_isWidth_1, r_CB_isWidth_2, r_CB_isWidth_5, r_CB_isWidth_6, r_CB_isWidth_9, r_CB_isWidth_12, r_CB_isWidth_13, r_CB_isWidth_16, r_CB_isWidth_17, true_and, and_true, or_true, true_or, or_false, false_or, false_and, and_false, not_true_eq_false, not_false_eq_true, implies_true, true_implies, false_implies]
  refine ⟨hw, r32 (by decide) (by decide), fun q => ?_, fun q => ⟨hw, r32 (by decide) (by decide), fun q2 => ?_, fun q2 => ?_⟩⟩
  · rw [if_neg (by omega)]
  · rw [if_neg (by omega)]
  · rw [if_pos (by omega)]
theorem wd_ne {M : Mem} {w : Int} (hw : R32 w) {A B : Mem → Prop} (h1 : 1 ≤ w ∧ w < 1000 → B M) (h2 : ¬ (1 ≤ w ∧ w < 1000) → A M) : Cal Y_CB_isWidth [vI w] M (fun r M' => ∃ z, r = some (vI z) ∧ R32 z ∧ (¬ z = 0 → B M') ∧ (¬ ¬ z = 0 → A M')) := by
  refine Cal.I (K := fun z M' => R32 z ∧ (¬ z = 0 → B M') ∧ (¬ ¬ z = 0 → A M')) (isWidth_s M hw) ?_
  by_cases q : 1 ≤ w ∧ w < 1000
  · rw [if_pos q]; exact ⟨r32 (by decide) (by decide), fun _ => h1 q, fun h => absurd (by decide) h⟩
  · rw [if_neg q]; exact ⟨r32 (by decide) (by decide), fun h => absurd rfl h, fun _ => h2 q⟩
theorem R1000 : R32 1000 := r32 (by decide) (by decide)
theorem R2 : R32 2 := r32 (by decide) (by decide)
def s_window (σ : St) (t w : Int) : Int × St := if (t < 0 ∨ 1000 ≤ t) ∨ ¬ (1 ≤ w ∧ w < 1000) then (-1, rfs σ (-1)) else (pcI (win σ.1 t (t + w)), act σ 12 (rs σ.1 5 (win σ.1 t (t + w))))
theorem X_window {σ : St} {M : Mem} (h : XI σ M) (hV : VS σ) {t w : Int} (ht : R32 t) (hw : R32 w) : Cal Y_CB_window [vR 0, vI t, vI w] M (Qx (s_window σ t w) M) := by
  have hr := hV.1
  have h12 := hr.2.2.2.2.2.2.2.2.2.2.2.1
  have hp := p2_12 h12
  refine Cal.mk (y := Y_CB_window) (loc := [vR 0, vI t, vI w]) G_CB_window rfl (by decide) rfl rfl (Nat.le_of_ble_eq_true rfl) ?_
  simp only [r_CB_window_0, r_CB_window_1, r_CB_window_4, r_CB_window_7, r_CB_window_10, r_CB_window_11, r_CB_window_14, r_CB_window_17, r_CB_window_18, r_CB_window_21, r_CB_window_22, r_CB_window_25, r_CB_window_26, r_CB_window_27, r_CB_window_29, true_and, and_true, or_true, true_or, or_false, false_or, false_and, and_false, not_true_eq_false, not_false_eq_true, implies_true, true_implies, false_implies]
  refine out_ne ht R1000 (fun q => Qx.ref h (Or.inl rfl) (if_pos (Or.inl q))) (fun q => ?_)
  refine wd_ne hw (fun q2 => ?_) (fun q2 => Qx.ref h (Or.inl rfl) (if_pos (Or.inr q2)))
  have es : s_window σ t w = (pcI (win σ.1 t (t + w)), act σ 12 (rs σ.1 5 (win σ.1 t (t + w)))) := if_neg (by omega)
  rw [es]
  refine (X_begin h 12).mono ?_
  rintro z M1 ⟨rfl, x1, k1⟩
  simp only [r_CB_window_32, r_CB_window_33, r_CB_window_36, r_CB_window_37, r_CB_window_40, r_CB_window_41, r_CB_window_42, true_and, and_true, or_true, true_or, or_false, false_or, false_and, and_false, not_true_eq_false, not_false_eq_true, implies_true, true_implies, false_implies]
  refine Cal.I (signsWithin_s (ρ := σ.1) hr x1.1 ht (r32 (by omega) (by omega))) ?_
  simp only [r_CB_window_45, r_CB_window_48, r_CB_window_49, r_CB_window_52, r_CB_window_55, r_CB_window_58, true_and, and_true, or_true, true_or, or_false, false_or, false_and, and_false, not_true_eq_false, not_false_eq_true, implies_true, true_implies, false_implies, wI_same]
  have hb := win_bd hr t (t + w) (n := σ.1 3) hr.2.2.2.1.1 (Int.le_refl _)
  refine Cal.I (bitCount_s _ hb.1 (Int.lt_of_lt_of_le hb.2 (by omega))) ⟨rfl, ?_, ?_⟩
  · exact x1.row (x1.1.s0 (i := 5) _ (by decide) (by decide)) (Kp.w Kp.rf (by decide)) (tau_cong (fun i z => rs_oth (by omega)))
  · exact (k1.sub (fun c z => by unfold KX; omega)).trans (Kp.w Kp.rf (by unfold KX; decide))
def s_undo (σ : St) : Int × St := match σ.2.1 with
  | [] => (-4, rfs σ (-4))
  | u :: us => (u.1, (u.2, us, σ.2.2.1, σ.2.2.2.1, σ.2.2.2.2.1, 0))
theorem X_undo {σ : St} {M : Mem} (h : XI σ M) (hV : VS σ) : Cal Y_CB_undo [vR 0] M (Qx (s_undo σ) M) := by
  have hu := h.2.2.2.1.1
  obtain ⟨ρ, us, im, tm, rc, st⟩ := σ
  refine Cal.mk (y := Y_CB_undo) (loc := [vR 0, vN]) G_CB_undo rfl (by decide) rfl rfl (Nat.le_of_ble_eq_true rfl) ?_
  simp only [r_CB_undo_0, r_CB_undo_1, r_CB_undo_4, r_CB_undo_7, r_CB_undo_10, r_CB_undo_11, r_CB_undo_14, r_CB_undo_16, r_CB_undo_19, r_CB_undo_20, r_CB_undo_21, r_CB_undo_24, true_and, and_true, or_true, true_or, or_false, false_or, false_and, and_false, not_true_eq_false, not_false_eq_true, implies_true, true_implies, false_implies]
  cases us with
  | nil =>
    simp only [hu, List.length_nil]
    refine ⟨r32 (by decide) (by decide), fun q => absurd rfl q, fun _ => Qx.ref h (Or.inr (Or.inr (Or.inl rfl))) rfl⟩
  | cons u us =>
    have hl := h.2.2.2.1.2.2.2.1
    simp only [List.length_cons] at hu hl
    rw [hu]
    refine ⟨r32 (by omega) (by omega), fun _ => ?_, fun q => by omega⟩
    refine (X_accept h).mono ?_
    rintro v M1 ⟨rfl, h1, k1⟩
    simp only [r_CB_undo_27, r_CB_undo_28, r_CB_undo_31, r_CB_undo_32, r_CB_undo_35, true_and, and_true, or_true, true_or, or_false, false_or, false_and, and_false, not_true_eq_false, not_false_eq_true, implies_true, true_implies, false_implies]
    refine (takeBack_s M1 (u := u) (us := us) h1.2.2.2.1).mono ?_
    rintro v M2 ⟨rfl, hU, hX, k2⟩
    have hr2 : VR u.2 := hV.2.1 u (List.mem_cons_self ..)
    refine ⟨_, rfl, ?_⟩
    simp only [r_CB_undo_38, r_CB_undo_39, r_CB_undo_40, true_and, and_true, or_true, true_or, or_false, false_or, false_and, and_false, not_true_eq_false, not_false_eq_true, implies_true, true_implies, false_implies]
    refine (settle_s hr2 hX).mono ?_
    rintro v M3 ⟨rfl, R1, R2, hc, k3⟩
    simp only [r_CB_undo_43, r_CB_undo_44, true_and, and_true, or_true, true_or, or_false, false_or, false_and, and_false, not_true_eq_false, not_false_eq_true, implies_true, true_implies, false_implies]
    obtain ⟨g1, g2, g3, g4, g5, g6, g7, g8, g9⟩ := h1
    have k23 : Kp (fun c => c = 9 ∨ (1 ≤ c ∧ c ≤ 8) ∨ (97 ≤ c ∧ c ≤ 104) ∨ c = 111) M1 M3 := (k2.sub (fun c z => by omega)).trans (k3.sub (fun c z => by omega))
    refine ⟨rfl, ⟨hX.kp k3 (fun c a b => by omega), R1, R2, hU.kp k3 (fun c a b => by omega), g5.kp k23 (by decide) (fun c a b => by omega), ?_, ?_, ?_, hc _⟩, (k1.sub (fun c z => by unfold KX; omega)).trans (k23.sub (fun c z => by unfold KX; omega))⟩
    · intro i a b; rw [k23.at (c := 96) (by decide)]; exact g6 i a b
    · intro i a b; rw [k23.at (c := 95) (by decide)]; exact g7 i a b
    · rw [k23.at (c := 94) (by decide)]; exact g8
def ims (im : Int → Option Rw) (k : Int) (r : Rw) : Int → Option Rw := fun j => if j = k then some r else im j
def s_image (σ : St) (k : Int) : Int × St := if k < 0 ∨ 2 ≤ k then (-1, rfs σ (-1)) else (σ.1 0, (σ.1, σ.2.1, ims σ.2.2.1 k σ.1, σ.2.2.2.1, σ.2.2.2.2.1, 0))
theorem rt92 : ∀ k : Nat, k < 2 → cb_rt 92 k = 125 + 8 * k ∧ (125 + 8 * k) ∈ moL := by decide +kernel
theorem one_moL : 1 ∈ moL := by decide +kernel
theorem X_image {σ : St} {M : Mem} (h : XI σ M) {k : Int} (hk : R32 k) : Cal Y_CB_image [vR 0, vI k] M (Qx (s_image σ k) M) := by
  refine Cal.mk (y := Y_CB_image) (loc := [vR 0, vI k]) G_CB_image rfl (by decide) rfl rfl (Nat.le_of_ble_eq_true rfl) ?_
  simp only [r_CB_image_0, r_CB_image_1, r_CB_image_2, r_CB_image_5, r_CB_image_8, r_CB_image_9, r_CB_image_12, r_CB_image_13, r_CB_image_16, r_CB_image_17, r_CB_image_18, r_CB_image_21, true_and, and_true, or_true, true_or, or_false, false_or, false_and, and_false, not_true_eq_false, not_false_eq_true, implies_true, true_implies, false_implies]
  refine out_eq hk R2 (fun q => Qx.ref h (Or.inl rfl) (if_pos q)) (fun q => ?_)
  have es : s_image σ k = (σ.1 0, (σ.1, σ.2.1, ims σ.2.2.1 k σ.1, σ.2.2.2.1, σ.2.2.2.2.1, 0)) := if_neg q
  rw [es]
  obtain ⟨n, rfl⟩ : ∃ n : Nat, k = n := ⟨k.toNat, by omega⟩
  obtain ⟨hrt, hmo⟩ := rt92 n (by omega)
  refine (X_accept h).mono ?_
  rintro v M1 ⟨rfl, h1, k1⟩
  simp only [r_CB_image_24, r_CB_image_25, r_CB_image_28, r_CB_image_29, r_CB_image_30, r_CB_image_31, r_CB_image_34, true_and, and_true, or_true, true_or, or_false, false_or, false_and, and_false, not_true_eq_false, not_false_eq_true, implies_true, true_implies, false_implies, Int.toNat_natCast, hrt]
  refine ⟨by omega, by omega, ?_⟩
  rw [r_CB_image_34 (moL_ok _ hmo).1]
  refine (copyFrom_s M1 hmo one_moL (by omega)).mono ?_
  rintro v M2 ⟨rfl, k2, hc⟩
  simp only [r_CB_image_37, r_CB_image_38, r_CB_image_41, r_CB_image_42, r_CB_image_43, r_CB_image_44, r_CB_image_45, r_CB_image_48, r_CB_image_51, true_and, and_true, or_true, true_or, or_false, false_or, false_and, and_false, not_true_eq_false, not_false_eq_true, implies_true, true_implies, false_implies]
  have hX := hc _ h1.1
  obtain ⟨g1, g2, g3, g4, g5, g6, g7, g8, g9⟩ := h1
  have k3 : Kp (fun c => c = 93) M2 (wI M2 93 n 1) := Kp.w Kp.rf rfl
  have k23 : Kp (fun c => c = 93 ∨ (125 + 8 * n ≤ c ∧ c ≤ 132 + 8 * n)) M1 (wI M2 93 n 1) := (k2.sub (fun c z => by omega)).trans (k3.sub (fun c z => by omega))
  have gx := g1.kp k23 (fun c a b => by omega)
  refine ⟨by omega, by omega, by rw [gx.n.1]; rfl, ⟨gx, g2.kp k23 (fun c a b => by omega), g3.kp k23 (fun c a b => by omega), g4.kp k23 (fun c a b => by omega), ?_, ?_, ?_, ?_, g9.kp k23 (fun c a b => by omega)⟩, (k1.sub (fun c z => by unfold KX; omega)).trans (k23.sub (fun c z => by unfold KX; omega))⟩
  · intro j hj
    show (_ ∧ ims σ.2.2.1 n σ.1 j = none) ∨ ∃ r, _ ∧ ims σ.2.2.1 n σ.1 j = some r ∧ _
    unfold ims
    by_cases hjn : j = n
    · subst hjn
      exact Or.inr ⟨σ.1, wI_same _ _ _ _, if_pos rfl, hX.kp k3 (fun c a b => by omega)⟩
    · rw [if_neg (by omega), wI_oth (by omega), k2.at (c := 93) (by omega)]
      rcases g5 j hj with z | ⟨r, z1, z2, z3⟩
      · exact Or.inl z
      · exact Or.inr ⟨r, z1, z2, z3.kp k23 (fun c a b => by omega)⟩
  · intro i a b; rw [k23.at (c := 96) (by omega)]; exact g6 i a b
  · intro i a b; rw [k23.at (c := 95) (by omega)]; exact g7 i a b
  · rw [k23.at (c := 94) (by omega)]; exact g8
def s_back (σ : St) (k : Int) : Int × St := if k < 0 ∨ 2 ≤ k then (-1, rfs σ (-1)) else match σ.2.2.1 k with
  | none => (-4, rfs σ (-4))
  | some r => (r 0, (r, [], σ.2.2.1, σ.2.2.2.1, σ.2.2.2.2.1, 0))
theorem X_back {σ : St} {M : Mem} (h : XI σ M) (hV : VS σ) {k : Int} (hk : R32 k) : Cal Y_CB_back [vR 0, vI k] M (Qx (s_back σ k) M) := by
  refine Cal.mk (y := Y_CB_back) (loc := [vR 0, vI k]) G_CB_back rfl (by decide) rfl rfl (Nat.le_of_ble_eq_true rfl) ?_
  simp only [r_CB_back_0, r_CB_back_1, r_CB_back_2, r_CB_back_5, r_CB_back_8, r_CB_back_9, r_CB_back_12, r_CB_back_13, r_CB_back_16, r_CB_back_17, r_CB_back_18, r_CB_back_21, r_CB_back_22, r_CB_back_23, r_CB_back_26, r_CB_back_27, r_CB_back_30, r_CB_back_32, r_CB_back_35, r_CB_back_36, r_CB_back_37, r_CB_back_40, true_and, and_true, or_true, true_or, or_false, false_or, false_and, and_false, not_true_eq_false, not_false_eq_true, implies_true, true_implies, false_implies]
  refine out_eq hk R2 (fun q => Qx.ref h (Or.inl rfl) (if_pos q)) (fun q => ?_)
  have es : s_back σ k = match σ.2.2.1 k with
    | none => (-4, rfs σ (-4))
    | some r => (r 0, (r, [], σ.2.2.1, σ.2.2.2.1, σ.2.2.2.2.1, 0)) := if_neg q
  obtain ⟨n, rfl⟩ : ∃ n : Nat, k = n := ⟨k.toNat, by omega⟩
  obtain ⟨hrt, hmo⟩ := rt92 n (by omega)
  refine ⟨by omega, by omega, ?_⟩
  rcases h.2.2.2.2.1 n (by omega) with ⟨z1, z2⟩ | ⟨r, z1, z2, z3⟩
  · rw [z2] at es
    rw [z1]
    exact ⟨r32 (by decide) (by decide), fun q => absurd rfl q, fun _ => Qx.ref h (Or.inr (Or.inr (Or.inl rfl))) es⟩
  · rw [z2] at es
    rw [z1, es]
    refine ⟨r32 (by decide) (by decide), fun _ => ?_, fun q => by omega⟩
    refine (X_accept h).mono ?_
    rintro v M1 ⟨rfl, h1, k1⟩
    simp only [r_CB_back_43, r_CB_back_44, r_CB_back_47, r_CB_back_48, r_CB_back_51, r_CB_back_52, r_CB_back_53, true_and, and_true, or_true, true_or, or_false, false_or, false_and, and_false, not_true_eq_false, not_false_eq_true, implies_true, true_implies, false_implies, Int.toNat_natCast, hrt]
    refine ⟨by omega, by omega, ?_⟩
    refine (copyFrom_s M1 one_moL hmo (by omega)).mono ?_
    rintro v M2 ⟨rfl, k2, hc⟩
    simp only [r_CB_back_56, r_CB_back_57, r_CB_back_60, r_CB_back_61, r_CB_back_64, r_CB_back_65, true_and, and_true, or_true, true_or, or_false, false_or, false_and, and_false, not_true_eq_false, not_false_eq_true, implies_true, true_implies, false_implies]
    have hX := hc _ (z3.kp k1 (fun c a b => by omega))
    have k3 : Kp (fun c => c = 9) M2 (wI M2 9 2 0) := Kp.w Kp.rf rfl
    have hX3 := hX.kp k3 (fun c a b => by omega)
    refine (settle_s (hV.2.2.1 _ _ z2) hX3).mono ?_
    rintro v M4 ⟨rfl, R1, R2, hcx, k4⟩
    simp only [r_CB_back_68, r_CB_back_69, r_CB_back_72, r_CB_back_75, true_and, and_true, or_true, true_or, or_false, false_or, false_and, and_false, not_true_eq_false, not_false_eq_true, implies_true, true_implies, false_implies]
    obtain ⟨g1, g2, g3, g4, g5, g6, g7, g8, g9⟩ := h1
    have k24 : Kp (fun c => c = 9 ∨ (1 ≤ c ∧ c ≤ 8) ∨ (97 ≤ c ∧ c ≤ 104) ∨ c = 111) M1 M4 := ((k2.sub (fun c z => by omega)).trans (k3.sub (fun c z => by omega))).trans (k4.sub (fun c z => by omega))
    have hX4 := hX3.kp k4 (fun c a b => by omega)
    refine ⟨by rw [hX4.n.1], ⟨hX4, R1, R2, ?_, g5.kp k24 (by decide) (fun c a b => by omega), ?_, ?_, ?_, hcx _⟩, (k1.sub (fun c z => by unfold KX; omega)).trans (k24.sub (fun c z => by unfold KX; omega))⟩
    · obtain ⟨u1, u2, u3, u4, u5⟩ := g4
      have e3 : M4.1 9 3 = M1.1 9 3 := by rw [k4.at (c := 9) (by decide), wI_oth (by decide), k2.at (c := 9) (by decide)]
      have e2 : M4.1 9 2 = 0 := by rw [k4.at (c := 9) (by decide), wI_same]
      refine ⟨e2, by rw [e3]; exact u2, by rw [e3]; exact u3, Nat.zero_le _, fun j u hj => ?_⟩
      simp at hj
    · intro i a b; rw [k24.at (c := 96) (by decide)]; exact g6 i a b
    · intro i a b; rw [k24.at (c := 95) (by decide)]; exact g7 i a b
    · rw [k24.at (c := 94) (by decide)]; exact g8
def s_status (σ : St) : Int × St := (σ.2.2.2.2.2, σ)
theorem X_status {σ : St} {M : Mem} (h : XI σ M) : Cal Y_CB_status [vR 0] M (Qx (s_status σ) M) := by
  refine Cal.mk (y := Y_CB_status) (loc := [vR 0]) G_CB_status rfl (by decide) rfl rfl (Nat.le_of_ble_eq_true rfl) ?_
  simp only [r_CB_status_0, r_CB_status_1, r_CB_status_4, r_CB_status_7, true_and, and_true, or_true, true_or, or_false, false_or, false_and, and_false, not_true_eq_false, not_false_eq_true, implies_true, true_implies, false_implies]
  exact ⟨by rw [h.2.2.2.2.2.2.2.1]; rfl, h, Kp.rf⟩
def s_ofRule (σ : St) (r p : Int) : Int × St := (if (r < 0 ∨ σ.1 2 ≤ r) ∨ (p < 0 ∨ 5 ≤ p) then -1 else σ.1 (76 + 5 * r + p), σ)
theorem X_ofRule {σ : St} {M : Mem} (h : XI σ M) (hV : VS σ) {r p : Int} (hr : R32 r) (hp : R32 p) : Cal Y_CB_ofRule [vR 0, vI r, vI p] M (Qx (s_ofRule σ r p) M) := by
  have h2 := hV.1.2.2.1
  have e2 := h.1.n.2.2.1
  refine Cal.mk (y := Y_CB_ofRule) (loc := [vR 0, vI r, vI p]) G_CB_ofRule rfl (by decide) rfl rfl (Nat.le_of_ble_eq_true rfl) ?_
  simp only [r_CB_ofRule_0, r_CB_ofRule_1, r_CB_ofRule_2, r_CB_ofRule_5, r_CB_ofRule_8, r_CB_ofRule_11, r_CB_ofRule_14, r_CB_ofRule_15, r_CB_ofRule_16, r_CB_ofRule_19, r_CB_ofRule_22, r_CB_ofRule_23, r_CB_ofRule_24, r_CB_ofRule_25, r_CB_ofRule_28, r_CB_ofRule_29, r_CB_ofRule_30, r_CB_ofRule_33, true_and, and_true, or_true, true_or, or_false, false_or, false_and, and_false, not_true_eq_false, not_false_eq_true, implies_true, true_implies, false_implies, e2]
  refine out_ne hr (r32 (by omega) (by omega)) (fun q => ⟨?_, h, Kp.rf⟩) (fun q => ?_)
  · show _ = some (vI (if _ then _ else _))
    rw [if_pos (Or.inl q)]
  refine out_eq hp R5 (fun q2 => ⟨?_, h, Kp.rf⟩) (fun q2 => ?_)
  · show _ = some (vI (if _ then _ else _))
    rw [if_pos (Or.inr q2)]
  refine Cal.I (rulePart_s M (by omega) (by omega)) ⟨?_, h, Kp.rf⟩
  show _ = some (vI (if _ then _ else _))
  rw [if_neg (by omega), h.1.r (by omega) (by omega) (by omega) (by omega)]
def s_count (σ : St) (w : Int) : Int × St := (if 9 ≤ w ∧ w ≤ 12 then σ.2.2.2.2.1 (w - 9) else if 13 ≤ w ∧ w ≤ 16 then σ.2.2.2.1 (w - 13) else if w = 0 then σ.1 0 else if w = 1 then σ.1 1 else if w = 2 then σ.1 2 else if w = 3 then nC σ.1 else if w = 4 then nS σ.1 else if w = 5 then σ.1 4 else if w = 6 then σ.1 5 else if w = 7 then σ.1 3 else if w = 8 then σ.2.1.length else -1, σ)
theorem X_count {σ : St} {M : Mem} (h : XI σ M) (hV : VS σ) {w : Int} (hw : R32 w) : Cal Y_CB_count [vR 0, vI w] M (Qx (s_count σ w) M) := by
  have hn := h.1.n
  have eC := XI_nC hV.1 h
  have eS := XI_nS hV.1 h
  have eU := h.2.2.2.1.1
  refine Cal.mk (y := Y_CB_count) (loc := [vR 0, vI w]) G_CB_count rfl (by decide) rfl rfl (Nat.le_of_ble_eq_true rfl) ?_
  have fin : ∀ x, x = (s_count σ w).1 → Qx (s_count σ w) M (some (vI x)) M := fun x e => ⟨by rw [e], h, Kp.rf⟩
  have sw : ¬ (9 ≤ w ∧ w ≤ 12) → ¬ (13 ≤ w ∧ w ≤ 16) → Run C_CB_count (Qx (s_count σ w) M) 47 [vR 0, vI w] [] M := by
    intro q1 q2
    simp only [r_CB_count_47, r_CB_count_48, r_CB_count_100, r_CB_count_101, r_CB_count_104, r_CB_count_107, r_CB_count_108, r_CB_count_109, r_CB_count_112, r_CB_count_115, r_CB_count_116, r_CB_count_117, r_CB_count_120, r_CB_count_123, r_CB_count_124, r_CB_count_125, r_CB_count_128, r_CB_count_131, r_CB_count_132, r_CB_count_133, r_CB_count_136, r_CB_count_139, r_CB_count_140, r_CB_count_141, r_CB_count_144, r_CB_count_147, r_CB_count_148, r_CB_count_149, r_CB_count_152, r_CB_count_155, r_CB_count_156, r_CB_count_157, r_CB_count_160, r_CB_count_163, r_CB_count_164, r_CB_count_165, r_CB_count_168, r_CB_count_171, r_CB_count_172, r_CB_count_173, true_and, and_true, or_true, true_or, or_false, false_or, false_and, and_false, not_true_eq_false, not_false_eq_true, implies_true, true_implies, false_implies]
    refine ⟨hw, ⟨?_, ?_, ?_, ?_, ?_, ?_, ?_, ?_, ?_⟩, ?_⟩
    · rintro rfl; exact fin _ hn.1
    · rintro rfl; exact fin _ hn.2.1
    · rintro rfl; exact fin _ hn.2.2.1
    · rintro rfl; exact fin _ eC
    · rintro rfl; exact fin _ eS
    · rintro rfl; exact fin _ hn.2.2.2.2.1
    · rintro rfl; exact fin _ hn.2.2.2.2.2
    · rintro rfl; exact fin _ hn.2.2.2.1
    · rintro rfl; exact fin _ eU
    · rintro ⟨a0, a1, a2, a3, a4, a5, a6, a7, a8⟩
      refine fin _ ?_
      show _ = if _ then _ else _
      rw [if_neg q1, if_neg q2, if_neg a0, if_neg a1, if_neg a2, if_neg a3, if_neg a4, if_neg a5, if_neg a6, if_neg a7, if_neg a8]
  simp only [r_CB_count_0, r_CB_count_1, r_CB_count_3, r_CB_count_6, r_CB_count_7, r_CB_count_9, r_CB_count_12, r_CB_count_13, r_CB_count_16, r_CB_count_19, r_CB_count_20, r_CB_count_22, r_CB_count_23, r_CB_count_24, r_CB_count_25, r_CB_count_26, r_CB_count_28, r_CB_count_31, r_CB_count_32, r_CB_count_34, r_CB_count_37, r_CB_count_38, r_CB_count_41, r_CB_count_42, r_CB_count_44, r_CB_count_45, r_CB_count_46, true_and, and_true, or_true, true_or, or_false, false_or, false_and, and_false, not_true_eq_false, not_false_eq_true, implies_true, true_implies, false_implies]
  have mid : ¬ (9 ≤ w ∧ w ≤ 12) → R32 w ∧ R32 13 ∧ (w < 13 → Run C_CB_count (Qx (s_count σ w) M) 47 [vR 0, vI w] [] M) ∧ (¬ w < 13 → R32 w ∧ R32 16 ∧ (16 < w → Run C_CB_count (Qx (s_count σ w) M) 47 [vR 0, vI w] [] M) ∧ (¬ 16 < w → 0 ≤ w - 13 ∧ w - 13 < 4 ∧ Qx (s_count σ w) M (some (vI (M.1 96 (w - 13)))) M)) := by
    intro q
    refine ⟨hw, r32 (by decide) (by decide), fun z => sw q (by omega), fun z => ⟨hw, r32 (by decide) (by decide), fun z2 => sw q (by omega), fun z2 => ⟨by omega, by omega, fin _ ?_⟩⟩⟩
    show _ = if _ then _ else _
    rw [if_neg q, if_pos (by omega)]
    exact h.2.2.2.2.2.1 _ (by omega) (by omega)
  refine ⟨hw, r32 (by decide) (by decide), fun z => mid (by omega), fun z => ⟨hw, r32 (by decide) (by decide), fun z2 => mid (by omega), fun z2 => ⟨by omega, by omega, fin _ ?_⟩⟩⟩
  show _ = if _ then _ else _
  rw [if_pos (by omega)]
  exact h.2.2.2.2.2.2.1 _ (by omega) (by omega)
/-- the neighbours of an object, as bits -/
def nbS (ρ : Rw) (o r p l acc : Int) : Int := if ρ (16 + 3 * l) = r ∧ ρ (16 + p + 3 * l) = o then ior acc (p2 (ρ (16 + (3 - p) + 3 * l))) else acc
theorem neighbours_s {M : Mem} {ρ : Rw} (hV : VR ρ) (hX : XR M 1 ρ) {o r z p : Int} (ho : R32 o) (hr : R32 r) (hz : R32 z) (hp : (z = 0 ∧ p = 2) ∨ (¬ z = 0 ∧ p = 1)) : Cal Y_Mo_neighbours [vR 1, vI o, vI r, vI z] M (fun v M' => v = some (vI (foI (nbS ρ o r p) 0 (ρ 1))) ∧ M' = M) := by
  have h1 := hV.2.1
  have h0 := hV.1
  have e1 := hX.n.2.1
  refine Cal.mk (y := Y_Mo_neighbours) (loc := [vR 1, vI o, vI r, vI z, vN, vN, vN, vN]) G_Mo_neighbours rfl (by decide) rfl rfl (Nat.le_of_ble_eq_true rfl) ?_
  have lp : Run C_Mo_neighbours (fun v M' => v = some (vI (foI (nbS ρ o r p) 0 (ρ 1))) ∧ M' = M) 28 [vR 1, vI o, vI r, vI z, vI p, vI (3 - p), vI 0, vI 0] [] M := by
    refine up_loop (lo := 0) (hi := ρ 1) (P := fun l => Run C_Mo_neighbours _ 28 [vR 1, vI o, vI r, vI z, vI p, vI (3 - p), vI (foI (nbS ρ o r p) 0 l), vI l] [] M) (fun l hl hln ih => ?_) h1.1
    rw [r_Mo_neighbours_28]
    simp only [r_Mo_neighbours_30, r_Mo_neighbours_31, r_Mo_neighbours_34, r_Mo_neighbours_37, r_Mo_neighbours_38, r_Mo_neighbours_40, r_Mo_neighbours_41, r_Mo_neighbours_44, r_Mo_neighbours_45, r_Mo_neighbours_48, r_Mo_neighbours_49, r_Mo_neighbours_51, r_Mo_neighbours_53, r_Mo_neighbours_56, r_Mo_neighbours_57, r_Mo_neighbours_60, r_Mo_neighbours_62, r_Mo_neighbours_63, r_Mo_neighbours_64, r_Mo_neighbours_66, r_Mo_neighbours_68, r_Mo_neighbours_71, r_Mo_neighbours_72, r_Mo_neighbours_73, r_Mo_neighbours_75, r_Mo_neighbours_78, r_Mo_neighbours_81, r_Mo_neighbours_83, true_and, and_true, or_true, true_or, or_false, false_or, false_and, and_false, not_true_eq_false, not_false_eq_true, implies_true, true_implies, false_implies, e1]
    refine ⟨r32 (by omega) (by omega), r32 (by omega) (by omega), fun q => ?_, fun q => ?_⟩
    · rw [show l = ρ 1 by omega]
    · have hv := hV.2.2.2.2.2.1 l hl (by omega)
      have x0 := hX.l (l := l) (p := 0) hl (by omega) (by decide) (by decide)
      have x1 := hX.l (l := l) (p := p) hl (by omega) (by omega) (by omega)
      have x2 := hX.l (l := l) (p := 3 - p) hl (by omega) (by omega) (by omega)
      rw [show 16 + 3 * l + 0 = 16 + 3 * l by omega] at x0
      rw [show 16 + 3 * l + p = 16 + p + 3 * l by omega] at x1
      rw [show 16 + 3 * l + (3 - p) = 16 + (3 - p) + 3 * l by omega] at x2
      have hb1 : 0 ≤ ρ (16 + p + 3 * l) ∧ ρ (16 + p + 3 * l) < ρ 0 ∧ 0 ≤ ρ (16 + (3 - p) + 3 * l) ∧ ρ (16 + (3 - p) + 3 * l) < ρ 0 := by
        rcases hp with ⟨-, rfl⟩ | ⟨-, rfl⟩
        · exact ⟨hv.2.2.2.2.1, hv.2.2.2.2.2, hv.2.2.1, hv.2.2.2.1⟩
        · exact ⟨hv.2.2.1, hv.2.2.2.1, hv.2.2.2.2.1, hv.2.2.2.2.2⟩
      have hih := ih (by omega)
      rw [foI_s _ _ hl] at hih
      unfold nbS at hih
      refine Cal.I (linkPart_s M (by omega) (by omega)) ?_
      rw [x0]
      refine ⟨r32 (by omega) (by omega), hr, fun q1 => ?_, fun q1 => ?_⟩
      · rw [if_neg (by omega)] at hih; exact hih
      refine Cal.I (linkPart_s M (by omega) (by omega)) ?_
      rw [x1]
      refine ⟨r32 (by omega) (by omega), ho, fun q2 => ?_, fun q2 => ?_⟩
      · rw [if_neg (by omega)] at hih; exact hih
      refine Cal.I (linkPart_s M (by omega) (by omega)) ?_
      rw [x2, p2_def]
      rw [if_pos (by omega)] at hih
      exact ⟨⟨by omega, by omega⟩, hih⟩
  rcases hp with ⟨hz0, rfl⟩ | ⟨hz0, rfl⟩
  · simp only [r_Mo_neighbours_0, r_Mo_neighbours_1, r_Mo_neighbours_4, r_Mo_neighbours_5, r_Mo_neighbours_8, r_Mo_neighbours_9, r_Mo_neighbours_11, r_Mo_neighbours_12, r_Mo_neighbours_15, r_Mo_neighbours_16, r_Mo_neighbours_19, r_Mo_neighbours_20, r_Mo_neighbours_22, r_Mo_neighbours_23, r_Mo_neighbours_25, r_Mo_neighbours_26, true_and, and_true, or_true, true_or, or_false, false_or, false_and, and_false, not_true_eq_false, not_false_eq_true, implies_true, true_implies, false_implies, hz0]
    rw [hz0] at lp hz
    exact ⟨hz, hz, lp⟩
  · simp only [r_Mo_neighbours_0, r_Mo_neighbours_1, r_Mo_neighbours_4, r_Mo_neighbours_5, r_Mo_neighbours_8, r_Mo_neighbours_9, r_Mo_neighbours_11, r_Mo_neighbours_12, r_Mo_neighbours_15, r_Mo_neighbours_16, r_Mo_neighbours_19, r_Mo_neighbours_20, r_Mo_neighbours_22, r_Mo_neighbours_23, r_Mo_neighbours_25, r_Mo_neighbours_26, true_and, and_true, or_true, true_or, or_false, false_or, false_and, and_false, not_true_eq_false, not_false_eq_true, implies_true, true_implies, false_implies, hz0]
    exact ⟨hz, hz, lp⟩
def s_ofObject (σ : St) (o w : Int) : Int × St := (if (o < 0 ∨ σ.1 0 ≤ o) ∨ (w < 0 ∨ 7 ≤ w) then -1 else if w = 0 then σ.1 (6 + o) else if w ≤ 3 then foI (nbS σ.1 o (w - 1) 1) 0 (σ.1 1) else foI (nbS σ.1 o (w - 4) 2) 0 (σ.1 1), σ)
theorem X_ofObject {σ : St} {M : Mem} (h : XI σ M) (hV : VS σ) {o w : Int} (ho : R32 o) (hw : R32 w) : Cal Y_CB_ofObject [vR 0, vI o, vI w] M (Qx (s_ofObject σ o w) M) := by
  have h0 := hV.1.1
  have e0 := h.1.n.1
  have fin : ∀ x, x = (s_ofObject σ o w).1 → Qx (s_ofObject σ o w) M (some (vI x)) M := fun x e => ⟨by rw [e], h, Kp.rf⟩
  refine Cal.mk (y := Y_CB_ofObject) (loc := [vR 0, vI o, vI w, vN]) G_CB_ofObject rfl (by decide) rfl rfl (Nat.le_of_ble_eq_true rfl) ?_
  simp only [r_CB_ofObject_0, r_CB_ofObject_1, r_CB_ofObject_2, r_CB_ofObject_5, r_CB_ofObject_8, r_CB_ofObject_11, r_CB_ofObject_14, r_CB_ofObject_15, r_CB_ofObject_17, r_CB_ofObject_20, r_CB_ofObject_23, r_CB_ofObject_24, r_CB_ofObject_25, r_CB_ofObject_26, r_CB_ofObject_29, r_CB_ofObject_30, r_CB_ofObject_33, r_CB_ofObject_36, r_CB_ofObject_37, r_CB_ofObject_38, true_and, and_true, or_true, true_or, or_false, false_or, false_and, and_false, not_true_eq_false, not_false_eq_true, implies_true, true_implies, false_implies, e0]
  refine out_ne ho (r32 (by omega) (by omega)) (fun q => fin _ (if_pos (Or.inl q)).symm) (fun q => ?_)
  refine out_eq hw (r32 (by decide) (by decide)) (fun q2 => fin _ (if_pos (Or.inr q2)).symm) (fun q2 => ?_)
  have e : (s_ofObject σ o w).1 = if w = 0 then σ.1 (6 + o) else if w ≤ 3 then foI (nbS σ.1 o (w - 1) 1) 0 (σ.1 1) else foI (nbS σ.1 o (w - 4) 2) 0 (σ.1 1) := if_neg (by omega)
  refine ⟨hw, fun q3 => ?_, fun q3 => ⟨by omega, by omega, fin _ ?_⟩⟩
  · rw [if_neg q3] at e
    simp only [r_CB_ofObject_39, r_CB_ofObject_40, r_CB_ofObject_41, r_CB_ofObject_44, r_CB_ofObject_45, r_CB_ofObject_48, r_CB_ofObject_49, r_CB_ofObject_50, r_CB_ofObject_51, r_CB_ofObject_54, r_CB_ofObject_55, r_CB_ofObject_56, r_CB_ofObject_59, r_CB_ofObject_60, r_CB_ofObject_61, r_CB_ofObject_62, r_CB_ofObject_65, r_CB_ofObject_66, r_CB_ofObject_67, r_CB_ofObject_68, r_CB_ofObject_69, r_CB_ofObject_70, r_CB_ofObject_71, r_CB_ofObject_74, true_and, and_true, or_true, true_or, or_false, false_or, false_and, and_false, not_true_eq_false, not_false_eq_true, implies_true, true_implies, false_implies]
    refine ⟨hw, R3, fun q4 => ⟨r32 (by decide) (by decide), ?_⟩, fun q4 => ⟨r32 (by decide) (by decide), fun z => absurd z (by decide), fun _ => ?_⟩⟩
    · refine Cal.I (neighbours_s hV.1 h.1 (p := 2) ho (r32 (by omega) (by omega)) (r32 (by decide) (by decide)) (Or.inl ⟨rfl, rfl⟩)) (fin _ ?_)
      rw [e, if_neg (by omega), show w - 1 - 3 = w - 4 by omega]
    · refine Cal.I (neighbours_s hV.1 h.1 (p := 1) ho (r32 (by omega) (by omega)) (r32 (by decide) (by decide)) (Or.inr ⟨by decide, rfl⟩)) (fin _ ?_)
      rw [e, if_pos (by omega)]
  · rw [if_pos (by omega)] at e
    rw [e]; exact h.1.2.1 o (by omega) (by omega)
