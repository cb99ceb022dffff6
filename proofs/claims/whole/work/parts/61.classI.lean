/-! reduced, reduce, weakest of the class -/
theorem VS_act {σ : St} (hV : VS σ) (a : Int) {ρ : Rw} (h : VR ρ) : VS (act σ a ρ) := by
  refine ⟨h, fun u hu => ?_, hV.2.2.1, hV.2.2.2⟩
  rcases List.mem_cons.1 hu with z | z
  · rw [z]; exact hV.1
  · exact hV.2.1 u (List.mem_of_mem_take z)
theorem red_is {ρ : Rw} (hV : VR ρ) (d : Int) : isRed ρ d (red ρ d) := by
  have h2 := p2_pos (nS ρ)
  have key : ∀ k : Int, 0 ≤ k → k ≤ p2 (nS ρ) → (∀ j, 0 ≤ j → j < k → ¬ enough ρ d j) ∨ ∃ v, 0 ≤ v ∧ v < k ∧ enough ρ d v ∧ (∀ j, 0 ≤ j → j < k → enough ρ d j → pcI v ≤ pcI j) ∧ ∀ j, 0 ≤ j → j < v → enough ρ d j → pcI v < pcI j := by
    refine int_ind (fun _ => Or.inl (fun j x y => by omega)) (fun n hn ih h => ?_)
    rcases ih (by omega) with a | ⟨v, a1, a2, a3, a4, a5⟩
    · by_cases q : enough ρ d n
      · refine Or.inr ⟨n, hn, by omega, q, fun j x y w => ?_, fun j x y w => absurd w (a j x y)⟩
        by_cases z : j = n
        · rw [z]; exact Int.le_refl _
        · exact absurd w (a j x (by omega))
      · refine Or.inl (fun j x y => ?_)
        by_cases z : j = n
        · rw [z]; exact q
        · exact a j x (by omega)
    · by_cases q : enough ρ d n ∧ pcI n < pcI v
      · refine Or.inr ⟨n, hn, by omega, q.1, fun j x y w => ?_, fun j x y w => ?_⟩
        · by_cases z : j = n
          · rw [z]; exact Int.le_refl _
          · have := a4 j x (by omega) w; omega
        · have := a4 j x (by omega) w; omega
      · refine Or.inr ⟨v, a1, by omega, a3, fun j x y w => ?_, a5⟩
        by_cases z : j = n
        · rw [z] at w ⊢
          rcases Int.lt_or_le (pcI n) (pcI v) with z2 | z2
          · exact absurd ⟨w, z2⟩ q
          · exact z2
        · exact a4 j x (by omega) w
  rcases key (p2 (nS ρ)) (by omega) (Int.le_refl _) with a | ⟨v, a1, a2, a3, a4, a5⟩
  · exact absurd (enough_all hV d) (a _ (by omega) (by omega))
  · exact Classical.epsilon_spec (p := isRed ρ d) ⟨v, a1, a2, a3, a4, a5⟩
theorem red_bd {ρ : Rw} (hV : VR ρ) (d : Int) : 0 ≤ red ρ d ∧ red ρ d < p2 (nS ρ) ∧ red ρ d < 4096 := by
  have h := red_is hV d
  have := p2_12 (nS_bd hV).2
  exact ⟨h.1, h.2.1, by have := h.2.1; omega⟩
noncomputable def q_reduced (ρ : Rw) (d : Int) : Int := if d < 1 ∨ 6 < d then -1 else pcI (red ρ d)
theorem X_reduced {σ : St} {M : Mem} (h : XI σ M) (hV : VS σ) {d : Int} (hd : R32 d) : Cal Y_CB_reduced [vR 0, vI d] M (Qx (q_reduced σ.1 d, σ) M) := by
  have hb := red_bd hV.1 d
  refine Cal.mk (y := Y_CB_reduced) (loc := [vR 0, vI d]) G_CB_reduced rfl (by decide) rfl rfl (Nat.le_of_ble_eq_true rfl) ?_
  simp only [r_CB_reduced_0, r_CB_reduced_1, r_CB_reduced_2, r_CB_reduced_5, r_CB_reduced_6, r_CB_reduced_8, r_CB_reduced_11, r_CB_reduced_12, r_CB_reduced_13, r_CB_reduced_14, r_CB_reduced_17, true_and, and_true, or_true, true_or, or_false, false_or, false_and, and_false, not_true_eq_false, not_false_eq_true, implies_true, true_implies, false_implies]
  refine ⟨hd, r32 (by decide) (by decide), fun q => Qx.q h Kp.rf (by unfold q_reduced; rw [if_pos (Or.inl q)]), fun q => ⟨hd, r32 (by decide) (by decide), fun q2 => ?_, fun q2 => Qx.q h Kp.rf (by unfold q_reduced; rw [if_pos (by omega)])⟩⟩
  refine (X_renew hV h).mono ?_
  rintro _ M1 ⟨rfl, h1, k1⟩
  simp only [r_CB_reduced_20, r_CB_reduced_21, r_CB_reduced_24, r_CB_reduced_25, r_CB_reduced_28, r_CB_reduced_31, true_and, and_true, or_true, true_or, or_false, false_or, false_and, and_false, not_true_eq_false, not_false_eq_true, implies_true, true_implies, false_implies]
  refine (fewestSigns_s (h1.dx hV) (by omega) (by omega)).mono ?_
  rintro _ M2 ⟨rfl, k2⟩
  have h2 := h1.kp k2 (fun c a => by omega) (fun c a b => by omega) (fun c a b => by omega)
  refine ⟨_, rfl, Cal.I (bitCount_s M2 hb.1 (by omega)) (Qx.q h2.1 ((k1.x (fun c z => by omega)).trans (k2.x (fun c z => by omega))) ?_)⟩
  unfold q_reduced; rw [if_neg (by omega)]
noncomputable def s_reduce (σ : St) (d : Int) : Int × St := if d < 1 ∨ 6 < d then (-1, rfs σ (-1)) else (pcI (red σ.1 d), act σ 7 (rs σ.1 4 (red σ.1 d)))
theorem X_reduce {σ : St} {M : Mem} (h : XI σ M) (hV : VS σ) {d : Int} (hd : R32 d) : Cal Y_CB_reduce [vR 0, vI d] M (Qx (s_reduce σ d) M) := by
  have hb := red_bd hV.1 d
  refine Cal.mk (y := Y_CB_reduce) (loc := [vR 0, vI d]) G_CB_reduce rfl (by decide) rfl rfl (Nat.le_of_ble_eq_true rfl) ?_
  simp only [r_CB_reduce_0, r_CB_reduce_1, r_CB_reduce_2, r_CB_reduce_5, r_CB_reduce_6, r_CB_reduce_8, r_CB_reduce_11, r_CB_reduce_12, r_CB_reduce_15, r_CB_reduce_16, r_CB_reduce_19, r_CB_reduce_20, r_CB_reduce_21, r_CB_reduce_23, true_and, and_true, or_true, true_or, or_false, false_or, false_and, and_false, not_true_eq_false, not_false_eq_true, implies_true, true_implies, false_implies]
  refine ⟨hd, r32 (by decide) (by decide), fun q => Qx.ref h (Or.inl rfl) (if_pos (Or.inl q)), fun q => ⟨hd, r32 (by decide) (by decide), fun q2 => ?_, fun q2 => Qx.ref h (Or.inl rfl) (if_pos (by omega))⟩⟩
  have es : s_reduce σ d = (pcI (red σ.1 d), act σ 7 (rs σ.1 4 (red σ.1 d))) := if_neg (by omega)
  rw [es]
  refine (X_begin h 7).mono ?_
  rintro _ M1 ⟨rfl, h1, k1⟩
  have hV1 : VS (act σ 7 σ.1) := VS_act hV 7 hV.1
  simp only [r_CB_reduce_26, r_CB_reduce_27, r_CB_reduce_30, true_and, and_true, or_true, true_or, or_false, false_or, false_and, and_false, not_true_eq_false, not_false_eq_true, implies_true, true_implies, false_implies]
  refine (X_renew hV1 h1).mono ?_
  rintro _ M2 ⟨rfl, h2, k2⟩
  simp only [r_CB_reduce_33, r_CB_reduce_34, r_CB_reduce_37, r_CB_reduce_38, r_CB_reduce_41, r_CB_reduce_42, true_and, and_true, or_true, true_or, or_false, false_or, false_and, and_false, not_true_eq_false, not_false_eq_true, implies_true, true_implies, false_implies]
  refine (fewestSigns_s (h2.dx hV1) (by omega) (by omega)).mono ?_
  rintro _ M3 ⟨rfl, k3⟩
  have h3 := h2.kp k3 (fun c a => by omega) (fun c a b => by omega) (fun c a b => by omega)
  refine ⟨_, rfl, ?_⟩
  simp only [r_CB_reduce_45, r_CB_reduce_48, r_CB_reduce_49, r_CB_reduce_52, r_CB_reduce_55, r_CB_reduce_58, true_and, and_true, or_true, true_or, or_false, false_or, false_and, and_false, not_true_eq_false, not_false_eq_true, implies_true, true_implies, false_implies, wI_same]
  refine Cal.I (bitCount_s _ (v := red σ.1 d) hb.1 (by omega)) ⟨rfl, ?_, ?_⟩
  · exact h3.1.row (h3.1.1.s0 (i := 4) (red σ.1 d) (by decide) (by decide)) (Kp.w Kp.rf (by decide)) (tau_cong (fun i z => rs_oth (by omega)))
  · exact (((k1.x (fun c z => by omega)).trans (k2.x (fun c z => by omega))).trans (k3.x (fun c z => by omega))).trans (Kp.w Kp.rf (by unfold KX; decide))
/-- the greatest of z and f 0 .. , and where it is first met -/
def mxf (f : Int → Int) (z n : Int) : Int := foI (fun k acc => if acc < f k then f k else acc) z n
def ax (f : Int → Int) (z n : Int) : Int := foI (fun k acc => if mxf f z k < f k then k else acc) (-1) n
theorem mxf_s (f : Int → Int) (z : Int) {n : Int} (hn : 0 ≤ n) : mxf f z (n + 1) = if mxf f z n < f n then f n else mxf f z n := by unfold mxf; rw [foI_s _ _ hn]
theorem ax_s (f : Int → Int) (z : Int) {n : Int} (hn : 0 ≤ n) : ax f z (n + 1) = if mxf f z n < f n then n else ax f z n := by unfold ax; rw [foI_s _ _ hn]
theorem ax_sp (f : Int → Int) (z : Int) : ∀ n, 0 ≤ n → (mxf f z n = z ∧ ax f z n = -1 ∧ ∀ k, 0 ≤ k → k < n → f k ≤ z) ∨ (0 ≤ ax f z n ∧ ax f z n < n ∧ f (ax f z n) = mxf f z n ∧ z < mxf f z n ∧ (∀ k, 0 ≤ k → k < n → f k ≤ mxf f z n) ∧ ∀ k, 0 ≤ k → k < ax f z n → f k < mxf f z n) := by
  refine int_ind (Or.inl ⟨rfl, rfl, fun k a b => by omega⟩) (fun n hn ih => ?_)
  rw [mxf_s f z hn, ax_s f z hn]
  rcases ih with ⟨a1, a2, a3⟩ | ⟨a1, a2, a3, a4, a5, a6⟩
  · split
    · rename_i q
      refine Or.inr ⟨hn, by omega, rfl, by omega, fun k x y => ?_, fun k x y => ?_⟩
      · by_cases e : k = n
        · rw [e]; exact Int.le_refl _
        · have := a3 k x (by omega); omega
      · have := a3 k x (by omega); omega
    · rename_i q
      refine Or.inl ⟨a1, a2, fun k x y => ?_⟩
      by_cases e : k = n
      · rw [e]; omega
      · exact a3 k x (by omega)
  · split
    · rename_i q
      refine Or.inr ⟨hn, by omega, rfl, by omega, fun k x y => ?_, fun k x y => ?_⟩
      · by_cases e : k = n
        · rw [e]; exact Int.le_refl _
        · have := a5 k x (by omega); omega
      · have := a5 k x (by omega); omega
    · rename_i q
      refine Or.inr ⟨a1, by omega, a3, a4, fun k x y => ?_, a6⟩
      by_cases e : k = n
      · rw [e]; omega
      · exact a5 k x (by omega)
theorem chg_bd {τ : Rw} (hV : VR τ) (l : Int) : 0 ≤ chg τ l ∧ chg τ l ≤ 12 := by
  have h := cntI_bd (fun c => decide (¬ cod τ l (p2 c) = cod τ (-1) (p2 c))) (nC_bd hV).1
  have := (nC_bd hV).2
  unfold chg
  omega
theorem WK_u {τ : Rw} (hV : VR τ) {M : Mem} (h : WK τ M) : M.1 111 10 = ax (chg τ) (-1) (τ 1) ∧ M.1 111 11 = mxf (chg τ) (-1) (τ 1) := by
  have h1 := hV.2.1
  by_cases q : τ 1 = 0
  · rw [q]; exact h.1 q
  · obtain ⟨a1, a2, a3, a4, a5⟩ := h.2 (by omega)
    have hc := chg_bd hV (M.1 111 10)
    rcases ax_sp (chg τ) (-1) (τ 1) h1.1 with ⟨b1, b2, b3⟩ | ⟨b1, b2, b3, b4, b5, b6⟩
    · have := b3 _ a1 a2; omega
    · have e : M.1 111 11 = mxf (chg τ) (-1) (τ 1) := by
        have := b5 _ a1 a2
        have := a4 _ b1 b2
        omega
      refine ⟨?_, e⟩
      rcases Int.lt_trichotomy (M.1 111 10) (ax (chg τ) (-1) (τ 1)) with z | z | z
      · have := b6 _ a1 z; omega
      · exact z
      · have := a5 _ b1 z; omega
theorem WK_mk {τ : Rw} (hV : VR τ) {M : Mem} (h1 : M.1 111 10 = ax (chg τ) (-1) (τ 1)) (h2 : M.1 111 11 = mxf (chg τ) (-1) (τ 1)) : WK τ M := by
  have hn := hV.2.1
  unfold WK
  rw [h1, h2]
  refine ⟨fun q => by rw [q]; exact ⟨rfl, rfl⟩, fun q => ?_⟩
  rcases ax_sp (chg τ) (-1) (τ 1) hn.1 with ⟨b1, b2, b3⟩ | ⟨b1, b2, b3, b4, b5, b6⟩
  · have := b3 0 (by decide) q
    have := chg_bd hV 0
    omega
  · exact ⟨b1, b2, b3.symm, b5, b6⟩
theorem changesWithout_s {τ : Rw} (hV : VR τ) {M : Mem} (hX : XT M τ) (hR : RO M 97 (isC τ) (wC τ) (8 * τ 0)) (hS : RO M 101 (isS τ) (wS τ) (8 * τ 0)) (hK : CK τ M) {l : Int} (hl : R32 l) : Cal Y_Co_changesWithout [vR 111, vI l] M (fun r M' => r = some (vI (chg τ l)) ∧ Kp (fun c => 105 ≤ c ∧ c ≤ 110) M M') := by
  have hc := nC_bd hV
  have hcb : ∀ w S, 0 ≤ cod τ w S ∧ cod τ w S < 4096 := fun w S => by
    have h := bsI_bd (fun s => decide (sp τ w S (sf τ s) < 1000000)) (nS τ)
    have := p2_12 (nS_bd hV).2
    unfold cod
    omega
  refine Cal.mk (y := Y_Co_changesWithout) (loc := [vR 111, vI l, vN, vN]) G_Co_changesWithout rfl (by decide) rfl rfl (Nat.le_of_ble_eq_true rfl) ?_
  simp only [r_Co_changesWithout_0, r_Co_changesWithout_1, r_Co_changesWithout_2, r_Co_changesWithout_3, r_Co_changesWithout_6, r_Co_changesWithout_7, true_and, and_true, or_true, true_or, or_false, false_or, false_and, and_false, not_true_eq_false, not_false_eq_true, implies_true, true_implies, false_implies]
  refine (readLinks_s hV hX hl).mono ?_
  rintro _ M1 ⟨rfl, t1, k1⟩
  simp only [r_Co_changesWithout_10, r_Co_changesWithout_11, true_and, and_true, or_true, true_or, or_false, false_or, false_and, and_false, not_true_eq_false, not_false_eq_true, implies_true, true_implies, false_implies]
  refine up_loop (lo := 0) (hi := nC τ) (P := fun c => ∀ M2, Kp (fun c => 105 ≤ c ∧ c ≤ 110) M M2 → LT τ l M2 → Run C_Co_changesWithout (fun r M' => r = some (vI (chg τ l)) ∧ Kp (fun c => 105 ≤ c ∧ c ≤ 110) M M') 12 [vR 111, vI l, vI (cntI (fun c => decide (¬ cod τ l (p2 c) = cod τ (-1) (p2 c))) c), vI c] [] M2) (fun c c0 c1 ih M2 k2 t2 => ?_) hc.1 M1 (k1.sub (fun c z => by omega)) t1
  have R2 := hR.kp k2 (fun c a b => by omega)
  rw [r_Co_changesWithout_12]
  simp only [r_Co_changesWithout_13, r_Co_changesWithout_14, r_Co_changesWithout_17, r_Co_changesWithout_20, r_Co_changesWithout_23, r_Co_changesWithout_24, r_Co_changesWithout_27, r_Co_changesWithout_28, r_Co_changesWithout_29, r_Co_changesWithout_30, r_Co_changesWithout_33, r_Co_changesWithout_34, r_Co_changesWithout_35, r_Co_changesWithout_38, r_Co_changesWithout_39, r_Co_changesWithout_42, r_Co_changesWithout_43, r_Co_changesWithout_44, r_Co_changesWithout_47, r_Co_changesWithout_48, r_Co_changesWithout_51, r_Co_changesWithout_52, r_Co_changesWithout_53, r_Co_changesWithout_54, r_Co_changesWithout_57, true_and, and_true, or_true, true_or, or_false, false_or, false_and, and_false, not_true_eq_false, not_false_eq_true, implies_true, true_implies, false_implies, show M2.1 97 0 = nC τ from R2.1, p2_def]
  refine ⟨r32 (by omega) (by omega), r32 (by omega) (by omega), fun q => ?_, fun q => ⟨⟨c0, by omega⟩, ?_⟩⟩
  · simp only [r_Co_changesWithout_60, r_Co_changesWithout_61, true_and, and_true, or_true, true_or, or_false, false_or, false_and, and_false, not_true_eq_false, not_false_eq_true, implies_true, true_implies, false_implies]
    rw [show c = nC τ by omega]
    exact ⟨rfl, k2⟩
  · have hp := p2_mono (show c ≤ 11 by omega)
    have hp' : p2 11 = 2048 := by decide
    have hq := p2_pos c
    refine (flow_s hV (S := p2 c) (by omega) (by omega) (hX.kp k2 (fun c a b => by omega)) t2 R2).mono ?_
    rintro _ M3 ⟨rfl, f3, k3⟩
    have kk := k2.trans (k3.sub (P' := fun c => 105 ≤ c ∧ c ≤ 110) (fun c z => by omega))
    refine ⟨rfl, Cal.I (codeOfFlow_s hV f3 (hS.kp kk (fun c a b => by omega))) ⟨c0, by omega, ?_⟩⟩
    rw [kk.at (by decide), (hK c c0 (by omega)).1]
    have h1 := hcb l (p2 c)
    have h2 := hcb (-1) (p2 c)
    have hih := ih (by omega) M3 kk (t2.kp k3 (fun c a b => by omega))
    rw [cntI_s _ c0] at hih
    refine ⟨r32 (by omega) (by omega), r32 (by omega) (by omega), fun q2 => ?_, fun q2 => ?_⟩
    · rw [if_neg (by rw [decide_eq_true_eq]; omega)] at hih; exact hih
    · rw [if_pos (by rw [decide_eq_true_eq]; exact q2)] at hih; exact hih
theorem X_findWeakest {σ : St} (hV : VS σ) {M : Mem} (h : XC σ M) : Cal Y_Co_findWeakest [vR 111] M (fun r M' => r = none ∧ XI σ M' ∧ M'.1 111 10 = ax (chg (tau σ.1)) (-1) (σ.1 1) ∧ M'.1 111 11 = mxf (chg (tau σ.1)) (-1) (σ.1 1) ∧ Kp (fun c => 105 ≤ c ∧ c ≤ 111) M M') := by
  have hT := VR_tau hV.1
  have e1 : tau σ.1 1 = σ.1 1 := tau_lo (by decide) (by decide)
  have hl := hV.1.2.1
  have hX := h.1.1.t
  have hR := h.1.rc
  have hS := h.1.rs
  have hCX := h.1.2.2.2.2.2.2.2.2
  rw [← e1] at hl ⊢
  refine Cal.mk (y := Y_Co_findWeakest) (loc := [vR 111, vN, vN]) G_Co_findWeakest rfl (by decide) rfl rfl (Nat.le_of_ble_eq_true rfl) ?_
  simp only [r_Co_findWeakest_0, r_Co_findWeakest_1, r_Co_findWeakest_4, r_Co_findWeakest_7, r_Co_findWeakest_8, r_Co_findWeakest_9, r_Co_findWeakest_10, r_Co_findWeakest_13, r_Co_findWeakest_14, r_Co_findWeakest_15, r_Co_findWeakest_18, r_Co_findWeakest_19, true_and, and_true, or_true, true_or, or_false, false_or, false_and, and_false, not_true_eq_false, not_false_eq_true, implies_true, true_implies, false_implies]
  refine ⟨fl01 hCX.2.2, fun q => ?_, fun q => ?_⟩
  rotate_left
  · have := WK_u hT (hCX.2.2.resolve_left q).2
    exact ⟨h.1, this.1, this.2, Kp.rf⟩
  refine up_loop (lo := 0) (hi := tau σ.1 1) (P := fun l => ∀ M1 l2, Kp (fun c => 105 ≤ c ∧ c ≤ 111) M M1 → (∀ i, ¬ i = 10 → ¬ i = 11 → M1.1 111 i = M.1 111 i) → M1.1 111 10 = ax (chg (tau σ.1)) (-1) l → M1.1 111 11 = mxf (chg (tau σ.1)) (-1) l → Run C_Co_findWeakest (fun r M' => r = none ∧ XI σ M' ∧ M'.1 111 10 = ax (chg (tau σ.1)) (-1) (tau σ.1 1) ∧ M'.1 111 11 = mxf (chg (tau σ.1)) (-1) (tau σ.1 1) ∧ Kp (fun c => 105 ≤ c ∧ c ≤ 111) M M') 20 [vR 111, vI l, l2] [] M1) (fun l l0 ln ih M1 l2 k1 o1 a1 b1 => ?_) hl.1 _ _ (Kp.w (Kp.w Kp.rf (by decide)) (by decide)) (fun i x y => by rw [wI_oth y, wI_oth x]) (by rw [wI_oth (by decide), wI_same]; rfl) (by rw [wI_same]; rfl)
  have X1 := hX.kp k1 (fun c a b => by omega)
  have hc := chg_bd hT l
  rw [r_Co_findWeakest_20]
  simp only [r_Co_findWeakest_21, r_Co_findWeakest_22, r_Co_findWeakest_25, r_Co_findWeakest_28, r_Co_findWeakest_31, r_Co_findWeakest_32, r_Co_findWeakest_33, true_and, and_true, or_true, true_or, or_false, false_or, false_and, and_false, not_true_eq_false, not_false_eq_true, implies_true, true_implies, false_implies, X1.2.1]
  refine ⟨r32 (by omega) (by omega), r32 (by omega) (by omega), fun q1 => ?_, fun q1 => ?_⟩
  · simp only [r_Co_findWeakest_61, r_Co_findWeakest_62, r_Co_findWeakest_63, r_Co_findWeakest_66, true_and, and_true, or_true, true_or, or_false, false_or, false_and, and_false, not_true_eq_false, not_false_eq_true, implies_true, true_implies, false_implies]
    have el : l = tau σ.1 1 := by omega
    rw [el] at a1 b1
    have k2 : Kp (fun c => 105 ≤ c ∧ c ≤ 111) M (wI M1 111 14 1) := Kp.w k1 (by decide)
    have a2 : (wI M1 111 14 1).1 111 10 = ax (chg (tau σ.1)) (-1) (tau σ.1 1) := by rw [wI_oth (by decide)]; exact a1
    have b2 : (wI M1 111 14 1).1 111 11 = mxf (chg (tau σ.1)) (-1) (tau σ.1 1) := by rw [wI_oth (by decide)]; exact b1
    refine ⟨h.1.cx k2 (fun c a => by omega) (fun c a b => by omega) (hCX.w ?_ ?_ ?_ (k2.c (by decide)) (k2.c (by decide)) (k2.c (by decide)) (k2.c (by decide)) (Or.inr ⟨wI_same _ _ _ _, WK_mk hT a2 b2⟩)), a2, b2, k2⟩
    · rw [wI_oth (by decide)]; exact o1 9 (by decide) (by decide)
    · rw [wI_oth (by decide)]; exact o1 12 (by decide) (by decide)
    · rw [wI_oth (by decide)]; exact o1 13 (by decide) (by decide)
  · have hK : CK (tau σ.1) M1 := fun c x y => by
      rw [k1.c (by decide), k1.c (by decide)]; exact h.2 c x y
    refine (changesWithout_s hT X1 (hR.kp k1 (fun c a b => by omega)) (hS.kp k1 (fun c a b => by omega)) hK (r32 (by omega) (by omega))).mono ?_
    rintro _ M2 ⟨rfl, k2⟩
    have e2 := k2.c (c := 111) (by decide)
    refine ⟨_, rfl, ?_⟩
    simp only [r_Co_findWeakest_36, r_Co_findWeakest_37, r_Co_findWeakest_38, r_Co_findWeakest_39, r_Co_findWeakest_42, r_Co_findWeakest_45, r_Co_findWeakest_46, r_Co_findWeakest_47, r_Co_findWeakest_50, r_Co_findWeakest_51, r_Co_findWeakest_52, r_Co_findWeakest_55, r_Co_findWeakest_58, true_and, and_true, or_true, true_or, or_false, false_or, false_and, and_false, not_true_eq_false, not_false_eq_true, implies_true, true_implies, false_implies, e2, b1]
    have hm := ax_sp (chg (tau σ.1)) (-1) l l0
    have hmb : -1 ≤ mxf (chg (tau σ.1)) (-1) l ∧ mxf (chg (tau σ.1)) (-1) l ≤ 12 := by
      rcases hm with z | z
      · omega
      · have := chg_bd hT (ax (chg (tau σ.1)) (-1) l); omega
    have kk := k1.trans (k2.sub (P' := fun c => 105 ≤ c ∧ c ≤ 111) (fun c z => by omega))
    have hih := ih (by omega)
    rw [ax_s _ _ l0, mxf_s _ _ l0] at hih
    refine ⟨r32 (by omega) (by omega), r32 (by omega) (by omega), fun q2 => ?_, fun q2 => ?_⟩
    · rw [if_neg (by omega), if_neg (by omega)] at hih
      exact hih M2 _ kk (fun i x y => by rw [e2]; exact o1 i x y) (by rw [e2]; exact a1) (by rw [e2]; exact b1)
    · rw [if_pos (by omega), if_pos (by omega)] at hih
      exact hih _ _ (Kp.w (Kp.w kk (by decide)) (by decide)) (fun i x y => by rw [wI_oth y, wI_oth x, e2]; exact o1 i x y) (by rw [wI_oth (by decide), wI_same]) (wI_same _ _ _ _)
noncomputable def q_weakest (ρ : Rw) (w : Int) : Int := if ρ 1 = 0 ∨ (w < 0 ∨ 2 ≤ w) then -1 else if w = 0 then ax (chg (tau ρ)) (-1) (ρ 1) else mxf (chg (tau ρ)) (-1) (ρ 1)
theorem X_weakest {σ : St} {M : Mem} (h : XI σ M) (hV : VS σ) {w : Int} (hw : R32 w) : Cal Y_CB_weakest [vR 0, vI w] M (Qx (q_weakest σ.1 w, σ) M) := by
  have hl := hV.1.2.1
  refine Cal.mk (y := Y_CB_weakest) (loc := [vR 0, vI w]) G_CB_weakest rfl (by decide) rfl rfl (Nat.le_of_ble_eq_true rfl) ?_
  simp only [r_CB_weakest_0, r_CB_weakest_1, r_CB_weakest_4, r_CB_weakest_7, r_CB_weakest_10, r_CB_weakest_11, r_CB_weakest_12, r_CB_weakest_15, r_CB_weakest_18, r_CB_weakest_19, r_CB_weakest_20, r_CB_weakest_21, r_CB_weakest_24, true_and, and_true, or_true, true_or, or_false, false_or, false_and, and_false, not_true_eq_false, not_false_eq_true, implies_true, true_implies, false_implies, h.1.n.2.1]
  refine ⟨r32 (by omega) (by omega), fun q => Qx.q h Kp.rf (by unfold q_weakest; rw [if_pos (Or.inl q)]), fun q => ?_⟩
  refine out_eq hw R2 (fun q2 => Qx.q h Kp.rf (by unfold q_weakest; rw [if_pos (Or.inr q2)])) (fun q2 => ?_)
  have ee : q_weakest σ.1 w = if w = 0 then ax (chg (tau σ.1)) (-1) (σ.1 1) else mxf (chg (tau σ.1)) (-1) (σ.1 1) := if_neg (by omega)
  refine (X_renew hV h).mono ?_
  rintro _ M1 ⟨rfl, h1, k1⟩
  simp only [r_CB_weakest_27, r_CB_weakest_28, r_CB_weakest_31, true_and, and_true, or_true, true_or, or_false, false_or, false_and, and_false, not_true_eq_false, not_false_eq_true, implies_true, true_implies, false_implies]
  refine (X_findWeakest hV h1).mono ?_
  rintro _ M2 ⟨rfl, h2, a2, b2, k2⟩
  have kk := (k1.x (fun c z => by omega)).trans (k2.x (fun c z => by omega))
  simp only [r_CB_weakest_34, r_CB_weakest_35, r_CB_weakest_38, r_CB_weakest_39, r_CB_weakest_42, r_CB_weakest_45, r_CB_weakest_48, r_CB_weakest_49, r_CB_weakest_52, r_CB_weakest_55, true_and, and_true, or_true, true_or, or_false, false_or, false_and, and_false, not_true_eq_false, not_false_eq_true, implies_true, true_implies, false_implies, a2, b2]
  exact ⟨hw, fun q3 => Qx.q h2 kk (by rw [ee, if_neg q3]), fun q3 => Qx.q h2 kk (by rw [ee, if_pos (by omega)])⟩
