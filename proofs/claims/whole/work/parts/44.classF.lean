/-! sign, object -/
def anew (ρ : Rw) : Rw := rs (rs (rs ρ 4 (p2 (nS ρ) - 1)) 5 0) 3 0
theorem anew_oth {ρ : Rw} {i : Int} (h : ¬ (3 ≤ i ∧ i ≤ 5)) : anew ρ i = ρ i := by
  unfold anew; rw [rs_oth (by omega), rs_oth (by omega), rs_oth (by omega)]
theorem tau_anew (ρ : Rw) : tau (anew ρ) = tau ρ := tau_cong (fun i h => anew_oth (by omega))
theorem startBookAnew_s {M : Mem} {ρ : Rw} (hX : XR M 1 ρ) (hn : M.1 101 0 = nS ρ) (h0 : 0 ≤ nS ρ) (h12 : nS ρ ≤ 12) : Cal Y_CB_startBookAnew [vR 0] M (fun v M' => v = none ∧ XR M' 1 (anew ρ) ∧ Kp (fun c => 1 ≤ c ∧ c ≤ 8) M M') := by
  refine Cal.mk (y := Y_CB_startBookAnew) (loc := [vR 0]) G_CB_startBookAnew rfl (by decide) rfl rfl (Nat.le_of_ble_eq_true rfl) ?_
  simp only [r_CB_startBookAnew_0, r_CB_startBookAnew_1, r_CB_startBookAnew_4, r_CB_startBookAnew_5, r_CB_startBookAnew_6, r_CB_startBookAnew_9, r_CB_startBookAnew_12, r_CB_startBookAnew_13, r_CB_startBookAnew_14, r_CB_startBookAnew_15, r_CB_startBookAnew_18, r_CB_startBookAnew_19, r_CB_startBookAnew_22, r_CB_startBookAnew_23, r_CB_startBookAnew_26, r_CB_startBookAnew_27, r_CB_startBookAnew_30, r_CB_startBookAnew_31, r_CB_startBookAnew_34, true_and, and_true, or_true, true_or, or_false, false_or, false_and, and_false, not_true_eq_false, not_false_eq_true, implies_true, true_implies, false_implies, hn, p2_def]
  refine ⟨by omega, ?_, Kp.w (Kp.w (Kp.w Kp.rf (by decide)) (by decide)) (by decide)⟩
  exact ((hX.s0 (i := 4) (p2 (nS ρ) - 1) (by decide) (by decide)).s0 (i := 5) 0 (by decide) (by decide)).s0 (i := 3) 0 (by decide) (by decide)
theorem VR_anew {ρ ρ' : Rw} (hV : VR ρ) (hs : ∀ i, (1 ≤ i ∧ i ≤ 2) ∨ (16 ≤ i ∧ i < 136) → ρ' i = ρ i) (h0 : ρ 0 ≤ ρ' 0 ∧ ρ' 0 ≤ 10) (hk : ∀ o, 0 ≤ o → o < ρ' 0 → 0 ≤ ρ' (6 + o) ∧ ρ' (6 + o) ≤ 3) (hm : ∀ k, 0 ≤ k → k < 32 → (0 ≤ ρ' (136 + k) ∧ ρ' (136 + k) ≤ 9) ∧ (0 ≤ ρ' (168 + k) ∧ ρ' (168 + k) ≤ 1)) (hC : nC ρ' ≤ 12) (hS : nS ρ' ≤ 12) : VR (anew ρ') := by
  have v0 := hV.1
  have e0 : anew ρ' 0 = ρ' 0 := anew_oth (by decide)
  have eS : nS (anew ρ') = nS ρ' := nS_cong (by omega) hk e0 (fun i a b => anew_oth (by omega)) (fun i a b => anew_oth (by omega))
  have eC : nC (anew ρ') = nC ρ' := by
    unfold nC
    rw [e0]
    refine cntI_cong (by omega) (fun f a b => ?_)
    have hkd := hk (f / 8) (by omega) (by omega)
    unfold isC wC
    rw [anew_oth (i := 6 + f / 8) (by omega), anew_oth (by omega)]
  have hp := p2_pos (nS ρ')
  refine VR_mk hV (fun i h => by rw [anew_oth (by omega)]; exact hs i h) (by rw [e0]; exact h0) (fun o a b => ?_) (fun k a b => ?_) (by rw [eC]; exact hC) (by rw [eS]; exact hS) (by rw [show anew ρ' 3 = 0 from rs_same _ _ _]; omega) (fun k a b => ?_) ?_ ?_
  · rw [e0] at b
    rw [anew_oth (by omega)]; exact hk o a b
  · rw [anew_oth (by omega), anew_oth (by omega)]; exact hm k a b
  · rw [show anew ρ' 3 = 0 from rs_same _ _ _] at b; omega
  · rw [eS, show anew ρ' 4 = p2 (nS ρ') - 1 from rfl]; omega
  · rw [eS, show anew ρ' 5 = 0 from rfl]; omega
def s_sign (σ : St) (k e : Int) : Int × St := if (k < 0 ∨ 4 ≤ k) ∨ (e < 0 ∨ 8 ≤ e) then (-1, rfs σ (-1)) else if σ.1 (168 + (k * 8 + e)) = 0 ∧ 12 < nS σ.1 + kc σ.1 k then (-5, rfs σ (-5)) else (nS (rs σ.1 (168 + (k * 8 + e)) (1 - σ.1 (168 + (k * 8 + e)))), act σ 6 (anew (rs σ.1 (168 + (k * 8 + e)) (1 - σ.1 (168 + (k * 8 + e))))))
theorem VR_sign {ρ : Rw} (hr : VR ρ) {k e : Int} (hk : 0 ≤ k) (hk2 : k < 4) (he : 0 ≤ e) (he2 : e < 8) (hz : ¬ (ρ (168 + (k * 8 + e)) = 0 ∧ 12 < nS ρ + kc ρ k)) : VR (anew (rs ρ (168 + (k * 8 + e)) (1 - ρ (168 + (k * 8 + e))))) ∧ nS (rs ρ (168 + (k * 8 + e)) (1 - ρ (168 + (k * 8 + e)))) ≤ 12 := by
  have hm := (hr.2.2.2.2.2.2.2.2.1 (k * 8 + e) (by omega) (by omega)).2
  have h11 := hr.2.2.2.2.2.2.2.2.2.2.2.1
  have h0 := hr.1
  have hup := nS_up (w := 1 - ρ (168 + (k * 8 + e))) hr (k := k) (e := e) hk hk2 he he2
  have hS : nS (rs ρ (168 + (k * 8 + e)) (1 - ρ (168 + (k * 8 + e)))) ≤ 12 := by
    by_cases zz : ρ (168 + (k * 8 + e)) = 0
    · rw [if_pos zz] at hup; omega
    · rw [if_neg zz] at hup; omega
  refine ⟨VR_anew hr (fun i h => rs_oth (by omega)) ?_ (fun o a b => ?_) (fun j a b => ?_) ?_ hS, hS⟩
  · rw [rs_oth (by omega)]; omega
  · rw [rs_oth (by omega)] at b
    exact rs_kind hr (by omega) o a b
  · have hm2 := hr.2.2.2.2.2.2.2.2.1 j a b
    rw [rs_oth (i := 168 + (k * 8 + e)) (j := 136 + j) (by omega)]
    refine ⟨hm2.1, ?_⟩
    unfold rs
    split
    · omega
    · exact hm2.2
  · rw [nC_cong hr (rs_oth (by omega)) (fun i a b => rs_oth (by omega)) (fun i a b => rs_oth (by omega))]
    exact hr.2.2.2.2.2.2.2.2.2.2.1
theorem X_sign {σ : St} {M : Mem} (h : XI σ M) (hV : VS σ) {k e : Int} (hk : R32 k) (he : R32 e) : Cal Y_CB_sign [vR 0, vI k, vI e] M (Qx (s_sign σ k e) M) := by
  have hr := hV.1
  have eS := XI_nS hr h
  have h11 := hr.2.2.2.2.2.2.2.2.2.2.2.1
  have hnn := nS_nn hr.1.1
  have hkc := kc_bd hr k
  refine Cal.mk (y := Y_CB_sign) (loc := [vR 0, vI k, vI e, vN, vN]) G_CB_sign rfl (by decide) rfl rfl (Nat.le_of_ble_eq_true rfl) ?_
  simp only [r_CB_sign_0, r_CB_sign_1, r_CB_sign_2, r_CB_sign_5, r_CB_sign_8, r_CB_sign_9, r_CB_sign_11, r_CB_sign_14, r_CB_sign_17, r_CB_sign_18, r_CB_sign_21, r_CB_sign_22, r_CB_sign_25, true_and, and_true, or_true, true_or, or_false, false_or, false_and, and_false, not_true_eq_false, not_false_eq_true, implies_true, true_implies, false_implies]
  refine out_ne hk R4 (fun q => Qx.ref h (Or.inl rfl) (if_pos (Or.inl q))) (fun q => ?_)
  refine out_eq he R8 (fun q2 => Qx.ref h (Or.inl rfl) (if_pos (Or.inr q2))) (fun q2 => ?_)
  have es : s_sign σ k e = if σ.1 (168 + (k * 8 + e)) = 0 ∧ 12 < nS σ.1 + kc σ.1 k then (-5, rfs σ (-5)) else (nS (rs σ.1 (168 + (k * 8 + e)) (1 - σ.1 (168 + (k * 8 + e)))), act σ 6 (anew (rs σ.1 (168 + (k * 8 + e)) (1 - σ.1 (168 + (k * 8 + e)))))) := if_neg (by omega)
  have em := h.1.2.2.2.2.2.1 (k * 8 + e) (by omega) (by omega)
  have hm := (hr.2.2.2.2.2.2.2.2.1 (k * 8 + e) (by omega) (by omega)).2
  simp only [show (1 + 5 : Nat) = 6 from rfl] at em
  have fin : ¬ (σ.1 (168 + (k * 8 + e)) = 0 ∧ 12 < nS σ.1 + kc σ.1 k) → ∀ z, (z = 1 - σ.1 (168 + (k * 8 + e))) → ∀ l4, ∀ M1, XI (act σ 6 σ.1) M1 → Kp (fun c => 9 ≤ c ∧ c ≤ 94) M M1 → Run C_CB_sign (Qx (s_sign σ k e) M) 112 [vR 0, vI k, vI e, vI (k * 8 + e), l4] [vI z, vI (k * 8 + e), vR 6] M1 := by
    intro z2 z hz l4 M1 x1 k1
    rw [es, if_neg z2, ← hz]
    obtain ⟨hV', hS'⟩ := VR_sign hr (k := k) (e := e) (by omega) (by omega) (by omega) (by omega) z2
    rw [← hz] at hV' hS'
    simp only [r_CB_sign_112, r_CB_sign_113, r_CB_sign_114, true_and, and_true, or_true, true_or, or_false, false_or, false_and, and_false, not_true_eq_false, not_false_eq_true, implies_true, true_implies, false_implies]
    refine ⟨by omega, by omega, ?_⟩
    have hX : XR (wI M1 6 (k * 8 + e) z) 1 (rs σ.1 (168 + (k * 8 + e)) z) := x1.1.s5 (i := k * 8 + e) z (by omega) (by omega)
    have k2 : Kp (fun c => (1 ≤ c ∧ c ≤ 8) ∨ (97 ≤ c ∧ c ≤ 104) ∨ c = 111) M1 (wI M1 6 (k * 8 + e) z) := Kp.w Kp.rf (by decide)
    generalize hρ : rs σ.1 (168 + (k * 8 + e)) z = ρ1 at hX hV' hS' ⊢
    have e0 : ρ1 0 = σ.1 0 := by rw [← hρ]; exact rs_oth (by omega)
    have hq : XQ (wI M1 6 (k * 8 + e) z) (anew ρ1) := by
      refine ⟨?_, fun i a b => ?_, fun i a b => ?_, fun i a b => ?_⟩
      · rw [anew_oth (by decide)]; exact hX.n.1
      · rw [anew_oth (by omega)]; exact hX.2.1 i a b
      · rw [anew_oth (by omega)]; exact hX.2.2.2.2.1 i a b
      · rw [anew_oth (by omega)]; exact hX.2.2.2.2.2.1 i a b
    have eSa : nS (anew ρ1) = nS ρ1 := nS_cong (by rw [e0]; exact hr.1) (fun o a b => by rw [← hρ]; exact rs_kind hr (by omega) o a (by omega)) (anew_oth (by decide)) (fun i a b => anew_oth (by omega)) (fun i a b => anew_oth (by omega))
    refine (settle_g hV' hq).mono ?_
    rintro v M3 ⟨rfl, R1, R2, hc, k3⟩
    simp only [r_CB_sign_117, r_CB_sign_118, true_and, and_true, or_true, true_or, or_false, false_or, false_and, and_false, not_true_eq_false, not_false_eq_true, implies_true, true_implies, false_implies]
    have X3 := hX.kp k3 (fun c a b => by omega)
    have en : M3.1 101 0 = nS ρ1 := by
      rw [R2.1, ← eSa, ← nS_tau hV']; unfold nS; rw [tau_lo (by decide) (by decide)]
    refine (startBookAnew_s X3 en (by rw [← eSa]; exact nS_nn hV'.1.1) hS').mono ?_
    rintro v M4 ⟨rfl, X4, k4⟩
    simp only [r_CB_sign_121, r_CB_sign_122, r_CB_sign_125, r_CB_sign_128, true_and, and_true, or_true, true_or, or_false, false_or, false_and, and_false, not_true_eq_false, not_false_eq_true, implies_true, true_implies, false_implies]
    have k24 := (k2.trans (k3.sub (fun c z => by omega))).trans (k4.sub (fun c z => by omega))
    refine ⟨by rw [k4.at (c := 101) (by decide), en], x1.new (M2 := M3) X4 (R1.kp k4 (fun c a b => by omega)) (R2.kp k4 (fun c a b => by omega)) ((hc _).kp k4 (fun c a b => by omega)) k24, (k1.sub (fun c z => by unfold KX; omega)).trans (k24.sub (fun c z => by unfold KX; omega))⟩
  simp only [r_CB_sign_26, r_CB_sign_27, r_CB_sign_29, r_CB_sign_30, r_CB_sign_31, r_CB_sign_32, r_CB_sign_33, r_CB_sign_34, r_CB_sign_37, r_CB_sign_40, r_CB_sign_41, r_CB_sign_42, r_CB_sign_45, r_CB_sign_46, r_CB_sign_49, r_CB_sign_50, r_CB_sign_52, r_CB_sign_54, r_CB_sign_57, r_CB_sign_58, r_CB_sign_61, r_CB_sign_64, r_CB_sign_65, r_CB_sign_68, r_CB_sign_69, r_CB_sign_72, r_CB_sign_73, r_CB_sign_75, r_CB_sign_78, r_CB_sign_79, r_CB_sign_82, r_CB_sign_84, r_CB_sign_87, true_and, and_true, or_true, true_or, or_false, false_or, false_and, and_false, not_true_eq_false, not_false_eq_true, implies_true, true_implies, false_implies, em]
  have mid : ¬ (σ.1 (168 + (k * 8 + e)) = 0 ∧ 12 < nS σ.1 + kc σ.1 k) → ∀ b, (b = 0 ∨ b = 1) → b = σ.1 (168 + (k * 8 + e)) → Run C_CB_sign (Qx (s_sign σ k e) M) 88 [vR 0, vI k, vI e, vI (k * 8 + e), vI b] [] M := by
    intro z2 b hb hbe
    simp only [r_CB_sign_88, r_CB_sign_89, r_CB_sign_91, true_and, and_true, or_true, true_or, or_false, false_or, false_and, and_false, not_true_eq_false, not_false_eq_true, implies_true, true_implies, false_implies]
    refine (X_begin h 6).mono ?_
    rintro v M1 ⟨rfl, x1, k1⟩
    simp only [r_CB_sign_94, r_CB_sign_95, r_CB_sign_98, r_CB_sign_101, r_CB_sign_102, r_CB_sign_104, r_CB_sign_107, r_CB_sign_108, r_CB_sign_111, true_and, and_true, or_true, true_or, or_false, false_or, false_and, and_false, not_true_eq_false, not_false_eq_true, implies_true, true_implies, false_implies]
    exact ⟨r32 (by omega) (by omega), fun y => fin z2 _ (by omega) _ _ x1 k1, fun y => fin z2 _ (by omega) _ _ x1 k1⟩
  refine ⟨by omega, by omega, r32 (by omega) (by omega), fun z1 => ?_, fun z1 => ?_⟩
  · refine ⟨r32 (by decide) (by decide), Cal.I (kc_s h.1 hr hk) ?_⟩
    rw [eS]
    exact ⟨r32 (by omega) (by omega), r32 (by decide) (by decide), fun z3 => mid (by omega) _ (Or.inl rfl) (by omega), fun z3 => Qx.ref h (Or.inr (Or.inr (Or.inr rfl))) (es.trans (if_pos (by omega)))⟩
  · exact ⟨r32 (by decide) (by decide), fun _ => mid (by omega) _ (Or.inr rfl) (by omega), fun z2 => absurd (by decide) z2⟩
theorem marksOf_s_5 {M : Mem} {ρ : Rw} (hV : VR ρ) (h : XR M 1 ρ) {k : Int} (hk : 0 ≤ k) (hk2 : k < 4) : Cal Y_Mo_marksOf [vR 1, vI k, vR 5] M (fun r M' => r = some (vI (mk ρ 136 k)) ∧ M' = M) := by
  refine Cal.mk (y := Y_Mo_marksOf) (loc := [vR 1, vI k, vR 5, vN, vN]) G_Mo_marksOf rfl (by decide) rfl rfl (Nat.le_of_ble_eq_true rfl) ?_
  simp only [r_Mo_marksOf_5_0, r_Mo_marksOf_5_1, r_Mo_marksOf_5_2, r_Mo_marksOf_5_3, true_and, and_true, or_true, true_or, or_false, false_or, false_and, and_false, not_true_eq_false, not_false_eq_true, implies_true, true_implies, false_implies]
  refine up_loop (lo := 0) (hi := 8) (P := fun j => Run C_Mo_marksOf _ 5 [vR 1, vI k, vR 5, vI (cntI (fun j => decide (¬ ρ (136 + (k * 8 + j)) = 0)) j), vI j] [] M) (fun j hj hjn ih => ?_) (by decide)
  rw [r_Mo_marksOf_5_5]
  simp only [r_Mo_marksOf_5_7, r_Mo_marksOf_5_9, r_Mo_marksOf_5_12, r_Mo_marksOf_5_13, r_Mo_marksOf_5_14, r_Mo_marksOf_5_15, r_Mo_marksOf_5_17, r_Mo_marksOf_5_18, r_Mo_marksOf_5_20, r_Mo_marksOf_5_21, r_Mo_marksOf_5_22, r_Mo_marksOf_5_25, r_Mo_marksOf_5_26, r_Mo_marksOf_5_29, r_Mo_marksOf_5_30, r_Mo_marksOf_5_31, r_Mo_marksOf_5_32, r_Mo_marksOf_5_35, r_Mo_marksOf_5_38, r_Mo_marksOf_5_39, true_and, and_true, or_true, true_or, or_false, false_or, false_and, and_false, not_true_eq_false, not_false_eq_true, implies_true, true_implies, false_implies]
  refine ⟨r32 (by omega) (by omega), R8, fun q => ?_, fun q => ?_⟩
  · rw [show j = 8 by omega]; rfl
  · have hih := ih (by omega)
    rw [cntI_s _ hj] at hih
    have em : M.1 5 (k * 8 + j) = ρ (136 + (k * 8 + j)) := h.2.2.2.2.1 (k * 8 + j) (by omega) (by omega)
    have hm := hV.2.2.2.2.2.2.2.2.1 (k * 8 + j) (by omega) (by omega)
    rw [em]
    refine ⟨by omega, by omega, r32 (by omega) (by omega), fun z => ?_, fun z => ?_⟩
    · rw [decide_eq_false (fun y => y z)] at hih; exact hih
    · rw [decide_eq_true z] at hih; exact hih
theorem marksOf_s_6 {M : Mem} {ρ : Rw} (hV : VR ρ) (h : XR M 1 ρ) {k : Int} (hk : 0 ≤ k) (hk2 : k < 4) : Cal Y_Mo_marksOf [vR 1, vI k, vR 6] M (fun r M' => r = some (vI (mk ρ 168 k)) ∧ M' = M) := by
  refine Cal.mk (y := Y_Mo_marksOf) (loc := [vR 1, vI k, vR 6, vN, vN]) G_Mo_marksOf rfl (by decide) rfl rfl (Nat.le_of_ble_eq_true rfl) ?_
  simp only [r_Mo_marksOf_6_0, r_Mo_marksOf_6_1, r_Mo_marksOf_6_2, r_Mo_marksOf_6_3, true_and, and_true, or_true, true_or, or_false, false_or, false_and, and_false, not_true_eq_false, not_false_eq_true, implies_true, true_implies, false_implies]
  refine up_loop (lo := 0) (hi := 8) (P := fun j => Run C_Mo_marksOf _ 5 [vR 1, vI k, vR 6, vI (cntI (fun j => decide (¬ ρ (168 + (k * 8 + j)) = 0)) j), vI j] [] M) (fun j hj hjn ih => ?_) (by decide)
  rw [r_Mo_marksOf_6_5]
  simp only [r_Mo_marksOf_6_7, r_Mo_marksOf_6_9, r_Mo_marksOf_6_12, r_Mo_marksOf_6_13, r_Mo_marksOf_6_14, r_Mo_marksOf_6_15, r_Mo_marksOf_6_17, r_Mo_marksOf_6_18, r_Mo_marksOf_6_20, r_Mo_marksOf_6_21, r_Mo_marksOf_6_22, r_Mo_marksOf_6_25, r_Mo_marksOf_6_26, r_Mo_marksOf_6_29, r_Mo_marksOf_6_30, r_Mo_marksOf_6_31, r_Mo_marksOf_6_32, r_Mo_marksOf_6_35, r_Mo_marksOf_6_38, r_Mo_marksOf_6_39, true_and, and_true, or_true, true_or, or_false, false_or, false_and, and_false, not_true_eq_false, not_false_eq_true, implies_true, true_implies, false_implies]
  refine ⟨r32 (by omega) (by omega), R8, fun q => ?_, fun q => ?_⟩
  · rw [show j = 8 by omega]; rfl
  · have hih := ih (by omega)
    rw [cntI_s _ hj] at hih
    have em : M.1 6 (k * 8 + j) = ρ (168 + (k * 8 + j)) := h.2.2.2.2.2.1 (k * 8 + j) (by omega) (by omega)
    have hm := hV.2.2.2.2.2.2.2.2.1 (k * 8 + j) (by omega) (by omega)
    rw [em]
    refine ⟨by omega, by omega, r32 (by omega) (by omega), fun z => ?_, fun z => ?_⟩
    · rw [decide_eq_false (fun y => y z)] at hih; exact hih
    · rw [decide_eq_true z] at hih; exact hih
def addO (ρ : Rw) (k : Int) : Rw := rs (rs ρ (6 + ρ 0) k) 0 (ρ 0 + 1)
theorem addObject_s {M : Mem} {ρ : Rw} (hX : XR M 1 ρ) (h0 : 0 ≤ ρ 0) (h1 : ρ 0 < 10) {k : Int} : Cal Y_Mo_addObject [vR 1, vI k] M (fun v M' => v = none ∧ XR M' 1 (addO ρ k) ∧ Kp (fun c => 1 ≤ c ∧ c ≤ 8) M M') := by
  have e1 := hX.n.1
  refine Cal.mk (y := Y_Mo_addObject) (loc := [vR 1, vI k]) G_Mo_addObject rfl (by decide) rfl rfl (Nat.le_of_ble_eq_true rfl) ?_
  simp (disch := decide) only [r_Mo_addObject_0, r_Mo_addObject_1, r_Mo_addObject_4, r_Mo_addObject_5, r_Mo_addObject_8, r_Mo_addObject_9, r_Mo_addObject_10, r_Mo_addObject_11, r_Mo_addObject_12, r_Mo_addObject_15, r_Mo_addObject_16, r_Mo_addObject_17, r_Mo_addObject_20, true_and, and_true, or_true, true_or, or_false, false_or, false_and, and_false, not_true_eq_false, not_false_eq_true, implies_true, true_implies, false_implies, e1, wI_c]
  refine ⟨by omega, by omega, ?_, Kp.w (Kp.w Kp.rf (by decide)) (by decide)⟩
  exact (hX.s1 (i := ρ 0) k h0 h1).s0 (i := 0) (ρ 0 + 1) (by decide) (by decide)
theorem addO_0 (ρ : Rw) (k : Int) : addO ρ k 0 = ρ 0 + 1 := rs_same _ _ _
theorem addO_oth {ρ : Rw} {k i : Int} (h : ¬ i = 0) (h2 : ¬ i = 6 + ρ 0) : addO ρ k i = ρ i := by
  unfold addO; rw [rs_oth h, rs_oth h2]
theorem addO_new {ρ : Rw} {k : Int} (h0 : 0 ≤ ρ 0) : addO ρ k (6 + ρ 0) = k := by
  unfold addO; rw [rs_oth (by omega), rs_same]
theorem nCS_addO {ρ : Rw} (hV : VR ρ) (h10 : ρ 0 < 10) {k : Int} (hk : 0 ≤ k) (hk2 : k < 4) : nC (addO ρ k) = nC ρ + mk ρ 136 k ∧ nS (addO ρ k) = nS ρ + mk ρ 168 k := by
  have h0 := hV.1
  have e0 := addO_0 ρ k
  have en := addO_new (ρ := ρ) (k := k) h0.1
  have ed : ∀ j, 0 ≤ j → j < 8 → (8 * ρ 0 + j) / 8 = ρ 0 ∧ (8 * ρ 0 + j) % 8 = j := fun j a b => by omega
  unfold nC nS
  rw [e0, show 8 * (ρ 0 + 1) = 8 * ρ 0 + 8 by omega, cntI_split _ (by omega) (by decide), cntI_split _ (by omega) (by decide)]
  refine ⟨congr (congrArg _ (cntI_cong (by omega) (fun f a b => ?_))) (cntI_cong (by decide) (fun j a b => ?_)), congr (congrArg _ (cntI_cong (by omega) (fun f a b => ?_))) (cntI_cong (by decide) (fun j a b => ?_))⟩
  · have hkd := hV.2.2.2.2.1 (f / 8) (by omega) (by omega)
    unfold isC wC
    rw [addO_oth (i := 6 + f / 8) (by omega) (by omega), addO_oth (by omega) (by omega)]
  · unfold isC wC
    rw [(ed j a b).1, (ed j a b).2, en, addO_oth (by omega) (by omega)]
  · have hkd := hV.2.2.2.2.1 (f / 8) (by omega) (by omega)
    unfold isS wS
    rw [addO_oth (i := 6 + f / 8) (by omega) (by omega), addO_oth (by omega) (by omega)]
  · unfold isS wS
    rw [(ed j a b).1, (ed j a b).2, en, addO_oth (by omega) (by omega)]
theorem mk_bd (ρ : Rw) (b k : Int) : 0 ≤ mk ρ b k ∧ mk ρ b k ≤ 8 := cntI_bd _ (by decide)
theorem VR_addO {ρ : Rw} (hV : VR ρ) (h10 : ρ 0 < 10) {k : Int} (hk : 0 ≤ k) (hk2 : k < 4) (hC : nC ρ + mk ρ 136 k ≤ 12) (hS : nS ρ + mk ρ 168 k ≤ 12) : VR (addO ρ k) ∧ VR (anew (addO ρ k)) := by
  have h0 := hV.1
  obtain ⟨eC, eS⟩ := nCS_addO hV h10 hk hk2
  have e0 := addO_0 ρ k
  have hb := mk_bd ρ 168 k
  have hp := p2_mono (show nS ρ ≤ nS ρ + mk ρ 168 k by omega)
  have v4 := hV.2.2.2.2.2.2.2.2.2.2.2.2.1
  have v5 := hV.2.2.2.2.2.2.2.2.2.2.2.2.2
  have hkd : ∀ o, 0 ≤ o → o < addO ρ k 0 → 0 ≤ addO ρ k (6 + o) ∧ addO ρ k (6 + o) ≤ 3 := fun o a b => by
    rw [e0] at b
    by_cases q : o = ρ 0
    · subst q; rw [addO_new h0.1]; omega
    · rw [addO_oth (by omega) (by omega)]; exact hV.2.2.2.2.1 o a (by omega)
  have hmk : ∀ j, 0 ≤ j → j < 32 → (0 ≤ addO ρ k (136 + j) ∧ addO ρ k (136 + j) ≤ 9) ∧ (0 ≤ addO ρ k (168 + j) ∧ addO ρ k (168 + j) ≤ 1) := fun j a b => by
    rw [addO_oth (by omega) (by omega), addO_oth (by omega) (by omega)]; exact hV.2.2.2.2.2.2.2.2.1 j a b
  refine ⟨VR_mk hV (fun i h => addO_oth (by omega) (by omega)) (by rw [e0]; omega) hkd hmk (by rw [eC]; exact hC) (by rw [eS]; exact hS) ?_ (fun j a b => ?_) ?_ ?_, VR_anew hV (fun i h => addO_oth (by omega) (by omega)) (by rw [e0]; omega) hkd hmk (by rw [eC]; exact hC) (by rw [eS]; exact hS)⟩
  · rw [addO_oth (by omega) (by omega)]; exact hV.2.2.2.1
  · rw [addO_oth (by omega) (by omega)] at b
    have := hV.2.2.2.2.2.2.2.2.2.1 j a b
    rw [eS, addO_oth (by omega) (by omega), addO_oth (by omega) (by omega)]; omega
  · rw [eS, addO_oth (by omega) (by omega)]; omega
  · rw [eS, addO_oth (by omega) (by omega)]; omega
def s_object (σ : St) (k : Int) : Int × St := if k < 0 ∨ 4 ≤ k then (-1, rfs σ (-1)) else if 10 ≤ σ.1 0 ∨ 12 < nC σ.1 + mk σ.1 136 k ∨ 12 < nS σ.1 + mk σ.1 168 k then (-5, rfs σ (-5)) else (σ.1 0, act σ 0 (if 0 < mk σ.1 168 k then anew (addO σ.1 k) else addO σ.1 k))
theorem X_object {σ : St} {M : Mem} (h : XI σ M) (hV : VS σ) {k : Int} (hk : R32 k) : Cal Y_CB_object [vR 0, vI k] M (Qx (s_object σ k) M) := by
  have hr := hV.1
  have eC := XI_nC hr h
  have eS := XI_nS hr h
  have e0 := h.1.n.1
  have h0 := hr.1
  have h10 := hr.2.2.2.2.2.2.2.2.2.2.1
  have h11 := hr.2.2.2.2.2.2.2.2.2.2.2.1
  have hnS := nS_nn hr.1.1
  have hnC := nC_nn hr.1.1
  have hb1 := mk_bd σ.1 136 k
  have hb2 := mk_bd σ.1 168 k
  refine Cal.mk (y := Y_CB_object) (loc := [vR 0, vI k, vN, vN]) G_CB_object rfl (by decide) rfl rfl (Nat.le_of_ble_eq_true rfl) ?_
  simp only [r_CB_object_0, r_CB_object_1, r_CB_object_2, r_CB_object_5, r_CB_object_8, r_CB_object_9, r_CB_object_12, r_CB_object_13, r_CB_object_16, r_CB_object_17, r_CB_object_18, r_CB_object_21, r_CB_object_22, r_CB_object_23, r_CB_object_26, r_CB_object_29, true_and, and_true, or_true, true_or, or_false, false_or, false_and, and_false, not_true_eq_false, not_false_eq_true, implies_true, true_implies, false_implies]
  refine out_eq hk R4 (fun q => Qx.ref h (Or.inl rfl) (if_pos q)) (fun q => ?_)
  have es : s_object σ k = if 10 ≤ σ.1 0 ∨ 12 < nC σ.1 + mk σ.1 136 k ∨ 12 < nS σ.1 + mk σ.1 168 k then (-5, rfs σ (-5)) else (σ.1 0, act σ 0 (if 0 < mk σ.1 168 k then anew (addO σ.1 k) else addO σ.1 k)) := if_neg q
  refine Cal.I (marksOf_s_5 hr h.1 (by omega) (by omega)) ?_
  simp only [r_CB_object_32, r_CB_object_33, r_CB_object_34, r_CB_object_37, r_CB_object_38, r_CB_object_39, r_CB_object_42, r_CB_object_45, true_and, and_true, or_true, true_or, or_false, false_or, false_and, and_false, not_true_eq_false, not_false_eq_true, implies_true, true_implies, false_implies]
  refine Cal.I (marksOf_s_6 hr h.1 (by omega) (by omega)) ?_
  simp only [r_CB_object_48, r_CB_object_49, r_CB_object_50, r_CB_object_53, r_CB_object_56, r_CB_object_58, r_CB_object_61, r_CB_object_62, r_CB_object_65, r_CB_object_68, r_CB_object_69, r_CB_object_70, r_CB_object_72, r_CB_object_75, r_CB_object_76, r_CB_object_79, r_CB_object_82, r_CB_object_83, r_CB_object_84, r_CB_object_86, r_CB_object_89, r_CB_object_90, r_CB_object_93, r_CB_object_95, r_CB_object_98, r_CB_object_99, r_CB_object_100, r_CB_object_101, true_and, and_true, or_true, true_or, or_false, false_or, false_and, and_false, not_true_eq_false, not_false_eq_true, implies_true, true_implies, false_implies, e0, eC, eS]
  refine ⟨r32 (by omega) (by omega), r32 (by decide) (by decide), fun q1 => Qx.ref h (Or.inr (Or.inr (Or.inr rfl))) (es.trans (if_pos (Or.inl (by omega)))), fun q1 => ?_⟩
  refine ⟨r32 (by omega) (by omega), r32 (by decide) (by decide), fun q2 => Qx.ref h (Or.inr (Or.inr (Or.inr rfl))) (es.trans (if_pos (Or.inr (Or.inl (by omega))))), fun q2 => ?_⟩
  refine ⟨r32 (by omega) (by omega), r32 (by decide) (by decide), fun q3 => ?_, fun q3 => Qx.ref h (Or.inr (Or.inr (Or.inr rfl))) (es.trans (if_pos (Or.inr (Or.inr (by omega)))))⟩
  rw [es, if_neg (by omega)]
  obtain ⟨hV1, hV2⟩ := VR_addO hr (k := k) (by omega) (by omega) (by omega) (by omega) (by omega)
  obtain ⟨nC1, nS1⟩ := nCS_addO hr (k := k) (by omega) (by omega) (by omega)
  refine (X_begin h 0).mono ?_
  rintro v M1 ⟨rfl, x1, k1⟩
  simp only [r_CB_object_104, r_CB_object_105, r_CB_object_108, r_CB_object_109, true_and, and_true, or_true, true_or, or_false, false_or, false_and, and_false, not_true_eq_false, not_false_eq_true, implies_true, true_implies, false_implies]
  refine (addObject_s (ρ := σ.1) x1.1 h0.1 (by omega)).mono ?_
  rintro v M2 ⟨rfl, X2, k2⟩
  simp only [r_CB_object_112, r_CB_object_113, true_and, and_true, or_true, true_or, or_false, false_or, false_and, and_false, not_true_eq_false, not_false_eq_true, implies_true, true_implies, false_implies]
  refine (settle_s hV1 X2).mono ?_
  rintro v M3 ⟨rfl, R1, R2, hc, k3⟩
  have X3 := X2.kp k3 (fun c a b => by omega)
  have k13 : Kp (fun c => (1 ≤ c ∧ c ≤ 8) ∨ (97 ≤ c ∧ c ≤ 104) ∨ c = 111) M1 M3 := (k2.sub (fun c z => by omega)).trans (k3.sub (fun c z => by omega))
  have en : M3.1 101 0 = nS (addO σ.1 k) := by
    rw [R2.1, ← nS_tau hV1]; unfold nS; rw [tau_lo (by decide) (by decide)]
  simp only [r_CB_object_116, r_CB_object_117, r_CB_object_120, r_CB_object_121, true_and, and_true, or_true, true_or, or_false, false_or, false_and, and_false, not_true_eq_false, not_false_eq_true, implies_true, true_implies, false_implies]
  refine ⟨r32 (by omega) (by omega), fun q4 => ?_, fun q4 => ?_⟩
  · rw [if_neg (by omega)]
    simp only [r_CB_object_124, r_CB_object_125, r_CB_object_128, r_CB_object_131, r_CB_object_132, r_CB_object_133, true_and, and_true, or_true, true_or, or_false, false_or, false_and, and_false, not_true_eq_false, not_false_eq_true, implies_true, true_implies, false_implies, X3.n.1, addO_0]
    refine ⟨by rw [show σ.1 0 + 1 - 1 = σ.1 0 by omega], x1.new (M2 := M3) X3 R1 R2 (hc _) k13, (k1.sub (fun c z => by unfold KX; omega)).trans (k13.sub (fun c z => by unfold KX; omega))⟩
  · rw [if_pos (by omega)]
    refine (startBookAnew_s X3 en (nS_nn hV1.1.1) (by omega)).mono ?_
    rintro v M4 ⟨rfl, X4, k4⟩
    have k14 := k13.trans (k4.sub (fun c z => by omega))
    have e4 : anew (addO σ.1 k) 0 = σ.1 0 + 1 := by rw [anew_oth (by decide), addO_0]
    simp only [r_CB_object_124, r_CB_object_125, r_CB_object_128, r_CB_object_131, r_CB_object_132, r_CB_object_133, true_and, and_true, or_true, true_or, or_false, false_or, false_and, and_false, not_true_eq_false, not_false_eq_true, implies_true, true_implies, false_implies, X4.n.1, e4]
    refine ⟨by rw [show σ.1 0 + 1 - 1 = σ.1 0 by omega], x1.new (M2 := M3) X4 ?_ ?_ ?_ k14, (k1.sub (fun c z => by unfold KX; omega)).trans (k14.sub (fun c z => by unfold KX; omega))⟩
    · rw [tau_anew, e4, ← addO_0 σ.1 k]; exact R1.kp k4 (fun c a b => by omega)
    · rw [tau_anew, e4, ← addO_0 σ.1 k]; exact R2.kp k4 (fun c a b => by omega)
    · exact (hc _).kp k4 (fun c a b => by omega)
