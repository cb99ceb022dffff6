/-! the reference: codes; time, spread, code -/
theorem Qm.q {σ : St} {M M' : Mem} {x q : Int} (h : MI σ M') (hk : Kp KM M M') (e : x = q) : Qm (q, σ) M (some (vI x)) M' := ⟨by rw [e], h, hk⟩
theorem KR.of {P : Nat → Prop} {M M' : Mem} (h : Kp P M M') (hP : ∀ c, P c → 149 ≤ c) : KR M M' := ⟨h.sub (fun c z => Or.inr (hP c z)), by rw [h.at (fun z => by have := hP _ z; omega)], by rw [h.at (fun z => by have := hP _ z; omega)]⟩
theorem NU.of {P : Nat → Prop} {ρ : Rw} {M M' : Mem} (h : NU ρ M) (hk : Kp P M M') (hP : ∀ c, P c → 153 ≤ c) : NU ρ M' := h.kp hk (fun c a b z => by have := hP _ z; omega) (by rw [hk.at (fun z => by have := hP _ z; omega)]) (by rw [hk.at (fun z => by have := hP _ z; omega)])
theorem NT.of {P : Nat → Prop} {ρ : Rw} {M M' : Mem} (h : NT ρ M) (hk : Kp P M M') (hP : ∀ c, P c → 153 ≤ c) : NT ρ M' := h.kp hk (fun c a b z => by have := hP _ z; omega) (by rw [hk.at (fun z => by have := hP _ z; omega)]) (by rw [hk.at (fun z => by have := hP _ z; omega)])
theorem rsignTime_s {τ : Rw} (hV : VR τ) {M : Mem} (hN : NT τ M) {s : Int} (s0 : 0 ≤ s) (s1 : s < nS τ) : Cal Y_RM_signTime [vR 141, vI s] M (fun r M' => r = some (vI (M.1 153 (sf τ s))) ∧ M' = M) := by
  have hs := nS_bd hV
  have h0 := hV.1
  have hk := kth_sp (p := isS τ) (n := 8 * τ 0) (by omega) s0 s1
  have hf : 0 ≤ sf τ s ∧ sf τ s < 8 * τ 0 := ⟨hk.1, hk.2.1⟩
  refine Cal.mk (y := Y_RM_signTime) (loc := [vR 141, vI s]) G_RM_signTime rfl (by decide) rfl rfl (Nat.le_of_ble_eq_true rfl) ?_
  simp only [r_RM_signTime_0, r_RM_signTime_1, r_RM_signTime_2, r_RM_signTime_5, r_RM_signTime_6, r_RM_signTime_7, r_RM_signTime_8, r_RM_signTime_11, r_RM_signTime_12, r_RM_signTime_13, r_RM_signTime_16, true_and, and_true, or_true, true_or, or_false, false_or, false_and, and_false, not_true_eq_false, not_false_eq_true, implies_true, true_implies, false_implies]
  rw [(hN.2.2.2 s s0 s1).1, (hN.2.2.2 s s0 s1).2]
  refine ⟨s0, by omega, s0, by omega, ?_⟩
  have e : 8 * (sf τ s / 8) + sf τ s % 8 = sf τ s := by omega
  refine Cal.I (rtimeOf_s M (by omega) (by omega) (by omega) (by omega)) ?_
  rw [e]; exact ⟨rfl, rfl⟩
theorem signsOf_s {τ : Rw} (hV : VR τ) {S : Int} {M : Mem} (hN : NT τ M) (hF : ∀ g, 0 ≤ g → g < 80 → M.1 153 g = sp τ (-1) S g) : Cal Y_RM_signsOf [vR 141] M (fun r M' => r = some (vI (cod τ (-1) S)) ∧ M' = M) := by
  have hs := nS_bd hV
  refine Cal.mk (y := Y_RM_signsOf) (loc := [vR 141, vN, vN]) G_RM_signsOf rfl (by decide) rfl rfl (Nat.le_of_ble_eq_true rfl) ?_
  simp only [r_RM_signsOf_0, r_RM_signsOf_1, r_RM_signsOf_2, r_RM_signsOf_3, true_and, and_true, or_true, true_or, or_false, false_or, false_and, and_false, not_true_eq_false, not_false_eq_true, implies_true, true_implies, false_implies]
  refine up_loop (lo := 0) (hi := nS τ) (P := fun s => Run C_RM_signsOf (fun r M' => r = some (vI (cod τ (-1) S)) ∧ M' = M) 4 [vR 141, vI (bsI (fun s => decide (sp τ (-1) S (sf τ s) < 1000000)) s), vI s] [] M) (fun s s0 sn ih => ?_) hs.1
  have hb := bsI_bd (fun s => decide (sp τ (-1) S (sf τ s) < 1000000)) s
  have hp := p2_12 (show s ≤ 12 by omega)
  rw [r_RM_signsOf_4]
  simp only [r_RM_signsOf_5, r_RM_signsOf_6, r_RM_signsOf_9, r_RM_signsOf_12, r_RM_signsOf_13, r_RM_signsOf_14, r_RM_signsOf_15, r_RM_signsOf_18, r_RM_signsOf_20, r_RM_signsOf_23, r_RM_signsOf_24, r_RM_signsOf_25, r_RM_signsOf_26, r_RM_signsOf_29, r_RM_signsOf_30, r_RM_signsOf_31, r_RM_signsOf_32, r_RM_signsOf_35, r_RM_signsOf_38, r_RM_signsOf_39, true_and, and_true, or_true, true_or, or_false, false_or, false_and, and_false, not_true_eq_false, not_false_eq_true, implies_true, true_implies, false_implies, hN.2.1, p2_def]
  refine ⟨r32 (by omega) (by omega), r32 (by omega) (by omega), fun q => ?_, fun q => ?_⟩
  · rw [show s = nS τ by omega]; rfl
  · have hf := sf_bd hV s0 (by omega)
    have hsn := sp_nn hV (-1) S hf.1 hf.2
    have hih := ih (by omega)
    rw [bsI_s s0 (by omega)] at hih
    refine Cal.I (rsignTime_s hV hN s0 (by omega)) ?_
    rw [hF _ hf.1 hf.2]
    refine ⟨r32 (by omega) (by omega), r32 (by decide) (by decide), fun q2 => ?_, fun q2 => ⟨⟨s0, by omega⟩, ?_⟩⟩
    · rw [if_neg (by rw [decide_eq_true_eq]; omega)] at hih
      rw [ior_0 hb.1 (by omega)]; exact hih
    · rw [if_pos (by rw [decide_eq_true_eq]; omega)] at hih
      exact hih
theorem codeOf_s {τ : Rw} (hV : VR τ) {S : Int} (S0 : 0 ≤ S) (S1 : S < 4096) {M : Mem} (hT : RT τ M) (hN : NT τ M) : Cal Y_RM_codeOf [vR 141, vI S] M (fun r M' => r = some (vI (cod τ (-1) S)) ∧ (∀ g, 0 ≤ g → g < 80 → M'.1 153 g = sp τ (-1) S g) ∧ Kp (fun c => c = 153) M M') := by
  refine Cal.mk (y := Y_RM_codeOf) (loc := [vR 141, vI S]) G_RM_codeOf rfl (by decide) rfl rfl (Nat.le_of_ble_eq_true rfl) ?_
  simp only [r_RM_codeOf_0, r_RM_codeOf_1, r_RM_codeOf_2, true_and, and_true, or_true, true_or, or_false, false_or, false_and, and_false, not_true_eq_false, not_false_eq_true, implies_true, true_implies, false_implies]
  refine (spreadOf_s hV S0 S1 hT hN).mono ?_
  rintro _ M1 ⟨rfl, f1, k1⟩
  simp only [r_RM_codeOf_5, r_RM_codeOf_6, r_RM_codeOf_9, true_and, and_true, or_true, true_or, or_false, false_or, false_and, and_false, not_true_eq_false, not_false_eq_true, implies_true, true_implies, false_implies]
  exact Cal.I (signsOf_s hV (hN.of k1 (fun c z => by omega)) f1) ⟨rfl, f1, k1⟩
/-- the reference has its codes at hand -/
def LC (ρ : Rw) (M : Mem) : Prop := ∀ c, 0 ≤ c → c < nC ρ → M.1 154 c = gC ρ c
def ML (σ : St) (M : Mem) : Prop := MI σ M ∧ NU σ.1 M ∧ LC σ.1 M
theorem layCodes_s {ρ : Rw} (hV : VR ρ) {M : Mem} (hR : RR ρ M) : Cal Y_RM_layCodes [vR 141] M (fun r M' => r = none ∧ NU ρ M' ∧ LC ρ M' ∧ KR M M' ∧ Kp (fun c => c = 141 ∨ (149 ≤ c ∧ c ≤ 154)) M M' ∧ ∀ i, ¬ i = 12 → ¬ i = 15 → M'.1 141 i = M.1 141 i) := by
  have hc := nC_bd hV
  have hT := VR_tau hV
  refine Cal.mk (y := Y_RM_layCodes) (loc := [vR 141, vN]) G_RM_layCodes rfl (by decide) rfl rfl (Nat.le_of_ble_eq_true rfl) ?_
  simp only [r_RM_layCodes_0, r_RM_layCodes_1, true_and, and_true, or_true, true_or, or_false, false_or, false_and, and_false, not_true_eq_false, not_false_eq_true, implies_true, true_implies, false_implies]
  refine (number_s hV hR.q).mono ?_
  rintro _ M1 ⟨rfl, n1, k1, kk1, f1⟩
  simp only [r_RM_layCodes_4, r_RM_layCodes_5, true_and, and_true, or_true, true_or, or_false, false_or, false_and, and_false, not_true_eq_false, not_false_eq_true, implies_true, true_implies, false_implies]
  refine up_loop (lo := 0) (hi := nC ρ) (P := fun c => ∀ M2, Kp (fun c => c = 153 ∨ c = 154) M1 M2 → (∀ c', 0 ≤ c' → c' < c → M2.1 154 c' = gC ρ c') → Run C_RM_layCodes (fun r M' => r = none ∧ NU ρ M' ∧ LC ρ M' ∧ KR M M' ∧ Kp (fun c => c = 141 ∨ (149 ≤ c ∧ c ≤ 154)) M M' ∧ ∀ i, ¬ i = 12 → ¬ i = 15 → M'.1 141 i = M.1 141 i) 6 [vR 141, vI c] [] M2) (fun c c0 cn ih M2 k2 l2 => ?_) hc.1 M1 Kp.rf (fun c' a b => by omega)
  have N2 := n1.of k2 (fun c z => by omega)
  have R2 : RR ρ M2 := fun i a b => by rw [k2.at (by decide)]; exact k1.rr hR i a b
  rw [r_RM_layCodes_6]
  simp only [r_RM_layCodes_7, r_RM_layCodes_8, r_RM_layCodes_11, r_RM_layCodes_14, r_RM_layCodes_15, r_RM_layCodes_18, r_RM_layCodes_19, r_RM_layCodes_20, r_RM_layCodes_21, r_RM_layCodes_22, r_RM_layCodes_23, r_RM_layCodes_26, r_RM_layCodes_27, r_RM_layCodes_30, true_and, and_true, or_true, true_or, or_false, false_or, false_and, and_false, not_true_eq_false, not_false_eq_true, implies_true, true_implies, false_implies, N2.1, p2_def]
  refine ⟨r32 (by omega) (by omega), r32 (by omega) (by omega), fun q => ?_, fun q => ⟨⟨c0, by omega⟩, ?_⟩⟩
  · simp only [r_RM_layCodes_33, true_and, and_true, or_true, true_or, or_false, false_or, false_and, and_false, not_true_eq_false, not_false_eq_true, implies_true, true_implies, false_implies]
    rw [show c = nC ρ by omega] at l2
    exact ⟨N2, l2, k1.trans (KR.of k2 (fun c z => by omega)), (kk1.sub (fun c z => by omega)).trans (k2.sub (fun c z => by omega)), fun i x y => by rw [k2.at (by decide)]; exact f1 i x y⟩
  · have hp := p2_mono (show c ≤ 11 by omega)
    have hp' : p2 11 = 2048 := by decide
    have hq := p2_pos c
    refine (codeOf_s hT (S := p2 c) (by omega) (by omega) R2.t (N2.t hV)).mono ?_
    rintro _ M3 ⟨rfl, -, k3⟩
    refine ⟨_, rfl, c0, by omega, ih (by omega) _ (Kp.w (k2.trans (k3.sub (fun c z => Or.inl z))) (Or.inr rfl)) (fun c' a b => ?_)⟩
    rw [wI_at]
    by_cases z : c' = c
    · rw [if_pos ⟨rfl, z⟩, z]; rfl
    · rw [if_neg (fun w => z w.2), k3.at (by decide)]; exact l2 c' a (by omega)
theorem M_layCodes {σ : St} (hV : VS σ) {M : Mem} (h : MI σ M) : Cal Y_RM_layCodes [vR 141] M (fun r M' => r = none ∧ ML σ M' ∧ KR M M') := by
  refine (layCodes_s hV.1 h.1).mono ?_
  rintro _ M' ⟨rfl, a, b, c, -, -⟩
  exact ⟨rfl, ⟨h.kr c, a, b⟩, c⟩
theorem M_areCauses {σ : St} (hV : VS σ) {M : Mem} (h : MI σ M) {v : Int} (hv : R32 v) : Cal Y_RM_areCauses [vR 141, vI v] M (fun r M' => r = some (vI (if 0 ≤ v ∧ v ≤ p2 (nC σ.1) - 1 then 1 else 0)) ∧ NU σ.1 M' ∧ MI σ M' ∧ KR M M') := by
  have hs := nC_bd hV.1
  have hp := p2_12 hs.2
  have hq := p2_pos (nC σ.1)
  refine Cal.mk (y := Y_RM_areCauses) (loc := [vR 141, vI v]) G_RM_areCauses rfl (by decide) rfl rfl (Nat.le_of_ble_eq_true rfl) ?_
  simp only [r_RM_areCauses_0, r_RM_areCauses_1, true_and, and_true, or_true, true_or, or_false, false_or, false_and, and_false, not_true_eq_false, not_false_eq_true, implies_true, true_implies, false_implies]
  refine (M_number hV h).mono ?_
  rintro _ M1 ⟨rfl, n1, h1, k1⟩
  simp only [r_RM_areCauses_4, r_RM_areCauses_5, r_RM_areCauses_6, r_RM_areCauses_7, r_RM_areCauses_8, r_RM_areCauses_9, r_RM_areCauses_12, r_RM_areCauses_13, r_RM_areCauses_14, r_RM_areCauses_15, r_RM_areCauses_18, true_and, and_true, or_true, true_or, or_false, false_or, false_and, and_false, not_true_eq_false, not_false_eq_true, implies_true, true_implies, false_implies, n1.1, p2_def]
  refine ⟨hv, ⟨hs.1, by omega⟩, (in_s M1 hv.l (l64 (by decide) (by decide)) (l64 (by omega) (by omega))).mono ?_⟩
  rintro _ M' ⟨rfl, rfl⟩
  exact ⟨_, rfl, ite01, rfl, n1, h1, k1⟩
theorem M_isCause {σ : St} (hV : VS σ) {M : Mem} (h : MI σ M) {v : Int} (hv : R32 v) : Cal Y_RM_isCause [vR 141, vI v] M (fun r M' => r = some (vI (if 0 ≤ v ∧ v ≤ nC σ.1 - 1 then 1 else 0)) ∧ NU σ.1 M' ∧ MI σ M' ∧ KR M M') := by
  have hs := nC_bd hV.1
  refine Cal.mk (y := Y_RM_isCause) (loc := [vR 141, vI v]) G_RM_isCause rfl (by decide) rfl rfl (Nat.le_of_ble_eq_true rfl) ?_
  simp only [r_RM_isCause_0, r_RM_isCause_1, true_and, and_true, or_true, true_or, or_false, false_or, false_and, and_false, not_true_eq_false, not_false_eq_true, implies_true, true_implies, false_implies]
  refine (M_number hV h).mono ?_
  rintro _ M1 ⟨rfl, n1, h1, k1⟩
  simp only [r_RM_isCause_4, r_RM_isCause_5, r_RM_isCause_6, r_RM_isCause_7, r_RM_isCause_8, r_RM_isCause_11, r_RM_isCause_12, r_RM_isCause_13, r_RM_isCause_14, r_RM_isCause_17, true_and, and_true, or_true, true_or, or_false, false_or, false_and, and_false, not_true_eq_false, not_false_eq_true, implies_true, true_implies, false_implies, n1.1]
  refine ⟨hv, r32 (by omega) (by omega), (in_s M1 hv.l (l64 (by decide) (by decide)) (l64 (by omega) (by omega))).mono ?_⟩
  rintro _ M' ⟨rfl, rfl⟩
  exact ⟨_, rfl, ite01, rfl, n1, h1, k1⟩
theorem M_spreadOf {σ : St} (hV : VS σ) {M : Mem} (h : MI σ M) (hN : NU σ.1 M) {S : Int} (S0 : 0 ≤ S) (S1 : S < 4096) : Cal Y_RM_spreadOf [vR 141, vI S] M (fun r M' => r = none ∧ MI σ M' ∧ NU σ.1 M' ∧ (∀ g, 0 ≤ g → g < 80 → M'.1 153 g = sp (tau σ.1) (-1) S g) ∧ KR M M' ∧ Kp (fun c => c = 153) M M') := by
  refine (spreadOf_s (VR_tau hV.1) S0 S1 h.1.t (hN.t hV.1)).mono ?_
  rintro _ M' ⟨rfl, a, b⟩
  have kr := KR.of b (fun c z => by omega)
  exact ⟨rfl, h.kr kr, hN.of b (fun c z => by omega), a, kr, b⟩
theorem M_code {σ : St} {M : Mem} (h : MI σ M) (hV : VS σ) {v : Int} (hv : R32 v) : Cal Y_RM_code [vR 141, vI v] M (Qm (q_code σ.1 v, σ) M) := by
  have hp := p2_12 (nC_bd hV.1).2
  have ⟨h0, k0⟩ := th0 h
  refine Cal.mk (y := Y_RM_code) (loc := [vR 141, vI v]) G_RM_code rfl (by decide) rfl rfl (Nat.le_of_ble_eq_true rfl) ?_
  simp only [r_RM_code_0, r_RM_code_1, r_RM_code_2, r_RM_code_5, r_RM_code_6, r_RM_code_7, r_RM_code_10, r_RM_code_13, r_RM_code_14, r_RM_code_15, r_RM_code_18, r_RM_code_21, r_RM_code_22, true_and, and_true, or_true, true_or, or_false, false_or, false_and, and_false, not_true_eq_false, not_false_eq_true, implies_true, true_implies, false_implies]
  refine (M_areCauses hV h0 hv).Be' (fun q M1 ⟨n1, h1, k1⟩ => ?_) (fun q M1 ⟨n1, h1, k1⟩ => Qm.q h1 (k0.trans k1.m) (by unfold q_code; rw [if_pos (by omega)]))
  refine (codeOf_s (VR_tau hV.1) (S := v) (by omega) (by omega) h1.1.t (n1.t hV.1)).mono ?_
  rintro _ M2 ⟨rfl, -, k2⟩
  have kr := KR.of k2 (fun c z => by omega)
  exact ⟨_, rfl, Qm.q (h1.kr kr) ((k0.trans k1.m).trans kr.m) (by unfold q_code; rw [if_neg (by omega)])⟩
theorem M_time {σ : St} {M : Mem} (h : MI σ M) (hV : VS σ) {v o e : Int} (hv : R32 v) (ho : R32 o) (he : R32 e) : Cal Y_RM_time [vR 141, vI v, vI o, vI e] M (Qm (q_time σ.1 v o e, σ) M) := by
  have hp := p2_12 (nC_bd hV.1).2
  have h00 := hV.1.1
  have ⟨h0, k0⟩ := th0 h
  refine Cal.mk (y := Y_RM_time) (loc := [vR 141, vI v, vI o, vI e, vN]) G_RM_time rfl (by decide) rfl rfl (Nat.le_of_ble_eq_true rfl) ?_
  simp only [r_RM_time_0, r_RM_time_1, r_RM_time_2, r_RM_time_5, r_RM_time_6, r_RM_time_7, r_RM_time_10, r_RM_time_13, r_RM_time_14, r_RM_time_15, r_RM_time_18, r_RM_time_21, r_RM_time_22, r_RM_time_23, r_RM_time_24, r_RM_time_27, r_RM_time_30, r_RM_time_33, r_RM_time_34, r_RM_time_35, r_RM_time_36, r_RM_time_37, true_and, and_true, or_true, true_or, or_false, false_or, false_and, and_false, not_true_eq_false, not_false_eq_true, implies_true, true_implies, false_implies]
  refine (M_areCauses hV h0 hv).Be' (fun q M1 ⟨n1, h1, k1⟩ => ?_) (fun q M1 ⟨n1, h1, k1⟩ => Qm.q h1 (k0.trans k1.m) (by unfold q_time; rw [if_pos (by omega)]))
  refine (isObject_s hV.1 h1.1 ho).Be (fun q1 => ⟨he, in_n he.l (l64 (by decide) (by decide)) (l64 (by decide) (by decide)) (fun q2 => ?_) (fun q2 => Qm.q h1 (k0.trans k1.m) (by unfold q_time; rw [if_pos (by omega)]))⟩) (fun q1 => Qm.q h1 (k0.trans k1.m) (by unfold q_time; rw [if_pos (by omega)]))
  refine (M_spreadOf hV h1 n1 (by omega) (by omega)).mono ?_
  rintro _ M2 ⟨rfl, h2, n2, f2, k2, -⟩
  have kk := (k0.trans k1.m).trans k2.m
  have ee : q_time σ.1 v o e = if sp (tau σ.1) (-1) v (8 * o + e) = 1000000 then -2 else sp (tau σ.1) (-1) v (8 * o + e) := if_neg (by omega)
  simp only [r_RM_time_40, r_RM_time_41, r_RM_time_42, r_RM_time_43, true_and, and_true, or_true, true_or, or_false, false_or, false_and, and_false, not_true_eq_false, not_false_eq_true, implies_true, true_implies, false_implies]
  refine Cal.I (rtimeOf_s M2 (by omega) (by omega) (by omega) (by omega)) ?_
  rw [f2 _ (by omega) (by omega)]
  have hb := sp_nn (VR_tau hV.1) (-1) v (f := 8 * o + e) (by omega) (by omega)
  simp only [r_RM_time_46, r_RM_time_48, r_RM_time_50, r_RM_time_52, r_RM_time_55, r_RM_time_57, r_RM_time_60, r_RM_time_62, true_and, and_true, or_true, true_or, or_false, false_or, false_and, and_false, not_true_eq_false, not_false_eq_true, implies_true, true_implies, false_implies]
  refine ⟨r32 (by omega) (by omega), r32 (by decide) (by decide), fun q3 => Qm.q h2 kk (by rw [ee, if_pos (by omega)]), fun q3 => Qm.q h2 kk (by rw [ee, if_neg (by omega)])⟩
theorem ior_idem {a b : Int} (a0 : 0 ≤ a) (a1 : a < 1073741824) (b0 : 0 ≤ b) (b1 : b < 1073741824) : ior (ior a b) b = ior a b := by
  have e30 : (2 : Int) ^ 30 = 1073741824 := by decide
  have h1 := ior_bd (n := 30) (by decide) a0 (by omega) b0 (by omega)
  rw [e30] at h1
  have h2 := ior_bd (n := 30) (by decide) h1.1 (by omega) b0 (by omega)
  apply bit_ext h2.1 h1.1
  intro i hi
  rw [bit_ior h1.1 (by omega) b0 (by omega), bit_ior a0 (by omega) b0 (by omega)]
  cases bit a i <;> cases bit b i <;> rfl
theorem rulesBy_s {τ : Rw} (hV : VR τ) {S : Int} {M : Mem} (hT : RT τ M) (hF : ∀ g, 0 ≤ g → g < 80 → M.1 153 g = sp τ (-1) S g) : Cal Y_RM_rulesBy [vR 141] M (fun r M' => r = some (vI (bsI (fun r => dec (brg τ (-1) S r)) (τ 2))) ∧ M' = M) := by
  have h0 := hV.1
  have h2 := hV.2.2.1
  have e0 : M.1 144 0 = τ 0 := hT _ (by omega)
  have e2 : M.1 144 2 = τ 2 := hT _ (by omega)
  have hB : ∀ g, 0 ≤ g → g < 80 → 0 ≤ M.1 153 g ∧ M.1 153 g ≤ 1000000 := fun g a b => by rw [hF g a b]; exact sp_nn hV (-1) S a b
  have hBr : ∀ r o t, 0 ≤ r → r < τ 2 → 0 ≤ o → o < τ 0 → (Br τ (-1) (M.1 153) r o t ↔ Br τ (-1) (sp τ (-1) S) r o t) := fun r o t a b c d =>
    ⟨fun z => z.loc hV a b c d (fun f x y _ => Int.le_of_eq (hF f x y).symm), fun z => z.loc hV a b c d (fun f x y _ => Int.le_of_eq (hF f x y))⟩
  refine Cal.mk (y := Y_RM_rulesBy) (loc := [vR 141, vN, vN, vN, vN]) G_RM_rulesBy rfl (by decide) rfl rfl (Nat.le_of_ble_eq_true rfl) ?_
  simp only [r_RM_rulesBy_0, r_RM_rulesBy_1, r_RM_rulesBy_2, r_RM_rulesBy_3, true_and, and_true, or_true, true_or, or_false, false_or, false_and, and_false, not_true_eq_false, not_false_eq_true, implies_true, true_implies, false_implies]
  refine up_loop (lo := 0) (hi := τ 2) (P := fun r => ∀ l3 l4, Run C_RM_rulesBy (fun r M' => r = some (vI (bsI (fun r => dec (brg τ (-1) S r)) (τ 2))) ∧ M' = M) 4 [vR 141, vI (bsI (fun r => dec (brg τ (-1) S r)) r), vI r, l3, l4] [] M) (fun r r0 rn ih l3 l4 => ?_) h2.1 _ _
  rw [r_RM_rulesBy_4]
  simp only [r_RM_rulesBy_5, r_RM_rulesBy_6, r_RM_rulesBy_9, r_RM_rulesBy_10, r_RM_rulesBy_11, r_RM_rulesBy_14, r_RM_rulesBy_15, true_and, and_true, or_true, true_or, or_false, false_or, false_and, and_false, not_true_eq_false, not_false_eq_true, implies_true, true_implies, false_implies, e2]
  refine ⟨by decide, by decide, r32 (by omega) (by omega), r32 (by omega) (by omega), fun q => ?_, fun q => ?_⟩
  · simp only [r_RM_rulesBy_78, r_RM_rulesBy_79, true_and, and_true, or_true, true_or, or_false, false_or, false_and, and_false, not_true_eq_false, not_false_eq_true, implies_true, true_implies, false_implies]
    rw [show r = τ 2 by omega]
  · have hv := hV.2.2.2.2.2.2.2.1 r r0 (by omega)
    have hb := bsI_bd (fun r => dec (brg τ (-1) S r)) r
    have hp := p2_12 (show r ≤ 12 by omega)
    have hp0 := p2_pos r
    have hr12 : p2 r < 4096 := by
      have := p2_lt r0 (show r < 12 by omega)
      have e : p2 12 = 4096 := by decide
      omega
    have hi := ior_bd (n := 12) (by decide) hb.1 (show bsI (fun r => dec (brg τ (-1) S r)) r < 4096 by omega) (show 0 ≤ p2 r by omega) hr12
    let G := fun (o : Int) => ∃ p, 0 ≤ p ∧ p < o ∧ sp τ (-1) S (8 * p + τ (79 + 5 * r) % 8) < 1000000 ∧ Br τ (-1) (sp τ (-1) S) r p (sp τ (-1) S (8 * p + τ (79 + 5 * r) % 8))
    refine up_loop (lo := 0) (hi := τ 0) (P := fun o => ∀ set l4, ((G o ∧ set = ior (bsI (fun r => dec (brg τ (-1) S r)) r) (p2 r)) ∨ (¬ G o ∧ set = bsI (fun r => dec (brg τ (-1) S r)) r)) → Run C_RM_rulesBy (fun r M' => r = some (vI (bsI (fun r => dec (brg τ (-1) S r)) (τ 2))) ∧ M' = M) 16 [vR 141, vI set, vI r, vI o, l4] [] M) (fun o o0 on iho set l4 hset => ?_) h0.1 (bsI (fun r => dec (brg τ (-1) S r)) r) l4 (Or.inr ⟨fun ⟨p, a, b, _⟩ => by omega, rfl⟩)
    rw [r_RM_rulesBy_16]
    simp only [r_RM_rulesBy_17, r_RM_rulesBy_18, r_RM_rulesBy_21, r_RM_rulesBy_22, r_RM_rulesBy_23, r_RM_rulesBy_26, r_RM_rulesBy_27, r_RM_rulesBy_28, r_RM_rulesBy_29, true_and, and_true, or_true, true_or, or_false, false_or, false_and, and_false, not_true_eq_false, not_false_eq_true, implies_true, true_implies, false_implies, e0]
    refine ⟨by decide, by decide, r32 (by omega) (by omega), r32 (by omega) (by omega), fun q2 => ?_, fun q2 => ?_⟩
    · simp only [r_RM_rulesBy_72, r_RM_rulesBy_75, true_and, and_true, or_true, true_or, or_false, false_or, false_and, and_false, not_true_eq_false, not_false_eq_true, implies_true, true_implies, false_implies]
      rw [show o = τ 0 by omega] at hset ⊢
      have hih := ih (by omega) (vI (τ 0)) l4
      rw [bsI_s r0 (by omega)] at hih
      rcases hset with ⟨y, rfl⟩ | ⟨y, rfl⟩
      · rw [if_pos (dec_t (show brg τ (-1) S r from y))] at hih; exact hih
      · rw [if_neg (by rw [dec_iff]; exact y)] at hih; exact hih
    · have hset0 : 0 ≤ set ∧ set < 4096 := by
        rcases hset with ⟨-, rfl⟩ | ⟨-, rfl⟩
        · exact ⟨hi.1, by have := hi.2; omega⟩
        · omega
      refine (brought_s hV hT hB r0 (by omega) o0 (by omega)).mono ?_
      rintro _ M4 ⟨t, rfl, t0, t1, ht, hm⟩
      obtain rfl : M = M4 := hm.symm
      refine ⟨t, rfl, ?_⟩
      have hat := hF (8 * o + τ (79 + 5 * r) % 8) (by omega) (by omega)
      have hsn := sp_nn hV (-1) S (f := 8 * o + τ (79 + 5 * r) % 8) (by omega) (by omega)
      have good : (t < 1000000 ∧ t = sp τ (-1) S (8 * o + τ (79 + 5 * r) % 8)) ↔ (sp τ (-1) S (8 * o + τ (79 + 5 * r) % 8) < 1000000 ∧ Br τ (-1) (sp τ (-1) S) r o (sp τ (-1) S (8 * o + τ (79 + 5 * r) % 8))) := by
        constructor
        · rintro ⟨a, b⟩
          rw [← b]
          exact ⟨a, (hBr r o t r0 (by omega) o0 (by omega)).1 ((ht t a).1 (Int.le_refl _))⟩
        · rintro ⟨a, b⟩
          have h3 := (ht _ a).2 ((hBr r o _ r0 (by omega) o0 (by omega)).2 b)
          have h4 := (sp_clo hV (-1) S).2.2 r o t r0 (by omega) o0 (by omega) (by omega) ((hBr r o t r0 (by omega) o0 (by omega)).1 ((ht t (by omega)).1 (Int.le_refl _)))
          exact ⟨by omega, by omega⟩
      have yes : (t < 1000000 ∧ t = sp τ (-1) S (8 * o + τ (79 + 5 * r) % 8)) → Run C_RM_rulesBy (fun r M' => r = some (vI (bsI (fun r => dec (brg τ (-1) S r)) (τ 2))) ∧ M' = M) 16 [vR 141, vI (ior set (p2 r)), vI r, vI (o + 1), vI t] [] M := fun z => by
        refine iho (by omega) _ _ (Or.inl ⟨⟨o, o0, by omega, good.1 z⟩, ?_⟩)
        rcases hset with ⟨-, rfl⟩ | ⟨-, rfl⟩
        · exact ior_idem hb.1 (by omega) (by omega) (by omega)
        · rfl
      have no : ¬ (t < 1000000 ∧ t = sp τ (-1) S (8 * o + τ (79 + 5 * r) % 8)) → Run C_RM_rulesBy (fun r M' => r = some (vI (bsI (fun r => dec (brg τ (-1) S r)) (τ 2))) ∧ M' = M) 16 [vR 141, vI (ior set 0), vI r, vI (o + 1), vI t] [] M := fun z => by
        rw [ior_0 hset0.1 (by omega)]
        refine iho (by omega) _ _ ?_
        have hG : G (o + 1) ↔ G o := ⟨fun ⟨p, a, b, c⟩ => by
          by_cases w : p = o
          · rw [w] at c; exact absurd (good.2 c) z
          · exact ⟨p, a, by omega, c⟩, fun ⟨p, a, b, c⟩ => ⟨p, a, by omega, c⟩⟩
        rcases hset with ⟨y1, y2⟩ | ⟨y1, y2⟩
        · exact Or.inl ⟨hG.2 y1, y2⟩
        · exact Or.inr ⟨fun w => y1 (hG.1 w), y2⟩
      simp only [r_RM_rulesBy_32, r_RM_rulesBy_34, r_RM_rulesBy_35, r_RM_rulesBy_37, r_RM_rulesBy_39, r_RM_rulesBy_42, r_RM_rulesBy_44, r_RM_rulesBy_45, r_RM_rulesBy_46, r_RM_rulesBy_47, r_RM_rulesBy_48, r_RM_rulesBy_51, r_RM_rulesBy_54, r_RM_rulesBy_57, r_RM_rulesBy_58, r_RM_rulesBy_59, r_RM_rulesBy_60, r_RM_rulesBy_63, r_RM_rulesBy_64, r_RM_rulesBy_65, r_RM_rulesBy_66, r_RM_rulesBy_69, true_and, and_true, or_true, true_or, or_false, false_or, false_and, and_false, not_true_eq_false, not_false_eq_true, implies_true, true_implies, false_implies, p2_def]
      refine ⟨r32 (by omega) (by omega), r32 (by decide) (by decide), fun q3 => no (by omega), fun q3 => ?_⟩
      refine Cal.I (eventBrought_s hV hT r0 (by omega)) (Cal.I (rtimeOf_s M o0 (by omega) (by omega) (by omega)) ?_)
      rw [hat]
      exact ⟨r32 (by omega) (by omega), r32 (by omega) (by omega), fun q4 => no (fun z => q4 z.2), fun q4 => ⟨⟨r0, by omega⟩, yes ⟨by omega, Classical.not_not.1 q4⟩⟩⟩
theorem M_spread {σ : St} {M : Mem} (h : MI σ M) (hV : VS σ) {v w : Int} (hv : R32 v) (hw : R32 w) : Cal Y_RM_spread [vR 141, vI v, vI w] M (Qm (q_spread σ.1 v w, σ) M) := by
  have hp := p2_12 (nC_bd hV.1).2
  have hT := VR_tau hV.1
  have ⟨h0, k0⟩ := th0 h
  refine Cal.mk (y := Y_RM_spread) (loc := [vR 141, vI v, vI w, vN, vN, vN, vN]) G_RM_spread rfl (by decide) rfl rfl (Nat.le_of_ble_eq_true rfl) ?_
  simp only [r_RM_spread_0, r_RM_spread_1, r_RM_spread_2, r_RM_spread_5, r_RM_spread_6, r_RM_spread_7, r_RM_spread_10, r_RM_spread_13, r_RM_spread_14, r_RM_spread_15, r_RM_spread_16, r_RM_spread_19, r_RM_spread_22, r_RM_spread_25, r_RM_spread_26, r_RM_spread_27, r_RM_spread_28, r_RM_spread_29, true_and, and_true, or_true, true_or, or_false, false_or, false_and, and_false, not_true_eq_false, not_false_eq_true, implies_true, true_implies, false_implies]
  refine (M_areCauses hV h0 hv).Be' (fun q M1 ⟨n1, h1, k1⟩ => ?_) (fun q M1 ⟨n1, h1, k1⟩ => Qm.q h1 (k0.trans k1.m) (by unfold q_spread; rw [if_pos (by omega)]))
  refine ⟨hw, in_n hw.l (l64 (by decide) (by decide)) (l64 (by decide) (by decide)) (fun q2 => ?_) (fun q2 => Qm.q h1 (k0.trans k1.m) (by unfold q_spread; rw [if_pos (by omega)]))⟩
  refine (M_spreadOf hV h1 n1 (by omega) (by omega)).mono ?_
  rintro _ M2 ⟨rfl, h2, n2, f2, k2, -⟩
  have kk := (k0.trans k1.m).trans k2.m
  have ee : q_spread σ.1 v w = if w = 0 then cntI (fun g => decide (sp (tau σ.1) (-1) v g < 1000000)) 80 else if w = 1 then foI (laS (sp (tau σ.1) (-1) v)) 0 80 else if w = 2 then pcI (tch (sp (tau σ.1) (-1) v)) else bsI (fun r => dec (brg (tau σ.1) (-1) v r)) (σ.1 2) := if_neg (by omega)
  generalize hs : sp (tau σ.1) (-1) v = s at f2 ee
  have hsb : ∀ g, 0 ≤ g → g < 80 → 0 ≤ s g ∧ s g ≤ 1000000 := fun g a b => by rw [← hs]; exact sp_nn hT (-1) v a b
  simp only [r_RM_spread_32, r_RM_spread_33, r_RM_spread_34, r_RM_spread_35, r_RM_spread_37, r_RM_spread_38, r_RM_spread_40, r_RM_spread_41, true_and, and_true, or_true, true_or, or_false, false_or, false_and, and_false, not_true_eq_false, not_false_eq_true, implies_true, true_implies, false_implies]
  refine up_loop (lo := 0) (hi := 80) (P := fun k => ∀ u, 0 ≤ u → u < 1024 → (∀ o, 0 ≤ o → o < 10 → (bit u o = true ↔ ∃ x, 0 ≤ x ∧ x < k ∧ x / 8 = o ∧ s x < 1000000)) → Run C_RM_spread (Qm (q_spread σ.1 v w, σ) M) 43 [vR 141, vI v, vI w, vI (cntI (fun g => decide (s g < 1000000)) k), vI (foI (laS s) 0 k), vI u, vI k] [] M2) (fun k k0' kn ih u u0 u1 hu => ?_) (by decide) 0 (by decide) (by decide) (fun o a b => by rw [bit_0]; exact ⟨fun z => Bool.noConfusion z, fun ⟨x, p, q, _⟩ => by omega⟩)
  have hla := la_bd (T := s) k k0'
  rw [r_RM_spread_43]
  simp only [r_RM_spread_45, r_RM_spread_47, r_RM_spread_50, r_RM_spread_51, r_RM_spread_54, r_RM_spread_56, r_RM_spread_57, r_RM_spread_59, r_RM_spread_62, r_RM_spread_65, r_RM_spread_66, r_RM_spread_69, r_RM_spread_71, r_RM_spread_72, r_RM_spread_74, r_RM_spread_77, r_RM_spread_78, r_RM_spread_81, r_RM_spread_83, r_RM_spread_84, r_RM_spread_87, r_RM_spread_89, r_RM_spread_91, r_RM_spread_93, r_RM_spread_94, r_RM_spread_96, r_RM_spread_98, r_RM_spread_99, r_RM_spread_100, r_RM_spread_101, r_RM_spread_103, r_RM_spread_106, true_and, and_true, or_true, true_or, or_false, false_or, false_and, and_false, not_true_eq_false, not_false_eq_true, implies_true, true_implies, false_implies]
  refine ⟨r32 (by omega) (by omega), r32 (by decide) (by decide), fun q3 => ?_, fun q3 => ⟨k0', by omega, ?_⟩⟩
  · simp only [r_RM_spread_109, r_RM_spread_110, r_RM_spread_113, r_RM_spread_114, r_RM_spread_117, r_RM_spread_118, r_RM_spread_119, r_RM_spread_122, r_RM_spread_124, r_RM_spread_127, r_RM_spread_128, r_RM_spread_129, r_RM_spread_132, r_RM_spread_134, r_RM_spread_137, r_RM_spread_140, r_RM_spread_141, r_RM_spread_144, true_and, and_true, or_true, true_or, or_false, false_or, false_and, and_false, not_true_eq_false, not_false_eq_true, implies_true, true_implies, false_implies]
    rw [show k = 80 by omega] at hu ⊢
    refine ⟨hw, fun q4 => ⟨hw, r32 (by decide) (by decide), fun q5 => ⟨hw, r32 (by decide) (by decide), fun q6 => ?_, fun q6 => ?_⟩, fun q5 => Qm.q h2 kk (by rw [ee, if_neg q4, if_pos (by omega)])⟩, fun q4 => Qm.q h2 kk (by rw [ee, if_pos (by omega)])⟩
    · refine (rulesBy_s hT h2.1.t (S := v) (by rw [hs]; exact f2)).mono ?_
      rintro _ M3 ⟨rfl, hm⟩
      obtain rfl : M2 = M3 := hm.symm
      exact ⟨_, rfl, Qm.q h2 kk (by rw [ee, if_neg q4, if_neg q5, if_neg q6, tau_lo (by decide) (by decide)])⟩
    · refine Cal.I (bits_s M2 u0 (by omega)) (Qm.q h2 kk ?_)
      rw [ee, if_neg q4, if_neg q5, if_pos (by omega)]
      congr 1
      have hb := bsI_bd (fun o => dec (∃ e, 0 ≤ e ∧ e < 8 ∧ s (8 * o + e) < 1000000)) 10
      unfold tch
      apply bit_ext u0 hb.1
      intro o o0
      rw [bsI_bit _ o0]
      by_cases z : o < 10
      · rw [decide_eq_true z, Bool.true_and]
        refine bdec' ?_
        rw [hu o o0 z]
        constructor
        · rintro ⟨x, a, b, c, d⟩; exact ⟨x % 8, by omega, by omega, by rw [show 8 * o + x % 8 = x by omega]; exact d⟩
        · rintro ⟨e, a, b, c⟩; exact ⟨8 * o + e, by omega, by omega, by omega, c⟩
      · rw [decide_eq_false z, Bool.false_and, bit_hi (n := 10) u0 (by rw [p2_10e]; exact u1) (by omega)]
  · have hb := hsb k k0' (by omega)
    have hih := ih (by omega)
    rw [cntI_s _ k0', foI_s _ _ k0'] at hih
    rw [f2 k k0' (by omega)]
    refine ⟨r32 (by omega) (by omega), r32 (by decide) (by decide), fun q4 => ?_, fun q4 => ?_⟩
    · rw [if_neg (by rw [decide_eq_true_eq]; omega), Int.add_zero, show laS s k (foI (laS s) 0 k) = foI (laS s) 0 k from if_neg (by omega)] at hih
      refine hih u u0 u1 (fun o a b => ?_)
      rw [hu o a b]
      exact ⟨fun ⟨x, p1, p2, p3⟩ => ⟨x, p1, by omega, p3⟩, fun ⟨x, p1, p2, p3, p4⟩ => ⟨x, p1, by
        by_cases w : x = k
        · rw [w] at p4; omega
        · omega, p3, p4⟩⟩
    · rw [if_pos (by rw [decide_eq_true_eq]; omega)] at hih
      have hk8 : 0 ≤ k / 8 ∧ k / 8 < 10 := by omega
      have hor := fun x (hx : 0 ≤ x) => or_p2 (x := x) u0 u1 hk8.1 hk8.2 hx
      have hnew : ∀ o, 0 ≤ o → o < 10 → (bit (ior u (p2 (k / 8))) o = true ↔ ∃ x, 0 ≤ x ∧ x < k + 1 ∧ x / 8 = o ∧ s x < 1000000) := fun o a b => by
        rw [(hor o a).2, hu o a b]
        constructor
        · rintro (⟨x, p1, p2, p3, p4⟩ | z)
          · exact ⟨x, p1, by omega, p3, p4⟩
          · exact ⟨k, k0', by omega, z.symm, by omega⟩
        · rintro ⟨x, p1, p2, p3, p4⟩
          by_cases w : x = k
          · rw [w] at p3; exact Or.inr p3.symm
          · exact Or.inl ⟨x, p1, by omega, p3, p4⟩
      have hgo := hih (ior u (p2 (k / 8))) (hor 0 (by decide)).1.1 (hor 0 (by decide)).1.2 hnew
      rw [Int.tdiv_eq_ediv_of_nonneg k0', p2_def]
      refine ⟨k0', by omega, r32 (by omega) (by omega), r32 (by omega) (by omega), fun q5 => ⟨⟨r32 (by omega) (by omega), by decide, by decide⟩, ⟨by omega, by omega⟩, ?_⟩, fun q5 => ⟨k0', by omega, ⟨r32 (by omega) (by omega), by decide, by decide⟩, ⟨by omega, by omega⟩, ?_⟩⟩
      · rw [show laS s k (foI (laS s) 0 k) = foI (laS s) 0 k from if_neg (by omega)] at hgo
        exact hgo
      · rw [show laS s k (foI (laS s) 0 k) = s k from if_pos (by omega)] at hgo
        exact hgo
