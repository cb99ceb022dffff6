/-! the class's Codes: renew -/
theorem XI.cx {P : Nat → Prop} {σ : St} {M M' : Mem} (h : XI σ M) (hk : Kp P M M') (hP : ∀ c, c < 105 → ¬ P c) (hP3 : ∀ c, 125 ≤ c → c ≤ 140 → ¬ P c) (hC : CX (tau σ.1) M') : XI σ M' := by
  obtain ⟨h1, h2, h3, h4, h5, h6, h7, h8, h9⟩ := h
  refine ⟨h1.kp hk (fun c a b => hP c (by omega)), h2.kp hk (fun c a b => hP c (by omega)), h3.kp hk (fun c a b => hP c (by omega)), h4.kp hk (fun c a b => hP c (by omega)), h5.kp hk (hP 93 (by decide)) hP3, ?_, ?_, ?_, hC⟩
  · intro i a b; rw [hk.at (hP 96 (by decide))]; exact h6 i a b
  · intro i a b; rw [hk.at (hP 95 (by decide))]; exact h7 i a b
  · rw [hk.at (hP 94 (by decide))]; exact h8
theorem CX.r {τ : Rw} {M M' : Mem} (h : CX τ M) (e9 : M'.1 111 9 = M.1 111 9) (e10 : M'.1 111 10 = M.1 111 10) (e11 : M'.1 111 11 = M.1 111 11) (e13 : M'.1 111 13 = M.1 111 13) (e14 : M'.1 111 14 = M.1 111 14) (e4 : M'.1 114 = M.1 114) (e5 : M'.1 115 = M.1 115) (hc : M'.1 111 12 = 0 ∨ (M'.1 111 12 = 1 ∧ CK τ M')) : CX τ M' := by
  refine ⟨hc, ?_, ?_⟩
  · have := h.2.1
    unfold SK at *
    rw [e9, e13, e4, e5]; exact this
  · have := h.2.2
    unfold WK at *
    rw [e10, e11, e14]; exact this
theorem CX.w {τ : Rw} {M M' : Mem} (h : CX τ M) (e9 : M'.1 111 9 = M.1 111 9) (e12 : M'.1 111 12 = M.1 111 12) (e13 : M'.1 111 13 = M.1 111 13) (e2 : M'.1 112 = M.1 112) (e3 : M'.1 113 = M.1 113) (e4 : M'.1 114 = M.1 114) (e5 : M'.1 115 = M.1 115) (hc : M'.1 111 14 = 0 ∨ (M'.1 111 14 = 1 ∧ WK τ M')) : CX τ M' := by
  refine ⟨?_, ?_, hc⟩
  · have := h.1
    unfold CK at *
    rw [e12, e2, e3]; exact this
  · have := h.2.1
    unfold SK at *
    rw [e9, e13, e4, e5]; exact this
theorem CX.s {τ : Rw} {M M' : Mem} (h : CX τ M) (e10 : M'.1 111 10 = M.1 111 10) (e11 : M'.1 111 11 = M.1 111 11) (e12 : M'.1 111 12 = M.1 111 12) (e14 : M'.1 111 14 = M.1 111 14) (e2 : M'.1 112 = M.1 112) (e3 : M'.1 113 = M.1 113) (hc : M'.1 111 13 = 0 ∨ (M'.1 111 13 = 1 ∧ SK τ M')) : CX τ M' := by
  refine ⟨?_, hc, ?_⟩
  · have := h.1
    unfold CK at *
    rw [e12, e2, e3]; exact this
  · have := h.2.2
    unfold WK at *
    rw [e10, e11, e14]; exact this
theorem Kp.c {P : Nat → Prop} {M M' : Mem} (h : Kp P M M') {c : Nat} (hc : ¬ P c) : M'.1 c = M.1 c := (h c hc).1
theorem nC_t {σ : St} (hV : VS σ) : nC (tau σ.1) = nC σ.1 := nC_tau hV.1
theorem nS_t {σ : St} (hV : VS σ) : nS (tau σ.1) = nS σ.1 := nS_tau hV.1
theorem fl01 {x : Int} {p : Prop} (h : x = 0 ∨ (x = 1 ∧ p)) : R32 x := by
  rcases h with z | z
  · rw [z]; exact r32 (by decide) (by decide)
  · rw [z.1]; exact r32 (by decide) (by decide)
/-- the class has its codes at hand -/
def XC (σ : St) (M : Mem) : Prop := XI σ M ∧ CK (tau σ.1) M
theorem X_renew {σ : St} (hV : VS σ) {M : Mem} (h : XI σ M) : Cal Y_Co_renew [vR 111] M (fun r M' => r = none ∧ XC σ M' ∧ Kp (fun c => 105 ≤ c ∧ c ≤ 115) M M') := by
  have hT := VR_tau hV.1
  have h0 := hT.1
  have hc12 := hT.2.2.2.2.2.2.2.2.2.2.1
  have hs12 := hT.2.2.2.2.2.2.2.2.2.2.2.1
  have hn0 : 0 ≤ nC (tau σ.1) := nC_nn h0.1
  have hm0 : 0 ≤ nS (tau σ.1) := nS_nn h0.1
  have hX := h.1.t
  have hR := h.rc
  have hS := h.rs
  have hCX := h.2.2.2.2.2.2.2.2
  refine Cal.mk (y := Y_Co_renew) (loc := [vR 111, vN, vN]) G_Co_renew rfl (by decide) rfl rfl (Nat.le_of_ble_eq_true rfl) ?_
  simp only [r_Co_renew_0, r_Co_renew_1, r_Co_renew_4, r_Co_renew_7, r_Co_renew_8, r_Co_renew_9, r_Co_renew_12, r_Co_renew_13, true_and, and_true, or_true, true_or, or_false, false_or, false_and, and_false, not_true_eq_false, not_false_eq_true, implies_true, true_implies, false_implies]
  refine ⟨fl01 hCX.1, fun q => ?_, fun q => ?_⟩
  rotate_left
  · exact ⟨⟨h, (hCX.1.resolve_left q).2⟩, Kp.rf⟩
  refine (readLinks_s hT hX (r32 (by decide) (by decide))).mono ?_
  rintro _ M1 ⟨rfl, t1, k1⟩
  simp only [r_Co_renew_16, r_Co_renew_17, true_and, and_true, or_true, true_or, or_false, false_or, false_and, and_false, not_true_eq_false, not_false_eq_true, implies_true, true_implies, false_implies]
  refine up_loop (lo := 0) (hi := nC (tau σ.1)) (P := fun c => ∀ M2 l2, Kp (fun c => 105 ≤ c ∧ c ≤ 113 ∧ ¬ c = 111) M M2 → LT (tau σ.1) (-1) M2 → (∀ c', 0 ≤ c' → c' < c → M2.1 112 c' = cod (tau σ.1) (-1) (p2 c') ∧ ∀ s, 0 ≤ s → s < nS (tau σ.1) → M2.1 113 (c' * 12 + s) = sp (tau σ.1) (-1) (p2 c') (sf (tau σ.1) s)) → Run C_Co_renew (fun r M' => r = none ∧ XC σ M' ∧ Kp (fun c => 105 ≤ c ∧ c ≤ 115) M M') 18 [vR 111, vI c, l2] [] M2) (fun c hc hcn ih M2 l2 k2 t2 ck => ?_) hn0 M1 _ (k1.sub (fun c z => by omega)) t1 (fun c' a b => by omega)
  have R2 := hR.kp k2 (fun c a b => by omega)
  rw [r_Co_renew_18]
  simp only [r_Co_renew_19, r_Co_renew_20, r_Co_renew_23, r_Co_renew_26, r_Co_renew_29, r_Co_renew_30, r_Co_renew_33, r_Co_renew_34, r_Co_renew_35, r_Co_renew_36, r_Co_renew_39, r_Co_renew_40, r_Co_renew_43, r_Co_renew_44, r_Co_renew_45, r_Co_renew_48, true_and, and_true, or_true, true_or, or_false, false_or, false_and, and_false, not_true_eq_false, not_false_eq_true, implies_true, true_implies, false_implies, show M2.1 97 0 = nC (tau σ.1) from R2.1, p2_def]
  refine ⟨r32 (by omega) (by omega), r32 (by omega) (by omega), fun q1 => ?_, fun q1 => ⟨⟨hc, by omega⟩, ?_⟩⟩
  · simp only [r_Co_renew_110, r_Co_renew_111, r_Co_renew_112, r_Co_renew_115, true_and, and_true, or_true, true_or, or_false, false_or, false_and, and_false, not_true_eq_false, not_false_eq_true, implies_true, true_implies, false_implies]
    rw [show c = nC (tau σ.1) by omega] at ck
    have k3 : Kp (fun c => 105 ≤ c ∧ c ≤ 113) M (wI M2 111 12 1) := Kp.w (k2.sub (fun c z => by omega)) (by decide)
    have hck : CK (tau σ.1) (wI M2 111 12 1) := fun c a b => by
      rw [wI_c (by decide), wI_c (by decide)]; exact ck c a b
    have e1 := k2.c (c := 111) (by decide)
    refine ⟨⟨h.cx k3 (fun c a => by omega) (fun c a b => by omega) (hCX.r ?_ ?_ ?_ ?_ ?_ ?_ ?_ (Or.inr ⟨wI_same _ _ _ _, hck⟩)), hck⟩, k3.sub (fun c z => by omega)⟩
    · rw [wI_oth (by decide), e1]
    · rw [wI_oth (by decide), e1]
    · rw [wI_oth (by decide), e1]
    · rw [wI_oth (by decide), e1]
    · rw [wI_oth (by decide), e1]
    · rw [wI_c (by decide), k2.c (by decide)]
    · rw [wI_c (by decide), k2.c (by decide)]
  · have hp := p2_mono (show c ≤ 11 by omega)
    have hp' : p2 11 = 2048 := by decide
    have hq := p2_pos c
    refine (flow_s hT (S := p2 c) (by omega) (by omega) (hX.kp k2 (fun c a b => by omega)) t2 R2).mono ?_
    rintro _ M3 ⟨rfl, f3, k3⟩
    have kk3 : Kp (fun c => 105 ≤ c ∧ c ≤ 113 ∧ ¬ c = 111) M M3 := k2.trans (k3.sub (fun c z => by omega))
    have S3 := hS.kp kk3 (fun c a b => by omega)
    refine ⟨rfl, Cal.I (codeOfFlow_s hT f3 S3) ?_⟩
    refine ⟨hc, by omega, ?_⟩
    simp only [r_Co_renew_49, r_Co_renew_50, true_and, and_true, or_true, true_or, or_false, false_or, false_and, and_false, not_true_eq_false, not_false_eq_true, implies_true, true_implies, false_implies]
    have k4 : Kp (fun c => 105 ≤ c ∧ c ≤ 113 ∧ ¬ c = 111) M (wI M3 112 c (cod (tau σ.1) (-1) (p2 c))) := Kp.w kk3 (by decide)
    refine up_loop (lo := 0) (hi := nS (tau σ.1)) (P := fun s => ∀ M4, Kp (fun c => c = 112 ∨ c = 113) M3 M4 → (∀ i, M4.1 112 i = if i = c then cod (tau σ.1) (-1) (p2 c) else M3.1 112 i) → (∀ i, M4.1 113 i = if c * 12 ≤ i ∧ i < c * 12 + s then sp (tau σ.1) (-1) (p2 c) (sf (tau σ.1) (i - c * 12)) else M3.1 113 i) → Run C_Co_renew (fun r M' => r = none ∧ XC σ M' ∧ Kp (fun c => 105 ≤ c ∧ c ≤ 115) M M') 51 [vR 111, vI c, vI s] [] M4) (fun s hs hsn ih2 M4 k4 a4 b4 => ?_) hm0 (wI M3 112 c (cod (tau σ.1) (-1) (p2 c))) (Kp.w Kp.rf (Or.inl rfl)) (fun i => ?_) (fun i => ?_)
    · have kk4 : Kp (fun c => 105 ≤ c ∧ c ≤ 113 ∧ ¬ c = 111) M M4 := kk3.trans (k4.sub (fun c z => by omega))
      have S4 := hS.kp kk4 (fun c a b => by omega)
      rw [r_Co_renew_51]
      simp only [r_Co_renew_52, r_Co_renew_53, r_Co_renew_56, r_Co_renew_59, r_Co_renew_62, r_Co_renew_63, r_Co_renew_66, r_Co_renew_67, r_Co_renew_69, r_Co_renew_70, r_Co_renew_71, r_Co_renew_72, r_Co_renew_73, r_Co_renew_76, r_Co_renew_77, r_Co_renew_80, r_Co_renew_83, r_Co_renew_84, r_Co_renew_85, r_Co_renew_86, r_Co_renew_89, r_Co_renew_92, r_Co_renew_93, r_Co_renew_94, r_Co_renew_97, r_Co_renew_98, r_Co_renew_101, r_Co_renew_104, r_Co_renew_107, true_and, and_true, or_true, true_or, or_false, false_or, false_and, and_false, not_true_eq_false, not_false_eq_true, implies_true, true_implies, false_implies, show M4.1 101 0 = nS (tau σ.1) from S4.1]
      refine ⟨r32 (by omega) (by omega), r32 (by omega) (by omega), fun q2 => ?_, fun q2 => ?_⟩
      · refine ih (by omega) M4 _ kk4 ((t2.kp k3 (fun c a b => by omega)).kp k4 (fun c a b => by omega)) (fun c' a b => ?_)
        rw [a4]
        by_cases z : c' = c
        · rw [if_pos z, z]
          refine ⟨rfl, fun s' x y => ?_⟩
          rw [b4, if_pos (by omega), show c * 12 + s' - c * 12 = s' by omega]
        · rw [if_neg z, k3.at (by decide)]
          refine ⟨(ck c' a (by omega)).1, fun s' x y => ?_⟩
          rw [b4, if_neg (by omega), k3.at (by decide)]
          exact (ck c' a (by omega)).2 s' x y
      · obtain ⟨x0, x1, x2, x3, x4, x5⟩ := S4.si hT hs (by omega)
        simp only [x4, x5]
        refine ⟨hs, by omega, hs, by omega, ?_⟩
        refine Cal.I (timeOf_s M4 (by omega) (by omega) (by omega) (by omega)) ?_
        rw [show 8 * (sf (tau σ.1) s / 8) + sf (tau σ.1) s % 8 = sf (tau σ.1) s by omega, k4.at (by decide), f3.1 _ x0 (by omega)]
        refine ⟨by omega, by omega, ih2 (by omega) _ (Kp.w k4 (Or.inr rfl)) (fun i => ?_) (fun i => ?_)⟩
        · rw [wI_c (by decide)]; exact a4 i
        · rw [wI_at]
          by_cases z : i = c * 12 + s
          · rw [if_pos ⟨rfl, z⟩, if_pos (by omega), z, show c * 12 + s - c * 12 = s by omega]
          · rw [if_neg (fun y => z y.2), b4]
            by_cases z2 : c * 12 ≤ i ∧ i < c * 12 + s
            · rw [if_pos z2, if_pos (by omega)]
            · rw [if_neg z2, if_neg (by omega)]
    · rw [wI_at]
      by_cases z : i = c
      · rw [if_pos ⟨rfl, z⟩, if_pos z]
      · rw [if_neg (fun y => z y.2), if_neg z]
    · rw [wI_c (by decide), if_neg (by omega)]
