/-! the reference: causes and signs are numbered -/
theorem Cal.Be' {y : Mi} {as : List Vl} {M : Mem} {c : Prop} [Decidable c] {R : Mem → Prop} (h : Cal y as M (fun r M' => r = some (vI (if c then 1 else 0)) ∧ R M')) {A B : Mem → Prop} (h1 : c → ∀ M', R M' → B M') (h2 : ¬ c → ∀ M', R M' → A M') : Cal y as M (fun r M' => ∃ z, r = some (vI z) ∧ R32 z ∧ (z = 0 → A M') ∧ (¬ z = 0 → B M')) := by
  refine h.mono ?_
  rintro _ M' ⟨rfl, r⟩
  by_cases q : c
  · rw [if_pos q]; exact ⟨1, rfl, r32 (by decide) (by decide), fun h => absurd h (by decide), fun _ => h1 q M' r⟩
  · rw [if_neg q]; exact ⟨0, rfl, r32 (by decide) (by decide), fun _ => h2 q M' r, fun h => absurd rfl h⟩
theorem Cal.Bn' {y : Mi} {as : List Vl} {M : Mem} {c : Prop} [Decidable c] {R : Mem → Prop} (h : Cal y as M (fun r M' => r = some (vI (if c then 1 else 0)) ∧ R M')) {A B : Mem → Prop} (h1 : c → ∀ M', R M' → B M') (h2 : ¬ c → ∀ M', R M' → A M') : Cal y as M (fun r M' => ∃ z, r = some (vI z) ∧ R32 z ∧ (¬ z = 0 → B M') ∧ (¬ ¬ z = 0 → A M')) := by
  refine h.mono ?_
  rintro _ M' ⟨rfl, r⟩
  by_cases q : c
  · rw [if_pos q]; exact ⟨1, rfl, r32 (by decide) (by decide), fun _ => h1 q M' r, fun h => absurd (by decide) h⟩
  · rw [if_neg q]; exact ⟨0, rfl, r32 (by decide) (by decide), fun h => absurd rfl h, fun _ => h2 q M' r⟩
theorem RR.w {ρ : Rw} {M : Mem} (h : RR ρ M) (i v : Int) : RR (rs ρ i v) (wI M 144 i v) := fun j a b => by
  rw [wI_at]
  unfold rs
  by_cases z : j = i
  · rw [if_pos ⟨rfl, z⟩, if_pos z]
  · rw [if_neg (fun w => z w.2), if_neg z]; exact h j a b
theorem MI.row {σ : St} {M M' : Mem} {ρ' : Rw} (h : MI σ M) (hR : RR ρ' M') (hk : Kp (fun c => c = 144) M M') : MI (ρ', σ.2) M' := by
  obtain ⟨h1, h2, h3, h4, h5, h6⟩ := h
  have e1 := hk.c (c := 141) (by decide)
  have e2 := hk.c (c := 142) (by decide)
  have e3 := hk.c (c := 143) (by decide)
  have e5 := hk.c (c := 145) (by decide)
  have e6 := hk.c (c := 146) (by decide)
  have e7 := hk.c (c := 147) (by decide)
  have e8 := hk.c (c := 148) (by decide)
  refine ⟨hR, ?_, ?_, ?_, ?_, ?_⟩
  · unfold MU at *; rw [e1, e5, e6]; exact h2
  · unfold MG at *; rw [e7, e8]; exact h3
  · rw [e3]; exact h4
  · rw [e2]; exact h5
  · rw [e1]; exact h6
theorem MI.w {σ : St} {M : Mem} (h : MI σ M) (i v : Int) : MI (rs σ.1 i v, σ.2) (wI M 144 i v) := h.row (h.1.w i v) (Kp.w Kp.rf rfl)
theorem KM.w {M M' : Mem} (h : Kp KM M M') {c : Nat} (hc : 141 ≤ c) {i v : Int} : Kp KM M (wI M' c i v) := Kp.w h hc
theorem fact_s (M : Mem) {k e : Int} : Cal Y_RM_fact [vR 141, vI k, vI e] M (fun r M' => r = some (vI (8 * k + e)) ∧ M' = M) := by
  refine Cal.mk (y := Y_RM_fact) (loc := [vR 141, vI k, vI e]) G_RM_fact rfl (by decide) rfl rfl (Nat.le_of_ble_eq_true rfl) ?_
  simp only [r_RM_fact_0, r_RM_fact_2, r_RM_fact_3, r_RM_fact_4, r_RM_fact_5, r_RM_fact_6, true_and, and_true, or_true, true_or, or_false, false_or, false_and, and_false, not_true_eq_false, not_false_eq_true, implies_true, true_implies, false_implies]
theorem isObject_s {ρ : Rw} {M : Mem} (hV : VR ρ) (hR : RR ρ M) {o : Int} (ho : R32 o) : Cal Y_RM_isObject [vR 141, vI o] M (fun r M' => r = some (vI (if 0 ≤ o ∧ o ≤ ρ 0 - 1 then 1 else 0)) ∧ M' = M) := by
  have h0 := hV.1
  refine Cal.mk (y := Y_RM_isObject) (loc := [vR 141, vI o]) G_RM_isObject rfl (by decide) rfl rfl (Nat.le_of_ble_eq_true rfl) ?_
  simp only [r_RM_isObject_0, r_RM_isObject_1, r_RM_isObject_2, r_RM_isObject_3, r_RM_isObject_4, r_RM_isObject_7, r_RM_isObject_8, r_RM_isObject_9, r_RM_isObject_10, r_RM_isObject_11, r_RM_isObject_12, r_RM_isObject_15, true_and, and_true, or_true, true_or, or_false, false_or, false_and, and_false, not_true_eq_false, not_false_eq_true, implies_true, true_implies, false_implies, hR 0 (by decide) (by decide)]
  refine ⟨ho, by decide, by decide, r32 (by omega) (by omega), (in_s M ho.l (l64 (by decide) (by decide)) (l64 (by omega) (by omega))).mono ?_⟩
  rintro _ M' ⟨rfl, rfl⟩
  exact ⟨_, rfl, ite01, rfl, rfl⟩
/-- the part of a row by which causes and signs are numbered -/
def RQ (ρ : Rw) (M : Mem) : Prop := ∀ i, (i = 0 ∨ (6 ≤ i ∧ i < 16) ∨ (136 ≤ i ∧ i < 200)) → M.1 144 i = ρ i
theorem RR.q {ρ : Rw} {M : Mem} (h : RR ρ M) : RQ ρ M := fun i z => h i (by omega) (by omega)
/-- causes and signs are numbered -/
def NU (ρ : Rw) (M : Mem) : Prop := M.1 141 12 = nC ρ ∧ M.1 141 15 = nS ρ ∧ (∀ c, 0 ≤ c → c < nC ρ → M.1 149 c = cf (tau ρ) c / 8 ∧ M.1 150 c = cf (tau ρ) c % 8) ∧ ∀ s, 0 ≤ s → s < nS ρ → M.1 151 s = sf (tau ρ) s / 8 ∧ M.1 152 s = sf (tau ρ) s % 8
theorem NU.kp {P : Nat → Prop} {ρ : Rw} {M M' : Mem} (h : NU ρ M) (hk : Kp P M M') (hP : ∀ c, 149 ≤ c → c ≤ 152 → ¬ P c) (h12 : M'.1 141 12 = M.1 141 12) (h15 : M'.1 141 15 = M.1 141 15) : NU ρ M' := by
  unfold NU at *
  rw [h12, h15, hk.c (hP 149 (by decide) (by decide)), hk.c (hP 150 (by decide) (by decide)), hk.c (hP 151 (by decide) (by decide)), hk.c (hP 152 (by decide) (by decide))]
  exact h
theorem number_s {ρ : Rw} {M : Mem} (hV : VR ρ) (hR : RQ ρ M) : Cal Y_RM_number [vR 141] M (fun r M' => r = none ∧ NU ρ M' ∧ KR M M' ∧ Kp (fun c => c = 141 ∨ (149 ≤ c ∧ c ≤ 152)) M M' ∧ ∀ i, ¬ i = 12 → ¬ i = 15 → M'.1 141 i = M.1 141 i) := by
  have hT := VR_tau hV
  have h0 := hV.1
  have hc12 := nC_bd hV
  have hs12 := nS_bd hV
  have eC : cntI (isC (tau ρ)) (8 * ρ 0) = nC ρ := by
    have := nC_tau hV
    unfold nC at this
    rw [tau_lo (by decide) (by decide)] at this
    exact this
  have eS : cntI (isS (tau ρ)) (8 * ρ 0) = nS ρ := by
    have := nS_tau hV
    unfold nS at this
    rw [tau_lo (by decide) (by decide)] at this
    exact this
  generalize hQ : (fun (r : Option Vl) (M' : Mem) => r = none ∧ NU ρ M' ∧ KR M M' ∧ Kp (fun c => c = 141 ∨ (149 ≤ c ∧ c ≤ 152)) M M' ∧ ∀ i, ¬ i = 12 → ¬ i = 15 → M'.1 141 i = M.1 141 i) = Q
  -- what holds behind the first f facts
  let I := fun (f : Int) (M1 : Mem) => Kp (fun c => c = 141 ∨ (149 ≤ c ∧ c ≤ 152)) M M1 ∧ (∀ i, ¬ i = 12 → ¬ i = 15 → M1.1 141 i = M.1 141 i) ∧ M1.1 141 12 = cntI (isC (tau ρ)) f ∧ M1.1 141 15 = cntI (isS (tau ρ)) f ∧ (∀ g, 0 ≤ g → g < f → isC (tau ρ) g = true → M1.1 149 (cntI (isC (tau ρ)) g) = g / 8 ∧ M1.1 150 (cntI (isC (tau ρ)) g) = g % 8) ∧ ∀ g, 0 ≤ g → g < f → isS (tau ρ) g = true → M1.1 151 (cntI (isS (tau ρ)) g) = g / 8 ∧ M1.1 152 (cntI (isS (tau ρ)) g) = g % 8
  refine Cal.mk (y := Y_RM_number) (loc := [vR 141, vN, vN, vN]) G_RM_number rfl (by decide) rfl rfl (Nat.le_of_ble_eq_true rfl) ?_
  simp only [r_RM_number_0, r_RM_number_1, r_RM_number_2, r_RM_number_5, r_RM_number_6, r_RM_number_7, r_RM_number_10, r_RM_number_11, true_and, and_true, or_true, true_or, or_false, false_or, false_and, and_false, not_true_eq_false, not_false_eq_true, implies_true, true_implies, false_implies]
  refine up_loop (lo := 0) (hi := ρ 0) (P := fun o => ∀ M1 l2 l3, I (8 * o) M1 → Run C_RM_number Q 12 [vR 141, vI o, l2, l3] [] M1) (fun o o0 on ih M1 l2 l3 hI => ?_) h0.1 _ _ _ ⟨Kp.w (Kp.w Kp.rf (Or.inl rfl)) (Or.inl rfl), fun i a b => by rw [wI_oth b, wI_oth a], by rw [wI_oth (by decide), wI_same]; rfl, by rw [wI_same]; rfl, fun g a b => by omega, fun g a b => by omega⟩
  obtain ⟨k1, f1, a1, b1, c1, d1⟩ := hI
  have e0 : M1.1 144 0 = ρ 0 := by rw [k1.at (by decide)]; exact hR 0 (Or.inl rfl)
  rw [r_RM_number_12]
  simp only [r_RM_number_13, r_RM_number_14, r_RM_number_17, r_RM_number_18, r_RM_number_19, r_RM_number_22, r_RM_number_23, true_and, and_true, or_true, true_or, or_false, false_or, false_and, and_false, not_true_eq_false, not_false_eq_true, implies_true, true_implies, false_implies, e0]
  refine ⟨by decide, by decide, r32 (by omega) (by omega), r32 (by omega) (by omega), fun q => ?_, fun q => ?_⟩
  · simp only [r_RM_number_143, true_and, and_true, or_true, true_or, or_false, false_or, false_and, and_false, not_true_eq_false, not_false_eq_true, implies_true, true_implies, false_implies]
    rw [← hQ]
    have eo : o = ρ 0 := by omega
    rw [eo] at a1 b1 c1 d1
    refine ⟨rfl, ⟨by rw [a1, eC], by rw [b1, eS], fun c x y => ?_, fun s x y => ?_⟩, ⟨k1.sub (fun c z => by omega), f1 1 (by decide) (by decide), f1 7 (by decide) (by decide)⟩, k1, f1⟩
    · have hk := kth_sp (p := isC (tau ρ)) (n := 8 * ρ 0) (c := c) (by omega) x (by rw [eC]; exact y)
      have ek : cf (tau ρ) c = kth (isC (tau ρ)) (8 * ρ 0) c := by unfold cf; rw [tau_lo (by decide) (by decide)]
      have := c1 _ hk.1 hk.2.1 hk.2.2.1
      rw [hk.2.2.2] at this
      rw [ek]; exact this
    · have hk := kth_sp (p := isS (tau ρ)) (n := 8 * ρ 0) (c := s) (by omega) x (by rw [eS]; exact y)
      have ek : sf (tau ρ) s = kth (isS (tau ρ)) (8 * ρ 0) s := by unfold sf; rw [tau_lo (by decide) (by decide)]
      have := d1 _ hk.1 hk.2.1 hk.2.2.1
      rw [hk.2.2.2] at this
      rw [ek]; exact this
  · refine up_loop (lo := 0) (hi := 8) (P := fun e => ∀ M2 l3, I (8 * o + e) M2 → Run C_RM_number Q 24 [vR 141, vI o, vI e, l3] [] M2) (fun e e0' en ih2 M2 l3 hI => ?_) (by decide) M1 l3 (by rw [Int.add_zero]; exact ⟨k1, f1, a1, b1, c1, d1⟩)
    obtain ⟨k2, f2, a2, b2, c2, d2⟩ := hI
    have hkd := hV.2.2.2.2.1 o o0 (by omega)
    have e6 : M2.1 144 (6 + o) = ρ (6 + o) := by rw [k2.at (by decide)]; exact hR _ (by omega)
    rw [r_RM_number_24]
    simp only [r_RM_number_25, r_RM_number_27, r_RM_number_30, r_RM_number_31, r_RM_number_32, r_RM_number_35, r_RM_number_37, r_RM_number_38, r_RM_number_39, r_RM_number_40, r_RM_number_41, r_RM_number_44, r_RM_number_45, r_RM_number_46, r_RM_number_49, r_RM_number_52, r_RM_number_53, r_RM_number_54, true_and, and_true, or_true, true_or, or_false, false_or, false_and, and_false, not_true_eq_false, not_false_eq_true, implies_true, true_implies, false_implies, e6]
    refine ⟨r32 (by omega) (by omega), r32 (by decide) (by decide), fun q2 => ?_, fun q2 => ⟨by omega, by omega, Cal.I (fact_s M2) ?_⟩⟩
    · simp only [r_RM_number_137, r_RM_number_140, true_and, and_true, or_true, true_or, or_false, false_or, false_and, and_false, not_true_eq_false, not_false_eq_true, implies_true, true_implies, false_implies]
      refine ih (by omega) M2 _ _ ?_
      rw [show 8 * (o + 1) = 8 * o + e by omega]
      exact ⟨k2, f2, a2, b2, c2, d2⟩
    · have hw := hV.2.2.2.2.2.2.2.2.1 (8 * ρ (6 + o) + e) (by omega) (by omega)
      have w1 : M2.1 144 (136 + (8 * ρ (6 + o) + e)) = ρ (136 + (8 * ρ (6 + o) + e)) := by rw [k2.at (by decide)]; exact hR _ (by omega)
      have w2 : M2.1 144 (168 + (8 * ρ (6 + o) + e)) = ρ (168 + (8 * ρ (6 + o) + e)) := by rw [k2.at (by decide)]; exact hR _ (by omega)
      have ic : isC (tau ρ) (8 * o + e) = decide (¬ ρ (136 + (8 * ρ (6 + o) + e)) = 0) := by
        unfold isC
        rw [wC_tau hV (by omega) (by omega)]
        unfold wC
        rw [show (8 * o + e) / 8 = o by omega, show (8 * o + e) % 8 = e by omega, show ρ (6 + o) * 8 + e = 8 * ρ (6 + o) + e by omega]
      have is : isS (tau ρ) (8 * o + e) = decide (¬ ρ (168 + (8 * ρ (6 + o) + e)) = 0) := by
        unfold isS
        rw [wS_tau hV (by omega) (by omega)]
        unfold wS
        rw [show (8 * o + e) / 8 = o by omega, show (8 * o + e) % 8 = e by omega, show ρ (6 + o) * 8 + e = 8 * ρ (6 + o) + e by omega]
      have nc1 := cntI_bd (isC (tau ρ)) (n := 8 * o + e) (by omega)
      have ns1 := cntI_bd (isS (tau ρ)) (n := 8 * o + e) (by omega)
      have nc2 : isC (tau ρ) (8 * o + e) = true → cntI (isC (tau ρ)) (8 * o + e) < 12 := fun z => by
        have := cntI_lt (b := 8 * ρ 0) (by omega) (by omega) z
        omega
      have ns2 : isS (tau ρ) (8 * o + e) = true → cntI (isS (tau ρ)) (8 * o + e) < 12 := fun z => by
        have := cntI_lt (b := 8 * ρ 0) (by omega) (by omega) z
        omega
      -- the signs, behind the causes
      have sg : ∀ M3, Kp (fun c => c = 141 ∨ (149 ≤ c ∧ c ≤ 152)) M M3 → (∀ i, ¬ i = 12 → ¬ i = 15 → M3.1 141 i = M.1 141 i) → M3.1 141 12 = cntI (isC (tau ρ)) (8 * o + e + 1) → M3.1 141 15 = cntI (isS (tau ρ)) (8 * o + e) → (∀ g, 0 ≤ g → g < 8 * o + e + 1 → isC (tau ρ) g = true → M3.1 149 (cntI (isC (tau ρ)) g) = g / 8 ∧ M3.1 150 (cntI (isC (tau ρ)) g) = g % 8) → (∀ g, 0 ≤ g → g < 8 * o + e → isS (tau ρ) g = true → M3.1 151 (cntI (isS (tau ρ)) g) = g / 8 ∧ M3.1 152 (cntI (isS (tau ρ)) g) = g % 8) → Run C_RM_number Q 88 [vR 141, vI o, vI e, vI (8 * ρ (6 + o) + e)] [] M3 := by
        intro M3 k3 f3 a3 b3 c3 d3
        have w3 : M3.1 144 (168 + (8 * ρ (6 + o) + e)) = ρ (168 + (8 * ρ (6 + o) + e)) := by rw [k3.at (by decide)]; exact hR _ (by omega)
        simp only [r_RM_number_88, r_RM_number_89, r_RM_number_92, r_RM_number_95, r_RM_number_96, r_RM_number_97, r_RM_number_98, r_RM_number_101, r_RM_number_102, r_RM_number_105, r_RM_number_106, r_RM_number_109, r_RM_number_110, r_RM_number_111, r_RM_number_112, r_RM_number_115, r_RM_number_116, r_RM_number_119, r_RM_number_120, r_RM_number_121, r_RM_number_122, r_RM_number_123, r_RM_number_126, r_RM_number_127, r_RM_number_128, r_RM_number_131, r_RM_number_134, true_and, and_true, or_true, true_or, or_false, false_or, false_and, and_false, not_true_eq_false, not_false_eq_true, implies_true, true_implies, false_implies, w3]
        refine ⟨by omega, by omega, r32 (by omega) (by omega), fun q3 => ?_, fun q3 => ?_⟩
        · have hf : isS (tau ρ) (8 * o + e) = false := by rw [is, decide_eq_false_iff_not]; omega
          refine ih2 (by omega) M3 _ ?_
          rw [show 8 * o + (e + 1) = 8 * o + e + 1 by omega]
          refine ⟨k3, f3, a3, by rw [b3, cntI_s _ (by omega), hf]; simp, c3, fun g x y z => ?_⟩
          by_cases w : g = 8 * o + e
          · rw [w, hf] at z; exact Bool.noConfusion z
          · exact d3 g x (by omega) z
        · have hf : isS (tau ρ) (8 * o + e) = true := by rw [is, decide_eq_true_eq]; omega
          have hlt := ns2 hf
          simp (disch := decide) only [wI_c, b3]
          refine ⟨by omega, by omega, by omega, by omega, ih2 (by omega) _ _ ?_⟩
          rw [show 8 * o + (e + 1) = 8 * o + e + 1 by omega]
          refine ⟨Kp.w (Kp.w (Kp.w k3 (by decide)) (by decide)) (by decide), fun i x y => ?_, ?_, ?_, fun g x y z => ?_, fun g x y z => ?_⟩
          · rw [wI_oth y, wI_c (by decide), wI_c (by decide)]; exact f3 i x y
          · rw [wI_oth (by decide), wI_c (by decide), wI_c (by decide)]; exact a3
          · rw [wI_same, cntI_s _ (by omega), hf]; rfl
          · simp (disch := decide) only [wI_c]; exact c3 g x y z
          · simp (disch := decide) only [wI_c]
            rw [wI_at, wI_at]
            by_cases w : g = 8 * o + e
            · rw [w, if_pos ⟨rfl, rfl⟩, if_pos ⟨rfl, rfl⟩]; omega
            · have hne : ¬ cntI (isS (tau ρ)) g = cntI (isS (tau ρ)) (8 * o + e) := fun u => w (cntI_inj x (by omega) z hf u)
              rw [if_neg (fun u => hne u.2), if_neg (fun u => hne u.2)]
              try simp (disch := decide) only [wI_c]
              exact d3 g x (by omega) z
      rw [w1]
      refine ⟨by omega, by omega, ?_⟩
      simp only [r_RM_number_55, r_RM_number_58, r_RM_number_59, r_RM_number_62, r_RM_number_63, r_RM_number_66, r_RM_number_67, r_RM_number_68, r_RM_number_69, r_RM_number_72, r_RM_number_73, r_RM_number_76, r_RM_number_77, r_RM_number_78, r_RM_number_79, r_RM_number_80, r_RM_number_83, r_RM_number_84, r_RM_number_85, true_and, and_true, or_true, true_or, or_false, false_or, false_and, and_false, not_true_eq_false, not_false_eq_true, implies_true, true_implies, false_implies]
      refine ⟨r32 (by omega) (by omega), fun q3 => ?_, fun q3 => ?_⟩
      · have hf : isC (tau ρ) (8 * o + e) = false := by rw [ic, decide_eq_false_iff_not]; omega
        refine sg M2 k2 f2 (by rw [a2, cntI_s _ (by omega), hf]; simp) b2 (fun g x y z => ?_) d2
        by_cases w : g = 8 * o + e
        · rw [w, hf] at z; exact Bool.noConfusion z
        · exact c2 g x (by omega) z
      · have hf : isC (tau ρ) (8 * o + e) = true := by rw [ic, decide_eq_true_eq]; omega
        have hlt := nc2 hf
        simp (disch := decide) only [wI_c, a2]
        refine ⟨by omega, by omega, by omega, by omega, sg _ (Kp.w (Kp.w (Kp.w k2 (by decide)) (by decide)) (by decide)) (fun i x y => ?_) ?_ ?_ (fun g x y z => ?_) (fun g x y z => ?_)⟩
        · rw [wI_oth x, wI_c (by decide), wI_c (by decide)]; exact f2 i x y
        · rw [wI_same, cntI_s _ (by omega), hf]; rfl
        · rw [wI_oth (by decide), wI_c (by decide), wI_c (by decide)]; exact b2
        · simp (disch := decide) only [wI_c]
          rw [wI_at, wI_at]
          by_cases w : g = 8 * o + e
          · rw [w, if_pos ⟨rfl, rfl⟩, if_pos ⟨rfl, rfl⟩]; omega
          · have hne : ¬ cntI (isC (tau ρ)) g = cntI (isC (tau ρ)) (8 * o + e) := fun u => w (cntI_inj x (by omega) z hf u)
            rw [if_neg (fun u => hne u.2), if_neg (fun u => hne u.2)]
            try simp (disch := decide) only [wI_c]
            exact c2 g x (by omega) z
        · simp (disch := decide) only [wI_c]; exact d2 g x y z
