/-! the reference: explains, busiest, best -/
def FI (f : Int → Int) (t v m : Int) : Prop := (∀ u, 0 ≤ u → u < t → f u ≤ m) ∧ ((m = 0 ∧ v = 0) ∨ (0 ≤ v ∧ v < t ∧ m = f v ∧ ∀ u, 0 ≤ u → u < v → f u < m))
theorem FI.z (f : Int → Int) : FI f 0 0 0 := ⟨fun u a b => by omega, Or.inl ⟨rfl, rfl⟩⟩
theorem FI.hi {f : Int → Int} {t v m : Int} (h : FI f t v m) (t0 : 0 ≤ t) (q : m < f t) : FI f (t + 1) t (f t) := by
  refine ⟨fun u a b => ?_, Or.inr ⟨t0, by omega, rfl, fun u a b => ?_⟩⟩
  · by_cases z : u = t
    · rw [z]; exact Int.le_refl _
    · have := h.1 u a (by omega); omega
  · have := h.1 u a b; omega
theorem FI.lo {f : Int → Int} {t v m : Int} (h : FI f t v m) (q : ¬ m < f t) : FI f (t + 1) v m := by
  refine ⟨fun u a b => ?_, ?_⟩
  · by_cases z : u = t
    · rw [z]; omega
    · exact h.1 u a (by omega)
  · rcases h.2 with z | ⟨a, b, c, d⟩
    · exact Or.inl z
    · exact Or.inr ⟨a, by omega, c, d⟩
theorem FI.fin {f : Int → Int} {n v m : Int} (h : FI f n v m) (n0 : 0 < n) (hf : ∀ u, 0 ≤ f u) : v = fam f n ∧ m = f (fam f n) := by
  have key : isFA f n v ∧ m = f v := by
    rcases h.2 with ⟨a, b⟩ | ⟨a, b, c, d⟩
    · have h0 := h.1 0 (Int.le_refl _) n0
      have h1 := hf 0
      have e : f v = 0 := by rw [b]; omega
      refine ⟨⟨by omega, by omega, fun u x y => ?_, fun u x y => by omega⟩, by omega⟩
      have := h.1 u x y; omega
    · refine ⟨⟨a, b, fun u x y => ?_, fun u x y => ?_⟩, c⟩
      · have := h.1 u x y; omega
      · have := d u x y; omega
  rw [fam_u key.1]
  exact ⟨rfl, key.2⟩
theorem FI.bd {f : Int → Int} {t v m : Int} (h : FI f t v m) (t0 : 0 ≤ t) (t1 : t ≤ 1000) (hf : ∀ u, 0 ≤ f u ∧ f u ≤ 31) : 0 ≤ m ∧ m ≤ 31 ∧ 0 ≤ v ∧ v ≤ 1000 := by
  have := hf v
  rcases h.2 with ⟨a, b⟩ | ⟨a, b, c, d⟩
  · omega
  · omega
theorem M_busiest {σ : St} {M : Mem} (h : MI σ M) (hV : VS σ) {w x : Int} (hw : R32 w) (hx : R32 x) : Cal Y_RM_busiest [vR 141, vI w, vI x] M (Qm (q_busiest σ.1 w x, σ) M) := by
  have ⟨h0, k0⟩ := th0 h
  refine Cal.mk (y := Y_RM_busiest) (loc := [vR 141, vI w, vI x, vN, vN, vN, vN]) G_RM_busiest rfl (by decide) rfl rfl (Nat.le_of_ble_eq_true rfl) ?_
  simp only [r_RM_busiest_0, r_RM_busiest_1, r_RM_busiest_2, r_RM_busiest_5, r_RM_busiest_6, r_RM_busiest_7, r_RM_busiest_8, r_RM_busiest_11, r_RM_busiest_14, r_RM_busiest_17, r_RM_busiest_18, r_RM_busiest_19, r_RM_busiest_20, r_RM_busiest_21, r_RM_busiest_24, r_RM_busiest_27, r_RM_busiest_28, r_RM_busiest_29, r_RM_busiest_30, r_RM_busiest_31, r_RM_busiest_32, r_RM_busiest_34, r_RM_busiest_35, true_and, and_true, or_true, true_or, or_false, false_or, false_and, and_false, not_true_eq_false, not_false_eq_true, implies_true, true_implies, false_implies]
  generalize wI M 141 0 0 = M1 at h0 k0 ⊢
  refine ⟨hw, in_e hw.l (l64 (by decide) (by decide)) (l64 (by decide) (by decide)) (fun q => ⟨hx, in_n hx.l (l64 (by decide) (by decide)) (l64 (by decide) (by decide)) (fun q2 => ?_) (fun q2 => Qm.q h0 k0 (by unfold q_busiest; rw [if_pos (by omega)]))⟩) (fun q => Qm.q h0 k0 (by unfold q_busiest; rw [if_pos (by omega)]))⟩
  have ee : q_busiest σ.1 w x = if x = 0 then fam (wN σ.1 w) 1000 else wN σ.1 w (fam (wN σ.1 w) 1000) := if_neg (by omega)
  have hf : ∀ u, 0 ≤ wN σ.1 w u ∧ wN σ.1 w u ≤ 31 := fun u => pcI_bd _
  refine up_loop (lo := 0) (hi := 1000) (P := fun t => ∀ v m l6, FI (wN σ.1 w) t v m → Run C_RM_busiest (Qm (q_busiest σ.1 w x, σ) M) 37 [vR 141, vI w, vI x, vI v, vI m, vI t, l6] [] M1) (fun t t0 t1 ih v m l6 hI => ?_) (by decide) _ _ _ (FI.z _)
  have hb := hI.bd t0 t1 hf
  rw [r_RM_busiest_37]
  simp only [r_RM_busiest_39, r_RM_busiest_42, r_RM_busiest_45, r_RM_busiest_46, r_RM_busiest_48, r_RM_busiest_50, r_RM_busiest_51, r_RM_busiest_52, r_RM_busiest_53, r_RM_busiest_54, r_RM_busiest_57, r_RM_busiest_60, r_RM_busiest_62, r_RM_busiest_64, r_RM_busiest_66, r_RM_busiest_69, r_RM_busiest_71, r_RM_busiest_74, r_RM_busiest_75, r_RM_busiest_76, r_RM_busiest_78, r_RM_busiest_80, r_RM_busiest_83, r_RM_busiest_85, r_RM_busiest_88, r_RM_busiest_90, r_RM_busiest_92, r_RM_busiest_95, true_and, and_true, or_true, true_or, or_false, false_or, false_and, and_false, not_true_eq_false, not_false_eq_true, implies_true, true_implies, false_implies]
  refine ⟨r32 (by omega) (by omega), r32 (by decide) (by decide), fun q3 => ?_, fun q3 => ⟨r32 (by omega) (by omega), hw, ?_⟩⟩
  · simp only [r_RM_busiest_98, r_RM_busiest_99, r_RM_busiest_102, r_RM_busiest_103, r_RM_busiest_106, r_RM_busiest_108, true_and, and_true, or_true, true_or, or_false, false_or, false_and, and_false, not_true_eq_false, not_false_eq_true, implies_true, true_implies, false_implies]
    rw [show t = 1000 by omega] at hI
    have hz := hI.fin (by decide) (fun u => (hf u).1)
    exact ⟨hx, fun q4 => Qm.q h0 k0 (by rw [ee, if_neg q4]; exact hz.2), fun q4 => Qm.q h0 k0 (by rw [ee, if_pos (by omega)]; exact hz.1)⟩
  · have hwb := win_b hV.1 t (t + w)
    have hft := hf t
    refine Cal.I (signsIn_s hV.1 h0.1 (r32 (by omega) (by omega)) (by omega)) (Cal.I (bits_s M1 hwb.1 (by omega)) ?_)
    rw [show pcI (win σ.1 t (t + w)) = wN σ.1 w t from rfl]
    refine ⟨r32 (by omega) (by omega), r32 (by omega) (by omega), fun q4 => ⟨r32 (by omega) (by omega), r32 (by omega) (by omega), fun q5 => ih (by omega) _ _ _ (hI.lo (by omega)), fun q5 => by omega⟩, fun q4 => ⟨r32 (by omega) (by omega), r32 (by omega) (by omega), fun q5 => by omega, fun q5 => ih (by omega) _ _ _ (hI.hi t0 (by omega))⟩⟩
theorem rexplained_s {ρ tm : Rw} (hV : VR ρ) (hm : TM tm) {M : Mem} (hR : RR ρ M) (hN : NU ρ M) (hT : M.1 143 3 = tm 3) {c : Int} (hF : TF ρ c M) {u : Int} (u0 : 0 ≤ u) (u1 : u ≤ 999) : Cal Y_RM_explained [vR 141, vI u] M (fun r M' => r = some (vI (ex ρ tm c u)) ∧ M' = M) := by
  have h3 := hV.2.2.2.1
  have hs := nS_bd hV
  have hm3 := hm.2.2.2
  refine Cal.mk (y := Y_RM_explained) (loc := [vR 141, vI u, vN, vN, vN, vN]) G_RM_explained rfl (by decide) rfl rfl (Nat.le_of_ble_eq_true rfl) ?_
  simp only [r_RM_explained_0, r_RM_explained_1, r_RM_explained_2, r_RM_explained_3, true_and, and_true, or_true, true_or, or_false, false_or, false_and, and_false, not_true_eq_false, not_false_eq_true, implies_true, true_implies, false_implies]
  refine up_loop (lo := 0) (hi := ρ 3) (P := fun k => ∀ l4 l5, Run C_RM_explained (fun r M' => r = some (vI (ex ρ tm c u)) ∧ M' = M) 4 [vR 141, vI u, vI (bsI (exB ρ tm c u) k), vI k, l4, l5] [] M) (fun k k0 k1 ih l4 l5 => ?_) h3.1 _ _
  have hbd := bsI_bd (exB ρ tm c u) k
  have hp := p2_mono (show k ≤ 20 by omega)
  have e20 : p2 20 = 1048576 := by decide
  rw [r_RM_explained_4]
  simp only [r_RM_explained_5, r_RM_explained_6, r_RM_explained_9, r_RM_explained_10, r_RM_explained_11, r_RM_explained_14, r_RM_explained_15, r_RM_explained_16, r_RM_explained_19, r_RM_explained_22, r_RM_explained_23, r_RM_explained_24, r_RM_explained_25, r_RM_explained_26, r_RM_explained_27, r_RM_explained_100, r_RM_explained_101, true_and, and_true, or_true, true_or, or_false, false_or, false_and, and_false, not_true_eq_false, not_false_eq_true, implies_true, true_implies, false_implies, show M.1 144 3 = ρ 3 from hR 3 (by decide) (by decide)]
  refine ⟨by decide, by decide, r32 (by omega) (by omega), r32 (by omega) (by omega), fun q => ?_, fun q => ⟨by omega, by omega, ?_⟩⟩
  · rw [show k = ρ 3 by omega]; rfl
  · have hv := hV.2.2.2.2.2.2.2.2.2.1 k k0 (by omega)
    rw [hR (200 + 2 * k) (by omega) (by omega)]
    have ht := sT_bd hV (c := c) hv.1 hv.2.1
    have e1 : M.1 144 (200 + 2 * k + 1) = ρ (201 + 2 * k) := by rw [show 200 + 2 * k + 1 = 201 + 2 * k by omega]; exact hR _ (by omega) (by omega)
    refine Cal.I (rsT hV hN hF hv.1 hv.2.1) ?_
    have hih := fun l4 l5 => ih (by omega) l4 l5
    rw [bsI_s k0 (by omega)] at hih
    simp only [r_RM_explained_30, r_RM_explained_32, r_RM_explained_33, r_RM_explained_36, r_RM_explained_39, r_RM_explained_40, r_RM_explained_41, r_RM_explained_42, r_RM_explained_43, r_RM_explained_44, r_RM_explained_45, r_RM_explained_46, r_RM_explained_47, r_RM_explained_48, r_RM_explained_50, r_RM_explained_51, r_RM_explained_53, r_RM_explained_54, r_RM_explained_56, r_RM_explained_58, r_RM_explained_61, r_RM_explained_63, r_RM_explained_64, r_RM_explained_65, r_RM_explained_68, r_RM_explained_69, r_RM_explained_70, r_RM_explained_71, r_RM_explained_72, r_RM_explained_73, r_RM_explained_76, r_RM_explained_77, r_RM_explained_78, r_RM_explained_79, r_RM_explained_82, r_RM_explained_85, r_RM_explained_86, r_RM_explained_87, r_RM_explained_88, r_RM_explained_91, r_RM_explained_92, r_RM_explained_93, r_RM_explained_94, r_RM_explained_97, true_and, and_true, or_true, true_or, or_false, false_or, false_and, and_false, not_true_eq_false, not_false_eq_true, implies_true, true_implies, false_implies, e1, hT, p2_def]
    have f0 : ¬ (sT ρ c (ρ (200 + 2 * k)) < 1000000 ∧ - tm 3 ≤ ρ (201 + 2 * k) - u - sT ρ c (ρ (200 + 2 * k)) ∧ ρ (201 + 2 * k) - u - sT ρ c (ρ (200 + 2 * k)) ≤ tm 3) → ¬ exB ρ tm c u k = true := fun z => by unfold exB; rw [decide_eq_true_eq]; exact z
    have f1 : (sT ρ c (ρ (200 + 2 * k)) < 1000000 ∧ - tm 3 ≤ ρ (201 + 2 * k) - u - sT ρ c (ρ (200 + 2 * k)) ∧ ρ (201 + 2 * k) - u - sT ρ c (ρ (200 + 2 * k)) ≤ tm 3) → exB ρ tm c u k = true := fun z => by unfold exB; rw [decide_eq_true_eq]; exact z
    refine ⟨by omega, by omega, r32 (by omega) (by omega), r32 (by decide) (by decide), fun q2 => ?_, fun q2 => ⟨r32 (by omega) (by omega), by decide, by decide, r32 (by omega) (by omega), by decide, by decide, r32 (by omega) (by omega), in_e (l64 (by omega) (by omega)) (l64 (by omega) (by omega)) (l64 (by omega) (by omega)) (fun q3 => ⟨⟨k0, by omega⟩, ?_⟩) (fun q3 => ?_)⟩⟩
    · rw [if_neg (f0 (by omega))] at hih
      rw [ior_0 hbd.1 (by omega)]; exact hih _ _
    · rw [if_pos (f1 (by omega))] at hih; exact hih _ _
    · rw [if_neg (f0 (by omega))] at hih
      rw [ior_0 hbd.1 (by omega)]; exact hih _ _
theorem M_explains {σ : St} {M : Mem} (h : MI σ M) (hV : VS σ) {c u : Int} (hc : R32 c) (hu : R32 u) : Cal Y_RM_explains [vR 141, vI c, vI u] M (Qm (q_explains σ.1 σ.2.2.2.1 c u, σ) M) := by
  have hn := nC_bd hV.1
  have ⟨h0, k0⟩ := th0 h
  refine Cal.mk (y := Y_RM_explains) (loc := [vR 141, vI c, vI u]) G_RM_explains rfl (by decide) rfl rfl (Nat.le_of_ble_eq_true rfl) ?_
  simp only [r_RM_explains_0, r_RM_explains_1, r_RM_explains_2, r_RM_explains_5, r_RM_explains_6, r_RM_explains_7, r_RM_explains_10, r_RM_explains_13, r_RM_explains_14, r_RM_explains_15, r_RM_explains_16, r_RM_explains_19, r_RM_explains_22, r_RM_explains_25, r_RM_explains_26, r_RM_explains_27, r_RM_explains_28, r_RM_explains_29, r_RM_explains_30, r_RM_explains_31, true_and, and_true, or_true, true_or, or_false, false_or, false_and, and_false, not_true_eq_false, not_false_eq_true, implies_true, true_implies, false_implies, p2_def]
  refine (M_isCause hV h0 hc).Be' (fun q M1 ⟨n1, h1, k1⟩ => ⟨hu, in_n hu.l (l64 (by decide) (by decide)) (l64 (by decide) (by decide)) (fun q2 => ?_) (fun q2 => Qm.q h1 (k0.trans k1.m) (by unfold q_explains; rw [if_pos (by omega)]))⟩) (fun q M1 ⟨n1, h1, k1⟩ => Qm.q h1 (k0.trans k1.m) (by unfold q_explains; rw [if_pos (by omega)]))
  have hp := p2_pos c
  have hp2 := p2_lt (a := c) (b := 12) (by omega) (by omega)
  have e12 : p2 12 = 4096 := by decide
  refine ⟨⟨by omega, by omega⟩, (M_spreadOf hV h1 n1 (by omega) (by omega)).mono ?_⟩
  rintro _ M2 ⟨rfl, h2, n2, f2, k2, -⟩
  have kk := (k0.trans k1.m).trans k2.m
  have hx := ex_bd (tm := σ.2.2.2.1) hV.1 c u
  simp only [r_RM_explains_34, r_RM_explains_35, r_RM_explains_36, r_RM_explains_39, r_RM_explains_42, true_and, and_true, or_true, true_or, or_false, false_or, false_and, and_false, not_true_eq_false, not_false_eq_true, implies_true, true_implies, false_implies]
  exact Cal.I (rexplained_s hV.1 hV.tm h2.1 n2 (h2.2.2.2.1 3 (by decide) (by decide)) f2 (by omega) (by omega)) (Cal.I (bits_s M2 hx.1 (by omega)) (Qm.q h2 kk (by unfold q_explains; rw [if_neg (by omega)])))
theorem M_best {σ : St} {M : Mem} (h : MI σ M) (hV : VS σ) {c x : Int} (hc : R32 c) (hx : R32 x) : Cal Y_RM_best [vR 141, vI c, vI x] M (Qm (q_best σ.1 σ.2.2.2.1 c x, σ) M) := by
  have hn := nC_bd hV.1
  have ⟨h0, k0⟩ := th0 h
  refine Cal.mk (y := Y_RM_best) (loc := [vR 141, vI c, vI x, vN, vN, vN, vN]) G_RM_best rfl (by decide) rfl rfl (Nat.le_of_ble_eq_true rfl) ?_
  simp only [r_RM_best_0, r_RM_best_1, r_RM_best_2, r_RM_best_5, r_RM_best_6, r_RM_best_7, r_RM_best_10, r_RM_best_13, r_RM_best_14, r_RM_best_15, r_RM_best_16, r_RM_best_17, r_RM_best_20, r_RM_best_23, r_RM_best_24, r_RM_best_25, r_RM_best_26, r_RM_best_27, r_RM_best_28, r_RM_best_29, true_and, and_true, or_true, true_or, or_false, false_or, false_and, and_false, not_true_eq_false, not_false_eq_true, implies_true, true_implies, false_implies, p2_def]
  refine (M_isCause hV h0 hc).Be' (fun q M1 ⟨n1, h1, k1⟩ => ⟨hx, in_n hx.l (l64 (by decide) (by decide)) (l64 (by decide) (by decide)) (fun q2 => ?_) (fun q2 => Qm.q h1 (k0.trans k1.m) (by unfold q_best; rw [if_pos (by omega)]))⟩) (fun q M1 ⟨n1, h1, k1⟩ => Qm.q h1 (k0.trans k1.m) (by unfold q_best; rw [if_pos (by omega)]))
  have hp := p2_pos c
  have hp2 := p2_lt (a := c) (b := 12) (by omega) (by omega)
  have e12 : p2 12 = 4096 := by decide
  refine ⟨⟨by omega, by omega⟩, (M_spreadOf hV h1 n1 (by omega) (by omega)).mono ?_⟩
  rintro _ M2 ⟨rfl, h2, n2, f2, k2, -⟩
  have kk := (k0.trans k1.m).trans k2.m
  simp only [r_RM_best_32, r_RM_best_33, r_RM_best_34, r_RM_best_35, r_RM_best_37, r_RM_best_38, true_and, and_true, or_true, true_or, or_false, false_or, false_and, and_false, not_true_eq_false, not_false_eq_true, implies_true, true_implies, false_implies]
  have ee : q_best σ.1 σ.2.2.2.1 c x = if x = 0 then fam (eN σ.1 σ.2.2.2.1 c) 1000 else eN σ.1 σ.2.2.2.1 c (fam (eN σ.1 σ.2.2.2.1 c) 1000) := if_neg (by omega)
  have hf : ∀ u, 0 ≤ eN σ.1 σ.2.2.2.1 c u ∧ eN σ.1 σ.2.2.2.1 c u ≤ 31 := fun u => pcI_bd _
  refine up_loop (lo := 0) (hi := 1000) (P := fun t => ∀ v m l6, FI (eN σ.1 σ.2.2.2.1 c) t v m → Run C_RM_best (Qm (q_best σ.1 σ.2.2.2.1 c x, σ) M) 40 [vR 141, vI c, vI x, vI v, vI m, vI t, l6] [] M2) (fun t t0 t1 ih v m l6 hI => ?_) (by decide) _ _ _ (FI.z _)
  have hb := hI.bd t0 t1 hf
  rw [r_RM_best_40]
  simp only [r_RM_best_42, r_RM_best_45, r_RM_best_48, r_RM_best_49, r_RM_best_51, r_RM_best_54, r_RM_best_57, r_RM_best_59, r_RM_best_61, r_RM_best_63, r_RM_best_66, r_RM_best_68, r_RM_best_71, r_RM_best_72, r_RM_best_73, r_RM_best_75, r_RM_best_77, r_RM_best_80, r_RM_best_82, r_RM_best_85, r_RM_best_87, r_RM_best_89, r_RM_best_92, true_and, and_true, or_true, true_or, or_false, false_or, false_and, and_false, not_true_eq_false, not_false_eq_true, implies_true, true_implies, false_implies]
  refine ⟨r32 (by omega) (by omega), r32 (by decide) (by decide), fun q3 => ?_, fun q3 => ?_⟩
  · simp only [r_RM_best_95, r_RM_best_96, r_RM_best_99, r_RM_best_100, r_RM_best_103, r_RM_best_105, true_and, and_true, or_true, true_or, or_false, false_or, false_and, and_false, not_true_eq_false, not_false_eq_true, implies_true, true_implies, false_implies]
    rw [show t = 1000 by omega] at hI
    have hz := hI.fin (by decide) (fun u => (hf u).1)
    exact ⟨hx, fun q4 => Qm.q h2 kk (by rw [ee, if_neg q4]; exact hz.2), fun q4 => Qm.q h2 kk (by rw [ee, if_pos (by omega)]; exact hz.1)⟩
  · have hxb := ex_bd (tm := σ.2.2.2.1) hV.1 c t
    have hft := hf t
    refine Cal.I (rexplained_s hV.1 hV.tm h2.1 n2 (h2.2.2.2.1 3 (by decide) (by decide)) f2 t0 (by omega)) (Cal.I (bits_s M2 hxb.1 (by omega)) ?_)
    rw [show pcI (ex σ.1 σ.2.2.2.1 c t) = eN σ.1 σ.2.2.2.1 c t from rfl]
    refine ⟨r32 (by omega) (by omega), r32 (by omega) (by omega), fun q4 => ⟨r32 (by omega) (by omega), r32 (by omega) (by omega), fun q5 => ih (by omega) _ _ _ (hI.lo (by omega)), fun q5 => by omega⟩, fun q4 => ⟨r32 (by omega) (by omega), r32 (by omega) (by omega), fun q5 => by omega, fun q5 => ih (by omega) _ _ _ (hI.hi t0 (by omega))⟩⟩
