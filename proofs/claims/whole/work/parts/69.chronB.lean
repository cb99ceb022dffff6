/-! busiest, best of the class -/
/-- t is where f is first greatest below n -/
def isFA (f : Int → Int) (n t : Int) : Prop := 0 ≤ t ∧ t < n ∧ (∀ u, 0 ≤ u → u < n → f u ≤ f t) ∧ ∀ u, 0 ≤ u → u < t → f u < f t
noncomputable def fam (f : Int → Int) (n : Int) : Int := Classical.epsilon (isFA f n)
theorem fam_u {f : Int → Int} {n t : Int} (h : isFA f n t) : fam f n = t := by
  have h2 : isFA f n (fam f n) := Classical.epsilon_spec ⟨t, h⟩
  rcases Int.lt_trichotomy (fam f n) t with q | q | q
  · have := h.2.2.2 _ h2.1 q
    have := h2.2.2.1 t h.1 h.2.1
    omega
  · exact q
  · have := h2.2.2.2 _ h.1 q
    have := h.2.2.1 _ h2.1 h2.2.1
    omega
/-- it is enough to look at candidates, if each number has one that is no greater and no worse -/
theorem fam_c {f : Int → Int} {n t : Int} {Cd : Int → Prop} (hc : ∀ c, Cd c → 0 ≤ c ∧ c < n) (hd : ∀ u, 0 ≤ u → u < n → ∃ c, Cd c ∧ c ≤ u ∧ f u ≤ f c) (ht : Cd t) (hb : ∀ c, Cd c → f c < f t ∨ (f c = f t ∧ t ≤ c)) : fam f n = t := by
  refine fam_u ⟨(hc t ht).1, (hc t ht).2, fun u a b => ?_, fun u a b => ?_⟩
  · obtain ⟨c, c1, c2, c3⟩ := hd u a b
    have := hb c c1
    omega
  · obtain ⟨c, c1, c2, c3⟩ := hd u a (by have := (hc t ht).2; omega)
    have := hb c c1
    omega
theorem pk1 {fc ft fn t n c : Int} (z : ft < fn ∨ (fn = ft ∧ n < t)) (h : fc < ft ∨ (fc = ft ∧ t ≤ c)) : fc < fn ∨ (fc = fn ∧ n ≤ c) := by omega
theorem cand_max {Cd : Int → Prop} {c0 u : Int} (h : Cd c0) (h1 : c0 ≤ u) : ∃ c, Cd c ∧ c ≤ u ∧ ∀ d, Cd d → d ≤ u → d ≤ c := by
  obtain ⟨m, ⟨a, b⟩, hm⟩ := int_max (P := fun c => Cd c ∧ c ≤ u) (a := c0) (b := u) ⟨h, h1⟩ (fun t z => z.2)
  exact ⟨m, a, b, fun d x y => hm d ⟨x, y⟩⟩
theorem pc_le {a b : Int} (h : ∀ i, 0 ≤ i → bit a i = true → bit b i = true) : pcI a ≤ pcI b := cntI_mono 31 (by decide) (fun i x _ w => h i x w)
/-- the window's candidate of an entry -/
def wc (ρ : Rw) (w k : Int) : Int := if 0 < ρ (201 + 2 * k) - w + 1 then ρ (201 + 2 * k) - w + 1 else 0
def wN (ρ : Rw) (w t : Int) : Int := pcI (win ρ t (t + w))
theorem wc_dom {ρ : Rw} (hV : VR ρ) {w : Int} (w0 : 1 ≤ w) (u : Int) (u0 : 0 ≤ u) : ∃ c, (c = 0 ∨ ∃ k, 0 ≤ k ∧ k < ρ 3 ∧ c = wc ρ w k) ∧ c ≤ u ∧ wN ρ w u ≤ wN ρ w c := by
  obtain ⟨c, c1, c2, c3⟩ := cand_max (Cd := fun c => c = 0 ∨ ∃ k, 0 ≤ k ∧ k < ρ 3 ∧ c = wc ρ w k) (c0 := 0) (u := u) (Or.inl rfl) u0
  refine ⟨c, c1, c2, pc_le (fun i i0 z => ?_)⟩
  have h3 := hV.2.2.2.1
  unfold win at z ⊢
  rw [win_bit hV _ _ i0 (ρ 3) h3.1 (Int.le_refl _)] at z ⊢
  obtain ⟨k, k0, k1, k2, k3, k4⟩ := z
  refine ⟨k, k0, k1, by omega, ?_, k4⟩
  have hk : wc ρ w k ≤ u := by unfold wc; split <;> omega
  have := c3 (wc ρ w k) (Or.inr ⟨k, k0, k1, rfl⟩) hk
  unfold wc at this
  split at this <;> omega
theorem busiestFrom_s {ρ : Rw} {M : Mem} (hV : VR ρ) (hX : XR M 1 ρ) {w : Int} (w0 : 1 ≤ w) (w1 : w < 1000) : Cal Y_Cr_busiestFrom [vR 123, vI w] M (fun r M' => r = some (vI (fam (wN ρ w) 1000)) ∧ M' = M) := by
  have h3 := hV.2.2.2.1
  have e3 : M.1 1 3 = ρ 3 := hX.1 3 (by decide) (by decide)
  have hb0 := win_b hV 0 (0 + w)
  have wcb : ∀ k, 0 ≤ k → k < ρ 3 → 0 ≤ wc ρ w k ∧ wc ρ w k < 1000 := fun k a b => by
    have := hV.2.2.2.2.2.2.2.2.2.1 k a b
    unfold wc
    split <;> omega
  refine Cal.mk (y := Y_Cr_busiestFrom) (loc := [vR 123, vI w, vN, vN, vN, vN, vN]) G_Cr_busiestFrom rfl (by decide) rfl rfl (Nat.le_of_ble_eq_true rfl) ?_
  simp only [r_Cr_busiestFrom_0, r_Cr_busiestFrom_1, r_Cr_busiestFrom_2, r_Cr_busiestFrom_3, r_Cr_busiestFrom_4, r_Cr_busiestFrom_5, r_Cr_busiestFrom_8, true_and, and_true, or_true, true_or, or_false, false_or, false_and, and_false, not_true_eq_false, not_false_eq_true, implies_true, true_implies, false_implies]
  refine Cal.I (signsWithin_s hV hX (r32 (by decide) (by decide)) (r32 (by omega) (by omega))) (Cal.I (bitCount_s M hb0.1 (by omega)) ?_)
  simp only [r_Cr_busiestFrom_11, r_Cr_busiestFrom_12, r_Cr_busiestFrom_13, true_and, and_true, or_true, true_or, or_false, false_or, false_and, and_false, not_true_eq_false, not_false_eq_true, implies_true, true_implies, false_implies]
  refine up_loop (lo := 0) (hi := ρ 3) (P := fun n => ∀ t l5 l6, (t = 0 ∨ ∃ k, 0 ≤ k ∧ k < n ∧ t = wc ρ w k) → (∀ c, (c = 0 ∨ ∃ k, 0 ≤ k ∧ k < n ∧ c = wc ρ w k) → wN ρ w c < wN ρ w t ∨ (wN ρ w c = wN ρ w t ∧ t ≤ c)) → Run C_Cr_busiestFrom (fun r M' => r = some (vI (fam (wN ρ w) 1000)) ∧ M' = M) 15 [vR 123, vI w, vI t, vI (wN ρ w t), vI n, l5, l6] [] M) (fun n n0 n1 ih t l5 l6 ht hb => ?_) h3.1 0 _ _ (Or.inl rfl) (fun c z => ?_)
  · have hpb := pcI_bd (win ρ t (t + w))
    have htb : 0 ≤ t ∧ t < 1000 := by
      rcases ht with rfl | ⟨k, a, b, rfl⟩
      · decide
      · exact wcb k a (by omega)
    rw [r_Cr_busiestFrom_15]
    simp only [r_Cr_busiestFrom_17, r_Cr_busiestFrom_18, r_Cr_busiestFrom_21, r_Cr_busiestFrom_24, r_Cr_busiestFrom_27, r_Cr_busiestFrom_28, r_Cr_busiestFrom_29, r_Cr_busiestFrom_32, r_Cr_busiestFrom_35, r_Cr_busiestFrom_37, r_Cr_busiestFrom_38, r_Cr_busiestFrom_39, r_Cr_busiestFrom_40, r_Cr_busiestFrom_41, r_Cr_busiestFrom_42, r_Cr_busiestFrom_45, r_Cr_busiestFrom_47, r_Cr_busiestFrom_48, r_Cr_busiestFrom_50, r_Cr_busiestFrom_51, true_and, and_true, or_true, true_or, or_false, false_or, false_and, and_false, not_true_eq_false, not_false_eq_true, implies_true, true_implies, false_implies, e3]
    refine ⟨r32 (by omega) (by omega), r32 (by omega) (by omega), fun q => ?_, fun q => ⟨n0, by omega, ?_⟩⟩
    · simp only [r_Cr_busiestFrom_89, r_Cr_busiestFrom_90, true_and, and_true, or_true, true_or, or_false, false_or, false_and, and_false, not_true_eq_false, not_false_eq_true, implies_true, true_implies, false_implies]
      rw [show n = ρ 3 by omega] at ht hb
      rw [fam_c (Cd := fun c => c = 0 ∨ ∃ k, 0 ≤ k ∧ k < ρ 3 ∧ c = wc ρ w k) (fun c z => ?_) (fun u a b => wc_dom hV w0 u a) ht hb]
      rcases z with rfl | ⟨k, a, b, rfl⟩
      · decide
      · exact wcb k a b
    · have hv := hV.2.2.2.2.2.2.2.2.2.1 n n0 (by omega)
      have e8 : M.1 8 n = ρ (201 + 2 * n) := hX.2.2.2.2.2.2.2 n n0 (by omega)
      rw [e8, show (if 0 < ρ (201 + 2 * n) - w + 1 then ρ (201 + 2 * n) - w + 1 else 0) = wc ρ w n from rfl]
      have hcb := wcb n n0 (by omega)
      have hwb := win_b hV (wc ρ w n) (wc ρ w n + w)
      have hpb2 := pcI_bd (win ρ (wc ρ w n) (wc ρ w n + w))
      refine ⟨r32 (by decide) (by decide), r32 (by omega) (by omega), Cal.I (signsWithin_s hV hX (r32 (by omega) (by omega)) (r32 (by omega) (by omega))) ?_⟩
      simp only [r_Cr_busiestFrom_54, true_and, and_true, or_true, true_or, or_false, false_or, false_and, and_false, not_true_eq_false, not_false_eq_true, implies_true, true_implies, false_implies]
      refine Cal.I (bitCount_s M hwb.1 (by omega)) ?_
      rw [show pcI (win ρ (wc ρ w n) (wc ρ w n + w)) = wN ρ w (wc ρ w n) from rfl] at hpb2 ⊢
      rw [show pcI (win ρ t (t + w)) = wN ρ w t from rfl] at hpb
      simp only [r_Cr_busiestFrom_57, r_Cr_busiestFrom_59, r_Cr_busiestFrom_61, r_Cr_busiestFrom_62, r_Cr_busiestFrom_65, r_Cr_busiestFrom_67, r_Cr_busiestFrom_68, r_Cr_busiestFrom_71, r_Cr_busiestFrom_73, r_Cr_busiestFrom_74, r_Cr_busiestFrom_77, r_Cr_busiestFrom_79, r_Cr_busiestFrom_80, r_Cr_busiestFrom_82, r_Cr_busiestFrom_83, r_Cr_busiestFrom_86, true_and, and_true, or_true, true_or, or_false, false_or, false_and, and_false, not_true_eq_false, not_false_eq_true, implies_true, true_implies, false_implies]
      have keep : ¬ (wN ρ w t < wN ρ w (wc ρ w n) ∨ (wN ρ w (wc ρ w n) = wN ρ w t ∧ wc ρ w n < t)) → Run C_Cr_busiestFrom (fun r M' => r = some (vI (fam (wN ρ w) 1000)) ∧ M' = M) 15 [vR 123, vI w, vI t, vI (wN ρ w t), vI (n + 1), vI (wc ρ w n), vI (wN ρ w (wc ρ w n))] [] M := fun z => by
        refine ih (by omega) t _ _ ?_ (fun c hc => ?_)
        · rcases ht with y | ⟨k, a, b, y⟩
          · exact Or.inl y
          · exact Or.inr ⟨k, a, by omega, y⟩
        · rcases hc with y | ⟨k, a, b, y⟩
          · exact hb c (Or.inl y)
          · by_cases e : k = n
            · rw [y, e]; omega
            · exact hb c (Or.inr ⟨k, a, by omega, y⟩)
      have take : (wN ρ w t < wN ρ w (wc ρ w n) ∨ (wN ρ w (wc ρ w n) = wN ρ w t ∧ wc ρ w n < t)) → Run C_Cr_busiestFrom (fun r M' => r = some (vI (fam (wN ρ w) 1000)) ∧ M' = M) 15 [vR 123, vI w, vI (wc ρ w n), vI (wN ρ w (wc ρ w n)), vI (n + 1), vI (wc ρ w n), vI (wN ρ w (wc ρ w n))] [] M := fun z => by
        refine ih (by omega) (wc ρ w n) _ _ (Or.inr ⟨n, n0, by omega, rfl⟩) (fun c hc => ?_)
        have old : (c = 0 ∨ ∃ k, 0 ≤ k ∧ k < n ∧ c = wc ρ w k) → wN ρ w c < wN ρ w (wc ρ w n) ∨ (wN ρ w c = wN ρ w (wc ρ w n) ∧ wc ρ w n ≤ c) := fun y => pk1 z (hb c y)
        rcases hc with y | ⟨k, a, b, y⟩
        · exact old (Or.inl y)
        · by_cases e : k = n
          · rw [y, e]; exact Or.inr ⟨rfl, Int.le_refl _⟩
          · exact old (Or.inr ⟨k, a, by omega, y⟩)
      refine ⟨r32 (by omega) (by omega), r32 (by omega) (by omega), fun q2 => take (Or.inl (by omega)), fun q2 => ⟨r32 (by omega) (by omega), r32 (by omega) (by omega), fun q3 => keep (by omega), fun q3 => ⟨r32 (by omega) (by omega), r32 (by omega) (by omega), fun q4 => keep (by omega), fun q4 => take (Or.inr (by omega))⟩⟩⟩
  · rcases z with rfl | ⟨k, a, b, -⟩
    · exact Or.inr ⟨rfl, Int.le_refl _⟩
    · omega
noncomputable def q_busiest (ρ : Rw) (w x : Int) : Int := if ¬ (1 ≤ w ∧ w < 1000) ∨ (x < 0 ∨ 2 ≤ x) then -1 else if x = 0 then fam (wN ρ w) 1000 else wN ρ w (fam (wN ρ w) 1000)
/-- there is such a number -/
theorem fam_ex (f : Int → Int) {n : Int} (hn : 0 < n) : isFA f n (fam f n) := by
  have key : ∀ m : Int, 0 ≤ m → m < n → ∃ t, isFA f (m + 1) t := by
    refine int_ind (fun _ => ⟨0, by decide, by decide, fun u a b => by rw [show u = 0 by omega]; exact Int.le_refl _, fun u a b => by omega⟩) (fun m hm ih h => ?_)
    obtain ⟨t, a, b, c, d⟩ := ih (by omega)
    rcases Int.lt_or_le (f t) (f (m + 1)) with q | q
    · refine ⟨m + 1, by omega, by omega, fun u x y => ?_, fun u x y => ?_⟩
      · by_cases e : u = m + 1
        · rw [e]; exact Int.le_refl _
        · have := c u x (by omega); omega
      · have := c u x (by omega); omega
    · refine ⟨t, a, by omega, fun u x y => ?_, d⟩
      by_cases e : u = m + 1
      · rw [e]; exact q
      · exact c u x (by omega)
  obtain ⟨t, h⟩ := key (n - 1) (by omega) (by omega)
  rw [show n - 1 + 1 = n by omega] at h
  exact Classical.epsilon_spec (p := isFA f n) ⟨t, h⟩
theorem X_busiest {σ : St} {M : Mem} (h : XI σ M) (hV : VS σ) {w x : Int} (hw : R32 w) (hx : R32 x) : Cal Y_CB_busiest [vR 0, vI w, vI x] M (Qx (q_busiest σ.1 w x, σ) M) := by
  have hf := fam_ex (wN σ.1 w) (n := 1000) (by decide)
  have hf1 := hf.1
  have hf2 := hf.2.1
  refine Cal.mk (y := Y_CB_busiest) (loc := [vR 0, vI w, vI x, vN]) G_CB_busiest rfl (by decide) rfl rfl (Nat.le_of_ble_eq_true rfl) ?_
  simp only [r_CB_busiest_0, r_CB_busiest_1, r_CB_busiest_4, r_CB_busiest_7, r_CB_busiest_8, r_CB_busiest_9, r_CB_busiest_12, r_CB_busiest_15, r_CB_busiest_16, r_CB_busiest_17, r_CB_busiest_18, r_CB_busiest_21, r_CB_busiest_22, true_and, and_true, or_true, true_or, or_false, false_or, false_and, and_false, not_true_eq_false, not_false_eq_true, implies_true, true_implies, false_implies]
  refine (isWidth_s M hw).Be (fun q => ?_) (fun q => Qx.q h Kp.rf (by unfold q_busiest; rw [if_pos (Or.inl q)]))
  refine out_eq hx R2 (fun q2 => Qx.q h Kp.rf (by unfold q_busiest; rw [if_pos (Or.inr q2)])) (fun q2 => ?_)
  have ee : q_busiest σ.1 w x = if x = 0 then fam (wN σ.1 w) 1000 else wN σ.1 w (fam (wN σ.1 w) 1000) := if_neg (by omega)
  refine Cal.I (busiestFrom_s hV.1 h.1 q.1 q.2) ?_
  simp only [r_CB_busiest_25, r_CB_busiest_26, r_CB_busiest_27, r_CB_busiest_30, r_CB_busiest_31, r_CB_busiest_34, r_CB_busiest_35, r_CB_busiest_38, r_CB_busiest_39, r_CB_busiest_40, r_CB_busiest_43, r_CB_busiest_46, true_and, and_true, or_true, true_or, or_false, false_or, false_and, and_false, not_true_eq_false, not_false_eq_true, implies_true, true_implies, false_implies]
  have hwb := win_b hV.1 (fam (wN σ.1 w) 1000) (fam (wN σ.1 w) 1000 + w)
  refine ⟨hx, fun q3 => ?_, fun q3 => Qx.q h Kp.rf (by rw [ee, if_pos (by omega)])⟩
  exact Cal.I (signsWithin_s hV.1 h.1 (r32 (by omega) (by omega)) (r32 (by omega) (by omega))) (Cal.I (bitCount_s M hwb.1 (by omega)) (Qx.q h Kp.rf (by rw [ee, if_neg q3]; rfl)))
/-- the start's candidate of an entry -/
noncomputable def sc (ρ tm : Rw) (c k : Int) : Int := if 0 < ρ (201 + 2 * k) - sT ρ c (ρ (200 + 2 * k)) - tm 3 then ρ (201 + 2 * k) - sT ρ c (ρ (200 + 2 * k)) - tm 3 else 0
noncomputable def eN (ρ tm : Rw) (c u : Int) : Int := pcI (ex ρ tm c u)
theorem ex_bit {ρ tm : Rw} {c u k : Int} (k0 : 0 ≤ k) : bit (ex ρ tm c u) k = (decide (k < ρ 3) && exB ρ tm c u k) := bsI_bit _ k0
theorem ex_sub {ρ tm : Rw} (hm : TM tm) {c u d : Int} (u0 : 0 ≤ u) (h1 : d ≤ u) (h2 : ∀ k, 0 ≤ k → k < ρ 3 → sc ρ tm c k ≤ u → sc ρ tm c k ≤ d) : ∀ i, 0 ≤ i → bit (ex ρ tm c u) i = true → bit (ex ρ tm c d) i = true := by
  intro i i0 z
  have hm3 := hm.2.2.2
  rw [ex_bit i0, Bool.and_eq_true, decide_eq_true_eq] at z ⊢
  refine ⟨z.1, ?_⟩
  have z2 := z.2
  unfold exB at z2 ⊢
  rw [decide_eq_true_eq] at z2 ⊢
  have hk : sc ρ tm c i ≤ u := by unfold sc; split <;> omega
  have := h2 i i0 z.1 hk
  unfold sc at this
  refine ⟨z2.1, by omega, ?_⟩
  split at this <;> omega
theorem sc_dom {ρ tm : Rw} (hm : TM tm) {c : Int} (u : Int) (u0 : 0 ≤ u) : ∃ d, (d = 0 ∨ ∃ k, 0 ≤ k ∧ k < ρ 3 ∧ d = sc ρ tm c k) ∧ d ≤ u ∧ eN ρ tm c u ≤ eN ρ tm c d := by
  obtain ⟨d, c1, c2, c3⟩ := cand_max (Cd := fun d => d = 0 ∨ ∃ k, 0 ≤ k ∧ k < ρ 3 ∧ d = sc ρ tm c k) (c0 := 0) (u := u) (Or.inl rfl) u0
  exact ⟨d, c1, c2, pc_le (ex_sub hm u0 c2 (fun k a b e => c3 _ (Or.inr ⟨k, a, b, rfl⟩) e))⟩
theorem sc_bd {ρ tm : Rw} (hV : VR ρ) (hm : TM tm) (c : Int) {k : Int} (a : 0 ≤ k) (b : k < ρ 3) : 0 ≤ sc ρ tm c k ∧ sc ρ tm c k < 1000 := by
  have hv := hV.2.2.2.2.2.2.2.2.2.1 k a b
  have hs := sT_bd hV (c := c) hv.1 hv.2.1
  have hm3 := hm.2.2.2
  unfold sc
  split <;> omega
theorem earliestStart_s {ρ tm : Rw} {M : Mem} (h : DX ρ M) (hX : XR M 1 ρ) (hm : TM tm) (ht : ∀ i, 0 ≤ i → i < 4 → M.1 96 i = tm i) {c k : Int} (c0 : 0 ≤ c) (c1 : c < nC ρ) (k0 : 0 ≤ k) (k1 : k < ρ 3) : Cal Y_Cr_earliestStart [vR 123, vI c, vI k] M (fun r M' => r = some (vI (sc ρ tm c k)) ∧ M' = M) := by
  have hV := h.1
  have h3 := hV.2.2.2.1
  have hv := hV.2.2.2.2.2.2.2.2.2.1 k k0 k1
  have hs := sT_bd hV (c := c) hv.1 hv.2.1
  have e7 : M.1 7 k = ρ (200 + 2 * k) := hX.2.2.2.2.2.2.1 k k0 (by omega)
  have e8 : M.1 8 k = ρ (201 + 2 * k) := hX.2.2.2.2.2.2.2 k k0 (by omega)
  have t3 := ht 3 (by decide) (by decide)
  have hm3 := hm.2.2.2
  refine Cal.mk (y := Y_Cr_earliestStart) (loc := [vR 123, vI c, vI k, vN]) G_Cr_earliestStart rfl (by decide) rfl rfl (Nat.le_of_ble_eq_true rfl) ?_
  simp only [r_Cr_earliestStart_0, r_Cr_earliestStart_1, r_Cr_earliestStart_4, r_Cr_earliestStart_5, r_Cr_earliestStart_6, r_Cr_earliestStart_9, r_Cr_earliestStart_12, r_Cr_earliestStart_13, r_Cr_earliestStart_14, true_and, and_true, or_true, true_or, or_false, false_or, false_and, and_false, not_true_eq_false, not_false_eq_true, implies_true, true_implies, false_implies, e7]
  refine ⟨k0, by omega, Cal.I (signTime_s h c0 c1 hv.1 hv.2.1) ?_⟩
  simp only [r_Cr_earliestStart_17, r_Cr_earliestStart_18, r_Cr_earliestStart_19, r_Cr_earliestStart_20, r_Cr_earliestStart_23, r_Cr_earliestStart_26, r_Cr_earliestStart_27, r_Cr_earliestStart_28, r_Cr_earliestStart_29, r_Cr_earliestStart_30, r_Cr_earliestStart_31, r_Cr_earliestStart_34, r_Cr_earliestStart_35, r_Cr_earliestStart_36, r_Cr_earliestStart_37, r_Cr_earliestStart_40, true_and, and_true, or_true, true_or, or_false, false_or, false_and, and_false, not_true_eq_false, not_false_eq_true, implies_true, true_implies, false_implies, e8, t3]
  exact ⟨k0, by omega, by decide, by decide, r32 (by decide) (by decide), r32 (by omega) (by omega), rfl⟩
theorem bestStart_s {ρ tm : Rw} {M : Mem} (h : DX ρ M) (hX : XR M 1 ρ) (hm : TM tm) (hT : ∀ i, 0 ≤ i → i < 4 → M.1 96 i = tm i) {c : Int} (c0 : 0 ≤ c) (c1 : c < nC ρ) : Cal Y_Cr_bestStart [vR 123, vI c] M (fun r M' => r = some (vI (fam (eN ρ tm c) 1000)) ∧ M' = M) := by
  have hV := h.1
  have h3 := hV.2.2.2.1
  have e3 : M.1 1 3 = ρ 3 := hX.1 3 (by decide) (by decide)
  have hb0 := ex_bd (tm := tm) hV c 0
  have wcb : ∀ k, 0 ≤ k → k < ρ 3 → 0 ≤ sc ρ tm c k ∧ sc ρ tm c k < 1000 := fun k a b => sc_bd hV hm c a b
  refine Cal.mk (y := Y_Cr_bestStart) (loc := [vR 123, vI c, vN, vN, vN, vN, vN]) G_Cr_bestStart rfl (by decide) rfl rfl (Nat.le_of_ble_eq_true rfl) ?_
  simp only [r_Cr_bestStart_0, r_Cr_bestStart_1, r_Cr_bestStart_2, r_Cr_bestStart_3, r_Cr_bestStart_4, r_Cr_bestStart_5, r_Cr_bestStart_8, true_and, and_true, or_true, true_or, or_false, false_or, false_and, and_false, not_true_eq_false, not_false_eq_true, implies_true, true_implies, false_implies]
  refine Cal.I (explained_s h hX hm hT c0 c1 (by decide) (by decide)) (Cal.I (bitCount_s M hb0.1 (by omega)) ?_)
  simp only [r_Cr_bestStart_11, r_Cr_bestStart_12, r_Cr_bestStart_13, true_and, and_true, or_true, true_or, or_false, false_or, false_and, and_false, not_true_eq_false, not_false_eq_true, implies_true, true_implies, false_implies]
  refine up_loop (lo := 0) (hi := ρ 3) (P := fun n => ∀ t l5 l6, (t = 0 ∨ ∃ k, 0 ≤ k ∧ k < n ∧ t = sc ρ tm c k) → (∀ d, (d = 0 ∨ ∃ k, 0 ≤ k ∧ k < n ∧ d = sc ρ tm c k) → eN ρ tm c d < eN ρ tm c t ∨ (eN ρ tm c d = eN ρ tm c t ∧ t ≤ d)) → Run C_Cr_bestStart (fun r M' => r = some (vI (fam (eN ρ tm c) 1000)) ∧ M' = M) 15 [vR 123, vI c, vI t, vI (eN ρ tm c t), vI n, l5, l6] [] M) (fun n n0 n1 ih t l5 l6 ht hb => ?_) h3.1 0 _ _ (Or.inl rfl) (fun d z => ?_)
  · have hpb : 0 ≤ eN ρ tm c t ∧ eN ρ tm c t ≤ 31 := pcI_bd _
    have htb : 0 ≤ t ∧ t < 1000 := by
      rcases ht with rfl | ⟨k, a, b, rfl⟩
      · decide
      · exact wcb k a (by omega)
    rw [r_Cr_bestStart_15]
    simp only [r_Cr_bestStart_17, r_Cr_bestStart_18, r_Cr_bestStart_21, r_Cr_bestStart_24, r_Cr_bestStart_27, r_Cr_bestStart_28, r_Cr_bestStart_29, r_Cr_bestStart_31, true_and, and_true, or_true, true_or, or_false, false_or, false_and, and_false, not_true_eq_false, not_false_eq_true, implies_true, true_implies, false_implies, e3]
    refine ⟨r32 (by omega) (by omega), r32 (by omega) (by omega), fun q => ?_, fun q => ?_⟩
    · simp only [r_Cr_bestStart_78, r_Cr_bestStart_79, true_and, and_true, or_true, true_or, or_false, false_or, false_and, and_false, not_true_eq_false, not_false_eq_true, implies_true, true_implies, false_implies]
      rw [show n = ρ 3 by omega] at ht hb
      rw [fam_c (Cd := fun d => d = 0 ∨ ∃ k, 0 ≤ k ∧ k < ρ 3 ∧ d = sc ρ tm c k) (fun d z => ?_) (fun u a b => sc_dom hm u a) ht hb]
      rcases z with rfl | ⟨k, a, b, rfl⟩
      · decide
      · exact wcb k a b
    · have hcb := wcb n n0 (by omega)
      have hwb := ex_bd (tm := tm) hV c (sc ρ tm c n)
      have hpb2 : 0 ≤ eN ρ tm c (sc ρ tm c n) ∧ eN ρ tm c (sc ρ tm c n) ≤ 31 := pcI_bd _
      refine Cal.I (earliestStart_s h hX hm hT c0 c1 n0 (by omega)) ?_
      simp only [r_Cr_bestStart_34, r_Cr_bestStart_36, r_Cr_bestStart_37, r_Cr_bestStart_38, r_Cr_bestStart_40, r_Cr_bestStart_43, true_and, and_true, or_true, true_or, or_false, false_or, false_and, and_false, not_true_eq_false, not_false_eq_true, implies_true, true_implies, false_implies]
      refine Cal.I (explained_s h hX hm hT c0 c1 hcb.1 hcb.2) (Cal.I (bitCount_s M hwb.1 (by omega)) ?_)
      rw [show pcI (ex ρ tm c (sc ρ tm c n)) = eN ρ tm c (sc ρ tm c n) from rfl]
      simp only [r_Cr_bestStart_46, r_Cr_bestStart_48, r_Cr_bestStart_50, r_Cr_bestStart_51, r_Cr_bestStart_54, r_Cr_bestStart_56, r_Cr_bestStart_57, r_Cr_bestStart_60, r_Cr_bestStart_62, r_Cr_bestStart_63, r_Cr_bestStart_66, r_Cr_bestStart_68, r_Cr_bestStart_69, r_Cr_bestStart_71, r_Cr_bestStart_72, r_Cr_bestStart_75, true_and, and_true, or_true, true_or, or_false, false_or, false_and, and_false, not_true_eq_false, not_false_eq_true, implies_true, true_implies, false_implies]
      have keep : ¬ (eN ρ tm c t < eN ρ tm c (sc ρ tm c n) ∨ (eN ρ tm c (sc ρ tm c n) = eN ρ tm c t ∧ sc ρ tm c n < t)) → Run C_Cr_bestStart (fun r M' => r = some (vI (fam (eN ρ tm c) 1000)) ∧ M' = M) 15 [vR 123, vI c, vI t, vI (eN ρ tm c t), vI (n + 1), vI (sc ρ tm c n), vI (eN ρ tm c (sc ρ tm c n))] [] M := fun z => by
        refine ih (by omega) t _ _ ?_ (fun d hc => ?_)
        · rcases ht with y | ⟨k, a, b, y⟩
          · exact Or.inl y
          · exact Or.inr ⟨k, a, by omega, y⟩
        · rcases hc with y | ⟨k, a, b, y⟩
          · exact hb d (Or.inl y)
          · by_cases e : k = n
            · rw [y, e]; omega
            · exact hb d (Or.inr ⟨k, a, by omega, y⟩)
      have take : (eN ρ tm c t < eN ρ tm c (sc ρ tm c n) ∨ (eN ρ tm c (sc ρ tm c n) = eN ρ tm c t ∧ sc ρ tm c n < t)) → Run C_Cr_bestStart (fun r M' => r = some (vI (fam (eN ρ tm c) 1000)) ∧ M' = M) 15 [vR 123, vI c, vI (sc ρ tm c n), vI (eN ρ tm c (sc ρ tm c n)), vI (n + 1), vI (sc ρ tm c n), vI (eN ρ tm c (sc ρ tm c n))] [] M := fun z => by
        refine ih (by omega) (sc ρ tm c n) _ _ (Or.inr ⟨n, n0, by omega, rfl⟩) (fun d hc => ?_)
        have old : (d = 0 ∨ ∃ k, 0 ≤ k ∧ k < n ∧ d = sc ρ tm c k) → eN ρ tm c d < eN ρ tm c (sc ρ tm c n) ∨ (eN ρ tm c d = eN ρ tm c (sc ρ tm c n) ∧ sc ρ tm c n ≤ d) := fun y => pk1 z (hb d y)
        rcases hc with y | ⟨k, a, b, y⟩
        · exact old (Or.inl y)
        · by_cases e : k = n
          · rw [y, e]; exact Or.inr ⟨rfl, Int.le_refl _⟩
          · exact old (Or.inr ⟨k, a, by omega, y⟩)
      refine ⟨r32 (by omega) (by omega), r32 (by omega) (by omega), fun q2 => take (Or.inl (by omega)), fun q2 => ⟨r32 (by omega) (by omega), r32 (by omega) (by omega), fun q3 => keep (by omega), fun q3 => ⟨r32 (by omega) (by omega), r32 (by omega) (by omega), fun q4 => keep (by omega), fun q4 => take (Or.inr (by omega))⟩⟩⟩
  · rcases z with rfl | ⟨k, a, b, -⟩
    · exact Or.inr ⟨rfl, Int.le_refl _⟩
    · omega
noncomputable def q_best (ρ tm : Rw) (c x : Int) : Int := if (c < 0 ∨ nC ρ ≤ c) ∨ (x < 0 ∨ 2 ≤ x) then -1 else if x = 0 then fam (eN ρ tm c) 1000 else eN ρ tm c (fam (eN ρ tm c) 1000)
theorem X_best {σ : St} {M : Mem} (h : XI σ M) (hV : VS σ) {c x : Int} (hc : R32 c) (hx : R32 x) : Cal Y_CB_best [vR 0, vI c, vI x] M (Qx (q_best σ.1 σ.2.2.2.1 c x, σ) M) := by
  have hf := fam_ex (eN σ.1 σ.2.2.2.1 c) (n := 1000) (by decide)
  have hf1 := hf.1
  have hf2 := hf.2.1
  refine Cal.mk (y := Y_CB_best) (loc := [vR 0, vI c, vI x, vN]) G_CB_best rfl (by decide) rfl rfl (Nat.le_of_ble_eq_true rfl) ?_
  simp only [r_CB_best_0, r_CB_best_1, r_CB_best_2, r_CB_best_5, r_CB_best_8, r_CB_best_9, r_CB_best_10, r_CB_best_13, r_CB_best_16, r_CB_best_17, r_CB_best_18, r_CB_best_19, r_CB_best_22, true_and, and_true, or_true, true_or, or_false, false_or, false_and, and_false, not_true_eq_false, not_false_eq_true, implies_true, true_implies, false_implies]
  refine (noSuchCause_s hV h hc).Bn (fun q => Qx.q h Kp.rf (by unfold q_best; rw [if_pos (Or.inl q)])) (fun q => ?_)
  refine out_eq hx R2 (fun q2 => Qx.q h Kp.rf (by unfold q_best; rw [if_pos (Or.inr q2)])) (fun q2 => ?_)
  have ee : q_best σ.1 σ.2.2.2.1 c x = if x = 0 then fam (eN σ.1 σ.2.2.2.1 c) 1000 else eN σ.1 σ.2.2.2.1 c (fam (eN σ.1 σ.2.2.2.1 c) 1000) := if_neg (by omega)
  refine (X_renew hV h).mono ?_
  rintro _ M1 ⟨rfl, h1, k1⟩
  have kk := k1.x (fun c z => by omega)
  simp only [r_CB_best_25, r_CB_best_26, r_CB_best_29, r_CB_best_30, true_and, and_true, or_true, true_or, or_false, false_or, false_and, and_false, not_true_eq_false, not_false_eq_true, implies_true, true_implies, false_implies]
  refine Cal.I (bestStart_s (h1.dx hV) h1.1.1 hV.tm h1.1.2.2.2.2.2.1 (by omega) (by omega)) ?_
  simp only [r_CB_best_33, r_CB_best_34, r_CB_best_35, r_CB_best_38, r_CB_best_39, r_CB_best_42, r_CB_best_43, r_CB_best_46, r_CB_best_47, r_CB_best_48, r_CB_best_51, r_CB_best_54, true_and, and_true, or_true, true_or, or_false, false_or, false_and, and_false, not_true_eq_false, not_false_eq_true, implies_true, true_implies, false_implies]
  have hwb := ex_bd (tm := σ.2.2.2.1) hV.1 c (fam (eN σ.1 σ.2.2.2.1 c) 1000)
  refine ⟨hx, fun q3 => ?_, fun q3 => Qx.q h1.1 kk (by rw [ee, if_pos (by omega)])⟩
  exact Cal.I (explained_s (h1.dx hV) h1.1.1 hV.tm h1.1.2.2.2.2.2.1 (by omega) (by omega) hf1 hf2) (Cal.I (bitCount_s M1 hwb.1 (by omega)) (Qx.q h1.1 kk (by rw [ee, if_neg q3]; rfl)))
