/-! the class's Chronicle: cuts, explains -/
theorem win_bit {ρ : Rw} (hV : VR ρ) (a b : Int) {s : Int} (s0 : 0 ≤ s) : ∀ n, 0 ≤ n → n ≤ ρ 3 → (bit (foI (winS ρ a b) 0 n) s = true ↔ ∃ k, 0 ≤ k ∧ k < n ∧ a ≤ ρ (201 + 2 * k) ∧ ρ (201 + 2 * k) < b ∧ ρ (200 + 2 * k) = s) := by
  refine int_ind (fun _ => ?_) (fun n hn ih h => ?_)
  · rw [foI_0, bit_0]
    exact ⟨fun z => Bool.noConfusion z, fun ⟨k, x, y, _⟩ => by omega⟩
  · have hv := hV.2.2.2.2.2.2.2.2.2.1 n hn (by omega)
    have hb := win_bd hV a b n hn (by omega)
    have hp := p2_12 (nS_bd hV).2
    have hs := nS_bd hV
    have hq := p2_lt hv.1 (show ρ (200 + 2 * n) < 12 by omega)
    have hq0 := p2_pos (ρ (200 + 2 * n))
    have e12 : p2 12 = 4096 := by decide
    rw [foI_s _ _ hn]
    by_cases q : a ≤ ρ (201 + 2 * n) ∧ ρ (201 + 2 * n) < b
    · rw [show winS ρ a b n (foI (winS ρ a b) 0 n) = ior (foI (winS ρ a b) 0 n) (p2 (ρ (200 + 2 * n))) from if_pos q, bit_ior hb.1 (by omega) (by omega) (by omega), Bool.or_eq_true, ih (by omega), bit_p2 hv.1 s0, decide_eq_true_eq]
      constructor
      · rintro (⟨k, x, y, z⟩ | z)
        · exact ⟨k, x, by omega, z⟩
        · exact ⟨n, hn, by omega, q.1, q.2, z.symm⟩
      · rintro ⟨k, x, y, z1, z2, z3⟩
        by_cases e : k = n
        · rw [e] at z3; exact Or.inr z3.symm
        · exact Or.inl ⟨k, x, by omega, z1, z2, z3⟩
    · rw [show winS ρ a b n (foI (winS ρ a b) 0 n) = foI (winS ρ a b) 0 n from if_neg q, ih (by omega)]
      constructor
      · rintro ⟨k, x, y, z⟩; exact ⟨k, x, by omega, z⟩
      · rintro ⟨k, x, y, z1, z2, z3⟩
        by_cases e : k = n
        · rw [e] at z1 z2; exact absurd ⟨z1, z2⟩ q
        · exact ⟨k, x, by omega, z1, z2, z3⟩
theorem win_b {ρ : Rw} (hV : VR ρ) (a b : Int) : 0 ≤ win ρ a b ∧ win ρ a b < p2 (nS ρ) ∧ win ρ a b < 4096 := by
  have h := win_bd hV a b (ρ 3) hV.2.2.2.1.1 (Int.le_refl _)
  have := p2_12 (nS_bd hV).2
  unfold win
  omega
/-- the earliest time of the log from t on -/
def efF (ρ : Rw) (t k : Int) : Int := if t ≤ ρ (201 + 2 * k) then ρ (201 + 2 * k) else 1000000
def ef (ρ : Rw) (t : Int) : Int := mn (efF ρ t) 1000000 (ρ 3)
theorem efF_bd {ρ : Rw} (hV : VR ρ) (t : Int) {k : Int} (k0 : 0 ≤ k) (k1 : k < ρ 3) : 0 ≤ efF ρ t k ∧ efF ρ t k ≤ 1000000 := by
  have := hV.2.2.2.2.2.2.2.2.2.1 k k0 k1
  unfold efF
  split <;> omega
theorem ef_sp {ρ : Rw} (hV : VR ρ) (t : Int) : 0 ≤ ef ρ t ∧ (ef ρ t = 1000000 ∨ (ef ρ t ≤ 999 ∧ t ≤ ef ρ t ∧ ∃ k, 0 ≤ k ∧ k < ρ 3 ∧ ρ (201 + 2 * k) = ef ρ t)) ∧ ∀ k, 0 ≤ k → k < ρ 3 → t ≤ ρ (201 + 2 * k) → ef ρ t ≤ ρ (201 + 2 * k) := by
  have h3 := hV.2.2.2.1
  have hm := mn_sp (efF ρ t) 1000000 (ρ 3) h3.1
  have he : ef ρ t = mn (efF ρ t) 1000000 (ρ 3) := rfl
  have hn := mn_nn (f := efF ρ t) (z := 1000000) h3.1 (by decide) (fun k a b => (efF_bd hV t a b).1)
  refine ⟨by omega, ?_, fun k a b c => ?_⟩
  · rcases hm.2.2 with z | ⟨k, a, b, c⟩
    · exact Or.inl (by omega)
    · have hv := hV.2.2.2.2.2.2.2.2.2.1 k a b
      by_cases q : t ≤ ρ (201 + 2 * k)
      · have e : efF ρ t k = ρ (201 + 2 * k) := if_pos q
        exact Or.inr ⟨by omega, by omega, k, a, b, by omega⟩
      · have e : efF ρ t k = 1000000 := if_neg q
        exact Or.inl (by omega)
  · have := hm.2.1 k a b
    have e : efF ρ t k = ρ (201 + 2 * k) := if_pos c
    omega
theorem earliestFrom_s {ρ : Rw} {M : Mem} (hV : VR ρ) (hX : XR M 1 ρ) {t : Int} (ht : R32 t) : Cal Y_Cr_earliestFrom [vR 123, vI t] M (fun r M' => r = some (vI (ef ρ t)) ∧ M' = M) := by
  have h3 := hV.2.2.2.1
  have e3 : M.1 1 3 = ρ 3 := hX.1 3 (by decide) (by decide)
  refine Cal.mk (y := Y_Cr_earliestFrom) (loc := [vR 123, vI t, vN, vN]) G_Cr_earliestFrom rfl (by decide) rfl rfl (Nat.le_of_ble_eq_true rfl) ?_
  simp only [r_Cr_earliestFrom_0, r_Cr_earliestFrom_2, r_Cr_earliestFrom_3, r_Cr_earliestFrom_4, true_and, and_true, or_true, true_or, or_false, false_or, false_and, and_false, not_true_eq_false, not_false_eq_true, implies_true, true_implies, false_implies]
  refine up_loop (lo := 0) (hi := ρ 3) (P := fun k => Run C_Cr_earliestFrom (fun r M' => r = some (vI (ef ρ t)) ∧ M' = M) 5 [vR 123, vI t, vI (mn (efF ρ t) 1000000 k), vI k] [] M) (fun k k0 k1 ih => ?_) h3.1
  have hn := mn_nn (f := efF ρ t) (z := 1000000) k0 (by decide) (fun j a b => (efF_bd hV t a (by omega)).1)
  rw [r_Cr_earliestFrom_5]
  simp only [r_Cr_earliestFrom_6, r_Cr_earliestFrom_7, r_Cr_earliestFrom_10, r_Cr_earliestFrom_13, r_Cr_earliestFrom_16, r_Cr_earliestFrom_17, r_Cr_earliestFrom_20, r_Cr_earliestFrom_23, r_Cr_earliestFrom_24, r_Cr_earliestFrom_25, r_Cr_earliestFrom_26, r_Cr_earliestFrom_29, r_Cr_earliestFrom_30, r_Cr_earliestFrom_31, r_Cr_earliestFrom_34, r_Cr_earliestFrom_37, r_Cr_earliestFrom_38, r_Cr_earliestFrom_39, r_Cr_earliestFrom_42, r_Cr_earliestFrom_43, r_Cr_earliestFrom_46, r_Cr_earliestFrom_49, r_Cr_earliestFrom_50, true_and, and_true, or_true, true_or, or_false, false_or, false_and, and_false, not_true_eq_false, not_false_eq_true, implies_true, true_implies, false_implies, e3]
  refine ⟨r32 (by omega) (by omega), r32 (by omega) (by omega), fun q => ?_, fun q => ⟨k0, by omega, ?_⟩⟩
  · rw [show k = ρ 3 by omega]; rfl
  · have hv := hV.2.2.2.2.2.2.2.2.2.1 k k0 (by omega)
    have e8 : M.1 8 k = ρ (201 + 2 * k) := hX.2.2.2.2.2.2.2 k k0 (by omega)
    have hih := ih (by omega)
    rw [mn_s _ _ k0] at hih
    rw [e8]
    refine ⟨r32 (by omega) (by omega), ht, fun q2 => ?_, fun q2 => ⟨k0, by omega, r32 (by omega) (by omega), r32 (by omega) (by omega), ?_⟩⟩
    · rw [show efF ρ t k = 1000000 from if_neg (by omega), if_neg (by omega)] at hih
      exact hih
    · rw [show efF ρ t k = ρ (201 + 2 * k) from if_pos (by omega)] at hih
      exact hih
/-- where the n-th cut begins -/
def ct (ρ : Rw) (w n : Int) : Int := foI (fun _ acc => ef ρ (acc + w)) (ef ρ 0) n
theorem ct_0 (ρ : Rw) (w : Int) : ct ρ w 0 = ef ρ 0 := rfl
theorem ct_s (ρ : Rw) (w : Int) {n : Int} (hn : 0 ≤ n) : ct ρ w (n + 1) = ef ρ (ct ρ w n + w) := by unfold ct; rw [foI_s _ _ hn]
theorem ct_sp {ρ : Rw} (hV : VR ρ) {w : Int} (w0 : 1 ≤ w) : ∀ n, 0 ≤ n → 0 ≤ ct ρ w n ∧ (ct ρ w n = 1000000 ∨ (ct ρ w n ≤ 999 ∧ n + 1 ≤ cntI (fun k => decide (ρ (201 + 2 * k) ≤ ct ρ w n)) (ρ 3))) := by
  have h3 := hV.2.2.2.1
  have step : ∀ t u m : Int, (∀ k, 0 ≤ k → k < ρ 3 → ρ (201 + 2 * k) ≤ t → ρ (201 + 2 * k) < u) → m ≤ cntI (fun k => decide (ρ (201 + 2 * k) ≤ t)) (ρ 3) → t < u → 0 ≤ ef ρ u ∧ (ef ρ u = 1000000 ∨ (ef ρ u ≤ 999 ∧ m + 1 ≤ cntI (fun k => decide (ρ (201 + 2 * k) ≤ ef ρ u)) (ρ 3))) := by
    intro t u m h1 h2 h4
    obtain ⟨a, b, c⟩ := ef_sp hV u
    refine ⟨a, ?_⟩
    rcases b with z | ⟨z1, z2, k, k0, k1, k2⟩
    · exact Or.inl z
    · refine Or.inr ⟨z1, ?_⟩
      have := cntI_strict (p := fun k => decide (ρ (201 + 2 * k) ≤ t)) (q := fun k => decide (ρ (201 + 2 * k) ≤ ef ρ u)) (ρ 3) h3.1 (fun i x y z => by
        rw [decide_eq_true_eq] at z ⊢; omega) ⟨k, k0, k1, by rw [decide_eq_false_iff_not]; omega, by rw [decide_eq_true_eq]; omega⟩
      omega
  refine int_ind ?_ (fun n hn ih => ?_)
  · have := step (-1) 0 0 (fun k x y z => by omega) (cntI_bd _ h3.1).1 (by decide)
    rw [ct_0]; exact this
  · rw [ct_s ρ w hn]
    rcases ih.2 with z | ⟨z1, z2⟩
    · obtain ⟨a, b, c⟩ := ef_sp hV (ct ρ w n + w)
      refine ⟨a, Or.inl ?_⟩
      rcases b with y | ⟨y1, y2, -⟩
      · exact y
      · omega
    · exact step (ct ρ w n) (ct ρ w n + w) (n + 1) (fun k x y z => by omega) z2 (by omega)
theorem ct_fin {ρ : Rw} (hV : VR ρ) {w : Int} (w0 : 1 ≤ w) {n : Int} (h : 20 ≤ n) : ct ρ w n = 1000000 := by
  have h3 := hV.2.2.2.1
  rcases (ct_sp hV w0 n (by omega)).2 with z | ⟨z1, z2⟩
  · exact z
  · have := (cntI_bd (fun k => decide (ρ (201 + 2 * k) ≤ ct ρ w n)) h3.1).2
    omega
theorem ct_up {ρ : Rw} (hV : VR ρ) {w : Int} (w0 : 1 ≤ w) {n : Int} (n0 : 0 ≤ n) (h : ct ρ w n = 1000000) : ∀ j, 0 ≤ j → ct ρ w (n + j) = 1000000 := by
  refine int_ind (by rw [Int.add_zero]; exact h) (fun j hj ih => ?_)
  rw [show n + (j + 1) = n + j + 1 by omega, ct_s ρ w (by omega), ih]
  rcases (ef_sp hV (1000000 + w)).2.1 with y | ⟨y1, y2, -⟩
  · exact y
  · omega
/-- how many cuts -/
def cc (ρ : Rw) (w : Int) : Int := cntI (fun n => decide (ct ρ w n < 1000000)) 20
theorem cc_n {ρ : Rw} (hV : VR ρ) {w : Int} (w0 : 1 ≤ w) {n : Int} (n0 : 0 ≤ n) (n1 : n ≤ 20) (h : ∀ j, 0 ≤ j → j < n → ct ρ w j < 1000000) (he : ct ρ w n = 1000000) : cc ρ w = n := by
  unfold cc
  rw [cnt_gap (a := n) n0 n1 (fun k a b => ?_)]
  · have key : ∀ m : Int, 0 ≤ m → m ≤ n → cntI (fun n => decide (ct ρ w n < 1000000)) m = m := by
      refine int_ind (fun _ => rfl) (fun m hm ih hmn => ?_)
      rw [cntI_s _ hm, ih (by omega), if_pos (by rw [decide_eq_true_eq]; exact h m hm (by omega))]
    exact key n n0 (Int.le_refl _)
  · have := ct_up hV w0 n0 he (k - n) (by omega)
    rw [show n + (k - n) = k by omega] at this
    rw [decide_eq_false_iff_not, this]; decide
theorem cutCount_s {ρ : Rw} {M : Mem} (hV : VR ρ) (hX : XR M 1 ρ) {w : Int} (w0 : 1 ≤ w) (w1 : w < 1000) : Cal Y_Cr_cutCount [vR 123, vI w] M (fun r M' => r = some (vI (cc ρ w)) ∧ M' = M) := by
  refine Cal.mk (y := Y_Cr_cutCount) (loc := [vR 123, vI w, vN, vN, vN]) G_Cr_cutCount rfl (by decide) rfl rfl (Nat.le_of_ble_eq_true rfl) ?_
  simp only [r_Cr_cutCount_0, r_Cr_cutCount_1, r_Cr_cutCount_2, r_Cr_cutCount_3, r_Cr_cutCount_4, true_and, and_true, or_true, true_or, or_false, false_or, false_and, and_false, not_true_eq_false, not_false_eq_true, implies_true, true_implies, false_implies]
  refine Cal.I (earliestFrom_s hV hX (r32 (by decide) (by decide))) ?_
  simp only [r_Cr_cutCount_7, r_Cr_cutCount_8, r_Cr_cutCount_9, true_and, and_true, or_true, true_or, or_false, false_or, false_and, and_false, not_true_eq_false, not_false_eq_true, implies_true, true_implies, false_implies]
  rw [show ef ρ 0 = ct ρ w 0 from rfl]
  refine up_loop (lo := 0) (hi := 20) (P := fun n => (∀ j, 0 ≤ j → j < n → ct ρ w j < 1000000) → Run C_Cr_cutCount (fun r M' => r = some (vI (cc ρ w)) ∧ M' = M) 11 [vR 123, vI w, vI n, vI (ct ρ w n), vI n] [] M) (fun n n0 n1 ih hj => ?_) (by decide) (fun j a b => by omega)
  have hc := ct_sp hV w0 n n0
  rw [r_Cr_cutCount_11]
  simp only [r_Cr_cutCount_13, r_Cr_cutCount_15, r_Cr_cutCount_18, r_Cr_cutCount_19, r_Cr_cutCount_21, r_Cr_cutCount_24, r_Cr_cutCount_27, r_Cr_cutCount_28, r_Cr_cutCount_29, r_Cr_cutCount_30, r_Cr_cutCount_31, r_Cr_cutCount_34, r_Cr_cutCount_35, r_Cr_cutCount_38, r_Cr_cutCount_41, r_Cr_cutCount_42, true_and, and_true, or_true, true_or, or_false, false_or, false_and, and_false, not_true_eq_false, not_false_eq_true, implies_true, true_implies, false_implies]
  refine ⟨r32 (by omega) (by omega), r32 (by decide) (by decide), fun q => ?_, fun q => ⟨r32 (by omega) (by omega), r32 (by decide) (by decide), fun q2 => ?_, fun q2 => ?_⟩⟩
  · rw [cc_n hV w0 n0 n1 hj (ct_fin hV w0 (by omega))]
  · rw [cc_n hV w0 n0 n1 hj q2]
  · refine Cal.I (earliestFrom_s hV hX (r32 (by omega) (by omega))) ?_
    rw [← ct_s ρ w n0]
    refine ih (by omega) (fun j a b => ?_)
    by_cases z : j = n
    · rw [z]; omega
    · exact hj j a (by omega)
theorem cutBegin_s {ρ : Rw} {M : Mem} (hV : VR ρ) (hX : XR M 1 ρ) {w i : Int} (w0 : 1 ≤ w) (w1 : w < 1000) (i0 : 0 ≤ i) (i1 : i < 20) : Cal Y_Cr_cutBegin [vR 123, vI w, vI i] M (fun r M' => r = some (vI (ct ρ w i)) ∧ M' = M) := by
  refine Cal.mk (y := Y_Cr_cutBegin) (loc := [vR 123, vI w, vI i, vN, vN]) G_Cr_cutBegin rfl (by decide) rfl rfl (Nat.le_of_ble_eq_true rfl) ?_
  simp only [r_Cr_cutBegin_0, r_Cr_cutBegin_1, r_Cr_cutBegin_2, true_and, and_true, or_true, true_or, or_false, false_or, false_and, and_false, not_true_eq_false, not_false_eq_true, implies_true, true_implies, false_implies]
  refine Cal.I (earliestFrom_s hV hX (r32 (by decide) (by decide))) ?_
  simp only [r_Cr_cutBegin_5, r_Cr_cutBegin_6, r_Cr_cutBegin_7, true_and, and_true, or_true, true_or, or_false, false_or, false_and, and_false, not_true_eq_false, not_false_eq_true, implies_true, true_implies, false_implies]
  rw [show ef ρ 0 = ct ρ w 0 from rfl]
  refine up_loop (lo := 0) (hi := i) (P := fun n => Run C_Cr_cutBegin (fun r M' => r = some (vI (ct ρ w i)) ∧ M' = M) 9 [vR 123, vI w, vI i, vI (ct ρ w n), vI n] [] M) (fun n n0 n1 ih => ?_) i0
  have hc := ct_sp hV w0 n n0
  rw [r_Cr_cutBegin_9]
  simp only [r_Cr_cutBegin_11, r_Cr_cutBegin_12, r_Cr_cutBegin_15, r_Cr_cutBegin_17, r_Cr_cutBegin_19, r_Cr_cutBegin_22, r_Cr_cutBegin_23, r_Cr_cutBegin_24, r_Cr_cutBegin_25, r_Cr_cutBegin_26, r_Cr_cutBegin_29, r_Cr_cutBegin_30, r_Cr_cutBegin_33, r_Cr_cutBegin_36, r_Cr_cutBegin_37, true_and, and_true, or_true, true_or, or_false, false_or, false_and, and_false, not_true_eq_false, not_false_eq_true, implies_true, true_implies, false_implies]
  refine ⟨r32 (by omega) (by omega), r32 (by omega) (by omega), fun q => ?_, fun q => ⟨r32 (by omega) (by omega), r32 (by decide) (by decide), fun q2 => by omega, fun q2 => ?_⟩⟩
  · rw [show n = i by omega]
  · refine Cal.I (earliestFrom_s hV hX (r32 (by omega) (by omega))) ?_
    rw [← ct_s ρ w n0]
    exact ih (by omega)
theorem cc_bd (ρ : Rw) (w : Int) : 0 ≤ cc ρ w ∧ cc ρ w ≤ 20 := cntI_bd _ (by decide)
theorem cc_lt {ρ : Rw} (hV : VR ρ) {w : Int} (w0 : 1 ≤ w) {i : Int} (i0 : 0 ≤ i) (h : i < cc ρ w) : ct ρ w i < 1000000 := by
  rcases (ct_sp hV w0 i i0).2 with z | z
  · exfalso
    have h1 := cc_bd ρ w
    have h2 : cc ρ w ≤ i := by
      unfold cc
      rw [cnt_gap (a := i) i0 (by omega) (fun k a b => ?_)]
      · exact (cntI_bd _ i0).2
      · have := ct_up hV w0 i0 z (k - i) (by omega)
        rw [show i + (k - i) = k by omega] at this
        rw [decide_eq_false_iff_not, this]; decide
    omega
  · omega
noncomputable def q_cuts (ρ : Rw) (w i x : Int) : Int := if ¬ (1 ≤ w ∧ w < 1000) ∨ i < -1 then -1 else if i = -1 then cc ρ w else if cc ρ w ≤ i ∨ (x < 0 ∨ 3 ≤ x) then -1 else if x = 0 then ct ρ w i else if x = 1 then win ρ (ct ρ w i) (ct ρ w i + w) else fb (nr ρ (win ρ (ct ρ w i) (ct ρ w i + w)))
theorem X_cuts {σ : St} {M : Mem} (h : XI σ M) (hV : VS σ) {w i x : Int} (hw : R32 w) (hi : R32 i) (hx : R32 x) : Cal Y_CB_cuts [vR 0, vI w, vI i, vI x] M (Qx (q_cuts σ.1 w i x, σ) M) := by
  refine Cal.mk (y := Y_CB_cuts) (loc := [vR 0, vI w, vI i, vI x, vN, vN, vN]) G_CB_cuts rfl (by decide) rfl rfl (Nat.le_of_ble_eq_true rfl) ?_
  simp only [r_CB_cuts_0, r_CB_cuts_1, r_CB_cuts_4, r_CB_cuts_7, r_CB_cuts_8, r_CB_cuts_9, r_CB_cuts_12, r_CB_cuts_13, r_CB_cuts_14, r_CB_cuts_15, r_CB_cuts_18, r_CB_cuts_19, true_and, and_true, or_true, true_or, or_false, false_or, false_and, and_false, not_true_eq_false, not_false_eq_true, implies_true, true_implies, false_implies]
  refine (isWidth_s M hw).Be (fun q => ⟨hi, r32 (by decide) (by decide), fun q1 => ?_, fun q1 => Qx.q h Kp.rf (by unfold q_cuts; rw [if_pos (by omega)])⟩) (fun q => Qx.q h Kp.rf (by unfold q_cuts; rw [if_pos (Or.inl q)]))
  have ee : q_cuts σ.1 w i x = if i = -1 then cc σ.1 w else if cc σ.1 w ≤ i ∨ (x < 0 ∨ 3 ≤ x) then -1 else if x = 0 then ct σ.1 w i else if x = 1 then win σ.1 (ct σ.1 w i) (ct σ.1 w i + w) else fb (nr σ.1 (win σ.1 (ct σ.1 w i) (ct σ.1 w i + w))) := if_neg (by omega)
  have hcb := cc_bd σ.1 w
  refine Cal.I (cutCount_s hV.1 h.1 q.1 q.2) ?_
  simp only [r_CB_cuts_22, r_CB_cuts_24, r_CB_cuts_25, r_CB_cuts_26, r_CB_cuts_29, r_CB_cuts_31, r_CB_cuts_32, r_CB_cuts_33, r_CB_cuts_35, r_CB_cuts_38, r_CB_cuts_39, r_CB_cuts_40, r_CB_cuts_43, r_CB_cuts_46, r_CB_cuts_47, r_CB_cuts_48, r_CB_cuts_49, r_CB_cuts_52, r_CB_cuts_53, r_CB_cuts_54, true_and, and_true, or_true, true_or, or_false, false_or, false_and, and_false, not_true_eq_false, not_false_eq_true, implies_true, true_implies, false_implies]
  refine ⟨hi, r32 (by decide) (by decide), fun q2 => ⟨hi, r32 (by omega) (by omega), fun q3 => Qx.q h Kp.rf (by rw [ee, if_neg q2, if_pos (Or.inl (by omega))]), fun q3 => ?_⟩, fun q2 => Qx.q h Kp.rf (by rw [ee, if_pos (by omega)])⟩
  refine out_eq hx R3 (fun q4 => Qx.q h Kp.rf (by rw [ee, if_neg q2, if_pos (Or.inr q4)])) (fun q4 => ?_)
  rw [if_neg q2, if_neg (by omega)] at ee
  have hlt := cc_lt hV.1 q.1 (i := i) (by omega) (by omega)
  have hct := ct_sp hV.1 q.1 i (by omega)
  refine Cal.I (cutBegin_s hV.1 h.1 q.1 q.2 (by omega) (by omega)) ?_
  simp only [r_CB_cuts_57, r_CB_cuts_59, r_CB_cuts_60, r_CB_cuts_63, r_CB_cuts_65, r_CB_cuts_66, r_CB_cuts_67, r_CB_cuts_70, r_CB_cuts_72, r_CB_cuts_73, true_and, and_true, or_true, true_or, or_false, false_or, false_and, and_false, not_true_eq_false, not_false_eq_true, implies_true, true_implies, false_implies]
  refine ⟨hx, fun q5 => ?_, fun q5 => Qx.q h Kp.rf (by rw [ee, if_pos (by omega)])⟩
  refine Cal.I (signsWithin_s hV.1 h.1 (r32 (by omega) (by omega)) (r32 (by omega) (by omega))) ?_
  simp only [r_CB_cuts_76, r_CB_cuts_78, r_CB_cuts_79, r_CB_cuts_80, r_CB_cuts_83, r_CB_cuts_85, r_CB_cuts_86, r_CB_cuts_87, r_CB_cuts_90, true_and, and_true, or_true, true_or, or_false, false_or, false_and, and_false, not_true_eq_false, not_false_eq_true, implies_true, true_implies, false_implies]
  refine ⟨hx, r32 (by decide) (by decide), fun q6 => ?_, fun q6 => Qx.q h Kp.rf (by rw [ee, if_neg q5, if_pos (by omega)])⟩
  have hwb := win_b hV.1 (ct σ.1 w i) (ct σ.1 w i + w)
  refine (X_renew hV h).mono ?_
  rintro _ M1 ⟨rfl, h1, k1⟩
  simp only [r_CB_cuts_93, r_CB_cuts_94, r_CB_cuts_97, r_CB_cuts_99, r_CB_cuts_102, r_CB_cuts_105, true_and, and_true, or_true, true_or, or_false, false_or, false_and, and_false, not_true_eq_false, not_false_eq_true, implies_true, true_implies, false_implies]
  refine (nearestTo_s (h1.dx hV) hwb.1 hwb.2.2).mono ?_
  rintro _ M2 ⟨rfl, e2, k2⟩
  have h2 := h1.kp k2 (fun c a => by omega) (fun c a b => by omega) (fun c a b => by omega)
  have hn := nr_bd hV.1 (win σ.1 (ct σ.1 w i) (ct σ.1 w i + w))
  exact ⟨_, rfl, Cal.I (firstOf_s M2 hn.1 hn.2.2) (Qx.q h2.1 ((k1.x (fun c z => by omega)).trans (k2.x (fun c z => by omega))) (by rw [ee, if_neg q5, if_neg q6]))⟩
/-- entries that a cause begun at a start explains -/
noncomputable def exB (ρ tm : Rw) (c u k : Int) : Bool := decide (sT ρ c (ρ (200 + 2 * k)) < 1000000 ∧ - tm 3 ≤ ρ (201 + 2 * k) - u - sT ρ c (ρ (200 + 2 * k)) ∧ ρ (201 + 2 * k) - u - sT ρ c (ρ (200 + 2 * k)) ≤ tm 3)
noncomputable def ex (ρ tm : Rw) (c u : Int) : Int := bsI (exB ρ tm c u) (ρ 3)
theorem ex_bd {ρ tm : Rw} (hV : VR ρ) (c u : Int) : 0 ≤ ex ρ tm c u ∧ ex ρ tm c u < p2 (ρ 3) ∧ ex ρ tm c u < 1048576 := by
  have h := bsI_bd (exB ρ tm c u) (ρ 3)
  have h3 := hV.2.2.2.1
  have hp := p2_mono (show ρ 3 ≤ 20 by omega)
  have e : p2 20 = 1048576 := by decide
  unfold ex
  omega
theorem explained_s {ρ tm : Rw} {M : Mem} (h : DX ρ M) (hX : XR M 1 ρ) (hm : TM tm) (ht : ∀ i, 0 ≤ i → i < 4 → M.1 96 i = tm i) {c u : Int} (c0 : 0 ≤ c) (c1 : c < nC ρ) (u0 : 0 ≤ u) (u1 : u < 1000) : Cal Y_Cr_explained [vR 123, vI c, vI u] M (fun r M' => r = some (vI (ex ρ tm c u)) ∧ M' = M) := by
  have hV := h.1
  have h3 := hV.2.2.2.1
  have e3 : M.1 1 3 = ρ 3 := hX.1 3 (by decide) (by decide)
  have t3 := ht 3 (by decide) (by decide)
  have hm3 := hm.2.2.2
  refine Cal.mk (y := Y_Cr_explained) (loc := [vR 123, vI c, vI u, vN, vN, vN]) G_Cr_explained rfl (by decide) rfl rfl (Nat.le_of_ble_eq_true rfl) ?_
  simp only [r_Cr_explained_0, r_Cr_explained_1, r_Cr_explained_2, r_Cr_explained_3, true_and, and_true, or_true, true_or, or_false, false_or, false_and, and_false, not_true_eq_false, not_false_eq_true, implies_true, true_implies, false_implies]
  refine up_loop (lo := 0) (hi := ρ 3) (P := fun k => ∀ l5, Run C_Cr_explained (fun r M' => r = some (vI (ex ρ tm c u)) ∧ M' = M) 5 [vR 123, vI c, vI u, vI (bsI (exB ρ tm c u) k), vI k, l5] [] M) (fun k k0 k1 ih l5 => ?_) h3.1 _
  rw [r_Cr_explained_5]
  simp only [r_Cr_explained_7, r_Cr_explained_8, r_Cr_explained_11, r_Cr_explained_14, r_Cr_explained_17, r_Cr_explained_18, r_Cr_explained_21, r_Cr_explained_22, r_Cr_explained_23, r_Cr_explained_26, r_Cr_explained_29, r_Cr_explained_31, r_Cr_explained_32, r_Cr_explained_35, r_Cr_explained_37, r_Cr_explained_39, r_Cr_explained_41, r_Cr_explained_44, r_Cr_explained_45, r_Cr_explained_48, r_Cr_explained_51, r_Cr_explained_53, r_Cr_explained_54, r_Cr_explained_55, r_Cr_explained_56, r_Cr_explained_58, r_Cr_explained_59, r_Cr_explained_62, r_Cr_explained_63, r_Cr_explained_66, r_Cr_explained_67, r_Cr_explained_68, r_Cr_explained_71, r_Cr_explained_72, r_Cr_explained_73, r_Cr_explained_75, r_Cr_explained_76, r_Cr_explained_77, r_Cr_explained_78, r_Cr_explained_81, true_and, and_true, or_true, true_or, or_false, false_or, false_and, and_false, not_true_eq_false, not_false_eq_true, implies_true, true_implies, false_implies, e3, p2_def]
  refine ⟨r32 (by omega) (by omega), r32 (by omega) (by omega), fun q => ?_, fun q => ⟨k0, by omega, ?_⟩⟩
  · simp only [r_Cr_explained_84, r_Cr_explained_85, true_and, and_true, or_true, true_or, or_false, false_or, false_and, and_false, not_true_eq_false, not_false_eq_true, implies_true, true_implies, false_implies]
    rw [show k = ρ 3 by omega]; rfl
  · have hv := hV.2.2.2.2.2.2.2.2.2.1 k k0 (by omega)
    have e7 : M.1 7 k = ρ (200 + 2 * k) := hX.2.2.2.2.2.2.1 k k0 (by omega)
    have e8 : M.1 8 k = ρ (201 + 2 * k) := hX.2.2.2.2.2.2.2 k k0 (by omega)
    have hs := sT_bd hV (c := c) hv.1 hv.2.1
    rw [e7]
    refine Cal.I (signTime_s h c0 c1 hv.1 hv.2.1) ?_
    have hih := ih (by omega) (vI (sT ρ c (ρ (200 + 2 * k))))
    rw [bsI_s k0 (by omega)] at hih
    rw [e8, t3]
    refine ⟨r32 (by omega) (by omega), r32 (by decide) (by decide), fun q2 => ?_, fun q2 => ⟨k0, by omega, r32 (by omega) (by omega), by decide, by decide, ?_⟩⟩
    · rw [if_neg (by unfold exB; rw [decide_eq_true_eq]; omega)] at hih
      exact hih
    · refine ⟨by split <;> exact r32 (by omega) (by omega), r32 (by omega) (by omega), fun q3 => ?_, fun q3 => ⟨⟨k0, by omega⟩, ?_⟩⟩
      · rw [if_neg (by
          unfold exB
          rw [decide_eq_true_eq]
          split at q3 <;> omega)] at hih
        exact hih
      · rw [if_pos (by
          unfold exB
          rw [decide_eq_true_eq]
          split at q3 <;> omega)] at hih
        exact hih
noncomputable def q_explains (ρ tm : Rw) (c u : Int) : Int := if (c < 0 ∨ nC ρ ≤ c) ∨ (u < 0 ∨ 1000 ≤ u) then -1 else pcI (ex ρ tm c u)
theorem X_explains {σ : St} {M : Mem} (h : XI σ M) (hV : VS σ) {c u : Int} (hc : R32 c) (hu : R32 u) : Cal Y_CB_explains [vR 0, vI c, vI u] M (Qx (q_explains σ.1 σ.2.2.2.1 c u, σ) M) := by
  refine Cal.mk (y := Y_CB_explains) (loc := [vR 0, vI c, vI u]) G_CB_explains rfl (by decide) rfl rfl (Nat.le_of_ble_eq_true rfl) ?_
  simp only [r_CB_explains_0, r_CB_explains_1, r_CB_explains_2, r_CB_explains_5, r_CB_explains_8, r_CB_explains_9, r_CB_explains_12, r_CB_explains_15, r_CB_explains_18, r_CB_explains_19, r_CB_explains_20, r_CB_explains_21, r_CB_explains_24, true_and, and_true, or_true, true_or, or_false, false_or, false_and, and_false, not_true_eq_false, not_false_eq_true, implies_true, true_implies, false_implies]
  refine (noSuchCause_s hV h hc).Bn (fun q => Qx.q h Kp.rf (by unfold q_explains; rw [if_pos (Or.inl q)])) (fun q => ?_)
  refine out_eq hu R1000 (fun q2 => Qx.q h Kp.rf (by unfold q_explains; rw [if_pos (Or.inr q2)])) (fun q2 => ?_)
  refine (X_renew hV h).mono ?_
  rintro _ M1 ⟨rfl, h1, k1⟩
  have hb := ex_bd (tm := σ.2.2.2.1) hV.1 c u
  simp only [r_CB_explains_27, r_CB_explains_28, r_CB_explains_31, r_CB_explains_32, r_CB_explains_33, r_CB_explains_36, r_CB_explains_39, true_and, and_true, or_true, true_or, or_false, false_or, false_and, and_false, not_true_eq_false, not_false_eq_true, implies_true, true_implies, false_implies]
  exact Cal.I (explained_s (h1.dx hV) h1.1.1 hV.tm h1.1.2.2.2.2.2.1 (by omega) (by omega) (by omega) (by omega)) (Cal.I (bitCount_s M1 hb.1 (by omega)) (Qx.q h1.1 (k1.x (fun c z => by omega)) (by unfold q_explains; rw [if_neg (by omega)])))
