/-! the class's Decoder: gaps, the nearest, groups -/
/-- CODE of a cause; TIME of a sign in its spread -/
noncomputable def gC (ρ : Rw) (c : Int) : Int := cod (tau ρ) (-1) (p2 c)
noncomputable def sT (ρ : Rw) (c s : Int) : Int := sp (tau ρ) (-1) (p2 c) (sf (tau ρ) s)
theorem sf_bd {τ : Rw} (hV : VR τ) {s : Int} (h0 : 0 ≤ s) (h1 : s < nS τ) : 0 ≤ sf τ s ∧ sf τ s < 80 := by
  have h := hV.1
  have hk := kth_sp (p := isS τ) (n := 8 * τ 0) (by omega) h0 h1
  exact ⟨hk.1, by have := hk.2.1; unfold sf; omega⟩
theorem sT_bd {ρ : Rw} (hV : VR ρ) {c s : Int} (h0 : 0 ≤ s) (h1 : s < nS ρ) : 0 ≤ sT ρ c s ∧ sT ρ c s ≤ 1000000 ∧ (sT ρ c s < 1000000 → sT ρ c s ≤ 711) := by
  have hT := VR_tau hV
  have hb := sf_bd hT h0 (by rw [nS_tau hV]; exact h1)
  have h2 := sp_nn hT (-1) (p2 c) hb.1 hb.2
  exact ⟨h2.1, h2.2, fun h => sp_bd hT (-1) (p2 c) hb.1 hb.2 h⟩
theorem cod_bd {ρ : Rw} (hV : VR ρ) (w S : Int) : 0 ≤ cod (tau ρ) w S ∧ cod (tau ρ) w S < p2 (nS ρ) ∧ cod (tau ρ) w S < 4096 := by
  have hb := bsI_bd (fun s => decide (sp (tau ρ) w S (sf (tau ρ) s) < 1000000)) (nS (tau ρ))
  rw [nS_tau hV] at hb
  have := p2_12 hV.2.2.2.2.2.2.2.2.2.2.2.1
  unfold cod
  rw [nS_tau hV]
  omega
theorem gC_bd {ρ : Rw} (hV : VR ρ) (c : Int) : 0 ≤ gC ρ c ∧ gC ρ c < p2 (nS ρ) ∧ gC ρ c < 4096 := cod_bd hV _ _
theorem gC_bit {ρ : Rw} (hV : VR ρ) {c s : Int} (h0 : 0 ≤ s) (h1 : s < nS ρ) : (bit (gC ρ c) s = true ↔ sT ρ c s < 1000000) := by
  unfold gC cod
  rw [bsI_bit _ h0, nS_tau hV, decide_eq_true h1, Bool.true_and, decide_eq_true_eq]
  rfl
/-- what the searches among the causes read -/
def DX (ρ : Rw) (M : Mem) : Prop := VR ρ ∧ M.1 97 0 = nC ρ ∧ M.1 101 0 = nS ρ ∧ M.1 1 4 = ρ 4 ∧ M.1 1 5 = ρ 5 ∧ (∀ c, 0 ≤ c → c < nC ρ → M.1 112 c = gC ρ c) ∧ (∀ c s, 0 ≤ c → c < nC ρ → 0 ≤ s → s < nS ρ → M.1 113 (c * 12 + s) = sT ρ c s)
theorem DX.kp {P : Nat → Prop} {ρ : Rw} {M M' : Mem} (h : DX ρ M) (hk : Kp P M M') (h1 : ¬ P 1) (h2 : ¬ P 97) (h3 : ¬ P 101) (h4 : ¬ P 112) (h5 : ¬ P 113) : DX ρ M' := by
  have e1 := hk.c h1
  have e2 := hk.c h2
  have e3 := hk.c h3
  have e4 := hk.c h4
  have e5 := hk.c h5
  unfold DX at *
  rw [e1, e2, e3, e4, e5]; exact h
theorem XC.dx {σ : St} (hV : VS σ) {M : Mem} (h : XC σ M) : DX σ.1 M := by
  refine ⟨hV.1, XI_nC hV.1 h.1, XI_nS hV.1 h.1, h.1.1.1 4 (by decide) (by decide), h.1.1.1 5 (by decide) (by decide), fun c a b => ?_, fun c s a b x y => ?_⟩
  · exact (h.2 c a (by rw [nC_t hV]; exact b)).1
  · exact (h.2 c a (by rw [nC_t hV]; exact b)).2 s x (by rw [nS_t hV]; exact y)
theorem XC.kp {P : Nat → Prop} {σ : St} {M M' : Mem} (h : XC σ M) (hk : Kp P M M') (hP : ∀ c, c < 105 → ¬ P c) (hP2 : ∀ c, 111 ≤ c → c ≤ 115 → ¬ P c) (hP3 : ∀ c, 125 ≤ c → c ≤ 140 → ¬ P c) : XC σ M' := by
  refine ⟨h.1.kp hk hP hP2 hP3, ?_⟩
  have e4 := hk.c (hP2 112 (by decide) (by decide))
  have e5 := hk.c (hP2 113 (by decide) (by decide))
  have := h.2
  unfold CK at *
  rw [e4, e5]; exact this
theorem nS_bd {ρ : Rw} (hV : VR ρ) : 0 ≤ nS ρ ∧ nS ρ ≤ 12 := ⟨nS_nn hV.1.1, hV.2.2.2.2.2.2.2.2.2.2.2.1⟩
theorem nC_bd {ρ : Rw} (hV : VR ρ) : 0 ≤ nC ρ ∧ nC ρ ≤ 12 := ⟨nC_nn hV.1.1, hV.2.2.2.2.2.2.2.2.2.2.1⟩
theorem bk_bd {ρ : Rw} (hV : VR ρ) : 0 ≤ ρ 4 ∧ ρ 4 < 4096 := by
  have h := hV.2.2.2.2.2.2.2.2.2.2.2.2.1
  have := p2_12 (nS_bd hV).2
  omega
theorem se_bd {ρ : Rw} (hV : VR ρ) : 0 ≤ ρ 5 ∧ ρ 5 < 4096 := by
  have h := hV.2.2.2.2.2.2.2.2.2.2.2.2.2
  have := p2_12 (nS_bd hV).2
  omega
/-- by how many signs of the book two sets are apart -/
def gp (ρ : Rw) (a b : Int) : Int := pcI (iand (ixor a b) (ρ 4))
theorem pcI_bd (v : Int) : 0 ≤ pcI v ∧ pcI v ≤ 31 := cntI_bd _ (by decide)
theorem gp_bd (ρ : Rw) (a b : Int) : 0 ≤ gp ρ a b ∧ gp ρ a b ≤ 31 := pcI_bd _
theorem x12 {a b : Int} (a0 : 0 ≤ a) (a1 : a < 4096) (b0 : 0 ≤ b) (b1 : b < 4096) : 0 ≤ ixor a b ∧ ixor a b < 4096 := ixor_bd (n := 12) (by decide) a0 a1 b0 b1
theorem gap_s {ρ : Rw} {M : Mem} (hV : VR ρ) (e : M.1 1 4 = ρ 4) {a b : Int} (a0 : 0 ≤ a) (a1 : a < 4096) (b0 : 0 ≤ b) (b1 : b < 4096) : Cal Y_De_gap [vR 117, vI a, vI b] M (fun r M' => r = some (vI (gp ρ a b)) ∧ M' = M) := by
  have hx := x12 a0 a1 b0 b1
  have hb := iand_bd hx.1 (by omega) (bk_bd hV).1
  refine Cal.mk (y := Y_De_gap) (loc := [vR 117, vI a, vI b]) G_De_gap rfl (by decide) rfl rfl (Nat.le_of_ble_eq_true rfl) ?_
  simp only [r_De_gap_0, r_De_gap_1, r_De_gap_2, r_De_gap_3, r_De_gap_4, r_De_gap_7, r_De_gap_10, r_De_gap_11, r_De_gap_14, true_and, and_true, or_true, true_or, or_false, false_or, false_and, and_false, not_true_eq_false, not_false_eq_true, implies_true, true_implies, false_implies, e]
  exact Cal.I (bitCount_s M hb.1 (by omega)) ⟨rfl, rfl⟩
/-- the least of z and f 0 .. f (n-1) -/
def mnS (f : Int → Int) (k acc : Int) : Int := if f k < acc then f k else acc
def mn (f : Int → Int) (z n : Int) : Int := foI (mnS f) z n
theorem mn_0 (f : Int → Int) (z : Int) : mn f z 0 = z := rfl
theorem mn_s (f : Int → Int) (z : Int) {n : Int} (hn : 0 ≤ n) : mn f z (n + 1) = if f n < mn f z n then f n else mn f z n := by
  unfold mn
  rw [foI_s _ _ hn]; rfl
theorem mn_sp (f : Int → Int) (z : Int) : ∀ n, 0 ≤ n → mn f z n ≤ z ∧ (∀ k, 0 ≤ k → k < n → mn f z n ≤ f k) ∧ (mn f z n = z ∨ ∃ k, 0 ≤ k ∧ k < n ∧ f k = mn f z n) := by
  refine int_ind ⟨Int.le_refl _, fun k a b => by omega, Or.inl rfl⟩ (fun n hn ih => ?_)
  rw [mn_s f z hn]
  obtain ⟨h1, h2, h3⟩ := ih
  split
  · rename_i q
    refine ⟨by omega, fun k a b => ?_, Or.inr ⟨n, hn, by omega, rfl⟩⟩
    by_cases z : k = n
    · rw [z]; exact Int.le_refl _
    · have := h2 k a (by omega); omega
  · rename_i q
    refine ⟨h1, fun k a b => ?_, ?_⟩
    · by_cases z : k = n
      · rw [z]; omega
      · exact h2 k a (by omega)
    · rcases h3 with z | ⟨k, a, b, c⟩
      · exact Or.inl z
      · exact Or.inr ⟨k, a, by omega, c⟩
theorem mn_eq {f : Int → Int} {z n v : Int} (hn : 0 ≤ n) (h1 : v ≤ z) (h2 : ∀ k, 0 ≤ k → k < n → v ≤ f k) (h3 : v = z ∨ ∃ k, 0 ≤ k ∧ k < n ∧ f k = v) : mn f z n = v := by
  obtain ⟨g1, g2, g3⟩ := mn_sp f z n hn
  have a : v ≤ mn f z n := by
    rcases g3 with q | ⟨k, x, y, q⟩
    · omega
    · have := h2 k x y; omega
  have b : mn f z n ≤ v := by
    rcases h3 with q | ⟨k, x, y, q⟩
    · omega
    · have := g2 k x y; omega
  omega
theorem mn_cong {f g : Int → Int} {z : Int} {n : Int} (hn : 0 ≤ n) (h : ∀ k, 0 ≤ k → k < n → f k = g k) : mn f z n = mn g z n := foI_ext n hn (fun k a b c => by unfold mnS; rw [h k b c])
/-- the least gap to x, and the causes that have it -/
noncomputable def lst (ρ : Rw) (x : Int) : Int := mn (fun c => gp ρ (gC ρ c) x) 1000000 (nC ρ)
noncomputable def nr (ρ : Rw) (x : Int) : Int := bsI (fun c => decide (gp ρ (gC ρ c) x = lst ρ x)) (nC ρ)
theorem nr_bd {ρ : Rw} (hV : VR ρ) (x : Int) : 0 ≤ nr ρ x ∧ nr ρ x < p2 (nC ρ) ∧ nr ρ x < 4096 := by
  have h := bsI_bd (fun c => decide (gp ρ (gC ρ c) x = lst ρ x)) (nC ρ)
  have := p2_12 (nC_bd hV).2
  unfold nr
  omega
theorem nr_bit {ρ : Rw} {x c : Int} (h0 : 0 ≤ c) (h1 : c < nC ρ) : (bit (nr ρ x) c = true ↔ gp ρ (gC ρ c) x = lst ρ x) := by
  unfold nr
  rw [bsI_bit _ h0, decide_eq_true h1, Bool.true_and, decide_eq_true_eq]
theorem lst_bd {ρ : Rw} (hV : VR ρ) (x : Int) : 0 ≤ lst ρ x ∧ lst ρ x ≤ 1000000 := by
  have h := mn_sp (fun c => gp ρ (gC ρ c) x) 1000000 (nC ρ) (nC_bd hV).1
  unfold lst
  refine ⟨?_, h.1⟩
  rcases h.2.2 with q | ⟨k, -, -, q⟩
  · omega
  · rw [← q]; exact (gp_bd _ _ _).1
theorem nearestTo_s {ρ : Rw} {M : Mem} (h : DX ρ M) {x : Int} (x0 : 0 ≤ x) (x1 : x < 4096) : Cal Y_De_nearestTo [vR 117, vI x] M (fun r M' => r = some (vI (nr ρ x)) ∧ M'.1 117 2 = lst ρ x ∧ Kp (fun c => c = 117) M M') := by
  have hV := h.1
  have hc := nC_bd hV
  refine Cal.mk (y := Y_De_nearestTo) (loc := [vR 117, vI x, vN, vN, vN]) G_De_nearestTo rfl (by decide) rfl rfl (Nat.le_of_ble_eq_true rfl) ?_
  simp only [r_De_nearestTo_0, r_De_nearestTo_1, r_De_nearestTo_2, r_De_nearestTo_3, r_De_nearestTo_5, r_De_nearestTo_8, r_De_nearestTo_9, true_and, and_true, or_true, true_or, or_false, false_or, false_and, and_false, not_true_eq_false, not_false_eq_true, implies_true, true_implies, false_implies]
  refine up_loop (lo := 0) (hi := nC ρ) (P := fun c => ∀ M1 l4, M1.1 117 2 = mn (fun c => gp ρ (gC ρ c) x) 1000000 c → Kp (fun c => c = 117) M M1 → Run C_De_nearestTo (fun r M' => r = some (vI (nr ρ x)) ∧ M'.1 117 2 = lst ρ x ∧ Kp (fun c => c = 117) M M') 10 [vR 117, vI x, vI (bsI (fun k => decide (gp ρ (gC ρ k) x = mn (fun c => gp ρ (gC ρ c) x) 1000000 c)) c), vI c, l4] [] M1) (fun c c0 c1 ih M1 l4 e1 k1 => ?_) hc.1 (wI M 117 2 1000000) vN (wI_same _ _ _ _) (Kp.w Kp.rf rfl)
  have D1 := h.kp k1 (by decide) (by decide) (by decide) (by decide) (by decide)
  have hm := mn_sp (fun c => gp ρ (gC ρ c) x) 1000000 c c0
  have hg := gp_bd ρ (gC ρ c) x
  have hm0 : 0 ≤ mn (fun c => gp ρ (gC ρ c) x) 1000000 c := by
    rcases hm.2.2 with q | ⟨k, -, -, q⟩
    · omega
    · rw [← q]; exact (gp_bd _ _ _).1
  rw [r_De_nearestTo_10]
  simp only [r_De_nearestTo_11, r_De_nearestTo_12, r_De_nearestTo_15, r_De_nearestTo_18, r_De_nearestTo_21, r_De_nearestTo_24, r_De_nearestTo_25, r_De_nearestTo_26, r_De_nearestTo_29, r_De_nearestTo_32, r_De_nearestTo_33, r_De_nearestTo_34, r_De_nearestTo_35, r_De_nearestTo_38, r_De_nearestTo_40, r_De_nearestTo_42, r_De_nearestTo_43, r_De_nearestTo_46, r_De_nearestTo_49, r_De_nearestTo_50, r_De_nearestTo_52, r_De_nearestTo_55, r_De_nearestTo_78, r_De_nearestTo_79, true_and, and_true, or_true, true_or, or_false, false_or, false_and, and_false, not_true_eq_false, not_false_eq_true, implies_true, true_implies, false_implies, D1.2.1]
  refine ⟨r32 (by omega) (by omega), r32 (by omega) (by omega), fun q => ?_, fun q => ⟨c0, by omega, ?_⟩⟩
  · have ec : c = nC ρ := by omega
    rw [ec] at e1 ⊢
    exact ⟨rfl, e1, k1⟩
  · rw [D1.2.2.2.2.2.1 c c0 (by omega)]
    have hb := gC_bd hV c
    refine Cal.I (gap_s hV D1.2.2.2.1 hb.1 hb.2.2 x0 x1) ?_
    have es := mn_s (fun c => gp ρ (gC ρ c) x) 1000000 c0
    refine ⟨r32 (by omega) (by omega), by rw [e1]; exact r32 (by omega) (by omega), fun q2 => ?_, fun q2 => ?_⟩
    · simp only [r_De_nearestTo_56, r_De_nearestTo_57, r_De_nearestTo_59, r_De_nearestTo_60, r_De_nearestTo_63, r_De_nearestTo_66, r_De_nearestTo_67, r_De_nearestTo_68, r_De_nearestTo_69, r_De_nearestTo_70, r_De_nearestTo_71, r_De_nearestTo_72, r_De_nearestTo_75, true_and, and_true, or_true, true_or, or_false, false_or, false_and, and_false, not_true_eq_false, not_false_eq_true, implies_true, true_implies, false_implies, p2_def]
      rw [e1] at q2
      rw [if_neg (by omega)] at es
      have hih := ih (by omega) M1 (vI (gp ρ (gC ρ c) x)) (by rw [es]; exact e1) k1
      rw [es, bsI_s c0 (by omega)] at hih
      refine ⟨r32 (by omega) (by omega), by rw [e1]; exact r32 (by omega) (by omega), fun q3 => ?_, fun q3 => ⟨⟨c0, by omega⟩, ?_⟩⟩
      · rw [if_neg (by simp only [decide_eq_true_eq]; omega)] at hih; exact hih
      · rw [if_pos (by simp only [decide_eq_true_eq]; omega)] at hih; exact hih
    · simp only [r_De_nearestTo_56, r_De_nearestTo_57, r_De_nearestTo_59, r_De_nearestTo_60, r_De_nearestTo_63, r_De_nearestTo_66, r_De_nearestTo_67, r_De_nearestTo_68, r_De_nearestTo_69, r_De_nearestTo_70, r_De_nearestTo_71, r_De_nearestTo_72, r_De_nearestTo_75, true_and, and_true, or_true, true_or, or_false, false_or, false_and, and_false, not_true_eq_false, not_false_eq_true, implies_true, true_implies, false_implies, p2_def, wI_same]
      rw [e1] at q2
      rw [if_pos (by omega)] at es
      have hih := ih (by omega) (wI M1 117 2 (gp ρ (gC ρ c) x)) (vI (gp ρ (gC ρ c) x)) (by rw [es, wI_same]) (Kp.w k1 rfl)
      rw [es, bsI_s c0 (by omega)] at hih
      refine ⟨r32 (by omega) (by omega), r32 (by omega) (by omega), ⟨c0, by omega⟩, ?_⟩
      rw [if_pos (by simp only [decide_eq_true_eq])] at hih
      rw [bsI_cong (q := fun _ => false) (fun i a b => by
        rw [decide_eq_false_iff_not]
        have := hm.2.1 i a b
        omega)] at hih
      rw [show bsI (fun _ => false) c = 0 by
        apply bit_ext (bsI_bd _ _).1 (Int.le_refl _)
        intro i hi
        rw [bsI_bit _ hi, bit_0, Bool.and_false]] at hih
      exact hih
