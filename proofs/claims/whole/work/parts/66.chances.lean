/-! the class's Chances; odds, likeliest, ranked of the class -/
theorem wL_same (M : Mem) (c : Nat) (i z : Int) : (wL M c i z).2 c i = z := if_pos ⟨rfl, rfl⟩
theorem wL_oth {M : Mem} {c : Nat} {i i' z : Int} (h : i' ≠ i) : (wL M c i z).2 c i' = M.2 c i' := if_neg (fun q => h q.2)
theorem wL_c {M : Mem} {c c' : Nat} {i z : Int} (h : c' ≠ c) : (wL M c i z).2 c' = M.2 c' := by
  funext j
  exact if_neg (fun q => h q.1)
theorem Kp.wl {P : Nat → Prop} {M M' : Mem} {c : Nat} {i z : Int} (h : Kp P M M') (hc : P c) : Kp P M (wL M' c i z) := fun k hk => ⟨(h k hk).1, (wL_c (c := c) (c' := k) (fun q => hk (by rw [q]; exact hc))).trans (h k hk).2⟩
theorem Cal.L {y : Mi} {as : List Vl} {M : Mem} {X : Int} (h : Cal y as M (fun r M' => r = some (vL X) ∧ M' = M)) {K : Int → Mem → Prop} (hk : K X M) : Cal y as M (fun r M' => ∃ z, r = some (vL z) ∧ K z M') := h.mono (by rintro v M' ⟨rfl, rfl⟩; exact ⟨_, rfl, hk⟩)
theorem c3_lt {x y : Int} (h : x < y) : cmp3 x y = -1 := if_pos h
theorem c3_eq {x y : Int} (h : x = y) : cmp3 x y = 0 := by unfold cmp3; rw [if_neg (by omega), if_pos h]
theorem c3_gt {x y : Int} (h : y < x) : cmp3 x y = 1 := by unfold cmp3; rw [if_neg (by omega), if_neg (by omega)]
theorem c3_z {x y : Int} : cmp3 x y = 0 ↔ x = y := by
  rcases Int.lt_trichotomy x y with q | q | q
  · rw [c3_lt q]; omega
  · rw [c3_eq q]; omega
  · rw [c3_gt q]; omega
theorem c3_p {x y : Int} : 0 < cmp3 x y ↔ y < x := by
  rcases Int.lt_trichotomy x y with q | q | q
  · rw [c3_lt q]; omega
  · rw [c3_eq q]; omega
  · rw [c3_gt q]; omega
theorem c3_r {x y : Int} : R32 (cmp3 x y) := by
  rcases Int.lt_trichotomy x y with q | q | q
  · rw [c3_lt q]; exact r32 (by decide) (by decide)
  · rw [c3_eq q]; exact r32 (by decide) (by decide)
  · rw [c3_gt q]; exact r32 (by decide) (by decide)
theorem r64 {z : Int} (h1 : -9223372036854775808 ≤ z) (h2 : z < 9223372036854775808) : R64 z := ⟨h1, h2⟩
/-- what terms may be -/
def TM (tm : Rw) : Prop := (0 ≤ tm 0 ∧ tm 0 ≤ 16) ∧ (0 ≤ tm 1 ∧ tm 1 ≤ 16) ∧ (0 ≤ tm 2 ∧ tm 2 ≤ 9) ∧ (0 ≤ tm 3 ∧ tm 3 ≤ 5)
theorem VS.tm {σ : St} (h : VS σ) : TM σ.2.2.2.1 := by
  have h0 := h.2.2.2 0 (by decide) (by decide)
  have h1 := h.2.2.2 1 (by decide) (by decide)
  have h2 := h.2.2.2 2 (by decide) (by decide)
  have h3 := h.2.2.2 3 (by decide) (by decide)
  exact ⟨h0, h1, h2, h3⟩
/-- the factor of a sign -/
def fac (ρ tm : Rw) (g s : Int) : Int := if bit g s = true then (if bit (ρ 5) s = true then 16 - tm 0 else tm 0) else (if bit (ρ 5) s = true then tm 1 else 16 - tm 1)
def lkS (ρ tm : Rw) (g s acc : Int) : Int := if bit (ρ 4) s = true then acc * fac ρ tm g s else acc
def lkl (ρ tm : Rw) (g : Int) : Int := foI (lkS ρ tm g) 1 (nS ρ)
theorem fac_bd {ρ tm : Rw} (h : TM tm) (g s : Int) : 0 ≤ fac ρ tm g s ∧ fac ρ tm g s ≤ 16 := by
  obtain ⟨h0, h1, -, -⟩ := h
  unfold fac
  split <;> split <;> omega
theorem p2_4 {n : Int} (h : 0 ≤ n) : p2 (4 * (n + 1)) = p2 (4 * n) * 16 := by
  rw [show 4 * (n + 1) = 4 * n + 1 + 1 + 1 + 1 by omega, p2_s (by omega), p2_s (by omega), p2_s (by omega), p2_s (by omega)]
  omega
theorem lk_bd {ρ tm : Rw} (h : TM tm) (g : Int) : ∀ n, 0 ≤ n → 0 ≤ foI (lkS ρ tm g) 1 n ∧ foI (lkS ρ tm g) 1 n ≤ p2 (4 * n) := by
  refine int_ind (by rw [foI_0]; decide) (fun n hn ih => ?_)
  rw [foI_s _ _ hn, p2_4 hn]
  have hf := fac_bd (ρ := ρ) h g n
  have hp := p2_pos (4 * n)
  by_cases q : bit (ρ 4) n = true
  · rw [show lkS ρ tm g n (foI (lkS ρ tm g) 1 n) = foI (lkS ρ tm g) 1 n * fac ρ tm g n from if_pos q]
    exact ⟨Int.mul_nonneg ih.1 hf.1, Int.mul_le_mul ih.2 hf.2 hf.1 (by omega)⟩
  · rw [show lkS ρ tm g n (foI (lkS ρ tm g) 1 n) = foI (lkS ρ tm g) 1 n from if_neg q]
    omega
theorem lkl_bd {ρ tm : Rw} (hV : VR ρ) (h : TM tm) (g : Int) : 0 ≤ lkl ρ tm g ∧ lkl ρ tm g ≤ 281474976710656 := by
  have hs := nS_bd hV
  have h1 := lk_bd (ρ := ρ) h g (nS ρ) hs.1
  have h2 := p2_mono (show 4 * nS ρ ≤ 48 by omega)
  have e : p2 48 = 281474976710656 := by decide
  unfold lkl
  omega
noncomputable def wgt (ρ : Rw) (c : Int) : Int := wC (tau ρ) (cf (tau ρ) c)
theorem wgt_bd {ρ : Rw} (hV : VR ρ) {c : Int} (c0 : 0 ≤ c) (c1 : c < nC ρ) : 0 ≤ wgt ρ c ∧ wgt ρ c ≤ 9 := by
  have hT := VR_tau hV
  have h0 := hT.1
  have hk := kth_sp (p := isC (tau ρ)) (n := 8 * tau ρ 0) (c := c) (by omega) c0 (by have := nC_tau hV; unfold nC at this; rw [this]; exact c1)
  have hkd := hT.2.2.2.2.1 (cf (tau ρ) c / 8) (by unfold cf; omega) (by unfold cf; omega)
  have := (hT.2.2.2.2.2.2.2.2.1 (tau ρ (6 + cf (tau ρ) c / 8) * 8 + cf (tau ρ) c % 8) (by omega) (by omega)).1
  unfold wgt wC
  exact this
noncomputable def sh (ρ tm : Rw) (c : Int) : Int := wgt ρ c * lkl ρ tm (gC ρ c)
def nt (ρ tm : Rw) : Int := tm 2 * lkl ρ tm 0
noncomputable def tot (ρ tm : Rw) : Int := nt ρ tm + sumI (sh ρ tm) (nC ρ)
theorem sh_bd {ρ tm : Rw} (hV : VR ρ) (h : TM tm) {c : Int} (c0 : 0 ≤ c) (c1 : c < nC ρ) : 0 ≤ sh ρ tm c ∧ sh ρ tm c ≤ 2533274790395904 := by
  have h1 := wgt_bd hV c0 c1
  have h2 := lkl_bd hV h (gC ρ c)
  unfold sh
  refine ⟨Int.mul_nonneg h1.1 h2.1, ?_⟩
  have := Int.mul_le_mul h1.2 h2.2 h2.1 (by decide)
  omega
theorem nt_bd {ρ tm : Rw} (hV : VR ρ) (h : TM tm) : 0 ≤ nt ρ tm ∧ nt ρ tm ≤ 2533274790395904 := by
  have h1 := h.2.2.1
  have h2 := lkl_bd hV h 0
  unfold nt
  refine ⟨Int.mul_nonneg h1.1 h2.1, ?_⟩
  have := Int.mul_le_mul h1.2 h2.2 h2.1 (by decide)
  omega
theorem tot_bd {ρ tm : Rw} (hV : VR ρ) (h : TM tm) : 0 ≤ tot ρ tm ∧ tot ρ tm < 36028797018963968 ∧ ∀ c, 0 ≤ c → c < nC ρ → sh ρ tm c ≤ tot ρ tm := by
  have h1 := nt_bd hV h
  have hc := nC_bd hV
  have h2 := sumI_bd (f := sh ρ tm) (a := 0) (b := 2533274790395904) (nC ρ) hc.1 (fun i a b => sh_bd hV h a b)
  refine ⟨by unfold tot; omega, by unfold tot; omega, fun c a b => ?_⟩
  have key : ∀ n, 0 ≤ n → n ≤ nC ρ → c < n → sh ρ tm c ≤ sumI (sh ρ tm) n ∧ 0 ≤ sumI (sh ρ tm) n := by
    refine int_ind (fun _ z => by omega) (fun n hn ih h3 z => ?_)
    rw [sumI_s _ hn]
    have h4 := sh_bd hV h hn (by omega)
    have h5 := sh_bd hV h a b
    by_cases y : c = n
    · have h6 := sumI_bd (f := sh ρ tm) (a := 0) (b := 2533274790395904) n hn (fun i p q => sh_bd hV h p (by omega))
      rw [y]; omega
    · have := ih (by omega) (by omega); omega
  have := (key (nC ρ) hc.1 (Int.le_refl _) b).1
  unfold tot
  omega
theorem factor_s {ρ tm : Rw} {M : Mem} (ht : ∀ i, 0 ≤ i → i < 4 → M.1 96 i = tm i) {g s : Int} : Cal Y_Ch_factor [vR 118, vI (if bit g s = true then 1 else 0), vI (if bit (ρ 5) s = true then 1 else 0)] M (fun r M' => r = some (vI (fac ρ tm g s)) ∧ M' = M) := by
  have t0 := ht 0 (by decide) (by decide)
  have t1 := ht 1 (by decide) (by decide)
  refine Cal.mk (y := Y_Ch_factor) (loc := [vR 118, vI (if bit g s = true then 1 else 0), vI (if bit (ρ 5) s = true then 1 else 0)]) G_Ch_factor rfl (by decide) rfl rfl (Nat.le_of_ble_eq_true rfl) ?_
  simp only [r_Ch_factor_0, r_Ch_factor_1, r_Ch_factor_4, r_Ch_factor_5, r_Ch_factor_8, r_Ch_factor_10, r_Ch_factor_11, r_Ch_factor_14, r_Ch_factor_15, r_Ch_factor_16, r_Ch_factor_17, r_Ch_factor_20, r_Ch_factor_21, r_Ch_factor_24, r_Ch_factor_25, r_Ch_factor_26, r_Ch_factor_27, r_Ch_factor_28, r_Ch_factor_31, r_Ch_factor_32, r_Ch_factor_35, r_Ch_factor_36, r_Ch_factor_37, r_Ch_factor_40, r_Ch_factor_42, r_Ch_factor_43, r_Ch_factor_46, r_Ch_factor_47, r_Ch_factor_48, r_Ch_factor_49, true_and, and_true, or_true, true_or, or_false, false_or, false_and, and_false, not_true_eq_false, not_false_eq_true, implies_true, true_implies, false_implies, t0, t1]
  unfold fac
  by_cases a : bit g s = true
  · rw [if_pos a, if_pos a]
    refine ⟨r32 (by decide) (by decide), fun z => absurd z (by decide), fun _ => ?_⟩
    by_cases b : bit (ρ 5) s = true
    · rw [if_pos b, if_pos b]
      exact ⟨r32 (by decide) (by decide), fun z => absurd z (by decide), fun _ => ⟨by decide, by decide, rfl⟩⟩
    · rw [if_neg b, if_neg b]
      exact ⟨r32 (by decide) (by decide), fun _ => ⟨by decide, by decide, rfl⟩, fun z => absurd rfl z⟩
  · rw [if_neg a, if_neg a]
    refine ⟨r32 (by decide) (by decide), fun _ => ?_, fun z => absurd rfl z⟩
    by_cases b : bit (ρ 5) s = true
    · rw [if_pos b, if_pos b]
      exact ⟨r32 (by decide) (by decide), fun z => absurd z (by decide), fun _ => ⟨by decide, by decide, rfl⟩⟩
    · rw [if_neg b, if_neg b]
      exact ⟨r32 (by decide) (by decide), fun _ => ⟨by decide, by decide, rfl⟩, fun z => absurd rfl z⟩
theorem likely_s {ρ tm : Rw} {M : Mem} (h : DX ρ M) (hm : TM tm) (ht : ∀ i, 0 ≤ i → i < 4 → M.1 96 i = tm i) {g : Int} (g0 : 0 ≤ g) (g1 : g < 4096) : Cal Y_Ch_likely [vR 118, vI g] M (fun r M' => r = some (vL (lkl ρ tm g)) ∧ M' = M) := by
  have hs := nS_bd h.1
  have hb := bk_bd h.1
  have hse := se_bd h.1
  refine Cal.mk (y := Y_Ch_likely) (loc := [vR 118, vI g, vN, vN, vN]) G_Ch_likely rfl (by decide) rfl rfl (Nat.le_of_ble_eq_true rfl) ?_
  simp only [r_Ch_likely_0, r_Ch_likely_1, r_Ch_likely_2, r_Ch_likely_3, true_and, and_true, or_true, true_or, or_false, false_or, false_and, and_false, not_true_eq_false, not_false_eq_true, implies_true, true_implies, false_implies]
  refine up_loop (lo := 0) (hi := nS ρ) (P := fun s => Run C_Ch_likely (fun r M' => r = some (vL (lkl ρ tm g)) ∧ M' = M) 5 [vR 118, vI g, vL (foI (lkS ρ tm g) 1 s), vN, vI s] [] M) (fun s s0 s1 ih => ?_) hs.1
  rw [r_Ch_likely_5]
  simp only [r_Ch_likely_7, r_Ch_likely_8, r_Ch_likely_11, r_Ch_likely_14, r_Ch_likely_17, r_Ch_likely_20, r_Ch_likely_21, r_Ch_likely_24, r_Ch_likely_27, r_Ch_likely_29, r_Ch_likely_32, r_Ch_likely_35, r_Ch_likely_36, r_Ch_likely_37, r_Ch_likely_38, r_Ch_likely_40, r_Ch_likely_43, r_Ch_likely_44, r_Ch_likely_47, r_Ch_likely_50, r_Ch_likely_52, r_Ch_likely_55, r_Ch_likely_58, r_Ch_likely_59, r_Ch_likely_60, r_Ch_likely_61, r_Ch_likely_64, r_Ch_likely_67, r_Ch_likely_68, true_and, and_true, or_true, true_or, or_false, false_or, false_and, and_false, not_true_eq_false, not_false_eq_true, implies_true, true_implies, false_implies, h.2.2.1, h.2.2.2.1]
  refine ⟨r32 (by omega) (by omega), r32 (by omega) (by omega), fun q => ?_, fun q => ?_⟩
  · rw [show s = nS ρ by omega]; rfl
  · have hih := ih (by omega)
    rw [foI_s _ _ s0] at hih
    refine has_if hb.1 (by omega) s0 (by omega) (fun q2 => ?_) (fun q2 => ?_)
    · rw [show lkS ρ tm g s (foI (lkS ρ tm g) 1 s) = foI (lkS ρ tm g) 1 s * fac ρ tm g s from if_pos q2] at hih
      refine Cal.I (has_s M g0 (by omega) s0 (by omega)) ?_
      rw [h.2.2.2.2.1]
      refine Cal.I (has_s M hse.1 (by omega) s0 (by omega)) ?_
      have hf := fac_bd (ρ := ρ) hm g s
      refine Cal.I (factor_s (tm := tm) ht) ⟨r32 (by omega) (by omega), hih⟩
    · rw [show lkS ρ tm g s (foI (lkS ρ tm g) 1 s) = foI (lkS ρ tm g) 1 s from if_neg q2] at hih
      exact hih
/-- the shares are found -/
def CW (ρ tm : Rw) (M : Mem) : Prop := M.2 118 4 = nt ρ tm ∧ M.2 118 5 = tot ρ tm ∧ ∀ c, 0 ≤ c → c < nC ρ → M.2 119 c = sh ρ tm c
theorem weigh_s {ρ tm : Rw} {M : Mem} (h : DX ρ M) (hm : TM tm) (ht : ∀ i, 0 ≤ i → i < 4 → M.1 96 i = tm i) (hw : ∀ c, 0 ≤ c → c < nC ρ → M.1 100 c = wgt ρ c) : Cal Y_Ch_weigh [vR 118] M (fun r M' => r = none ∧ CW ρ tm M' ∧ Kp (fun c => c = 118 ∨ c = 119) M M') := by
  have hc := nC_bd h.1
  have t2 := hm.2.2.1
  refine Cal.mk (y := Y_Ch_weigh) (loc := [vR 118, vN]) G_Ch_weigh rfl (by decide) rfl rfl (Nat.le_of_ble_eq_true rfl) ?_
  simp only [r_Ch_weigh_0, r_Ch_weigh_1, r_Ch_weigh_2, r_Ch_weigh_5, r_Ch_weigh_6, r_Ch_weigh_7, r_Ch_weigh_8, r_Ch_weigh_9, r_Ch_weigh_10, true_and, and_true, or_true, true_or, or_false, false_or, false_and, and_false, not_true_eq_false, not_false_eq_true, implies_true, true_implies, false_implies, ht 2 (by decide) (by decide)]
  refine ⟨by decide, by decide, r32 (by omega) (by omega), ?_⟩
  refine Cal.L (likely_s h hm ht (by decide) (by decide)) ?_
  simp only [r_Ch_weigh_13, r_Ch_weigh_14, r_Ch_weigh_17, r_Ch_weigh_18, r_Ch_weigh_19, r_Ch_weigh_22, r_Ch_weigh_25, r_Ch_weigh_26, true_and, and_true, or_true, true_or, or_false, false_or, false_and, and_false, not_true_eq_false, not_false_eq_true, implies_true, true_implies, false_implies, wL_same]
  rw [show tm 2 * lkl ρ tm 0 = nt ρ tm from rfl]
  refine up_loop (lo := 0) (hi := nC ρ) (P := fun c => ∀ M1, Kp (fun c => c = 118 ∨ c = 119) M M1 → M1.2 118 4 = nt ρ tm → M1.2 118 5 = nt ρ tm + sumI (sh ρ tm) c → (∀ k, 0 ≤ k → k < c → M1.2 119 k = sh ρ tm k) → Run C_Ch_weigh (fun r M' => r = none ∧ CW ρ tm M' ∧ Kp (fun c => c = 118 ∨ c = 119) M M') 27 [vR 118, vI c] [] M1) (fun c c0 c1 ih M1 k1 a1 b1 d1 => ?_) hc.1 _ (Kp.wl (Kp.wl Kp.rf (Or.inl rfl)) (Or.inl rfl)) (by rw [wL_oth (by decide), wL_same]) (by rw [wL_same, sumI_0, Int.add_zero]) (fun k a b => by omega)
  have D1 := h.kp k1 (by decide) (by decide) (by decide) (by decide) (by decide)
  rw [r_Ch_weigh_27]
  simp only [r_Ch_weigh_28, r_Ch_weigh_29, r_Ch_weigh_32, r_Ch_weigh_35, r_Ch_weigh_38, r_Ch_weigh_41, r_Ch_weigh_42, r_Ch_weigh_45, r_Ch_weigh_46, r_Ch_weigh_47, r_Ch_weigh_50, r_Ch_weigh_53, r_Ch_weigh_56, r_Ch_weigh_57, r_Ch_weigh_58, r_Ch_weigh_59, r_Ch_weigh_60, r_Ch_weigh_61, r_Ch_weigh_64, r_Ch_weigh_67, r_Ch_weigh_68, r_Ch_weigh_69, true_and, and_true, or_true, true_or, or_false, false_or, false_and, and_false, not_true_eq_false, not_false_eq_true, implies_true, true_implies, false_implies, D1.2.1]
  refine ⟨r32 (by omega) (by omega), r32 (by omega) (by omega), fun q => ?_, fun q => ⟨c0, by omega, ?_⟩⟩
  · simp only [r_Ch_weigh_95, true_and, and_true, or_true, true_or, or_false, false_or, false_and, and_false, not_true_eq_false, not_false_eq_true, implies_true, true_implies, false_implies]
    have ec : c = nC ρ := by omega
    rw [ec] at b1 d1
    exact ⟨⟨a1, b1, d1⟩, k1⟩
  · have hwb := wgt_bd h.1 c0 (by omega)
    rw [k1.at (c := 100) (by decide), hw c c0 (by omega)]
    refine ⟨r32 (by omega) (by omega), c0, by omega, ?_⟩
    rw [D1.2.2.2.2.2.1 c c0 (by omega)]
    have hg := gC_bd h.1 c
    refine Cal.L (likely_s D1 hm (fun i a b => by rw [k1.at (c := 96) (by decide)]; exact ht i a b) hg.1 hg.2.2) ?_
    simp only [r_Ch_weigh_72, r_Ch_weigh_73, r_Ch_weigh_74, r_Ch_weigh_75, r_Ch_weigh_76, r_Ch_weigh_79, r_Ch_weigh_80, r_Ch_weigh_83, r_Ch_weigh_84, r_Ch_weigh_85, r_Ch_weigh_86, r_Ch_weigh_89, r_Ch_weigh_92, true_and, and_true, or_true, true_or, or_false, false_or, false_and, and_false, not_true_eq_false, not_false_eq_true, implies_true, true_implies, false_implies, wL_same]
    rw [wL_c (by decide), b1, show wgt ρ c * lkl ρ tm (gC ρ c) = sh ρ tm c from rfl]
    refine ⟨c0, by omega, c0, by omega, ih (by omega) _ (Kp.wl (Kp.wl k1 (Or.inr rfl)) (Or.inl rfl)) ?_ ?_ (fun k a b => ?_)⟩
    · rw [wL_oth (by decide), wL_c (by decide)]; exact a1
    · rw [wL_same, sumI_s _ c0]; omega
    · rw [wL_c (by decide)]
      by_cases z : k = c
      · rw [z, wL_same]
      · rw [wL_oth z]; exact d1 k a (by omega)
