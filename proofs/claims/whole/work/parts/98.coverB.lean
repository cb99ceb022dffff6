/-! the reference's cover: two sets more, three -/
theorem lowb_u {a h h' : Int} (l1 : lowb a h) (l2 : lowb a h') : h = h' := by
  rcases Int.lt_trichotomy h h' with y | y | y
  · have := l2.2.2 h l1.1 y; rw [l1.2.1] at this; exact Bool.noConfusion this
  · exact y
  · have := l1.2.2 h' l2.1 y; rw [l2.2.1] at this; exact Bool.noConfusion this
def cB (M : Mem) (a n : Int) : Prop := a = 0 ∨ (¬ n = 0 ∧ ∃ h, lowb a h ∧ ∃ j, 0 ≤ j ∧ j < M.1 141 24 ∧ bit (M.1 157 j) h = true ∧ cL M (dif a (M.1 157 j)) (n - 1))
def cA (M : Mem) (a n : Int) : Prop := a = 0 ∨ (0 < n ∧ ∃ h, lowb a h ∧ ∃ j, 0 ≤ j ∧ j < M.1 141 24 ∧ bit (M.1 157 j) h = true ∧ cB M (dif a (M.1 157 j)) (n - 1))
theorem coveredBehind_s {M : Mem} (h : SB M) {a n : Int} (a0 : 0 ≤ a) (a1 : a < 1048576) (n0 : 0 ≤ n) (n1 : n ≤ 3) : Cal Y_RM_coveredBehind [vR 141, vI a, vI n] M (fun r M' => r = some (vI (if dec (cB M a n) = true then 1 else 0)) ∧ M' = M) := by
  have hm := h.1
  have fin : ∀ z l3 l5, ((z = 1 ∧ cB M a n) ∨ (z = 0 ∧ ¬ cB M a n)) → Run C_RM_coveredBehind (fun r M' => r = some (vI (if dec (cB M a n) = true then 1 else 0)) ∧ M' = M) 91 [vR 141, vI a, vI n, l3, vI z, l5] [] M := by
    intro z l3 l5 hz
    simp only [r_RM_coveredBehind_91, r_RM_coveredBehind_93, true_and, and_true, or_true, true_or, or_false, false_or, false_and, and_false, not_true_eq_false, not_false_eq_true, implies_true, true_implies, false_implies]
    rcases hz with ⟨rfl, y⟩ | ⟨rfl, y⟩
    · rw [if_pos (dec_t y)]; exact ⟨Or.inr rfl, rfl⟩
    · rw [if_neg (fun w => y (dec_iff.1 w))]; exact ⟨Or.inl rfl, rfl⟩
  have yes : cB M a n → ∀ l3 k, 0 ≤ k → k ≤ M.1 141 24 → Run C_RM_coveredBehind (fun r M' => r = some (vI (if dec (cB M a n) = true then 1 else 0)) ∧ M' = M) 31 [vR 141, vI a, vI n, l3, vI 1, vI k] [] M := by
    intro y l3 k k0 k1
    rw [r_RM_coveredBehind_31]
    simp only [r_RM_coveredBehind_33, r_RM_coveredBehind_34, r_RM_coveredBehind_37, r_RM_coveredBehind_40, r_RM_coveredBehind_42, true_and, and_true, or_true, true_or, or_false, false_or, false_and, and_false, not_true_eq_false, not_false_eq_true, implies_true, true_implies, false_implies]
    exact ⟨r32 (by omega) (by omega), r32 (by omega) (by omega), fun _ => fin 1 _ _ (Or.inl ⟨rfl, y⟩), fun _ => ⟨r32 (by decide) (by decide), fun _ => fin 1 _ _ (Or.inl ⟨rfl, y⟩), fun z => absurd (by decide) z⟩⟩
  refine Cal.mk (y := Y_RM_coveredBehind) (loc := [vR 141, vI a, vI n, vN, vN, vN]) G_RM_coveredBehind rfl (by decide) rfl rfl (Nat.le_of_ble_eq_true rfl) ?_
  simp only [r_RM_coveredBehind_0, r_RM_coveredBehind_1, r_RM_coveredBehind_4, r_RM_coveredBehind_5, r_RM_coveredBehind_8, r_RM_coveredBehind_9, r_RM_coveredBehind_12, r_RM_coveredBehind_13, r_RM_coveredBehind_16, r_RM_coveredBehind_17, true_and, and_true, or_true, true_or, or_false, false_or, false_and, and_false, not_true_eq_false, not_false_eq_true, implies_true, true_implies, false_implies]
  refine ⟨r32 (by omega) (by omega), fun q => ⟨r32 (by omega) (by omega), fun q2 => absurd q q2, fun q2 => ?_⟩, fun q => ⟨r32 (by omega) (by omega), fun q2 => ?_, fun q2 => ⟨r32 (by omega) (by omega), fun q3 => ?_, fun q3 => absurd q q3⟩⟩⟩
  · rw [if_pos (dec_t (show cB M a n from Or.inl q))]
  rotate_left
  · rw [dec_f (fun y => y.elim q (fun w => q2 w.1))]; rfl
  simp only [r_RM_coveredBehind_18, r_RM_coveredBehind_19, r_RM_coveredBehind_20, true_and, and_true, or_true, true_or, or_false, false_or, false_and, and_false, not_true_eq_false, not_false_eq_true, implies_true, true_implies, false_implies]
  refine (lowest_s M a0 (by omega)).mono ?_
  rintro _ M' ⟨b, rfl, y, hM⟩
  rw [hM]
  rcases y with ⟨y, -⟩ | ⟨-, hl⟩
  · exact absurd y q
  have e20 : p2 20 = 1048576 := by decide
  have hb20 := lowb_lt (n := 20) a0 (by omega) hl
  refine ⟨_, rfl, ?_⟩
  simp only [r_RM_coveredBehind_23, r_RM_coveredBehind_24, r_RM_coveredBehind_25, r_RM_coveredBehind_26, r_RM_coveredBehind_28, r_RM_coveredBehind_29, true_and, and_true, or_true, true_or, or_false, false_or, false_and, and_false, not_true_eq_false, not_false_eq_true, implies_true, true_implies, false_implies, p2_def]
  refine ⟨⟨hl.1, by omega⟩, ?_⟩
  refine up_loop (lo := 0) (hi := M.1 141 24) (P := fun k => (∀ j, 0 ≤ j → j < k → ¬ (bit (M.1 157 j) b = true ∧ cL M (dif a (M.1 157 j)) (n - 1))) → Run C_RM_coveredBehind (fun r M' => r = some (vI (if dec (cB M a n) = true then 1 else 0)) ∧ M' = M) 31 [vR 141, vI a, vI n, vI (p2 b), vI 0, vI k] [] M) (fun k k0 k1 ih hk => ?_) hm.1 (fun j a b => by omega)
  rw [r_RM_coveredBehind_31]
  simp only [r_RM_coveredBehind_33, r_RM_coveredBehind_34, r_RM_coveredBehind_37, r_RM_coveredBehind_40, r_RM_coveredBehind_42, r_RM_coveredBehind_45, r_RM_coveredBehind_46, r_RM_coveredBehind_49, r_RM_coveredBehind_51, r_RM_coveredBehind_52, r_RM_coveredBehind_53, r_RM_coveredBehind_54, r_RM_coveredBehind_57, r_RM_coveredBehind_58, r_RM_coveredBehind_59, r_RM_coveredBehind_60, r_RM_coveredBehind_63, r_RM_coveredBehind_65, r_RM_coveredBehind_66, r_RM_coveredBehind_67, r_RM_coveredBehind_68, r_RM_coveredBehind_69, r_RM_coveredBehind_70, r_RM_coveredBehind_71, r_RM_coveredBehind_72, r_RM_coveredBehind_75, r_RM_coveredBehind_78, r_RM_coveredBehind_79, r_RM_coveredBehind_82, r_RM_coveredBehind_83, r_RM_coveredBehind_85, r_RM_coveredBehind_88, true_and, and_true, or_true, true_or, or_false, false_or, false_and, and_false, not_true_eq_false, not_false_eq_true, implies_true, true_implies, false_implies]
  refine ⟨r32 (by omega) (by omega), r32 (by omega) (by omega), fun q3 => fin 0 _ _ (Or.inr ⟨rfl, fun y => ?_⟩), fun q3 => ⟨r32 (by decide) (by decide), k0, by omega, ?_⟩⟩
  · rcases y with y | ⟨-, h', l', j, x1, x2, x3, x4⟩
    · exact q y
    · rw [lowb_u l' hl] at x3
      exact hk j x1 (by omega) ⟨x3, x4⟩
  · have hb := h.2 k k0 (by omega)
    have hd := dif_bd a0 a1 hb.1
    have ha := iand_bd (a := M.1 157 k) (b := p2 b) hb.1 (by omega) (by have := p2_pos b; omega)
    have hbit := and_p2 (a := M.1 157 k) hb.1 (by omega) hl.1
    have skip : ¬ (bit (M.1 157 k) b = true ∧ cL M (dif a (M.1 157 k)) (n - 1)) → Run C_RM_coveredBehind (fun r M' => r = some (vI (if dec (cB M a n) = true then 1 else 0)) ∧ M' = M) 31 [vR 141, vI a, vI n, vI (p2 b), vI 0, vI (k + 1)] [] M := fun z => ih (by omega) (fun i x y => by
      by_cases w : i = k
      · rw [w]; exact z
      · exact hk i x (by omega))
    refine ⟨r32 (by omega) (by omega), fun q4 => skip (fun z => hbit.2 z.1 q4), fun q4 => ⟨k0, by omega, ?_⟩⟩
    rw [show iand a (ixor (M.1 157 k) (-1)) = dif a (M.1 157 k) from rfl]
    exact (coveredLast_s h hd.1 hd.2 (by omega) (by omega)).Be (fun q5 => yes (Or.inr ⟨q2, b, hl, k, k0, by omega, hbit.1 q4, dec_iff.1 q5⟩) _ (k + 1) (by omega) (by omega)) (fun q5 => skip (fun z => q5 (dec_t z.2)))
theorem areCovered_s {M : Mem} (h : SB M) {a n : Int} (a0 : 0 ≤ a) (a1 : a < 1048576) (n0 : 0 ≤ n) (n1 : n ≤ 3) : Cal Y_RM_areCovered [vR 141, vI a, vI n] M (fun r M' => r = some (vI (if dec (cA M a n) = true then 1 else 0)) ∧ M' = M) := by
  have hm := h.1
  have fin : ∀ z l3 l5, ((z = 1 ∧ cA M a n) ∨ (z = 0 ∧ ¬ cA M a n)) → Run C_RM_areCovered (fun r M' => r = some (vI (if dec (cA M a n) = true then 1 else 0)) ∧ M' = M) 83 [vR 141, vI a, vI n, l3, vI z, l5] [] M := by
    intro z l3 l5 hz
    simp only [r_RM_areCovered_83, r_RM_areCovered_85, true_and, and_true, or_true, true_or, or_false, false_or, false_and, and_false, not_true_eq_false, not_false_eq_true, implies_true, true_implies, false_implies]
    rcases hz with ⟨rfl, y⟩ | ⟨rfl, y⟩
    · rw [if_pos (dec_t y)]; exact ⟨Or.inr rfl, rfl⟩
    · rw [if_neg (fun w => y (dec_iff.1 w))]; exact ⟨Or.inl rfl, rfl⟩
  have yes : cA M a n → ∀ l3 k, 0 ≤ k → k ≤ M.1 141 24 → Run C_RM_areCovered (fun r M' => r = some (vI (if dec (cA M a n) = true then 1 else 0)) ∧ M' = M) 19 [vR 141, vI a, vI n, l3, vI 1, vI k] [] M := by
    intro y l3 k k0 k1
    rw [r_RM_areCovered_19]
    simp only [r_RM_areCovered_21, r_RM_areCovered_22, r_RM_areCovered_25, r_RM_areCovered_28, r_RM_areCovered_30, true_and, and_true, or_true, true_or, or_false, false_or, false_and, and_false, not_true_eq_false, not_false_eq_true, implies_true, true_implies, false_implies]
    exact ⟨r32 (by omega) (by omega), r32 (by omega) (by omega), fun _ => fin 1 _ _ (Or.inl ⟨rfl, y⟩), fun _ => ⟨r32 (by decide) (by decide), fun _ => fin 1 _ _ (Or.inl ⟨rfl, y⟩), fun z => absurd (by decide) z⟩⟩
  refine Cal.mk (y := Y_RM_areCovered) (loc := [vR 141, vI a, vI n, vN, vN, vN]) G_RM_areCovered rfl (by decide) rfl rfl (Nat.le_of_ble_eq_true rfl) ?_
  simp only [r_RM_areCovered_0, r_RM_areCovered_1, r_RM_areCovered_4, r_RM_areCovered_5, true_and, and_true, or_true, true_or, or_false, false_or, false_and, and_false, not_true_eq_false, not_false_eq_true, implies_true, true_implies, false_implies]
  refine ⟨r32 (by omega) (by omega), fun q => ?_, fun q => ?_⟩
  rotate_left
  · rw [if_pos (dec_t (show cA M a n from Or.inl (Classical.not_not.1 q)))]
  simp only [r_RM_areCovered_6, r_RM_areCovered_7, r_RM_areCovered_8, true_and, and_true, or_true, true_or, or_false, false_or, false_and, and_false, not_true_eq_false, not_false_eq_true, implies_true, true_implies, false_implies]
  refine (lowest_s M a0 (by omega)).mono ?_
  rintro _ M' ⟨b, rfl, y, hM⟩
  rw [hM]
  rcases y with ⟨y, -⟩ | ⟨-, hl⟩
  · exact absurd y q
  have e20 : p2 20 = 1048576 := by decide
  have hb20 := lowb_lt (n := 20) a0 (by omega) hl
  refine ⟨_, rfl, ?_⟩
  simp only [r_RM_areCovered_11, r_RM_areCovered_12, r_RM_areCovered_13, r_RM_areCovered_14, r_RM_areCovered_16, r_RM_areCovered_17, true_and, and_true, or_true, true_or, or_false, false_or, false_and, and_false, not_true_eq_false, not_false_eq_true, implies_true, true_implies, false_implies, p2_def]
  refine ⟨⟨hl.1, by omega⟩, ?_⟩
  refine up_loop (lo := 0) (hi := M.1 141 24) (P := fun k => (∀ j, 0 ≤ j → j < k → ¬ (bit (M.1 157 j) b = true ∧ cB M (dif a (M.1 157 j)) (n - 1))) → Run C_RM_areCovered (fun r M' => r = some (vI (if dec (cA M a n) = true then 1 else 0)) ∧ M' = M) 19 [vR 141, vI a, vI n, vI (p2 b), vI 0, vI k] [] M) (fun k k0 k1 ih hk => ?_) hm.1 (fun j a b => by omega)
  rw [r_RM_areCovered_19]
  simp only [r_RM_areCovered_21, r_RM_areCovered_22, r_RM_areCovered_25, r_RM_areCovered_28, r_RM_areCovered_30, r_RM_areCovered_33, r_RM_areCovered_34, r_RM_areCovered_37, r_RM_areCovered_38, r_RM_areCovered_41, r_RM_areCovered_43, r_RM_areCovered_44, r_RM_areCovered_45, r_RM_areCovered_46, r_RM_areCovered_49, r_RM_areCovered_50, r_RM_areCovered_51, r_RM_areCovered_52, r_RM_areCovered_55, r_RM_areCovered_57, r_RM_areCovered_58, r_RM_areCovered_59, r_RM_areCovered_60, r_RM_areCovered_61, r_RM_areCovered_62, r_RM_areCovered_63, r_RM_areCovered_64, r_RM_areCovered_67, r_RM_areCovered_70, r_RM_areCovered_71, r_RM_areCovered_74, r_RM_areCovered_75, r_RM_areCovered_77, r_RM_areCovered_80, true_and, and_true, or_true, true_or, or_false, false_or, false_and, and_false, not_true_eq_false, not_false_eq_true, implies_true, true_implies, false_implies]
  refine ⟨r32 (by omega) (by omega), r32 (by omega) (by omega), fun q3 => fin 0 _ _ (Or.inr ⟨rfl, fun y => ?_⟩), fun q3 => ⟨r32 (by decide) (by decide), r32 (by omega) (by omega), fun q2 => fin 0 _ _ (Or.inr ⟨rfl, fun y => ?_⟩), fun q2 => ⟨k0, by omega, ?_⟩⟩⟩
  · rcases y with y | ⟨-, h', l', j, x1, x2, x3, x4⟩
    · exact q y
    · rw [lowb_u l' hl] at x3
      exact hk j x1 (by omega) ⟨x3, x4⟩
  · rcases y with y | ⟨x, -⟩
    · exact q y
    · omega
  · have hb := h.2 k k0 (by omega)
    have hd := dif_bd a0 a1 hb.1
    have ha := iand_bd (a := M.1 157 k) (b := p2 b) hb.1 (by omega) (by have := p2_pos b; omega)
    have hbit := and_p2 (a := M.1 157 k) hb.1 (by omega) hl.1
    have skip : ¬ (bit (M.1 157 k) b = true ∧ cB M (dif a (M.1 157 k)) (n - 1)) → Run C_RM_areCovered (fun r M' => r = some (vI (if dec (cA M a n) = true then 1 else 0)) ∧ M' = M) 19 [vR 141, vI a, vI n, vI (p2 b), vI 0, vI (k + 1)] [] M := fun z => ih (by omega) (fun i x y => by
      by_cases w : i = k
      · rw [w]; exact z
      · exact hk i x (by omega))
    refine ⟨r32 (by omega) (by omega), fun q4 => skip (fun z => hbit.2 z.1 q4), fun q4 => ⟨k0, by omega, ?_⟩⟩
    rw [show iand a (ixor (M.1 157 k) (-1)) = dif a (M.1 157 k) from rfl]
    exact (coveredBehind_s h hd.1 hd.2 (by omega) (by omega)).Be (fun q5 => yes (Or.inr ⟨by omega, b, hl, k, k0, by omega, hbit.1 q4, dec_iff.1 q5⟩) _ (k + 1) (by omega) (by omega)) (fun q5 => skip (fun z => q5 (dec_t z.2)))
/-! how often what a cause explains changes as its start moves -/
theorem cnt_img (f : Int → Int) {n : Int} (n0 : 0 ≤ n) : ∀ K, 0 ≤ K → cntI (fun v => dec (∃ k, 0 ≤ k ∧ k < K ∧ v = f k)) n ≤ K := by
  refine int_ind ?_ (fun K K0 ih => ?_)
  · rw [cntI_no n0 (fun i a b => dec_f (fun ⟨k, x, y, z⟩ => by omega))]; decide
  · have h1 : cntI (fun v => decide (v = f K)) n ≤ 1 := by
      by_cases q : 0 ≤ f K
      · rw [cntI_one n n0 q]; split <;> omega
      · rw [cntI_no n0 (fun i a b => decide_eq_false (by omega))]; decide
    have h2 := cntI_or (p := fun v => dec (∃ k, 0 ≤ k ∧ k < K ∧ v = f k)) (q := fun v => decide (v = f K)) (r := fun v => dec (∃ k, 0 ≤ k ∧ k < K + 1 ∧ v = f k)) n n0 (fun i a b z => by
      obtain ⟨k, x, y, w⟩ := dec_iff.1 z
      by_cases e : k = K
      · right; rw [e] at w; exact decide_eq_true w
      · left; exact dec_t ⟨k, x, by omega, w⟩)
    omega
noncomputable def chgX (ρ tm : Rw) (c v : Int) : Bool := decide (¬ ex ρ tm c (v + 1) = ex ρ tm c v)
theorem chgX_bd {ρ tm : Rw} (hV : VR ρ) (c : Int) {n : Int} (n0 : 0 ≤ n) : cntI (chgX ρ tm c) n ≤ 40 := by
  have h3 := hV.2.2.2.1
  have a1 := cnt_img (fun k => ρ (201 + 2 * k) - sT ρ c (ρ (200 + 2 * k)) - tm 3 - 1) n0 (ρ 3) h3.1
  have a2 := cnt_img (fun k => ρ (201 + 2 * k) - sT ρ c (ρ (200 + 2 * k)) + tm 3) n0 (ρ 3) h3.1
  have := cntI_or (p := fun v => dec (∃ k, 0 ≤ k ∧ k < ρ 3 ∧ v = ρ (201 + 2 * k) - sT ρ c (ρ (200 + 2 * k)) - tm 3 - 1)) (q := fun v => dec (∃ k, 0 ≤ k ∧ k < ρ 3 ∧ v = ρ (201 + 2 * k) - sT ρ c (ρ (200 + 2 * k)) + tm 3)) (r := chgX ρ tm c) n n0 (fun v a b z => by
    unfold chgX at z
    rw [decide_eq_true_eq] at z
    apply Classical.byContradiction
    intro hno
    apply z
    refine bsI_cong (fun k k0 k1 => ?_)
    have y1 : ¬ v = ρ (201 + 2 * k) - sT ρ c (ρ (200 + 2 * k)) - tm 3 - 1 := fun y => hno (Or.inl (dec_t ⟨k, k0, k1, y⟩))
    have y2 : ¬ v = ρ (201 + 2 * k) - sT ρ c (ρ (200 + 2 * k)) + tm 3 := fun y => hno (Or.inr (dec_t ⟨k, k0, k1, y⟩))
    unfold exB
    refine decide_eq_decide.2 ?_
    generalize sT ρ c (ρ (200 + 2 * k)) = x at y1 y2 ⊢
    generalize ρ (201 + 2 * k) = y at y1 y2 ⊢
    generalize tm 3 = w at y1 y2 ⊢
    clear a1 a2 z hno
    omega)
  omega
