/-! the reference's cover: one set more -/
def SB (M : Mem) : Prop := (0 ≤ M.1 141 24 ∧ M.1 141 24 ≤ 1600) ∧ ∀ j, 0 ≤ j → j < M.1 141 24 → 0 ≤ M.1 157 j ∧ M.1 157 j < 1048576
def cL (M : Mem) (a n : Int) : Prop := a = 0 ∨ (0 < n ∧ ∃ j, 0 ≤ j ∧ j < M.1 141 24 ∧ iand a (ixor (M.1 157 j) (-1)) = 0)
theorem coveredLast_s {M : Mem} (h : SB M) {a n : Int} (a0 : 0 ≤ a) (a1 : a < 1048576) (n0 : 0 ≤ n) (n1 : n ≤ 3) : Cal Y_RM_coveredLast [vR 141, vI a, vI n] M (fun r M' => r = some (vI (if dec (cL M a n) = true then 1 else 0)) ∧ M' = M) := by
  have hm := h.1
  have fin : ∀ z l4, ((z = 1 ∧ cL M a n) ∨ (z = 0 ∧ ¬ cL M a n)) → Run C_RM_coveredLast (fun r M' => r = some (vI (if dec (cL M a n) = true then 1 else 0)) ∧ M' = M) 56 [vR 141, vI a, vI n, vI z, l4] [] M := by
    intro z l4 hz
    simp only [r_RM_coveredLast_56, r_RM_coveredLast_57, true_and, and_true, or_true, true_or, or_false, false_or, false_and, and_false, not_true_eq_false, not_false_eq_true, implies_true, true_implies, false_implies]
    rcases hz with ⟨rfl, y⟩ | ⟨rfl, y⟩
    · rw [if_pos (dec_t y)]; exact ⟨Or.inr rfl, rfl⟩
    · rw [if_neg (fun w => y (dec_iff.1 w))]; exact ⟨Or.inl rfl, rfl⟩
  have yes : cL M a n → ∀ k, 0 ≤ k → k ≤ M.1 141 24 → Run C_RM_coveredLast (fun r M' => r = some (vI (if dec (cL M a n) = true then 1 else 0)) ∧ M' = M) 13 [vR 141, vI a, vI n, vI 1, vI k] [] M := by
    intro y k k0 k1
    rw [r_RM_coveredLast_13]
    simp only [r_RM_coveredLast_15, r_RM_coveredLast_16, r_RM_coveredLast_19, r_RM_coveredLast_22, r_RM_coveredLast_23, true_and, and_true, or_true, true_or, or_false, false_or, false_and, and_false, not_true_eq_false, not_false_eq_true, implies_true, true_implies, false_implies]
    exact ⟨r32 (by omega) (by omega), r32 (by omega) (by omega), fun _ => fin 1 _ (Or.inl ⟨rfl, y⟩), fun _ => ⟨r32 (by decide) (by decide), fun _ => fin 1 _ (Or.inl ⟨rfl, y⟩), fun z => absurd (by decide) z⟩⟩
  refine Cal.mk (y := Y_RM_coveredLast) (loc := [vR 141, vI a, vI n, vN, vN]) G_RM_coveredLast rfl (by decide) rfl rfl (Nat.le_of_ble_eq_true rfl) ?_
  simp only [r_RM_coveredLast_0, r_RM_coveredLast_1, r_RM_coveredLast_4, r_RM_coveredLast_5, r_RM_coveredLast_8, r_RM_coveredLast_9, r_RM_coveredLast_10, r_RM_coveredLast_11, true_and, and_true, or_true, true_or, or_false, false_or, false_and, and_false, not_true_eq_false, not_false_eq_true, implies_true, true_implies, false_implies]
  refine ⟨r32 (by omega) (by omega), fun q => ?_, fun q => yes (Or.inl (by omega)) 0 (by decide) hm.1⟩
  refine up_loop (lo := 0) (hi := M.1 141 24) (P := fun k => (∀ j, 0 ≤ j → j < k → ¬ iand a (ixor (M.1 157 j) (-1)) = 0) → Run C_RM_coveredLast (fun r M' => r = some (vI (if dec (cL M a n) = true then 1 else 0)) ∧ M' = M) 13 [vR 141, vI a, vI n, vI 0, vI k] [] M) (fun k k0 k1 ih hk => ?_) hm.1 (fun j a b => by omega)
  rw [r_RM_coveredLast_13]
  simp only [r_RM_coveredLast_15, r_RM_coveredLast_16, r_RM_coveredLast_19, r_RM_coveredLast_22, r_RM_coveredLast_23, r_RM_coveredLast_26, r_RM_coveredLast_27, r_RM_coveredLast_30, r_RM_coveredLast_31, r_RM_coveredLast_32, r_RM_coveredLast_35, r_RM_coveredLast_37, r_RM_coveredLast_38, r_RM_coveredLast_39, r_RM_coveredLast_40, r_RM_coveredLast_41, r_RM_coveredLast_44, r_RM_coveredLast_45, r_RM_coveredLast_48, r_RM_coveredLast_49, r_RM_coveredLast_50, r_RM_coveredLast_53, true_and, and_true, or_true, true_or, or_false, false_or, false_and, and_false, not_true_eq_false, not_false_eq_true, implies_true, true_implies, false_implies]
  refine ⟨r32 (by omega) (by omega), r32 (by omega) (by omega), fun q2 => fin 0 _ (Or.inr ⟨rfl, fun y => ?_⟩), fun q2 => ⟨r32 (by decide) (by decide), r32 (by omega) (by omega), fun q3 => fin 0 _ (Or.inr ⟨rfl, fun y => ?_⟩), fun q3 => ⟨k0, by omega, ?_⟩⟩⟩
  · rcases y with y | ⟨-, j, x1, x2, x3⟩
    · exact q y
    · exact hk j x1 (by omega) x3
  · rcases y with y | ⟨x, -⟩
    · exact q y
    · omega
  · have hb := h.2 k k0 (by omega)
    have hi := iandn_bd (a := a) (b := M.1 157 k) a0 (by omega) hb.1
    refine ⟨r32 (by omega) (by omega), fun q4 => ih (by omega) (fun j x y => ?_), fun q4 => yes (Or.inr ⟨by omega, k, k0, by omega, Classical.not_not.1 q4⟩) (k + 1) (by omega) (by omega)⟩
    by_cases e : j = k
    · rw [e]; exact q4
    · exact hk j x (by omega)
