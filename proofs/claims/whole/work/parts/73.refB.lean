/-! the reference: refuse, tell, copy, remember, number -/
def Qm (s : Int × St) (M : Mem) : Option Vl → Mem → Prop := fun v M' => v = some (vI s.1) ∧ MI s.2 M' ∧ Kp KM M M'
theorem M_refuse {σ : St} {M : Mem} (h : MI σ M) {w : Int} (hw : w = -1 ∨ w = -2 ∨ w = -4 ∨ w = -5) : Cal Y_RM_refuse [vR 141, vI w] M (fun r M' => r = some (vI w) ∧ MI (rfs σ w) M' ∧ Kp KM M M') := by
  obtain ⟨h1, h2, h3, h4, ⟨f1, f2, f4, f5⟩, h6⟩ := h
  refine Cal.mk (y := Y_RM_refuse) (loc := [vR 141, vI w]) G_RM_refuse rfl (by decide) rfl rfl (Nat.le_of_ble_eq_true rfl) ?_
  simp only [r_RM_refuse_0, r_RM_refuse_1, r_RM_refuse_2, r_RM_refuse_5, r_RM_refuse_6, r_RM_refuse_9, r_RM_refuse_10, r_RM_refuse_11, r_RM_refuse_12, r_RM_refuse_13, r_RM_refuse_14, r_RM_refuse_15, r_RM_refuse_16, r_RM_refuse_17, true_and, and_true, or_true, true_or, or_false, false_or, false_and, and_false, not_true_eq_false, not_false_eq_true, implies_true, true_implies, false_implies]
  refine ⟨by omega, by omega, by omega, by omega, ?_⟩
  rw [wI_c (by decide)]
  have k : Kp (fun c => c = 141 ∨ c = 142) M (wI (wI M 141 1 w) 142 (-w) (M.1 142 (-w) + 1)) := Kp.w (Kp.w Kp.rf (Or.inl rfl)) (Or.inr rfl)
  have e7 : (wI (wI M 141 1 w) 142 (-w) (M.1 142 (-w) + 1)).1 141 7 = M.1 141 7 := by rw [wI_c (by decide), wI_oth (by decide)]
  have e1 : (wI (wI M 141 1 w) 142 (-w) (M.1 142 (-w) + 1)).1 141 1 = w := by rw [wI_c (by decide), wI_same]
  refine ⟨⟨?_, ?_, ?_, ?_, ?_, e1⟩, k.sub (fun c z => by unfold KM; omega)⟩
  · intro i a b; rw [k.at (by decide)]; exact h1 i a b
  · unfold MU at h2 ⊢
    rw [e7, k.c (c := 145) (by decide), k.c (c := 146) (by decide)]; exact h2
  · unfold MG at h3 ⊢
    rw [k.c (c := 147) (by decide), k.c (c := 148) (by decide)]; exact h3
  · intro i a b; rw [k.at (by decide)]; exact h4 i a b
  · show _ = rs σ.2.2.2.2.1 (plc w) (σ.2.2.2.2.1 (plc w) + 1) 0 ∧ _ = rs σ.2.2.2.2.1 (plc w) (σ.2.2.2.2.1 (plc w) + 1) 1 ∧ _ = rs σ.2.2.2.2.1 (plc w) (σ.2.2.2.2.1 (plc w) + 1) 2 ∧ _ = rs σ.2.2.2.2.1 (plc w) (σ.2.2.2.2.1 (plc w) + 1) 3
    rcases hw with rfl | rfl | rfl | rfl
    · refine ⟨?_, ?_, ?_, ?_⟩ <;> simp [wI_at, rs, plc, f1, f2, f4, f5]
    · refine ⟨?_, ?_, ?_, ?_⟩ <;> simp [wI_at, rs, plc, f1, f2, f4, f5]
    · refine ⟨?_, ?_, ?_, ?_⟩ <;> simp [wI_at, rs, plc, f1, f2, f4, f5]
    · refine ⟨?_, ?_, ?_, ?_⟩ <;> simp [wI_at, rs, plc, f1, f2, f4, f5]
theorem Qm.ref {σ : St} {M M1 : Mem} (h : MI σ M1) (hk : Kp KM M M1) {w : Int} (hw : w = -1 ∨ w = -2 ∨ w = -4 ∨ w = -5) {s : Int × St} (hs : s = (w, rfs σ w)) : Cal Y_RM_refuse [vR 141, vI w] M1 (fun v M' => ∃ z, v = some (vI z) ∧ Qm s M (some (vI z)) M') := by
  refine (M_refuse h hw).mono ?_
  rintro _ M' ⟨rfl, a, b⟩
  rw [hs]
  exact ⟨_, rfl, rfl, a, hk.trans b⟩
theorem M_st {σ : St} {M : Mem} (h : MI σ M) (z : Int) : MI (σ.1, σ.2.1, σ.2.2.1, σ.2.2.2.1, σ.2.2.2.2.1, z) (wI M 141 1 z) := by
  have k : Kp (fun c => c = 141) M (wI M 141 1 z) := Kp.w Kp.rf rfl
  obtain ⟨h1, h2, h3, h4, h5, h6⟩ := h
  refine ⟨?_, ?_, ?_, ?_, ?_, wI_same _ _ _ _⟩
  · intro i a b; rw [k.at (by decide)]; exact h1 i a b
  · unfold MU at h2 ⊢
    rw [wI_oth (by decide), k.c (c := 145) (by decide), k.c (c := 146) (by decide)]; exact h2
  · unfold MG at h3 ⊢
    rw [k.c (c := 147) (by decide), k.c (c := 148) (by decide)]; exact h3
  · intro i a b; rw [k.at (by decide)]; exact h4 i a b
  · rw [k.c (c := 142) (by decide)]; exact h5
theorem Qm.tell {σ : St} {M M1 : Mem} (h : MI σ M1) (hk : Kp KM M M1) {x : Int} {s : Int × St} (hs : s = (x, (σ.1, σ.2.1, σ.2.2.1, σ.2.2.2.1, σ.2.2.2.2.1, 0))) : Cal Y_RM_tell [vR 141, vI x] M1 (fun v M' => ∃ z, v = some (vI z) ∧ Qm s M (some (vI z)) M') := by
  refine Cal.mk (y := Y_RM_tell) (loc := [vR 141, vI x]) G_RM_tell rfl (by decide) rfl rfl (Nat.le_of_ble_eq_true rfl) ?_
  simp only [r_RM_tell_0, r_RM_tell_1, r_RM_tell_2, r_RM_tell_5, r_RM_tell_6, true_and, and_true, or_true, true_or, or_false, false_or, false_and, and_false, not_true_eq_false, not_false_eq_true, implies_true, true_implies, false_implies]
  rw [hs]
  exact ⟨x, rfl, rfl, M_st h 0, hk.trans (Kp.w Kp.rf (by unfold KM; decide))⟩
theorem copy_144_145 (M : Mem) {x y : Int} (x0 : 0 ≤ x) (x1 : x + 240 ≤ 240) (y0 : 0 ≤ y) (y1 : y + 240 ≤ 2400) : Cal Y_RM_copy [vR 144, vI x, vR 145, vI y] M (fun r M' => r = none ∧ Kp (fun c => c = 145) M M' ∧ ∀ i, M'.1 145 i = if y ≤ i ∧ i < y + 240 then M.1 144 (x + (i - y)) else M.1 145 i) := by
  refine Cal.mk (y := Y_RM_copy) (loc := [vR 144, vI x, vR 145, vI y, vN]) G_RM_copy rfl (by decide) rfl rfl (Nat.le_of_ble_eq_true rfl) ?_
  simp only [r_RM_copy_144_145_0, r_RM_copy_144_145_1, true_and, and_true, or_true, true_or, or_false, false_or, false_and, and_false, not_true_eq_false, not_false_eq_true, implies_true, true_implies, false_implies]
  refine up_loop (lo := 0) (hi := 240) (P := fun k => ∀ M1, Kp (fun c => c = 145) M M1 → (∀ i, M1.1 145 i = if y ≤ i ∧ i < y + k then M.1 144 (x + (i - y)) else M.1 145 i) → Run C_RM_copy (fun r M' => r = none ∧ Kp (fun c => c = 145) M M' ∧ ∀ i, M'.1 145 i = if y ≤ i ∧ i < y + 240 then M.1 144 (x + (i - y)) else M.1 145 i) 3 [vR 144, vI x, vR 145, vI y, vI k] [] M1) (fun k k0 k1 ih M1 kk h => ?_) (by decide) M Kp.rf (fun i => by rw [if_neg (by omega)])
  rw [r_RM_copy_144_145_3]
  simp only [r_RM_copy_144_145_5, r_RM_copy_144_145_8, r_RM_copy_144_145_11, r_RM_copy_144_145_12, r_RM_copy_144_145_13, r_RM_copy_144_145_15, r_RM_copy_144_145_16, r_RM_copy_144_145_17, r_RM_copy_144_145_18, r_RM_copy_144_145_20, r_RM_copy_144_145_21, r_RM_copy_144_145_22, r_RM_copy_144_145_23, r_RM_copy_144_145_26, true_and, and_true, or_true, true_or, or_false, false_or, false_and, and_false, not_true_eq_false, not_false_eq_true, implies_true, true_implies, false_implies]
  refine ⟨r32 (by omega) (by omega), r32 (by decide) (by decide), fun q => ?_, fun q => ⟨by omega, by omega, by omega, by omega, ih (by omega) _ (Kp.w kk rfl) (fun i => ?_)⟩⟩
  · simp only [r_RM_copy_144_145_29, true_and, and_true, or_true, true_or, or_false, false_or, false_and, and_false, not_true_eq_false, not_false_eq_true, implies_true, true_implies, false_implies]
    rw [show k = 240 by omega] at h
    exact ⟨kk, h⟩
  · rw [wI_at, kk.at (c := 144) (by decide)]
    by_cases z : i = y + k
    · rw [if_pos ⟨rfl, z⟩, if_pos (by omega), z, show y + k - y = k by omega]
    · rw [if_neg (fun w => z w.2), h]
      by_cases z2 : y ≤ i ∧ i < y + k
      · rw [if_pos z2, if_pos (by omega)]
      · rw [if_neg z2, if_neg (by omega)]
theorem copy_145_144 (M : Mem) {x y : Int} (x0 : 0 ≤ x) (x1 : x + 240 ≤ 2400) (y0 : 0 ≤ y) (y1 : y + 240 ≤ 240) : Cal Y_RM_copy [vR 145, vI x, vR 144, vI y] M (fun r M' => r = none ∧ Kp (fun c => c = 144) M M' ∧ ∀ i, M'.1 144 i = if y ≤ i ∧ i < y + 240 then M.1 145 (x + (i - y)) else M.1 144 i) := by
  refine Cal.mk (y := Y_RM_copy) (loc := [vR 145, vI x, vR 144, vI y, vN]) G_RM_copy rfl (by decide) rfl rfl (Nat.le_of_ble_eq_true rfl) ?_
  simp only [r_RM_copy_145_144_0, r_RM_copy_145_144_1, true_and, and_true, or_true, true_or, or_false, false_or, false_and, and_false, not_true_eq_false, not_false_eq_true, implies_true, true_implies, false_implies]
  refine up_loop (lo := 0) (hi := 240) (P := fun k => ∀ M1, Kp (fun c => c = 144) M M1 → (∀ i, M1.1 144 i = if y ≤ i ∧ i < y + k then M.1 145 (x + (i - y)) else M.1 144 i) → Run C_RM_copy (fun r M' => r = none ∧ Kp (fun c => c = 144) M M' ∧ ∀ i, M'.1 144 i = if y ≤ i ∧ i < y + 240 then M.1 145 (x + (i - y)) else M.1 144 i) 3 [vR 145, vI x, vR 144, vI y, vI k] [] M1) (fun k k0 k1 ih M1 kk h => ?_) (by decide) M Kp.rf (fun i => by rw [if_neg (by omega)])
  rw [r_RM_copy_145_144_3]
  simp only [r_RM_copy_145_144_5, r_RM_copy_145_144_8, r_RM_copy_145_144_11, r_RM_copy_145_144_12, r_RM_copy_145_144_13, r_RM_copy_145_144_15, r_RM_copy_145_144_16, r_RM_copy_145_144_17, r_RM_copy_145_144_18, r_RM_copy_145_144_20, r_RM_copy_145_144_21, r_RM_copy_145_144_22, r_RM_copy_145_144_23, r_RM_copy_145_144_26, true_and, and_true, or_true, true_or, or_false, false_or, false_and, and_false, not_true_eq_false, not_false_eq_true, implies_true, true_implies, false_implies]
  refine ⟨r32 (by omega) (by omega), r32 (by decide) (by decide), fun q => ?_, fun q => ⟨by omega, by omega, by omega, by omega, ih (by omega) _ (Kp.w kk rfl) (fun i => ?_)⟩⟩
  · simp only [r_RM_copy_145_144_29, true_and, and_true, or_true, true_or, or_false, false_or, false_and, and_false, not_true_eq_false, not_false_eq_true, implies_true, true_implies, false_implies]
    rw [show k = 240 by omega] at h
    exact ⟨kk, h⟩
  · rw [wI_at, kk.at (c := 145) (by decide)]
    by_cases z : i = y + k
    · rw [if_pos ⟨rfl, z⟩, if_pos (by omega), z, show y + k - y = k by omega]
    · rw [if_neg (fun w => z w.2), h]
      by_cases z2 : y ≤ i ∧ i < y + k
      · rw [if_pos z2, if_pos (by omega)]
      · rw [if_neg z2, if_neg (by omega)]
theorem copy_144_147 (M : Mem) {x y : Int} (x0 : 0 ≤ x) (x1 : x + 240 ≤ 240) (y0 : 0 ≤ y) (y1 : y + 240 ≤ 480) : Cal Y_RM_copy [vR 144, vI x, vR 147, vI y] M (fun r M' => r = none ∧ Kp (fun c => c = 147) M M' ∧ ∀ i, M'.1 147 i = if y ≤ i ∧ i < y + 240 then M.1 144 (x + (i - y)) else M.1 147 i) := by
  refine Cal.mk (y := Y_RM_copy) (loc := [vR 144, vI x, vR 147, vI y, vN]) G_RM_copy rfl (by decide) rfl rfl (Nat.le_of_ble_eq_true rfl) ?_
  simp only [r_RM_copy_144_147_0, r_RM_copy_144_147_1, true_and, and_true, or_true, true_or, or_false, false_or, false_and, and_false, not_true_eq_false, not_false_eq_true, implies_true, true_implies, false_implies]
  refine up_loop (lo := 0) (hi := 240) (P := fun k => ∀ M1, Kp (fun c => c = 147) M M1 → (∀ i, M1.1 147 i = if y ≤ i ∧ i < y + k then M.1 144 (x + (i - y)) else M.1 147 i) → Run C_RM_copy (fun r M' => r = none ∧ Kp (fun c => c = 147) M M' ∧ ∀ i, M'.1 147 i = if y ≤ i ∧ i < y + 240 then M.1 144 (x + (i - y)) else M.1 147 i) 3 [vR 144, vI x, vR 147, vI y, vI k] [] M1) (fun k k0 k1 ih M1 kk h => ?_) (by decide) M Kp.rf (fun i => by rw [if_neg (by omega)])
  rw [r_RM_copy_144_147_3]
  simp only [r_RM_copy_144_147_5, r_RM_copy_144_147_8, r_RM_copy_144_147_11, r_RM_copy_144_147_12, r_RM_copy_144_147_13, r_RM_copy_144_147_15, r_RM_copy_144_147_16, r_RM_copy_144_147_17, r_RM_copy_144_147_18, r_RM_copy_144_147_20, r_RM_copy_144_147_21, r_RM_copy_144_147_22, r_RM_copy_144_147_23, r_RM_copy_144_147_26, true_and, and_true, or_true, true_or, or_false, false_or, false_and, and_false, not_true_eq_false, not_false_eq_true, implies_true, true_implies, false_implies]
  refine ⟨r32 (by omega) (by omega), r32 (by decide) (by decide), fun q => ?_, fun q => ⟨by omega, by omega, by omega, by omega, ih (by omega) _ (Kp.w kk rfl) (fun i => ?_)⟩⟩
  · simp only [r_RM_copy_144_147_29, true_and, and_true, or_true, true_or, or_false, false_or, false_and, and_false, not_true_eq_false, not_false_eq_true, implies_true, true_implies, false_implies]
    rw [show k = 240 by omega] at h
    exact ⟨kk, h⟩
  · rw [wI_at, kk.at (c := 144) (by decide)]
    by_cases z : i = y + k
    · rw [if_pos ⟨rfl, z⟩, if_pos (by omega), z, show y + k - y = k by omega]
    · rw [if_neg (fun w => z w.2), h]
      by_cases z2 : y ≤ i ∧ i < y + k
      · rw [if_pos z2, if_pos (by omega)]
      · rw [if_neg z2, if_neg (by omega)]
theorem copy_147_144 (M : Mem) {x y : Int} (x0 : 0 ≤ x) (x1 : x + 240 ≤ 480) (y0 : 0 ≤ y) (y1 : y + 240 ≤ 240) : Cal Y_RM_copy [vR 147, vI x, vR 144, vI y] M (fun r M' => r = none ∧ Kp (fun c => c = 144) M M' ∧ ∀ i, M'.1 144 i = if y ≤ i ∧ i < y + 240 then M.1 147 (x + (i - y)) else M.1 144 i) := by
  refine Cal.mk (y := Y_RM_copy) (loc := [vR 147, vI x, vR 144, vI y, vN]) G_RM_copy rfl (by decide) rfl rfl (Nat.le_of_ble_eq_true rfl) ?_
  simp only [r_RM_copy_147_144_0, r_RM_copy_147_144_1, true_and, and_true, or_true, true_or, or_false, false_or, false_and, and_false, not_true_eq_false, not_false_eq_true, implies_true, true_implies, false_implies]
  refine up_loop (lo := 0) (hi := 240) (P := fun k => ∀ M1, Kp (fun c => c = 144) M M1 → (∀ i, M1.1 144 i = if y ≤ i ∧ i < y + k then M.1 147 (x + (i - y)) else M.1 144 i) → Run C_RM_copy (fun r M' => r = none ∧ Kp (fun c => c = 144) M M' ∧ ∀ i, M'.1 144 i = if y ≤ i ∧ i < y + 240 then M.1 147 (x + (i - y)) else M.1 144 i) 3 [vR 147, vI x, vR 144, vI y, vI k] [] M1) (fun k k0 k1 ih M1 kk h => ?_) (by decide) M Kp.rf (fun i => by rw [if_neg (by omega)])
  rw [r_RM_copy_147_144_3]
  simp only [r_RM_copy_147_144_5, r_RM_copy_147_144_8, r_RM_copy_147_144_11, r_RM_copy_147_144_12, r_RM_copy_147_144_13, r_RM_copy_147_144_15, r_RM_copy_147_144_16, r_RM_copy_147_144_17, r_RM_copy_147_144_18, r_RM_copy_147_144_20, r_RM_copy_147_144_21, r_RM_copy_147_144_22, r_RM_copy_147_144_23, r_RM_copy_147_144_26, true_and, and_true, or_true, true_or, or_false, false_or, false_and, and_false, not_true_eq_false, not_false_eq_true, implies_true, true_implies, false_implies]
  refine ⟨r32 (by omega) (by omega), r32 (by decide) (by decide), fun q => ?_, fun q => ⟨by omega, by omega, by omega, by omega, ih (by omega) _ (Kp.w kk rfl) (fun i => ?_)⟩⟩
  · simp only [r_RM_copy_147_144_29, true_and, and_true, or_true, true_or, or_false, false_or, false_and, and_false, not_true_eq_false, not_false_eq_true, implies_true, true_implies, false_implies]
    rw [show k = 240 by omega] at h
    exact ⟨kk, h⟩
  · rw [wI_at, kk.at (c := 147) (by decide)]
    by_cases z : i = y + k
    · rw [if_pos ⟨rfl, z⟩, if_pos (by omega), z, show y + k - y = k by omega]
    · rw [if_neg (fun w => z w.2), h]
      by_cases z2 : y ≤ i ∧ i < y + k
      · rw [if_pos z2, if_pos (by omega)]
      · rw [if_neg z2, if_neg (by omega)]
theorem remember_s {M : Mem} {a : Int} {ρ : Rw} {us : List (Int × Rw)} (hR : RR ρ M) (hU : MU us M) : Cal Y_RM_remember [vR 141, vI a] M (fun r M' => r = none ∧ MU ((a, ρ) :: us.take 9) M' ∧ (∀ i, ¬ i = 7 → M'.1 141 i = M.1 141 i) ∧ Kp (fun c => c = 141 ∨ c = 145 ∨ c = 146) M M') := by
  have hlen := hU.2.1
  -- the rest, once there is room
  have rest : ∀ M1 l2, Kp (fun c => c = 141 ∨ c = 145 ∨ c = 146) M M1 → (∀ i, ¬ i = 7 → M1.1 141 i = M.1 141 i) → MU (us.take 9) M1 → Run C_RM_remember (fun r M' => r = none ∧ MU ((a, ρ) :: us.take 9) M' ∧ (∀ i, ¬ i = 7 → M'.1 141 i = M.1 141 i) ∧ Kp (fun c => c = 141 ∨ c = 145 ∨ c = 146) M M') 78 [vR 141, vI a, l2] [] M1 := by
    intro M1 l2 k1 f1 hU1
    generalize hvs : us.take 9 = vs at hU1 ⊢
    have hl9 : vs.length ≤ 9 := by rw [← hvs, List.length_take]; omega
    simp only [r_RM_remember_78, r_RM_remember_79, r_RM_remember_82, r_RM_remember_83, r_RM_remember_84, r_RM_remember_87, r_RM_remember_90, r_RM_remember_91, r_RM_remember_94, r_RM_remember_95, true_and, and_true, or_true, true_or, or_false, false_or, false_and, and_false, not_true_eq_false, not_false_eq_true, implies_true, true_implies, false_implies, hU1.1]
    refine (copy_144_145 M1 (x := 0) (y := 240 * (vs.length : Int)) (by decide) (by decide) (by omega) (by omega)).mono ?_
    rintro _ M2 ⟨rfl, k2, h2⟩
    have e7 : M2.1 141 7 = (vs.length : Int) := by rw [k2.at (by decide)]; exact hU1.1
    simp only [r_RM_remember_98, r_RM_remember_99, r_RM_remember_102, r_RM_remember_103, r_RM_remember_106, r_RM_remember_107, r_RM_remember_108, r_RM_remember_109, r_RM_remember_110, r_RM_remember_113, r_RM_remember_114, r_RM_remember_115, r_RM_remember_118, true_and, and_true, or_true, true_or, or_false, false_or, false_and, and_false, not_true_eq_false, not_false_eq_true, implies_true, true_implies, false_implies, e7]
    refine ⟨by omega, by omega, ?_⟩
    rw [wI_c (by decide), e7]
    generalize hM3 : wI (wI M2 146 (vs.length : Int) a) 141 7 ((vs.length : Int) + 1) = M3
    have k3 : Kp (fun c => c = 141 ∨ c = 145 ∨ c = 146) M M3 := by
      rw [← hM3]
      exact Kp.w (Kp.w (k1.trans (k2.sub (fun c z => by omega))) (by decide)) (by decide)
    have s6 : ∀ i, M3.1 146 i = if i = (vs.length : Int) then a else M1.1 146 i := fun i => by
      rw [← hM3, wI_c (by decide), wI_at]
      by_cases y : i = (vs.length : Int)
      · rw [if_pos ⟨rfl, y⟩, if_pos y]
      · rw [if_neg (fun x => y x.2), if_neg y, k2.at (by decide)]
    have s5 : ∀ i, M3.1 145 i = if 240 * (vs.length : Int) ≤ i ∧ i < 240 * (vs.length : Int) + 240 then ρ (i - 240 * (vs.length : Int)) else M1.1 145 i := fun i => by
      rw [← hM3, wI_c (by decide), wI_c (by decide), h2]
      by_cases y : 240 * (vs.length : Int) ≤ i ∧ i < 240 * (vs.length : Int) + 240
      · rw [if_pos y, if_pos y, k1.at (by decide), Int.zero_add]
        exact hR _ (by omega) (by omega)
      · rw [if_neg y, if_neg y]
    refine ⟨⟨?_, ?_, fun j u hu => ?_⟩, fun i z => ?_, k3⟩
    · rw [← hM3, wI_same, List.length_cons]; omega
    · rw [List.length_cons]; omega
    · rw [List.length_cons]
      cases j with
      | zero =>
        rw [List.getElem?_cons_zero] at hu
        injection hu with hu
        rw [← hu, show ((vs.length + 1 : Nat) : Int) - 1 - ((0 : Nat) : Int) = (vs.length : Int) by omega]
        refine ⟨by rw [s6, if_pos rfl], fun i x y => ?_⟩
        rw [s5, if_pos (by omega), show 240 * (vs.length : Int) + i - 240 * (vs.length : Int) = i by omega]
      | succ j =>
        rw [List.getElem?_cons_succ] at hu
        have hj : j < vs.length := by
          rcases Nat.lt_or_ge j vs.length with z | z
          · exact z
          · rw [List.getElem?_eq_none z] at hu; cases hu
        have := hU1.2.2 j u hu
        rw [show ((vs.length + 1 : Nat) : Int) - 1 - ((j + 1 : Nat) : Int) = (vs.length : Int) - 1 - (j : Int) by omega]
        refine ⟨by rw [s6, if_neg (by omega)]; exact this.1, fun i x y => ?_⟩
        rw [s5, if_neg (by omega)]; exact this.2 i x y
    · rw [← hM3, wI_oth (by omega), wI_c (by decide), k2.at (by decide)]; exact f1 i z
  refine Cal.mk (y := Y_RM_remember) (loc := [vR 141, vI a, vN]) G_RM_remember rfl (by decide) rfl rfl (Nat.le_of_ble_eq_true rfl) ?_
  simp only [r_RM_remember_0, r_RM_remember_1, r_RM_remember_4, r_RM_remember_6, r_RM_remember_9, r_RM_remember_10, true_and, and_true, or_true, true_or, or_false, false_or, false_and, and_false, not_true_eq_false, not_false_eq_true, implies_true, true_implies, false_implies, hU.1]
  refine ⟨r32 (by omega) (by omega), r32 (by decide) (by decide), fun q => ?_, fun q => ?_⟩
  · refine rest M _ Kp.rf (fun _ _ => rfl) ?_
    rw [List.take_of_length_le (by omega)]; exact hU
  · -- the oldest goes
    have hl : us.length = 10 := by omega
    refine up_loop (lo := 0) (hi := 2160) (P := fun k => ∀ M1, Kp (fun c => c = 145) M M1 → (∀ i, M1.1 145 i = if 0 ≤ i ∧ i < k then M.1 145 (i + 240) else M.1 145 i) → Run C_RM_remember (fun r M' => r = none ∧ MU ((a, ρ) :: us.take 9) M' ∧ (∀ i, ¬ i = 7 → M'.1 141 i = M.1 141 i) ∧ Kp (fun c => c = 141 ∨ c = 145 ∨ c = 146) M M') 11 [vR 141, vI a, vI k] [] M1) (fun k k0 k1 ih M1 kk h => ?_) (by decide) M Kp.rf (fun i => by rw [if_neg (by omega)])
    rw [r_RM_remember_11]
    simp only [r_RM_remember_12, r_RM_remember_15, r_RM_remember_18, r_RM_remember_19, r_RM_remember_22, r_RM_remember_23, r_RM_remember_24, r_RM_remember_27, r_RM_remember_28, r_RM_remember_31, r_RM_remember_32, r_RM_remember_33, r_RM_remember_34, r_RM_remember_37, true_and, and_true, or_true, true_or, or_false, false_or, false_and, and_false, not_true_eq_false, not_false_eq_true, implies_true, true_implies, false_implies]
    refine ⟨r32 (by omega) (by omega), r32 (by decide) (by decide), fun q2 => ?_, fun q2 => ⟨by omega, by omega, k0, by omega, ih (by omega) _ (Kp.w kk rfl) (fun i => ?_)⟩⟩
    · simp only [r_RM_remember_40, r_RM_remember_41, true_and, and_true, or_true, true_or, or_false, false_or, false_and, and_false, not_true_eq_false, not_false_eq_true, implies_true, true_implies, false_implies]
      rw [show k = 2160 by omega] at h
      refine up_loop (lo := 0) (hi := 9) (P := fun k => ∀ M2, Kp (fun c => c = 146) M1 M2 → (∀ i, M2.1 146 i = if 0 ≤ i ∧ i < k then M.1 146 (i + 1) else M.1 146 i) → Run C_RM_remember (fun r M' => r = none ∧ MU ((a, ρ) :: us.take 9) M' ∧ (∀ i, ¬ i = 7 → M'.1 141 i = M.1 141 i) ∧ Kp (fun c => c = 141 ∨ c = 145 ∨ c = 146) M M') 42 [vR 141, vI a, vI k] [] M2) (fun k k0 k1 ih2 M2 kk2 h2 => ?_) (by decide) M1 Kp.rf (fun i => by rw [if_neg (by omega), kk.at (by decide)])
      rw [r_RM_remember_42]
      simp only [r_RM_remember_43, r_RM_remember_45, r_RM_remember_48, r_RM_remember_49, r_RM_remember_52, r_RM_remember_53, r_RM_remember_54, r_RM_remember_57, r_RM_remember_58, r_RM_remember_59, r_RM_remember_60, r_RM_remember_61, r_RM_remember_62, r_RM_remember_65, r_RM_remember_68, r_RM_remember_69, r_RM_remember_70, r_RM_remember_73, r_RM_remember_74, r_RM_remember_75, true_and, and_true, or_true, true_or, or_false, false_or, false_and, and_false, not_true_eq_false, not_false_eq_true, implies_true, true_implies, false_implies]
      have e7 : M2.1 141 7 = 10 := by rw [kk2.at (by decide), kk.at (by decide), hU.1, hl]; rfl
      refine ⟨r32 (by omega) (by omega), r32 (by decide) (by decide), fun q3 => ?_, fun q3 => ⟨by omega, by omega, k0, by omega, ih2 (by omega) _ (Kp.w kk2 rfl) (fun i => ?_)⟩⟩
      · rw [show k = 9 by omega] at h2
        rw [e7]
        refine rest _ _ (Kp.w ((kk.sub (fun c z => by omega)).trans (kk2.sub (fun c z => by omega))) (by decide)) (fun i z => by rw [wI_oth z, kk2.at (by decide), kk.at (by decide)]) ⟨?_, ?_, fun j u hu => ?_⟩
        · rw [wI_same, List.length_take, hl]; rfl
        · rw [List.length_take]; omega
        · rw [wI_c (by decide), wI_c (by decide), List.length_take, hl, kk2.c (c := 145) (by decide)]
          have hj : j < 9 := by
            rcases Nat.lt_or_ge j 9 with z | z
            · exact z
            · rw [List.getElem?_eq_none (by rw [List.length_take]; omega)] at hu; cases hu
          rw [List.getElem?_take_of_lt hj] at hu
          have := hU.2.2 j u hu
          rw [hl] at this
          rw [show ((min 9 10 : Nat) : Int) = 9 from rfl]
          rw [show ((10 : Nat) : Int) = 10 from rfl] at this
          refine ⟨?_, fun i x y => ?_⟩
          · rw [h2, if_pos (by omega), show (9 : Int) - 1 - j + 1 = 10 - 1 - j by omega]; exact this.1
          · rw [h, if_pos (by omega), show 240 * ((9 : Int) - 1 - j) + i + 240 = 240 * (10 - 1 - j) + i by omega]; exact this.2 i x y
      · have ek : M2.1 146 (k + 1) = M.1 146 (k + 1) := by rw [h2, if_neg (by omega)]
        rw [wI_at, ek]
        by_cases z : i = k
        · rw [if_pos ⟨rfl, z⟩, if_pos (by omega), z]
        · rw [if_neg (fun w => z w.2), h2]
          by_cases z2 : 0 ≤ i ∧ i < k
          · rw [if_pos z2, if_pos (by omega)]
          · rw [if_neg z2, if_neg (by omega)]
    · have ek : M1.1 145 (k + 240) = M.1 145 (k + 240) := by rw [h, if_neg (by omega)]
      rw [wI_at, ek]
      by_cases z : i = k
      · rw [if_pos ⟨rfl, z⟩, if_pos (by omega), z]
      · rw [if_neg (fun w => z w.2), h]
        by_cases z2 : 0 ≤ i ∧ i < k
        · rw [if_pos z2, if_pos (by omega)]
        · rw [if_neg z2, if_neg (by omega)]
theorem M_remember {σ : St} {M : Mem} (h : MI σ M) (a : Int) : Cal Y_RM_remember [vR 141, vI a] M (fun r M' => r = none ∧ MI (σ.1, (a, σ.1) :: σ.2.1.take 9, σ.2.2) M' ∧ Kp KM M M' ∧ ∀ i, ¬ i = 7 → M'.1 141 i = M.1 141 i) := by
  obtain ⟨h1, h2, h3, h4, h5, h6⟩ := h
  refine (remember_s h1 h2).mono ?_
  rintro _ M' ⟨rfl, u, f, k⟩
  refine ⟨rfl, ⟨?_, u, ?_, ?_, ?_, ?_⟩, k.sub (fun c z => by unfold KM; omega), f⟩
  · intro i x y; rw [k.at (by decide)]; exact h1 i x y
  · unfold MG at h3 ⊢
    rw [k.c (c := 147) (by decide), k.c (c := 148) (by decide)]; exact h3
  · intro i x y; rw [k.at (by decide)]; exact h4 i x y
  · rw [k.c (c := 142) (by decide)]; exact h5
  · rw [f 1 (by decide)]; exact h6
