/-! the reference's cover: its sets -/
theorem raddSet_s {M : Mem} {e : Int} (m0 : 0 ≤ M.1 141 24) (m1 : M.1 141 24 < 1600) (e0 : 0 ≤ e) (e1 : e < 1048576) (hb : ∀ j, 0 ≤ j → j < M.1 141 24 → 0 ≤ M.1 157 j ∧ M.1 157 j < 1048576) : Cal Y_RM_addSet [vR 141, vI e] M (fun r M' => r = none ∧ Kp (fun c => c = 141 ∨ c = 157) M M' ∧ (∀ i, ¬ i = 24 → M'.1 141 i = M.1 141 i) ∧ ((M'.1 141 24 = M.1 141 24 ∧ (∀ j, M'.1 157 j = M.1 157 j) ∧ (e = 0 ∨ ∃ j, 0 ≤ j ∧ j < M.1 141 24 ∧ M.1 157 j = e)) ∨ (M'.1 141 24 = M.1 141 24 + 1 ∧ M'.1 157 (M.1 141 24) = e ∧ ¬ e = 0 ∧ ∀ j, 0 ≤ j → j < M.1 141 24 → M'.1 157 j = M.1 157 j ∧ ¬ M.1 157 j = e))) := by
  generalize hQ : (fun (r : Option Vl) (M' : Mem) => r = none ∧ Kp (fun c => c = 141 ∨ c = 157) M M' ∧ (∀ i, ¬ i = 24 → M'.1 141 i = M.1 141 i) ∧ ((M'.1 141 24 = M.1 141 24 ∧ (∀ j, M'.1 157 j = M.1 157 j) ∧ (e = 0 ∨ ∃ j, 0 ≤ j ∧ j < M.1 141 24 ∧ M.1 157 j = e)) ∨ (M'.1 141 24 = M.1 141 24 + 1 ∧ M'.1 157 (M.1 141 24) = e ∧ ¬ e = 0 ∧ ∀ j, 0 ≤ j → j < M.1 141 24 → M'.1 157 j = M.1 157 j ∧ ¬ M.1 157 j = e))) = Q
  have e24 : (wI M 157 (M.1 141 24) e).1 141 24 = M.1 141 24 := by rw [wI_c (by decide)]
  have f1 : (¬ e = 0 ∧ ∀ j, 0 ≤ j → j < M.1 141 24 → ¬ M.1 157 j = e) → ∀ l3, Run C_RM_addSet Q 46 [vR 141, vI e, vI 1, l3] [] M := by
    intro hz l3
    simp only [r_RM_addSet_46, r_RM_addSet_47, r_RM_addSet_50, r_RM_addSet_51, r_RM_addSet_54, r_RM_addSet_55, r_RM_addSet_58, r_RM_addSet_59, r_RM_addSet_60, r_RM_addSet_61, r_RM_addSet_62, r_RM_addSet_65, r_RM_addSet_66, r_RM_addSet_67, r_RM_addSet_70, true_and, and_true, or_true, true_or, or_false, false_or, false_and, and_false, not_true_eq_false, not_false_eq_true, implies_true, true_implies, false_implies, e24]
    refine ⟨r32 (by decide) (by decide), fun z => absurd z (by decide), fun _ => ⟨m0, by omega, ?_⟩⟩
    rw [← hQ]
    refine ⟨rfl, Kp.w (Kp.w Kp.rf (Or.inr rfl)) (Or.inl rfl), fun i hi => ?_, Or.inr ⟨wI_same _ _ _ _, ?_, hz.1, fun j a b => ⟨?_, hz.2 j a b⟩⟩⟩
    · rw [wI_oth hi, wI_c (by decide)]
    · rw [wI_c (by decide)]; exact wI_same _ _ _ _
    · rw [wI_c (by decide), wI_oth (by omega)]
  have f0 : (e = 0 ∨ ∃ j, 0 ≤ j ∧ j < M.1 141 24 ∧ M.1 157 j = e) → ∀ l3, Run C_RM_addSet Q 46 [vR 141, vI e, vI 0, l3] [] M := by
    intro hz l3
    simp only [r_RM_addSet_46, r_RM_addSet_47, r_RM_addSet_70, true_and, and_true, or_true, true_or, or_false, false_or, false_and, and_false, not_true_eq_false, not_false_eq_true, implies_true, true_implies, false_implies]
    rw [← hQ]
    exact ⟨r32 (by decide) (by decide), rfl, Kp.rf, fun i _ => rfl, Or.inl ⟨rfl, fun j => rfl, hz⟩⟩
  have loop : ∀ z, ((z = 1 ∧ ¬ e = 0) ∨ (z = 0 ∧ e = 0)) → Run C_RM_addSet Q 12 [vR 141, vI e, vI z, vI 0] [] M := by
    intro z hz
    refine up_loop (lo := 0) (hi := M.1 141 24) (P := fun k => ∀ z, ((z = 1 ∧ ¬ e = 0 ∧ ∀ j, 0 ≤ j → j < k → ¬ M.1 157 j = e) ∨ (z = 0 ∧ (e = 0 ∨ ∃ j, 0 ≤ j ∧ j < k ∧ M.1 157 j = e))) → Run C_RM_addSet Q 12 [vR 141, vI e, vI z, vI k] [] M) (fun k k0 k1 ih z hz => ?_) m0 z ?_
    · rcases hz with ⟨rfl, y1, y2⟩ | ⟨rfl, y⟩
      · rw [r_RM_addSet_12]
        simp only [r_RM_addSet_13, r_RM_addSet_14, r_RM_addSet_17, r_RM_addSet_20, r_RM_addSet_21, r_RM_addSet_24, r_RM_addSet_25, r_RM_addSet_28, r_RM_addSet_29, r_RM_addSet_30, r_RM_addSet_31, r_RM_addSet_34, r_RM_addSet_35, r_RM_addSet_38, r_RM_addSet_39, r_RM_addSet_40, r_RM_addSet_43, true_and, and_true, or_true, true_or, or_false, false_or, false_and, and_false, not_true_eq_false, not_false_eq_true, implies_true, true_implies, false_implies]
        refine ⟨r32 (by omega) (by omega), r32 (by omega) (by omega), fun q => f1 ⟨y1, fun j a b => y2 j a (by omega)⟩ _, fun q => ⟨r32 (by decide) (by decide), fun z => absurd z (by decide), fun _ => ⟨k0, by omega, ?_⟩⟩⟩
        have hk := hb k k0 (by omega)
        refine ⟨r32 (by omega) (by omega), r32 (by omega) (by omega), fun q2 => ih (by omega) 0 (Or.inr ⟨rfl, Or.inr ⟨k, k0, by omega, q2⟩⟩), fun q2 => ih (by omega) 1 (Or.inl ⟨rfl, y1, fun j a b => ?_⟩)⟩
        by_cases w : j = k
        · rw [w]; exact q2
        · exact y2 j a (by omega)
      · rw [r_RM_addSet_12]
        simp only [r_RM_addSet_13, r_RM_addSet_14, r_RM_addSet_17, r_RM_addSet_20, r_RM_addSet_21, r_RM_addSet_24, r_RM_addSet_25, r_RM_addSet_28, r_RM_addSet_29, r_RM_addSet_30, r_RM_addSet_31, r_RM_addSet_34, r_RM_addSet_35, r_RM_addSet_38, r_RM_addSet_39, r_RM_addSet_40, r_RM_addSet_43, true_and, and_true, or_true, true_or, or_false, false_or, false_and, and_false, not_true_eq_false, not_false_eq_true, implies_true, true_implies, false_implies]
        refine ⟨r32 (by omega) (by omega), r32 (by omega) (by omega), fun q => f0 ?_ _, fun q => ⟨r32 (by decide) (by decide), ih (by omega) 0 (Or.inr ⟨rfl, ?_⟩)⟩⟩
        · rcases y with y | ⟨j, a, b, c⟩
          · exact Or.inl y
          · exact Or.inr ⟨j, a, by omega, c⟩
        · rcases y with y | ⟨j, a, b, c⟩
          · exact Or.inl y
          · exact Or.inr ⟨j, a, by omega, c⟩
    · rcases hz with ⟨rfl, y⟩ | ⟨rfl, y⟩
      · exact Or.inl ⟨rfl, y, fun j a b => by omega⟩
      · exact Or.inr ⟨rfl, Or.inl y⟩
  refine Cal.mk (y := Y_RM_addSet) (loc := [vR 141, vI e, vN, vN]) G_RM_addSet rfl (by decide) rfl rfl (Nat.le_of_ble_eq_true rfl) ?_
  simp only [r_RM_addSet_0, r_RM_addSet_1, r_RM_addSet_4, r_RM_addSet_5, r_RM_addSet_8, r_RM_addSet_9, r_RM_addSet_10, r_RM_addSet_11, true_and, and_true, or_true, true_or, or_false, false_or, false_and, and_false, not_true_eq_false, not_false_eq_true, implies_true, true_implies, false_implies]
  exact ⟨r32 (by omega) (by omega), fun q => loop 0 (Or.inr ⟨rfl, q⟩), fun q => loop 1 (Or.inl ⟨rfl, q⟩)⟩
def SS (ρ tm : Rw) (M : Mem) : Prop := (∀ j, 0 ≤ j → j < M.1 141 24 → cvE ρ tm (M.1 157 j)) ∧ ∀ e, cvE ρ tm e → ¬ e = 0 → ∃ j, 0 ≤ j ∧ j < M.1 141 24 ∧ M.1 157 j = e
theorem TF.kp {P : Nat → Prop} {ρ : Rw} {c : Int} {M M' : Mem} (h : TF ρ c M) (hk : Kp P M M') (hP : ¬ P 153) : TF ρ c M' := fun g a b => by rw [hk.at hP]; exact h g a b
noncomputable def cbd (ρ tm : Rw) (c u : Int) : Int := if u = 0 then 0 else 1 + cntI (chgX ρ tm c) (u - 1)
theorem cbd_s {ρ tm : Rw} {c u : Int} (u0 : 0 ≤ u) : cbd ρ tm c (u + 1) = 1 + cntI (chgX ρ tm c) u := by
  unfold cbd; rw [if_neg (by omega), show u + 1 - 1 = u by omega]
theorem cbd_le {ρ tm : Rw} {c u : Int} (u0 : 0 ≤ u) : cbd ρ tm c u ≤ cbd ρ tm c (u + 1) := by
  rw [cbd_s u0]
  have := cntI_bd (chgX ρ tm c) u0
  unfold cbd
  by_cases q : u = 0
  · rw [if_pos q]; omega
  · rw [if_neg q]
    have := cntI_le (p := chgX ρ tm c) (a := u - 1) (b := u) (by omega) (by omega)
    omega
theorem cbd_lt {ρ tm : Rw} {c u : Int} (u0 : 0 ≤ u) (h : 0 < u → ¬ ex ρ tm c u = ex ρ tm c (u - 1)) : cbd ρ tm c u + 1 ≤ cbd ρ tm c (u + 1) := by
  rw [cbd_s u0]
  have := cntI_bd (chgX ρ tm c) u0
  unfold cbd
  by_cases q : u = 0
  · rw [if_pos q]; omega
  · rw [if_neg q]
    have := cntI_lt (p := chgX ρ tm c) (a := u - 1) (b := u) (by omega) (by omega) (by unfold chgX; rw [show u - 1 + 1 = u by omega]; exact decide_eq_true (h (by omega)))
    omega
theorem cbd_bd {ρ tm : Rw} (hV : VR ρ) (c : Int) {u : Int} (u0 : 0 ≤ u) : cbd ρ tm c u ≤ 41 := by
  unfold cbd
  by_cases q : u = 0
  · rw [if_pos q]; decide
  · rw [if_neg q]
    have := chgX_bd (tm := tm) hV c (n := u - 1) (by omega)
    omega
theorem laySets_s {σ : St} {M : Mem} (h : MI σ M) (hV : VS σ) : Cal Y_RM_laySets [vR 141] M (fun r M' => r = none ∧ MI σ M' ∧ KR M M' ∧ SB M' ∧ SS σ.1 σ.2.2.2.1 M') := by
  have hn := nC_bd hV.1
  have hm := hV.tm
  generalize hQ : (fun (r : Option Vl) (M' : Mem) => r = none ∧ MI σ M' ∧ KR M M' ∧ SB M' ∧ SS σ.1 σ.2.2.2.1 M') = Q
  generalize htm : σ.2.2.2.1 = tm at hm hQ
  refine Cal.mk (y := Y_RM_laySets) (loc := [vR 141, vN, vN]) G_RM_laySets rfl (by decide) rfl rfl (Nat.le_of_ble_eq_true rfl) ?_
  simp only [r_RM_laySets_0, r_RM_laySets_1, true_and, and_true, or_true, true_or, or_false, false_or, false_and, and_false, not_true_eq_false, not_false_eq_true, implies_true, true_implies, false_implies]
  refine (M_number hV h).mono ?_
  rintro _ M1 ⟨rfl, n1, h1, k1⟩
  simp only [r_RM_laySets_4, r_RM_laySets_5, r_RM_laySets_6, r_RM_laySets_9, r_RM_laySets_10, true_and, and_true, or_true, true_or, or_false, false_or, false_and, and_false, not_true_eq_false, not_false_eq_true, implies_true, true_implies, false_implies]
  refine up_loop (lo := 0) (hi := nC σ.1) (P := fun c => ∀ M2 l2, MI σ M2 → NU σ.1 M2 → KR M M2 → 0 ≤ M2.1 141 24 → M2.1 141 24 ≤ 41 * c → (∀ j, 0 ≤ j → j < M2.1 141 24 → cvE σ.1 tm (M2.1 157 j)) → (∀ c' u, 0 ≤ c' → c' < c → 0 ≤ u → u < 1000 → ex σ.1 tm c' u = 0 ∨ ∃ j, 0 ≤ j ∧ j < M2.1 141 24 ∧ M2.1 157 j = ex σ.1 tm c' u) → Run C_RM_laySets Q 11 [vR 141, vI c, l2] [] M2) (fun c c0 c1 ih M2 l2 h2 n2 k2 m0 m1 hE hC => ?_) hn.1 _ _ (h1.kr (KR.w1 KR.rf (by decide) (by decide))) (n1.kp (P := fun c => c = 141) (Kp.w Kp.rf rfl) (fun c a b => by omega) (wI_oth (by decide)) (wI_oth (by decide))) (k1.trans (KR.w1 KR.rf (by decide) (by decide))) (by rw [wI_same]; decide) (by rw [wI_same]; decide) (fun j a b => by rw [wI_same] at b; omega) (fun c' u a b => by omega)
  rw [r_RM_laySets_11]
  simp only [r_RM_laySets_12, r_RM_laySets_13, r_RM_laySets_16, r_RM_laySets_19, r_RM_laySets_20, r_RM_laySets_21, r_RM_laySets_22, r_RM_laySets_23, true_and, and_true, or_true, true_or, or_false, false_or, false_and, and_false, not_true_eq_false, not_false_eq_true, implies_true, true_implies, false_implies, n2.1, p2_def]
  refine ⟨r32 (by omega) (by omega), r32 (by omega) (by omega), fun q => ?_, fun q => ?_⟩
  · simp only [r_RM_laySets_56, true_and, and_true, or_true, true_or, or_false, false_or, false_and, and_false, not_true_eq_false, not_false_eq_true, implies_true, true_implies, false_implies]
    rw [← hQ]
    refine ⟨rfl, h2, k2, ⟨⟨m0, by omega⟩, fun j a b => cvE_bd hV.1 (hE j a b)⟩, hE, ?_⟩
    rintro _ ⟨c', u, x1, x2, x3, x4, rfl⟩ hz
    exact (hC c' u x1 (by omega) x3 x4).resolve_left hz
  · have hp := p2_pos c
    have hp2 := p2_lt (a := c) (b := 12) (by omega) (by omega)
    have e12 : p2 12 = 4096 := by decide
    refine ⟨⟨by omega, by omega⟩, (M_spreadOf hV h2 n2 (by omega) (by omega)).mono ?_⟩
    rintro _ M3 ⟨rfl, h3, n3, f3, k3, kp3⟩
    have t24 : M3.1 141 24 = M2.1 141 24 := kp3.at (by decide) _
    have t157 : ∀ j, M3.1 157 j = M2.1 157 j := fun j => kp3.at (by decide) _
    simp only [r_RM_laySets_26, r_RM_laySets_27, true_and, and_true, or_true, true_or, or_false, false_or, false_and, and_false, not_true_eq_false, not_false_eq_true, implies_true, true_implies, false_implies]
    refine up_loop (lo := 0) (hi := 1000) (P := fun u => ∀ M4, MI σ M4 → NU σ.1 M4 → TF σ.1 c M4 → KR M M4 → 0 ≤ M4.1 141 24 → M4.1 141 24 ≤ 41 * c + cbd σ.1 tm c u → (∀ j, 0 ≤ j → j < M4.1 141 24 → cvE σ.1 tm (M4.1 157 j)) → (∀ c' v, 0 ≤ c' → 0 ≤ v → v < 1000 → (c' < c ∨ (c' = c ∧ v < u)) → ex σ.1 tm c' v = 0 ∨ ∃ j, 0 ≤ j ∧ j < M4.1 141 24 ∧ M4.1 157 j = ex σ.1 tm c' v) → Run C_RM_laySets Q 28 [vR 141, vI c, vI u] [] M4) (fun u u0 u1 ih2 M4 h4 n4 f4 k4 m0' m1' hE' hC' => ?_) (by decide) M3 h3 n3 f3 (k2.trans k3) (by omega) (by have : cbd σ.1 tm c 0 = 0 := if_pos rfl; omega) (fun j a b => by rw [t157]; exact hE j a (by omega)) (fun c' v a b d x => by rw [t24]; rcases hC c' v a (by omega) b d with y | ⟨j, y1, y2, y3⟩; exact Or.inl y; exact Or.inr ⟨j, y1, y2, by rw [t157]; exact y3⟩)
    have hcb := cbd_bd (tm := tm) hV.1 c u0
    rw [r_RM_laySets_28]
    simp only [r_RM_laySets_29, r_RM_laySets_32, r_RM_laySets_35, r_RM_laySets_36, r_RM_laySets_37, r_RM_laySets_38, r_RM_laySets_41, true_and, and_true, or_true, true_or, or_false, false_or, false_and, and_false, not_true_eq_false, not_false_eq_true, implies_true, true_implies, false_implies]
    refine ⟨r32 (by omega) (by omega), r32 (by decide) (by decide), fun q2 => ?_, fun q2 => ?_⟩
    · simp only [r_RM_laySets_50, r_RM_laySets_53, true_and, and_true, or_true, true_or, or_false, false_or, false_and, and_false, not_true_eq_false, not_false_eq_true, implies_true, true_implies, false_implies]
      exact ih (by omega) M4 _ h4 n4 k4 m0' (by omega) hE' (fun c' v a b d x => hC' c' v a d x (by omega))
    · have hxb := ex_bd (tm := tm) hV.1 c u
      refine Cal.I (rexplained_s hV.1 hm h4.1 n4 (by rw [← htm]; exact h4.2.2.2.1 3 (by decide) (by decide)) f4 u0 (by omega)) ?_
      refine (raddSet_s (M := M4) m0' (by omega) hxb.1 hxb.2.2 (fun j a b => cvE_bd hV.1 (hE' j a b))).mono ?_
      rintro _ M5 ⟨rfl, k5, o5, hr⟩
      have K5 : KR M4 M5 := ⟨k5.sub (fun c z => by omega), o5 1 (by decide), o5 7 (by decide)⟩
      simp only [r_RM_laySets_44, r_RM_laySets_47, true_and, and_true, or_true, true_or, or_false, false_or, false_and, and_false, not_true_eq_false, not_false_eq_true, implies_true, true_implies, false_implies]
      have h5 := h4.kr K5
      have n5 := n4.kp k5 (fun c a b z => by omega) (o5 12 (by decide)) (o5 15 (by decide))
      have f5 := f4.kp k5 (by decide)
      rcases hr with ⟨x1, x2, x3⟩ | ⟨x1, x2, x3, x4⟩
      · have hle := cbd_le (ρ := σ.1) (tm := tm) (c := c) u0
        refine ih2 (by omega) M5 h5 n5 f5 (k4.trans K5) (by omega) (by omega) (fun j a b => by rw [x2]; exact hE' j a (by omega)) (fun c' v a b d x => ?_)
        rw [x1]
        by_cases y : c' = c ∧ v = u
        · rw [y.1, y.2]
          rcases x3 with z | ⟨j, z1, z2, z3⟩
          · exact Or.inl z
          · exact Or.inr ⟨j, z1, z2, by rw [x2]; exact z3⟩
        · rcases hC' c' v a b d (by omega) with z | ⟨j, z1, z2, z3⟩
          · exact Or.inl z
          · exact Or.inr ⟨j, z1, z2, by rw [x2]; exact z3⟩
      · have hlt := cbd_lt (ρ := σ.1) (tm := tm) (c := c) u0 (fun w z => by
          rcases hC' c (u - 1) c0 (by omega) (by omega) (Or.inr ⟨rfl, by omega⟩) with y | ⟨j, y1, y2, y3⟩
          · exact x3 (z.trans y)
          · exact (x4 j y1 y2).2 (y3.trans z.symm))
        refine ih2 (by omega) M5 h5 n5 f5 (k4.trans K5) (by omega) (by omega) (fun j a b => ?_) (fun c' v a b d x => ?_)
        · by_cases y : j = M4.1 141 24
          · rw [y, x2]; exact ⟨c, u, c0, by omega, u0, by omega, rfl⟩
          · rw [(x4 j a (by omega)).1]; exact hE' j a (by omega)
        · by_cases y : c' = c ∧ v = u
          · rw [y.1, y.2]; exact Or.inr ⟨M4.1 141 24, m0', by omega, x2⟩
          · rcases hC' c' v a b d (by omega) with z | ⟨j, z1, z2, z3⟩
            · exact Or.inl z
            · exact Or.inr ⟨j, z1, by omega, by rw [(x4 j z1 z2).1]; exact z3⟩
