/-! joint, minimal of the class -/
noncomputable def jd (ρ : Rw) (s : Int) : Int := gp ρ (cod (tau ρ) (-1) s) (ρ 5)
noncomputable def jlS (ρ : Rw) (k acc : Int) : Int := if dec (kv (nC ρ) k) = true ∧ jd ρ (k % 4096) < acc then jd ρ (k % 4096) else acc
noncomputable def JL (ρ : Rw) (K : Int) : Int := foI (jlS ρ) 1000000 K
noncomputable def jaS (ρ : Rw) (k acc : Int) : Int := if dec (kv (nC ρ) k) = true ∧ jd ρ (k % 4096) < JL ρ k then k % 4096 else acc
noncomputable def JA (ρ : Rw) (K : Int) : Int := foI (jaS ρ) (-1) K
noncomputable def jcS (ρ : Rw) (k acc : Int) : Int := if dec (kv (nC ρ) k) = true then (if jd ρ (k % 4096) < JL ρ k then 1 else if jd ρ (k % 4096) = JL ρ k then acc + 1 else acc) else acc
noncomputable def JC (ρ : Rw) (K : Int) : Int := foI (jcS ρ) 0 K
theorem JL_bd (ρ : Rw) : ∀ K, 0 ≤ K → 0 ≤ JL ρ K ∧ JL ρ K ≤ 1000000 := by
  refine int_ind (by unfold JL; rw [foI_0]; decide) (fun n hn ih => ?_)
  unfold JL at ih ⊢
  rw [foI_s _ _ hn]
  have := gp_bd ρ (cod (tau ρ) (-1) (n % 4096)) (ρ 5)
  unfold jlS at ih ⊢
  split
  · unfold jd; omega
  · exact ih
theorem jl_no (ρ : Rw) : ∀ k a, ¬ kv (nC ρ) k → jlS ρ k a = a := fun k a h => if_neg (fun z => h (dec_iff.1 z.1))
theorem ja_no (ρ : Rw) : ∀ k a, ¬ kv (nC ρ) k → jaS ρ k a = a := fun k a h => if_neg (fun z => h (dec_iff.1 z.1))
theorem jc_no (ρ : Rw) : ∀ k a, ¬ kv (nC ρ) k → jcS ρ k a = a := fun k a h => if_neg (fun z => h (dec_iff.1 z))
theorem fo_Ke {τ : Rw} (hV : VR τ) {M : Mem} (h : SK τ M) {st : Int → Int → Int} (hs : ∀ k a, ¬ kv (nC τ) k → st k a = a) (z : Int) {i n : Int} (n0 : 1 ≤ n) (n1 : n ≤ 3) (i0 : 0 ≤ i) (i1 : i ≤ M.1 111 9) (hj : ∀ j, 0 ≤ j → j < i → pcI (M.1 114 j) ≤ n) (hi : i = M.1 111 9 ∨ n < pcI (M.1 114 i)) : foI st z (Kx M i) = foI st z ((n + 1) * 4096) := by
  have hc := nC_bd hV
  have hge : (n + 1) * 4096 ≤ Kx M i := by
    unfold Kx
    split
    · rename_i y
      have := h.2.2.1 i i0 y
      unfold skey; omega
    · omega
  refine foI_stop (by omega) (Kx M i) hge (fun k a b c => hs k a (fun d => ?_))
  obtain ⟨j, j0, j1, j2⟩ := h.2.2.2.2 (k % 4096) d.1 d.2.1 d.2.2.1
  have ek : skey (M.1 114 j) = k := by rw [j2]; exact d.2.2.2.symm
  have hl := h.2.2.1 j j0 j1
  have := p2_12 hc.2
  rcases Int.lt_or_le j i with y | y
  · have := hj j j0 y
    unfold skey at ek
    omega
  · unfold Kx at c
    rw [if_pos (by omega)] at c
    by_cases w : j = i
    · rw [w] at ek; omega
    · have := h.2.2.2.1 i j i0 (by omega) j1; omega
theorem jointBy_s {ρ : Rw} {M : Mem} (h : DX ρ M) (hK : SK (tau ρ) M) {n : Int} (n0 : 1 ≤ n) (n1 : n ≤ 3) : Cal Y_De_jointBy [vR 117, vI n] M (fun r M' => r = some (vI (JA ρ ((n + 1) * 4096))) ∧ M'.1 117 2 = JL ρ ((n + 1) * 4096) ∧ M'.1 117 3 = JC ρ ((n + 1) * 4096) ∧ Kp (fun c => c = 117) M M') := by
  have hV := h.1
  have hT := VR_tau hV
  have hc := nC_bd hV
  have hse := se_bd hV
  have hp12 := p2_12 hc.2
  have eN : nC (tau ρ) = nC ρ := nC_tau hV
  have jl' : ∀ k a, ¬ kv (nC (tau ρ)) k → jlS ρ k a = a := by rw [eN]; exact jl_no ρ
  have ja' : ∀ k a, ¬ kv (nC (tau ρ)) k → jaS ρ k a = a := by rw [eN]; exact ja_no ρ
  have jc' : ∀ k a, ¬ kv (nC (tau ρ)) k → jcS ρ k a = a := by rw [eN]; exact jc_no ρ
  have hn := hK.1
  have hn2 := hK.2.1
  have main : ∀ M1 l4, Kp (fun c => c = 117) M M1 → M1.1 117 2 = JL ρ (Kx M 0) → M1.1 117 3 = JC ρ (Kx M 0) → (∀ j, 0 ≤ j → j < 0 → pcI (M.1 114 j) ≤ n) → Run C_De_jointBy (fun r M' => r = some (vI (JA ρ ((n + 1) * 4096))) ∧ M'.1 117 2 = JL ρ ((n + 1) * 4096) ∧ M'.1 117 3 = JC ρ ((n + 1) * 4096) ∧ Kp (fun c => c = 117) M M') 15 [vR 117, vI n, vI (JA ρ (Kx M 0)), vI 0, l4] [] M1 := by
    refine up_loop (lo := 0) (hi := M.1 111 9) (P := fun i => ∀ M1 l4, Kp (fun c => c = 117) M M1 → M1.1 117 2 = JL ρ (Kx M i) → M1.1 117 3 = JC ρ (Kx M i) → (∀ j, 0 ≤ j → j < i → pcI (M.1 114 j) ≤ n) → Run C_De_jointBy (fun r M' => r = some (vI (JA ρ ((n + 1) * 4096))) ∧ M'.1 117 2 = JL ρ ((n + 1) * 4096) ∧ M'.1 117 3 = JC ρ ((n + 1) * 4096) ∧ Kp (fun c => c = 117) M M') 15 [vR 117, vI n, vI (JA ρ (Kx M i)), vI i, l4] [] M1) (fun i i0 i1 ih M1 l4 k1 a1 b1 hj => ?_) hn
    have D1 := h.kp k1 (by decide) (by decide) (by decide) (by decide) (by decide)
    have e1 := k1.c (c := 111) (by decide)
    have e4 := k1.c (c := 114) (by decide)
    have e5 := k1.c (c := 115) (by decide)
    have fin : i = M.1 111 9 ∨ n < pcI (M.1 114 i) → Run C_De_jointBy (fun r M' => r = some (vI (JA ρ ((n + 1) * 4096))) ∧ M'.1 117 2 = JL ρ ((n + 1) * 4096) ∧ M'.1 117 3 = JC ρ ((n + 1) * 4096) ∧ Kp (fun c => c = 117) M M') 119 [vR 117, vI n, vI (JA ρ (Kx M i)), vI i, l4] [] M1 := fun z => by
      simp only [r_De_jointBy_119, r_De_jointBy_120, true_and, and_true, or_true, true_or, or_false, false_or, false_and, and_false, not_true_eq_false, not_false_eq_true, implies_true, true_implies, false_implies]
      have x1 := fo_Ke hT hK ja' (-1) n0 n1 i0 i1 hj z
      have x2 := fo_Ke hT hK jl' 1000000 n0 n1 i0 i1 hj z
      have x3 := fo_Ke hT hK jc' 0 n0 n1 i0 i1 hj z
      unfold JA JL JC at *
      rw [x1]
      exact ⟨rfl, by rw [a1, x2], by rw [b1, x3], k1⟩
    rw [r_De_jointBy_15]
    simp only [r_De_jointBy_16, r_De_jointBy_17, r_De_jointBy_20, r_De_jointBy_23, r_De_jointBy_26, r_De_jointBy_27, r_De_jointBy_30, r_De_jointBy_33, r_De_jointBy_34, r_De_jointBy_35, r_De_jointBy_38, r_De_jointBy_39, r_De_jointBy_42, r_De_jointBy_43, r_De_jointBy_44, r_De_jointBy_47, r_De_jointBy_50, r_De_jointBy_51, r_De_jointBy_52, r_De_jointBy_53, r_De_jointBy_56, r_De_jointBy_59, true_and, and_true, or_true, true_or, or_false, false_or, false_and, and_false, not_true_eq_false, not_false_eq_true, implies_true, true_implies, false_implies, e1, e4, e5]
    refine ⟨r32 (by omega) (by omega), r32 (by omega) (by omega), fun q => fin (Or.inl (by omega)), fun q => ⟨i0, by omega, ?_⟩⟩
    have hl := hK.2.2.1 i i0 (by omega)
    rw [eN] at hl
    have hpb := pcI_bd (M.1 114 i)
    refine Cal.I (bitCount_s M1 (by omega) (by omega)) ⟨r32 (by omega) (by omega), r32 (by omega) (by omega), fun q2 => fin (Or.inr q2), fun q2 => ⟨i0, by omega, ?_⟩⟩
    obtain ⟨x1, x2, x3, x4, x5, x6, -⟩ := Kx_in hT hK i0 (by omega)
    rw [eN] at x5
    have hcb := cod_bd hV (-1) (M.1 114 i)
    rw [e5, D1.2.2.2.2.1, hl.2.2.2]
    refine Cal.I (gap_s hV D1.2.2.2.1 hcb.1 hcb.2.2 hse.1 hse.2) ?_
    rw [show gp ρ (cod (tau ρ) (-1) (M.1 114 i)) (ρ 5) = jd ρ (M.1 114 i) from rfl]
    have hg : 0 ≤ jd ρ (M.1 114 i) ∧ jd ρ (M.1 114 i) ≤ 31 := gp_bd _ _ _
    have hJ := JL_bd ρ (Kx M i) (by omega)
    have hih := ih (by omega)
    have s1 : JL ρ (Kx M (i + 1)) = jlS ρ (Kx M i) (JL ρ (Kx M i)) := fo_Ks hT hK jl' _ i0 (by omega)
    have s2 : JA ρ (Kx M (i + 1)) = jaS ρ (Kx M i) (JA ρ (Kx M i)) := fo_Ks hT hK ja' _ i0 (by omega)
    have s3 : JC ρ (Kx M (i + 1)) = jcS ρ (Kx M i) (JC ρ (Kx M i)) := fo_Ks hT hK jc' _ i0 (by omega)
    rw [s1, s2, s3] at hih
    unfold jlS jaS jcS at hih
    rw [x4, dec_t x5] at hih
    have hj' : ∀ j, 0 ≤ j → j < i + 1 → pcI (M.1 114 j) ≤ n := fun j a b => by
      by_cases z : j = i
      · rw [z]; omega
      · exact hj j a (by omega)
    simp only [r_De_jointBy_62, r_De_jointBy_64, r_De_jointBy_66, r_De_jointBy_67, r_De_jointBy_70, r_De_jointBy_73, r_De_jointBy_74, r_De_jointBy_76, r_De_jointBy_79, r_De_jointBy_80, r_De_jointBy_83, r_De_jointBy_86, r_De_jointBy_87, r_De_jointBy_88, r_De_jointBy_89, r_De_jointBy_90, r_De_jointBy_91, true_and, and_true, or_true, true_or, or_false, false_or, false_and, and_false, not_true_eq_false, not_false_eq_true, implies_true, true_implies, false_implies, a1, e4]
    refine ⟨r32 (by omega) (by omega), r32 (by omega) (by omega), fun q3 => ?_, fun q3 => ⟨i0, by omega, ?_⟩⟩
    · simp only [true_and, if_true, if_neg (show ¬ jd ρ (M.1 114 i) < JL ρ (Kx M i) by omega)] at hih
      simp only [r_De_jointBy_94, r_De_jointBy_96, r_De_jointBy_97, r_De_jointBy_100, r_De_jointBy_103, r_De_jointBy_104, r_De_jointBy_105, r_De_jointBy_108, r_De_jointBy_109, r_De_jointBy_110, r_De_jointBy_113, r_De_jointBy_116, true_and, and_true, or_true, true_or, or_false, false_or, false_and, and_false, not_true_eq_false, not_false_eq_true, implies_true, true_implies, false_implies, a1]
      refine ⟨r32 (by omega) (by omega), r32 (by omega) (by omega), fun q4 => ?_, fun q4 => ?_⟩
      · rw [if_neg q4] at hih
        exact hih M1 _ k1 a1 b1 hj'
      · rw [if_pos (by omega)] at hih
        exact hih _ _ (Kp.w k1 rfl) (by rw [wI_oth (by decide)]; exact a1) (by rw [wI_same, b1]) hj'
    · simp only [true_and, if_true, if_pos (show jd ρ (M.1 114 i) < JL ρ (Kx M i) by omega)] at hih
      rw [wI_c (by decide), e4]
      have e2 : (wI (wI M1 117 2 (jd ρ (M.1 114 i))) 117 3 0).1 117 2 = jd ρ (M.1 114 i) := by rw [wI_oth (by decide), wI_same]
      simp only [r_De_jointBy_94, r_De_jointBy_96, r_De_jointBy_97, r_De_jointBy_100, r_De_jointBy_103, r_De_jointBy_104, r_De_jointBy_105, r_De_jointBy_108, r_De_jointBy_109, r_De_jointBy_110, r_De_jointBy_113, r_De_jointBy_116, true_and, and_true, or_true, true_or, or_false, false_or, false_and, and_false, not_true_eq_false, not_false_eq_true, implies_true, true_implies, false_implies, e2, wI_same]
      refine ⟨r32 (by omega) (by omega), r32 (by omega) (by omega), ?_⟩
      exact hih _ _ (Kp.w (Kp.w (Kp.w k1 rfl) rfl) rfl) (by rw [wI_oth (by decide), wI_oth (by decide), wI_same]) (by rw [wI_same]; rfl) hj'
  refine Cal.mk (y := Y_De_jointBy) (loc := [vR 117, vI n, vN, vN, vN]) G_De_jointBy rfl (by decide) rfl rfl (Nat.le_of_ble_eq_true rfl) ?_
  simp only [r_De_jointBy_0, r_De_jointBy_1, r_De_jointBy_2, r_De_jointBy_3, r_De_jointBy_5, r_De_jointBy_8, r_De_jointBy_9, r_De_jointBy_10, r_De_jointBy_13, r_De_jointBy_14, true_and, and_true, or_true, true_or, or_false, false_or, false_and, and_false, not_true_eq_false, not_false_eq_true, implies_true, true_implies, false_implies]
  have z := main (wI (wI M 117 2 1000000) 117 3 0) vN (Kp.w (Kp.w Kp.rf rfl) rfl) (by rw [wI_oth (by decide), wI_same]; exact (fo_K0 hK jl' _).symm) (by rw [wI_same]; exact (fo_K0 hK jc' _).symm) (fun j a b => by omega)
  rw [show JA ρ (Kx M 0) = -1 from fo_K0 hK ja' _] at z
  exact z
noncomputable def q_joint (ρ : Rw) (n w : Int) : Int := if nC ρ = 0 ∨ (n < 1 ∨ 3 < n) ∨ (w < 0 ∨ 3 ≤ w) then -1 else if w = 0 then JA ρ ((n + 1) * 4096) else if w = 1 then JL ρ ((n + 1) * 4096) else JC ρ ((n + 1) * 4096)
theorem X_joint {σ : St} {M : Mem} (h : XI σ M) (hV : VS σ) {n w : Int} (hn : R32 n) (hw : R32 w) : Cal Y_CB_joint [vR 0, vI n, vI w] M (Qx (q_joint σ.1 n w, σ) M) := by
  have hc := nC_bd hV.1
  have e0 := XI_nC hV.1 h
  refine Cal.mk (y := Y_CB_joint) (loc := [vR 0, vI n, vI w, vN]) G_CB_joint rfl (by decide) rfl rfl (Nat.le_of_ble_eq_true rfl) ?_
  simp only [r_CB_joint_0, r_CB_joint_1, r_CB_joint_4, r_CB_joint_7, r_CB_joint_10, r_CB_joint_11, r_CB_joint_12, r_CB_joint_15, r_CB_joint_16, r_CB_joint_17, r_CB_joint_20, r_CB_joint_21, r_CB_joint_22, r_CB_joint_25, r_CB_joint_28, r_CB_joint_29, r_CB_joint_30, r_CB_joint_31, r_CB_joint_34, true_and, and_true, or_true, true_or, or_false, false_or, false_and, and_false, not_true_eq_false, not_false_eq_true, implies_true, true_implies, false_implies, e0]
  refine ⟨r32 (by omega) (by omega), fun q => Qx.q h Kp.rf (by unfold q_joint; rw [if_pos (Or.inl q)]), fun q => ⟨hn, r32 (by decide) (by decide), fun q1 => Qx.q h Kp.rf (by unfold q_joint; rw [if_pos (by omega)]), fun q1 => ⟨hn, R3, fun q2 => Qx.q h Kp.rf (by unfold q_joint; rw [if_pos (by omega)]), fun q2 => ?_⟩⟩⟩
  refine out_eq hw R3 (fun q3 => Qx.q h Kp.rf (by unfold q_joint; rw [if_pos (by omega)])) (fun q3 => ?_)
  have ee : q_joint σ.1 n w = if w = 0 then JA σ.1 ((n + 1) * 4096) else if w = 1 then JL σ.1 ((n + 1) * 4096) else JC σ.1 ((n + 1) * 4096) := if_neg (by omega)
  refine (X_renew hV h).mono ?_
  rintro _ M1 ⟨rfl, h1, k1⟩
  simp only [r_CB_joint_37, r_CB_joint_38, r_CB_joint_41, true_and, and_true, or_true, true_or, or_false, false_or, false_and, and_false, not_true_eq_false, not_false_eq_true, implies_true, true_implies, false_implies]
  refine (X_renewSets hV h1).mono ?_
  rintro _ M2 ⟨rfl, h2, s2, k2⟩
  simp only [r_CB_joint_44, r_CB_joint_45, r_CB_joint_48, r_CB_joint_49, true_and, and_true, or_true, true_or, or_false, false_or, false_and, and_false, not_true_eq_false, not_false_eq_true, implies_true, true_implies, false_implies]
  refine (jointBy_s (h2.dx hV) s2 (by omega) (by omega)).mono ?_
  rintro _ M3 ⟨rfl, a3, b3, k3⟩
  have h3 := h2.kp k3 (fun c a => by omega) (fun c a b => by omega) (fun c a b => by omega)
  have kk := ((k1.x (fun c z => by omega)).trans (k2.x (fun c z => by omega))).trans (k3.x (fun c z => by omega))
  refine ⟨_, rfl, ?_⟩
  simp only [r_CB_joint_52, r_CB_joint_53, r_CB_joint_54, r_CB_joint_80, r_CB_joint_81, r_CB_joint_82, r_CB_joint_83, r_CB_joint_86, r_CB_joint_89, r_CB_joint_90, r_CB_joint_91, r_CB_joint_94, r_CB_joint_97, true_and, and_true, or_true, true_or, or_false, false_or, false_and, and_false, not_true_eq_false, not_false_eq_true, implies_true, true_implies, false_implies, a3, b3]
  refine ⟨hw, ⟨fun q4 => Qx.q h3.1 kk (by rw [ee, if_pos q4]), fun q4 => Qx.q h3.1 kk (by rw [ee, if_neg (by omega), if_pos q4])⟩, fun q4 => Qx.q h3.1 kk (by rw [ee, if_neg (by omega), if_neg (by omega)])⟩
/-- a set has a sign in its code, and none that lacks one of its causes has it -/
def isMin (ρ : Rw) (g s : Int) : Prop := bit (cod (tau ρ) (-1) s) g = true ∧ ∀ t, 0 < t → t < s → iand t (ixor s (-1)) = 0 → ¬ bit (cod (tau ρ) (-1) t) g = true
noncomputable def mnP (ρ : Rw) (g k : Int) : Bool := dec (kv (nC ρ) k ∧ isMin ρ g (k % 4096))
theorem cnt_gap {p : Int → Bool} {a b : Int} (a0 : 0 ≤ a) (h : a ≤ b) (hp : ∀ k, a ≤ k → k < b → p k = false) : cntI p b = cntI p a := by
  have e := cntI_split p (a := a) (b := b - a) a0 (by omega)
  rw [show a + (b - a) = b by omega] at e
  rw [e, cntI_no (p := fun i => p (a + i)) (by omega) (fun i x y => hp _ (by omega) (by omega))]
  omega
theorem holdsMinimal_s {M : Mem} {s f : Int} (f0 : 0 ≤ f) (f1 : f ≤ 298) (s0 : 0 ≤ s) (hm : ∀ j, 0 ≤ j → j < f → 0 ≤ M.1 116 j ∧ M.1 116 j < 4096) : Cal Y_Co_holdsMinimal [vR 111, vI s, vI f] M (fun r M' => r = some (vI (if dec (∃ j, 0 ≤ j ∧ j < f ∧ iand (M.1 116 j) (ixor s (-1)) = 0) = true then 1 else 0)) ∧ M' = M) := by
  refine Cal.mk (y := Y_Co_holdsMinimal) (loc := [vR 111, vI s, vI f, vN]) G_Co_holdsMinimal rfl (by decide) rfl rfl (Nat.le_of_ble_eq_true rfl) ?_
  simp only [r_Co_holdsMinimal_0, r_Co_holdsMinimal_1, true_and, and_true, or_true, true_or, or_false, false_or, false_and, and_false, not_true_eq_false, not_false_eq_true, implies_true, true_implies, false_implies]
  refine up_loop (lo := 0) (hi := f) (P := fun k => (∀ j, 0 ≤ j → j < k → ¬ iand (M.1 116 j) (ixor s (-1)) = 0) → Run C_Co_holdsMinimal (fun r M' => r = some (vI (if dec (∃ j, 0 ≤ j ∧ j < f ∧ iand (M.1 116 j) (ixor s (-1)) = 0) = true then 1 else 0)) ∧ M' = M) 2 [vR 111, vI s, vI f, vI k] [] M) (fun k k0 k1 ih hk => ?_) f0 (fun j a b => by omega)
  rw [r_Co_holdsMinimal_2]
  simp only [r_Co_holdsMinimal_3, r_Co_holdsMinimal_4, r_Co_holdsMinimal_7, r_Co_holdsMinimal_8, r_Co_holdsMinimal_11, r_Co_holdsMinimal_12, r_Co_holdsMinimal_13, r_Co_holdsMinimal_14, r_Co_holdsMinimal_15, r_Co_holdsMinimal_16, r_Co_holdsMinimal_17, r_Co_holdsMinimal_20, r_Co_holdsMinimal_21, r_Co_holdsMinimal_22, r_Co_holdsMinimal_25, r_Co_holdsMinimal_28, r_Co_holdsMinimal_29, true_and, and_true, or_true, true_or, or_false, false_or, false_and, and_false, not_true_eq_false, not_false_eq_true, implies_true, true_implies, false_implies]
  refine ⟨r32 (by omega) (by omega), r32 (by omega) (by omega), fun q => ?_, fun q => ⟨k0, by omega, ?_⟩⟩
  · rw [dec_f (fun ⟨j, a, b, c⟩ => hk j a (by omega) c)]; rfl
  · have hb := hm k k0 (by omega)
    have ha := iandn_bd (a := M.1 116 k) (b := s) hb.1 (by omega) s0
    refine ⟨r32 (by omega) (by omega), fun q2 => ih (by omega) (fun j a b => ?_), fun q2 => ?_⟩
    · by_cases z : j = k
      · rw [z]; exact q2
      · exact hk j a (by omega)
    · rw [dec_t ⟨k, k0, by omega, Classical.not_not.1 q2⟩]; rfl
theorem pc_mono {a b : Int} (a0 : 0 ≤ a) (a1 : a < 2147483648) (b0 : 0 ≤ b) (h : iand a (ixor b (-1)) = 0) : pcI a ≤ pcI b := cntI_mono 31 (by decide) (fun i x _ w => (sub_iff a0 a1 b0).1 h i x w)
theorem min_ex {ρ : Rw} {g t : Int} (t0 : 0 < t) (t1 : t < 4096) (h : bit (cod (tau ρ) (-1) t) g = true) : ∃ u, 0 < u ∧ u ≤ t ∧ iand u (ixor t (-1)) = 0 ∧ isMin ρ g u := by
  obtain ⟨m, ⟨m0, m1, m2, m3⟩, hm⟩ := int_max (P := fun v => 0 < -v ∧ -v ≤ t ∧ iand (-v) (ixor t (-1)) = 0 ∧ bit (cod (tau ρ) (-1) (-v)) g = true) (a := -t) (b := 0) ⟨by omega, by omega, by
    rw [show - -t = t by omega]
    exact (sub_iff (by omega) (by omega) (by omega)).2 (fun i _ z => z), by rw [show - -t = t by omega]; exact h⟩ (fun v z => by omega)
  refine ⟨-m, m0, m1, m2, m3, fun v v0 v1 v2 v3 => ?_⟩
  have := hm (-v) ⟨by omega, by omega, by
    rw [show - -v = v by omega]
    rw [sub_iff (by omega) (by omega) (by omega)] at v2 m2 ⊢
    exact fun i x z => m2 i x (v2 i x z), by rw [show - -v = v by omega]; exact v3⟩
  omega
theorem findMinimal_s {ρ : Rw} {M : Mem} (hV : VR ρ) (hK : SK (tau ρ) M) {g : Int} (g0 : 0 ≤ g) (g1 : g < nS ρ) : Cal Y_Co_findMinimal [vR 111, vI g] M (fun r M' => r = some (vI (cntI (mnP ρ g) 16384)) ∧ (∀ k, 0 ≤ k → k < 16384 → mnP ρ g k = true → M'.1 116 (cntI (mnP ρ g) k) = k % 4096) ∧ cntI (mnP ρ g) 16384 ≤ 298 ∧ Kp (fun c => c = 116) M M') := by
  have hT := VR_tau hV
  have hc := nC_bd hV
  have hs := nS_bd hV
  have hp12 := p2_12 hc.2
  have eN : nC (tau ρ) = nC ρ := nC_tau hV
  have hn := hK.1
  have hn2 := hK.2.1
  have hpk : ∀ k, mnP ρ g k = true → kv (nC ρ) k := fun k z => (dec_iff.1 z).1
  have h0 := Kx_0 hK
  rw [eN] at h0
  have c0 : cntI (mnP ρ g) (Kx M 0) = 0 := by
    refine cntI_no h0.1 (fun k a b => ?_)
    cases z : mnP ρ g k with
    | false => rfl
    | true => exact absurd (hpk k z) (h0.2.2 k a b)
  have main : ∀ M1, Kp (fun c => c = 116) M M1 → (∀ k, 0 ≤ k → k < Kx M 0 → mnP ρ g k = true → M1.1 116 (cntI (mnP ρ g) k) = k % 4096) → cntI (mnP ρ g) (Kx M 0) ≤ 0 → Run C_Co_findMinimal (fun r M' => r = some (vI (cntI (mnP ρ g) 16384)) ∧ (∀ k, 0 ≤ k → k < 16384 → mnP ρ g k = true → M'.1 116 (cntI (mnP ρ g) k) = k % 4096) ∧ cntI (mnP ρ g) 16384 ≤ 298 ∧ Kp (fun c => c = 116) M M') 4 [vR 111, vI g, vI (cntI (mnP ρ g) (Kx M 0)), vI 0] [] M1 := by
    refine up_loop (lo := 0) (hi := M.1 111 9) (P := fun i => ∀ M1, Kp (fun c => c = 116) M M1 → (∀ k, 0 ≤ k → k < Kx M i → mnP ρ g k = true → M1.1 116 (cntI (mnP ρ g) k) = k % 4096) → cntI (mnP ρ g) (Kx M i) ≤ i → Run C_Co_findMinimal (fun r M' => r = some (vI (cntI (mnP ρ g) 16384)) ∧ (∀ k, 0 ≤ k → k < 16384 → mnP ρ g k = true → M'.1 116 (cntI (mnP ρ g) k) = k % 4096) ∧ cntI (mnP ρ g) 16384 ≤ 298 ∧ Kp (fun c => c = 116) M M') 4 [vR 111, vI g, vI (cntI (mnP ρ g) (Kx M i)), vI i] [] M1) (fun i i0 i1 ih M1 k1 a1 b1 => ?_) hn
    have e1 := k1.c (c := 111) (by decide)
    have e4 := k1.c (c := 114) (by decide)
    have e5 := k1.c (c := 115) (by decide)
    rw [r_Co_findMinimal_4]
    simp only [r_Co_findMinimal_5, r_Co_findMinimal_6, r_Co_findMinimal_9, r_Co_findMinimal_12, r_Co_findMinimal_13, r_Co_findMinimal_16, r_Co_findMinimal_17, r_Co_findMinimal_18, r_Co_findMinimal_19, r_Co_findMinimal_22, r_Co_findMinimal_25, r_Co_findMinimal_26, r_Co_findMinimal_27, r_Co_findMinimal_30, r_Co_findMinimal_31, r_Co_findMinimal_32, r_Co_findMinimal_33, r_Co_findMinimal_36, r_Co_findMinimal_39, r_Co_findMinimal_40, r_Co_findMinimal_43, r_Co_findMinimal_44, r_Co_findMinimal_45, r_Co_findMinimal_48, r_Co_findMinimal_49, r_Co_findMinimal_50, r_Co_findMinimal_51, r_Co_findMinimal_54, r_Co_findMinimal_57, true_and, and_true, or_true, true_or, or_false, false_or, false_and, and_false, not_true_eq_false, not_false_eq_true, implies_true, true_implies, false_implies, e1, e4, e5]
    refine ⟨r32 (by omega) (by omega), r32 (by omega) (by omega), fun q => ?_, fun q => ⟨i0, by omega, ?_⟩⟩
    · simp only [r_Co_findMinimal_60, r_Co_findMinimal_61, true_and, and_true, or_true, true_or, or_false, false_or, false_and, and_false, not_true_eq_false, not_false_eq_true, implies_true, true_implies, false_implies]
      have ek : Kx M i = 16384 := if_neg (by omega)
      rw [ek] at a1 b1 ⊢
      exact ⟨rfl, a1, by omega, k1⟩
    · obtain ⟨x1, x2, x3, x4, x5, x6, x7⟩ := Kx_in hT hK i0 (by omega)
      rw [eN] at x5 x7
      have hl := hK.2.2.1 i i0 (by omega)
      rw [eN] at hl
      have hcb := cod_bd hV (-1) (M.1 114 i)
      have hcn := (cntI_bd (mnP ρ g) (n := Kx M i) (by omega)).1
      have gap : cntI (mnP ρ g) (Kx M (i + 1)) = cntI (mnP ρ g) (Kx M i) + (if mnP ρ g (Kx M i) = true then 1 else 0) := by
        rw [cnt_gap (a := Kx M i + 1) (by omega) (by omega) (fun k a b => ?_), cntI_s _ (by omega)]
        cases z : mnP ρ g k with
        | false => rfl
        | true => exact absurd (hpk k z) (x7 k (by omega) b)
      have old : ∀ k, Kx M i < k → k < Kx M (i + 1) → mnP ρ g k = true → False := fun k a b z => x7 k a b (hpk k z)
      -- which of the found are within the set
      have hfb : ∀ j, 0 ≤ j → j < cntI (mnP ρ g) (Kx M i) → ∃ k, 0 ≤ k ∧ k < Kx M i ∧ mnP ρ g k = true ∧ cntI (mnP ρ g) k = j ∧ M1.1 116 j = k % 4096 := fun j a b => by
        obtain ⟨k, p1, p2, p3, p4⟩ := kth_ex (p := mnP ρ g) (Kx M i) (by omega) j a b
        exact ⟨k, p1, p2, p3, p4, by rw [← p4]; exact a1 k p1 p2 p3⟩
      have skip : mnP ρ g (Kx M i) = false → Run C_Co_findMinimal (fun r M' => r = some (vI (cntI (mnP ρ g) 16384)) ∧ (∀ k, 0 ≤ k → k < 16384 → mnP ρ g k = true → M'.1 116 (cntI (mnP ρ g) k) = k % 4096) ∧ cntI (mnP ρ g) 16384 ≤ 298 ∧ Kp (fun c => c = 116) M M') 4 [vR 111, vI g, vI (cntI (mnP ρ g) (Kx M i)), vI (i + 1)] [] M1 := fun z => by
        rw [z] at gap
        have hih := ih (by omega) M1 k1 (fun k a b c => ?_) (by rw [gap]; simp; omega)
        · rw [gap] at hih
          simp only [Bool.false_eq_true, if_false, Int.add_zero] at hih
          exact hih
        · rcases Int.lt_trichotomy k (Kx M i) with y | y | y
          · exact a1 k a y c
          · rw [y, z] at c; exact Bool.noConfusion c
          · exact (old k y b c).elim
      rw [hl.2.2.2]
      refine has_if hcb.1 (by omega) g0 (by omega) (fun q2 => ⟨i0, by omega, ?_⟩) (fun q2 => skip (dec_f (fun z => q2 (by rw [x4] at z; exact z.2.1))))
      rw [e4]
      refine (holdsMinimal_s (M := M1) hcn (by omega) (by omega) (fun j a b => ?_)).Bn (fun q3 => skip (dec_f (fun z => ?_))) (fun q3 => ⟨i0, by omega, hcn, by omega, ?_⟩)
      · obtain ⟨k, p1, p2, p3, p4, p5⟩ := hfb j a b
        rw [p5]; omega
      · obtain ⟨j, a, b, c⟩ := dec_iff.1 q3
        obtain ⟨k, p1, p2, p3, p4, p5⟩ := hfb j a b
        have hk := hpk k p3
        have hm := (dec_iff.1 p3).2
        rw [p5] at c
        rw [x4] at z
        have hle := sub_le (a := k % 4096) (b := M.1 114 i) (by omega) (by omega) (by omega) c
        have hlt : k % 4096 < M.1 114 i := by
          by_cases y : k % 4096 = M.1 114 i
          · have := hk.2.2.2
            rw [y, ← x1] at this
            omega
          · omega
        exact z.2.2 (k % 4096) hk.1 hlt c hm.1
      · rw [e4]
        have hm : mnP ρ g (Kx M i) = true := by
          refine dec_t ⟨x5, ?_⟩
          rw [x4]
          refine ⟨q2, fun t t0 t1 t2 t3 => q3 (dec_t ?_)⟩
          obtain ⟨u, u0, u1, u2, u3⟩ := min_ex (ρ := ρ) (g := g) t0 (by omega) t3
          have us : iand u (ixor (M.1 114 i) (-1)) = 0 := by
            rw [sub_iff (by omega) (by omega) (by omega)] at u2 t2 ⊢
            exact fun i x z => t2 i x (u2 i x z)
          have hpc := pc_mono (a := u) (b := M.1 114 i) (by omega) (by omega) (by omega) us
          have hv := skey_v (s := u) hc.2 u0 (by omega) (by omega)
          have hkl : skey u < Kx M i := by rw [x1]; unfold skey; omega
          have hp : mnP ρ g (skey u) = true := dec_t ⟨hv.2.2.2.2, by rw [hv.2.2.1]; exact u3⟩
          refine ⟨cntI (mnP ρ g) (skey u), (cntI_bd _ (by omega)).1, cntI_lt (by omega) hkl hp, ?_⟩
          rw [a1 (skey u) (by omega) hkl hp, hv.2.2.1]; exact us
        rw [hm, if_pos rfl] at gap
        have hih := ih (by omega) (wI M1 116 (cntI (mnP ρ g) (Kx M i)) (M.1 114 i)) (Kp.w k1 rfl) (fun k a b c => ?_) (by rw [gap]; omega)
        · rw [gap] at hih; exact hih
        · rcases Int.lt_trichotomy k (Kx M i) with y | y | y
          · have := cntI_lt a y c
            rw [wI_oth (by omega)]; exact a1 k a y c
          · rw [y, wI_same, x4]
          · exact (old k y b c).elim
  refine Cal.mk (y := Y_Co_findMinimal) (loc := [vR 111, vI g, vN, vN]) G_Co_findMinimal rfl (by decide) rfl rfl (Nat.le_of_ble_eq_true rfl) ?_
  simp only [r_Co_findMinimal_0, r_Co_findMinimal_1, r_Co_findMinimal_2, r_Co_findMinimal_3, true_and, and_true, or_true, true_or, or_false, false_or, false_and, and_false, not_true_eq_false, not_false_eq_true, implies_true, true_implies, false_implies]
  have z := main M Kp.rf (fun k a b c => absurd (hpk k c) (h0.2.2 k a b)) (by omega)
  rw [c0] at z
  exact z
noncomputable def q_minimal (ρ : Rw) (g i : Int) : Int := if (g < 0 ∨ nS ρ ≤ g) ∨ i < -1 then -1 else if i = -1 then cntI (mnP ρ g) 16384 else if i < 0 ∨ cntI (mnP ρ g) 16384 ≤ i then -1 else kth (mnP ρ g) 16384 i % 4096
theorem X_minimal {σ : St} {M : Mem} (h : XI σ M) (hV : VS σ) {g i : Int} (hg : R32 g) (hi : R32 i) : Cal Y_CB_minimal [vR 0, vI g, vI i] M (Qx (q_minimal σ.1 g i, σ) M) := by
  have hs := nS_bd hV.1
  have e0 := XI_nS hV.1 h
  refine Cal.mk (y := Y_CB_minimal) (loc := [vR 0, vI g, vI i, vN]) G_CB_minimal rfl (by decide) rfl rfl (Nat.le_of_ble_eq_true rfl) ?_
  simp only [r_CB_minimal_0, r_CB_minimal_1, r_CB_minimal_2, r_CB_minimal_5, r_CB_minimal_8, r_CB_minimal_11, r_CB_minimal_14, r_CB_minimal_15, r_CB_minimal_16, r_CB_minimal_19, r_CB_minimal_20, r_CB_minimal_21, r_CB_minimal_22, r_CB_minimal_25, true_and, and_true, or_true, true_or, or_false, false_or, false_and, and_false, not_true_eq_false, not_false_eq_true, implies_true, true_implies, false_implies, e0]
  refine out_ne hg (r32 (by omega) (by omega)) (fun q => Qx.q h Kp.rf (by unfold q_minimal; rw [if_pos (by omega)])) (fun q => ⟨hi, r32 (by decide) (by decide), fun q1 => ?_, fun q1 => Qx.q h Kp.rf (by unfold q_minimal; rw [if_pos (by omega)])⟩)
  refine (X_renew hV h).mono ?_
  rintro _ M1 ⟨rfl, h1, k1⟩
  simp only [r_CB_minimal_28, r_CB_minimal_29, r_CB_minimal_32, true_and, and_true, or_true, true_or, or_false, false_or, false_and, and_false, not_true_eq_false, not_false_eq_true, implies_true, true_implies, false_implies]
  refine (X_renewSets hV h1).mono ?_
  rintro _ M2 ⟨rfl, h2, s2, k2⟩
  simp only [r_CB_minimal_35, r_CB_minimal_36, r_CB_minimal_39, r_CB_minimal_40, true_and, and_true, or_true, true_or, or_false, false_or, false_and, and_false, not_true_eq_false, not_false_eq_true, implies_true, true_implies, false_implies]
  refine (findMinimal_s hV.1 s2 (g := g) (by omega) (by omega)).mono ?_
  rintro _ M3 ⟨rfl, a3, b3, k3⟩
  have h3 := h2.kp k3 (fun c a => by omega) (fun c a b => by omega) (fun c a b => by omega)
  have kk := ((k1.x (fun c z => by omega)).trans (k2.x (fun c z => by omega))).trans (k3.x (fun c z => by omega))
  have hcn := (cntI_bd (mnP σ.1 g) (n := 16384) (by decide)).1
  refine ⟨_, rfl, ?_⟩
  have ee : q_minimal σ.1 g i = if i = -1 then cntI (mnP σ.1 g) 16384 else if i < 0 ∨ cntI (mnP σ.1 g) 16384 ≤ i then -1 else kth (mnP σ.1 g) 16384 i % 4096 := if_neg (by omega)
  simp only [r_CB_minimal_43, r_CB_minimal_44, r_CB_minimal_45, r_CB_minimal_46, r_CB_minimal_49, r_CB_minimal_50, r_CB_minimal_51, r_CB_minimal_52, r_CB_minimal_53, r_CB_minimal_56, r_CB_minimal_59, r_CB_minimal_60, r_CB_minimal_63, r_CB_minimal_64, r_CB_minimal_67, r_CB_minimal_70, r_CB_minimal_71, r_CB_minimal_72, true_and, and_true, or_true, true_or, or_false, false_or, false_and, and_false, not_true_eq_false, not_false_eq_true, implies_true, true_implies, false_implies]
  refine ⟨hi, r32 (by decide) (by decide), fun q2 => ?_, fun q2 => Qx.q h3.1 kk (by rw [ee, if_pos (by omega)])⟩
  refine out_eq hi (r32 (by omega) (by omega)) (fun q3 => Qx.q h3.1 kk (by rw [ee, if_neg q2, if_pos q3])) (fun q3 => ⟨by omega, by omega, Qx.q h3.1 kk ?_⟩)
  have hk := kth_sp (p := mnP σ.1 g) (n := 16384) (c := i) (by decide) (by omega) (by omega)
  have := a3 _ hk.1 hk.2.1 hk.2.2.1
  rw [hk.2.2.2] at this
  rw [ee, if_neg q2, if_neg q3, this]
