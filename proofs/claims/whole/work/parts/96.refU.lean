/-! the reference: joint -/
def JI (ρ : Rw) (n s L B C : Int) : Prop := (L = 1000000 ∧ B = 0 ∧ C = 0 ∧ ∀ u, 0 < u → u < s → ¬ pcI u ≤ n) ∨ (0 < B ∧ B < s ∧ pcI B ≤ n ∧ jd ρ B = L ∧ (∀ u, 0 < u → u < s → pcI u ≤ n → L ≤ jd ρ u ∧ (jd ρ u = L → pcI B < pcI u ∨ (pcI B = pcI u ∧ B ≤ u))) ∧ C = cntI (fun u => dec (0 < u ∧ u < p2 (nC ρ) ∧ pcI u < n + 1 ∧ jd ρ u = L)) s)
theorem JI_end {ρ : Rw} (hV : VR ρ) {n L B C : Int} (n0 : 1 ≤ n) (n1 : n ≤ 3) (hc : ¬ nC ρ = 0) (h : JI ρ n (p2 (nC ρ)) L B C) : L = JL ρ ((n + 1) * 4096) ∧ B = JA ρ ((n + 1) * 4096) ∧ C = JC ρ ((n + 1) * 4096) := by
  have hn := nC_bd hV
  have hp := p2_12 hn.2
  have h1 : 1 < p2 (nC ρ) := p2_lt (a := 0) (b := nC ρ) (by decide) (by omega)
  have hp1 : pcI 1 = 1 := by decide
  rcases h with ⟨-, -, -, z⟩ | ⟨b0, b1, b2, b3, b4, b5⟩
  · exact absurd (by omega) (z 1 (by decide) h1)
  · have hv := skey_v (s := B) hn.2 b0 b1 (by omega)
    have hkB : skey B < (n + 1) * 4096 := by unfold skey; omega
    rcases J_sp ρ ((n + 1) * 4096) (by omega) with ⟨-, -, -, z⟩ | ⟨k0, a0, a1, a2, a3, a4, a5, a6, a7⟩
    · exact absurd hv.2.2.2.2 (z _ (by omega) hkB)
    · have x1 := a5 (skey B) (by omega) hkB hv.2.2.2.2
      rw [hv.2.2.1] at x1
      have hk := a2.2.2.2
      unfold skey at hk
      have x2 := b4 (k0 % 4096) a2.1 a2.2.1 (by omega)
      have eL : L = JL ρ ((n + 1) * 4096) := by omega
      have x3 := x2.2 (by omega)
      have x4 : ¬ skey B < k0 := fun y => by
        have := a6 (skey B) (by omega) y hv.2.2.2.2
        rw [hv.2.2.1] at this
        omega
      refine ⟨eL, ?_, ?_⟩
      · rw [a4]; unfold skey at x4; omega
      · rw [a7, b5, ← eL, cnt_key hn.2 (fun s => jd ρ s = L) (n + 1) (by omega) (by omega)]
        exact (cnt_gap (by omega) hp (fun k a b => dec_f (fun w => by have := w.2.1; omega))).symm
theorem M_joint {σ : St} {M : Mem} (h : MI σ M) (hV : VS σ) {n w : Int} (hn : R32 n) (hw : R32 w) : Cal Y_RM_joint [vR 141, vI n, vI w] M (Qm (q_joint σ.1 n w, σ) M) := by
  have hc := nC_bd hV.1
  have hp12 := p2_12 hc.2
  have hp0 := p2_pos (nC σ.1)
  have hse := se_bd hV.1
  have hbk := bk_bd hV.1
  have ⟨h0, k0⟩ := th0 h
  refine Cal.mk (y := Y_RM_joint) (loc := [vR 141, vI n, vI w, vN, vN, vN, vN, vN]) G_RM_joint rfl (by decide) rfl rfl (Nat.le_of_ble_eq_true rfl) ?_
  simp only [r_RM_joint_0, r_RM_joint_1, r_RM_joint_2, r_RM_joint_5, r_RM_joint_6, true_and, and_true, or_true, true_or, or_false, false_or, false_and, and_false, not_true_eq_false, not_false_eq_true, implies_true, true_implies, false_implies]
  refine (M_number hV h0).mono ?_
  rintro _ M2 ⟨rfl, n2, h2, k2⟩
  have kk := k0.trans k2.m
  have no : (nC σ.1 = 0 ∨ (n < 1 ∨ 3 < n) ∨ (w < 0 ∨ 3 ≤ w)) → Qm (q_joint σ.1 n w, σ) M (some (vI (-1))) M2 := fun z => Qm.q h2 kk (by unfold q_joint; rw [if_pos z])
  simp only [r_RM_joint_9, r_RM_joint_10, r_RM_joint_13, r_RM_joint_16, r_RM_joint_17, r_RM_joint_18, r_RM_joint_19, r_RM_joint_22, r_RM_joint_25, r_RM_joint_28, r_RM_joint_29, r_RM_joint_30, r_RM_joint_31, r_RM_joint_34, r_RM_joint_37, r_RM_joint_40, r_RM_joint_41, r_RM_joint_42, r_RM_joint_43, r_RM_joint_44, r_RM_joint_46, r_RM_joint_48, r_RM_joint_49, r_RM_joint_51, r_RM_joint_52, true_and, and_true, or_true, true_or, or_false, false_or, false_and, and_false, not_true_eq_false, not_false_eq_true, implies_true, true_implies, false_implies, n2.1]
  refine ⟨r32 (by omega) (by omega), fun q => no (Or.inl q), fun q => ⟨hn, in_e hn.l (l64 (by decide) (by decide)) (l64 (by decide) (by decide)) (fun q1 => ⟨hw, in_n hw.l (l64 (by decide) (by decide)) (l64 (by decide) (by decide)) (fun q2 => ?_) (fun q2 => no (by omega))⟩) (fun q1 => no (by omega))⟩⟩
  have ee : q_joint σ.1 n w = if w = 0 then JA σ.1 ((n + 1) * 4096) else if w = 1 then JL σ.1 ((n + 1) * 4096) else JC σ.1 ((n + 1) * 4096) := if_neg (by omega)
  refine up_loop (lo := 1) (hi := p2 (nC σ.1)) (P := fun s => ∀ M3 L B C l7, Kp (fun c => c = 153) M2 M3 → JI σ.1 n s L B C → Run C_RM_joint (Qm (q_joint σ.1 n w, σ) M) 54 [vR 141, vI n, vI w, vI B, vI L, vI C, vI s, l7] [] M3) (fun s s0 s1 ih M3 L B C l7 k3 hI => ?_) (by omega) M2 1000000 0 0 _ Kp.rf (Or.inl ⟨rfl, rfl, rfl, fun u a b => by omega⟩)
  have n3 : NU σ.1 M3 := n2.of k3 (fun c z => by omega)
  have r3 : RR σ.1 M3 := fun j a b => by rw [k3.at (by decide)]; exact h2.1 j a b
  have hLB : 0 ≤ L ∧ L ≤ 1000000 ∧ 0 ≤ B ∧ B < 4096 ∧ 0 ≤ C ∧ C ≤ 4096 := by
    rcases hI with z | ⟨b0, b1, b2, b3, b4, b5⟩
    · omega
    · have := cntI_bd (fun u => dec (0 < u ∧ u < p2 (nC σ.1) ∧ pcI u < n + 1 ∧ jd σ.1 u = L)) (n := s) (by omega)
      have hj : 0 ≤ jd σ.1 B ∧ jd σ.1 B ≤ 31 := gp_bd σ.1 _ _
      omega
  rw [r_RM_joint_54]
  simp only [r_RM_joint_56, r_RM_joint_57, r_RM_joint_58, r_RM_joint_61, r_RM_joint_62, r_RM_joint_65, r_RM_joint_67, r_RM_joint_70, r_RM_joint_71, r_RM_joint_74, r_RM_joint_75, r_RM_joint_76, r_RM_joint_78, r_RM_joint_176, r_RM_joint_179, true_and, and_true, or_true, true_or, or_false, false_or, false_and, and_false, not_true_eq_false, not_false_eq_true, implies_true, true_implies, false_implies, n3.1, p2_def]
  refine ⟨⟨hc.1, by omega⟩, r32 (by omega) (by omega), r32 (by omega) (by omega), fun q3 => ?_, fun q3 => ?_⟩
  · rw [show s = p2 (nC σ.1) by omega] at hI
    have hz := JI_end hV.1 q1.1 q1.2 q hI
    have kr := KR.of k3 (fun c z => by omega)
    simp only [r_RM_joint_182, r_RM_joint_183, r_RM_joint_186, r_RM_joint_187, r_RM_joint_190, r_RM_joint_191, r_RM_joint_192, r_RM_joint_195, r_RM_joint_197, r_RM_joint_200, r_RM_joint_202, true_and, and_true, or_true, true_or, or_false, false_or, false_and, and_false, not_true_eq_false, not_false_eq_true, implies_true, true_implies, false_implies]
    exact ⟨hw, fun q4 => ⟨hw, r32 (by decide) (by decide), fun q5 => Qm.q (h2.kr kr) (kk.trans kr.m) (by rw [ee, if_neg q4, if_neg q5]; exact hz.2.2), fun q5 => Qm.q (h2.kr kr) (kk.trans kr.m) (by rw [ee, if_neg q4, if_pos (by omega)]; exact hz.1)⟩, fun q4 => Qm.q (h2.kr kr) (kk.trans kr.m) (by rw [ee, if_pos (by omega)]; exact hz.2.1)⟩
  · have hps := pcI_bd s
    have hpB := pcI_bd B
    refine Cal.I (bits_s M3 (v := s) (by omega) (by omega)) ⟨r32 (by omega) (by omega), hn, fun q4 => ih (by omega) M3 L B C l7 k3 ?_, fun q4 => ?_⟩
    · rcases hI with ⟨x1, x2, x3, x4⟩ | ⟨b0, b1, b2, b3, b4, b5⟩
      · refine Or.inl ⟨x1, x2, x3, fun u a b => ?_⟩
        by_cases e : u = s
        · rw [e]; omega
        · exact x4 u a (by omega)
      · refine Or.inr ⟨b0, by omega, b2, b3, fun u a b c => ?_, ?_⟩
        · by_cases e : u = s
          · rw [e] at c; omega
          · exact b4 u a (by omega) c
        · rw [cntI_s _ (by omega), ← b5, if_neg (by rw [dec_f (fun z => by have := z.2.2.1; omega)]; decide), Int.add_zero]
    have hcb := cod_bd hV.1 (-1) s
    refine (codeOf_s (VR_tau hV.1) (S := s) (by omega) (by omega) r3.t (n3.t hV.1)).mono ?_
    rintro _ M4 ⟨rfl, -, k4⟩
    have k34 := k3.trans k4
    have r4 : RR σ.1 M4 := fun j a b => by rw [k34.at (by decide)]; exact h2.1 j a b
    refine ⟨_, rfl, ?_⟩
    simp only [r_RM_joint_81, r_RM_joint_82, r_RM_joint_85, r_RM_joint_86, r_RM_joint_87, r_RM_joint_88, r_RM_joint_91, r_RM_joint_92, r_RM_joint_93, true_and, and_true, or_true, true_or, or_false, false_or, false_and, and_false, not_true_eq_false, not_false_eq_true, implies_true, true_implies, false_implies, show M4.1 144 5 = σ.1 5 from r4 5 (by decide) (by decide), show M4.1 144 4 = σ.1 4 from r4 4 (by decide) (by decide)]
    refine ⟨by decide, by decide, by decide, by decide, Cal.I (far_s M4 hcb.1 hcb.2.2 hse.1 hse.2 hbk.1) ?_⟩
    rw [show pcI (iand (ixor (cod (tau σ.1) (-1) s) (σ.1 5)) (σ.1 4)) = jd σ.1 s from rfl]
    have hj : 0 ≤ jd σ.1 s ∧ jd σ.1 s ≤ 31 := gp_bd σ.1 _ _
    have ih' := fun L B C => ih (by omega) M4 L B C (vI (jd σ.1 s)) k34
    have lt : jd σ.1 s < L → JI σ.1 n (s + 1) (jd σ.1 s) s 1 := fun y => by
      have low : ∀ u, 0 < u → u < s → pcI u ≤ n → jd σ.1 s < jd σ.1 u := fun u a b c => by
        rcases hI with ⟨-, -, -, x4⟩ | ⟨b0, b1, b2, b3, b4, b5⟩
        · exact absurd c (x4 u a b)
        · have := (b4 u a b c).1; omega
      refine Or.inr ⟨by omega, by omega, by omega, rfl, fun u a b c => ?_, ?_⟩
      · by_cases e : u = s
        · rw [e]; exact ⟨Int.le_refl _, fun _ => Or.inr ⟨rfl, Int.le_refl _⟩⟩
        · have := low u a (by omega) c
          exact ⟨by omega, fun z => by omega⟩
      · rw [cntI_s _ (by omega), if_pos (dec_t ⟨by omega, by omega, by omega, rfl⟩), cntI_no (by omega) (fun u a b => dec_f (fun z => by have := low u z.1 b (by omega); omega))]; rfl
    have eq : jd σ.1 s = L → ∀ B', ((pcI s < pcI B ∧ B' = s) ∨ (¬ pcI s < pcI B ∧ B' = B)) → JI σ.1 n (s + 1) L B' (C + 1) := fun y B' hB => by
      rcases hI with ⟨x1, -⟩ | ⟨b0, b1, b2, b3, b4, b5⟩
      · omega
      · have hC : C + 1 = cntI (fun u => dec (0 < u ∧ u < p2 (nC σ.1) ∧ pcI u < n + 1 ∧ jd σ.1 u = L)) (s + 1) := by
          rw [cntI_s _ (by omega), if_pos (dec_t ⟨by omega, by omega, by omega, y⟩), ← b5]
        rcases hB with ⟨z, rfl⟩ | ⟨z, rfl⟩
        · refine Or.inr ⟨by omega, by omega, by omega, y, fun u a b c => ?_, hC⟩
          by_cases e : u = B'
          · rw [e]; exact ⟨by omega, fun _ => Or.inr ⟨rfl, Int.le_refl _⟩⟩
          · have := b4 u a (by omega) c
            exact ⟨this.1, fun v => by have := this.2 v; omega⟩
        · refine Or.inr ⟨b0, by omega, b2, b3, fun u a b c => ?_, hC⟩
          by_cases e : u = s
          · rw [e]; exact ⟨by omega, fun _ => by omega⟩
          · exact b4 u a (by omega) c
    have gt : L < jd σ.1 s → JI σ.1 n (s + 1) L B C := fun y => by
      rcases hI with ⟨x1, -⟩ | ⟨b0, b1, b2, b3, b4, b5⟩
      · omega
      · refine Or.inr ⟨b0, by omega, b2, b3, fun u a b c => ?_, ?_⟩
        · by_cases e : u = s
          · rw [e]; exact ⟨by omega, fun v => by omega⟩
          · exact b4 u a (by omega) c
        · rw [cntI_s _ (by omega), ← b5, if_neg (by rw [dec_f (fun z => by have := z.2.2.2; omega)]; decide), Int.add_zero]
    rcases Int.lt_trichotomy (jd σ.1 s) L with y | y | y
    · simp only [r_RM_joint_96, r_RM_joint_98, r_RM_joint_100, r_RM_joint_102, r_RM_joint_105, r_RM_joint_106, r_RM_joint_109, r_RM_joint_111, r_RM_joint_113, r_RM_joint_116, r_RM_joint_118, r_RM_joint_119, r_RM_joint_120, r_RM_joint_123, r_RM_joint_125, r_RM_joint_127, r_RM_joint_129, r_RM_joint_131, r_RM_joint_134, r_RM_joint_136, r_RM_joint_138, r_RM_joint_141, r_RM_joint_143, r_RM_joint_146, r_RM_joint_147, r_RM_joint_150, r_RM_joint_153, r_RM_joint_155, r_RM_joint_158, r_RM_joint_159, r_RM_joint_160, r_RM_joint_162, r_RM_joint_164, r_RM_joint_167, r_RM_joint_169, r_RM_joint_172, r_RM_joint_174, r_RM_joint_176, r_RM_joint_179, true_and, and_true, or_true, true_or, or_false, false_or, false_and, and_false, not_true_eq_false, not_false_eq_true, implies_true, true_implies, false_implies]
      have g := ih' _ _ _ (lt y)
      exact ⟨r32 (by omega) (by omega), r32 (by omega) (by omega), fun z => by omega, fun _ => ⟨r32 (by omega) (by omega), r32 (by omega) (by omega), fun _ => ⟨r32 (by omega) (by omega), r32 (by omega) (by omega), fun z => by omega, fun _ => g⟩, fun z => by omega⟩⟩
    · simp only [r_RM_joint_96, r_RM_joint_98, r_RM_joint_100, r_RM_joint_102, r_RM_joint_105, r_RM_joint_106, r_RM_joint_109, r_RM_joint_111, r_RM_joint_113, r_RM_joint_116, r_RM_joint_118, r_RM_joint_119, r_RM_joint_120, r_RM_joint_123, r_RM_joint_125, r_RM_joint_127, r_RM_joint_129, r_RM_joint_131, r_RM_joint_134, r_RM_joint_136, r_RM_joint_138, r_RM_joint_141, r_RM_joint_143, r_RM_joint_146, r_RM_joint_147, r_RM_joint_150, r_RM_joint_153, r_RM_joint_155, r_RM_joint_158, r_RM_joint_159, r_RM_joint_160, r_RM_joint_162, r_RM_joint_164, r_RM_joint_167, r_RM_joint_169, r_RM_joint_172, r_RM_joint_174, r_RM_joint_176, r_RM_joint_179, true_and, and_true, or_true, true_or, or_false, false_or, false_and, and_false, not_true_eq_false, not_false_eq_true, implies_true, true_implies, false_implies]
      refine ⟨r32 (by omega) (by omega), r32 (by omega) (by omega), fun _ => ⟨r32 (by omega) (by omega), r32 (by omega) (by omega), fun z => by omega, fun _ => ⟨r32 (by omega) (by omega), r32 (by omega) (by omega), fun z => by omega, fun _ => ⟨r32 (by omega) (by omega), r32 (by omega) (by omega), fun z => by omega, fun _ => ?_⟩⟩⟩, fun z => by omega⟩
      refine Cal.I (bits_s M4 (v := s) (by omega) (by omega)) (Cal.I (bits_s M4 (v := B) (by omega) (by omega)) ⟨r32 (by omega) (by omega), r32 (by omega) (by omega), fun z => ⟨r32 (by omega) (by omega), r32 (by omega) (by omega), fun _ => ih' _ _ _ (eq y B (Or.inr ⟨by omega, rfl⟩)), fun z => by omega⟩, fun z => ⟨r32 (by omega) (by omega), r32 (by omega) (by omega), fun _ => ih' _ _ _ (eq y s (Or.inl ⟨by omega, rfl⟩)), fun z => by omega⟩⟩)
    · simp only [r_RM_joint_96, r_RM_joint_98, r_RM_joint_100, r_RM_joint_102, r_RM_joint_105, r_RM_joint_106, r_RM_joint_109, r_RM_joint_111, r_RM_joint_113, r_RM_joint_116, r_RM_joint_118, r_RM_joint_119, r_RM_joint_120, r_RM_joint_123, r_RM_joint_125, r_RM_joint_127, r_RM_joint_129, r_RM_joint_131, r_RM_joint_134, r_RM_joint_136, r_RM_joint_138, r_RM_joint_141, r_RM_joint_143, r_RM_joint_146, r_RM_joint_147, r_RM_joint_150, r_RM_joint_153, r_RM_joint_155, r_RM_joint_158, r_RM_joint_159, r_RM_joint_160, r_RM_joint_162, r_RM_joint_164, r_RM_joint_167, r_RM_joint_169, r_RM_joint_172, r_RM_joint_174, r_RM_joint_176, r_RM_joint_179, true_and, and_true, or_true, true_or, or_false, false_or, false_and, and_false, not_true_eq_false, not_false_eq_true, implies_true, true_implies, false_implies]
      have g := ih' _ _ _ (gt y)
      exact ⟨r32 (by omega) (by omega), r32 (by omega) (by omega), fun _ => ⟨r32 (by omega) (by omega), r32 (by omega) (by omega), fun _ => ⟨r32 (by omega) (by omega), r32 (by omega) (by omega), fun z => by omega, fun _ => ⟨r32 (by omega) (by omega), r32 (by omega) (by omega), fun _ => ⟨r32 (by omega) (by omega), r32 (by omega) (by omega), fun _ => g, fun z => by omega⟩, fun z => by omega⟩⟩, fun z => by omega⟩, fun z => by omega⟩
