/-! the reference's cover -/
theorem ssub_0 (b : Int) : ssub 0 b := fun i _ z => by rw [bit_0] at z; exact Bool.noConfusion z
section CVR
variable {ρ tm : Rw} {M : Mem} {a b : Int}
theorem cA0_iff (an : ¬ a = 0) : ¬ cA M a 0 := fun y => y.elim an (fun w => by have := w.1; omega)
theorem cA1_iff (hB : SB M) (F : OF ρ tm (M.1 141 24) (M.1 157)) (a0 : 0 ≤ a) (a1 : a < 1048576) (an : ¬ a = 0) (hl : lowb a b) : cA M a 1 ↔ cv1 ρ tm a := by
  rw [← o1_iff F a0 an]
  constructor
  · rintro (y | ⟨-, h', l', j, x1, x2, x3, x4⟩)
    · exact absurd y an
    · rcases x4 with x4 | ⟨x4, -⟩
      · exact ⟨j, x1, x2, (dif_0 a0 a1 (hB.2 j x1 x2).1).1 x4⟩
      · exact absurd (by decide) x4
  · rintro ⟨j, x1, x2, x3⟩
    exact Or.inr ⟨by decide, b, hl, j, x1, x2, x3 b hl.1 hl.2.1, Or.inl ((dif_0 a0 a1 (hB.2 j x1 x2).1).2 x3)⟩
theorem cA2_iff (hV : VR ρ) (hB : SB M) (F : OF ρ tm (M.1 141 24) (M.1 157)) (a0 : 0 ≤ a) (a1 : a < 1048576) (an : ¬ a = 0) (hl : lowb a b) (n1 : ¬ cv1 ρ tm a) : cA M a 2 ↔ cv2 ρ tm a := by
  rw [← o2_iff hV F a0 a1 hl.1 hl.2.1 n1]
  constructor
  · rintro (y | ⟨-, h', l', j, x1, x2, x3, x4⟩)
    · exact absurd y an
    · rw [lowb_u l' hl] at x3
      refine ⟨j, x1, x2, x3, ?_⟩
      have hb := hB.2 j x1 x2
      have hd := dif_bd a0 a1 hb.1
      rcases x4 with x4 | ⟨-, h2, l2, j2, y1, y2, y3, y4⟩
      · rw [x4]; exact ⟨j, x1, x2, ssub_0 _⟩
      · rcases y4 with y4 | ⟨y4, -⟩
        · exact ⟨j2, y1, y2, (dif_0 hd.1 hd.2 (hB.2 j2 y1 y2).1).1 y4⟩
        · omega
  · rintro ⟨j, x1, x2, x3, j2, y1, y2, y3⟩
    have hb := hB.2 j x1 x2
    have hd := dif_bd a0 a1 hb.1
    refine Or.inr ⟨by decide, b, hl, j, x1, x2, x3, ?_⟩
    by_cases z : dif a (M.1 157 j) = 0
    · exact Or.inl z
    · obtain ⟨h2, l2⟩ := lowb_ex hd.1 z
      exact Or.inr ⟨by decide, h2, l2, j2, y1, y2, y3 h2 l2.1 l2.2.1, Or.inl ((dif_0 hd.1 hd.2 (hB.2 j2 y1 y2).1).2 y3)⟩
theorem cA3_iff (hV : VR ρ) (hB : SB M) (F : OF ρ tm (M.1 141 24) (M.1 157)) (a0 : 0 ≤ a) (a1 : a < 1048576) (an : ¬ a = 0) (hl : lowb a b) (n1 : ¬ cv1 ρ tm a) (n2 : ¬ cv2 ρ tm a) : cA M a 3 ↔ cv3 ρ tm a := by
  rw [← o3_iff hV F a0 a1 hl.1 hl.2.1 n1 n2]
  constructor
  · rintro (y | ⟨-, h', l', j, x1, x2, x3, x4⟩)
    · exact absurd y an
    · rw [lowb_u l' hl] at x3
      refine ⟨j, x1, x2, x3, ?_⟩
      have hb := hB.2 j x1 x2
      have hd := dif_bd a0 a1 hb.1
      rcases x4 with x4 | ⟨-, h2, l2, j2, y1, y2, y3, y4⟩
      · exact absurd ⟨_, F.1 j x1 x2, (dif_0 a0 a1 hb.1).1 x4⟩ n1
      · refine ⟨h2, l2, j2, y1, y2, y3, ?_⟩
        have hb2 := hB.2 j2 y1 y2
        have hd2 := dif_bd hd.1 hd.2 hb2.1
        rcases y4 with y4 | ⟨-, j3, z1, z2, z3⟩
        · rw [y4]; exact ⟨j2, y1, y2, ssub_0 _⟩
        · exact ⟨j3, z1, z2, (dif_0 hd2.1 hd2.2 (hB.2 j3 z1 z2).1).1 z3⟩
  · rintro ⟨j, x1, x2, x3, h2, l2, j2, y1, y2, y3, j3, z1, z2, z3⟩
    have hb := hB.2 j x1 x2
    have hd := dif_bd a0 a1 hb.1
    have hb2 := hB.2 j2 y1 y2
    have hd2 := dif_bd hd.1 hd.2 hb2.1
    exact Or.inr ⟨by decide, b, hl, j, x1, x2, x3, Or.inr ⟨by decide, h2, l2, j2, y1, y2, y3, Or.inr ⟨by decide, j3, z1, z2, (dif_0 hd2.1 hd2.2 (hB.2 j3 z1 z2).1).2 z3⟩⟩⟩
end CVR
theorem M_cover {σ : St} {M : Mem} (h : MI σ M) (hV : VS σ) : Cal Y_RM_cover [vR 141] M (Qm (q_cover σ.1 σ.2.2.2.1, σ) M) := by
  have ⟨h0, k0⟩ := th0 h
  have h3 := hV.1.2.2.2.1
  have hp := p2_mono (show σ.1 3 ≤ 20 by omega)
  have e20 : p2 20 = 1048576 := by decide
  have hp0 := p2_pos (σ.1 3)
  refine Cal.mk (y := Y_RM_cover) (loc := [vR 141, vN, vN, vN]) G_RM_cover rfl (by decide) rfl rfl (Nat.le_of_ble_eq_true rfl) ?_
  simp only [r_RM_cover_0, r_RM_cover_1, r_RM_cover_2, r_RM_cover_5, r_RM_cover_6, true_and, and_true, or_true, true_or, or_false, false_or, false_and, and_false, not_true_eq_false, not_false_eq_true, implies_true, true_implies, false_implies]
  refine (laySets_s h0 hV).mono ?_
  rintro _ M1 ⟨rfl, h1, k1, hB, hS⟩
  have kk := k0.trans k1.m
  simp only [r_RM_cover_9, r_RM_cover_10, r_RM_cover_11, r_RM_cover_14, r_RM_cover_15, r_RM_cover_16, r_RM_cover_17, r_RM_cover_18, r_RM_cover_19, r_RM_cover_20, r_RM_cover_21, r_RM_cover_22, r_RM_cover_23, true_and, and_true, or_true, true_or, or_false, false_or, false_and, and_false, not_true_eq_false, not_false_eq_true, implies_true, true_implies, false_implies, show M1.1 144 3 = σ.1 3 from h1.1 3 (by decide) (by decide), p2_def]
  refine ⟨by decide, by decide, ⟨h3.1, by omega⟩, ?_⟩
  generalize ha : p2 (σ.1 3) - 1 = a
  have a0 : 0 ≤ a := by omega
  have a1 : a < 1048576 := by omega
  have step : ∀ r n n', n + -1 = n' → 0 ≤ n → n ≤ 3 → Run C_RM_cover (Qm (q_cover σ.1 σ.2.2.2.1, σ) M) 24 [vR 141, vI a, vI (if dec (cA M1 a n) = true then n else r), vI n'] [] M1 → Run C_RM_cover (Qm (q_cover σ.1 σ.2.2.2.1, σ) M) 24 [vR 141, vI a, vI r, vI n] [] M1 := by
    intro r n n' hn n0 n3 H
    rw [← hn] at H
    rw [r_RM_cover_24]
    simp only [r_RM_cover_25, r_RM_cover_28, r_RM_cover_29, r_RM_cover_30, r_RM_cover_31, r_RM_cover_34, r_RM_cover_37, r_RM_cover_38, r_RM_cover_41, r_RM_cover_42, r_RM_cover_43, r_RM_cover_46, true_and, and_true, or_true, true_or, or_false, false_or, false_and, and_false, not_true_eq_false, not_false_eq_true, implies_true, true_implies, false_implies]
    refine ⟨r32 (by omega) (by omega), fun q => by omega, fun q => (areCovered_s hB a0 a1 n0 n3).Be (fun q2 => ?_) (fun q2 => ?_)⟩
    · rw [if_pos q2] at H; exact H
    · rw [if_neg q2] at H; exact H
  refine step _ 3 2 (by decide) (by decide) (by decide) (step _ 2 1 (by decide) (by decide) (by decide) (step _ 1 0 (by decide) (by decide) (by decide) (step _ 0 (-1) (by decide) (by decide) (by decide) ?_)))
  rw [r_RM_cover_24]
  simp only [r_RM_cover_25, r_RM_cover_49, r_RM_cover_50, true_and, and_true, or_true, true_or, or_false, false_or, false_and, and_false, not_true_eq_false, not_false_eq_true, implies_true, true_implies, false_implies]
  refine ⟨r32 (by decide) (by decide), fun _ => Qm.q h1 kk ?_, fun q => absurd (by decide) q⟩
  unfold q_cover
  rw [ha]
  by_cases z : σ.1 3 = 0
  · have az : a = 0 := by rw [← ha, z, p2_0]; rfl
    rw [if_pos z, if_pos (dec_t (show cA M1 a 0 from Or.inl az))]
  · have an : ¬ a = 0 := fun w => by
      have := p2_mono (show 1 ≤ σ.1 3 by omega)
      have e : p2 1 = 2 := by decide
      omega
    obtain ⟨b, hl⟩ := lowb_ex a0 an
    have F : OF σ.1 σ.2.2.2.1 (M1.1 141 24) (M1.1 157) := ⟨hS.1, fun e he hz => by
      obtain ⟨j, x, y, w⟩ := hS.2 e he hz
      exact ⟨j, x, y, by rw [w]; exact fun i _ z => z⟩⟩
    rw [if_neg z, if_neg (fun w => cA0_iff an (dec_iff.1 w)), dec_cong (cA1_iff hB F a0 a1 an hl)]
    by_cases y1 : cv1 σ.1 σ.2.2.2.1 a
    · rw [if_pos (dec_t y1), if_pos (dec_t y1)]
    · have w1 : ¬ dec (cv1 σ.1 σ.2.2.2.1 a) = true := fun w => y1 (dec_iff.1 w)
      rw [if_neg w1, if_neg w1, dec_cong (cA2_iff hV.1 hB F a0 a1 an hl y1)]
      by_cases y2 : cv2 σ.1 σ.2.2.2.1 a
      · rw [if_pos (dec_t y2), if_pos (dec_t y2)]
      · have w2 : ¬ dec (cv2 σ.1 σ.2.2.2.1 a) = true := fun w => y2 (dec_iff.1 w)
        rw [if_neg w2, if_neg w2, dec_cong (cA3_iff hV.1 hB F a0 a1 an hl y1 y2)]
