/-! the reference: minimal -/
theorem isMinimal_s {ρ : Rw} (hV : VR ρ) {M : Mem} (hR : RR ρ M) (hN : NU ρ M) {s g : Int} (s0 : 0 < s) (s1 : s < 4096) (g0 : 0 ≤ g) (g1 : g < nS ρ) : Cal Y_RM_isMinimal [vR 141, vI s, vI g] M (fun r M' => r = some (vI (if dec (isMin ρ g s) = true then 1 else 0)) ∧ Kp (fun c => c = 153) M M') := by
  have RK : ∀ M1, Kp (fun c => c = 153) M M1 → RR ρ M1 := fun M1 k j a b => by rw [k.at (by decide)]; exact hR j a b
  have NK : ∀ M1, Kp (fun c => c = 153) M M1 → NU ρ M1 := fun M1 k => hN.of k (fun c z => by omega)
  have no : ¬ isMin ρ g s → ∀ p M1, 0 ≤ p → p < 4096 → Kp (fun c => c = 153) M M1 → Run C_RM_isMinimal (fun r M' => r = some (vI (if dec (isMin ρ g s) = true then 1 else 0)) ∧ Kp (fun c => c = 153) M M') 14 [vR 141, vI s, vI g, vI 0, vI p] [] M1 := by
    intro z p M1 p0 p1 k1
    rw [r_RM_isMinimal_14]
    simp only [r_RM_isMinimal_16, r_RM_isMinimal_19, r_RM_isMinimal_20, r_RM_isMinimal_50, r_RM_isMinimal_51, true_and, and_true, or_true, true_or, or_false, false_or, false_and, and_false, not_true_eq_false, not_false_eq_true, implies_true, true_implies, false_implies]
    rw [if_neg (fun y => z (dec_iff.1 y))]
    exact ⟨r32 (by omega) (by omega), fun _ => ⟨rfl, k1⟩, fun _ => ⟨r32 (by decide) (by decide), rfl, k1⟩⟩
  refine Cal.mk (y := Y_RM_isMinimal) (loc := [vR 141, vI s, vI g, vN, vN]) G_RM_isMinimal rfl (by decide) rfl rfl (Nat.le_of_ble_eq_true rfl) ?_
  simp only [r_RM_isMinimal_0, r_RM_isMinimal_1, r_RM_isMinimal_2, r_RM_isMinimal_3, true_and, and_true, or_true, true_or, or_false, false_or, false_and, and_false, not_true_eq_false, not_false_eq_true, implies_true, true_implies, false_implies]
  refine (brings_s hV hR hN s0 s1 g0 g1).mono ?_
  rintro _ M1 ⟨rfl, k1⟩
  refine ⟨_, rfl, ?_⟩
  simp only [r_RM_isMinimal_6, r_RM_isMinimal_7, r_RM_isMinimal_8, r_RM_isMinimal_9, r_RM_isMinimal_10, r_RM_isMinimal_11, r_RM_isMinimal_12, true_and, and_true, or_true, true_or, or_false, false_or, false_and, and_false, not_true_eq_false, not_false_eq_true, implies_true, true_implies, false_implies]
  have hb := iand_bd (a := s - 1) (b := s) (by omega) (by omega) (by omega)
  by_cases q : bit (cod (tau ρ) (-1) s) g = true
  · rw [if_pos q]
    have key : ∀ (n : Nat) (p : Int) (M2 : Mem), 0 ≤ p → p ≤ n → p < s → iand p (ixor s (-1)) = 0 → (∀ t, p < t → t < s → iand t (ixor s (-1)) = 0 → ¬ bit (cod (tau ρ) (-1) t) g = true) → Kp (fun c => c = 153) M M2 → Run C_RM_isMinimal (fun r M' => r = some (vI (if dec (isMin ρ g s) = true then 1 else 0)) ∧ Kp (fun c => c = 153) M M') 14 [vR 141, vI s, vI g, vI 1, vI p] [] M2 := by
      intro n
      induction n with
      | zero =>
        intro p M2 p0 pn ps pp pt k2
        rw [r_RM_isMinimal_14]
        simp only [r_RM_isMinimal_16, r_RM_isMinimal_19, r_RM_isMinimal_20, r_RM_isMinimal_50, r_RM_isMinimal_51, true_and, and_true, or_true, true_or, or_false, false_or, false_and, and_false, not_true_eq_false, not_false_eq_true, implies_true, true_implies, false_implies]
        refine ⟨r32 (by omega) (by omega), fun _ => ?_, fun z => by omega⟩
        rw [if_pos (dec_t (show isMin ρ g s from ⟨q, fun t a b c => pt t (by omega) b c⟩))]
        exact ⟨rfl, k2⟩
      | succ n ih =>
        intro p M2 p0 pn ps pp pt k2
        rw [r_RM_isMinimal_14]
        simp only [r_RM_isMinimal_16, r_RM_isMinimal_19, r_RM_isMinimal_20, r_RM_isMinimal_23, r_RM_isMinimal_24, r_RM_isMinimal_26, r_RM_isMinimal_27, r_RM_isMinimal_30, r_RM_isMinimal_33, r_RM_isMinimal_34, r_RM_isMinimal_37, r_RM_isMinimal_38, r_RM_isMinimal_39, r_RM_isMinimal_41, r_RM_isMinimal_42, r_RM_isMinimal_43, r_RM_isMinimal_44, r_RM_isMinimal_45, r_RM_isMinimal_47, r_RM_isMinimal_50, r_RM_isMinimal_51, true_and, and_true, or_true, true_or, or_false, false_or, false_and, and_false, not_true_eq_false, not_false_eq_true, implies_true, true_implies, false_implies]
        refine ⟨r32 (by omega) (by omega), fun z => ?_, fun z => ⟨r32 (by decide) (by decide), fun y => absurd y (by decide), fun _ => ?_⟩⟩
        · rw [if_pos (dec_t (show isMin ρ g s from ⟨q, fun t a b c => pt t (by omega) b c⟩))]
          exact ⟨rfl, k2⟩
        · have hb2 := iand_bd (a := p - 1) (b := s) (by omega) (by omega) (by omega)
          refine (brings_s hV (RK M2 k2) (NK M2 k2) (s := p) (by omega) (by omega) g0 g1).Bn' (fun y M3 k3 => no (fun w => w.2 p (by omega) ps pp y) _ _ hb2.1 (by omega) (k2.trans k3)) (fun y M3 k3 => ih _ _ hb2.1 (by omega) (by omega) (sub_and (by omega) (by omega) (by omega)) (fun t a b c => ?_) (k2.trans k3))
          rcases Int.lt_trichotomy t p with w | w | w
          · have := next_sub (s := s) (p := p) (t := t) (by omega) s1 (by omega) pp (by omega) (by omega) c w
            omega
          · rw [w]; exact y
          · exact pt t w b c
    refine key s.toNat _ M1 hb.1 (by omega) (by omega) (sub_and (by omega) (by omega) (by omega)) (fun t a b c => ?_) k1
    exfalso
    have hss : iand s (ixor s (-1)) = 0 := (sub_iff (by omega) (by omega) (by omega)).2 (fun i _ z => z)
    have := next_sub (s := s) (p := s) (t := t) (by omega) s1 s0 hss s1 (by omega) c b
    omega
  · rw [if_neg q]
    exact no (fun w => q w.1) _ _ hb.1 (by omega) k1
theorem M_minimal {σ : St} {M : Mem} (h : MI σ M) (hV : VS σ) {g i : Int} (hg : R32 g) (hi : R32 i) : Cal Y_RM_minimal [vR 141, vI g, vI i] M (Qm (q_minimal σ.1 g i, σ) M) := by
  have hs := nS_bd hV.1
  have hc := nC_bd hV.1
  have hp12 := p2_12 hc.2
  have hp0 := p2_pos (nC σ.1)
  have ⟨h0, k0⟩ := th0 h
  refine Cal.mk (y := Y_RM_minimal) (loc := [vR 141, vI g, vI i, vN, vN, vN, vN]) G_RM_minimal rfl (by decide) rfl rfl (Nat.le_of_ble_eq_true rfl) ?_
  simp only [r_RM_minimal_0, r_RM_minimal_1, r_RM_minimal_2, r_RM_minimal_5, r_RM_minimal_6, true_and, and_true, or_true, true_or, or_false, false_or, false_and, and_false, not_true_eq_false, not_false_eq_true, implies_true, true_implies, false_implies]
  refine (M_number hV h0).mono ?_
  rintro _ M2 ⟨rfl, n2, h2, k2⟩
  have kk := k0.trans k2.m
  simp only [r_RM_minimal_9, r_RM_minimal_10, r_RM_minimal_11, r_RM_minimal_12, r_RM_minimal_13, r_RM_minimal_16, r_RM_minimal_17, r_RM_minimal_18, r_RM_minimal_19, r_RM_minimal_22, r_RM_minimal_25, r_RM_minimal_26, r_RM_minimal_27, r_RM_minimal_30, r_RM_minimal_31, r_RM_minimal_32, r_RM_minimal_33, r_RM_minimal_34, r_RM_minimal_35, r_RM_minimal_37, r_RM_minimal_38, true_and, and_true, or_true, true_or, or_false, false_or, false_and, and_false, not_true_eq_false, not_false_eq_true, implies_true, true_implies, false_implies, n2.2.1]
  refine ⟨hg, r32 (by omega) (by omega), in_e hg.l (l64 (by decide) (by decide)) (l64 (by omega) (by omega)) (fun q => ⟨hi, r32 (by decide) (by decide), fun q2 => ?_, fun q2 => Qm.q h2 kk (by unfold q_minimal; rw [if_pos (by omega)])⟩) (fun q => Qm.q h2 kk (by unfold q_minimal; rw [if_pos (by omega)]))⟩
  have ee : q_minimal σ.1 g i = if i = -1 then cntI (mnP σ.1 g) 16384 else if i < 0 ∨ cntI (mnP σ.1 g) 16384 ≤ i then -1 else kth (mnP σ.1 g) 16384 i % 4096 := if_neg (by omega)
  have nokv : ∀ k, ¬ kv (nC σ.1) k → mnP σ.1 g k = false := fun k z => dec_f (fun y => z y.1)
  generalize hV4 : (fun c : Int => if 0 ≤ i ∧ i < c then kth (mnP σ.1 g) 16384 i % 4096 else -1) = V
  have Ve : ∀ c, V c = if 0 ≤ i ∧ i < c then kth (mnP σ.1 g) 16384 i % 4096 else -1 := fun c => by rw [← hV4]
  have z0 : cntI (mnP σ.1 g) (1 * 4096) = 0 := cntI_no (by decide) (fun k a b => nokv k (fun y => by
    have h1 := y.2.2.2
    have h2 := y.1
    have h3 := pc_0 (a := k % 4096) (by omega) (by omega)
    have h4 := pcI_bd (k % 4096)
    unfold skey at h1
    omega))
  have outer : ∀ M3 l6, Kp (fun c => c = 153) M2 M3 → Run C_RM_minimal (Qm (q_minimal σ.1 g i, σ) M) 40 [vR 141, vI g, vI i, vI (cntI (mnP σ.1 g) (1 * 4096)), vI (V (cntI (mnP σ.1 g) (1 * 4096))), vI 1, l6] [] M3 := by
    refine up_loop (lo := 1) (hi := 4) (P := fun sz => ∀ M3 l6, Kp (fun c => c = 153) M2 M3 → Run C_RM_minimal (Qm (q_minimal σ.1 g i, σ) M) 40 [vR 141, vI g, vI i, vI (cntI (mnP σ.1 g) (sz * 4096)), vI (V (cntI (mnP σ.1 g) (sz * 4096))), vI sz, l6] [] M3) (fun sz z1 z4 ih M3 l6 k3 => ?_) (by decide)
    have hcn := cntI_bd (mnP σ.1 g) (n := sz * 4096) (by omega)
    rw [r_RM_minimal_40]
    simp only [r_RM_minimal_42, r_RM_minimal_43, r_RM_minimal_46, r_RM_minimal_47, true_and, and_true, or_true, true_or, or_false, false_or, false_and, and_false, not_true_eq_false, not_false_eq_true, implies_true, true_implies, false_implies]
    refine ⟨r32 (by omega) (by omega), r32 (by decide) (by decide), fun q3 => ?_, fun q3 => ?_⟩
    · rw [show sz * 4096 = 16384 by omega] at hcn ⊢
      have kr := KR.of k3 (fun c z => by omega)
      simp only [r_RM_minimal_109, r_RM_minimal_110, r_RM_minimal_111, r_RM_minimal_114, r_RM_minimal_115, r_RM_minimal_118, r_RM_minimal_120, true_and, and_true, or_true, true_or, or_false, false_or, false_and, and_false, not_true_eq_false, not_false_eq_true, implies_true, true_implies, false_implies]
      refine ⟨hi, r32 (by decide) (by decide), fun q4 => Qm.q (h2.kr kr) (kk.trans kr.m) ?_, fun q4 => Qm.q (h2.kr kr) (kk.trans kr.m) (by rw [ee, if_pos (by omega)])⟩
      rw [ee, if_neg q4, Ve]
      by_cases y : 0 ≤ i ∧ i < cntI (mnP σ.1 g) 16384
      · rw [if_pos y, if_neg (by omega)]
      · rw [if_neg y, if_pos (by omega)]
    · have inner : ∀ M4, Kp (fun c => c = 153) M2 M4 → Run C_RM_minimal (Qm (q_minimal σ.1 g i, σ) M) 49 [vR 141, vI g, vI i, vI (cntI (mnP σ.1 g) (sz * 4096 + 1)), vI (V (cntI (mnP σ.1 g) (sz * 4096 + 1))), vI sz, vI 1] [] M4 := by
        refine up_loop (lo := 1) (hi := p2 (nC σ.1)) (P := fun s => ∀ M4, Kp (fun c => c = 153) M2 M4 → Run C_RM_minimal (Qm (q_minimal σ.1 g i, σ) M) 49 [vR 141, vI g, vI i, vI (cntI (mnP σ.1 g) (sz * 4096 + s)), vI (V (cntI (mnP σ.1 g) (sz * 4096 + s))), vI sz, vI s] [] M4) (fun s s0 s1 ihs M4 k4 => ?_) (by omega)
        have hcs := cntI_bd (mnP σ.1 g) (n := sz * 4096 + s) (by omega)
        have n4 : NU σ.1 M4 := n2.of k4 (fun c z => by omega)
        have r4 : RR σ.1 M4 := fun j a b => by rw [k4.at (by decide)]; exact h2.1 j a b
        rw [r_RM_minimal_49]
        simp only [r_RM_minimal_51, r_RM_minimal_52, r_RM_minimal_53, r_RM_minimal_56, r_RM_minimal_57, r_RM_minimal_60, r_RM_minimal_62, r_RM_minimal_65, r_RM_minimal_67, r_RM_minimal_70, r_RM_minimal_71, r_RM_minimal_73, r_RM_minimal_74, r_RM_minimal_77, r_RM_minimal_80, r_RM_minimal_81, r_RM_minimal_82, r_RM_minimal_85, r_RM_minimal_87, r_RM_minimal_90, r_RM_minimal_92, r_RM_minimal_94, r_RM_minimal_97, r_RM_minimal_100, r_RM_minimal_103, r_RM_minimal_106, true_and, and_true, or_true, true_or, or_false, false_or, false_and, and_false, not_true_eq_false, not_false_eq_true, implies_true, true_implies, false_implies, n4.1, p2_def]
        refine ⟨⟨hc.1, by omega⟩, r32 (by omega) (by omega), r32 (by omega) (by omega), fun q5 => ?_, fun q5 => ?_⟩
        · have hih := ih (by omega) M4 (vI s) k4
          rw [cnt_gap (a := sz * 4096 + s) (b := (sz + 1) * 4096) (by omega) (by omega) (fun k a b => nokv k (fun y => by have := y.2.1; omega))] at hih
          exact hih
        · have hpc := pcI_bd s
          have em : (sz * 4096 + s) % 4096 = s := by omega
          have hih := fun M5 a => ihs (by omega) M5 a
          rw [show sz * 4096 + (s + 1) = sz * 4096 + s + 1 by omega, cntI_s _ (by omega)] at hih
          have skip : mnP σ.1 g (sz * 4096 + s) = false → ∀ M5, Kp (fun c => c = 153) M2 M5 → Run C_RM_minimal (Qm (q_minimal σ.1 g i, σ) M) 49 [vR 141, vI g, vI i, vI (cntI (mnP σ.1 g) (sz * 4096 + s)), vI (V (cntI (mnP σ.1 g) (sz * 4096 + s))), vI sz, vI (s + 1)] [] M5 := fun y M5 k5 => by
            rw [y, if_neg (by decide), Int.add_zero] at hih
            exact hih M5 k5
          refine Cal.I (bits_s M4 (v := s) (by omega) (by omega)) ⟨r32 (by omega) (by omega), r32 (by omega) (by omega), fun q6 => skip (nokv _ (fun y => by
            have := y.2.2.2
            rw [em] at this
            unfold skey at this
            omega)) M4 k4, fun q6 => ?_⟩
          refine (isMinimal_s hV.1 r4 n4 (s := s) (g := g) (by omega) (by omega) (by omega) (by omega)).Be' (fun y M5 k5 => ?_) (fun y M5 k5 => skip (dec_f (fun w => y (dec_t (by have := w.2; rw [em] at this; exact this)))) M5 (k4.trans k5))
          have hm : mnP σ.1 g (sz * 4096 + s) = true := dec_t ⟨⟨by omega, by omega, by rw [em]; omega, by rw [em]; unfold skey; omega⟩, by rw [em]; exact dec_iff.1 y⟩
          have hk := kth_eq (p := mnP σ.1 g) (n := 16384) (f := sz * 4096 + s) (by omega) (by omega) hm
          rw [hm, if_pos rfl] at hih
          have hih5 := hih M5 (k4.trans k5)
          refine ⟨r32 (by omega) (by omega), hi, fun q7 => ?_, fun q7 => ?_⟩
          · rw [show V (cntI (mnP σ.1 g) (sz * 4096 + s) + 1) = V (cntI (mnP σ.1 g) (sz * 4096 + s)) by
              rw [Ve, Ve]
              by_cases w : 0 ≤ i ∧ i < cntI (mnP σ.1 g) (sz * 4096 + s)
              · rw [if_pos w, if_pos (by omega)]
              · rw [if_neg w, if_neg (by omega)]] at hih5
            exact hih5
          · rw [show V (cntI (mnP σ.1 g) (sz * 4096 + s) + 1) = s by
              rw [Ve, if_pos (by omega), show i = cntI (mnP σ.1 g) (sz * 4096 + s) by omega, hk, em]] at hih5
            exact hih5
      have e1 : cntI (mnP σ.1 g) (sz * 4096 + 1) = cntI (mnP σ.1 g) (sz * 4096) := cnt_gap (by omega) (by omega) (fun k a b => nokv k (fun y => by have := y.1; omega))
      rw [e1] at inner
      exact inner M3 k3
  rw [z0, show V 0 = -1 by rw [Ve, if_neg (by omega)]] at outer
  exact outer M2 _ Kp.rf
