/-! the reference: odds, likeliest, ranked -/
theorem rlikely_s {ρ tm : Rw} {M : Mem} (hV : VR ρ) (hm : TM tm) (hR : RR ρ M) (hN : NU ρ M) (ht : ∀ i, 0 ≤ i → i < 4 → M.1 143 i = tm i) {g : Int} (g0 : 0 ≤ g) (g1 : g < 4096) : Cal Y_RM_likely [vR 141, vI g] M (fun r M' => r = some (vL (lkl ρ tm g)) ∧ M' = M) := by
  have hs := nS_bd hV
  have hb := bk_bd hV
  have hse := se_bd hV
  have t0 := ht 0 (by decide) (by decide)
  have t1 := ht 1 (by decide) (by decide)
  have hm0 := hm.1
  have hm1 := hm.2.1
  refine Cal.mk (y := Y_RM_likely) (loc := [vR 141, vI g, vN, vN, vN, vN]) G_RM_likely rfl (by decide) rfl rfl (Nat.le_of_ble_eq_true rfl) ?_
  simp only [r_RM_likely_0, r_RM_likely_1, r_RM_likely_2, r_RM_likely_3, true_and, and_true, or_true, true_or, or_false, false_or, false_and, and_false, not_true_eq_false, not_false_eq_true, implies_true, true_implies, false_implies]
  refine up_loop (lo := 0) (hi := nS ρ) (P := fun s => ∀ l5, Run C_RM_likely (fun r M' => r = some (vL (lkl ρ tm g)) ∧ M' = M) 5 [vR 141, vI g, vL (foI (lkS ρ tm g) 1 s), vN, vI s, l5] [] M) (fun s s0 s1 ih l5 => ?_) hs.1 _
  rw [r_RM_likely_5]
  simp only [r_RM_likely_7, r_RM_likely_8, r_RM_likely_11, r_RM_likely_14, r_RM_likely_15, r_RM_likely_18, r_RM_likely_19, r_RM_likely_20, r_RM_likely_22, r_RM_likely_25, r_RM_likely_28, r_RM_likely_29, r_RM_likely_31, r_RM_likely_34, r_RM_likely_37, r_RM_likely_38, r_RM_likely_41, r_RM_likely_42, r_RM_likely_43, r_RM_likely_46, r_RM_likely_47, r_RM_likely_50, r_RM_likely_51, r_RM_likely_89, r_RM_likely_92, r_RM_likely_95, r_RM_likely_96, true_and, and_true, or_true, true_or, or_false, false_or, false_and, and_false, not_true_eq_false, not_false_eq_true, implies_true, true_implies, false_implies, hN.2.1, show M.1 144 4 = ρ 4 from hR 4 (by decide) (by decide), t0, t1]
  refine ⟨r32 (by omega) (by omega), r32 (by omega) (by omega), fun q => ?_, fun q => ⟨by decide, by decide, ?_⟩⟩
  · rw [show s = nS ρ by omega]; rfl
  · have hih := fun l5 => ih (by omega) l5
    rw [foI_s _ _ s0] at hih
    refine rhas_if hb.1 (by omega) s0 (by omega) (fun q2 => ?_) (fun q2 => ?_)
    · rw [show lkS ρ tm g s (foI (lkS ρ tm g) 1 s) = foI (lkS ρ tm g) 1 s * fac ρ tm g s from if_pos q2] at hih
      have fin : ∀ f, f = (if bit g s = true then tm 0 else tm 1) → ∀ l5, Run C_RM_likely (fun r M' => r = some (vL (lkl ρ tm g)) ∧ M' = M) 52 [vR 141, vI g, vL (foI (lkS ρ tm g) 1 s), vN, vI s, l5] [vI f] M := by
        intro f ef l5
        have hf : 0 ≤ f ∧ f ≤ 16 := by rw [ef]; split <;> omega
        unfold fac at hih
        simp only [r_RM_likely_52, r_RM_likely_54, r_RM_likely_55, r_RM_likely_56, r_RM_likely_58, r_RM_likely_61, r_RM_likely_62, r_RM_likely_65, r_RM_likely_66, r_RM_likely_67, r_RM_likely_69, r_RM_likely_72, r_RM_likely_75, r_RM_likely_77, r_RM_likely_79, r_RM_likely_80, r_RM_likely_81, r_RM_likely_84, r_RM_likely_86, r_RM_likely_87, r_RM_likely_88, r_RM_likely_89, r_RM_likely_92, true_and, and_true, or_true, true_or, or_false, false_or, false_and, and_false, not_true_eq_false, not_false_eq_true, implies_true, true_implies, false_implies]
        refine Cal.I (rhas_s M g0 (by omega) s0 (by omega)) ⟨by decide, by decide, ?_⟩
        rw [show M.1 144 5 = ρ 5 from hR 5 (by decide) (by decide)]
        refine Cal.I (rhas_s M hse.1 (by omega) s0 (by omega)) ?_
        by_cases a : bit g s = true
        · rw [if_pos a] at ef hih
          rw [if_pos a]
          by_cases b : bit (ρ 5) s = true
          · rw [if_pos b] at hih
            rw [if_pos b]
            exact ⟨r32 (by decide) (by decide), r32 (by decide) (by decide), fun z => absurd rfl z, fun _ => ⟨r32 (by omega) (by omega), by rw [ef]; exact hih _⟩⟩
          · rw [if_neg b] at hih
            rw [if_neg b]
            exact ⟨r32 (by decide) (by decide), r32 (by decide) (by decide), fun _ => ⟨r32 (by omega) (by omega), by rw [ef]; exact hih _⟩, fun z => absurd (by decide) z⟩
        · rw [if_neg a] at ef hih
          rw [if_neg a]
          by_cases b : bit (ρ 5) s = true
          · rw [if_pos b] at hih
            rw [if_pos b]
            exact ⟨r32 (by decide) (by decide), r32 (by decide) (by decide), fun _ => ⟨r32 (by omega) (by omega), by rw [ef]; exact hih _⟩, fun z => absurd (by decide) z⟩
          · rw [if_neg b] at hih
            rw [if_neg b]
            exact ⟨r32 (by decide) (by decide), r32 (by decide) (by decide), fun z => absurd rfl z, fun _ => ⟨r32 (by omega) (by omega), by rw [ef]; exact hih _⟩⟩
      exact rhas_if g0 (by omega) s0 (by omega) (fun q3 => ⟨by decide, by decide, fin _ (by rw [if_pos q3]; exact t0) _⟩) (fun q3 => ⟨by decide, by decide, fin _ (by rw [if_neg q3]; exact t1) _⟩)
    · rw [show lkS ρ tm g s (foI (lkS ρ tm g) 1 s) = foI (lkS ρ tm g) 1 s from if_neg q2] at hih
      exact hih _
noncomputable def shn (ρ tm : Rw) (c : Int) : Int := if c = -1 then nt ρ tm else sh ρ tm c
theorem weighed_s {ρ tm : Rw} {M : Mem} (hV : VR ρ) (hm : TM tm) (hR : RR ρ M) (hN : NU ρ M) (hL : LC ρ M) (ht : ∀ i, 0 ≤ i → i < 4 → M.1 143 i = tm i) {c : Int} (c0 : -1 ≤ c) (c1 : c < nC ρ) : Cal Y_RM_weighed [vR 141, vI c] M (fun r M' => r = some (vL (shn ρ tm c)) ∧ M' = M) := by
  have hc := nC_bd hV
  have h0 := hV.1
  have t2 := hm.2.2.1
  refine Cal.mk (y := Y_RM_weighed) (loc := [vR 141, vI c]) G_RM_weighed rfl (by decide) rfl rfl (Nat.le_of_ble_eq_true rfl) ?_
  simp only [r_RM_weighed_0, r_RM_weighed_1, r_RM_weighed_2, r_RM_weighed_5, r_RM_weighed_6, r_RM_weighed_9, r_RM_weighed_10, r_RM_weighed_11, r_RM_weighed_12, r_RM_weighed_13, r_RM_weighed_14, r_RM_weighed_17, r_RM_weighed_18, r_RM_weighed_19, r_RM_weighed_20, r_RM_weighed_23, r_RM_weighed_26, r_RM_weighed_27, r_RM_weighed_28, r_RM_weighed_31, r_RM_weighed_33, r_RM_weighed_34, r_RM_weighed_37, r_RM_weighed_38, r_RM_weighed_39, r_RM_weighed_40, r_RM_weighed_41, r_RM_weighed_42, r_RM_weighed_45, r_RM_weighed_46, r_RM_weighed_47, r_RM_weighed_50, r_RM_weighed_51, r_RM_weighed_52, r_RM_weighed_53, r_RM_weighed_54, r_RM_weighed_55, r_RM_weighed_58, r_RM_weighed_59, r_RM_weighed_60, r_RM_weighed_63, r_RM_weighed_64, true_and, and_true, or_true, true_or, or_false, false_or, false_and, and_false, not_true_eq_false, not_false_eq_true, implies_true, true_implies, false_implies, ht 2 (by decide) (by decide)]
  refine ⟨r32 (by omega) (by omega), r32 (by decide) (by decide), fun q => ⟨by omega, by omega, ?_⟩, fun q => ⟨by decide, by decide, r32 (by omega) (by omega), Cal.L (rlikely_s hV hm hR hN ht (by decide) (by decide)) ?_⟩⟩
  · have hcf := cf_sp (VR_tau hV) (c := c) (by omega) (by rw [nC_tau hV]; omega)
    have t0 : tau ρ 0 = ρ 0 := tau_lo (by decide) (by decide)
    have hkd := hV.2.2.2.2.1 (cf (tau ρ) c / 8) (by omega) (by omega)
    have hwb := wgt_bd hV (c := c) (by omega) c1
    have e : wgt ρ c = ρ (136 + (8 * ρ (6 + cf (tau ρ) c / 8) + cf (tau ρ) c % 8)) := by
      unfold wgt
      rw [wC_tau hV (by omega) (by omega)]
      unfold wC
      rw [Int.mul_comm]
    have hg := gC_bd hV c
    rw [(hN.2.2.1 c (by omega) c1).1, (hN.2.2.1 c (by omega) c1).2]
    refine ⟨by omega, by omega, by omega, by omega, ?_⟩
    rw [hR (6 + cf (tau ρ) c / 8) (by omega) (by omega)]
    refine Cal.I (fact_s M) ⟨by omega, by omega, ?_⟩
    rw [hR _ (by omega) (by omega), ← e, hL c (by omega) c1]
    refine ⟨r32 (by omega) (by omega), by omega, by omega, Cal.L (rlikely_s hV hm hR hN ht hg.1 hg.2.2) ?_⟩
    rw [show shn ρ tm c = wgt ρ c * lkl ρ tm (gC ρ c) from if_neg q]
    exact ⟨rfl, rfl⟩
  · rw [show shn ρ tm c = tm 2 * lkl ρ tm 0 from if_pos (by omega)]
    exact ⟨rfl, rfl⟩
theorem common_s (M : Mem) {a b : Int} (a0 : 0 ≤ a) (a1 : a < 36028797018963968) (b0 : 0 ≤ b) (b1 : b < 36028797018963968) : Cal Y_RM_common [vL a, vL b] M (fun r M' => r = some (vL (ggd a b)) ∧ M' = M) := by
  have key : ∀ (n : Nat) (x y : Int) (l8 l9 : Vl), 0 ≤ x → x < 36028797018963968 → 0 ≤ y → y ≤ n → y < 36028797018963968 → Run C_RM_common (fun r M' => r = some (vL (ggd x y)) ∧ M' = M) 6 [vL a, vN, vL b, vN, vL x, vN, vL y, vN, l8, l9] [] M := by
    intro n
    induction n with
    | zero =>
      intro x y l8 l9 x0 x1 y0 yn y1
      rw [r_RM_common_6]
      simp only [r_RM_common_8, r_RM_common_9, r_RM_common_10, r_RM_common_13, r_RM_common_15, r_RM_common_17, r_RM_common_18, r_RM_common_20, r_RM_common_22, r_RM_common_24, r_RM_common_26, r_RM_common_28, r_RM_common_31, r_RM_common_33, true_and, and_true, or_true, true_or, or_false, false_or, false_and, and_false, not_true_eq_false, not_false_eq_true, implies_true, true_implies, false_implies]
      refine ⟨r64 (by omega) (by omega), r64 (by decide) (by decide), c3_r, fun q2 => ?_, fun q2 => absurd (c3_z.2 (by omega)) q2⟩
      rw [show y = 0 by omega, ggd_0 x0]
    | succ n ih =>
      intro x y l8 l9 x0 x1 y0 yn y1
      rw [r_RM_common_6]
      simp only [r_RM_common_8, r_RM_common_9, r_RM_common_10, r_RM_common_13, r_RM_common_15, r_RM_common_17, r_RM_common_18, r_RM_common_20, r_RM_common_22, r_RM_common_24, r_RM_common_26, r_RM_common_28, r_RM_common_31, r_RM_common_33, true_and, and_true, or_true, true_or, or_false, false_or, false_and, and_false, not_true_eq_false, not_false_eq_true, implies_true, true_implies, false_implies]
      refine ⟨r64 (by omega) (by omega), r64 (by decide) (by decide), c3_r, fun q2 => ?_, fun q2 => ?_⟩
      · rw [show y = 0 from c3_z.1 q2, ggd_0 x0]
      · have hy : ¬ y = 0 := fun z => q2 (c3_z.2 z)
        have r0 := Int.emod_nonneg x (show y ≠ 0 by omega)
        have r1 := Int.emod_lt_of_pos x (show 0 < y by omega)
        refine ⟨⟨by omega, by omega, by omega, by omega⟩, ?_⟩
        rw [← ggd_r (a := x) (b := y) x0 y0]
        exact ih y (x % y) _ _ y0 y1 r0 (by omega) (by omega)
  refine Cal.mk (y := Y_RM_common) (loc := [vL a, vN, vL b, vN, vN, vN, vN, vN, vN, vN]) G_RM_common rfl (by decide) rfl rfl (Nat.le_of_ble_eq_true rfl) ?_
  simp only [r_RM_common_0, r_RM_common_1, r_RM_common_3, r_RM_common_4, true_and, and_true, or_true, true_or, or_false, false_or, false_and, and_false, not_true_eq_false, not_false_eq_true, implies_true, true_implies, false_implies]
  exact key b.toNat a b _ _ a0 a1 b0 (by omega) b1
def QmL (s : Int × St) (M : Mem) : Option Vl → Mem → Prop := fun v M' => v = some (vL s.1) ∧ MI s.2 M' ∧ Kp KM M M'
theorem QmL.q {σ : St} {M M' : Mem} {x q : Int} (h : MI σ M') (hk : Kp KM M M') (e : x = q) : QmL (q, σ) M (some (vL x)) M' := ⟨by rw [e], h, hk⟩
theorem M_odds {σ : St} {M : Mem} (h : MI σ M) (hV : VS σ) {c w : Int} (hc : R32 c) (hw : R32 w) : Cal Y_RM_odds [vR 141, vI c, vI w] M (QmL (q_odds σ.1 σ.2.2.2.1 c w, σ) M) := by
  have hn := nC_bd hV.1
  generalize htm : σ.2.2.2.1 = tm
  have hm : TM tm := by rw [← htm]; exact hV.tm
  have hnt := nt_bd hV.1 hm
  have ht := tot_bd hV.1 hm
  have hnl : nt σ.1 tm ≤ tot σ.1 tm := by
    have h2 := sumI_bd (f := sh σ.1 tm) (a := 0) (b := 2533274790395904) (nC σ.1) hn.1 (fun i a b => sh_bd hV.1 hm a b)
    unfold tot; omega
  have ⟨h0, k0⟩ := th0 h
  refine Cal.mk (y := Y_RM_odds) (loc := [vR 141, vI c, vI w, vN, vN, vN, vN]) G_RM_odds rfl (by decide) rfl rfl (Nat.le_of_ble_eq_true rfl) ?_
  simp only [r_RM_odds_0, r_RM_odds_1, r_RM_odds_2, r_RM_odds_5, r_RM_odds_6, true_and, and_true, or_true, true_or, or_false, false_or, false_and, and_false, not_true_eq_false, not_false_eq_true, implies_true, true_implies, false_implies]
  refine (M_layCodes hV h0).mono ?_
  rintro _ M2 ⟨rfl, ⟨h2, n2, l2⟩, k2⟩
  have kk := k0.trans k2.m
  have T2 : ∀ i, 0 ≤ i → i < 4 → M2.1 143 i = tm i := by rw [← htm]; exact h2.2.2.2.1
  have no : ((¬ c = -1 ∧ (c < 0 ∨ nC σ.1 ≤ c)) ∨ (w < 0 ∨ 2 ≤ w)) → QmL (q_odds σ.1 tm c w, σ) M (some (vL (-1))) M2 := fun z => QmL.q h2 kk (by unfold q_odds; rw [if_pos z])
  simp only [r_RM_odds_9, r_RM_odds_10, r_RM_odds_11, r_RM_odds_14, r_RM_odds_15, r_RM_odds_18, r_RM_odds_19, r_RM_odds_20, r_RM_odds_21, r_RM_odds_24, r_RM_odds_27, r_RM_odds_28, r_RM_odds_29, r_RM_odds_30, r_RM_odds_31, r_RM_odds_34, r_RM_odds_37, r_RM_odds_40, r_RM_odds_41, r_RM_odds_42, r_RM_odds_43, r_RM_odds_44, true_and, and_true, or_true, true_or, or_false, false_or, false_and, and_false, not_true_eq_false, not_false_eq_true, implies_true, true_implies, false_implies, n2.1]
  refine ⟨hc, r32 (by omega) (by omega), in_e hc.l (l64 (by decide) (by decide)) (l64 (by omega) (by omega)) (fun q => ⟨hw, in_n hw.l (l64 (by decide) (by decide)) (l64 (by decide) (by decide)) (fun q2 => ?_) (fun q2 => no (by omega))⟩) (fun q => no (by omega))⟩
  have ee : q_odds σ.1 tm c w = if tot σ.1 tm = 0 then w else (if w = 0 then shn σ.1 tm c else tot σ.1 tm) / ggd (tot σ.1 tm) (shn σ.1 tm c) := if_neg (by omega)
  have hsb : 0 ≤ shn σ.1 tm c ∧ shn σ.1 tm c ≤ tot σ.1 tm := by
    unfold shn
    split
    · exact ⟨hnt.1, hnl⟩
    · exact ⟨(sh_bd hV.1 hm (c := c) (by omega) (by omega)).1, ht.2.2 c (by omega) (by omega)⟩
  have main : ∀ l6, Run C_RM_odds (QmL (q_odds σ.1 tm c w, σ) M) 46 [vR 141, vI c, vI w, vL (nt σ.1 tm + sumI (sh σ.1 tm) 0), vN, vI 0, l6] [] M2 := by
    refine up_loop (lo := 0) (hi := nC σ.1) (P := fun k => ∀ l6, Run C_RM_odds (QmL (q_odds σ.1 tm c w, σ) M) 46 [vR 141, vI c, vI w, vL (nt σ.1 tm + sumI (sh σ.1 tm) k), vN, vI k, l6] [] M2) (fun k k0 k1 ih l6 => ?_) hn.1
    rw [r_RM_odds_46]
    simp only [r_RM_odds_48, r_RM_odds_49, r_RM_odds_52, r_RM_odds_55, r_RM_odds_56, r_RM_odds_57, r_RM_odds_59, r_RM_odds_62, r_RM_odds_63, r_RM_odds_64, r_RM_odds_67, true_and, and_true, or_true, true_or, or_false, false_or, false_and, and_false, not_true_eq_false, not_false_eq_true, implies_true, true_implies, false_implies, n2.1]
    refine ⟨r32 (by omega) (by omega), r32 (by omega) (by omega), fun q3 => ?_, fun q3 => ?_⟩
    · rw [show nt σ.1 tm + sumI (sh σ.1 tm) k = tot σ.1 tm by rw [show k = nC σ.1 by omega]; rfl]
      simp only [r_RM_odds_70, r_RM_odds_71, r_RM_odds_72, r_RM_odds_73, r_RM_odds_76, r_RM_odds_77, r_RM_odds_78, r_RM_odds_79, r_RM_odds_80, r_RM_odds_81, true_and, and_true, or_true, true_or, or_false, false_or, false_and, and_false, not_true_eq_false, not_false_eq_true, implies_true, true_implies, false_implies]
      refine ⟨r64 (by omega) (by omega), r64 (by decide) (by decide), c3_r, fun q4 => ?_, fun q4 => ⟨hw, QmL.q h2 kk (by rw [ee, if_pos (c3_z.1 (Classical.not_not.1 q4))])⟩⟩
      have ht0 : ¬ tot σ.1 tm = 0 := fun z => q4 (c3_z.2 z)
      rw [if_neg ht0] at ee
      have hg := ggd_pos (a := tot σ.1 tm) (b := shn σ.1 tm c) (by omega)
      have hgle : ggd (tot σ.1 tm) (shn σ.1 tm c) ≤ tot σ.1 tm := by
        have := Nat.gcd_le_left (shn σ.1 tm c).toNat (show 0 < (tot σ.1 tm).toNat by omega)
        unfold ggd
        omega
      refine Cal.L (weighed_s hV.1 hm h2.1 n2 l2 T2 (by omega) (by omega)) ?_
      simp only [r_RM_odds_84, r_RM_odds_86, r_RM_odds_87, r_RM_odds_90, r_RM_odds_92, r_RM_odds_95, r_RM_odds_96, r_RM_odds_98, r_RM_odds_99, r_RM_odds_102, r_RM_odds_103, true_and, and_true, or_true, true_or, or_false, false_or, false_and, and_false, not_true_eq_false, not_false_eq_true, implies_true, true_implies, false_implies]
      have cm := fun M' => common_s M' (a := shn σ.1 tm c) (b := tot σ.1 tm) hsb.1 (by omega) ht.1 ht.2.1
      rw [ggd_comm] at cm
      refine ⟨hw, fun q5 => Cal.L (cm M2) ⟨⟨by omega, by omega, by omega, by omega⟩, QmL.q h2 kk (by rw [ee, if_neg q5])⟩, fun q5 => Cal.L (cm M2) ⟨⟨by omega, by omega, by omega, by omega⟩, QmL.q h2 kk (by rw [ee, if_pos (by omega)])⟩⟩
    · refine Cal.L (weighed_s hV.1 hm h2.1 n2 l2 T2 (by omega) (by omega)) ?_
      have hih := ih (by omega) l6
      rw [sumI_s _ k0, ← Int.add_assoc] at hih
      rw [show shn σ.1 tm k = sh σ.1 tm k from if_neg (by omega)]
      exact hih
  rw [r_RM_odds_46]
  simp only [r_RM_odds_48, r_RM_odds_49, r_RM_odds_52, r_RM_odds_55, r_RM_odds_56, r_RM_odds_57, r_RM_odds_59, r_RM_odds_62, r_RM_odds_63, r_RM_odds_64, r_RM_odds_67, true_and, and_true, or_true, true_or, or_false, false_or, false_and, and_false, not_true_eq_false, not_false_eq_true, implies_true, true_implies, false_implies, n2.1]
  refine ⟨r32 (by decide) (by decide), r32 (by omega) (by omega), fun q3 => by omega, fun q3 => Cal.L (weighed_s hV.1 hm h2.1 n2 l2 T2 (by decide) (by omega)) ?_⟩
  have e := main vN
  rw [show sumI (sh σ.1 tm) 0 = 0 from rfl, Int.add_zero] at e
  rw [show shn σ.1 tm (-1) = nt σ.1 tm from if_pos rfl, Int.zero_add]
  exact e
