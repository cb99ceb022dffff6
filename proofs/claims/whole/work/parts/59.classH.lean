/-! ask, hold, sure of the class -/
/-- where the least of f is first met -/
def am (f : Int → Int) (z n : Int) : Int := foI (fun k acc => if f k < mn f z k then k else acc) (-1) n
theorem am_s (f : Int → Int) (z : Int) {n : Int} (hn : 0 ≤ n) : am f z (n + 1) = if f n < mn f z n then n else am f z n := by
  unfold am
  rw [foI_s _ _ hn]
theorem am_bd (f : Int → Int) (z : Int) : ∀ n, 0 ≤ n → -1 ≤ am f z n ∧ am f z n < n ∧ (am f z n = -1 → mn f z n = z) := by
  refine int_ind ⟨show (-1 : Int) ≤ -1 by decide, show (-1 : Int) < 0 by decide, fun _ => rfl⟩ (fun n hn ih => ?_)
  rw [am_s f z hn, mn_s f z hn]
  split
  · exact ⟨by omega, by omega, fun q => by omega⟩
  · exact ⟨ih.1, by omega, ih.2.2⟩
/-- how many of the nearest have a sign; the greater part -/
noncomputable def wth (ρ : Rw) (s : Int) : Int := pcI (iand (cw ρ s) (nr ρ (ρ 5)))
noncomputable def gtr (ρ : Rw) (s : Int) : Int := if wth ρ s < pcI (nr ρ (ρ 5)) - wth ρ s then pcI (nr ρ (ρ 5)) - wth ρ s else wth ρ s
noncomputable def akF (ρ : Rw) (s : Int) : Int := if bit (ρ 4) s = true then gtr ρ s else 1000000
theorem gtr_bd (ρ : Rw) (s : Int) : 0 ≤ gtr ρ s ∧ gtr ρ s ≤ 31 := by
  have h1 := pcI_bd (nr ρ (ρ 5))
  have h2 := pcI_bd (iand (cw ρ s) (nr ρ (ρ 5)))
  unfold gtr wth
  split <;> omega
noncomputable def akA (ρ : Rw) : Int := if pcI (nr ρ (ρ 5)) < 2 then -1 else am (akF ρ) 1000000 (nS ρ)
noncomputable def akL (ρ : Rw) : Int := if pcI (nr ρ (ρ 5)) < 2 then 1000000 else mn (akF ρ) 1000000 (nS ρ)
theorem bestQuestion_s {ρ : Rw} {M : Mem} (h : DX ρ M) : Cal Y_De_bestQuestion [vR 117] M (fun r M' => r = some (vI (akA ρ)) ∧ M'.1 117 2 = akL ρ ∧ Kp (fun c => c = 117) M M') := by
  have hV := h.1
  have hs := nS_bd hV
  have hse := se_bd hV
  have hbk := bk_bd hV
  have hn := nr_bd hV (ρ 5)
  have hpn := pcI_bd (nr ρ (ρ 5))
  refine Cal.mk (y := Y_De_bestQuestion) (loc := [vR 117, vN, vN, vN, vN, vN, vN]) G_De_bestQuestion rfl (by decide) rfl rfl (Nat.le_of_ble_eq_true rfl) ?_
  simp only [r_De_bestQuestion_0, r_De_bestQuestion_1, r_De_bestQuestion_2, r_De_bestQuestion_5, r_De_bestQuestion_8, true_and, and_true, or_true, true_or, or_false, false_or, false_and, and_false, not_true_eq_false, not_false_eq_true, implies_true, true_implies, false_implies, h.2.2.2.2.1]
  refine (nearestTo_s h hse.1 hse.2).mono ?_
  rintro _ M1 ⟨rfl, e1, k1⟩
  refine ⟨_, rfl, ?_⟩
  simp only [r_De_bestQuestion_11, r_De_bestQuestion_12, r_De_bestQuestion_13, true_and, and_true, or_true, true_or, or_false, false_or, false_and, and_false, not_true_eq_false, not_false_eq_true, implies_true, true_implies, false_implies]
  refine Cal.I (bitCount_s M1 hn.1 (by omega)) ?_
  simp only [r_De_bestQuestion_16, r_De_bestQuestion_17, r_De_bestQuestion_18, r_De_bestQuestion_19, r_De_bestQuestion_20, r_De_bestQuestion_22, r_De_bestQuestion_25, r_De_bestQuestion_26, true_and, and_true, or_true, true_or, or_false, false_or, false_and, and_false, not_true_eq_false, not_false_eq_true, implies_true, true_implies, false_implies]
  have main : ∀ M2 l5 l6, Kp (fun c => c = 117) M M2 → M2.1 117 2 = (if pcI (nr ρ (ρ 5)) < 2 then 1000000 else mn (akF ρ) 1000000 0) → Run C_De_bestQuestion (fun r M' => r = some (vI (akA ρ)) ∧ M'.1 117 2 = akL ρ ∧ Kp (fun c => c = 117) M M') 28 [vR 117, vI (nr ρ (ρ 5)), vI (pcI (nr ρ (ρ 5))), vI (if pcI (nr ρ (ρ 5)) < 2 then -1 else am (akF ρ) 1000000 0), vI 0, l5, l6] [] M2 := by
    refine up_loop (lo := 0) (hi := nS ρ) (P := fun s => ∀ M2 l5 l6, Kp (fun c => c = 117) M M2 → M2.1 117 2 = (if pcI (nr ρ (ρ 5)) < 2 then 1000000 else mn (akF ρ) 1000000 s) → Run C_De_bestQuestion (fun r M' => r = some (vI (akA ρ)) ∧ M'.1 117 2 = akL ρ ∧ Kp (fun c => c = 117) M M') 28 [vR 117, vI (nr ρ (ρ 5)), vI (pcI (nr ρ (ρ 5))), vI (if pcI (nr ρ (ρ 5)) < 2 then -1 else am (akF ρ) 1000000 s), vI s, l5, l6] [] M2) (fun s s0 s1 ih M2 l5 l6 k2 e2 => ?_) hs.1
    have D2 := h.kp k2 (by decide) (by decide) (by decide) (by decide) (by decide)
    rw [r_De_bestQuestion_28]
    simp only [r_De_bestQuestion_30, r_De_bestQuestion_31, r_De_bestQuestion_34, r_De_bestQuestion_37, r_De_bestQuestion_40, r_De_bestQuestion_43, r_De_bestQuestion_44, r_De_bestQuestion_45, r_De_bestQuestion_48, r_De_bestQuestion_49, r_De_bestQuestion_52, r_De_bestQuestion_54, r_De_bestQuestion_57, r_De_bestQuestion_58, r_De_bestQuestion_59, true_and, and_true, or_true, true_or, or_false, false_or, false_and, and_false, not_true_eq_false, not_false_eq_true, implies_true, true_implies, false_implies, D2.2.2.1]
    have fin : s = nS ρ ∨ pcI (nr ρ (ρ 5)) < 2 → Run C_De_bestQuestion (fun r M' => r = some (vI (akA ρ)) ∧ M'.1 117 2 = akL ρ ∧ Kp (fun c => c = 117) M M') 114 [vR 117, vI (nr ρ (ρ 5)), vI (pcI (nr ρ (ρ 5))), vI (if pcI (nr ρ (ρ 5)) < 2 then -1 else am (akF ρ) 1000000 s), vI s, l5, l6] [] M2 := by
      intro z
      simp only [r_De_bestQuestion_114, r_De_bestQuestion_115, true_and, and_true, or_true, true_or, or_false, false_or, false_and, and_false, not_true_eq_false, not_false_eq_true, implies_true, true_implies, false_implies]
      unfold akA akL
      by_cases y : pcI (nr ρ (ρ 5)) < 2
      · rw [if_pos y] at e2 ⊢
        rw [if_pos y, if_pos y]
        exact ⟨rfl, e2, k2⟩
      · rw [if_neg y] at e2 ⊢
        rw [if_neg y, if_neg y, ← z.resolve_right y]
        exact ⟨rfl, e2, k2⟩
    refine ⟨r32 (by omega) (by omega), r32 (by omega) (by omega), fun q => fin (Or.inl (by omega)), fun q => ⟨r32 (by omega) (by omega), r32 (by decide) (by decide), fun q2 => fin (Or.inr q2), fun q2 => ?_⟩⟩
    have hc := cw_bd hV s
    have ha := iand_bd hc.1 (by omega) hn.1
    have hp2 := pcI_bd (iand (cw ρ s) (nr ρ (ρ 5)))
    refine Cal.I (causesWith_s D2 s0 (by omega)) (Cal.I (bitCount_s M2 ha.1 (by omega)) ?_)
    simp only [r_De_bestQuestion_62, r_De_bestQuestion_64, r_De_bestQuestion_66, r_De_bestQuestion_67, r_De_bestQuestion_69, r_De_bestQuestion_70, r_De_bestQuestion_73, r_De_bestQuestion_75, r_De_bestQuestion_76, r_De_bestQuestion_79, r_De_bestQuestion_82, r_De_bestQuestion_84, true_and, and_true, or_true, true_or, or_false, false_or, false_and, and_false, not_true_eq_false, not_false_eq_true, implies_true, true_implies, false_implies, D2.2.2.2.1]
    refine ⟨r32 (by omega) (by omega), r32 (by omega) (by omega), ?_⟩
    have hg := gtr_bd ρ s
    have eg : (if pcI (iand (cw ρ s) (nr ρ (ρ 5))) < pcI (nr ρ (ρ 5)) - pcI (iand (cw ρ s) (nr ρ (ρ 5))) then pcI (nr ρ (ρ 5)) - pcI (iand (cw ρ s) (nr ρ (ρ 5))) else pcI (iand (cw ρ s) (nr ρ (ρ 5)))) = gtr ρ s := rfl
    rw [eg]
    rw [if_neg q2] at e2
    have hm := mn_nn (f := akF ρ) (z := 1000000) s0 (by decide) (fun k _ _ => by
      have := gtr_bd ρ k
      unfold akF; split <;> omega)
    have hih := fun M3 a b => ih (by omega) M3 (vI (pcI (iand (cw ρ s) (nr ρ (ρ 5))))) (vI (gtr ρ s)) a b
    simp only [if_neg q2, am_s _ _ s0, mn_s _ _ s0] at hih
    simp only [r_De_bestQuestion_87, r_De_bestQuestion_90, r_De_bestQuestion_92, r_De_bestQuestion_93, r_De_bestQuestion_96, r_De_bestQuestion_99, r_De_bestQuestion_100, r_De_bestQuestion_102, r_De_bestQuestion_105, r_De_bestQuestion_107, r_De_bestQuestion_108, r_De_bestQuestion_111, true_and, and_true, or_true, true_or, or_false, false_or, false_and, and_false, not_true_eq_false, not_false_eq_true, implies_true, true_implies, false_implies]
    rw [if_neg q2]
    refine has_if hbk.1 (by omega) s0 (by omega) (fun q3 => ?_) (fun q3 => ?_)
    · have ea : akF ρ s = gtr ρ s := if_pos q3
      rw [ea] at hih
      rw [e2]
      refine ⟨r32 (by omega) (by omega), r32 (by omega) (by omega), fun q4 => ?_, fun q4 => ?_⟩
      · rw [if_neg (show ¬ gtr ρ s < mn (akF ρ) 1000000 s by omega), if_neg (show ¬ gtr ρ s < mn (akF ρ) 1000000 s by omega)] at hih
        exact hih M2 k2 e2
      · rw [if_pos (show gtr ρ s < mn (akF ρ) 1000000 s by omega), if_pos (show gtr ρ s < mn (akF ρ) 1000000 s by omega)] at hih
        exact hih _ (Kp.w k2 rfl) (wI_same _ _ _ _)
    · have ea : akF ρ s = 1000000 := if_neg q3
      rw [ea, if_neg (show ¬ 1000000 < mn (akF ρ) 1000000 s by omega), if_neg (show ¬ 1000000 < mn (akF ρ) 1000000 s by omega)] at hih
      exact hih M2 k2 e2
  have z := main (wI M1 117 2 1000000) vN vN (Kp.w k1 rfl) (by rw [wI_same]; split <;> rfl)
  by_cases y : pcI (nr ρ (ρ 5)) < 2
  · rw [if_pos y] at z; exact z
  · rw [if_neg y] at z; exact z
noncomputable def q_ask (ρ : Rw) (w : Int) : Int := if w < 0 ∨ 2 ≤ w then -1 else if w = 0 ∨ akA ρ = -1 then akA ρ else akL ρ
theorem X_ask {σ : St} {M : Mem} (h : XI σ M) (hV : VS σ) {w : Int} (hw : R32 w) : Cal Y_CB_ask [vR 0, vI w] M (Qx (q_ask σ.1 w, σ) M) := by
  refine Cal.mk (y := Y_CB_ask) (loc := [vR 0, vI w, vN]) G_CB_ask rfl (by decide) rfl rfl (Nat.le_of_ble_eq_true rfl) ?_
  simp only [r_CB_ask_0, r_CB_ask_1, r_CB_ask_2, r_CB_ask_5, r_CB_ask_8, r_CB_ask_9, r_CB_ask_10, r_CB_ask_11, r_CB_ask_14, true_and, and_true, or_true, true_or, or_false, false_or, false_and, and_false, not_true_eq_false, not_false_eq_true, implies_true, true_implies, false_implies]
  refine out_eq hw R2 (fun q2 => Qx.q h Kp.rf (by unfold q_ask; rw [if_pos q2])) (fun q2 => ?_)
  have ee : q_ask σ.1 w = if w = 0 ∨ akA σ.1 = -1 then akA σ.1 else akL σ.1 := if_neg (by omega)
  have hb : -1 ≤ akA σ.1 ∧ akA σ.1 ≤ 12 := by
    have := am_bd (akF σ.1) 1000000 (nS σ.1) (nS_bd hV.1).1
    have := nS_bd hV.1
    unfold akA
    split <;> omega
  refine (X_renew hV h).mono ?_
  rintro _ M1 ⟨rfl, h1, k1⟩
  have D := h1.dx hV
  simp only [r_CB_ask_17, r_CB_ask_18, r_CB_ask_21, true_and, and_true, or_true, true_or, or_false, false_or, false_and, and_false, not_true_eq_false, not_false_eq_true, implies_true, true_implies, false_implies]
  refine (bestQuestion_s D).mono ?_
  rintro _ M2 ⟨rfl, e2, k2⟩
  have h2 := h1.kp k2 (fun c a => by omega) (fun c a b => by omega) (fun c a b => by omega)
  have kk := (k1.x (fun c z => by omega)).trans (k2.x (fun c z => by omega))
  refine ⟨_, rfl, ?_⟩
  simp only [r_CB_ask_24, r_CB_ask_25, r_CB_ask_26, r_CB_ask_29, r_CB_ask_30, r_CB_ask_31, r_CB_ask_34, r_CB_ask_35, r_CB_ask_38, r_CB_ask_39, r_CB_ask_42, r_CB_ask_45, true_and, and_true, or_true, true_or, or_false, false_or, false_and, and_false, not_true_eq_false, not_false_eq_true, implies_true, true_implies, false_implies, e2]
  refine ⟨hw, fun q3 => Qx.q h2.1 kk (by rw [ee, if_pos (Or.inl q3)]), fun q3 => ⟨r32 (by omega) (by omega), r32 (by decide) (by decide), fun q4 => Qx.q h2.1 kk (by rw [ee, if_neg (by omega)]), fun q4 => Qx.q h2.1 kk (by rw [ee, if_pos (by omega)])⟩⟩
theorem sub_le {a b : Int} (a0 : 0 ≤ a) (a1 : a < 2147483648) (b0 : 0 ≤ b) (h : iand a (ixor b (-1)) = 0) : a ≤ b := by
  obtain ⟨x, rfl⟩ := Int.eq_ofNat_of_zero_le a0
  obtain ⟨y, rfl⟩ := Int.eq_ofNat_of_zero_le b0
  rw [iandnN y (by omega)] at h
  have h2 : andn x y = 0 := by omega
  have : x ≤ y := by
    apply Nat.le_of_testBit
    intro i hi
    have := andn_bit x y i
    rw [h2, Nat.zero_testBit, hi, Bool.true_and] at this
    cases hy : y.testBit i with
    | true => rfl
    | false => rw [hy] at this; exact Bool.noConfusion this
  omega
noncomputable def hdS (ρ : Rw) (k acc : Int) : Int := if 1 ≤ k ∧ iand k (ixor (ρ 4) (-1)) = 0 ∧ (acc = 0 ∨ pcI k < pcI acc) ∧ ¬ iand (nr ρ (ixor (ρ 5) k)) (ixor (nr ρ (ρ 5)) (-1)) = 0 then k else acc
noncomputable def hld (ρ : Rw) : Int := foI (hdS ρ) 0 (p2 (nS ρ))
theorem hd_bd (ρ : Rw) : ∀ n, 0 ≤ n → 0 ≤ foI (hdS ρ) 0 n ∧ (foI (hdS ρ) 0 n = 0 ∨ foI (hdS ρ) 0 n < n) := by
  refine int_ind ⟨Int.le_refl _, Or.inl rfl⟩ (fun n hn ih => ?_)
  rw [foI_s _ _ hn]
  unfold hdS at ih ⊢
  split <;> omega
theorem hd_oth {ρ : Rw} (hV : VR ρ) (x : Int) : iand (nr ρ x) (iand (p2 (nC ρ) - 1) (ixor (nr ρ (ρ 5)) (-1))) = iand (nr ρ x) (ixor (nr ρ (ρ 5)) (-1)) := by
  have hc := nC_bd hV
  have h1 := nr_bd hV x
  have h2 := nr_bd hV (ρ 5)
  have h3 := p2_12 hc.2
  have h4 := p2_pos (nC ρ)
  have h5 := iandn_bd (a := p2 (nC ρ) - 1) (b := nr ρ (ρ 5)) (by omega) (by omega) h2.1
  have h6 := iand_bd (a := nr ρ x) h1.1 (by omega) h5.1
  have h7 := iandn_bd (a := nr ρ x) (b := nr ρ (ρ 5)) h1.1 (by omega) h2.1
  apply bit_ext h6.1 h7.1
  intro i hi
  rw [bit_iand h1.1 (by omega) h5.1, bit_iandn (by omega) (by omega) h2.1, bit_iandn h1.1 (by omega) h2.1, bit_ones hc.1 hi]
  by_cases z : i < nC ρ
  · rw [decide_eq_true z, Bool.true_and]
  · rw [bit_hi h1.1 h1.2.1 (by omega), Bool.false_and, Bool.false_and]
theorem pcI_12 {v : Int} (h0 : 0 ≤ v) (h1 : v < 4096) : pcI v ≤ 12 := by
  rw [pcI_n (n := 12) h0 (by decide) (by decide) (by exact h1)]
  exact (cntI_bd _ (by decide)).2
theorem iand_0 (a : Int) : iand a 0 = 0 := by
  unfold iand
  have : Int32.ofInt a &&& Int32.ofInt 0 = 0 := by
    apply Int32.toBitVec_inj.1
    show BitVec.ofInt 32 a &&& 0#32 = 0#32
    exact BitVec.and_zero
  rw [this]; rfl
theorem fewestThatTurn_s {ρ : Rw} {M : Mem} (h : DX ρ M) : Cal Y_De_fewestThatTurn [vR 117] M (fun r M' => r = some (vI (hld ρ)) ∧ Kp (fun c => c = 117) M M') := by
  have hV := h.1
  have hc := nC_bd hV
  have hs := nS_bd hV
  have hse := se_bd hV
  have hbk := bk_bd hV
  have hbp := hV.2.2.2.2.2.2.2.2.2.2.2.2.1
  have hn := nr_bd hV (ρ 5)
  have h3 := p2_12 hc.2
  have h4 := p2_pos (nC ρ)
  have ho := iandn_bd (a := p2 (nC ρ) - 1) (b := nr ρ (ρ 5)) (by omega) (by omega) hn.1
  refine Cal.mk (y := Y_De_fewestThatTurn) (loc := [vR 117, vN, vN, vN, vN]) G_De_fewestThatTurn rfl (by decide) rfl rfl (Nat.le_of_ble_eq_true rfl) ?_
  simp only [r_De_fewestThatTurn_0, r_De_fewestThatTurn_1, r_De_fewestThatTurn_2, r_De_fewestThatTurn_5, r_De_fewestThatTurn_8, r_De_fewestThatTurn_11, r_De_fewestThatTurn_12, r_De_fewestThatTurn_13, r_De_fewestThatTurn_14, r_De_fewestThatTurn_15, r_De_fewestThatTurn_16, r_De_fewestThatTurn_19, r_De_fewestThatTurn_22, true_and, and_true, or_true, true_or, or_false, false_or, false_and, and_false, not_true_eq_false, not_false_eq_true, implies_true, true_implies, false_implies, h.2.1, h.2.2.2.2.1, p2_def]
  refine ⟨⟨hc.1, by omega⟩, (nearestTo_s h hse.1 hse.2).mono ?_⟩
  rintro _ M1 ⟨rfl, e1, k1⟩
  refine ⟨_, rfl, ?_⟩
  simp only [r_De_fewestThatTurn_25, r_De_fewestThatTurn_26, r_De_fewestThatTurn_27, r_De_fewestThatTurn_28, r_De_fewestThatTurn_29, r_De_fewestThatTurn_30, r_De_fewestThatTurn_33, r_De_fewestThatTurn_34, r_De_fewestThatTurn_35, r_De_fewestThatTurn_36, r_De_fewestThatTurn_37, r_De_fewestThatTurn_39, r_De_fewestThatTurn_40, r_De_fewestThatTurn_41, true_and, and_true, or_true, true_or, or_false, false_or, false_and, and_false, not_true_eq_false, not_false_eq_true, implies_true, true_implies, false_implies]
  refine ⟨r32 (by omega) (by omega), fun q => ?_, fun q => ⟨?_, k1⟩⟩
  · refine up_loop (lo := 1) (hi := ρ 4 + 1) (P := fun k => ∀ M2, Kp (fun c => c = 117) M M2 → Run C_De_fewestThatTurn (fun r M' => r = some (vI (hld ρ)) ∧ Kp (fun c => c = 117) M M') 43 [vR 117, vI (iand (p2 (nC ρ) - 1) (ixor (nr ρ (ρ 5)) (-1))), vI (foI (hdS ρ) 0 k), vI (if foI (hdS ρ) 0 k = 0 then 13 else pcI (foI (hdS ρ) 0 k)), vI k] [] M2) (fun k k0 k1' ih M2 k2 => ?_) (by omega) M1 k1
    have D2 := h.kp k2 (by decide) (by decide) (by decide) (by decide) (by decide)
    have hf := hd_bd ρ k (by omega)
    rw [r_De_fewestThatTurn_43]
    simp only [r_De_fewestThatTurn_45, r_De_fewestThatTurn_46, r_De_fewestThatTurn_49, r_De_fewestThatTurn_52, r_De_fewestThatTurn_55, r_De_fewestThatTurn_57, r_De_fewestThatTurn_58, r_De_fewestThatTurn_61, r_De_fewestThatTurn_64, r_De_fewestThatTurn_65, r_De_fewestThatTurn_66, r_De_fewestThatTurn_67, r_De_fewestThatTurn_70, r_De_fewestThatTurn_72, r_De_fewestThatTurn_75, r_De_fewestThatTurn_76, r_De_fewestThatTurn_79, r_De_fewestThatTurn_80, r_De_fewestThatTurn_81, r_De_fewestThatTurn_84, r_De_fewestThatTurn_87, r_De_fewestThatTurn_89, r_De_fewestThatTurn_90, r_De_fewestThatTurn_93, r_De_fewestThatTurn_94, r_De_fewestThatTurn_95, r_De_fewestThatTurn_98, r_De_fewestThatTurn_100, r_De_fewestThatTurn_101, r_De_fewestThatTurn_103, r_De_fewestThatTurn_106, r_De_fewestThatTurn_107, r_De_fewestThatTurn_110, true_and, and_true, or_true, true_or, or_false, false_or, false_and, and_false, not_true_eq_false, not_false_eq_true, implies_true, true_implies, false_implies, D2.2.2.2.1, D2.2.2.2.2.1]
    refine ⟨r32 (by omega) (by omega), r32 (by omega) (by omega), fun q1 => ?_, fun q1 => ?_⟩
    · simp only [r_De_fewestThatTurn_113, r_De_fewestThatTurn_114, true_and, and_true, or_true, true_or, or_false, false_or, false_and, and_false, not_true_eq_false, not_false_eq_true, implies_true, true_implies, false_implies]
      refine ⟨?_, k2⟩
      unfold hld
      rw [show k = ρ 4 + 1 by omega, ← foI_stop (f := hdS ρ) (z := 0) (m := ρ 4 + 1) (by omega) (p2 (nS ρ)) (by omega) (fun j a b c => ?_)]
      unfold hdS
      rw [if_neg]
      rintro ⟨-, y, -⟩
      have := p2_12 hs.2
      have := sub_le (a := j) (b := ρ 4) (by omega) (by omega) hbk.1 y
      omega
    · have ha := iandn_bd (a := k) (b := ρ 4) (by omega) (by omega) hbk.1
      have hx := x12 hse.1 hse.2 (show 0 ≤ k by omega) (by omega)
      have hnx := nr_bd hV (ixor (ρ 5) k)
      have hni := iand_bd (a := nr ρ (ixor (ρ 5) k)) hnx.1 (by omega) ho.1
      have hpk := pcI_12 (v := k) (by omega) (by omega)
      have hpb := pcI_bd k
      have hpf := pcI_bd (foI (hdS ρ) 0 k)
      have hih := fun M3 a => ih (by omega) M3 a
      rw [foI_s _ _ (by omega)] at hih
      have skip : ¬ (1 ≤ k ∧ iand k (ixor (ρ 4) (-1)) = 0 ∧ (foI (hdS ρ) 0 k = 0 ∨ pcI k < pcI (foI (hdS ρ) 0 k)) ∧ ¬ iand (nr ρ (ixor (ρ 5) k)) (ixor (nr ρ (ρ 5)) (-1)) = 0) → ∀ M3, Kp (fun c => c = 117) M M3 → Run C_De_fewestThatTurn (fun r M' => r = some (vI (hld ρ)) ∧ Kp (fun c => c = 117) M M') 43 [vR 117, vI (iand (p2 (nC ρ) - 1) (ixor (nr ρ (ρ 5)) (-1))), vI (foI (hdS ρ) 0 k), vI (if foI (hdS ρ) 0 k = 0 then 13 else pcI (foI (hdS ρ) 0 k)), vI (k + 1)] [] M3 := fun y M3 a => by
        have e : hdS ρ k (foI (hdS ρ) 0 k) = foI (hdS ρ) 0 k := if_neg y
        rw [e] at hih
        exact hih M3 a
      refine ⟨r32 (by omega) (by omega), fun q2 => skip (fun y => q2 y.2.1) M2 k2, fun q2 => ?_⟩
      have q2' : iand k (ixor (ρ 4) (-1)) = 0 := Classical.not_not.1 q2
      refine Cal.I (bitCount_s M2 (by omega) (by omega)) ⟨r32 (by omega) (by omega), by split <;> exact r32 (by omega) (by omega), fun q3 => skip (fun y => ?_) M2 k2, fun q3 => ?_⟩
      · rcases y.2.2.1 with z | z
        · rw [if_pos z] at q3; omega
        · by_cases z2 : foI (hdS ρ) 0 k = 0
          · rw [if_pos z2] at q3; omega
          · rw [if_neg z2] at q3; omega
      · have q3' : foI (hdS ρ) 0 k = 0 ∨ pcI k < pcI (foI (hdS ρ) 0 k) := by
          by_cases z2 : foI (hdS ρ) 0 k = 0
          · exact Or.inl z2
          · rw [if_neg z2] at q3; exact Or.inr (by omega)
        rw [D2.2.2.2.2.1]
        refine (nearestTo_s D2 hx.1 hx.2).mono ?_
        rintro _ M3 ⟨rfl, e3, k3⟩
        have kk3 := k2.trans k3
        refine ⟨_, rfl, r32 (by omega) (by omega), fun q4 => skip (fun y => ?_) M3 kk3, fun q4 => ?_⟩
        · rw [hd_oth hV] at q4; exact y.2.2.2 q4
        · rw [hd_oth hV] at q4
          have e : hdS ρ k (foI (hdS ρ) 0 k) = k := if_pos ⟨k0, q2', q3', q4⟩
          rw [e, if_neg (show ¬ k = 0 by omega)] at hih
          exact Cal.I (bitCount_s M3 (by omega) (by omega)) (hih M3 kk3)
  · have q' : iand (p2 (nC ρ) - 1) (ixor (nr ρ (ρ 5)) (-1)) = 0 := Classical.not_not.1 q
    have hz : ∀ n, 0 ≤ n → foI (hdS ρ) 0 n = 0 := by
      refine int_ind rfl (fun n hn ih => ?_)
      rw [foI_s _ _ hn, ih]
      unfold hdS
      rw [if_neg]
      rintro ⟨-, -, -, y⟩
      rw [← hd_oth hV, q', iand_0] at y
      exact y rfl
    unfold hld
    rw [hz _ (by have := p2_pos (nS ρ); omega)]
noncomputable def q_hold (ρ : Rw) (w : Int) : Int := if (w < 0 ∨ 2 ≤ w) ∨ hld ρ = 0 then -1 else if w = 0 then pcI (hld ρ) else hld ρ
theorem hld_bd {ρ : Rw} (hV : VR ρ) : 0 ≤ hld ρ ∧ hld ρ < 4096 := by
  have h1 := hd_bd ρ (p2 (nS ρ)) (by have := p2_pos (nS ρ); omega)
  have := p2_12 (nS_bd hV).2
  unfold hld
  omega
theorem X_hold {σ : St} {M : Mem} (h : XI σ M) (hV : VS σ) {w : Int} (hw : R32 w) : Cal Y_CB_hold [vR 0, vI w] M (Qx (q_hold σ.1 w, σ) M) := by
  have hb := hld_bd hV.1
  refine Cal.mk (y := Y_CB_hold) (loc := [vR 0, vI w, vN]) G_CB_hold rfl (by decide) rfl rfl (Nat.le_of_ble_eq_true rfl) ?_
  simp only [r_CB_hold_0, r_CB_hold_1, r_CB_hold_2, r_CB_hold_5, r_CB_hold_8, r_CB_hold_9, r_CB_hold_10, r_CB_hold_11, r_CB_hold_14, true_and, and_true, or_true, true_or, or_false, false_or, false_and, and_false, not_true_eq_false, not_false_eq_true, implies_true, true_implies, false_implies]
  refine out_eq hw R2 (fun q2 => Qx.q h Kp.rf (by unfold q_hold; rw [if_pos (Or.inl q2)])) (fun q2 => ?_)
  refine (X_renew hV h).mono ?_
  rintro _ M1 ⟨rfl, h1, k1⟩
  simp only [r_CB_hold_17, r_CB_hold_18, r_CB_hold_21, true_and, and_true, or_true, true_or, or_false, false_or, false_and, and_false, not_true_eq_false, not_false_eq_true, implies_true, true_implies, false_implies]
  refine (fewestThatTurn_s (h1.dx hV)).mono ?_
  rintro _ M2 ⟨rfl, k2⟩
  have h2 := h1.kp k2 (fun c a => by omega) (fun c a b => by omega) (fun c a b => by omega)
  have kk := (k1.x (fun c z => by omega)).trans (k2.x (fun c z => by omega))
  refine ⟨_, rfl, ?_⟩
  simp only [r_CB_hold_24, r_CB_hold_25, r_CB_hold_26, r_CB_hold_29, r_CB_hold_30, r_CB_hold_31, r_CB_hold_32, r_CB_hold_35, r_CB_hold_36, r_CB_hold_39, r_CB_hold_42, r_CB_hold_43, true_and, and_true, or_true, true_or, or_false, false_or, false_and, and_false, not_true_eq_false, not_false_eq_true, implies_true, true_implies, false_implies]
  refine ⟨r32 (by omega) (by omega), fun q3 => ?_, fun q3 => Qx.q h2.1 kk (by unfold q_hold; rw [if_pos (Or.inr (by omega))])⟩
  have ee : q_hold σ.1 w = if w = 0 then pcI (hld σ.1) else hld σ.1 := if_neg (by omega)
  refine ⟨hw, fun q4 => Qx.q h2.1 kk (by rw [ee, if_neg q4]), fun q4 => ?_⟩
  exact Cal.I (bitCount_s M2 hb.1 (by omega)) (Qx.q h2.1 kk (by rw [ee, if_pos (by omega)]))
/-- since when the nearest of what has come are just the cause's group -/
noncomputable def suF (ρ : Rw) (c t : Int) : Int := if nr ρ (sby ρ c t) = lke ρ (gC ρ c) then t else 1000000
noncomputable def sur (ρ : Rw) (c : Int) : Int := mn (suF ρ c) 1000000 721
theorem sby_eq {ρ : Rw} {c a t : Int} (hn : 0 ≤ nS ρ) (h1 : a ≤ t) (h2 : t < nxt ρ c a) : sby ρ c t = sby ρ c a := by
  unfold sby
  refine bsI_cong (fun s s0 s1 => ?_)
  have hm := (mn_sp (nxF ρ c a) 1000000 (nS ρ) hn).2.1 s s0 s1
  congr 1
  refine propext ⟨fun z => ?_, fun z => by omega⟩
  rcases Int.lt_or_le a (sT ρ c s) with q | q
  · have e : nxF ρ c a s = sT ρ c s := if_pos q
    rw [e] at hm
    unfold nxt at h2
    omega
  · exact q
theorem sureFrom_s {ρ : Rw} {M : Mem} (h : DX ρ M) {c : Int} (c0 : 0 ≤ c) (c1 : c < nC ρ) : Cal Y_De_sureFrom [vR 117, vI c] M (fun r M' => r = some (vI (sur ρ c)) ∧ Kp (fun c => c = 117) M M') := by
  have hV := h.1
  have hc := nC_bd hV
  have hs := nS_bd hV
  have hb := gC_bd hV c
  have hl := lke_bd hV (gC ρ c)
  refine Cal.mk (y := Y_De_sureFrom) (loc := [vR 117, vI c, vN, vN, vN]) G_De_sureFrom rfl (by decide) rfl rfl (Nat.le_of_ble_eq_true rfl) ?_
  simp only [r_De_sureFrom_0, r_De_sureFrom_1, r_De_sureFrom_2, r_De_sureFrom_5, r_De_sureFrom_8, r_De_sureFrom_9, r_De_sureFrom_10, true_and, and_true, or_true, true_or, or_false, false_or, false_and, and_false, not_true_eq_false, not_false_eq_true, implies_true, true_implies, false_implies]
  refine ⟨c0, by omega, ?_⟩
  rw [h.2.2.2.2.2.1 c c0 c1]
  refine Cal.I (causesLike_s h hb.1 hb.2.2) ?_
  simp only [r_De_sureFrom_13, r_De_sureFrom_14, r_De_sureFrom_15, r_De_sureFrom_16, r_De_sureFrom_17, true_and, and_true, or_true, true_or, or_false, false_or, false_and, and_false, not_true_eq_false, not_false_eq_true, implies_true, true_implies, false_implies]
  have none_ : (∀ t, 0 ≤ t → t < 1000000 → ¬ nr ρ (sby ρ c t) = lke ρ (gC ρ c)) → sur ρ c = 1000000 := fun z => by
    unfold sur
    refine mn_eq (by decide) (Int.le_refl _) (fun t a b => ?_) (Or.inl rfl)
    unfold suF; rw [if_neg (z t a (by omega))]; exact Int.le_refl _
  refine up_loop (lo := 0) (hi := 13) (P := fun k => ∀ M1 t, Kp (fun c => c = 117) M M1 → 0 ≤ t → (∀ u, 0 ≤ u → u < t → ¬ nr ρ (sby ρ c u) = lke ρ (gC ρ c)) → (t = 1000000 ∨ (t ≤ 711 ∧ k ≤ cntI (fun s => decide (0 < sT ρ c s ∧ sT ρ c s ≤ t)) (nS ρ))) → Run C_De_sureFrom (fun r M' => r = some (vI (sur ρ c)) ∧ Kp (fun c => c = 117) M M') 19 [vR 117, vI c, vI (lke ρ (gC ρ c)), vI t, vI k] [] M1) (fun k k0 kn ih M1 t k1 t0 hno hcn => ?_) (by decide) M 0 Kp.rf (by decide) (fun u a b => by omega) (Or.inr ⟨by decide, (cntI_bd _ hs.1).1⟩)
  have D1 := h.kp k1 (by decide) (by decide) (by decide) (by decide) (by decide)
  have hcb := (cntI_bd (fun s => decide (0 < sT ρ c s ∧ sT ρ c s ≤ t)) hs.1).2
  rw [r_De_sureFrom_19]
  simp only [r_De_sureFrom_21, r_De_sureFrom_23, r_De_sureFrom_26, r_De_sureFrom_27, r_De_sureFrom_29, r_De_sureFrom_32, r_De_sureFrom_33, r_De_sureFrom_34, r_De_sureFrom_37, r_De_sureFrom_38, r_De_sureFrom_39, r_De_sureFrom_42, r_De_sureFrom_45, r_De_sureFrom_46, r_De_sureFrom_49, r_De_sureFrom_50, r_De_sureFrom_51, r_De_sureFrom_52, r_De_sureFrom_55, r_De_sureFrom_56, r_De_sureFrom_57, r_De_sureFrom_60, r_De_sureFrom_61, r_De_sureFrom_64, true_and, and_true, or_true, true_or, or_false, false_or, false_and, and_false, not_true_eq_false, not_false_eq_true, implies_true, true_implies, false_implies]
  have out_ : t = 1000000 → Run C_De_sureFrom (fun r M' => r = some (vI (sur ρ c)) ∧ Kp (fun c => c = 117) M M') 67 [vR 117, vI c, vI (lke ρ (gC ρ c)), vI t, vI k] [] M1 := fun z => by
    simp only [r_De_sureFrom_67, r_De_sureFrom_69, true_and, and_true, or_true, true_or, or_false, false_or, false_and, and_false, not_true_eq_false, not_false_eq_true, implies_true, true_implies, false_implies]
    rw [none_ (fun u a b => hno u a (by omega))]
    exact ⟨rfl, k1⟩
  refine ⟨r32 (by omega) (by omega), r32 (by decide) (by decide), fun q => out_ (by omega), fun q => ⟨r32 (by omega) (by omega), r32 (by decide) (by decide), fun q2 => out_ q2, fun q2 => ?_⟩⟩
  obtain ⟨t1, hk⟩ := hcn.resolve_left q2
  have hsb := sby_bd hV c t
  refine Cal.I (signsBy_s D1 c0 c1 (r32 (by omega) (by omega))) ?_
  refine (nearestTo_s D1 hsb.1 hsb.2).mono ?_
  rintro _ M2 ⟨rfl, e2, k2⟩
  have hn := nr_bd hV (sby ρ c t)
  have D2 := D1.kp k2 (by decide) (by decide) (by decide) (by decide) (by decide)
  refine ⟨_, rfl, r32 (by omega) (by omega), r32 (by omega) (by omega), fun q3 => ?_, fun q3 => ⟨?_, k1.trans k2⟩⟩
  · refine Cal.I (nextSignTime_s D2 c0 c1 (r32 (by omega) (by omega))) ?_
    have hm := mn_sp (nxF ρ c t) 1000000 (nS ρ) hs.1
    have hm' : nxt ρ c t = mn (nxF ρ c t) 1000000 (nS ρ) := rfl
    have hgt : t < nxt ρ c t := by
      rcases hm.2.2 with z | ⟨s, a, b, z⟩
      · omega
      · rw [hm', ← z]; unfold nxF; split <;> omega
    refine ih (by omega) M2 (nxt ρ c t) (k1.trans k2) (by omega) (fun u a b => ?_) ?_
    · rcases Int.lt_or_le u t with z | z
      · exact hno u a z
      · rw [sby_eq hs.1 z b]; exact q3
    · rcases hm.2.2 with z | ⟨s, a, b, z⟩
      · exact Or.inl z
      · by_cases z2 : t < sT ρ c s
        · have e : nxF ρ c t s = sT ρ c s := if_pos z2
          have ht := sT_bd hV (c := c) a b
          by_cases z3 : sT ρ c s = 1000000
          · exact Or.inl (by omega)
          · have hlt := cntI_strict (p := fun s => decide (0 < sT ρ c s ∧ sT ρ c s ≤ t)) (q := fun s => decide (0 < sT ρ c s ∧ sT ρ c s ≤ nxt ρ c t)) (nS ρ) hs.1 (fun i x y w => by
              rw [decide_eq_true_eq] at w ⊢; omega) ⟨s, a, b, by rw [decide_eq_false_iff_not]; omega, by rw [decide_eq_true_eq]; omega⟩
            exact Or.inr ⟨by omega, by omega⟩
        · exact Or.inl (by rw [hm', ← z]; exact if_neg z2)
  · have q4 : nr ρ (sby ρ c t) = lke ρ (gC ρ c) := Classical.not_not.1 q3
    have : sur ρ c = t := by
      unfold sur
      refine mn_eq (by decide) (by omega) (fun u a b => ?_) (Or.inr ⟨t, t0, by omega, if_pos q4⟩)
      unfold suF
      split
      · rename_i z
        rcases Int.lt_or_le u t with z2 | z2
        · exact absurd z (hno u a z2)
        · exact z2
      · omega
    rw [this]
noncomputable def q_sure (ρ : Rw) (c : Int) : Int := if c < 0 ∨ nC ρ ≤ c then -1 else if sur ρ c = 1000000 then -2 else sur ρ c
theorem X_sure {σ : St} {M : Mem} (h : XI σ M) (hV : VS σ) {c : Int} (hc : R32 c) : Cal Y_CB_sure [vR 0, vI c] M (Qx (q_sure σ.1 c, σ) M) := by
  refine Cal.mk (y := Y_CB_sure) (loc := [vR 0, vI c, vN]) G_CB_sure rfl (by decide) rfl rfl (Nat.le_of_ble_eq_true rfl) ?_
  simp only [r_CB_sure_0, r_CB_sure_1, r_CB_sure_2, r_CB_sure_5, r_CB_sure_8, r_CB_sure_9, r_CB_sure_10, r_CB_sure_11, r_CB_sure_14, true_and, and_true, or_true, true_or, or_false, false_or, false_and, and_false, not_true_eq_false, not_false_eq_true, implies_true, true_implies, false_implies]
  refine (noSuchCause_s hV h hc).Be (fun q => Qx.q h Kp.rf (by unfold q_sure; rw [if_pos q])) (fun q => ?_)
  have ee : q_sure σ.1 c = if sur σ.1 c = 1000000 then -2 else sur σ.1 c := if_neg q
  have hb := mn_nn (f := suF σ.1 c) (z := 1000000) (n := 721) (by decide) (by decide) (fun k a b => by unfold suF; split <;> omega)
  have hb' : sur σ.1 c = mn (suF σ.1 c) 1000000 721 := rfl
  refine (X_renew hV h).mono ?_
  rintro _ M1 ⟨rfl, h1, k1⟩
  simp only [r_CB_sure_17, r_CB_sure_18, r_CB_sure_21, r_CB_sure_22, true_and, and_true, or_true, true_or, or_false, false_or, false_and, and_false, not_true_eq_false, not_false_eq_true, implies_true, true_implies, false_implies]
  refine (sureFrom_s (h1.dx hV) (by omega) (by omega)).mono ?_
  rintro _ M2 ⟨rfl, k2⟩
  have h2 := h1.kp k2 (fun c a => by omega) (fun c a b => by omega) (fun c a b => by omega)
  have kk := (k1.x (fun c z => by omega)).trans (k2.x (fun c z => by omega))
  refine ⟨_, rfl, ?_⟩
  simp only [r_CB_sure_25, r_CB_sure_26, r_CB_sure_27, r_CB_sure_29, r_CB_sure_32, r_CB_sure_34, r_CB_sure_37, r_CB_sure_38, true_and, and_true, or_true, true_or, or_false, false_or, false_and, and_false, not_true_eq_false, not_false_eq_true, implies_true, true_implies, false_implies]
  refine ⟨r32 (by omega) (by omega), r32 (by decide) (by decide), fun q3 => Qx.q h2.1 kk (by rw [ee, if_neg q3]), fun q3 => Qx.q h2.1 kk (by rw [ee, if_pos (by omega)])⟩
