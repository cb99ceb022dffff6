/-! the class's Codes: times of signs, causes with a sign -/
theorem signTime_s {ρ : Rw} {M : Mem} (h : DX ρ M) {c s : Int} (c0 : 0 ≤ c) (c1 : c < nC ρ) (s0 : 0 ≤ s) (s1 : s < nS ρ) : Cal Y_Co_signTime [vR 111, vI c, vI s] M (fun r M' => r = some (vI (sT ρ c s)) ∧ M' = M) := by
  have hc := nC_bd h.1
  have hs := nS_bd h.1
  refine Cal.mk (y := Y_Co_signTime) (loc := [vR 111, vI c, vI s]) G_Co_signTime rfl (by decide) rfl rfl (Nat.le_of_ble_eq_true rfl) ?_
  simp only [r_Co_signTime_0, r_Co_signTime_1, r_Co_signTime_4, r_Co_signTime_5, r_Co_signTime_7, r_Co_signTime_8, r_Co_signTime_9, r_Co_signTime_10, r_Co_signTime_11, true_and, and_true, or_true, true_or, or_false, false_or, false_and, and_false, not_true_eq_false, not_false_eq_true, implies_true, true_implies, false_implies]
  refine ⟨by omega, by omega, ?_⟩
  rw [h.2.2.2.2.2.2 c s c0 c1 s0 s1]
/-- the last time of a sign of the code -/
noncomputable def lsS (ρ : Rw) (c s acc : Int) : Int := if sT ρ c s < 1000000 ∧ acc < sT ρ c s then sT ρ c s else acc
noncomputable def lsT (ρ : Rw) (c : Int) : Int := foI (lsS ρ c) (-1) (nS ρ)
theorem lsT_bd (ρ : Rw) (c : Int) : ∀ n, 0 ≤ n → -1 ≤ foI (lsS ρ c) (-1) n ∧ foI (lsS ρ c) (-1) n < 1000000 := by
  refine int_ind (by rw [foI_0]; decide) (fun n hn ih => ?_)
  rw [foI_s _ _ hn]
  unfold lsS at ih ⊢
  split <;> omega
theorem lastSignTime_s {ρ : Rw} {M : Mem} (h : DX ρ M) {c : Int} (c0 : 0 ≤ c) (c1 : c < nC ρ) : Cal Y_Co_lastSignTime [vR 111, vI c] M (fun r M' => r = some (vI (lsT ρ c)) ∧ M' = M) := by
  have hc := nC_bd h.1
  have hs := nS_bd h.1
  have hb := gC_bd h.1 c
  refine Cal.mk (y := Y_Co_lastSignTime) (loc := [vR 111, vI c, vN, vN]) G_Co_lastSignTime rfl (by decide) rfl rfl (Nat.le_of_ble_eq_true rfl) ?_
  simp only [r_Co_lastSignTime_0, r_Co_lastSignTime_1, r_Co_lastSignTime_2, r_Co_lastSignTime_3, true_and, and_true, or_true, true_or, or_false, false_or, false_and, and_false, not_true_eq_false, not_false_eq_true, implies_true, true_implies, false_implies]
  refine up_loop (lo := 0) (hi := nS ρ) (P := fun s => Run C_Co_lastSignTime (fun r M' => r = some (vI (lsT ρ c)) ∧ M' = M) 4 [vR 111, vI c, vI (foI (lsS ρ c) (-1) s), vI s] [] M) (fun s s0 s1 ih => ?_) hs.1
  have hl := lsT_bd ρ c s s0
  rw [r_Co_lastSignTime_4]
  simp only [r_Co_lastSignTime_5, r_Co_lastSignTime_6, r_Co_lastSignTime_9, r_Co_lastSignTime_12, r_Co_lastSignTime_15, r_Co_lastSignTime_16, r_Co_lastSignTime_19, r_Co_lastSignTime_20, r_Co_lastSignTime_21, r_Co_lastSignTime_22, r_Co_lastSignTime_25, r_Co_lastSignTime_28, r_Co_lastSignTime_29, r_Co_lastSignTime_30, r_Co_lastSignTime_31, r_Co_lastSignTime_32, r_Co_lastSignTime_35, r_Co_lastSignTime_38, r_Co_lastSignTime_39, r_Co_lastSignTime_42, r_Co_lastSignTime_45, r_Co_lastSignTime_46, true_and, and_true, or_true, true_or, or_false, false_or, false_and, and_false, not_true_eq_false, not_false_eq_true, implies_true, true_implies, false_implies, h.2.2.1]
  refine ⟨r32 (by omega) (by omega), r32 (by omega) (by omega), fun q => ?_, fun q => ⟨c0, by omega, ?_⟩⟩
  · rw [show s = nS ρ by omega]; rfl
  · rw [h.2.2.2.2.2.1 c c0 c1]
    have hih := ih (by omega)
    rw [foI_s _ _ s0] at hih
    have ht := sT_bd h.1 (c := c) s0 (by omega)
    refine has_if hb.1 (by omega) s0 (by omega) (fun q2 => ?_) (fun q2 => ?_)
    · refine Cal.I (signTime_s h c0 c1 s0 (by omega)) ⟨r32 (by omega) (by omega), r32 (by omega) (by omega), ?_⟩
      have q3 := (gC_bit h.1 s0 (by omega)).1 q2
      rw [show lsS ρ c s (foI (lsS ρ c) (-1) s) = if foI (lsS ρ c) (-1) s < sT ρ c s then sT ρ c s else foI (lsS ρ c) (-1) s by
        show (if sT ρ c s < 1000000 ∧ foI (lsS ρ c) (-1) s < sT ρ c s then _ else _) = _
        by_cases z : foI (lsS ρ c) (-1) s < sT ρ c s
        · rw [if_pos z, if_pos ⟨q3, z⟩]
        · rw [if_neg z, if_neg (fun y => z y.2)]] at hih
      exact hih
    · rw [show lsS ρ c s (foI (lsS ρ c) (-1) s) = foI (lsS ρ c) (-1) s from if_neg (fun y => q2 ((gC_bit h.1 s0 (by omega)).2 y.1))] at hih
      exact hih
/-- how many signs come ahead of one; the sign of a rank -/
noncomputable def bfr (ρ : Rw) (c s o : Int) : Bool := decide (sT ρ c o < sT ρ c s ∨ (sT ρ c o = sT ρ c s ∧ o < s))
noncomputable def ahd (ρ : Rw) (c s : Int) : Int := cntI (bfr ρ c s) (nS ρ)
theorem signsAhead_s {ρ : Rw} {M : Mem} (h : DX ρ M) {c s : Int} (c0 : 0 ≤ c) (c1 : c < nC ρ) (s0 : 0 ≤ s) (s1 : s < nS ρ) : Cal Y_Co_signsAhead [vR 111, vI c, vI s] M (fun r M' => r = some (vI (ahd ρ c s)) ∧ M' = M) := by
  have hc := nC_bd h.1
  have hs := nS_bd h.1
  have hts := sT_bd h.1 (c := c) s0 s1
  refine Cal.mk (y := Y_Co_signsAhead) (loc := [vR 111, vI c, vI s, vN, vN, vN, vN]) G_Co_signsAhead rfl (by decide) rfl rfl (Nat.le_of_ble_eq_true rfl) ?_
  simp only [r_Co_signsAhead_0, r_Co_signsAhead_1, r_Co_signsAhead_2, r_Co_signsAhead_3, r_Co_signsAhead_6, r_Co_signsAhead_7, r_Co_signsAhead_8, r_Co_signsAhead_10, r_Co_signsAhead_11, true_and, and_true, or_true, true_or, or_false, false_or, false_and, and_false, not_true_eq_false, not_false_eq_true, implies_true, true_implies, false_implies]
  refine Cal.I (signTime_s h c0 c1 s0 s1) ?_
  refine up_loop (lo := 0) (hi := nS ρ) (P := fun o => ∀ l6, Run C_Co_signsAhead (fun r M' => r = some (vI (ahd ρ c s)) ∧ M' = M) 13 [vR 111, vI c, vI s, vI (sT ρ c s), vI (cntI (bfr ρ c s) o), vI o, l6] [] M) (fun o o0 o1 ih l6 => ?_) hs.1 _
  rw [r_Co_signsAhead_13]
  simp only [r_Co_signsAhead_15, r_Co_signsAhead_16, r_Co_signsAhead_19, r_Co_signsAhead_22, r_Co_signsAhead_25, r_Co_signsAhead_26, r_Co_signsAhead_27, r_Co_signsAhead_29, r_Co_signsAhead_32, r_Co_signsAhead_34, r_Co_signsAhead_36, r_Co_signsAhead_38, r_Co_signsAhead_39, r_Co_signsAhead_42, r_Co_signsAhead_44, r_Co_signsAhead_45, r_Co_signsAhead_48, r_Co_signsAhead_50, r_Co_signsAhead_51, r_Co_signsAhead_54, r_Co_signsAhead_55, r_Co_signsAhead_58, r_Co_signsAhead_59, r_Co_signsAhead_60, r_Co_signsAhead_62, r_Co_signsAhead_65, r_Co_signsAhead_68, r_Co_signsAhead_70, true_and, and_true, or_true, true_or, or_false, false_or, false_and, and_false, not_true_eq_false, not_false_eq_true, implies_true, true_implies, false_implies, h.2.2.1]
  refine ⟨r32 (by omega) (by omega), r32 (by omega) (by omega), fun q => ?_, fun q => ?_⟩
  · rw [show o = nS ρ by omega]; rfl
  · refine Cal.I (signTime_s h c0 c1 o0 (by omega)) ?_
    have ht := sT_bd h.1 (c := c) o0 (by omega)
    have hih := ih (by omega) (vI (sT ρ c o))
    rw [cntI_s _ o0] at hih
    have f1 : (sT ρ c o < sT ρ c s ∨ (sT ρ c o = sT ρ c s ∧ o < s)) → (if bfr ρ c s o = true then (1 : Int) else 0) = 1 := fun z => if_pos (decide_eq_true z)
    have f0 : ¬ (sT ρ c o < sT ρ c s ∨ (sT ρ c o = sT ρ c s ∧ o < s)) → (if bfr ρ c s o = true then (1 : Int) else 0) = 0 := fun z => if_neg (by unfold bfr; rw [decide_eq_true_eq]; exact z)
    refine ⟨r32 (by omega) (by omega), r32 (by omega) (by omega), fun q2 => ?_, fun q2 => ⟨r32 (by omega) (by omega), r32 (by omega) (by omega), fun q3 => ?_, fun q3 => ⟨r32 (by omega) (by omega), r32 (by omega) (by omega), fun q4 => ?_, fun q4 => ?_⟩⟩⟩
    · rw [f1 (by omega)] at hih; exact hih
    · rw [f0 (by omega)] at hih; exact hih
    · rw [f0 (by omega)] at hih; exact hih
    · rw [f1 (by omega)] at hih; exact hih
theorem ahd_lt {ρ : Rw} (hV : VR ρ) {c s o : Int} (s0 : 0 ≤ s) (s1 : s < nS ρ) (hb : bfr ρ c o s = true) : ahd ρ c s < ahd ρ c o := by
  unfold bfr at hb
  rw [decide_eq_true_eq] at hb
  refine cntI_strict _ (nS_bd hV).1 (fun i a b z => ?_) ⟨s, s0, s1, ?_, ?_⟩
  · unfold bfr at z ⊢
    rw [decide_eq_true_eq] at z ⊢
    omega
  · unfold bfr; rw [decide_eq_false_iff_not]; omega
  · unfold bfr; rw [decide_eq_true_eq]; exact hb
theorem ahd_inj {ρ : Rw} (hV : VR ρ) {c s o : Int} (s0 : 0 ≤ s) (s1 : s < nS ρ) (o0 : 0 ≤ o) (o1 : o < nS ρ) (h : ahd ρ c s = ahd ρ c o) : s = o := by
  apply Classical.byContradiction
  intro hne
  by_cases q : bfr ρ c o s = true
  · have := ahd_lt hV s0 s1 q; omega
  · have q2 : bfr ρ c s o = true := by
      unfold bfr at q ⊢
      rw [decide_eq_true_eq] at q ⊢
      omega
    have := ahd_lt hV o0 o1 q2; omega
noncomputable def orS (ρ : Rw) (c i s acc : Int) : Int := if sT ρ c s < 1000000 ∧ ahd ρ c s = i then s else acc
noncomputable def ord (ρ : Rw) (c i : Int) : Int := foI (orS ρ c i) (-1) (nS ρ)
theorem signAtRank_s {ρ : Rw} {M : Mem} (h : DX ρ M) {c i : Int} (c0 : 0 ≤ c) (c1 : c < nC ρ) (hi : R32 i) : Cal Y_Co_signAtRank [vR 111, vI c, vI i] M (fun r M' => r = some (vI (ord ρ c i)) ∧ M' = M) := by
  have hc := nC_bd h.1
  have hs := nS_bd h.1
  have hb := gC_bd h.1 c
  refine Cal.mk (y := Y_Co_signAtRank) (loc := [vR 111, vI c, vI i, vN]) G_Co_signAtRank rfl (by decide) rfl rfl (Nat.le_of_ble_eq_true rfl) ?_
  simp only [r_Co_signAtRank_0, r_Co_signAtRank_1, true_and, and_true, or_true, true_or, or_false, false_or, false_and, and_false, not_true_eq_false, not_false_eq_true, implies_true, true_implies, false_implies]
  refine up_loop (lo := 0) (hi := nS ρ) (P := fun s => foI (orS ρ c i) (-1) s = -1 → Run C_Co_signAtRank (fun r M' => r = some (vI (ord ρ c i)) ∧ M' = M) 2 [vR 111, vI c, vI i, vI s] [] M) (fun s s0 s1 ih hz => ?_) hs.1 rfl
  rw [r_Co_signAtRank_2]
  simp only [r_Co_signAtRank_3, r_Co_signAtRank_4, r_Co_signAtRank_7, r_Co_signAtRank_10, r_Co_signAtRank_13, r_Co_signAtRank_14, r_Co_signAtRank_17, r_Co_signAtRank_18, r_Co_signAtRank_19, r_Co_signAtRank_20, r_Co_signAtRank_23, r_Co_signAtRank_26, r_Co_signAtRank_27, r_Co_signAtRank_28, r_Co_signAtRank_29, r_Co_signAtRank_32, r_Co_signAtRank_33, r_Co_signAtRank_36, r_Co_signAtRank_37, r_Co_signAtRank_38, r_Co_signAtRank_41, r_Co_signAtRank_44, r_Co_signAtRank_45, true_and, and_true, or_true, true_or, or_false, false_or, false_and, and_false, not_true_eq_false, not_false_eq_true, implies_true, true_implies, false_implies, h.2.2.1]
  refine ⟨r32 (by omega) (by omega), r32 (by omega) (by omega), fun q => ?_, fun q => ⟨c0, by omega, ?_⟩⟩
  · rw [show s = nS ρ by omega] at hz; unfold ord; rw [hz]
  · rw [h.2.2.2.2.2.1 c c0 c1]
    have hstep : ¬ (sT ρ c s < 1000000 ∧ ahd ρ c s = i) → foI (orS ρ c i) (-1) (s + 1) = -1 := fun z => by
      rw [foI_s _ _ s0, hz]; exact if_neg z
    have ha := cntI_bd (bfr ρ c s) hs.1
    refine has_if hb.1 (by omega) s0 (by omega) (fun q2 => ?_) (fun q2 => ih (by omega) (hstep (fun y => q2 ((gC_bit h.1 s0 (by omega)).2 y.1))))
    refine Cal.I (signsAhead_s h c0 c1 s0 (by omega)) ⟨by unfold ahd; exact r32 (by omega) (by omega), hi, fun q3 => ih (by omega) (hstep (fun y => q3 y.2)), fun q3 => ?_⟩
    have q4 : ahd ρ c s = i := Classical.not_not.1 q3
    have e1 : foI (orS ρ c i) (-1) (s + 1) = s := by
      rw [foI_s _ _ s0, hz]; exact if_pos ⟨(gC_bit h.1 s0 (by omega)).1 q2, q4⟩
    have e2 : ord ρ c i = s := by
      unfold ord
      rw [foI_stop (m := s + 1) (by omega) (nS ρ) (by omega) (fun k a b d => ?_)]
      · exact e1
      · unfold orS
        rw [if_neg]
        rintro ⟨-, y⟩
        have := ahd_inj h.1 (c := c) (s := k) (o := s) (by omega) d s0 (by omega) (by omega)
        omega
    rw [e2]; exact ⟨rfl, rfl⟩
/-- signs that come by a time; the next time of a sign -/
noncomputable def sby (ρ : Rw) (c t : Int) : Int := bsI (fun s => decide (sT ρ c s ≤ t)) (nS ρ)
theorem sby_bd {ρ : Rw} (hV : VR ρ) (c t : Int) : 0 ≤ sby ρ c t ∧ sby ρ c t < 4096 := by
  have h := bsI_bd (fun s => decide (sT ρ c s ≤ t)) (nS ρ)
  have := p2_12 (nS_bd hV).2
  unfold sby
  omega
theorem signsBy_s {ρ : Rw} {M : Mem} (h : DX ρ M) {c t : Int} (c0 : 0 ≤ c) (c1 : c < nC ρ) (ht : R32 t) : Cal Y_Co_signsBy [vR 111, vI c, vI t] M (fun r M' => r = some (vI (sby ρ c t)) ∧ M' = M) := by
  have hc := nC_bd h.1
  have hs := nS_bd h.1
  refine Cal.mk (y := Y_Co_signsBy) (loc := [vR 111, vI c, vI t, vN, vN]) G_Co_signsBy rfl (by decide) rfl rfl (Nat.le_of_ble_eq_true rfl) ?_
  simp only [r_Co_signsBy_0, r_Co_signsBy_1, r_Co_signsBy_2, r_Co_signsBy_3, true_and, and_true, or_true, true_or, or_false, false_or, false_and, and_false, not_true_eq_false, not_false_eq_true, implies_true, true_implies, false_implies]
  refine up_loop (lo := 0) (hi := nS ρ) (P := fun s => Run C_Co_signsBy (fun r M' => r = some (vI (sby ρ c t)) ∧ M' = M) 5 [vR 111, vI c, vI t, vI (bsI (fun s => decide (sT ρ c s ≤ t)) s), vI s] [] M) (fun s s0 s1 ih => ?_) hs.1
  rw [r_Co_signsBy_5]
  simp only [r_Co_signsBy_7, r_Co_signsBy_8, r_Co_signsBy_11, r_Co_signsBy_14, r_Co_signsBy_17, r_Co_signsBy_18, r_Co_signsBy_19, r_Co_signsBy_21, r_Co_signsBy_24, r_Co_signsBy_25, r_Co_signsBy_28, r_Co_signsBy_29, r_Co_signsBy_30, r_Co_signsBy_32, r_Co_signsBy_33, r_Co_signsBy_34, r_Co_signsBy_35, r_Co_signsBy_38, r_Co_signsBy_41, r_Co_signsBy_42, true_and, and_true, or_true, true_or, or_false, false_or, false_and, and_false, not_true_eq_false, not_false_eq_true, implies_true, true_implies, false_implies, h.2.2.1, p2_def]
  refine ⟨r32 (by omega) (by omega), r32 (by omega) (by omega), fun q => ?_, fun q => ?_⟩
  · rw [show s = nS ρ by omega]; rfl
  · have hb := sT_bd h.1 (c := c) s0 (by omega)
    have hih := ih (by omega)
    rw [bsI_s s0 (by omega)] at hih
    refine Cal.I (signTime_s h c0 c1 s0 (by omega)) ⟨r32 (by omega) (by omega), ht, fun q2 => ?_, fun q2 => ⟨⟨s0, by omega⟩, ?_⟩⟩
    · rw [if_neg (by rw [decide_eq_true_eq]; omega)] at hih; exact hih
    · rw [if_pos (by rw [decide_eq_true_eq]; omega)] at hih; exact hih
noncomputable def nxF (ρ : Rw) (c t s : Int) : Int := if t < sT ρ c s then sT ρ c s else 1000000
noncomputable def nxt (ρ : Rw) (c t : Int) : Int := mn (nxF ρ c t) 1000000 (nS ρ)
theorem nextSignTime_s {ρ : Rw} {M : Mem} (h : DX ρ M) {c t : Int} (c0 : 0 ≤ c) (c1 : c < nC ρ) (ht : R32 t) : Cal Y_Co_nextSignTime [vR 111, vI c, vI t] M (fun r M' => r = some (vI (nxt ρ c t)) ∧ M' = M) := by
  have hc := nC_bd h.1
  have hs := nS_bd h.1
  refine Cal.mk (y := Y_Co_nextSignTime) (loc := [vR 111, vI c, vI t, vN, vN, vN]) G_Co_nextSignTime rfl (by decide) rfl rfl (Nat.le_of_ble_eq_true rfl) ?_
  simp only [r_Co_nextSignTime_0, r_Co_nextSignTime_2, r_Co_nextSignTime_3, r_Co_nextSignTime_4, true_and, and_true, or_true, true_or, or_false, false_or, false_and, and_false, not_true_eq_false, not_false_eq_true, implies_true, true_implies, false_implies]
  refine up_loop (lo := 0) (hi := nS ρ) (P := fun s => ∀ l5, Run C_Co_nextSignTime (fun r M' => r = some (vI (nxt ρ c t)) ∧ M' = M) 6 [vR 111, vI c, vI t, vI (mn (nxF ρ c t) 1000000 s), vI s, l5] [] M) (fun s s0 s1 ih l5 => ?_) hs.1 _
  rw [r_Co_nextSignTime_6]
  simp only [r_Co_nextSignTime_8, r_Co_nextSignTime_9, r_Co_nextSignTime_12, r_Co_nextSignTime_15, r_Co_nextSignTime_18, r_Co_nextSignTime_19, r_Co_nextSignTime_20, r_Co_nextSignTime_22, r_Co_nextSignTime_25, r_Co_nextSignTime_27, r_Co_nextSignTime_29, r_Co_nextSignTime_30, r_Co_nextSignTime_33, r_Co_nextSignTime_34, r_Co_nextSignTime_36, r_Co_nextSignTime_39, r_Co_nextSignTime_40, r_Co_nextSignTime_43, r_Co_nextSignTime_46, r_Co_nextSignTime_47, true_and, and_true, or_true, true_or, or_false, false_or, false_and, and_false, not_true_eq_false, not_false_eq_true, implies_true, true_implies, false_implies, h.2.2.1]
  refine ⟨r32 (by omega) (by omega), r32 (by omega) (by omega), fun q => ?_, fun q => ?_⟩
  · rw [show s = nS ρ by omega]; rfl
  · have hb := sT_bd h.1 (c := c) s0 (by omega)
    have hm := mn_nn (f := nxF ρ c t) (z := 1000000) s0 (by decide) (fun k a b => by
      have := sT_bd h.1 (c := c) a (by omega)
      unfold nxF; split <;> omega)
    have hih := ih (by omega) (vI (sT ρ c s))
    rw [mn_s _ _ s0] at hih
    refine Cal.I (signTime_s h c0 c1 s0 (by omega)) ⟨r32 (by omega) (by omega), ht, fun q2 => ?_, fun q2 => ⟨r32 (by omega) (by omega), r32 (by omega) (by omega), ?_⟩⟩
    · rw [show nxF ρ c t s = 1000000 from if_neg (by omega), if_neg (by omega)] at hih; exact hih
    · rw [show nxF ρ c t s = sT ρ c s from if_pos (by omega)] at hih; exact hih
/-- causes with a sign in their codes -/
noncomputable def cw (ρ : Rw) (s : Int) : Int := bsI (fun c => bit (gC ρ c) s) (nC ρ)
theorem cw_bd {ρ : Rw} (hV : VR ρ) (s : Int) : 0 ≤ cw ρ s ∧ cw ρ s < 4096 := by
  have h := bsI_bd (fun c => bit (gC ρ c) s) (nC ρ)
  have := p2_12 (nC_bd hV).2
  unfold cw
  omega
theorem causesWith_s {ρ : Rw} {M : Mem} (h : DX ρ M) {s : Int} (s0 : 0 ≤ s) (s1 : s < nS ρ) : Cal Y_Co_causesWith [vR 111, vI s] M (fun r M' => r = some (vI (cw ρ s)) ∧ M' = M) := by
  have hc := nC_bd h.1
  have hs := nS_bd h.1
  refine Cal.mk (y := Y_Co_causesWith) (loc := [vR 111, vI s, vN, vN]) G_Co_causesWith rfl (by decide) rfl rfl (Nat.le_of_ble_eq_true rfl) ?_
  simp only [r_Co_causesWith_0, r_Co_causesWith_1, r_Co_causesWith_2, r_Co_causesWith_3, true_and, and_true, or_true, true_or, or_false, false_or, false_and, and_false, not_true_eq_false, not_false_eq_true, implies_true, true_implies, false_implies]
  refine up_loop (lo := 0) (hi := nC ρ) (P := fun c => Run C_Co_causesWith (fun r M' => r = some (vI (cw ρ s)) ∧ M' = M) 4 [vR 111, vI s, vI (bsI (fun c => bit (gC ρ c) s) c), vI c] [] M) (fun c c0 c1 ih => ?_) hc.1
  rw [r_Co_causesWith_4]
  simp only [r_Co_causesWith_5, r_Co_causesWith_6, r_Co_causesWith_9, r_Co_causesWith_12, r_Co_causesWith_15, r_Co_causesWith_16, r_Co_causesWith_19, r_Co_causesWith_20, r_Co_causesWith_21, r_Co_causesWith_22, r_Co_causesWith_25, r_Co_causesWith_28, r_Co_causesWith_29, r_Co_causesWith_30, r_Co_causesWith_31, r_Co_causesWith_32, r_Co_causesWith_33, r_Co_causesWith_34, r_Co_causesWith_37, r_Co_causesWith_40, r_Co_causesWith_41, true_and, and_true, or_true, true_or, or_false, false_or, false_and, and_false, not_true_eq_false, not_false_eq_true, implies_true, true_implies, false_implies, h.2.1, p2_def]
  refine ⟨r32 (by omega) (by omega), r32 (by omega) (by omega), fun q => ?_, fun q => ⟨c0, by omega, ?_⟩⟩
  · rw [show c = nC ρ by omega]; rfl
  · rw [h.2.2.2.2.2.1 c c0 (by omega)]
    have hb := gC_bd h.1 c
    have hih := ih (by omega)
    rw [bsI_s c0 (by omega)] at hih
    refine has_if hb.1 (by omega) s0 (by omega) (fun q2 => ⟨⟨c0, by omega⟩, ?_⟩) (fun q2 => ?_)
    · rw [if_pos q2] at hih; exact hih
    · rw [if_neg q2] at hih; exact hih
