/-! the class's Decoder: beside the nearest, groups; distance, nearest, groups, group of the class -/
theorem Qx.q {σ : St} {M M' : Mem} {x q : Int} (h : XI σ M') (hk : Kp KX M M') (e : x = q) : Qx (q, σ) M (some (vI x)) M' := ⟨by rw [e], h, hk⟩
theorem Kp.x {P : Nat → Prop} {M M' : Mem} (h : Kp P M M') (hP : ∀ c, P c → c < 141) : Kp KX M M' := h.sub hP
/-- the first bit, or -1 -/
def fbS (v k acc : Int) : Int := if acc = -1 ∧ bit v k = true then k else acc
def fb (v : Int) : Int := foI (fbS v) (-1) 12
theorem fb_n {v : Int} : ∀ n, 0 ≤ n → (∀ j, 0 ≤ j → j < n → bit v j = false) → foI (fbS v) (-1) n = -1 := by
  refine int_ind (fun _ => rfl) (fun n hn ih h => ?_)
  rw [foI_s _ _ hn, ih (fun j a b => h j a (by omega))]
  unfold fbS
  rw [if_neg]
  rintro ⟨-, z⟩
  rw [h n hn (by omega)] at z
  exact Bool.noConfusion z
theorem fb_none {v : Int} (h : ∀ j, 0 ≤ j → j < 12 → bit v j = false) : fb v = -1 := fb_n 12 (by decide) h
theorem fb_eq {v i : Int} (h0 : 0 ≤ i) (h1 : i < 12) (hi : bit v i = true) (hj : ∀ j, 0 ≤ j → j < i → bit v j = false) : fb v = i := by
  have key : ∀ j : Int, 0 ≤ j → foI (fbS v) (-1) (i + 1 + j) = i := by
    refine int_ind ?_ (fun j hj ih => ?_)
    · rw [Int.add_zero, foI_s _ _ h0, fb_n i h0 hj]
      unfold fbS; rw [if_pos ⟨rfl, hi⟩]
    · rw [show i + 1 + (j + 1) = i + 1 + j + 1 by omega, foI_s _ _ (by omega), ih]
      unfold fbS; rw [if_neg (fun z => by omega)]
  have := key (12 - (i + 1)) (by omega)
  rw [show i + 1 + (12 - (i + 1)) = 12 by omega] at this
  exact this
theorem firstOf_s (M : Mem) {v : Int} (v0 : 0 ≤ v) (v1 : v < 4096) : Cal Y_CB_firstOf [vI v] M (fun r M' => r = some (vI (fb v)) ∧ M' = M) := by
  refine Cal.mk (y := Y_CB_firstOf) (loc := [vI v, vN]) G_CB_firstOf rfl (by decide) rfl rfl (Nat.le_of_ble_eq_true rfl) ?_
  simp only [r_CB_firstOf_0, r_CB_firstOf_1, true_and, and_true, or_true, true_or, or_false, false_or, false_and, and_false, not_true_eq_false, not_false_eq_true, implies_true, true_implies, false_implies]
  refine up_loop (lo := 0) (hi := 12) (P := fun i => (∀ j, 0 ≤ j → j < i → bit v j = false) → Run C_CB_firstOf _ 2 [vI v, vI i] [] M) (fun i i0 i1 ih hj => ?_) (by decide) (fun j a b => by omega)
  rw [r_CB_firstOf_2]
  simp only [r_CB_firstOf_3, r_CB_firstOf_5, r_CB_firstOf_8, r_CB_firstOf_9, r_CB_firstOf_10, r_CB_firstOf_13, r_CB_firstOf_16, r_CB_firstOf_17, r_CB_firstOf_18, r_CB_firstOf_21, r_CB_firstOf_24, r_CB_firstOf_25, true_and, and_true, or_true, true_or, or_false, false_or, false_and, and_false, not_true_eq_false, not_false_eq_true, implies_true, true_implies, false_implies]
  refine ⟨r32 (by omega) (by omega), r32 (by decide) (by decide), fun q => ?_, fun q => ?_⟩
  · rw [fb_none (fun j a b => hj j a (by omega))]
  · refine has_if v0 (by omega) i0 (by omega) (fun q2 => ?_) (fun q2 => ih (by omega) (fun j a b => ?_))
    · rw [fb_eq i0 (by omega) q2 hj]; exact ⟨rfl, rfl⟩
    · by_cases z : j = i
      · rw [z]; cases y : bit v i with
        | true => exact absurd y q2
        | false => rfl
      · exact hj j a (by omega)
/-- the least gap to x of those that are not the nearest -/
noncomputable def lbF (ρ : Rw) (x c : Int) : Int := if gp ρ (gC ρ c) x = lst ρ x then 1000000 else gp ρ (gC ρ c) x
noncomputable def lob (ρ : Rw) (x : Int) : Int := mn (lbF ρ x) 1000000 (nC ρ)
theorem lbF_bd (ρ : Rw) (x c : Int) : 0 ≤ lbF ρ x c ∧ lbF ρ x c ≤ 1000000 := by
  have := gp_bd ρ (gC ρ c) x
  unfold lbF; split <;> omega
theorem mn_nn {f : Int → Int} {z n : Int} (hn : 0 ≤ n) (hz : 0 ≤ z) (hf : ∀ k, 0 ≤ k → k < n → 0 ≤ f k) : 0 ≤ mn f z n ∧ mn f z n ≤ z := by
  have hm := mn_sp f z n hn
  refine ⟨?_, hm.1⟩
  rcases hm.2.2 with q | ⟨k, a, b, q⟩
  · omega
  · rw [← q]; exact hf k a b
theorem leastBeside_s {ρ : Rw} {M : Mem} (h : DX ρ M) : Cal Y_De_leastBeside [vR 117, vI (nr ρ (ρ 5))] M (fun r M' => r = some (vI (if lob ρ (ρ 5) = 1000000 then -1 else lob ρ (ρ 5))) ∧ M' = M) := by
  have hV := h.1
  have hc := nC_bd hV
  have hn := nr_bd hV (ρ 5)
  have hs := se_bd hV
  refine Cal.mk (y := Y_De_leastBeside) (loc := [vR 117, vI (nr ρ (ρ 5)), vN, vN]) G_De_leastBeside rfl (by decide) rfl rfl (Nat.le_of_ble_eq_true rfl) ?_
  simp only [r_De_leastBeside_0, r_De_leastBeside_2, r_De_leastBeside_3, r_De_leastBeside_4, true_and, and_true, or_true, true_or, or_false, false_or, false_and, and_false, not_true_eq_false, not_false_eq_true, implies_true, true_implies, false_implies]
  refine up_loop (lo := 0) (hi := nC ρ) (P := fun c => Run C_De_leastBeside (fun r M' => r = some (vI (if lob ρ (ρ 5) = 1000000 then -1 else lob ρ (ρ 5))) ∧ M' = M) 5 [vR 117, vI (nr ρ (ρ 5)), vI (mn (lbF ρ (ρ 5)) 1000000 c), vI c] [] M) (fun c c0 c1 ih => ?_) hc.1
  have hm := mn_nn (f := lbF ρ (ρ 5)) (z := 1000000) c0 (by decide) (fun k _ _ => (lbF_bd ρ (ρ 5) k).1)
  have hg := gp_bd ρ (gC ρ c) (ρ 5)
  rw [r_De_leastBeside_5]
  simp only [r_De_leastBeside_6, r_De_leastBeside_7, r_De_leastBeside_10, r_De_leastBeside_13, r_De_leastBeside_16, r_De_leastBeside_19, r_De_leastBeside_20, r_De_leastBeside_21, r_De_leastBeside_24, r_De_leastBeside_27, r_De_leastBeside_28, r_De_leastBeside_29, r_De_leastBeside_30, r_De_leastBeside_33, r_De_leastBeside_36, r_De_leastBeside_37, r_De_leastBeside_38, r_De_leastBeside_39, r_De_leastBeside_42, r_De_leastBeside_45, r_De_leastBeside_48, r_De_leastBeside_51, r_De_leastBeside_52, r_De_leastBeside_55, r_De_leastBeside_58, r_De_leastBeside_59, r_De_leastBeside_61, r_De_leastBeside_64, r_De_leastBeside_65, r_De_leastBeside_68, r_De_leastBeside_69, true_and, and_true, or_true, true_or, or_false, false_or, false_and, and_false, not_true_eq_false, not_false_eq_true, implies_true, true_implies, false_implies, h.2.1]
  refine ⟨r32 (by omega) (by omega), r32 (by omega) (by omega), fun q => ?_, fun q => ?_⟩
  · have ec : c = nC ρ := by omega
    rw [ec] at hm ⊢
    rw [show mn (lbF ρ (ρ 5)) 1000000 (nC ρ) = lob ρ (ρ 5) from rfl] at hm ⊢
    refine ⟨r32 (by omega) (by omega), r32 (by decide) (by decide), fun z => ?_, fun z => ?_⟩
    · rw [if_neg z]
    · rw [if_pos (by omega)]
  · have hih := ih (by omega)
    rw [mn_s _ _ c0] at hih
    refine (has_s M hn.1 (by omega) c0 (by omega)).Bn (fun q2 => ?_) (fun q2 => ⟨c0, by omega, ?_⟩)
    · have e : lbF ρ (ρ 5) c = 1000000 := if_pos ((nr_bit c0 (by omega)).1 q2)
      rw [e, if_neg (show ¬ 1000000 < mn (lbF ρ (ρ 5)) 1000000 c by omega)] at hih
      exact hih
    · rw [h.2.2.2.2.2.1 c c0 (by omega), h.2.2.2.2.1]
      have hb := gC_bd hV c
      refine Cal.I (gap_s hV h.2.2.2.1 hb.1 hb.2.2 hs.1 hs.2) ?_
      have e : lbF ρ (ρ 5) c = gp ρ (gC ρ c) (ρ 5) := if_neg (fun z => q2 ((nr_bit c0 (by omega)).2 z))
      rw [e] at hih
      exact ⟨r32 (by omega) (by omega), r32 (by omega) (by omega), hih⟩
/-- causes whose code is like x as far as the book goes -/
noncomputable def lke (ρ : Rw) (x : Int) : Int := bsI (fun c => decide (gp ρ (gC ρ c) x = 0)) (nC ρ)
theorem lke_bd {ρ : Rw} (hV : VR ρ) (x : Int) : 0 ≤ lke ρ x ∧ lke ρ x < 4096 := by
  have h := bsI_bd (fun c => decide (gp ρ (gC ρ c) x = 0)) (nC ρ)
  have := p2_12 (nC_bd hV).2
  unfold lke
  omega
theorem causesLike_s {ρ : Rw} {M : Mem} (h : DX ρ M) {x : Int} (x0 : 0 ≤ x) (x1 : x < 4096) : Cal Y_De_causesLike [vR 117, vI x] M (fun r M' => r = some (vI (lke ρ x)) ∧ M' = M) := by
  have hV := h.1
  have hc := nC_bd hV
  refine Cal.mk (y := Y_De_causesLike) (loc := [vR 117, vI x, vN, vN]) G_De_causesLike rfl (by decide) rfl rfl (Nat.le_of_ble_eq_true rfl) ?_
  simp only [r_De_causesLike_0, r_De_causesLike_1, r_De_causesLike_2, r_De_causesLike_3, true_and, and_true, or_true, true_or, or_false, false_or, false_and, and_false, not_true_eq_false, not_false_eq_true, implies_true, true_implies, false_implies]
  refine up_loop (lo := 0) (hi := nC ρ) (P := fun c => Run C_De_causesLike _ 4 [vR 117, vI x, vI (bsI (fun c => decide (gp ρ (gC ρ c) x = 0)) c), vI c] [] M) (fun c c0 c1 ih => ?_) hc.1
  rw [r_De_causesLike_4]
  simp only [r_De_causesLike_5, r_De_causesLike_6, r_De_causesLike_9, r_De_causesLike_12, r_De_causesLike_15, r_De_causesLike_18, r_De_causesLike_19, r_De_causesLike_20, r_De_causesLike_23, r_De_causesLike_26, r_De_causesLike_27, r_De_causesLike_28, r_De_causesLike_29, r_De_causesLike_32, r_De_causesLike_35, r_De_causesLike_36, r_De_causesLike_37, r_De_causesLike_38, r_De_causesLike_39, r_De_causesLike_40, r_De_causesLike_41, r_De_causesLike_44, r_De_causesLike_47, r_De_causesLike_48, true_and, and_true, or_true, true_or, or_false, false_or, false_and, and_false, not_true_eq_false, not_false_eq_true, implies_true, true_implies, false_implies, h.2.1, p2_def]
  refine ⟨r32 (by omega) (by omega), r32 (by omega) (by omega), fun q => ?_, fun q => ⟨c0, by omega, ?_⟩⟩
  · rw [show c = nC ρ by omega]; rfl
  · rw [h.2.2.2.2.2.1 c c0 (by omega)]
    have hb := gC_bd hV c
    have hg := gp_bd ρ (gC ρ c) x
    refine Cal.I (gap_s hV h.2.2.2.1 hb.1 hb.2.2 x0 x1) ?_
    have hih := ih (by omega)
    rw [bsI_s c0 (by omega)] at hih
    refine ⟨r32 (by omega) (by omega), fun q2 => ?_, fun q2 => ⟨⟨c0, by omega⟩, ?_⟩⟩
    · rw [if_neg (by simp only [decide_eq_true_eq]; omega)] at hih; exact hih
    · rw [if_pos (by simp only [decide_eq_true_eq]; omega)] at hih; exact hih
noncomputable def lg (ρ : Rw) (c : Int) : Int := fb (lke ρ (gC ρ c))
theorem leastOfGroup_s {ρ : Rw} {M : Mem} (h : DX ρ M) {c : Int} (c0 : 0 ≤ c) (c1 : c < nC ρ) : Cal Y_De_leastOfGroup [vR 117, vI c] M (fun r M' => r = some (vI (lg ρ c)) ∧ M' = M) := by
  have hc := nC_bd h.1
  have hb := gC_bd h.1 c
  have hk := lke_bd h.1 (gC ρ c)
  refine Cal.mk (y := Y_De_leastOfGroup) (loc := [vR 117, vI c]) G_De_leastOfGroup rfl (by decide) rfl rfl (Nat.le_of_ble_eq_true rfl) ?_
  simp only [r_De_leastOfGroup_0, r_De_leastOfGroup_1, r_De_leastOfGroup_2, r_De_leastOfGroup_5, r_De_leastOfGroup_8, r_De_leastOfGroup_9, r_De_leastOfGroup_10, r_De_leastOfGroup_13, r_De_leastOfGroup_16, true_and, and_true, or_true, true_or, or_false, false_or, false_and, and_false, not_true_eq_false, not_false_eq_true, implies_true, true_implies, false_implies]
  refine ⟨c0, by omega, ?_⟩
  rw [h.2.2.2.2.2.1 c c0 c1]
  exact Cal.I (causesLike_s h hb.1 hb.2.2) (Cal.I (firstOf_s M hk.1 hk.2) ⟨rfl, rfl⟩)
theorem fb_bd (v : Int) : -1 ≤ fb v ∧ fb v < 12 := by
  have : ∀ n, 0 ≤ n → n ≤ 12 → -1 ≤ foI (fbS v) (-1) n ∧ foI (fbS v) (-1) n < 12 := by
    refine int_ind (fun _ => by rw [foI_0]; decide) (fun n hn ih h => ?_)
    rw [foI_s _ _ hn]
    have := ih (by omega)
    unfold fbS at this ⊢
    split <;> omega
  exact this 12 (by decide) (by decide)
theorem groupCount_s {ρ : Rw} {M : Mem} (h : DX ρ M) : Cal Y_De_groupCount [vR 117] M (fun r M' => r = some (vI (cntI (fun c => decide (lg ρ c = c)) (nC ρ))) ∧ M' = M) := by
  have hc := nC_bd h.1
  refine Cal.mk (y := Y_De_groupCount) (loc := [vR 117, vN, vN]) G_De_groupCount rfl (by decide) rfl rfl (Nat.le_of_ble_eq_true rfl) ?_
  simp only [r_De_groupCount_0, r_De_groupCount_1, r_De_groupCount_2, r_De_groupCount_3, true_and, and_true, or_true, true_or, or_false, false_or, false_and, and_false, not_true_eq_false, not_false_eq_true, implies_true, true_implies, false_implies]
  refine up_loop (lo := 0) (hi := nC ρ) (P := fun c => Run C_De_groupCount _ 4 [vR 117, vI (cntI (fun c => decide (lg ρ c = c)) c), vI c] [] M) (fun c c0 c1 ih => ?_) hc.1
  rw [r_De_groupCount_4]
  simp only [r_De_groupCount_5, r_De_groupCount_6, r_De_groupCount_9, r_De_groupCount_12, r_De_groupCount_15, r_De_groupCount_18, r_De_groupCount_19, r_De_groupCount_20, r_De_groupCount_21, r_De_groupCount_24, r_De_groupCount_25, r_De_groupCount_28, r_De_groupCount_29, r_De_groupCount_32, r_De_groupCount_33, r_De_groupCount_34, r_De_groupCount_35, r_De_groupCount_38, r_De_groupCount_41, r_De_groupCount_42, true_and, and_true, or_true, true_or, or_false, false_or, false_and, and_false, not_true_eq_false, not_false_eq_true, implies_true, true_implies, false_implies, h.2.1]
  refine ⟨r32 (by omega) (by omega), r32 (by omega) (by omega), fun q => ?_, fun q => ?_⟩
  · rw [show c = nC ρ by omega]
  · refine Cal.I (leastOfGroup_s h c0 (by omega)) ?_
    have hb := fb_bd (lke ρ (gC ρ c))
    have hih := ih (by omega)
    rw [cntI_s _ c0] at hih
    refine ⟨by unfold lg; exact r32 (by omega) (by omega), r32 (by omega) (by omega), fun q2 => ?_, fun q2 => ?_⟩
    · rw [if_neg (by simp only [decide_eq_true_eq]; exact q2)] at hih; exact hih
    · rw [if_pos (by simp only [decide_eq_true_eq]; exact Classical.not_not.1 q2)] at hih; exact hih
/-- MARGIN; 1000000 with fewer than two groups -/
noncomputable def mgF (ρ : Rw) (c o : Int) : Int := if 0 < gp ρ (gC ρ c) (gC ρ o) then gp ρ (gC ρ c) (gC ρ o) else 1000000
noncomputable def mg (ρ : Rw) (n : Int) : Int := foI (fun c acc => mn (mgF ρ c) acc c) 1000000 n
theorem mg_in (ρ : Rw) {z c : Int} (z0 : 0 ≤ z) (z1 : z ≤ 1000000) (c0 : 0 ≤ c) {o : Int} (o0 : 0 ≤ o) : 0 ≤ mn (mgF ρ c) z o ∧ mn (mgF ρ c) z o ≤ 1000000 := by
  have hm := mn_sp (mgF ρ c) z o o0
  refine ⟨?_, by omega⟩
  rcases hm.2.2 with q | ⟨k, -, -, q⟩
  · omega
  · rw [← q]; unfold mgF; have := gp_bd ρ (gC ρ c) (gC ρ k); split <;> omega
theorem mg_bd (ρ : Rw) : ∀ n, 0 ≤ n → 0 ≤ mg ρ n ∧ mg ρ n ≤ 1000000 := by
  refine int_ind (by unfold mg; rw [foI_0]; decide) (fun n hn ih => ?_)
  unfold mg at ih ⊢
  rw [foI_s _ _ hn]
  exact mg_in ρ ih.1 ih.2 hn hn
theorem margin_s {ρ : Rw} {M : Mem} (h : DX ρ M) : Cal Y_De_margin [vR 117] M (fun r M' => r = some (vI (mg ρ (nC ρ))) ∧ M' = M) := by
  have hV := h.1
  have hc := nC_bd hV
  refine Cal.mk (y := Y_De_margin) (loc := [vR 117, vN, vN, vN, vN]) G_De_margin rfl (by decide) rfl rfl (Nat.le_of_ble_eq_true rfl) ?_
  simp only [r_De_margin_0, r_De_margin_2, r_De_margin_3, r_De_margin_4, true_and, and_true, or_true, true_or, or_false, false_or, false_and, and_false, not_true_eq_false, not_false_eq_true, implies_true, true_implies, false_implies]
  refine up_loop (lo := 0) (hi := nC ρ) (P := fun c => ∀ l3 l4, Run C_De_margin (fun r M' => r = some (vI (mg ρ (nC ρ))) ∧ M' = M) 5 [vR 117, vI (mg ρ c), vI c, l3, l4] [] M) (fun c c0 c1 ih l3 l4 => ?_) hc.1 _ _
  rw [r_De_margin_5]
  simp only [r_De_margin_6, r_De_margin_7, r_De_margin_10, r_De_margin_13, r_De_margin_16, r_De_margin_19, r_De_margin_20, true_and, and_true, or_true, true_or, or_false, false_or, false_and, and_false, not_true_eq_false, not_false_eq_true, implies_true, true_implies, false_implies, h.2.1]
  refine ⟨r32 (by omega) (by omega), r32 (by omega) (by omega), fun q => ?_, fun q => ?_⟩
  · simp only [r_De_margin_74, r_De_margin_75, true_and, and_true, or_true, true_or, or_false, false_or, false_and, and_false, not_true_eq_false, not_false_eq_true, implies_true, true_implies, false_implies]
    rw [show c = nC ρ by omega]
  · have hm := mg_bd ρ c c0
    refine up_loop (lo := 0) (hi := c) (P := fun o => ∀ l4, Run C_De_margin (fun r M' => r = some (vI (mg ρ (nC ρ))) ∧ M' = M) 21 [vR 117, vI (mn (mgF ρ c) (mg ρ c) o), vI c, vI o, l4] [] M) (fun o o0 o1 ih2 l4 => ?_) c0 _
    have hi := mg_in ρ hm.1 hm.2 c0 o0
    rw [r_De_margin_21]
    simp only [r_De_margin_22, r_De_margin_23, r_De_margin_26, r_De_margin_27, r_De_margin_28, r_De_margin_31, r_De_margin_34, r_De_margin_35, r_De_margin_36, r_De_margin_37, r_De_margin_40, r_De_margin_43, r_De_margin_44, r_De_margin_45, r_De_margin_48, r_De_margin_50, r_De_margin_52, r_De_margin_55, r_De_margin_56, r_De_margin_58, r_De_margin_61, r_De_margin_62, r_De_margin_65, r_De_margin_68, r_De_margin_71, true_and, and_true, or_true, true_or, or_false, false_or, false_and, and_false, not_true_eq_false, not_false_eq_true, implies_true, true_implies, false_implies]
    refine ⟨r32 (by omega) (by omega), r32 (by omega) (by omega), fun q2 => ?_, fun q2 => ⟨c0, by omega, o0, by omega, ?_⟩⟩
    · have hih := ih (by omega) (vI o) l4
      rw [show mg ρ (c + 1) = mn (mgF ρ c) (mg ρ c) c by unfold mg; rw [foI_s _ _ c0]] at hih
      rw [show o = c by omega] at hih ⊢
      exact hih
    · rw [h.2.2.2.2.2.1 c c0 (by omega), h.2.2.2.2.2.1 o o0 (by omega)]
      have hb := gC_bd hV c
      have hb2 := gC_bd hV o
      have hg := gp_bd ρ (gC ρ c) (gC ρ o)
      refine Cal.I (gap_s hV h.2.2.2.1 hb.1 hb.2.2 hb2.1 hb2.2.2) ?_
      have hih := ih2 (by omega) (vI (gp ρ (gC ρ c) (gC ρ o)))
      rw [mn_s _ _ o0] at hih
      unfold mgF at hih
      refine ⟨r32 (by omega) (by omega), fun q3 => ?_, fun q3 => ⟨r32 (by omega) (by omega), r32 (by omega) (by omega), ?_⟩⟩
      · rw [if_neg (show ¬ 0 < gp ρ (gC ρ c) (gC ρ o) by omega), if_neg] at hih
        · exact hih
        · unfold mgF at hi; omega
      · rw [if_pos (show 0 < gp ρ (gC ρ c) (gC ρ o) by omega)] at hih
        exact hih
/-- the signs of some code of a set of causes -/
noncomputable def unS (ρ : Rw) (S k acc : Int) : Int := if bit S k = true then ior acc (gC ρ k) else acc
noncomputable def un (ρ : Rw) (S : Int) : Int := foI (unS ρ S) 0 (nC ρ)
theorem un_bd {ρ : Rw} (hV : VR ρ) (S : Int) : ∀ n, 0 ≤ n → 0 ≤ foI (unS ρ S) 0 n ∧ foI (unS ρ S) 0 n < 4096 := by
  refine int_ind (by rw [foI_0]; decide) (fun n hn ih => ?_)
  rw [foI_s _ _ hn]
  have hb := gC_bd hV n
  unfold unS at ih ⊢
  split
  · exact ior_bd (n := 12) (by decide) ih.1 ih.2 hb.1 hb.2.2
  · exact ih
theorem unionOfCodes_s {ρ : Rw} {M : Mem} (h : DX ρ M) {S : Int} (S0 : 0 ≤ S) (S1 : S < 4096) : Cal Y_Co_unionOfCodes [vR 111, vI S] M (fun r M' => r = some (vI (un ρ S)) ∧ M' = M) := by
  have hV := h.1
  have hc := nC_bd hV
  refine Cal.mk (y := Y_Co_unionOfCodes) (loc := [vR 111, vI S, vN, vN]) G_Co_unionOfCodes rfl (by decide) rfl rfl (Nat.le_of_ble_eq_true rfl) ?_
  simp only [r_Co_unionOfCodes_0, r_Co_unionOfCodes_1, r_Co_unionOfCodes_2, r_Co_unionOfCodes_3, true_and, and_true, or_true, true_or, or_false, false_or, false_and, and_false, not_true_eq_false, not_false_eq_true, implies_true, true_implies, false_implies]
  refine up_loop (lo := 0) (hi := nC ρ) (P := fun c => Run C_Co_unionOfCodes _ 4 [vR 111, vI S, vI (foI (unS ρ S) 0 c), vI c] [] M) (fun c c0 c1 ih => ?_) hc.1
  rw [r_Co_unionOfCodes_4]
  simp only [r_Co_unionOfCodes_5, r_Co_unionOfCodes_6, r_Co_unionOfCodes_9, r_Co_unionOfCodes_12, r_Co_unionOfCodes_15, r_Co_unionOfCodes_16, r_Co_unionOfCodes_17, r_Co_unionOfCodes_20, r_Co_unionOfCodes_23, r_Co_unionOfCodes_24, r_Co_unionOfCodes_25, r_Co_unionOfCodes_28, r_Co_unionOfCodes_29, r_Co_unionOfCodes_30, r_Co_unionOfCodes_31, r_Co_unionOfCodes_32, r_Co_unionOfCodes_35, r_Co_unionOfCodes_38, r_Co_unionOfCodes_39, true_and, and_true, or_true, true_or, or_false, false_or, false_and, and_false, not_true_eq_false, not_false_eq_true, implies_true, true_implies, false_implies, h.2.1]
  refine ⟨r32 (by omega) (by omega), r32 (by omega) (by omega), fun q => ?_, fun q => ?_⟩
  · rw [show c = nC ρ by omega]; rfl
  · have hih := ih (by omega)
    rw [foI_s _ _ c0] at hih
    refine has_if S0 (by omega) c0 (by omega) (fun q2 => ⟨c0, by omega, ?_⟩) (fun q2 => ?_)
    · rw [h.2.2.2.2.2.1 c c0 (by omega)]
      rw [show unS ρ S c (foI (unS ρ S) 0 c) = ior (foI (unS ρ S) 0 c) (gC ρ c) from if_pos q2] at hih
      exact hih
    · rw [show unS ρ S c (foI (unS ρ S) 0 c) = foI (unS ρ S) 0 c from if_neg q2] at hih
      exact hih
noncomputable def sno (ρ : Rw) : Int := iand (p2 (nS ρ) - 1) (ixor (un ρ (p2 (nC ρ) - 1)) (-1))
theorem signsInNone_s {ρ : Rw} {M : Mem} (h : DX ρ M) : Cal Y_Co_signsInNone [vR 111] M (fun r M' => r = some (vI (sno ρ)) ∧ M' = M) := by
  have hc := nC_bd h.1
  have hs := nS_bd h.1
  have h1 := p2_12 hc.2
  have h2 := p2_pos (nC ρ)
  refine Cal.mk (y := Y_Co_signsInNone) (loc := [vR 111, vN]) G_Co_signsInNone rfl (by decide) rfl rfl (Nat.le_of_ble_eq_true rfl) ?_
  simp only [r_Co_signsInNone_0, r_Co_signsInNone_1, r_Co_signsInNone_2, r_Co_signsInNone_5, r_Co_signsInNone_8, r_Co_signsInNone_9, r_Co_signsInNone_10, r_Co_signsInNone_11, r_Co_signsInNone_12, r_Co_signsInNone_13, r_Co_signsInNone_14, r_Co_signsInNone_15, r_Co_signsInNone_16, r_Co_signsInNone_19, r_Co_signsInNone_22, r_Co_signsInNone_23, r_Co_signsInNone_24, r_Co_signsInNone_25, r_Co_signsInNone_28, r_Co_signsInNone_29, r_Co_signsInNone_30, r_Co_signsInNone_31, true_and, and_true, or_true, true_or, or_false, false_or, false_and, and_false, not_true_eq_false, not_false_eq_true, implies_true, true_implies, false_implies, h.2.1, h.2.2.1, p2_def]
  refine ⟨⟨hs.1, by omega⟩, ⟨hc.1, by omega⟩, ?_⟩
  exact Cal.I (unionOfCodes_s h (by omega) (by omega)) ⟨rfl, rfl⟩
