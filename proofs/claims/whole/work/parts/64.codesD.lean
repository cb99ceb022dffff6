/-! the class's Codes: codes of small sets; a walk over the list is a walk over keys -/
theorem hasRuleOfSeveral_s {τ : Rw} (hV : VR τ) {M : Mem} (hX : XT M τ) : Cal Y_Mo_hasRuleOfSeveral [vR 1] M (fun r M' => r = some (vI (if dec (∃ r, 0 ≤ r ∧ r < τ 2 ∧ 3 ≤ τ (76 + 5 * r)) = true then 1 else 0)) ∧ M' = M) := by
  have h2 := hV.2.2.1
  refine Cal.mk (y := Y_Mo_hasRuleOfSeveral) (loc := [vR 1, vN]) G_Mo_hasRuleOfSeveral rfl (by decide) rfl rfl (Nat.le_of_ble_eq_true rfl) ?_
  simp only [r_Mo_hasRuleOfSeveral_0, r_Mo_hasRuleOfSeveral_1, true_and, and_true, or_true, true_or, or_false, false_or, false_and, and_false, not_true_eq_false, not_false_eq_true, implies_true, true_implies, false_implies]
  refine up_loop (lo := 0) (hi := τ 2) (P := fun k => (∀ r, 0 ≤ r → r < k → ¬ 3 ≤ τ (76 + 5 * r)) → Run C_Mo_hasRuleOfSeveral (fun r M' => r = some (vI (if dec (∃ r, 0 ≤ r ∧ r < τ 2 ∧ 3 ≤ τ (76 + 5 * r)) = true then 1 else 0)) ∧ M' = M) 2 [vR 1, vI k] [] M) (fun k k0 k1 ih hk => ?_) h2.1 (fun r a b => by omega)
  rw [r_Mo_hasRuleOfSeveral_2]
  simp only [r_Mo_hasRuleOfSeveral_3, r_Mo_hasRuleOfSeveral_4, r_Mo_hasRuleOfSeveral_7, r_Mo_hasRuleOfSeveral_10, r_Mo_hasRuleOfSeveral_11, r_Mo_hasRuleOfSeveral_12, r_Mo_hasRuleOfSeveral_13, r_Mo_hasRuleOfSeveral_16, r_Mo_hasRuleOfSeveral_17, r_Mo_hasRuleOfSeveral_20, r_Mo_hasRuleOfSeveral_21, r_Mo_hasRuleOfSeveral_22, r_Mo_hasRuleOfSeveral_25, r_Mo_hasRuleOfSeveral_28, r_Mo_hasRuleOfSeveral_29, true_and, and_true, or_true, true_or, or_false, false_or, false_and, and_false, not_true_eq_false, not_false_eq_true, implies_true, true_implies, false_implies, hX.2.2.1]
  refine ⟨r32 (by omega) (by omega), r32 (by omega) (by omega), fun q => ?_, fun q => ?_⟩
  · rw [dec_f (fun ⟨r, a, b, c⟩ => hk r a (by omega) c)]; rfl
  · have hv := (hV.2.2.2.2.2.2.2.1 k k0 (by omega)).1
    refine Cal.I (part_s hX k0 (by omega) (by decide) (by decide)) ?_
    rw [n76.1]
    refine ⟨r32 (by omega) (by omega), r32 (by decide) (by decide), fun q2 => ih (by omega) (fun r a b => ?_), fun q2 => ?_⟩
    · by_cases z : r = k
      · rw [z]; omega
      · exact hk r a (by omega)
    · rw [dec_t ⟨k, k0, by omega, by omega⟩]
      exact ⟨rfl, rfl⟩
theorem X_renewSets {σ : St} (hV : VS σ) {M : Mem} (h : XC σ M) : Cal Y_Co_renewSets [vR 111] M (fun r M' => r = none ∧ XC σ M' ∧ SK (tau σ.1) M' ∧ Kp (fun c => 105 ≤ c ∧ c ≤ 115) M M') := by
  have hT := VR_tau hV.1
  have hc := nC_bd hV.1
  have hp12 := p2_12 hc.2
  have hX := h.1.1.t
  have hR := h.1.rc
  have hS := h.1.rs
  have hD := h.dx hV
  have hCX := h.1.2.2.2.2.2.2.2.2
  refine Cal.mk (y := Y_Co_renewSets) (loc := [vR 111, vN, vN]) G_Co_renewSets rfl (by decide) rfl rfl (Nat.le_of_ble_eq_true rfl) ?_
  simp only [r_Co_renewSets_0, r_Co_renewSets_1, r_Co_renewSets_4, r_Co_renewSets_7, r_Co_renewSets_8, r_Co_renewSets_9, true_and, and_true, or_true, true_or, or_false, false_or, false_and, and_false, not_true_eq_false, not_false_eq_true, implies_true, true_implies, false_implies]
  refine ⟨fl01 hCX.2.1, fun q => ?_, fun q => ?_⟩
  rotate_left
  · exact ⟨h, (hCX.2.1.resolve_left q).2, Kp.rf⟩
  refine (listSets_s hc.1 hc.2 hD.2.1).mono ?_
  rintro _ M1 ⟨rfl, ⟨n, n0, n1, li, all⟩, f1, k1⟩
  simp only [r_Co_renewSets_12, r_Co_renewSets_13, r_Co_renewSets_16, true_and, and_true, or_true, true_or, or_false, false_or, false_and, and_false, not_true_eq_false, not_false_eq_true, implies_true, true_implies, false_implies]
  refine Cal.I (hasRuleOfSeveral_s hT (hX.kp k1 (fun c a b => by omega))) ?_
  simp only [r_Co_renewSets_19, r_Co_renewSets_20, r_Co_renewSets_21, r_Co_renewSets_24, r_Co_renewSets_25, true_and, and_true, or_true, true_or, or_false, false_or, false_and, and_false, not_true_eq_false, not_false_eq_true, implies_true, true_implies, false_implies]
  refine (readLinks_s hT (hX.kp k1 (fun c a b => by omega)) (r32 (by decide) (by decide))).mono ?_
  rintro _ M2 ⟨rfl, t2, k2⟩
  simp only [r_Co_renewSets_28, r_Co_renewSets_29, true_and, and_true, or_true, true_or, or_false, false_or, false_and, and_false, not_true_eq_false, not_false_eq_true, implies_true, true_implies, false_implies]
  generalize hb : (if dec (∃ r, 0 ≤ r ∧ r < tau σ.1 2 ∧ 3 ≤ tau σ.1 (76 + 5 * r)) = true then (1 : Int) else 0) = b
  refine up_loop (lo := 0) (hi := n) (P := fun i => ∀ M3, Kp (fun c => (105 ≤ c ∧ c ≤ 110) ∨ c = 115) M1 M3 → LT (tau σ.1) (-1) M3 → (∀ j, 0 ≤ j → j < i → M3.1 115 j = cod (tau σ.1) (-1) (M1.1 114 j)) → Run C_Co_renewSets (fun r M' => r = none ∧ XC σ M' ∧ SK (tau σ.1) M' ∧ Kp (fun c => 105 ≤ c ∧ c ≤ 115) M M') 30 [vR 111, vI b, vI i] [] M3) (fun i i0 i1 ih M3 k3 t3 c3 => ?_) n0 M2 (k2.sub (fun c z => by omega)) t2 (fun j x y => by omega)
  have e1 := k3.c (c := 111) (by decide)
  have e4 := k3.c (c := 114) (by decide)
  have kk : Kp (fun c => (105 ≤ c ∧ c ≤ 111) ∨ c = 114 ∨ c = 115) M M3 := (k1.sub (fun c z => by omega)).trans (k3.sub (fun c z => by omega))
  rw [r_Co_renewSets_30]
  simp only [r_Co_renewSets_31, r_Co_renewSets_32, r_Co_renewSets_35, r_Co_renewSets_38, r_Co_renewSets_39, r_Co_renewSets_42, r_Co_renewSets_43, r_Co_renewSets_46, r_Co_renewSets_47, r_Co_renewSets_50, r_Co_renewSets_51, r_Co_renewSets_52, r_Co_renewSets_55, r_Co_renewSets_56, r_Co_renewSets_59, r_Co_renewSets_60, r_Co_renewSets_61, r_Co_renewSets_64, r_Co_renewSets_65, r_Co_renewSets_68, r_Co_renewSets_69, r_Co_renewSets_72, r_Co_renewSets_73, r_Co_renewSets_74, r_Co_renewSets_75, r_Co_renewSets_78, r_Co_renewSets_79, r_Co_renewSets_80, r_Co_renewSets_83, r_Co_renewSets_84, r_Co_renewSets_87, true_and, and_true, or_true, true_or, or_false, false_or, false_and, and_false, not_true_eq_false, not_false_eq_true, implies_true, true_implies, false_implies, e1, li.1, e4]
  refine ⟨r32 (by omega) (by omega), r32 (by omega) (by omega), fun q1 => ?_, fun q1 => ?_⟩
  · simp only [r_Co_renewSets_90, r_Co_renewSets_91, r_Co_renewSets_92, r_Co_renewSets_95, true_and, and_true, or_true, true_or, or_false, false_or, false_and, and_false, not_true_eq_false, not_false_eq_true, implies_true, true_implies, false_implies]
    have ei : i = n := by omega
    rw [ei] at c3
    have k4 : Kp (fun c => (105 ≤ c ∧ c ≤ 111) ∨ c = 114 ∨ c = 115) M (wI M3 111 13 1) := Kp.w kk (by decide)
    have hSK : SK (tau σ.1) (wI M3 111 13 1) := by
      unfold SK
      rw [wI_oth (by decide), wI_c (by decide), wI_c (by decide), e1, e4, li.1, nC_t hV]
      refine ⟨n0, n1, fun j x y => ?_, li.2.2, fun s x y w => all s x y w⟩
      have := li.2.1 j x y
      exact ⟨this.1, this.2.1, this.2.2.1, c3 j x y⟩
    have hxi : XI σ (wI M3 111 13 1) := h.1.cx k4 (fun c a => by omega) (fun c a b => by omega) (hCX.s ?_ ?_ ?_ ?_ (k4.c (by decide)) (k4.c (by decide)) (Or.inr ⟨wI_same _ _ _ _, hSK⟩))
    · refine ⟨⟨hxi, fun c x y => ?_⟩, hSK, k4.sub (fun c z => by omega)⟩
      rw [k4.c (by decide), k4.c (by decide)]; exact h.2 c x y
    · rw [wI_oth (by decide), e1]; exact f1 10 (by decide)
    · rw [wI_oth (by decide), e1]; exact f1 11 (by decide)
    · rw [wI_oth (by decide), e1]; exact f1 12 (by decide)
    · rw [wI_oth (by decide), e1]; exact f1 14 (by decide)
  · have hl := li.2.1 i i0 (by omega)
    have go : ∀ M4, Kp (fun c => (105 ≤ c ∧ c ≤ 110) ∨ c = 115) M1 M4 → LT (tau σ.1) (-1) M4 → (∀ j, 0 ≤ j → j < i → M4.1 115 j = cod (tau σ.1) (-1) (M1.1 114 j)) → Run C_Co_renewSets (fun r M' => r = none ∧ XC σ M' ∧ SK (tau σ.1) M' ∧ Kp (fun c => 105 ≤ c ∧ c ≤ 115) M M') 30 [vR 111, vI b, vI (i + 1)] [] (wI M4 115 i (cod (tau σ.1) (-1) (M1.1 114 i))) := fun M4 k4 t4 c4 => by
      refine ih (by omega) _ (Kp.w k4 (by decide)) (t4.kp (P := fun c => c = 115) (Kp.w Kp.rf rfl) (fun c x y => by omega)) (fun j x y => ?_)
      rw [wI_at]
      by_cases z : j = i
      · rw [if_pos ⟨rfl, z⟩, z]
      · rw [if_neg (fun w => z w.2)]; exact c4 j x (by omega)
    have hbr : R32 b := by rw [← hb]; split <;> exact r32 (by decide) (by decide)
    refine ⟨hbr, fun q2 => ⟨i0, by omega, ?_⟩, fun q2 => ⟨i0, by omega, ?_⟩⟩
    · have hno : ¬ ∃ r, 0 ≤ r ∧ r < tau σ.1 2 ∧ 3 ≤ tau σ.1 (76 + 5 * r) := fun z => by
        rw [dec_t z, if_pos rfl] at hb; omega
      have hr : ∀ r, 0 ≤ r → r < σ.1 2 → σ.1 (76 + 5 * r) < 3 := fun r x y => by
        have h2 := hV.1.2.2.1
        rcases Int.lt_or_le (σ.1 (76 + 5 * r)) 3 with z | z
        · exact z
        · exact absurd ⟨r, x, by rw [tau_lo (by decide) (by decide)]; exact y, by rw [tau_hi (by omega) (by omega)]; exact z⟩ hno
      refine Cal.I (unionOfCodes_s (hD.kp kk (by decide) (by decide) (by decide) (by decide) (by decide)) (S := M1.1 114 i) (by omega) (by omega)) ⟨i0, by omega, ?_⟩
      rw [un_cod hV.1 hr]
      exact go M3 k3 t3 c3
    · refine (flow_s hT (S := M1.1 114 i) (by omega) (by omega) (hX.kp kk (fun c a b => by omega)) t3 (hR.kp kk (fun c a b => by omega))).mono ?_
      rintro _ M4 ⟨rfl, f4, k4⟩
      refine ⟨rfl, Cal.I (codeOfFlow_s hT f4 ((hS.kp kk (fun c a b => by omega)).kp k4 (fun c a b => by omega))) ⟨i0, by omega, ?_⟩⟩
      refine go M4 (k3.trans (k4.sub (fun c z => by omega))) (t3.kp k4 (fun c a b => by omega)) (fun j x y => ?_)
      rw [k4.at (by decide)]; exact c3 j x y
/-- the key of a set of one to three causes -/
def kv (nc k : Int) : Prop := 0 < k % 4096 ∧ k % 4096 < p2 nc ∧ pcI (k % 4096) ≤ 3 ∧ k = skey (k % 4096)
/-- the key where the walk stands -/
def Kx (M : Mem) (i : Int) : Int := if i < M.1 111 9 then skey (M.1 114 i) else 16384
theorem skey_v {nc s : Int} (n1 : nc ≤ 12) (s0 : 0 < s) (s1 : s < p2 nc) (s2 : pcI s ≤ 3) : 0 < skey s ∧ skey s < 16384 ∧ skey s % 4096 = s ∧ skey s / 4096 = pcI s ∧ kv nc (skey s) := by
  have := p2_12 n1
  have := pcI_bd s
  have e : skey s % 4096 = s := by unfold skey; omega
  refine ⟨by unfold skey; omega, by unfold skey; omega, e, by unfold skey; omega, ?_⟩
  unfold kv
  rw [e]
  exact ⟨s0, s1, s2, rfl⟩
theorem Kx_in {τ : Rw} (hV : VR τ) {M : Mem} (h : SK τ M) {i : Int} (i0 : 0 ≤ i) (i1 : i < M.1 111 9) : Kx M i = skey (M.1 114 i) ∧ 0 < Kx M i ∧ Kx M i < 16384 ∧ Kx M i % 4096 = M.1 114 i ∧ kv (nC τ) (Kx M i) ∧ Kx M i < Kx M (i + 1) ∧ ∀ k, Kx M i < k → k < Kx M (i + 1) → ¬ kv (nC τ) k := by
  have hc := nC_bd hV
  have hl := h.2.2.1 i i0 i1
  have hs := skey_v hc.2 hl.1 hl.2.1 hl.2.2.1
  have e : Kx M i = skey (M.1 114 i) := if_pos i1
  rw [e]
  refine ⟨rfl, hs.1, hs.2.1, hs.2.2.1, hs.2.2.2.2, ?_, fun k a b c => ?_⟩
  · unfold Kx
    split
    · rename_i z; exact h.2.2.2.1 i (i + 1) i0 (by omega) z
    · exact hs.2.1
  · obtain ⟨j, j0, j1, j2⟩ := h.2.2.2.2 (k % 4096) c.1 c.2.1 c.2.2.1
    have ek : skey (M.1 114 j) = k := by rw [j2]; exact c.2.2.2.symm
    rcases Int.lt_trichotomy j i with z | z | z
    · have := h.2.2.2.1 j i j0 z i1; omega
    · rw [z] at ek; omega
    · unfold Kx at b
      rw [if_pos (by omega)] at b
      by_cases y : j = i + 1
      · rw [y] at ek; omega
      · have := h.2.2.2.1 (i + 1) j (by omega) (by omega) j1; omega
theorem Kx_0 {τ : Rw} {M : Mem} (h : SK τ M) : 0 ≤ Kx M 0 ∧ Kx M 0 ≤ 16384 ∧ ∀ k, 0 ≤ k → k < Kx M 0 → ¬ kv (nC τ) k := by
  have hp : ∀ i, 0 ≤ i → i < M.1 111 9 → 0 < M.1 114 i ∧ pcI (M.1 114 i) ≤ 3 := fun i a b => ⟨(h.2.2.1 i a b).1, (h.2.2.1 i a b).2.2.1⟩
  have hno : ∀ k, 0 ≤ k → k < Kx M 0 → ¬ kv (nC τ) k := fun k a b c => by
    obtain ⟨j, j0, j1, j2⟩ := h.2.2.2.2 (k % 4096) c.1 c.2.1 c.2.2.1
    have ek : skey (M.1 114 j) = k := by rw [j2]; exact c.2.2.2.symm
    unfold Kx at b
    rw [if_pos (by omega)] at b
    by_cases y : j = 0
    · rw [y] at ek; omega
    · have := h.2.2.2.1 0 j (by decide) (by omega) j1; omega
  unfold Kx at hno ⊢
  split
  · rename_i z
    have h1 := hp 0 (by decide) z
    have h2 := pcI_bd (M.1 114 0)
    rw [if_pos z] at hno
    have h3 : skey (M.1 114 0) ≤ 16384 := by
      rcases Int.lt_or_le 16384 (skey (M.1 114 0)) with y | y
      · exfalso
        obtain ⟨-, hb, -⟩ := h.2.2.1 0 (by decide) z
        by_cases w : M.1 114 0 < 4096
        · unfold skey at y; omega
        · have hv : kv (nC τ) (skey 1) := by
            have e : skey 1 = 4097 := by decide
            rw [e]
            refine ⟨by decide, ?_, by decide, by decide⟩
            have e1 : (4097 : Int) % 4096 = 1 := by decide
            rw [e1]; omega
          have e : skey 1 = 4097 := by decide
          rw [e] at hv
          exact hno 4097 (by decide) (by omega) hv
      · exact y
    exact ⟨by unfold skey; omega, h3, hno⟩
  · rename_i z
    rw [if_neg z] at hno
    exact ⟨by decide, by decide, hno⟩
theorem fo_K0 {τ : Rw} {M : Mem} (h : SK τ M) {st : Int → Int → Int} (hs : ∀ k a, ¬ kv (nC τ) k → st k a = a) (z : Int) : foI st z (Kx M 0) = z := by
  have h0 := Kx_0 h
  rw [foI_stop (m := 0) (by decide) (Kx M 0) h0.1 (fun k a b c => hs k a (h0.2.2 k b c))]
  rfl
theorem fo_Ks {τ : Rw} (hV : VR τ) {M : Mem} (h : SK τ M) {st : Int → Int → Int} (hs : ∀ k a, ¬ kv (nC τ) k → st k a = a) (z : Int) {i : Int} (i0 : 0 ≤ i) (i1 : i < M.1 111 9) : foI st z (Kx M (i + 1)) = st (Kx M i) (foI st z (Kx M i)) := by
  obtain ⟨a1, a2, a3, a4, a5, a6, a7⟩ := Kx_in hV h i0 i1
  rw [foI_stop (m := Kx M i + 1) (by omega) (Kx M (i + 1)) (by omega) (fun k a b c => hs k a (a7 k (by omega) c)), foI_s _ _ (by omega)]
