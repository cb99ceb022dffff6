/-! cover of the class: its offers -/
theorem ssub_trans {a b c : Int} (h1 : ssub a b) (h2 : ssub b c) : ssub a c := fun i i0 z => h2 i i0 (h1 i i0 z)
theorem offer_s {E0 : Int → Prop} {M : Mem} {n cnt e : Int} (hn : M.1 123 4 = n) (n0 : 0 ≤ n) (n1 : n ≤ cnt) (hc : cnt < 240) (hO : ∀ i, 0 ≤ i → i < n → (0 ≤ M.1 124 i ∧ M.1 124 i < 1048576) ∧ E0 (M.1 124 i)) (e0 : 0 ≤ e) (e1 : e < 1048576) (he : E0 e) : Cal Y_Cr_offer [vR 123, vI e] M (fun r M' => r = none ∧ Kp (fun c => c = 123 ∨ c = 124) M M' ∧ ∃ n', M'.1 123 4 = n' ∧ 0 ≤ n' ∧ n' ≤ cnt + 1 ∧ (∀ i, 0 ≤ i → i < n' → (0 ≤ M'.1 124 i ∧ M'.1 124 i < 1048576) ∧ E0 (M'.1 124 i)) ∧ (∀ s, (ssub s e ∨ ∃ i, 0 ≤ i ∧ i < n ∧ ssub s (M.1 124 i)) → ∃ j, 0 ≤ j ∧ j < n' ∧ ssub s (M'.1 124 j))) := by
  generalize hQ : (fun (r : Option Vl) (M' : Mem) => r = none ∧ Kp (fun c => c = 123 ∨ c = 124) M M' ∧ ∃ n', M'.1 123 4 = n' ∧ 0 ≤ n' ∧ n' ≤ cnt + 1 ∧ (∀ i, 0 ≤ i → i < n' → (0 ≤ M'.1 124 i ∧ M'.1 124 i < 1048576) ∧ E0 (M'.1 124 i)) ∧ (∀ s, (ssub s e ∨ ∃ i, 0 ≤ i ∧ i < n ∧ ssub s (M.1 124 i)) → ∃ j, 0 ≤ j ∧ j < n' ∧ ssub s (M'.1 124 j))) = Q
  -- what is within e goes; e comes
  have second : ∀ l3, Run C_Cr_offer Q 30 [vR 123, vI e, vI n, l3] [] M := by
    intro l3
    simp only [r_Cr_offer_30, r_Cr_offer_31, r_Cr_offer_32, r_Cr_offer_33, true_and, and_true, or_true, true_or, or_false, false_or, false_and, and_false, not_true_eq_false, not_false_eq_true, implies_true, true_implies, false_implies]
    refine up_loop (lo := 0) (hi := n) (P := fun i => ∀ M1 left, Kp (fun c => c = 124) M M1 → 0 ≤ left → left ≤ i → (∀ j, i ≤ j → j < n → M1.1 124 j = M.1 124 j) → (∀ j, 0 ≤ j → j < left → (0 ≤ M1.1 124 j ∧ M1.1 124 j < 1048576) ∧ E0 (M1.1 124 j)) → (∀ j, 0 ≤ j → j < i → ssub (M.1 124 j) e ∨ ∃ k, 0 ≤ k ∧ k < left ∧ M1.1 124 k = M.1 124 j) → Run C_Cr_offer Q 34 [vR 123, vI e, vI left, vI i] [] M1) (fun i i0 i1 ih M1 left k1 l0 l1 t1 a1 b1 => ?_) n0 M 0 Kp.rf (by decide) (by decide) (fun j x y => rfl) (fun j x y => by omega) (fun j x y => by omega)
    have en : M1.1 123 4 = n := by rw [k1.at (by decide)]; exact hn
    rw [r_Cr_offer_34]
    simp only [r_Cr_offer_35, r_Cr_offer_36, r_Cr_offer_39, r_Cr_offer_42, r_Cr_offer_43, r_Cr_offer_46, r_Cr_offer_47, r_Cr_offer_48, r_Cr_offer_49, r_Cr_offer_50, r_Cr_offer_51, r_Cr_offer_52, r_Cr_offer_55, r_Cr_offer_56, r_Cr_offer_59, r_Cr_offer_60, r_Cr_offer_61, r_Cr_offer_64, r_Cr_offer_65, r_Cr_offer_66, r_Cr_offer_67, r_Cr_offer_70, r_Cr_offer_73, r_Cr_offer_76, r_Cr_offer_77, r_Cr_offer_78, r_Cr_offer_81, r_Cr_offer_82, r_Cr_offer_85, r_Cr_offer_86, r_Cr_offer_89, r_Cr_offer_90, r_Cr_offer_91, r_Cr_offer_92, r_Cr_offer_95, r_Cr_offer_96, r_Cr_offer_97, r_Cr_offer_100, true_and, and_true, or_true, true_or, or_false, false_or, false_and, and_false, not_true_eq_false, not_false_eq_true, implies_true, true_implies, false_implies, en]
    refine ⟨r32 (by omega) (by omega), r32 (by omega) (by omega), fun q => ⟨r32 (by omega) (by omega), r32 (by decide) (by decide), fun q2 => by omega, fun q2 => ⟨l0, by omega, ?_⟩⟩, fun q => ⟨i0, by omega, ?_⟩⟩
    · rw [← hQ]
      have ei : i = n := by omega
      rw [ei] at b1
      have e4 : ∀ j, (wI (wI M1 124 left e) 123 4 (left + 1)).1 124 j = if j = left then e else M1.1 124 j := fun j => by
        rw [wI_c (by decide), wI_at]
        by_cases y : j = left
        · rw [if_pos ⟨rfl, y⟩, if_pos y]
        · rw [if_neg (fun x => y x.2), if_neg y]
      refine ⟨rfl, Kp.w (Kp.w (k1.sub (fun c z => Or.inr z)) (Or.inr rfl)) (Or.inl rfl), left + 1, wI_same _ _ _ _, by omega, by omega, fun j x y => ?_, fun s hs => ?_⟩
      · rw [e4]
        by_cases z : j = left
        · rw [if_pos z]; exact ⟨⟨e0, e1⟩, he⟩
        · rw [if_neg z]; exact a1 j x (by omega)
      · have he' : ssub s e → ∃ j, 0 ≤ j ∧ j < left + 1 ∧ ssub s ((wI (wI M1 124 left e) 123 4 (left + 1)).1 124 j) := fun z => ⟨left, l0, by omega, by rw [e4, if_pos rfl]; exact z⟩
        rcases hs with z | ⟨j, x, y, z⟩
        · exact he' z
        · rcases b1 j x y with w | ⟨k, w0, w1, w2⟩
          · exact he' (ssub_trans z w)
          · exact ⟨k, w0, by omega, by rw [e4, if_neg (by omega), w2]; exact z⟩
    · rw [t1 i (Int.le_refl _) (by omega)]
      have hb := hO i i0 (by omega)
      have hd := dif_bd hb.1.1 hb.1.2 e0
      rw [show iand (M.1 124 i) (ixor e (-1)) = dif (M.1 124 i) e from rfl]
      refine ⟨r32 (by omega) (by omega), fun q2 => ?_, fun q2 => ⟨i0, by omega, l0, by omega, ?_⟩⟩
      · refine ih (by omega) M1 left k1 l0 (by omega) (fun j x y => t1 j (by omega) y) a1 (fun j x y => ?_)
        by_cases z : j = i
        · rw [z]; exact Or.inl ((dif_0 hb.1.1 hb.1.2 e0).1 q2)
        · exact b1 j x (by omega)
      · have e4 : ∀ j, (wI M1 124 left (M.1 124 i)).1 124 j = if j = left then M.1 124 i else M1.1 124 j := fun j => by
          rw [wI_at]
          by_cases y : j = left
          · rw [if_pos ⟨rfl, y⟩, if_pos y]
          · rw [if_neg (fun x => y x.2), if_neg y]
        refine ih (by omega) _ (left + 1) (Kp.w k1 rfl) (by omega) (by omega) (fun j x y => ?_) (fun j x y => ?_) (fun j x y => ?_)
        · rw [e4, if_neg (by omega)]; exact t1 j (by omega) y
        · rw [e4]
          by_cases z : j = left
          · rw [if_pos z]; exact hb
          · rw [if_neg z]; exact a1 j x (by omega)
        · by_cases z : j = i
          · exact Or.inr ⟨left, l0, by omega, by rw [e4, if_pos rfl, z]⟩
          · rcases b1 j x (by omega) with w | ⟨k, w0, w1, w2⟩
            · exact Or.inl w
            · exact Or.inr ⟨k, w0, by omega, by rw [e4, if_neg (by omega)]; exact w2⟩
  refine Cal.mk (y := Y_Cr_offer) (loc := [vR 123, vI e, vN, vN]) G_Cr_offer rfl (by decide) rfl rfl (Nat.le_of_ble_eq_true rfl) ?_
  simp only [r_Cr_offer_0, r_Cr_offer_1, true_and, and_true, or_true, true_or, or_false, false_or, false_and, and_false, not_true_eq_false, not_false_eq_true, implies_true, true_implies, false_implies]
  refine up_loop (lo := 0) (hi := n) (P := fun k => Run C_Cr_offer Q 2 [vR 123, vI e, vI k, vN] [] M) (fun k k0 k1 ih => ?_) n0
  rw [r_Cr_offer_2]
  simp only [r_Cr_offer_3, r_Cr_offer_4, r_Cr_offer_7, r_Cr_offer_10, r_Cr_offer_11, r_Cr_offer_12, r_Cr_offer_15, r_Cr_offer_16, r_Cr_offer_17, r_Cr_offer_18, r_Cr_offer_19, r_Cr_offer_20, r_Cr_offer_23, r_Cr_offer_24, r_Cr_offer_27, true_and, and_true, or_true, true_or, or_false, false_or, false_and, and_false, not_true_eq_false, not_false_eq_true, implies_true, true_implies, false_implies, hn]
  refine ⟨r32 (by omega) (by omega), r32 (by omega) (by omega), fun q => ?_, fun q => ⟨k0, by omega, ?_⟩⟩
  · rw [show k = n by omega]; exact second _
  · have hb := hO k k0 (by omega)
    have hd := dif_bd e0 e1 hb.1.1
    rw [show iand e (ixor (M.1 124 k) (-1)) = dif e (M.1 124 k) from rfl]
    refine ⟨r32 (by omega) (by omega), fun q2 => ih (by omega), fun q2 => ?_⟩
    rw [← hQ]
    refine ⟨rfl, Kp.rf, n, hn, n0, by omega, hO, fun s hs => ?_⟩
    rcases hs with z | z
    · exact ⟨k, k0, by omega, ssub_trans z ((dif_0 e0 e1 hb.1.1).1 (Classical.not_not.1 q2))⟩
    · exact z
theorem listOffers_s {ρ tm : Rw} {M : Mem} (h : DX ρ M) (hX : XR M 1 ρ) (hm : TM tm) (hT : ∀ i, 0 ≤ i → i < 4 → M.1 96 i = tm i) : Cal Y_Cr_listOffers [vR 123] M (fun r M' => r = none ∧ Kp (fun c => c = 123 ∨ c = 124) M M' ∧ ∃ n, M'.1 123 4 = n ∧ 0 ≤ n ∧ n ≤ 240 ∧ (∀ i, 0 ≤ i → i < n → 0 ≤ M'.1 124 i ∧ M'.1 124 i < 1048576) ∧ OF ρ tm n (M'.1 124)) := by
  have hV := h.1
  have hc := nC_bd hV
  have h3 := hV.2.2.2.1
  have e3 : M.1 1 3 = ρ 3 := hX.1 3 (by decide) (by decide)
  refine Cal.mk (y := Y_Cr_listOffers) (loc := [vR 123, vN, vN]) G_Cr_listOffers rfl (by decide) rfl rfl (Nat.le_of_ble_eq_true rfl) ?_
  simp only [r_Cr_listOffers_0, r_Cr_listOffers_1, r_Cr_listOffers_2, r_Cr_listOffers_5, r_Cr_listOffers_6, true_and, and_true, or_true, true_or, or_false, false_or, false_and, and_false, not_true_eq_false, not_false_eq_true, implies_true, true_implies, false_implies]
  refine up_loop (lo := 0) (hi := nC ρ) (P := fun c => ∀ M1 n l2, Kp (fun c => c = 123 ∨ c = 124) M M1 → M1.1 123 4 = n → 0 ≤ n → n ≤ 20 * c → (∀ i, 0 ≤ i → i < n → (0 ≤ M1.1 124 i ∧ M1.1 124 i < 1048576) ∧ cvE ρ tm (M1.1 124 i)) → (∀ c' k, 0 ≤ c' → c' < c → 0 ≤ k → k < ρ 3 → ∃ j, 0 ≤ j ∧ j < n ∧ ssub (ex ρ tm c' (sc ρ tm c' k)) (M1.1 124 j)) → Run C_Cr_listOffers (fun r M' => r = none ∧ Kp (fun c => c = 123 ∨ c = 124) M M' ∧ ∃ n, M'.1 123 4 = n ∧ 0 ≤ n ∧ n ≤ 240 ∧ (∀ i, 0 ≤ i → i < n → 0 ≤ M'.1 124 i ∧ M'.1 124 i < 1048576) ∧ OF ρ tm n (M'.1 124)) 7 [vR 123, vI c, l2] [] M1) (fun c c0 c1 ih M1 n l2 k1 hn n0 n1 hO hD => ?_) hc.1 _ 0 _ (Kp.w Kp.rf (Or.inl rfl)) (wI_same _ _ _ _) (by decide) (by decide) (fun i x y => by omega) (fun c' k x y => by omega)
  have D1 := h.kp k1 (by decide) (by decide) (by decide) (by decide) (by decide)
  rw [r_Cr_listOffers_7]
  simp only [r_Cr_listOffers_8, r_Cr_listOffers_9, r_Cr_listOffers_12, r_Cr_listOffers_15, r_Cr_listOffers_18, r_Cr_listOffers_21, r_Cr_listOffers_22, true_and, and_true, or_true, true_or, or_false, false_or, false_and, and_false, not_true_eq_false, not_false_eq_true, implies_true, true_implies, false_implies, D1.2.1]
  refine ⟨r32 (by omega) (by omega), r32 (by omega) (by omega), fun q => ?_, fun q => ?_⟩
  · simp only [r_Cr_listOffers_61, true_and, and_true, or_true, true_or, or_false, false_or, false_and, and_false, not_true_eq_false, not_false_eq_true, implies_true, true_implies, false_implies]
    have ec : c = nC ρ := by omega
    rw [ec] at hD
    refine ⟨k1, n, hn, n0, by omega, fun i x y => (hO i x y).1, fun i x y => (hO i x y).2, fun e he hz => ?_⟩
    obtain ⟨c', u, p1, p2, p3, p4, rfl⟩ := he
    have hb := ex_bd (tm := tm) hV c' u
    obtain ⟨k, k0, kb⟩ := nz_any hb.1 hz
    have kb2 := kb
    rw [ex_bit k0, Bool.and_eq_true, decide_eq_true_eq] at kb2
    have hx := kb2.2
    unfold exB at hx
    rw [decide_eq_true_eq] at hx
    have hsu : sc ρ tm c' k ≤ u := by unfold sc; split <;> omega
    obtain ⟨d, ⟨k', q1, q2, q3⟩, d2, d3⟩ := cand_max (Cd := fun d => ∃ k, 0 ≤ k ∧ k < ρ 3 ∧ d = sc ρ tm c' k) (c0 := sc ρ tm c' k) (u := u) ⟨k, k0, kb2.1, rfl⟩ hsu
    obtain ⟨j, j0, j1, j2⟩ := hD c' k' p1 p2 q1 q2
    refine ⟨j, j0, j1, ssub_trans (fun i i0 z => ?_) j2⟩
    have := ex_sub hm p3 d2 (fun k a b e => d3 _ ⟨k, a, b, rfl⟩ e) i i0 z
    rw [q3] at this; exact this
  · refine up_loop (lo := 0) (hi := ρ 3) (P := fun k => ∀ M2 n, Kp (fun c => c = 123 ∨ c = 124) M M2 → M2.1 123 4 = n → 0 ≤ n → n ≤ 20 * c + k → (∀ i, 0 ≤ i → i < n → (0 ≤ M2.1 124 i ∧ M2.1 124 i < 1048576) ∧ cvE ρ tm (M2.1 124 i)) → (∀ c' j, 0 ≤ c' → 0 ≤ j → j < ρ 3 → (c' < c ∨ (c' = c ∧ j < k)) → ∃ x, 0 ≤ x ∧ x < n ∧ ssub (ex ρ tm c' (sc ρ tm c' j)) (M2.1 124 x)) → Run C_Cr_listOffers (fun r M' => r = none ∧ Kp (fun c => c = 123 ∨ c = 124) M M' ∧ ∃ n, M'.1 123 4 = n ∧ 0 ≤ n ∧ n ≤ 240 ∧ (∀ i, 0 ≤ i → i < n → 0 ≤ M'.1 124 i ∧ M'.1 124 i < 1048576) ∧ OF ρ tm n (M'.1 124)) 23 [vR 123, vI c, vI k] [] M2) (fun k k0 k1' ih2 M2 n k2 hn n0 n1 hO hD => ?_) h3.1 M1 n k1 hn n0 (by omega) hO (fun c' j x y z w => hD c' j x (by omega) y z)
    have D2 := h.kp k2 (by decide) (by decide) (by decide) (by decide) (by decide)
    have X2 := hX.kp k2 (fun c a b => by omega)
    have T2 : ∀ i, 0 ≤ i → i < 4 → M2.1 96 i = tm i := fun i a b => by rw [k2.at (by decide)]; exact hT i a b
    have e32 : M2.1 1 3 = ρ 3 := X2.1 3 (by decide) (by decide)
    rw [r_Cr_listOffers_23]
    simp only [r_Cr_listOffers_24, r_Cr_listOffers_25, r_Cr_listOffers_28, r_Cr_listOffers_31, r_Cr_listOffers_34, r_Cr_listOffers_35, r_Cr_listOffers_36, r_Cr_listOffers_37, r_Cr_listOffers_38, r_Cr_listOffers_39, r_Cr_listOffers_40, r_Cr_listOffers_43, r_Cr_listOffers_46, r_Cr_listOffers_49, r_Cr_listOffers_52, true_and, and_true, or_true, true_or, or_false, false_or, false_and, and_false, not_true_eq_false, not_false_eq_true, implies_true, true_implies, false_implies, e32]
    refine ⟨r32 (by omega) (by omega), r32 (by omega) (by omega), fun q2 => ?_, fun q2 => ?_⟩
    · simp only [r_Cr_listOffers_55, r_Cr_listOffers_58, true_and, and_true, or_true, true_or, or_false, false_or, false_and, and_false, not_true_eq_false, not_false_eq_true, implies_true, true_implies, false_implies]
      refine ih (by omega) M2 n _ k2 hn n0 (by omega) hO (fun c' j x y z w => hD c' j x z w (by omega))
    · have hsb := sc_bd hV hm c k0 (show k < ρ 3 by omega)
      have hb := ex_bd (tm := tm) hV c (sc ρ tm c k)
      refine Cal.I (earliestStart_s D2 X2 hm T2 c0 (by omega) k0 (by omega)) ?_
      refine Cal.I (explained_s D2 X2 hm T2 c0 (by omega) hsb.1 hsb.2) ?_
      refine (offer_s (E0 := cvE ρ tm) (cnt := 20 * c + k) hn n0 n1 (by omega) hO hb.1 hb.2.2 ⟨c, _, c0, by omega, hsb.1, hsb.2, rfl⟩).mono ?_
      rintro _ M3 ⟨rfl, k3, n', hn', n0', n1', hO', hD'⟩
      refine ⟨rfl, ih2 (by omega) M3 n' (k2.trans k3) hn' n0' (by omega) hO' (fun c' j x y z w => ?_)⟩
      by_cases e : c' = c ∧ j = k
      · rw [e.1, e.2]; exact hD' _ (Or.inl (fun i _ z => z))
      · exact hD' _ (Or.inr (hD c' j x y z (by omega)))
noncomputable def q_cover (ρ tm : Rw) : Int := if ρ 3 = 0 then 0 else if dec (cv1 ρ tm (p2 (ρ 3) - 1)) = true then 1 else if dec (cv2 ρ tm (p2 (ρ 3) - 1)) = true then 2 else if dec (cv3 ρ tm (p2 (ρ 3) - 1)) = true then 3 else -1
theorem X_cover {σ : St} {M : Mem} (h : XI σ M) (hV : VS σ) : Cal Y_CB_cover [vR 0] M (Qx (q_cover σ.1 σ.2.2.2.1, σ) M) := by
  have h3 := hV.1.2.2.2.1
  have hp := p2_mono (show σ.1 3 ≤ 20 by omega)
  have e20 : p2 20 = 1048576 := by decide
  have hp0 := p2_pos (σ.1 3)
  generalize htm : σ.2.2.2.1 = tm
  have hm : TM tm := by rw [← htm]; exact hV.tm
  refine Cal.mk (y := Y_CB_cover) (loc := [vR 0]) G_CB_cover rfl (by decide) rfl rfl (Nat.le_of_ble_eq_true rfl) ?_
  simp only [r_CB_cover_0, r_CB_cover_1, r_CB_cover_4, true_and, and_true, or_true, true_or, or_false, false_or, false_and, and_false, not_true_eq_false, not_false_eq_true, implies_true, true_implies, false_implies]
  refine (X_renew hV h).mono ?_
  rintro _ M1 ⟨rfl, h1, k1⟩
  simp only [r_CB_cover_7, r_CB_cover_8, r_CB_cover_11, r_CB_cover_14, true_and, and_true, or_true, true_or, or_false, false_or, false_and, and_false, not_true_eq_false, not_false_eq_true, implies_true, true_implies, false_implies]
  have e3 : M1.1 1 3 = σ.1 3 := h1.1.1.1 3 (by decide) (by decide)
  refine Cal.mono (Q := fun r M' => r = some (vI (q_cover σ.1 tm)) ∧ Kp (fun c => c = 123 ∨ c = 124) M1 M') ?_ ?_
  rotate_left
  · rintro _ M2 ⟨rfl, k2⟩
    have h2 := h1.kp k2 (fun c a => by omega) (fun c a b => by omega) (fun c a b => by omega)
    exact ⟨_, rfl, Qx.q h2.1 ((k1.x (fun c z => by omega)).trans (k2.x (fun c z => by omega))) rfl⟩
  refine Cal.mk (y := Y_Cr_fewestThatExplainAll) (loc := [vR 123, vN]) G_Cr_fewestThatExplainAll rfl (by decide) rfl rfl (Nat.le_of_ble_eq_true rfl) ?_
  simp only [r_Cr_fewestThatExplainAll_0, r_Cr_fewestThatExplainAll_1, r_Cr_fewestThatExplainAll_2, r_Cr_fewestThatExplainAll_5, r_Cr_fewestThatExplainAll_8, r_Cr_fewestThatExplainAll_9, r_Cr_fewestThatExplainAll_10, r_Cr_fewestThatExplainAll_11, r_Cr_fewestThatExplainAll_12, r_Cr_fewestThatExplainAll_13, r_Cr_fewestThatExplainAll_16, r_Cr_fewestThatExplainAll_17, r_Cr_fewestThatExplainAll_18, r_Cr_fewestThatExplainAll_19, true_and, and_true, or_true, true_or, or_false, false_or, false_and, and_false, not_true_eq_false, not_false_eq_true, implies_true, true_implies, false_implies, e3, p2_def]
  refine ⟨⟨h3.1, by omega⟩, r32 (by omega) (by omega), fun q => ?_, fun q => ⟨?_, Kp.rf⟩⟩
  rotate_left
  · have hz : σ.1 3 = 0 := by
      rcases Int.lt_or_le 0 (σ.1 3) with z | z
      · have := p2_mono (show 1 ≤ σ.1 3 by omega)
        have e : p2 1 = 2 := by decide
        omega
      · omega
    unfold q_cover; rw [if_pos hz]
  have hne : ¬ σ.1 3 = 0 := fun z => by rw [z, p2_0] at q; exact q rfl
  have ee : q_cover σ.1 tm = if dec (cv1 σ.1 tm (p2 (σ.1 3) - 1)) = true then 1 else if dec (cv2 σ.1 tm (p2 (σ.1 3) - 1)) = true then 2 else if dec (cv3 σ.1 tm (p2 (σ.1 3) - 1)) = true then 3 else -1 := if_neg hne
  have hT : ∀ i, 0 ≤ i → i < 4 → M1.1 96 i = tm i := by rw [← htm]; exact h1.1.2.2.2.2.2.1
  refine (listOffers_s (h1.dx hV) h1.1.1 hm hT).mono ?_
  rintro _ M2 ⟨rfl, k2, n, hn, n0, n1, hO, hF⟩
  simp only [r_Cr_fewestThatExplainAll_22, r_Cr_fewestThatExplainAll_23, r_Cr_fewestThatExplainAll_24, r_Cr_fewestThatExplainAll_27, true_and, and_true, or_true, true_or, or_false, false_or, false_and, and_false, not_true_eq_false, not_false_eq_true, implies_true, true_implies, false_implies]
  obtain ⟨b, hl⟩ := lowb_ex (a := p2 (σ.1 3) - 1) (by omega) q
  have i1 := o1_iff hF (a := p2 (σ.1 3) - 1) (by omega) q
  refine (byOne_s hn n0 n1 hO (a := p2 (σ.1 3) - 1) (by omega) (by omega)).Be (fun q2 => ?_) (fun q2 => ?_)
  · simp only [r_Cr_fewestThatExplainAll_30, r_Cr_fewestThatExplainAll_31, true_and, and_true, or_true, true_or, or_false, false_or, false_and, and_false, not_true_eq_false, not_false_eq_true, implies_true, true_implies, false_implies]
    rw [ee, if_pos (dec_t (i1.1 (dec_iff.1 q2)))]
    exact ⟨rfl, k2⟩
  have n1' : ¬ cv1 σ.1 tm (p2 (σ.1 3) - 1) := fun z => q2 (dec_t (i1.2 z))
  rw [if_neg (fun z => n1' (dec_iff.1 z))] at ee
  have i2 := o2_iff hV.1 hF (a := p2 (σ.1 3) - 1) (h := b) (by omega) (by omega) hl.1 hl.2.1 n1'
  simp only [r_Cr_fewestThatExplainAll_32, r_Cr_fewestThatExplainAll_33, r_Cr_fewestThatExplainAll_34, r_Cr_fewestThatExplainAll_37, true_and, and_true, or_true, true_or, or_false, false_or, false_and, and_false, not_true_eq_false, not_false_eq_true, implies_true, true_implies, false_implies]
  refine (byTwo_s hn n0 n1 hO (a := p2 (σ.1 3) - 1) (by omega) (by omega) hl).Be (fun q3 => ?_) (fun q3 => ?_)
  · simp only [r_Cr_fewestThatExplainAll_40, r_Cr_fewestThatExplainAll_41, true_and, and_true, or_true, true_or, or_false, false_or, false_and, and_false, not_true_eq_false, not_false_eq_true, implies_true, true_implies, false_implies]
    rw [ee, if_pos (dec_t (i2.1 (dec_iff.1 q3)))]
    exact ⟨rfl, k2⟩
  have n2' : ¬ cv2 σ.1 tm (p2 (σ.1 3) - 1) := fun z => q3 (dec_t (i2.2 z))
  rw [if_neg (fun z => n2' (dec_iff.1 z))] at ee
  have i3 := o3_iff hV.1 hF (a := p2 (σ.1 3) - 1) (h := b) (by omega) (by omega) hl.1 hl.2.1 n1' n2'
  simp only [r_Cr_fewestThatExplainAll_42, r_Cr_fewestThatExplainAll_43, r_Cr_fewestThatExplainAll_44, r_Cr_fewestThatExplainAll_47, true_and, and_true, or_true, true_or, or_false, false_or, false_and, and_false, not_true_eq_false, not_false_eq_true, implies_true, true_implies, false_implies]
  refine (byThree_s hn n0 n1 hO (a := p2 (σ.1 3) - 1) (by omega) (by omega) hl (fun i x y z => ?_)).Be (fun q4 => ?_) (fun q4 => ?_)
  · have hb := hO i x y
    exact n1' ⟨_, hF.1 i x y, (dif_0 (by omega) (by omega) hb.1).1 z⟩
  · simp only [r_Cr_fewestThatExplainAll_50, r_Cr_fewestThatExplainAll_51, r_Cr_fewestThatExplainAll_54, r_Cr_fewestThatExplainAll_55, true_and, and_true, or_true, true_or, or_false, false_or, false_and, and_false, not_true_eq_false, not_false_eq_true, implies_true, true_implies, false_implies]
    rw [ee, if_pos (dec_t (i3.1 (dec_iff.1 q4)))]
    exact ⟨rfl, k2⟩
  · simp only [r_Cr_fewestThatExplainAll_54, r_Cr_fewestThatExplainAll_55, true_and, and_true, or_true, true_or, or_false, false_or, false_and, and_false, not_true_eq_false, not_false_eq_true, implies_true, true_implies, false_implies]
    rw [ee, if_neg (fun z => q4 (dec_t (i3.2 (dec_iff.1 z))))]
    exact ⟨rfl, k2⟩
