/-! the class's Spreader: flow -/
theorem Br.ev {ρ : Rw} (hV : VR ρ) {w r o t : Int} (ho : 0 ≤ o) (ho2 : o < ρ 0) {T T' : Int → Int} (h : ∀ x, 0 ≤ x → x < 10 → T' (8 * x + ρ (77 + 5 * r) % 8) ≤ T (8 * x + ρ (77 + 5 * r) % 8)) (hB : Br ρ w T r o t) : Br ρ w T' r o t := by
  have hn := hV.1
  have key : ∀ x, 0 ≤ x → x < ρ 0 → T (8 * x + ρ (77 + 5 * r) % 8) + ρ (80 + 5 * r) ≤ t → T' (8 * x + ρ (77 + 5 * r) % 8) + ρ (80 + 5 * r) ≤ t := by
    intro x h1 h2 h3
    have := h x (by omega) (by omega)
    omega
  unfold Br at hB ⊢
  split at hB
  · rename_i q
    rw [if_pos q]
    exact ⟨hB.1, key o ho ho2 hB.2⟩
  · rename_i q
    rw [if_neg q]
    refine ⟨hB.1, ?_⟩
    have hB := hB.2
    split at hB
    · rename_i q3
      rw [if_pos q3]
      exact ⟨hB.1, fun x hx => key x (src_bd hV hx).1 (src_bd hV hx).2 (hB.2 x hx)⟩
    · rename_i q3
      rw [if_neg q3]
      split at hB
      · rename_i q4
        rw [if_pos q4]
        obtain ⟨x, y, h1, h2, h3, h4, h5⟩ := hB
        exact ⟨x, y, h1, h2, h3, key x (src_bd hV h2).1 (src_bd hV h2).2 h4, key y (src_bd hV h3).1 (src_bd hV h3).2 h5⟩
      · rename_i q4
        rw [if_neg q4]
        obtain ⟨x, h2, h4⟩ := hB
        exact ⟨x, h2, key x (src_bd hV h2).1 (src_bd hV h2).2 h4⟩
/-- the memory holds the times of a spread -/
def FL (τ : Rw) (w S : Int) (M : Mem) : Prop := (∀ g, 0 ≤ g → g < 80 → M.1 106 g = sp τ w S g) ∧ HO M
theorem RO.ca {τ : Rw} (hV : VR τ) {M : Mem} (hR : RO M 97 (isC τ) (wC τ) (8 * τ 0)) {c : Int} (c0 : 0 ≤ c) (c1 : c < nC τ) : 0 ≤ cf τ c ∧ cf τ c < 8 * τ 0 ∧ isC τ (cf τ c) = true ∧ cntI (isC τ) (cf τ c) = c ∧ M.1 98 c = cf τ c / 8 ∧ M.1 99 c = cf τ c % 8 ∧ M.1 100 c = wC τ (cf τ c) := by
  have h0 := hV.1
  have hk := kth_sp (p := isC τ) (n := 8 * τ 0) (by omega) c0 c1
  have hr := hR.2 (cf τ c) hk.1 hk.2.1 hk.2.2.1
  rw [show cntI (isC τ) (cf τ c) = c from hk.2.2.2] at hr
  exact ⟨hk.1, hk.2.1, hk.2.2.1, hk.2.2.2, hr.1, hr.2.1, hr.2.2⟩
theorem RO.si {τ : Rw} (hV : VR τ) {M : Mem} (hR : RO M 101 (isS τ) (wS τ) (8 * τ 0)) {c : Int} (c0 : 0 ≤ c) (c1 : c < nS τ) : 0 ≤ sf τ c ∧ sf τ c < 8 * τ 0 ∧ isS τ (sf τ c) = true ∧ cntI (isS τ) (sf τ c) = c ∧ M.1 102 c = sf τ c / 8 ∧ M.1 103 c = sf τ c % 8 := by
  have h0 := hV.1
  have hk := kth_sp (p := isS τ) (n := 8 * τ 0) (by omega) c0 c1
  have hr := hR.2 (sf τ c) hk.1 hk.2.1 hk.2.2.1
  rw [show cntI (isS τ) (sf τ c) = c from hk.2.2.2] at hr
  exact ⟨hk.1, hk.2.1, hk.2.2.1, hk.2.2.2, hr.1, hr.2.1⟩
/-- between two rounds -/
def FR (τ : Rw) (w S : Int) (M : Mem) : Prop := HO M ∧ (∀ g, 0 ≤ g → g < 80 → sp τ w S g ≤ M.1 106 g) ∧ (∀ f, 0 ≤ f → f < 80 → inC τ S f → M.1 106 f ≤ 0) ∧ (∀ r, 0 ≤ r → r < τ 2 → bit (M.1 105 7) (τ (77 + 5 * r) % 8) = false → ∀ o t, 0 ≤ o → o < τ 0 → t < 1000000 → Br τ w (M.1 106) r o t → M.1 106 (8 * o + τ (79 + 5 * r) % 8) ≤ t)
theorem FR.fin {τ : Rw} (hV : VR τ) {w S : Int} {M : Mem} (h : FR τ w S M) (hz : M.1 105 7 = 0) : FL τ w S M := by
  have hC : Clo τ w S (M.1 106) := ⟨fun f a b => (h.1.1 f a b).2, h.2.2.1, fun r o t a b c d e hB => h.2.2.2 r a b (by rw [hz, bit_0]) o t c d e hB⟩
  refine ⟨fun g a b => ?_, h.1⟩
  have h1 := (sp_max hV w S a b).2 _ hC
  have h2 := h.2.1 g a b
  omega
theorem flow_s {τ : Rw} (hV : VR τ) {w S : Int} (S0 : 0 ≤ S) (S1 : S < 4096) {M : Mem} (hX : XT M τ) (hT : LT τ w M) (hR : RO M 97 (isC τ) (wC τ) (8 * τ 0)) : Cal Y_Sp_flow [vR 105, vI S] M (fun v M' => v = none ∧ FL τ w S M' ∧ Kp (fun c => 105 ≤ c ∧ c ≤ 107) M M') := by
  have h0 := hV.1
  have h2 := hV.2.2.1
  have hc12 := hV.2.2.2.2.2.2.2.2.2.2.1
  have hn0 : 0 ≤ nC τ := nC_nn h0.1
  have hsp := fun g (a : 0 ≤ g) (b : g < 80) => sp_nn hV w S a b
  refine Cal.mk (y := Y_Sp_flow) (loc := [vR 105, vI S, vN, vN, vN]) G_Sp_flow rfl (by decide) rfl rfl (Nat.le_of_ble_eq_true rfl) ?_
  simp only [r_Sp_flow_0, r_Sp_flow_1, r_Sp_flow_4, r_Sp_flow_6, true_and, and_true, or_true, true_or, or_false, false_or, false_and, and_false, not_true_eq_false, not_false_eq_true, implies_true, true_implies, false_implies]
  refine (fill_106 M).mono ?_
  rintro v M1 ⟨rfl, k1, f1⟩
  simp only [r_Sp_flow_9, r_Sp_flow_10, r_Sp_flow_13, r_Sp_flow_14, true_and, and_true, or_true, true_or, or_false, false_or, false_and, and_false, not_true_eq_false, not_false_eq_true, implies_true, true_implies, false_implies]
  refine (fill_107 M1).mono ?_
  rintro v M2 ⟨rfl, k2, f2⟩
  simp only [r_Sp_flow_17, r_Sp_flow_18, r_Sp_flow_19, r_Sp_flow_22, r_Sp_flow_23, true_and, and_true, or_true, true_or, or_false, false_or, false_and, and_false, not_true_eq_false, not_false_eq_true, implies_true, true_implies, false_implies]
  have kk : Kp (fun c => 105 ≤ c ∧ c ≤ 107) M (wI M2 105 7 0) := Kp.w ((k1.sub (fun c z => by omega)).trans (k2.sub (fun c z => by omega))) (by decide)
  have g6 : ∀ g, 0 ≤ g → g < 80 → (wI M2 105 7 0).1 106 g = 1000000 := fun g a b => by rw [wI_c (by decide), k2.at (c := 106) (by decide)]; exact f1 g a b
  have g7 : ∀ g, 0 ≤ g → g < 8 → (wI M2 105 7 0).1 107 g = 0 := fun g a b => by rw [wI_c (by decide)]; exact f2 g a b
  have g5 : (wI M2 105 7 0).1 105 7 = 0 := wI_same _ _ _ _
  -- the rounds
  have rounds : ∀ M3, Kp (fun c => 105 ≤ c ∧ c ≤ 107) M M3 → FR τ w S M3 → ∀ l3 l4, Run C_Sp_flow (fun v M' => v = none ∧ FL τ w S M' ∧ Kp (fun c => 105 ≤ c ∧ c ≤ 107) M M') 74 [vR 105, vI S, vI 0, l3, l4] [] M3 := by
    intro M3 k3 hF l3 l4
    refine up_loop (lo := 0) (hi := 1000) (P := fun k => ∀ M3 l3 l4, Kp (fun c => 105 ≤ c ∧ c ≤ 107) M M3 → FR τ w S M3 → ((∀ g, 0 ≤ g → g < 80 → M3.1 106 g = sp τ w S g) ∨ k ≤ cntI (fun f => decide (M3.1 106 f = sp τ w S f)) 80) → Run C_Sp_flow (fun v M' => v = none ∧ FL τ w S M' ∧ Kp (fun c => 105 ≤ c ∧ c ≤ 107) M M') 74 [vR 105, vI S, vI k, l3, l4] [] M3) (fun k hk hkn ih M3 l3 l4 k3 hF hc => ?_) (by decide) M3 l3 l4 k3 hF (Or.inr (cntI_bd _ (by decide)).1)
    rw [r_Sp_flow_74]
    simp only [r_Sp_flow_75, r_Sp_flow_78, r_Sp_flow_81, r_Sp_flow_82, r_Sp_flow_85, r_Sp_flow_88, r_Sp_flow_89, r_Sp_flow_92, r_Sp_flow_93, r_Sp_flow_94, r_Sp_flow_95, r_Sp_flow_98, r_Sp_flow_99, true_and, and_true, or_true, true_or, or_false, false_or, false_and, and_false, not_true_eq_false, not_false_eq_true, implies_true, true_implies, false_implies]
    have hb := (cntI_bd (fun f => decide (M3.1 106 f = sp τ w S f)) (n := 80) (by decide)).2
    refine ⟨r32 (by omega) (by omega), r32 (by decide) (by decide), fun q => ?_, fun q => ?_⟩
    · simp only [r_Sp_flow_148, true_and, and_true, or_true, true_or, or_false, false_or, false_and, and_false, not_true_eq_false, not_false_eq_true, implies_true, true_implies, false_implies]
      refine ⟨⟨?_, hF.1⟩, k3⟩
      rcases hc with z | z
      · exact z
      · omega
    · have h7 := hF.1.2.2.1
      refine ⟨r32 (by omega) (by omega), fun q2 => ?_, fun q2 => ?_⟩
      · simp only [r_Sp_flow_148, true_and, and_true, or_true, true_or, or_false, false_or, false_and, and_false, not_true_eq_false, not_false_eq_true, implies_true, true_implies, false_implies]
        exact ⟨hF.fin hV q2, k3⟩
      · -- one round
        generalize hM4 : wI M3 105 7 0 = M4
        have e6 : M4.1 106 = M3.1 106 := by rw [← hM4]; exact wI_c (by decide)
        have e7 : M4.1 107 = M3.1 107 := by rw [← hM4]; exact wI_c (by decide)
        have e57 : M4.1 105 7 = 0 := by rw [← hM4]; exact wI_same _ _ _ _
        have k4 : Kp (fun c => 105 ≤ c ∧ c ≤ 107) M M4 := by rw [← hM4]; exact Kp.w k3 (by decide)
        have O4 : HO M4 := ⟨by rw [e6]; exact hF.1.1, by rw [e6, e7]; exact hF.1.2.1, by rw [e57]; decide, trivial⟩
        refine up_loop (lo := 0) (hi := τ 2) (P := fun r => ∀ M5, Kp (fun c => 105 ≤ c ∧ c ≤ 107) M M5 → HO M5 → (∀ g, 0 ≤ g → g < 80 → sp τ w S g ≤ M5.1 106 g ∧ M5.1 106 g ≤ M3.1 106 g) → (∀ e, 0 ≤ e → e < 8 → bit (M5.1 105 7) e = false → ∀ o, 0 ≤ o → o < 10 → M5.1 106 (8 * o + e) = M3.1 106 (8 * o + e)) → (∀ r' o t, 0 ≤ r' → r' < r → 0 ≤ o → o < τ 0 → t < 1000000 → Br τ w (M3.1 106) r' o t → M5.1 106 (8 * o + τ (79 + 5 * r') % 8) ≤ t) → Run C_Sp_flow (fun v M' => v = none ∧ FL τ w S M' ∧ Kp (fun c => 105 ≤ c ∧ c ≤ 107) M M') 101 [vR 105, vI S, vI k, vI (M3.1 105 7), vI r] [] M5) (fun r hr hrn ih2 M5 k5 O5 s5 c5 b5 => ?_) h2.1 M4 k4 O4 (fun g a b => by rw [e6]; exact ⟨hF.2.1 g a b, Int.le_refl _⟩) (fun e a b c o x y => by rw [e6]) (fun r' o t a b => by omega)
        have X5 := hX.kp k5 (fun c a b => by omega)
        rw [r_Sp_flow_101]
        simp only [r_Sp_flow_103, r_Sp_flow_104, r_Sp_flow_107, r_Sp_flow_110, r_Sp_flow_113, r_Sp_flow_114, r_Sp_flow_115, r_Sp_flow_118, r_Sp_flow_120, r_Sp_flow_121, r_Sp_flow_124, r_Sp_flow_127, r_Sp_flow_130, r_Sp_flow_131, r_Sp_flow_133, r_Sp_flow_136, r_Sp_flow_139, r_Sp_flow_142, r_Sp_flow_145, true_and, and_true, or_true, true_or, or_false, false_or, false_and, and_false, not_true_eq_false, not_false_eq_true, implies_true, true_implies, false_implies, X5.2.2.1]
        refine ⟨r32 (by omega) (by omega), r32 (by omega) (by omega), fun q3 => ?_, fun q3 => ?_⟩
        · rw [show r = τ 2 by omega] at b5
          refine ih (by omega) M5 _ _ k5 ⟨O5, fun g a b => (s5 g a b).1, fun f a b c => ?_, fun r' a b c o t o0 o1 ht hB => ?_⟩ ?_
          · have := hF.2.2.1 f a b c
            have := s5 f a b
            omega
          · have hv := hV.2.2.2.2.2.2.2.1 r' a b
            exact b5 r' o t a b o0 o1 ht (hB.ev hV o0 o1 (fun x x0 x1 => Int.le_of_eq (c5 _ (by omega) (by omega) c x x0 x1).symm))
          · by_cases hall : ∀ g, 0 ≤ g → g < 80 → M3.1 106 g = sp τ w S g
            · refine Or.inl (fun g a b => ?_)
              have := hall g a b
              have := s5 g a b
              omega
            · right
              have hcnt := hc.resolve_left hall
              have hx : ∃ f, 0 ≤ f ∧ f < 80 ∧ ¬ M3.1 106 f = sp τ w S f := Classical.byContradiction (fun hno => hall (fun g a b => Classical.byContradiction (fun y => hno ⟨g, a, b, y⟩)))
              have := sp_round hV (w := w) (S := S) (T := M3.1 106) (T' := M5.1 106) s5 (fun f a b => ⟨(hF.1.1 f a b).2, hF.2.2.1 f a b⟩) b5 hx
              omega
        · have hv := hV.2.2.2.2.2.2.2.1 r hr (by omega)
          refine Cal.I (event_s hV X5 hr (by omega) (Or.inl rfl)) ?_
          rw [n76.2.1]
          refine has_if (by omega) (by omega) (by omega) (by omega) (fun q4 => ?_) (fun q4 => ?_)
          · refine (apply_s hV (sp_clo hV w S) hr (by omega) X5 (hT.kp k5 (fun c a b => by omega)) O5 (fun g a b => (s5 g a b).1)).mono ?_
            rintro v M6 ⟨rfl, ⟨j1, j2, j3, j4, j5⟩, jb, -⟩
            refine ⟨rfl, ih2 (by omega) M6 (k5.trans j5) j3 (fun g a b => ?_) (fun e a b c o x y => ?_) (fun r' o t a b o0 o1 ht hB => ?_)⟩
            · have := j1 g a b
              have := s5 g a b
              omega
            · rw [(j4 e a b).2 c o x y]
              refine c5 e a b ?_ o x y
              cases z : bit (M5.1 105 7) e with
              | true => rw [(j4 e a b).1 z] at c; exact Bool.noConfusion c
              | false => rfl
            · by_cases z : r' = r
              · rw [z] at hB ⊢
                exact jb o t o0 o1 ht (hB.loc hV hr (by omega) o0 o1 (fun f x y _ => (s5 f x y).2))
              · have h3 := b5 r' o t a (by omega) o0 o1 ht hB
                have hv' := hV.2.2.2.2.2.2.2.1 r' a (by omega)
                have := j1 (8 * o + τ (79 + 5 * r') % 8) (by omega) (by omega)
                omega
          · refine ih2 (by omega) M5 k5 O5 s5 c5 (fun r' o t a b o0 o1 ht hB => ?_)
            by_cases z : r' = r
            · rw [z] at hB ⊢
              have h3 := hF.2.2.2 r hr (by omega) (by cases y : bit (M3.1 105 7) (τ (77 + 5 * r) % 8) with
                | true => exact absurd y q4
                | false => rfl) o t o0 o1 ht hB
              have := s5 (8 * o + τ (79 + 5 * r) % 8) (by omega) (by omega)
              omega
            · exact b5 r' o t a (by omega) o0 o1 ht hB
  -- the causes of the set
  generalize hM3 : wI M2 105 7 0 = M3 at kk g6 g7 g5 ⊢
  refine up_loop (lo := 0) (hi := nC τ) (P := fun c => ∀ M4 l3 l4, Kp (fun c => 105 ≤ c ∧ c ≤ 107) M M4 → HO M4 → (∀ g, 0 ≤ g → g < 80 → sp τ w S g ≤ M4.1 106 g) → (∀ f, 0 ≤ f → f < 80 → inC τ S f → cntI (isC τ) f < c → M4.1 106 f ≤ 0) → (∀ e, 0 ≤ e → e < 8 → bit (M4.1 105 7) e = false → ∀ o, 0 ≤ o → o < 10 → M4.1 106 (8 * o + e) = 1000000) → Run C_Sp_flow (fun v M' => v = none ∧ FL τ w S M' ∧ Kp (fun c => 105 ≤ c ∧ c ≤ 107) M M') 24 [vR 105, vI S, vI c, l3, l4] [] M4) (fun c hc hcn ih M4 l3 l4 k4 O4 s4 i4 e4 => ?_) hn0 M3 _ _ kk ⟨fun g a b => by rw [g6 g a b]; decide, fun e a b => by
      rw [g7 e a b]
      exact ⟨by decide, fun o x y => by rw [bit_0, g6 _ (by omega) (by omega)]; decide⟩, by rw [g5]; decide, trivial⟩ (fun g a b => by rw [g6 g a b]; exact (hsp g a b).2) (fun f a b c d => by have := (cntI_bd (isC τ) a).1; omega) (fun e a b c o x y => g6 _ (by omega) (by omega))
  have R4 := hR.kp k4 (fun c a b => by omega)
  rw [r_Sp_flow_24]
  simp only [r_Sp_flow_25, r_Sp_flow_26, r_Sp_flow_29, r_Sp_flow_32, r_Sp_flow_35, r_Sp_flow_36, r_Sp_flow_37, r_Sp_flow_40, r_Sp_flow_43, r_Sp_flow_44, r_Sp_flow_45, r_Sp_flow_48, r_Sp_flow_51, r_Sp_flow_52, r_Sp_flow_53, r_Sp_flow_54, r_Sp_flow_57, r_Sp_flow_60, r_Sp_flow_61, r_Sp_flow_62, r_Sp_flow_63, r_Sp_flow_66, r_Sp_flow_69, true_and, and_true, or_true, true_or, or_false, false_or, false_and, and_false, not_true_eq_false, not_false_eq_true, implies_true, true_implies, false_implies, show M4.1 97 0 = nC τ from R4.1]
  refine ⟨r32 (by omega) (by omega), r32 (by omega) (by omega), fun q => ?_, fun q => ?_⟩
  · simp only [r_Sp_flow_72, r_Sp_flow_73, true_and, and_true, or_true, true_or, or_false, false_or, false_and, and_false, not_true_eq_false, not_false_eq_true, implies_true, true_implies, false_implies]
    refine rounds M4 k4 ⟨O4, s4, fun f a b c => i4 f a b c ?_, fun r a b c o t o0 o1 ht hB => ?_⟩ _ _
    · have h3 := cntI_lt a c.1 c.2.1
      have h4 : cntI (isC τ) (8 * τ 0) = nC τ := rfl
      omega
    · exfalso
      have hv := hV.2.2.2.2.2.2.2.1 r a b
      have hz := hB.ev hV (T' := fun _ => 1000000) o0 o1 (fun x x0 x1 => Int.le_of_eq (e4 _ (by omega) (by omega) c x x0 x1).symm)
      unfold Br at hz
      dsimp only at hz
      split at hz
      · have := hz.2; omega
      · have hz := hz.2
        split at hz
        · obtain ⟨⟨x, hx⟩, h⟩ := hz
          have := h x hx; omega
        · split at hz
          · obtain ⟨x, y, -, -, -, h, -⟩ := hz
            omega
          · obtain ⟨x, -, h⟩ := hz
            omega
  · obtain ⟨x0, x1, x2, x3, x4, x5, -⟩ := R4.ca hV hc (by omega)
    refine has_if S0 (by omega) hc (by omega) (fun q2 => ?_) (fun q2 => ?_)
    · simp only [x4, x5]
      refine ⟨hc, by omega, hc, by omega, ?_⟩
      have hin : inC τ S (cf τ c) := ⟨x1, x2, by rw [x3]; exact q2⟩
      have e8 : 8 * (cf τ c / 8) + cf τ c % 8 = cf τ c := by omega
      refine (bring_s (J.rf (L := sp τ w S) (D := fun _ _ => False) (cf τ c % 8) O4 s4 (fun _ _ z => z)) (at' := 0) (at0 := 0) (by omega) (by omega) (by omega) (by omega) (by decide) (by decide) (by decide) (fun _ => rfl) (fun _ => by rw [e8]; exact (sp_clo hV w S).2.1 _ (by omega) (by omega) hin)).mono ?_
      rintro v M5 ⟨rfl, ⟨j1, j2, j3, j4, j5⟩, jd, -⟩
      have hd := jd (cf τ c / 8) 0 (Or.inr ⟨rfl, rfl⟩)
      rw [e8] at hd
      refine ⟨rfl, ih (by omega) M5 _ _ (k4.trans j5) j3 (fun g a b => (j1 g a b).1) (fun f a b d e => ?_) (fun e a b d o x y => ?_)⟩
      · by_cases z : cntI (isC τ) f = c
        · have : f = cf τ c := cntI_inj a x0 d.2.1 x2 (by omega)
          rw [this]; exact hd
        · have := i4 f a b d (by omega)
          have := j1 f a b
          omega
      · rw [(j4 e a b).2 d o x y]
        refine e4 e a b ?_ o x y
        cases z : bit (M4.1 105 7) e with
        | true => rw [(j4 e a b).1 z] at d; exact Bool.noConfusion d
        | false => rfl
    · refine ih (by omega) M4 _ _ k4 O4 s4 (fun f a b d e => ?_) e4
      refine i4 f a b d ?_
      by_cases z : cntI (isC τ) f = c
      · exact absurd (z ▸ d.2.2) q2
      · omega
