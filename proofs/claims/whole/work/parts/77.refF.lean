/-! the reference's spread: what one rule brings -/
def RT (τ : Rw) (M : Mem) : Prop := ∀ i, (0 ≤ i ∧ i < 3) ∨ (6 ≤ i ∧ i < 200) → M.1 144 i = τ i
theorem RR.t {ρ : Rw} {M : Mem} (h : RR ρ M) : RT (tau ρ) M := fun i z => by
  rcases z with z | z
  · rw [tau_lo z.1 z.2]; exact h i z.1 (by omega)
  · rw [tau_hi z.1 z.2]; exact h i (by omega) (by omega)
theorem RT.kp {P : Nat → Prop} {τ : Rw} {M M' : Mem} (h : RT τ M) (hk : Kp P M M') (hP : ¬ P 144) : RT τ M' := fun i z => by rw [hk.at hP]; exact h i z
theorem rtimeOf_s (M : Mem) {o e : Int} (h0 : 0 ≤ o) (h1 : o < 10) (e0 : 0 ≤ e) (e1 : e < 8) : Cal Y_RM_timeOf [vR 141, vI o, vI e] M (fun r M' => r = some (vI (M.1 153 (8 * o + e))) ∧ M' = M) := by
  refine Cal.mk (y := Y_RM_timeOf) (loc := [vR 141, vI o, vI e]) G_RM_timeOf rfl (by decide) rfl rfl (Nat.le_of_ble_eq_true rfl) ?_
  simp only [r_RM_timeOf_0, r_RM_timeOf_1, r_RM_timeOf_4, r_RM_timeOf_6, r_RM_timeOf_7, r_RM_timeOf_8, r_RM_timeOf_9, r_RM_timeOf_10, r_RM_timeOf_11, true_and, and_true, or_true, true_or, or_false, false_or, false_and, and_false, not_true_eq_false, not_false_eq_true, implies_true, true_implies, false_implies]
  exact ⟨by omega, by omega⟩
theorem isKind_s {τ : Rw} {M : Mem} (hV : VR τ) (hT : RT τ M) {o k : Int} (o0 : 0 ≤ o) (o1 : o < τ 0) (hk : R32 k) : Cal Y_RM_isKind [vR 141, vI o, vI k] M (fun r M' => r = some (vI (if τ (6 + o) = k then 1 else 0)) ∧ M' = M) := by
  have h0 := hV.1
  have hv := hV.2.2.2.2.1 o o0 o1
  refine Cal.mk (y := Y_RM_isKind) (loc := [vR 141, vI o, vI k]) G_RM_isKind rfl (by decide) rfl rfl (Nat.le_of_ble_eq_true rfl) ?_
  simp only [r_RM_isKind_0, r_RM_isKind_1, r_RM_isKind_4, r_RM_isKind_6, r_RM_isKind_7, r_RM_isKind_8, r_RM_isKind_9, r_RM_isKind_10, r_RM_isKind_13, r_RM_isKind_14, r_RM_isKind_17, r_RM_isKind_18, true_and, and_true, or_true, true_or, or_false, false_or, false_and, and_false, not_true_eq_false, not_false_eq_true, implies_true, true_implies, false_implies, hT (6 + o) (by omega)]
  refine ⟨by omega, by omega, r32 (by omega) (by omega), hk, fun q => ?_, fun q => ?_⟩
  · rw [if_neg q]
  · rw [if_pos (Classical.not_not.1 q)]
theorem eventBrought_s {τ : Rw} {M : Mem} (hV : VR τ) (hT : RT τ M) {r : Int} (r0 : 0 ≤ r) (r1 : r < τ 2) : Cal Y_RM_eventBrought [vR 141, vI r] M (fun v M' => v = some (vI (τ (79 + 5 * r) % 8)) ∧ M' = M) := by
  have h2 := hV.2.2.1
  have hv := hV.2.2.2.2.2.2.2.1 r r0 r1
  have e : M.1 144 (76 + 5 * r + 3) = τ (79 + 5 * r) := by rw [show 76 + 5 * r + 3 = 79 + 5 * r by omega]; exact hT _ (by omega)
  refine Cal.mk (y := Y_RM_eventBrought) (loc := [vR 141, vI r]) G_RM_eventBrought rfl (by decide) rfl rfl (Nat.le_of_ble_eq_true rfl) ?_
  simp only [r_RM_eventBrought_0, r_RM_eventBrought_1, r_RM_eventBrought_4, r_RM_eventBrought_6, r_RM_eventBrought_7, r_RM_eventBrought_8, r_RM_eventBrought_9, r_RM_eventBrought_10, r_RM_eventBrought_11, r_RM_eventBrought_12, r_RM_eventBrought_13, r_RM_eventBrought_15, r_RM_eventBrought_16, true_and, and_true, or_true, true_or, or_false, false_or, false_and, and_false, not_true_eq_false, not_false_eq_true, implies_true, true_implies, false_implies, e]
  refine ⟨by omega, by omega, ⟨r32 (by omega) (by omega), by decide, by decide⟩, ?_⟩
  rw [Int.tmod_eq_emod_of_nonneg (by omega)]
/-- the l-th link is one that a rule r looks at for what it brings at o; where from -/
def mt (τ : Rw) (r o l : Int) : Prop := τ (16 + 3 * l) = τ (78 + 5 * r) ∧ (if τ (76 + 5 * r) = 2 then τ (17 + 3 * l) else τ (18 + 3 * l)) = o ∧ τ (6 + (if τ (76 + 5 * r) = 2 then τ (18 + 3 * l) else τ (17 + 3 * l))) = τ (77 + 5 * r) / 8
def fx (τ : Rw) (r l : Int) : Int := if τ (76 + 5 * r) = 2 then τ (18 + 3 * l) else τ (17 + 3 * l)
theorem src_mt {τ : Rw} {r o x : Int} : src τ (-1) r o x ↔ ∃ l, 0 ≤ l ∧ l < τ 1 ∧ mt τ r o l ∧ fx τ r l = x := by
  unfold src mt fx lk
  by_cases q : τ (76 + 5 * r) = 2
  · simp only [if_pos q]
    constructor
    · rintro ⟨⟨l, a, b, c, d, e, f⟩, g⟩
      exact ⟨l, a, b, ⟨d, e, by rw [f]; exact g⟩, f⟩
    · rintro ⟨l, a, b, ⟨d, e, g⟩, f⟩
      exact ⟨⟨l, a, b, by omega, d, e, f⟩, by rw [← f]; exact g⟩
  · simp only [if_neg q]
    constructor
    · rintro ⟨⟨l, a, b, c, d, e, f⟩, g⟩
      exact ⟨l, a, b, ⟨d, f, by rw [e]; exact g⟩, e⟩
    · rintro ⟨l, a, b, ⟨d, e, g⟩, f⟩
      exact ⟨⟨l, a, b, by omega, d, f, e⟩, by rw [← f]; exact g⟩
theorem mt_inj {τ : Rw} (hV : VR τ) {r o l l' : Int} (a : 0 ≤ l) (b : l < τ 1) (a' : 0 ≤ l') (b' : l' < τ 1) (h : mt τ r o l) (h' : mt τ r o l') (e : fx τ r l = fx τ r l') : l = l' := by
  have hd := hV.2.2.2.2.2.2.1
  unfold mt at h h'
  unfold fx at e
  by_cases z : τ (76 + 5 * r) = 2
  · simp only [if_pos z] at h h' e
    rcases Int.lt_trichotomy l l' with q | q | q
    · exact absurd ⟨by rw [h.1, h'.1], by rw [h.2.1, h'.2.1], e⟩ (hd l l' a q b')
    · exact q
    · exact absurd ⟨by rw [h.1, h'.1], by rw [h.2.1, h'.2.1], e.symm⟩ (hd l' l a' q b)
  · simp only [if_neg z] at h h' e
    rcases Int.lt_trichotomy l l' with q | q | q
    · exact absurd ⟨by rw [h.1, h'.1], e, by rw [h.2.1, h'.2.1]⟩ (hd l l' a q b')
    · exact q
    · exact absurd ⟨by rw [h.1, h'.1], e.symm, by rw [h.2.1, h'.2.1]⟩ (hd l' l a' q b)
theorem s4 {x : Int} (a : 0 ≤ x) (b : x ≤ 4) (c : ¬ x = 0) (d : ¬ x = 1) (e : ¬ x = 2) (f : ¬ x = 3) : x = 4 := by omega
theorem brought_s {τ : Rw} (hV : VR τ) {M : Mem} (hT : RT τ M) (hB : ∀ g, 0 ≤ g → g < 80 → 0 ≤ M.1 153 g ∧ M.1 153 g ≤ 1000000) {r o : Int} (r0 : 0 ≤ r) (r1 : r < τ 2) (o0 : 0 ≤ o) (o1 : o < τ 0) : Cal Y_RM_brought [vR 141, vI r, vI o] M (fun v M' => ∃ z, v = some (vI z) ∧ 0 ≤ z ∧ z ≤ 1000008 ∧ (∀ t, t < 1000000 → (z ≤ t ↔ Br τ (-1) (M.1 153) r o t)) ∧ M' = M) := by
  have h0 := hV.1
  have h1 := hV.2.1
  have h2 := hV.2.2.1
  have hv := hV.2.2.2.2.2.2.2.1 r r0 r1
  have hko := hV.2.2.2.2.1 o o0 o1
  have e0 : M.1 144 (76 + 5 * r) = τ (76 + 5 * r) := hT _ (by omega)
  have e1 : M.1 144 (76 + 5 * r + 1) = τ (77 + 5 * r) := by rw [show 76 + 5 * r + 1 = 77 + 5 * r by omega]; exact hT _ (by omega)
  have e2 : M.1 144 (76 + 5 * r + 2) = τ (78 + 5 * r) := by rw [show 76 + 5 * r + 2 = 78 + 5 * r by omega]; exact hT _ (by omega)
  have e3 : M.1 144 (76 + 5 * r + 3) = τ (79 + 5 * r) := by rw [show 76 + 5 * r + 3 = 79 + 5 * r by omega]; exact hT _ (by omega)
  have e4 : M.1 144 (76 + 5 * r + 4) = τ (80 + 5 * r) := by rw [show 76 + 5 * r + 4 = 80 + 5 * r by omega]; exact hT _ (by omega)
  have en : M.1 144 1 = τ 1 := hT _ (by omega)
  generalize hQ : (fun (v : Option Vl) (M' : Mem) => ∃ z, v = some (vI z) ∧ 0 ≤ z ∧ z ≤ 1000008 ∧ (∀ t, t < 1000000 → (z ≤ t ↔ Br τ (-1) (M.1 153) r o t)) ∧ M' = M) = Q
  have far : (∀ t, t < 1000000 → ¬ Br τ (-1) (M.1 153) r o t) → Q (some (vI 1000000)) M := fun z => by
    rw [← hQ]
    exact ⟨1000000, rfl, by decide, by decide, fun t ht => ⟨fun y => by omega, fun y => absurd y (z t ht)⟩, rfl⟩
  have fin : ∀ f l7 l8 l9 l10 y l12 l13 l14 l15 l16, 0 ≤ f → f ≤ 1000000 → (∀ t, t < 1000000 → (f + τ (80 + 5 * r) ≤ t ↔ Br τ (-1) (M.1 153) r o t)) → Run C_RM_brought Q 388 [vR 141, vI r, vI o, vI (76 + 5 * r), vI (τ (76 + 5 * r)), vI (τ (77 + 5 * r) / 8), vI (τ (77 + 5 * r) % 8), l7, l8, l9, l10, vI y, l12, l13, l14, l15, l16] [vI f] M := by
    intro f l7 l8 l9 l10 y l12 l13 l14 l15 l16 f0 f1 hf
    simp only [r_RM_brought_388, r_RM_brought_390, r_RM_brought_392, r_RM_brought_394, r_RM_brought_397, r_RM_brought_399, r_RM_brought_400, r_RM_brought_403, r_RM_brought_404, r_RM_brought_405, r_RM_brought_406, r_RM_brought_407, r_RM_brought_408, r_RM_brought_411, r_RM_brought_413, true_and, and_true, or_true, true_or, or_false, false_or, false_and, and_false, not_true_eq_false, not_false_eq_true, implies_true, true_implies, false_implies, e4]
    refine ⟨r32 (by omega) (by omega), r32 (by decide) (by decide), fun q => far (fun t ht z => ?_), fun q => ⟨by omega, by omega, ?_⟩⟩
    · have := (hf t ht).2 z; omega
    · rw [← hQ]
      exact ⟨_, rfl, by omega, by omega, hf, rfl⟩
  refine Cal.mk (y := Y_RM_brought) (loc := [vR 141, vI r, vI o, vN, vN, vN, vN, vN, vN, vN, vN, vN, vN, vN, vN, vN, vN]) G_RM_brought rfl (by decide) rfl rfl (Nat.le_of_ble_eq_true rfl) ?_
  simp only [r_RM_brought_0, r_RM_brought_2, r_RM_brought_3, r_RM_brought_4, r_RM_brought_5, r_RM_brought_6, r_RM_brought_7, r_RM_brought_8, r_RM_brought_11, r_RM_brought_12, r_RM_brought_13, r_RM_brought_15, r_RM_brought_16, r_RM_brought_19, r_RM_brought_20, r_RM_brought_21, r_RM_brought_22, r_RM_brought_23, r_RM_brought_25, r_RM_brought_26, r_RM_brought_28, r_RM_brought_29, r_RM_brought_32, r_RM_brought_33, r_RM_brought_34, r_RM_brought_35, r_RM_brought_36, r_RM_brought_38, r_RM_brought_39, r_RM_brought_41, r_RM_brought_43, r_RM_brought_46, r_RM_brought_47, r_RM_brought_48, r_RM_brought_50, r_RM_brought_53, r_RM_brought_56, r_RM_brought_57, r_RM_brought_58, r_RM_brought_60, r_RM_brought_63, r_RM_brought_65, r_RM_brought_68, r_RM_brought_69, r_RM_brought_70, r_RM_brought_72, r_RM_brought_75, r_RM_brought_76, r_RM_brought_79, r_RM_brought_80, r_RM_brought_81, r_RM_brought_82, r_RM_brought_83, r_RM_brought_84, r_RM_brought_87, r_RM_brought_89, r_RM_brought_90, r_RM_brought_91, r_RM_brought_92, r_RM_brought_93, r_RM_brought_96, r_RM_brought_97, r_RM_brought_98, r_RM_brought_99, r_RM_brought_100, r_RM_brought_102, r_RM_brought_103, r_RM_brought_106, r_RM_brought_109, true_and, and_true, or_true, true_or, or_false, false_or, false_and, and_false, not_true_eq_false, not_false_eq_true, implies_true, true_implies, false_implies, e0, e1, e3]
  rw [Int.tdiv_eq_ediv_of_nonneg (by omega), Int.tmod_eq_emod_of_nonneg (by omega), Int.tdiv_eq_ediv_of_nonneg (by omega)]
  refine ⟨by omega, by omega, by omega, by omega, ⟨r32 (by omega) (by omega), by decide, by decide⟩, by omega, by omega, ⟨r32 (by omega) (by omega), by decide, by decide⟩, r32 (by omega) (by omega), fun q => ?_, fun q => ?_⟩
  · -- rules over links
    refine ⟨by omega, by omega, ⟨r32 (by omega) (by omega), by decide, by decide⟩, ?_⟩
    refine (isKind_s hV hT o0 o1 (r32 (by omega) (by omega))).Bn (fun q1 => ?_) (fun q1 => ?_)
    · simp only [r_RM_brought_112, r_RM_brought_113, r_RM_brought_115, r_RM_brought_116, r_RM_brought_118, r_RM_brought_120, r_RM_brought_122, r_RM_brought_124, r_RM_brought_126, r_RM_brought_127, r_RM_brought_129, r_RM_brought_130, true_and, and_true, or_true, true_or, or_false, false_or, false_and, and_false, not_true_eq_false, not_false_eq_true, implies_true, true_implies, false_implies]
      have hfx : ∀ l, 0 ≤ l → l < τ 1 → 0 ≤ fx τ r l ∧ fx τ r l < τ 0 := fun l a b => by
        have := hV.2.2.2.2.2.1 l a b
        unfold fx; split <;> omega
      refine up_loop (lo := 0) (hi := τ 1) (P := fun l => ∀ many having first second last l13 l14 l15 l16, (0 ≤ having ∧ having ≤ many ∧ many ≤ l) → (0 < many ↔ ∃ k, 0 ≤ k ∧ k < l ∧ mt τ r o k) → (having = many ↔ ∀ k, 0 ≤ k → k < l → mt τ r o k → M.1 153 (8 * fx τ r k + τ (77 + 5 * r) % 8) < 1000000) → (0 ≤ first ∧ first ≤ second ∧ second ≤ 1000000) → (∀ t, t < 1000000 → (first ≤ t ↔ ∃ k, 0 ≤ k ∧ k < l ∧ mt τ r o k ∧ M.1 153 (8 * fx τ r k + τ (77 + 5 * r) % 8) ≤ t)) → (∀ t, t < 1000000 → (second ≤ t ↔ ∃ k k', 0 ≤ k ∧ k < l ∧ 0 ≤ k' ∧ k' < l ∧ ¬ k = k' ∧ mt τ r o k ∧ mt τ r o k' ∧ M.1 153 (8 * fx τ r k + τ (77 + 5 * r) % 8) ≤ t ∧ M.1 153 (8 * fx τ r k' + τ (77 + 5 * r) % 8) ≤ t)) → (0 ≤ last ∧ last ≤ 1000000) → (∀ k, 0 ≤ k → k < l → mt τ r o k → M.1 153 (8 * fx τ r k + τ (77 + 5 * r) % 8) ≤ last) → (last = 0 ∨ ∃ k, 0 ≤ k ∧ k < l ∧ mt τ r o k ∧ M.1 153 (8 * fx τ r k + τ (77 + 5 * r) % 8) = last) → Run C_RM_brought Q 132 [vR 141, vI r, vI o, vI (76 + 5 * r), vI (τ (76 + 5 * r)), vI (τ (77 + 5 * r) / 8), vI (τ (77 + 5 * r) % 8), vI many, vI having, vI first, vI second, vI last, vI l, l13, l14, l15, l16] [] M) (fun l l0 ln ih many having first second last l13 l14 l15 l16 hm hm1 hm2 hf hf1 hs1 hl hl1 hl2 => ?_) h1.1 0 0 1000000 1000000 0 _ _ _ _ (by decide) ⟨fun z => by omega, fun ⟨k, a, b, _⟩ => by omega⟩ ⟨fun _ k a b => by omega, fun _ => rfl⟩ (by decide) (fun t ht => ⟨fun z => by omega, fun ⟨k, a, b, _⟩ => by omega⟩) (fun t ht => ⟨fun z => by omega, fun ⟨k, k', a, b, _⟩ => by omega⟩) (by decide) (fun k a b => by omega) (Or.inl rfl)
      have E := fun x (a : 0 ≤ x) (b : x < τ 0) => hB (8 * x + τ (77 + 5 * r) % 8) (by omega) (by omega)
      rw [r_RM_brought_132]
      simp only [r_RM_brought_134, r_RM_brought_135, r_RM_brought_138, r_RM_brought_139, r_RM_brought_140, r_RM_brought_143, r_RM_brought_145, r_RM_brought_146, r_RM_brought_148, r_RM_brought_149, r_RM_brought_150, r_RM_brought_152, r_RM_brought_154, r_RM_brought_155, r_RM_brought_158, r_RM_brought_159, r_RM_brought_162, r_RM_brought_164, r_RM_brought_165, r_RM_brought_166, r_RM_brought_167, r_RM_brought_170, r_RM_brought_171, r_RM_brought_174, r_RM_brought_176, r_RM_brought_177, true_and, and_true, or_true, true_or, or_false, false_or, false_and, and_false, not_true_eq_false, not_false_eq_true, implies_true, true_implies, false_implies, en]
      refine ⟨by decide, by decide, r32 (by omega) (by omega), r32 (by omega) (by omega), fun q2 => ?_, fun q2 => ?_⟩
      · -- all links are seen
        have el : l = τ 1 := by omega
        rw [el] at hm1 hm2 hf1 hs1 hl1 hl2
        have sm : ∀ t, (∃ k, 0 ≤ k ∧ k < τ 1 ∧ mt τ r o k ∧ M.1 153 (8 * fx τ r k + τ (77 + 5 * r) % 8) ≤ t) ↔ ∃ x, src τ (-1) r o x ∧ M.1 153 (8 * x + τ (77 + 5 * r) % 8) ≤ t := fun t => by
          constructor
          · rintro ⟨k, a, b, c, d⟩; exact ⟨_, src_mt.2 ⟨k, a, b, c, rfl⟩, d⟩
          · rintro ⟨x, c, d⟩
            obtain ⟨k, a, b, e, f⟩ := src_mt.1 c
            exact ⟨k, a, b, e, by rw [f]; exact d⟩
        simp only [r_RM_brought_341, r_RM_brought_343, r_RM_brought_344, r_RM_brought_347, r_RM_brought_349, r_RM_brought_352, r_RM_brought_354, r_RM_brought_356, r_RM_brought_359, r_RM_brought_361, r_RM_brought_364, r_RM_brought_366, r_RM_brought_369, r_RM_brought_371, r_RM_brought_372, r_RM_brought_375, r_RM_brought_377, r_RM_brought_378, r_RM_brought_381, r_RM_brought_383, r_RM_brought_386, true_and, and_true, or_true, true_or, or_false, false_or, false_and, and_false, not_true_eq_false, not_false_eq_true, implies_true, true_implies, false_implies]
        refine ⟨r32 (by omega) (by omega), r32 (by decide) (by decide), fun q3 => ⟨r32 (by omega) (by omega), r32 (by decide) (by decide), fun q4 => fin first _ _ _ _ _ _ _ _ _ _ hf.1 (by omega) (fun t ht => ?_), fun q4 => ⟨r32 (by omega) (by omega), r32 (by decide) (by decide), fun q5 => fin second _ _ _ _ _ _ _ _ _ _ (by omega) hf.2.2 (fun t ht => ?_), fun q5 => fin first _ _ _ _ _ _ _ _ _ _ hf.1 (by omega) (fun t ht => ?_)⟩⟩, fun q3 => ⟨r32 (by omega) (by omega), fun q4 => fin 1000000 _ _ _ _ _ _ _ _ _ _ (by decide) (by decide) (fun t ht => ?_), fun q4 => ⟨r32 (by omega) (by omega), r32 (by omega) (by omega), fun q5 => fin 1000000 _ _ _ _ _ _ _ _ _ _ (by decide) (by decide) (fun t ht => ?_), fun q5 => fin last _ _ _ _ _ _ _ _ _ _ hl.1 hl.2 (fun t ht => ?_)⟩⟩⟩
        · unfold Br
          rw [if_neg (by omega), if_neg (by omega), if_neg (by omega)]
          have := hf1 (t - τ (80 + 5 * r)) (by omega)
          rw [show (first + τ (80 + 5 * r) ≤ t ↔ first ≤ t - τ (80 + 5 * r)) from ⟨fun z => by omega, fun z => by omega⟩, this, sm]
          constructor
          · rintro ⟨x, a, b⟩; exact ⟨q1, x, a, by omega⟩
          · rintro ⟨-, x, a, b⟩; exact ⟨x, a, by omega⟩
        · unfold Br
          rw [if_neg q, if_neg q3, if_pos (s4 hv.1.1 hv.1.2 q q4 q5 q3)]
          rw [show (second + τ (80 + 5 * r) ≤ t ↔ second ≤ t - τ (80 + 5 * r)) from ⟨fun z => by omega, fun z => by omega⟩, hs1 (t - τ (80 + 5 * r)) (by omega)]
          constructor
          · rintro ⟨k, k', a, b, a', b', ne, m, m', d, d'⟩
            exact ⟨q1, fx τ r k, fx τ r k', fun z => ne (mt_inj hV a b a' b' m m' z), src_mt.2 ⟨k, a, b, m, rfl⟩, src_mt.2 ⟨k', a', b', m', rfl⟩, by omega, by omega⟩
          · rintro ⟨-, x, y, ne, sx, sy, d, d'⟩
            obtain ⟨k, a, b, m, f⟩ := src_mt.1 sx
            obtain ⟨k', a', b', m', f'⟩ := src_mt.1 sy
            exact ⟨k, k', a, b, a', b', fun z => ne (by rw [← f, ← f', z]), m, m', by rw [f]; omega, by rw [f']; omega⟩
        · unfold Br
          rw [if_neg (by omega), if_neg (by omega), if_neg (by omega)]
          have := hf1 (t - τ (80 + 5 * r)) (by omega)
          rw [show (first + τ (80 + 5 * r) ≤ t ↔ first ≤ t - τ (80 + 5 * r)) from ⟨fun z => by omega, fun z => by omega⟩, this, sm]
          constructor
          · rintro ⟨x, a, b⟩; exact ⟨q1, x, a, by omega⟩
          · rintro ⟨-, x, a, b⟩; exact ⟨x, a, by omega⟩
        · unfold Br
          rw [if_neg (by omega), if_pos (by omega)]
          refine ⟨fun z => by omega, fun z => ?_⟩
          obtain ⟨x, hx⟩ := z.2.1
          obtain ⟨k, a, b, m, f⟩ := src_mt.1 hx
          have := hm1.2 ⟨k, a, b, m⟩
          omega
        · unfold Br
          rw [if_neg (by omega), if_pos (by omega)]
          refine ⟨fun z => by omega, fun z => ?_⟩
          exfalso
          refine q5 (hm2.2 (fun k a b m => ?_))
          have := z.2.2 _ (src_mt.2 ⟨k, a, b, m, rfl⟩)
          omega
        · unfold Br
          rw [if_neg (by omega), if_pos (by omega)]
          constructor
          · intro z
            obtain ⟨k, a, b, m⟩ := hm1.1 (by omega)
            refine ⟨q1, ⟨_, src_mt.2 ⟨k, a, b, m, rfl⟩⟩, fun x hx => ?_⟩
            obtain ⟨k, a, b, m, f⟩ := src_mt.1 hx
            have := hl1 k a b m
            rw [f] at this
            omega
          · rintro ⟨-, -, z⟩
            rcases hl2 with y | ⟨k, a, b, m, y⟩
            · obtain ⟨k, a, b, m⟩ := hm1.1 (by omega)
              have := z _ (src_mt.2 ⟨k, a, b, m, rfl⟩)
              have := (E _ (hfx k a b).1 (hfx k a b).2).1
              omega
            · have := z _ (src_mt.2 ⟨k, a, b, m, rfl⟩)
              omega
      · -- one link
        have hvl := hV.2.2.2.2.2.1 l l0 (by omega)
        have x0 : M.1 144 (16 + 3 * l) = τ (16 + 3 * l) := hT _ (by omega)
        have x1 : M.1 144 (16 + 3 * l + 1) = τ (17 + 3 * l) := by rw [show 16 + 3 * l + 1 = 17 + 3 * l by omega]; exact hT _ (by omega)
        have x2 : M.1 144 (16 + 3 * l + 2) = τ (18 + 3 * l) := by rw [show 16 + 3 * l + 2 = 18 + 3 * l by omega]; exact hT _ (by omega)
        have hfl := hfx l l0 (by omega)
        -- the link isn't one
        have skip : ¬ mt τ r o l → ∀ l13 l14 l15 l16, Run C_RM_brought Q 335 [vR 141, vI r, vI o, vI (76 + 5 * r), vI (τ (76 + 5 * r)), vI (τ (77 + 5 * r) / 8), vI (τ (77 + 5 * r) % 8), vI many, vI having, vI first, vI second, vI last, vI l, l13, l14, l15, l16] [] M := by
          intro z l13 l14 l15 l16
          simp only [r_RM_brought_335, r_RM_brought_338, true_and, and_true, or_true, true_or, or_false, false_or, false_and, and_false, not_true_eq_false, not_false_eq_true, implies_true, true_implies, false_implies]
          have sub : ∀ k, k < l + 1 → mt τ r o k → k < l := fun k a b => by
            by_cases y : k = l
            · rw [y] at b; exact absurd b z
            · omega
          refine ih (by omega) many having first second last _ _ _ _ (by omega) ?_ ?_ hf (fun t ht => ?_) (fun t ht => ?_) hl (fun k a b m => hl1 k a (sub k b m) m) ?_
          · rw [hm1]
            exact ⟨fun ⟨k, a, b, m⟩ => ⟨k, a, by omega, m⟩, fun ⟨k, a, b, m⟩ => ⟨k, a, sub k b m, m⟩⟩
          · rw [hm2]
            exact ⟨fun y k a b m => y k a (sub k b m) m, fun y k a b m => y k a (by omega) m⟩
          · rw [hf1 t ht]
            exact ⟨fun ⟨k, a, b, m, d⟩ => ⟨k, a, by omega, m, d⟩, fun ⟨k, a, b, m, d⟩ => ⟨k, a, sub k b m, m, d⟩⟩
          · rw [hs1 t ht]
            exact ⟨fun ⟨k, k', a, b, a', b', ne, m, m', d⟩ => ⟨k, k', a, by omega, a', by omega, ne, m, m', d⟩, fun ⟨k, k', a, b, a', b', ne, m, m', d⟩ => ⟨k, k', a, sub k b m, a', sub k' b' m', ne, m, m', d⟩⟩
          · rcases hl2 with y | ⟨k, a, b, m, y⟩
            · exact Or.inl y
            · exact Or.inr ⟨k, a, by omega, m, y⟩
        -- the link is one
        have take : mt τ r o l → ∀ l14 y15 l16, Run C_RM_brought Q 253 [vR 141, vI r, vI o, vI (76 + 5 * r), vI (τ (76 + 5 * r)), vI (τ (77 + 5 * r) / 8), vI (τ (77 + 5 * r) % 8), vI many, vI having, vI first, vI second, vI last, vI l, vI (16 + 3 * l), l14, vI y15, l16] [vI (M.1 153 (8 * fx τ r l + τ (77 + 5 * r) % 8))] M := by
          intro z l14 y15 l16
          have ht0 := E (fx τ r l) hfl.1 hfl.2
          generalize hv0 : M.1 153 (8 * fx τ r l + τ (77 + 5 * r) % 8) = v0 at ht0
          have last' : ∀ many' having' first' second' last', many' = many + 1 → having' = having + (if v0 < 1000000 then 1 else 0) → first' = (if v0 < first then v0 else first) → second' = (if v0 < first then first else if v0 < second then v0 else second) → last' = (if last < v0 then v0 else last) → ∀ l13 l14 l15 l16, Run C_RM_brought Q 132 [vR 141, vI r, vI o, vI (76 + 5 * r), vI (τ (76 + 5 * r)), vI (τ (77 + 5 * r) / 8), vI (τ (77 + 5 * r) % 8), vI many', vI having', vI first', vI second', vI last', vI (l + 1), l13, l14, l15, l16] [] M := by
            intro many' having' first' second' last' em eh ef es el' l13 l14 l15 l16
            refine ih (by omega) many' having' first' second' last' _ _ _ _ ?_ ?_ ?_ ?_ (fun t ht => ?_) (fun t ht => ?_) ?_ (fun k a b m => ?_) ?_
            · split at eh <;> omega
            · exact ⟨fun _ => ⟨l, l0, by omega, z⟩, fun _ => by omega⟩
            · rw [eh, em]
              constructor
              · intro y k a b m
                by_cases w : k = l
                · rw [w, hv0]; split at y <;> omega
                · have : having = many := by split at y <;> omega
                  exact hm2.1 this k a (by omega) m
              · intro y
                have h3 := y l l0 (by omega) z
                rw [hv0] at h3
                rw [if_pos h3, hm2.2 (fun k a b m => y k a (by omega) m)]
            · rw [ef, es]
              split
              · omega
              · split <;> omega
            · have h3 := hf1 t ht
              constructor
              · intro y
                rw [ef] at y
                by_cases w : v0 ≤ t
                · exact ⟨l, l0, by omega, z, by rw [hv0]; exact w⟩
                · have : first ≤ t := by split at y <;> omega
                  obtain ⟨k, a, b, m, d⟩ := h3.1 this
                  exact ⟨k, a, by omega, m, d⟩
              · rintro ⟨k, a, b, m, d⟩
                rw [ef]
                by_cases w : k = l
                · rw [w, hv0] at d; split <;> omega
                · have := h3.2 ⟨k, a, by omega, m, d⟩
                  split <;> omega
            · have h3 := hf1 t ht
              have h4 := hs1 t ht
              constructor
              · intro y
                rw [es] at y
                by_cases w : second ≤ t
                · obtain ⟨k, k', a, b, a', b', ne, m, m', d⟩ := h4.1 w
                  exact ⟨k, k', a, by omega, a', by omega, ne, m, m', d⟩
                · have : first ≤ t ∧ v0 ≤ t := by
                    split at y
                    · omega
                    · split at y <;> omega
                  obtain ⟨k, a, b, m, d⟩ := h3.1 this.1
                  exact ⟨k, l, a, by omega, l0, by omega, by omega, m, z, d, by rw [hv0]; exact this.2⟩
              · rintro ⟨k, k', a, b, a', b', ne, m, m', d, d'⟩
                rw [es]
                by_cases w : k = l
                · have := h3.2 ⟨k', a', by omega, m', d'⟩
                  rw [w, hv0] at d
                  split
                  · omega
                  · split <;> omega
                · by_cases w' : k' = l
                  · have := h3.2 ⟨k, a, by omega, m, d⟩
                    rw [w', hv0] at d'
                    split
                    · omega
                    · split <;> omega
                  · have := h4.2 ⟨k, k', a, by omega, a', by omega, ne, m, m', d, d'⟩
                    split
                    · omega
                    · split <;> omega
            · rw [el']; split <;> omega
            · rw [el']
              by_cases w : k = l
              · rw [w, hv0]; split <;> omega
              · have := hl1 k a (by omega) m
                split <;> omega
            · rw [el']
              split
              · exact Or.inr ⟨l, l0, by omega, z, hv0⟩
              · rcases hl2 with y | ⟨k, a, b, m, y⟩
                · exact Or.inl y
                · exact Or.inr ⟨k, a, by omega, m, y⟩
          have B : ∀ x, 0 ≤ x → x ≤ 1000000 → R32 x := fun x a b => r32 (by omega) (by omega)
          have Rv := B v0 ht0.1 ht0.2
          have Rf := B first hf.1 (by omega)
          have Rs := B second (by omega) hf.2.2
          have Rl := B last hl.1 hl.2
          have RF := B 1000000 (by decide) (by decide)
          simp only [r_RM_brought_253, r_RM_brought_255, r_RM_brought_258, r_RM_brought_260, r_RM_brought_262, r_RM_brought_264, r_RM_brought_267, r_RM_brought_268, r_RM_brought_271, r_RM_brought_272, true_and, and_true, or_true, true_or, or_false, false_or, false_and, and_false, not_true_eq_false, not_false_eq_true, implies_true, true_implies, false_implies]
          have step : ∀ h', h' = having + (if v0 < 1000000 then 1 else 0) → Run C_RM_brought Q 273 [vR 141, vI r, vI o, vI (76 + 5 * r), vI (τ (76 + 5 * r)), vI (τ (77 + 5 * r) / 8), vI (τ (77 + 5 * r) % 8), vI (many + 1), vI having, vI first, vI second, vI last, vI l, vI (16 + 3 * l), l14, vI y15, vI v0] [vI h'] M := by
            intro h' eh
            simp only [r_RM_brought_273, r_RM_brought_275, r_RM_brought_277, r_RM_brought_279, r_RM_brought_282, r_RM_brought_284, r_RM_brought_287, r_RM_brought_289, r_RM_brought_291, r_RM_brought_294, r_RM_brought_296, r_RM_brought_299, r_RM_brought_301, r_RM_brought_303, r_RM_brought_305, r_RM_brought_307, r_RM_brought_310, r_RM_brought_312, r_RM_brought_315, r_RM_brought_317, r_RM_brought_319, r_RM_brought_321, r_RM_brought_323, r_RM_brought_326, r_RM_brought_328, r_RM_brought_331, r_RM_brought_333, r_RM_brought_335, r_RM_brought_338, true_and, and_true, or_true, true_or, or_false, false_or, false_and, and_false, not_true_eq_false, not_false_eq_true, implies_true, true_implies, false_implies]
            by_cases c1 : v0 < first
            · refine ⟨Rv, Rf, fun w => by omega, fun _ => ⟨Rv, Rf, fun w => by omega, fun _ => ⟨Rv, Rl, fun w => ?_, fun w => ?_⟩⟩⟩
              · exact last' _ _ _ _ _ rfl eh (by rw [if_pos c1]) (by rw [if_pos c1]) (by rw [if_neg (by omega)]) _ _ _ _
              · exact last' _ _ _ _ _ rfl eh (by rw [if_pos c1]) (by rw [if_pos c1]) (by rw [if_pos (by omega)]) _ _ _ _
            · refine ⟨Rv, Rf, fun _ => ⟨Rv, Rs, fun c2 => ⟨Rv, Rf, fun _ => ⟨Rv, Rl, fun w => ?_, fun w => ?_⟩, fun w => by omega⟩, fun c2 => ⟨Rv, Rf, fun _ => ⟨Rv, Rl, fun w => ?_, fun w => ?_⟩, fun w => by omega⟩⟩, fun w => by omega⟩
              · exact last' _ _ _ _ _ rfl eh (by rw [if_neg c1]) (by rw [if_neg c1, if_neg (by omega)]) (by rw [if_neg (by omega)]) _ _ _ _
              · exact last' _ _ _ _ _ rfl eh (by rw [if_neg c1]) (by rw [if_neg c1, if_neg (by omega)]) (by rw [if_pos (by omega)]) _ _ _ _
              · exact last' _ _ _ _ _ rfl eh (by rw [if_neg c1]) (by rw [if_neg c1, if_pos (by omega)]) (by rw [if_neg (by omega)]) _ _ _ _
              · exact last' _ _ _ _ _ rfl eh (by rw [if_neg c1]) (by rw [if_neg c1, if_pos (by omega)]) (by rw [if_pos (by omega)]) _ _ _ _
          refine ⟨Rv, RF, fun c => step _ (by rw [if_neg (by omega)]), fun c => step _ (by rw [if_pos (by omega)])⟩
        have rest : ∀ near far, near = (if τ (76 + 5 * r) = 2 then τ (17 + 3 * l) else τ (18 + 3 * l)) → far = fx τ r l → ∀ l16, Run C_RM_brought Q 208 [vR 141, vI r, vI o, vI (76 + 5 * r), vI (τ (76 + 5 * r)), vI (τ (77 + 5 * r) / 8), vI (τ (77 + 5 * r) % 8), vI many, vI having, vI first, vI second, vI last, vI l, vI (16 + 3 * l), vI near, l15, l16] [vI far] M := by
          intro near far enr efr l16
          have hnr : 0 ≤ near ∧ near < τ 0 := by rw [enr]; split <;> omega
          simp only [r_RM_brought_208, r_RM_brought_210, r_RM_brought_211, r_RM_brought_214, r_RM_brought_216, r_RM_brought_217, r_RM_brought_218, r_RM_brought_221, r_RM_brought_222, r_RM_brought_223, r_RM_brought_224, r_RM_brought_225, r_RM_brought_228, r_RM_brought_230, r_RM_brought_231, r_RM_brought_234, r_RM_brought_235, r_RM_brought_237, r_RM_brought_239, r_RM_brought_242, r_RM_brought_245, r_RM_brought_246, r_RM_brought_248, r_RM_brought_250, true_and, and_true, or_true, true_or, or_false, false_or, false_and, and_false, not_true_eq_false, not_false_eq_true, implies_true, true_implies, false_implies, x0, e2]
          refine ⟨by omega, by omega, by omega, by omega, r32 (by omega) (by omega), r32 (by omega) (by omega), fun c1 => skip (fun z => c1 z.1) _ _ _ _, fun c1 => ⟨r32 (by omega) (by omega), r32 (by omega) (by omega), fun c2 => skip (fun z => c2 (enr.trans z.2.1)) _ _ _ _, fun c2 => ?_⟩⟩
          rw [efr]
          refine (isKind_s hV hT hfl.1 hfl.2 (r32 (by omega) (by omega))).Be (fun c3 => Cal.I (rtimeOf_s M hfl.1 (by omega) (by omega) (by omega)) (take ⟨Classical.not_not.1 c1, enr.symm.trans (Classical.not_not.1 c2), c3⟩ _ _ _)) (fun c3 => skip (fun z => c3 z.2.2) _ _ _ _)
        rw [x1]
        have ifn : ∀ near, near = (if τ (76 + 5 * r) = 2 then τ (17 + 3 * l) else τ (18 + 3 * l)) → Run C_RM_brought Q 179 [vR 141, vI r, vI o, vI (76 + 5 * r), vI (τ (76 + 5 * r)), vI (τ (77 + 5 * r) / 8), vI (τ (77 + 5 * r) % 8), vI many, vI having, vI first, vI second, vI last, vI l, vI (16 + 3 * l), l14, l15, l16] [vI near] M := by
          intro near enr
          simp only [r_RM_brought_179, r_RM_brought_181, r_RM_brought_183, r_RM_brought_184, r_RM_brought_187, r_RM_brought_188, r_RM_brought_191, r_RM_brought_193, r_RM_brought_194, r_RM_brought_195, r_RM_brought_196, r_RM_brought_199, r_RM_brought_200, r_RM_brought_203, r_RM_brought_205, r_RM_brought_206, r_RM_brought_207, true_and, and_true, or_true, true_or, or_false, false_or, false_and, and_false, not_true_eq_false, not_false_eq_true, implies_true, true_implies, false_implies, x1, x2]
          refine ⟨r32 (by omega) (by omega), r32 (by decide) (by decide), fun c => ⟨by omega, by omega, rest near _ enr ?_ _⟩, fun c => ⟨by omega, by omega, rest near _ enr ?_ _⟩⟩
          · unfold fx; rw [if_neg c]
          · unfold fx; rw [if_pos (by omega)]
        simp only [r_RM_brought_178, true_and, and_true, or_true, true_or, or_false, false_or, false_and, and_false, not_true_eq_false, not_false_eq_true, implies_true, true_implies, false_implies]
        refine ⟨r32 (by omega) (by omega), r32 (by decide) (by decide), fun c => ⟨by omega, by omega, ?_⟩, fun c => ⟨by omega, by omega, ?_⟩⟩
        · rw [x2]; exact ifn _ (by rw [if_neg c])
        · exact ifn _ (by rw [if_pos (by omega)])
    · simp only [r_RM_brought_109, r_RM_brought_111, true_and, and_true, or_true, true_or, or_false, false_or, false_and, and_false, not_true_eq_false, not_false_eq_true, implies_true, true_implies, false_implies]
      refine far (fun t ht z => ?_)
      unfold Br at z
      rw [if_neg q] at z
      exact q1 z.1
  · -- SAME
    have E := hB (8 * o + τ (77 + 5 * r) % 8) (by omega) (by omega)
    have hz : τ (76 + 5 * r) = 0 := by omega
    refine (isKind_s hV hT o0 o1 (r32 (by omega) (by omega))).Be (fun q1 => ?_) (fun q1 => ?_)
    · refine Cal.I (rtimeOf_s M o0 (by omega) (by omega) (by omega)) ⟨r32 (by omega) (by omega), r32 (by decide) (by decide), fun q2 => ?_, fun q2 => Cal.I (rtimeOf_s M o0 (by omega) (by omega) (by omega)) ⟨by omega, by omega, ?_⟩⟩
      · refine far (fun t ht z => ?_)
        unfold Br at z
        rw [if_pos hz] at z
        have := z.2
        omega
      · rw [e4, ← hQ]
        refine ⟨_, rfl, by omega, by omega, fun t ht => ?_, rfl⟩
        unfold Br
        rw [if_pos hz]
        exact ⟨fun z => ⟨q1, z⟩, fun z => z.2⟩
    · refine far (fun t ht z => ?_)
      unfold Br at z
      rw [if_pos hz] at z
      exact q1 z.1
