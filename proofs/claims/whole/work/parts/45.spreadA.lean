/-! the class's Spreader: its tables of links -/
theorem fill_106 (M : Mem) {v : Int} : Cal Y_JA_fill [vR 106, vI v] M (fun r M' => r = none ∧ Kp (fun c => c = 106) M M' ∧ ∀ i, 0 ≤ i → i < 80 → M'.1 106 i = v) := by
  refine Cal.mk (y := Y_JA_fill) (loc := [vR 106, vI v, vN, vN]) G_JA_fill rfl (by decide) rfl rfl (Nat.le_of_ble_eq_true rfl) ?_
  simp only [r_JA_fill_106_0, r_JA_fill_106_1, r_JA_fill_106_2, r_JA_fill_106_3, r_JA_fill_106_4, true_and, and_true, or_true, true_or, or_false, false_or, false_and, and_false, not_true_eq_false, not_false_eq_true, implies_true, true_implies, false_implies]
  refine up_loop (lo := 0) (hi := 80) (P := fun i => ∀ M1, Kp (fun c => c = 106) M M1 → (∀ j, 0 ≤ j → j < i → M1.1 106 j = v) → Run C_JA_fill _ 5 [vR 106, vI v, vI i, vI 80] [] M1) (fun i hi hin ih M1 k h => ?_) (by decide) M Kp.rf (fun j a b => by omega)
  rw [r_JA_fill_106_5]
  simp only [r_JA_fill_106_6, r_JA_fill_106_7, r_JA_fill_106_10, r_JA_fill_106_11, r_JA_fill_106_12, r_JA_fill_106_13, r_JA_fill_106_14, r_JA_fill_106_17, r_JA_fill_106_20, true_and, and_true, or_true, true_or, or_false, false_or, false_and, and_false, not_true_eq_false, not_false_eq_true, implies_true, true_implies, false_implies]
  refine ⟨r32 (by omega) (by omega), r32 (by decide) (by decide), fun q => ⟨k, fun j a b => h j a (by omega)⟩, fun q => ⟨hi, by omega, ih (by omega) _ (Kp.w k rfl) (fun j a b => ?_)⟩⟩
  rw [wI_at]
  split
  · rfl
  · rename_i q2
    exact h j a (by
      rcases Int.lt_or_le j i with z | z
      · exact z
      · exact absurd ⟨rfl, by omega⟩ q2)
theorem fill_107 (M : Mem) {v : Int} : Cal Y_JA_fill [vR 107, vI v] M (fun r M' => r = none ∧ Kp (fun c => c = 107) M M' ∧ ∀ i, 0 ≤ i → i < 8 → M'.1 107 i = v) := by
  refine Cal.mk (y := Y_JA_fill) (loc := [vR 107, vI v, vN, vN]) G_JA_fill rfl (by decide) rfl rfl (Nat.le_of_ble_eq_true rfl) ?_
  simp only [r_JA_fill_107_0, r_JA_fill_107_1, r_JA_fill_107_2, r_JA_fill_107_3, r_JA_fill_107_4, true_and, and_true, or_true, true_or, or_false, false_or, false_and, and_false, not_true_eq_false, not_false_eq_true, implies_true, true_implies, false_implies]
  refine up_loop (lo := 0) (hi := 8) (P := fun i => ∀ M1, Kp (fun c => c = 107) M M1 → (∀ j, 0 ≤ j → j < i → M1.1 107 j = v) → Run C_JA_fill _ 5 [vR 107, vI v, vI i, vI 8] [] M1) (fun i hi hin ih M1 k h => ?_) (by decide) M Kp.rf (fun j a b => by omega)
  rw [r_JA_fill_107_5]
  simp only [r_JA_fill_107_6, r_JA_fill_107_7, r_JA_fill_107_10, r_JA_fill_107_11, r_JA_fill_107_12, r_JA_fill_107_13, r_JA_fill_107_14, r_JA_fill_107_17, r_JA_fill_107_20, true_and, and_true, or_true, true_or, or_false, false_or, false_and, and_false, not_true_eq_false, not_false_eq_true, implies_true, true_implies, false_implies]
  refine ⟨r32 (by omega) (by omega), r32 (by decide) (by decide), fun q => ⟨k, fun j a b => h j a (by omega)⟩, fun q => ⟨hi, by omega, ih (by omega) _ (Kp.w k rfl) (fun j a b => ?_)⟩⟩
  rw [wI_at]
  split
  · rfl
  · rename_i q2
    exact h j a (by
      rcases Int.lt_or_le j i with z | z
      · exact z
      · exact absurd ⟨rfl, by omega⟩ q2)
theorem fill_108 (M : Mem) {v : Int} : Cal Y_JA_fill [vR 108, vI v] M (fun r M' => r = none ∧ Kp (fun c => c = 108) M M' ∧ ∀ i, 0 ≤ i → i < 30 → M'.1 108 i = v) := by
  refine Cal.mk (y := Y_JA_fill) (loc := [vR 108, vI v, vN, vN]) G_JA_fill rfl (by decide) rfl rfl (Nat.le_of_ble_eq_true rfl) ?_
  simp only [r_JA_fill_108_0, r_JA_fill_108_1, r_JA_fill_108_2, r_JA_fill_108_3, r_JA_fill_108_4, true_and, and_true, or_true, true_or, or_false, false_or, false_and, and_false, not_true_eq_false, not_false_eq_true, implies_true, true_implies, false_implies]
  refine up_loop (lo := 0) (hi := 30) (P := fun i => ∀ M1, Kp (fun c => c = 108) M M1 → (∀ j, 0 ≤ j → j < i → M1.1 108 j = v) → Run C_JA_fill _ 5 [vR 108, vI v, vI i, vI 30] [] M1) (fun i hi hin ih M1 k h => ?_) (by decide) M Kp.rf (fun j a b => by omega)
  rw [r_JA_fill_108_5]
  simp only [r_JA_fill_108_6, r_JA_fill_108_7, r_JA_fill_108_10, r_JA_fill_108_11, r_JA_fill_108_12, r_JA_fill_108_13, r_JA_fill_108_14, r_JA_fill_108_17, r_JA_fill_108_20, true_and, and_true, or_true, true_or, or_false, false_or, false_and, and_false, not_true_eq_false, not_false_eq_true, implies_true, true_implies, false_implies]
  refine ⟨r32 (by omega) (by omega), r32 (by decide) (by decide), fun q => ⟨k, fun j a b => h j a (by omega)⟩, fun q => ⟨hi, by omega, ih (by omega) _ (Kp.w k rfl) (fun j a b => ?_)⟩⟩
  rw [wI_at]
  split
  · rfl
  · rename_i q2
    exact h j a (by
      rcases Int.lt_or_le j i with z | z
      · exact z
      · exact absurd ⟨rfl, by omega⟩ q2)
theorem fill_109 (M : Mem) {v : Int} : Cal Y_JA_fill [vR 109, vI v] M (fun r M' => r = none ∧ Kp (fun c => c = 109) M M' ∧ ∀ i, 0 ≤ i → i < 30 → M'.1 109 i = v) := by
  refine Cal.mk (y := Y_JA_fill) (loc := [vR 109, vI v, vN, vN]) G_JA_fill rfl (by decide) rfl rfl (Nat.le_of_ble_eq_true rfl) ?_
  simp only [r_JA_fill_109_0, r_JA_fill_109_1, r_JA_fill_109_2, r_JA_fill_109_3, r_JA_fill_109_4, true_and, and_true, or_true, true_or, or_false, false_or, false_and, and_false, not_true_eq_false, not_false_eq_true, implies_true, true_implies, false_implies]
  refine up_loop (lo := 0) (hi := 30) (P := fun i => ∀ M1, Kp (fun c => c = 109) M M1 → (∀ j, 0 ≤ j → j < i → M1.1 109 j = v) → Run C_JA_fill _ 5 [vR 109, vI v, vI i, vI 30] [] M1) (fun i hi hin ih M1 k h => ?_) (by decide) M Kp.rf (fun j a b => by omega)
  rw [r_JA_fill_109_5]
  simp only [r_JA_fill_109_6, r_JA_fill_109_7, r_JA_fill_109_10, r_JA_fill_109_11, r_JA_fill_109_12, r_JA_fill_109_13, r_JA_fill_109_14, r_JA_fill_109_17, r_JA_fill_109_20, true_and, and_true, or_true, true_or, or_false, false_or, false_and, and_false, not_true_eq_false, not_false_eq_true, implies_true, true_implies, false_implies]
  refine ⟨r32 (by omega) (by omega), r32 (by decide) (by decide), fun q => ⟨k, fun j a b => h j a (by omega)⟩, fun q => ⟨hi, by omega, ih (by omega) _ (Kp.w k rfl) (fun j a b => ?_)⟩⟩
  rw [wI_at]
  split
  · rfl
  · rename_i q2
    exact h j a (by
      rcases Int.lt_or_le j i with z | z
      · exact z
      · exact absurd ⟨rfl, by omega⟩ q2)
theorem fill_110 (M : Mem) {v : Int} : Cal Y_JA_fill [vR 110, vI v] M (fun r M' => r = none ∧ Kp (fun c => c = 110) M M' ∧ ∀ i, 0 ≤ i → i < 4 → M'.1 110 i = v) := by
  refine Cal.mk (y := Y_JA_fill) (loc := [vR 110, vI v, vN, vN]) G_JA_fill rfl (by decide) rfl rfl (Nat.le_of_ble_eq_true rfl) ?_
  simp only [r_JA_fill_110_0, r_JA_fill_110_1, r_JA_fill_110_2, r_JA_fill_110_3, r_JA_fill_110_4, true_and, and_true, or_true, true_or, or_false, false_or, false_and, and_false, not_true_eq_false, not_false_eq_true, implies_true, true_implies, false_implies]
  refine up_loop (lo := 0) (hi := 4) (P := fun i => ∀ M1, Kp (fun c => c = 110) M M1 → (∀ j, 0 ≤ j → j < i → M1.1 110 j = v) → Run C_JA_fill _ 5 [vR 110, vI v, vI i, vI 4] [] M1) (fun i hi hin ih M1 k h => ?_) (by decide) M Kp.rf (fun j a b => by omega)
  rw [r_JA_fill_110_5]
  simp only [r_JA_fill_110_6, r_JA_fill_110_7, r_JA_fill_110_10, r_JA_fill_110_11, r_JA_fill_110_12, r_JA_fill_110_13, r_JA_fill_110_14, r_JA_fill_110_17, r_JA_fill_110_20, true_and, and_true, or_true, true_or, or_false, false_or, false_and, and_false, not_true_eq_false, not_false_eq_true, implies_true, true_implies, false_implies]
  refine ⟨r32 (by omega) (by omega), r32 (by decide) (by decide), fun q => ⟨k, fun j a b => h j a (by omega)⟩, fun q => ⟨hi, by omega, ih (by omega) _ (Kp.w k rfl) (fun j a b => ?_)⟩⟩
  rw [wI_at]
  split
  · rfl
  · rename_i q2
    exact h j a (by
      rcases Int.lt_or_le j i with z | z
      · exact z
      · exact absurd ⟨rfl, by omega⟩ q2)
/-- the memory holds a row without book, seen, log -/
def XT (M : Mem) (τ : Rw) : Prop := M.1 1 0 = τ 0 ∧ M.1 1 1 = τ 1 ∧ M.1 1 2 = τ 2 ∧ (∀ i, 0 ≤ i → i < 10 → M.1 2 i = τ (6 + i)) ∧ (∀ i, 0 ≤ i → i < 60 → M.1 3 i = τ (16 + i)) ∧ (∀ i, 0 ≤ i → i < 60 → M.1 4 i = τ (76 + i))
theorem XR.t {M : Mem} {ρ : Rw} (h : XR M 1 ρ) : XT M (tau ρ) := by
  refine ⟨?_, ?_, ?_, fun i a b => ?_, fun i a b => ?_, fun i a b => ?_⟩
  · rw [tau_lo (by decide) (by decide)]; exact h.n.1
  · rw [tau_lo (by decide) (by decide)]; exact h.n.2.1
  · rw [tau_lo (by decide) (by decide)]; exact h.n.2.2.1
  · rw [tau_hi (by omega) (by omega)]; exact h.2.1 i a b
  · rw [tau_hi (by omega) (by omega)]; exact h.2.2.1 i a b
  · rw [tau_hi (by omega) (by omega)]; exact h.2.2.2.1 i a b
theorem XT.kp {P : Nat → Prop} {M M' : Mem} {τ : Rw} (h : XT M τ) (hk : Kp P M M') (hP : ∀ c, 1 ≤ c → c ≤ 4 → ¬ P c) : XT M' τ := by
  have e1 := hk.at (hP 1 (by decide) (by decide))
  have e2 := hk.at (hP 2 (by decide) (by decide))
  have e3 := hk.at (hP 3 (by decide) (by decide))
  have e4 := hk.at (hP 4 (by decide) (by decide))
  unfold XT at *
  simp only [e1, e2, e3, e4]
  exact h
theorem XT.l {M : Mem} {τ : Rw} (h : XT M τ) {l p : Int} (h0 : 0 ≤ l) (h1 : l < 20) (p0 : 0 ≤ p) (p1 : p ≤ 2) : M.1 3 (l * 3 + p) = τ (16 + p + 3 * l) := by
  rw [h.2.2.2.2.1 (l * 3 + p) (by omega) (by omega)]; congr 1; omega
theorem XT.r {M : Mem} {τ : Rw} (h : XT M τ) {l p : Int} (h0 : 0 ≤ l) (h1 : l < 12) (p0 : 0 ≤ p) (p1 : p ≤ 4) : M.1 4 (l * 5 + p) = τ (76 + p + 5 * l) := by
  rw [h.2.2.2.2.2 (l * 5 + p) (by omega) (by omega)]; congr 1; omega
theorem part_s {M : Mem} {τ : Rw} (h : XT M τ) {l p : Int} (h0 : 0 ≤ l) (h1 : l < 12) (p0 : 0 ≤ p) (p1 : p ≤ 4) : Cal Y_Mo_rulePart [vR 1, vI l, vI p] M (fun r M' => r = some (vI (τ (76 + p + 5 * l))) ∧ M' = M) := by
  rw [← h.r h0 h1 p0 p1]
  exact rulePart_s M (by omega) (by omega)
theorem rule_bd {τ : Rw} (hV : VR τ) {l p : Int} (h0 : 0 ≤ l) (h1 : l < τ 2) (hp : p = 1 ∨ p = 3) : 0 ≤ τ (76 + p + 5 * l) ∧ τ (76 + p + 5 * l) ≤ 31 := by
  have hv := hV.2.2.2.2.2.2.2.1 l h0 h1
  rcases hp with rfl | rfl
  · have := hv.2.1; simp only [show (76 : Int) + 1 = 77 from rfl]; omega
  · have := hv.2.2.2.1; simp only [show (76 : Int) + 3 = 79 from rfl]; omega
theorem event_s {M : Mem} {τ : Rw} (hV : VR τ) (h : XT M τ) {l p : Int} (h0 : 0 ≤ l) (h1 : l < τ 2) (hp : p = 1 ∨ p = 3) : Cal Y_Mo_ruleEvent [vR 1, vI l, vI p] M (fun r M' => r = some (vI (τ (76 + p + 5 * l) % 8)) ∧ M' = M) := by
  have h2 := hV.2.2.1
  have e := h.r (l := l) (p := p) h0 (by omega) (by omega) (by omega)
  have hb := rule_bd hV h0 h1 hp
  refine Cal.mk (y := Y_Mo_ruleEvent) (loc := [vR 1, vI l, vI p]) G_Mo_ruleEvent rfl (by decide) rfl rfl (Nat.le_of_ble_eq_true rfl) ?_
  simp only [r_Mo_ruleEvent_0, r_Mo_ruleEvent_1, r_Mo_ruleEvent_4, r_Mo_ruleEvent_5, r_Mo_ruleEvent_6, r_Mo_ruleEvent_7, r_Mo_ruleEvent_8, r_Mo_ruleEvent_9, r_Mo_ruleEvent_10, r_Mo_ruleEvent_12, r_Mo_ruleEvent_13, true_and, and_true, or_true, true_or, or_false, false_or, false_and, and_false, not_true_eq_false, not_false_eq_true, implies_true, true_implies, false_implies, e]
  refine ⟨by omega, by omega, ⟨r32 (by omega) (by omega), by decide, by decide⟩, ?_⟩
  rw [Int.tmod_eq_emod_of_nonneg hb.1]
theorem kind_s {M : Mem} {τ : Rw} (hV : VR τ) (h : XT M τ) {l p : Int} (h0 : 0 ≤ l) (h1 : l < τ 2) (hp : p = 1 ∨ p = 3) : Cal Y_Mo_ruleKind [vR 1, vI l, vI p] M (fun r M' => r = some (vI (τ (76 + p + 5 * l) / 8)) ∧ M' = M) := by
  have h2 := hV.2.2.1
  have e := h.r (l := l) (p := p) h0 (by omega) (by omega) (by omega)
  have hb := rule_bd hV h0 h1 hp
  refine Cal.mk (y := Y_Mo_ruleKind) (loc := [vR 1, vI l, vI p]) G_Mo_ruleKind rfl (by decide) rfl rfl (Nat.le_of_ble_eq_true rfl) ?_
  simp only [r_Mo_ruleKind_0, r_Mo_ruleKind_1, r_Mo_ruleKind_4, r_Mo_ruleKind_5, r_Mo_ruleKind_6, r_Mo_ruleKind_7, r_Mo_ruleKind_8, r_Mo_ruleKind_9, r_Mo_ruleKind_10, r_Mo_ruleKind_12, r_Mo_ruleKind_13, true_and, and_true, or_true, true_or, or_false, false_or, false_and, and_false, not_true_eq_false, not_false_eq_true, implies_true, true_implies, false_implies, e]
  refine ⟨by omega, by omega, ⟨r32 (by omega) (by omega), by decide, by decide⟩, ?_⟩
  rw [Int.tdiv_eq_ediv_of_nonneg hb.1]
theorem timeOf_s (M : Mem) {o e : Int} (h0 : 0 ≤ o) (h1 : o < 10) (e0 : 0 ≤ e) (e1 : e < 8) : Cal Y_Sp_timeOf [vR 105, vI o, vI e] M (fun r M' => r = some (vI (M.1 106 (8 * o + e))) ∧ M' = M) := by
  refine Cal.mk (y := Y_Sp_timeOf) (loc := [vR 105, vI o, vI e]) G_Sp_timeOf rfl (by decide) rfl rfl (Nat.le_of_ble_eq_true rfl) ?_
  simp only [r_Sp_timeOf_0, r_Sp_timeOf_1, r_Sp_timeOf_4, r_Sp_timeOf_5, r_Sp_timeOf_7, r_Sp_timeOf_8, r_Sp_timeOf_9, r_Sp_timeOf_10, r_Sp_timeOf_11, true_and, and_true, or_true, true_or, or_false, false_or, false_and, and_false, not_true_eq_false, not_false_eq_true, implies_true, true_implies, false_implies]
  refine ⟨by omega, by omega, ?_⟩
  rw [show o * 8 + e = 8 * o + e by omega]
/-- of the first L links but the w-th one of relation r leads from a to b -/
def lkn (τ : Rw) (w L r a b : Int) : Prop := ∃ l, 0 ≤ l ∧ l < L ∧ ¬ l = w ∧ τ (16 + 3 * l) = r ∧ τ (17 + 3 * l) = a ∧ τ (18 + 3 * l) = b
theorem lkn_0 {τ : Rw} {w r a b : Int} : ¬ lkn τ w 0 r a b := fun ⟨l, h1, h2, _⟩ => by omega
theorem lkn_s {τ : Rw} {w L r a b : Int} (hL : 0 ≤ L) : lkn τ w (L + 1) r a b ↔ lkn τ w L r a b ∨ (¬ L = w ∧ τ (16 + 3 * L) = r ∧ τ (17 + 3 * L) = a ∧ τ (18 + 3 * L) = b) := by
  constructor
  · rintro ⟨l, h1, h2, h3⟩
    by_cases q : l = L
    · subst q; exact Or.inr h3
    · exact Or.inl ⟨l, h1, by omega, h3⟩
  · rintro (⟨l, h1, h2, h3⟩ | h)
    · exact ⟨l, h1, by omega, h3⟩
    · exact ⟨L, hL, by omega, h⟩
def T8 (τ : Rw) (w L : Int) (M : Mem) : Prop := ∀ r o, 0 ≤ r → r < 3 → 0 ≤ o → o < 10 → (0 ≤ M.1 108 (r * 10 + o) ∧ M.1 108 (r * 10 + o) < 1024) ∧ ∀ x, 0 ≤ x → (bit (M.1 108 (r * 10 + o)) x = true ↔ lkn τ w L r o x)
def T9 (τ : Rw) (w L : Int) (M : Mem) : Prop := ∀ r o, 0 ≤ r → r < 3 → 0 ≤ o → o < 10 → (0 ≤ M.1 109 (r * 10 + o) ∧ M.1 109 (r * 10 + o) < 1024) ∧ ∀ x, 0 ≤ x → (bit (M.1 109 (r * 10 + o)) x = true ↔ lkn τ w L r x o)
def T0 (τ : Rw) (n : Int) (M : Mem) : Prop := ∀ k, 0 ≤ k → k < 4 → (0 ≤ M.1 110 k ∧ M.1 110 k < 1024) ∧ ∀ x, 0 ≤ x → (bit (M.1 110 k) x = true ↔ x < n ∧ τ (6 + x) = k)
theorem p2_10 {n : Int} (h : n < 10) : p2 n < 1024 := by
  have := p2_mono (show n ≤ 9 by omega)
  have e : p2 9 = 512 := by decide
  omega
theorem or_p2 {a k x : Int} (ha : 0 ≤ a) (ha2 : a < 1024) (hk : 0 ≤ k) (hk2 : k < 10) (hx : 0 ≤ x) : (0 ≤ ior a (p2 k) ∧ ior a (p2 k) < 1024) ∧ (bit (ior a (p2 k)) x = true ↔ bit a x = true ∨ x = k) := by
  have h1 := p2_10 hk2
  have h2 := p2_pos k
  refine ⟨ior_bd (n := 10) (by decide) ha ha2 (by omega) h1, ?_⟩
  rw [bit_ior ha (by omega) (by omega) (by omega), bit_p2 hk hx]
  simp
theorem T8.st {τ : Rw} (hV : VR τ) {w L : Int} {M M' : Mem} (h : T8 τ w L M) (hL : 0 ≤ L) (hL2 : L < τ 1) (hw : ¬ L = w) (e : ∀ i, M'.1 108 i = if i = τ (16 + 3 * L) * 10 + τ (17 + 3 * L) then ior (M.1 108 i) (p2 (τ (18 + 3 * L))) else M.1 108 i) : T8 τ w (L + 1) M' := by
  have hv := hV.2.2.2.2.2.1 L hL hL2
  have h0 := hV.1
  intro r o r0 r1 o0 o1
  obtain ⟨⟨b0, b1⟩, hb⟩ := h r o r0 r1 o0 o1
  rw [e]
  by_cases q : r * 10 + o = τ (16 + 3 * L) * 10 + τ (17 + 3 * L)
  · rw [if_pos q]
    refine ⟨(or_p2 (x := 0) b0 b1 (by omega) (by omega) (by decide)).1, fun x hx => ?_⟩
    rw [(or_p2 b0 b1 (by omega) (by omega) hx).2, hb x hx, lkn_s hL]
    refine or_congr Iff.rfl ⟨fun z => ⟨hw, by omega, by omega, by omega⟩, fun z => by omega⟩
  · rw [if_neg q]
    refine ⟨⟨b0, b1⟩, fun x hx => ?_⟩
    rw [hb x hx, lkn_s hL]
    exact ⟨Or.inl, fun z => z.resolve_right (fun y => q (by omega))⟩
theorem T9.st {τ : Rw} (hV : VR τ) {w L : Int} {M M' : Mem} (h : T9 τ w L M) (hL : 0 ≤ L) (hL2 : L < τ 1) (hw : ¬ L = w) (e : ∀ i, M'.1 109 i = if i = τ (16 + 3 * L) * 10 + τ (18 + 3 * L) then ior (M.1 109 i) (p2 (τ (17 + 3 * L))) else M.1 109 i) : T9 τ w (L + 1) M' := by
  have hv := hV.2.2.2.2.2.1 L hL hL2
  have h0 := hV.1
  intro r o r0 r1 o0 o1
  obtain ⟨⟨b0, b1⟩, hb⟩ := h r o r0 r1 o0 o1
  rw [e]
  by_cases q : r * 10 + o = τ (16 + 3 * L) * 10 + τ (18 + 3 * L)
  · rw [if_pos q]
    refine ⟨(or_p2 (x := 0) b0 b1 (by omega) (by omega) (by decide)).1, fun x hx => ?_⟩
    rw [(or_p2 b0 b1 (by omega) (by omega) hx).2, hb x hx, lkn_s hL]
    refine or_congr Iff.rfl ⟨fun z => ⟨hw, by omega, by omega, by omega⟩, fun z => by omega⟩
  · rw [if_neg q]
    refine ⟨⟨b0, b1⟩, fun x hx => ?_⟩
    rw [hb x hx, lkn_s hL]
    exact ⟨Or.inl, fun z => z.resolve_right (fun y => q (by omega))⟩
theorem T8.skip {τ : Rw} {w L : Int} {M : Mem} (h : T8 τ w L M) (hL : 0 ≤ L) (hw : L = w) : T8 τ w (L + 1) M := fun r o r0 r1 o0 o1 => ⟨(h r o r0 r1 o0 o1).1, fun x hx => by rw [(h r o r0 r1 o0 o1).2 x hx, lkn_s hL]; exact ⟨Or.inl, fun z => z.resolve_right (fun y => y.1 hw)⟩⟩
theorem T9.skip {τ : Rw} {w L : Int} {M : Mem} (h : T9 τ w L M) (hL : 0 ≤ L) (hw : L = w) : T9 τ w (L + 1) M := fun r o r0 r1 o0 o1 => ⟨(h r o r0 r1 o0 o1).1, fun x hx => by rw [(h r o r0 r1 o0 o1).2 x hx, lkn_s hL]; exact ⟨Or.inl, fun z => z.resolve_right (fun y => y.1 hw)⟩⟩
theorem T0.st {τ : Rw} {n : Int} {M M' : Mem} (h : T0 τ n M) (hn : 0 ≤ n) (hn2 : n < 10) (e : ∀ i, M'.1 110 i = if i = τ (6 + n) then ior (M.1 110 i) (p2 n) else M.1 110 i) : T0 τ (n + 1) M' := by
  intro k k0 k1
  obtain ⟨⟨b0, b1⟩, hb⟩ := h k k0 k1
  rw [e]
  by_cases q : k = τ (6 + n)
  · rw [if_pos q]
    refine ⟨(or_p2 (x := 0) b0 b1 hn hn2 (by decide)).1, fun x hx => ?_⟩
    rw [(or_p2 b0 b1 hn hn2 hx).2, hb x hx]
    constructor
    · rintro (z | rfl)
      · exact ⟨by omega, z.2⟩
      · exact ⟨by omega, q.symm⟩
    · rintro ⟨z1, z2⟩
      by_cases z : x = n
      · exact Or.inr z
      · exact Or.inl ⟨by omega, z2⟩
  · rw [if_neg q]
    refine ⟨⟨b0, b1⟩, fun x hx => ?_⟩
    rw [hb x hx]
    constructor
    · rintro ⟨z1, z2⟩; exact ⟨by omega, z2⟩
    · rintro ⟨z1, z2⟩
      by_cases z : x = n
      · subst z; exact absurd z2.symm q
      · exact ⟨by omega, z2⟩
/-- the class's tables of links are right, the w-th left out -/
def LT (τ : Rw) (w : Int) (M : Mem) : Prop := T8 τ w (τ 1) M ∧ T9 τ w (τ 1) M ∧ T0 τ (τ 0) M
theorem LT.kp {P : Nat → Prop} {τ : Rw} {w : Int} {M M' : Mem} (h : LT τ w M) (hk : Kp P M M') (hP : ∀ c, 108 ≤ c → c ≤ 110 → ¬ P c) : LT τ w M' := by
  have e1 := hk.at (hP 108 (by decide) (by decide))
  have e2 := hk.at (hP 109 (by decide) (by decide))
  have e3 := hk.at (hP 110 (by decide) (by decide))
  unfold LT T8 T9 T0 at *
  simp only [e1, e2, e3]
  exact h
theorem readLinks_s {M : Mem} {τ : Rw} (hV : VR τ) (hX : XT M τ) {w : Int} (hw : R32 w) : Cal Y_Sp_readLinks [vR 105, vI w] M (fun r M' => r = none ∧ LT τ w M' ∧ Kp (fun c => 108 ≤ c ∧ c ≤ 110) M M') := by
  have h0 := hV.1
  have h1 := hV.2.1
  refine Cal.mk (y := Y_Sp_readLinks) (loc := [vR 105, vI w, vN, vN, vN, vN]) G_Sp_readLinks rfl (by decide) rfl rfl (Nat.le_of_ble_eq_true rfl) ?_
  simp only [r_Sp_readLinks_0, r_Sp_readLinks_1, r_Sp_readLinks_4, r_Sp_readLinks_5, true_and, and_true, or_true, true_or, or_false, false_or, false_and, and_false, not_true_eq_false, not_false_eq_true, implies_true, true_implies, false_implies]
  refine (fill_108 M).mono ?_
  rintro v M1 ⟨rfl, k1, f1⟩
  simp only [r_Sp_readLinks_8, r_Sp_readLinks_9, r_Sp_readLinks_12, r_Sp_readLinks_13, true_and, and_true, or_true, true_or, or_false, false_or, false_and, and_false, not_true_eq_false, not_false_eq_true, implies_true, true_implies, false_implies]
  refine (fill_109 M1).mono ?_
  rintro v M2 ⟨rfl, k2, f2⟩
  simp only [r_Sp_readLinks_16, r_Sp_readLinks_17, r_Sp_readLinks_20, r_Sp_readLinks_21, true_and, and_true, or_true, true_or, or_false, false_or, false_and, and_false, not_true_eq_false, not_false_eq_true, implies_true, true_implies, false_implies]
  refine (fill_110 M2).mono ?_
  rintro v M3 ⟨rfl, k3, f3⟩
  simp only [r_Sp_readLinks_24, r_Sp_readLinks_25, true_and, and_true, or_true, true_or, or_false, false_or, false_and, and_false, not_true_eq_false, not_false_eq_true, implies_true, true_implies, false_implies]
  have kk : Kp (fun c => 108 ≤ c ∧ c ≤ 110) M M3 := ((k1.sub (fun c z => by omega)).trans (k2.sub (fun c z => by omega))).trans (k3.sub (fun c z => by omega))
  have g1 : ∀ i, 0 ≤ i → i < 30 → M3.1 108 i = 0 := fun i a b => by rw [k3.at (c := 108) (by decide), k2.at (c := 108) (by decide)]; exact f1 i a b
  have g2 : ∀ i, 0 ≤ i → i < 30 → M3.1 109 i = 0 := fun i a b => by rw [k3.at (c := 109) (by decide)]; exact f2 i a b
  have b8 : T8 τ w 0 M3 := fun r o r0 r1 o0 o1 => by
    rw [g1 _ (by omega) (by omega)]
    exact ⟨by decide, fun x hx => by rw [bit_0]; exact ⟨fun z => Bool.noConfusion z, fun z => absurd z lkn_0⟩⟩
  have b9 : T9 τ w 0 M3 := fun r o r0 r1 o0 o1 => by
    rw [g2 _ (by omega) (by omega)]
    exact ⟨by decide, fun x hx => by rw [bit_0]; exact ⟨fun z => Bool.noConfusion z, fun z => absurd z lkn_0⟩⟩
  have b0 : T0 τ 0 M3 := fun k k0 k1 => by
    rw [f3 _ (by omega) (by omega)]
    exact ⟨by decide, fun x hx => by rw [bit_0]; exact ⟨fun z => Bool.noConfusion z, fun z => by omega⟩⟩
  have lp2 : ∀ M4, Kp (fun c => 108 ≤ c ∧ c ≤ 110) M M4 → T8 τ w (τ 1) M4 → T9 τ w (τ 1) M4 → T0 τ 0 M4 → ∀ l3 l4 l5, Run C_Sp_readLinks (fun r M' => r = none ∧ LT τ w M' ∧ Kp (fun c => 108 ≤ c ∧ c ≤ 110) M M') 117 [vR 105, vI w, vI 0, l3, l4, l5] [] M4 := by
    intro M4 k4 t8 t9 t0 l3 l4 l5
    refine up_loop (lo := 0) (hi := τ 0) (P := fun o => ∀ M5, Kp (fun c => 108 ≤ c ∧ c ≤ 110) M M5 → T8 τ w (τ 1) M5 → T9 τ w (τ 1) M5 → T0 τ o M5 → Run C_Sp_readLinks (fun r M' => r = none ∧ LT τ w M' ∧ Kp (fun c => 108 ≤ c ∧ c ≤ 110) M M') 117 [vR 105, vI w, vI o, l3, l4, l5] [] M5) (fun o ho hon ih M5 k5 u8 u9 u0 => ?_) h0.1 M4 k4 t8 t9 t0
    have X5 := hX.kp k5 (fun c a b => by omega)
    rw [r_Sp_readLinks_117]
    simp only [r_Sp_readLinks_118, r_Sp_readLinks_119, r_Sp_readLinks_122, r_Sp_readLinks_125, r_Sp_readLinks_128, r_Sp_readLinks_129, r_Sp_readLinks_132, r_Sp_readLinks_133, r_Sp_readLinks_136, r_Sp_readLinks_139, r_Sp_readLinks_140, r_Sp_readLinks_141, r_Sp_readLinks_142, r_Sp_readLinks_143, r_Sp_readLinks_144, r_Sp_readLinks_145, r_Sp_readLinks_146, r_Sp_readLinks_147, r_Sp_readLinks_148, r_Sp_readLinks_151, r_Sp_readLinks_154, true_and, and_true, or_true, true_or, or_false, false_or, false_and, and_false, not_true_eq_false, not_false_eq_true, implies_true, true_implies, false_implies, X5.1, p2_def]
    refine ⟨r32 (by omega) (by omega), r32 (by omega) (by omega), fun q => ?_, fun q => ?_⟩
    · rw [show o = τ 0 by omega] at u0
      exact ⟨⟨u8, u9, u0⟩, k5⟩
    · have hkd := hV.2.2.2.2.1 o ho (by omega)
      rw [X5.2.2.2.1 o ho (by omega)]
      refine ⟨ho, by omega, by omega, by omega, ⟨by omega, by omega⟩, by omega, by omega, ?_⟩
      refine ih (by omega) _ (Kp.w k5 (by decide)) (fun r o r0 r1 o0 o1 => ?_) (fun r o r0 r1 o0 o1 => ?_) (u0.st ho (by omega) (fun i => ?_))
      · rw [wI_c (by decide)]; exact u8 r o r0 r1 o0 o1
      · rw [wI_c (by decide)]; exact u9 r o r0 r1 o0 o1
      · rw [wI_at]
        by_cases z : i = τ (6 + o)
        · rw [if_pos ⟨rfl, z⟩, if_pos z, z]
        · rw [if_neg (fun y => z y.2), if_neg z]
  refine up_loop (lo := 0) (hi := τ 1) (P := fun l => ∀ M4, Kp (fun c => 108 ≤ c ∧ c ≤ 110) M M4 → T8 τ w l M4 → T9 τ w l M4 → T0 τ 0 M4 → ∀ l3 l4 l5, Run C_Sp_readLinks _ 26 [vR 105, vI w, vI l, l3, l4, l5] [] M4) (fun l hl hln ih M4 k4 t8 t9 t0 l3 l4 l5 => ?_) h1.1 M3 kk b8 b9 b0 _ _ _
  have X4 := hX.kp k4 (fun c a b => by omega)
  rw [r_Sp_readLinks_26]
  simp only [r_Sp_readLinks_27, r_Sp_readLinks_28, r_Sp_readLinks_31, r_Sp_readLinks_34, r_Sp_readLinks_37, r_Sp_readLinks_38, r_Sp_readLinks_39, r_Sp_readLinks_42, r_Sp_readLinks_43, r_Sp_readLinks_46, r_Sp_readLinks_47, r_Sp_readLinks_48, r_Sp_readLinks_51, r_Sp_readLinks_53, r_Sp_readLinks_54, r_Sp_readLinks_55, r_Sp_readLinks_56, r_Sp_readLinks_59, r_Sp_readLinks_60, r_Sp_readLinks_61, r_Sp_readLinks_64, r_Sp_readLinks_66, r_Sp_readLinks_67, r_Sp_readLinks_70, r_Sp_readLinks_71, r_Sp_readLinks_72, r_Sp_readLinks_75, r_Sp_readLinks_77, r_Sp_readLinks_78, r_Sp_readLinks_81, r_Sp_readLinks_82, r_Sp_readLinks_84, r_Sp_readLinks_85, r_Sp_readLinks_86, r_Sp_readLinks_87, r_Sp_readLinks_88, r_Sp_readLinks_90, r_Sp_readLinks_91, r_Sp_readLinks_92, r_Sp_readLinks_93, r_Sp_readLinks_94, r_Sp_readLinks_97, r_Sp_readLinks_98, r_Sp_readLinks_100, r_Sp_readLinks_101, r_Sp_readLinks_102, r_Sp_readLinks_103, r_Sp_readLinks_104, r_Sp_readLinks_106, r_Sp_readLinks_107, r_Sp_readLinks_108, r_Sp_readLinks_109, r_Sp_readLinks_112, r_Sp_readLinks_115, r_Sp_readLinks_116, true_and, and_true, or_true, true_or, or_false, false_or, false_and, and_false, not_true_eq_false, not_false_eq_true, implies_true, true_implies, false_implies, X4.2.1, p2_def]
  refine ⟨r32 (by omega) (by omega), r32 (by omega) (by omega), fun q => ?_, fun q => ⟨r32 (by omega) (by omega), hw, fun q2 => ?_, fun q2 => ?_⟩⟩
  · rw [show l = τ 1 by omega] at t8 t9
    exact lp2 M4 k4 t8 t9 t0 _ _ _
  · exact ih (by omega) M4 k4 (t8.skip hl q2) (t9.skip hl q2) t0 _ _ _
  · have hv := hV.2.2.2.2.2.1 l hl (by omega)
    have x0 := X4.l (l := l) (p := 0) hl (by omega) (by decide) (by decide)
    have x1 := X4.l (l := l) (p := 1) hl (by omega) (by decide) (by decide)
    have x2 := X4.l (l := l) (p := 2) hl (by omega) (by decide) (by decide)
    simp only [show (16 : Int) + 0 = 16 from rfl, show (16 : Int) + 1 = 17 from rfl, show (16 : Int) + 2 = 18 from rfl] at x0 x1 x2
    refine Cal.I (linkPart_s M4 (by omega) (by omega)) ?_
    refine Cal.I (linkPart_s M4 (by omega) (by omega)) ?_
    refine Cal.I (linkPart_s M4 (by omega) (by omega)) ?_
    rw [x0, x1, x2]
    refine ⟨by omega, by omega, ⟨by omega, by omega⟩, by omega, by omega, by omega, by omega, ⟨by omega, by omega⟩, by omega, by omega, ?_⟩
    refine ih (by omega) _ (Kp.w (Kp.w k4 (by decide)) (by decide)) (t8.st hV hl (by omega) q2 (fun i => ?_)) (t9.st hV hl (by omega) q2 (fun i => ?_)) (fun k a b => ?_) _ _ _
    · rw [wI_c (by decide), wI_at]
      by_cases z : i = τ (16 + 3 * l) * 10 + τ (17 + 3 * l)
      · rw [if_pos ⟨rfl, z⟩, if_pos z, z]
      · rw [if_neg (fun y => z y.2), if_neg z]
    · rw [wI_at, wI_c (by decide)]
      by_cases z : i = τ (16 + 3 * l) * 10 + τ (18 + 3 * l)
      · rw [if_pos ⟨rfl, z⟩, if_pos z, z]
      · rw [if_neg (fun y => z y.2), if_neg z]
    · rw [wI_c (by decide), wI_c (by decide)]; exact t0 k a b
