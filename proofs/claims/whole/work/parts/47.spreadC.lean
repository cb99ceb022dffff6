/-! the class's Spreader: rules of the sorts SAME, ALONG, AGAINST -/
/-- one rule was applied -/
def JF (τ : Rw) (w : Int) (L : Int → Int) (r : Int) (M0 M : Mem) : Prop := JB L M0 (τ (79 + 5 * r) % 8) M ∧ (∀ p t, 0 ≤ p → p < τ 0 → t < 1000000 → Br τ w (M0.1 106) r p t → M.1 106 (8 * p + τ (79 + 5 * r) % 8) ≤ t) ∧ ((∀ g, 0 ≤ g → g < 80 → M0.1 106 g = L g) → (∀ g, 0 ≤ g → g < 80 → L g < 1000000 → L g ≤ 900000) → (M0.1 105 8 = 0 → M.1 105 8 = 0 ∨ M.1 105 8 = 1) ∧ (¬ M.1 105 8 = 0 ↔ ¬ M0.1 105 8 = 0 ∨ ∃ p, 0 ≤ p ∧ p < τ 0 ∧ L (8 * p + τ (79 + 5 * r) % 8) < 1000000 ∧ Br τ w L r p (L (8 * p + τ (79 + 5 * r) % 8))))
theorem J.fin {τ : Rw} (hV : VR τ) {w S : Int} {L : Int → Int} (hC : Clo τ w S L) {r : Int} (r0 : 0 ≤ r) (r1 : r < τ 2) {M0 M : Mem} {D : Int → Int → Prop} (h : J L M0 (τ (79 + 5 * r) % 8) D M) (h5 : ∀ p t, 0 ≤ p → p < τ 0 → t < 1000000 → Br τ w (M0.1 106) r p t → ∃ a, a ≤ t ∧ D p a) (hD : (∀ g, 0 ≤ g → g < 80 → M0.1 106 g = L g) → (∀ g, 0 ≤ g → g < 80 → L g < 1000000 → L g ≤ 900000) → ∀ p a, D p a → 0 ≤ p ∧ p < τ 0 ∧ a < 1000000 ∧ Br τ w L r p a) : JF τ w L r M0 M := by
  refine ⟨h.1, fun p t a b c d => ?_, fun y y2 => ?_⟩
  · obtain ⟨a', h1, h2⟩ := h5 p t a b c d
    exact Int.le_trans (h.2.1 p a' h2) h1
  · refine ⟨(h.2.2 y).1, ?_⟩
    rw [(h.2.2 y).2]
    refine or_congr Iff.rfl ⟨?_, ?_⟩
    · rintro ⟨p, a, h1, h2⟩
      have := hD y y2 p a h1
      subst h2
      exact ⟨p, this.1, this.2.1, this.2.2.1, this.2.2.2⟩
    · rintro ⟨p, p0, p1, p2, p3⟩
      obtain ⟨a, h1, h2⟩ := h5 p _ p0 p1 p2 (p3.loc hV r0 r1 p0 p1 (fun g a b _ => Int.le_of_eq (y g a b)))
      refine ⟨p, a, h2, ?_⟩
      have h3 := hD y y2 p a h2
      have := hC.2.2 r p a r0 r1 h3.1 h3.2.1 h3.2.2.1 h3.2.2.2
      omega
theorem n76 : (76 : Int) + 0 = 76 ∧ (76 : Int) + 1 = 77 ∧ (76 : Int) + 2 = 78 ∧ (76 : Int) + 3 = 79 ∧ (76 : Int) + 4 = 80 := by decide
/-- which objects of the kind of a rule's first fact have it -/
theorem srcs {τ : Rw} {w : Int} {M : Mem} (hV : VR τ) (hT : LT τ w M) (hO : HO M) {e k : Int} (e0 : 0 ≤ e) (e1 : e < 8) (k0 : 0 ≤ k) (k1 : k < 4) : (0 ≤ iand (M.1 107 e) (M.1 110 k) ∧ iand (M.1 107 e) (M.1 110 k) < 1024) ∧ ∀ o, 0 ≤ o → o < 10 → (bit (iand (M.1 107 e) (M.1 110 k)) o = true ↔ M.1 106 (8 * o + e) < 1000000 ∧ o < τ 0 ∧ τ (6 + o) = k) := by
  have h1 := hO.2.1 e e0 e1
  have h2 := hT.2.2 k k0 k1
  have hb := iand_bd h1.1.1 (by omega) h2.1.1
  refine ⟨⟨hb.1, by omega⟩, fun o a b => ?_⟩
  rw [bit_iand h1.1.1 (by omega) h2.1.1, Bool.and_eq_true, h1.2 o a b, h2.2 o a]
theorem has_if {M : Mem} {v i : Int} (hv : 0 ≤ v) (hv2 : v < 2147483648) (hi : 0 ≤ i) (hi2 : i < 32) {A B : Mem → Prop} (h1 : bit v i = true → B M) (h2 : ¬ bit v i = true → A M) : Cal Y_CB_has [vI v, vI i] M (fun r M' => ∃ z, r = some (vI z) ∧ R32 z ∧ (z = 0 → A M') ∧ (¬ z = 0 → B M')) := by
  refine Cal.I (K := fun z M' => R32 z ∧ (z = 0 → A M') ∧ (¬ z = 0 → B M')) (has_s M hv hv2 hi hi2) ?_
  by_cases q : bit v i = true
  · rw [if_pos q]; exact ⟨r32 (by decide) (by decide), fun h => absurd h (by decide), fun _ => h1 q⟩
  · rw [if_neg q]; exact ⟨r32 (by decide) (by decide), fun _ => h2 q, fun h => absurd rfl h⟩
theorem applySame_s {τ : Rw} (hV : VR τ) {w S : Int} {L : Int → Int} (hC : Clo τ w S L) {r : Int} (r0 : 0 ≤ r) (r1 : r < τ 2) (hs : τ (76 + 5 * r) = 0) {M : Mem} (hX : XT M τ) (hT : LT τ w M) (hO : HO M) (hL : ∀ g, 0 ≤ g → g < 80 → L g ≤ M.1 106 g) : Cal Y_Sp_applySame [vR 105, vI r] M (fun v M' => v = none ∧ JF τ w L r M M') := by
  have h0 := hV.1
  have h2 := hV.2.2.1
  have hv := hV.2.2.2.2.2.2.2.1 r r0 r1
  obtain ⟨n0, n1, n2, n3, n4⟩ := n76
  have hsr := srcs hV hT hO (e := τ (77 + 5 * r) % 8) (k := τ (77 + 5 * r) / 8) (by omega) (by omega) (by omega) (by omega)
  refine Cal.mk (y := Y_Sp_applySame) (loc := [vR 105, vI r, vN, vN, vN, vN, vN]) G_Sp_applySame rfl (by decide) rfl rfl (Nat.le_of_ble_eq_true rfl) ?_
  simp only [r_Sp_applySame_0, r_Sp_applySame_1, r_Sp_applySame_4, r_Sp_applySame_5, r_Sp_applySame_6, r_Sp_applySame_9, r_Sp_applySame_10, r_Sp_applySame_11, r_Sp_applySame_14, r_Sp_applySame_15, r_Sp_applySame_16, r_Sp_applySame_19, r_Sp_applySame_20, r_Sp_applySame_21, r_Sp_applySame_24, r_Sp_applySame_25, r_Sp_applySame_26, r_Sp_applySame_29, r_Sp_applySame_31, r_Sp_applySame_32, r_Sp_applySame_35, r_Sp_applySame_36, r_Sp_applySame_37, r_Sp_applySame_38, r_Sp_applySame_41, r_Sp_applySame_42, r_Sp_applySame_45, r_Sp_applySame_46, r_Sp_applySame_47, r_Sp_applySame_50, r_Sp_applySame_51, r_Sp_applySame_52, r_Sp_applySame_54, r_Sp_applySame_55, true_and, and_true, or_true, true_or, or_false, false_or, false_and, and_false, not_true_eq_false, not_false_eq_true, implies_true, true_implies, false_implies]
  refine Cal.I (event_s hV hX r0 r1 (Or.inl rfl)) ?_
  refine Cal.I (event_s hV hX r0 r1 (Or.inr rfl)) ?_
  refine Cal.I (part_s hX r0 (by omega) (by decide) (by decide)) ?_
  rw [n1, n3, n4]
  refine ⟨by omega, by omega, Cal.I (kind_s hV hX r0 r1 (Or.inl rfl)) ?_⟩
  rw [n1]
  refine ⟨by omega, by omega, ?_⟩
  generalize hsv : iand (M.1 107 (τ (77 + 5 * r) % 8)) (M.1 110 (τ (77 + 5 * r) / 8)) = sv at hsr ⊢
  refine up_loop (lo := 0) (hi := τ 0) (P := fun o => ∀ M1, J L M (τ (79 + 5 * r) % 8) (fun p a => 0 ≤ p ∧ p < o ∧ bit sv p = true ∧ a = M.1 106 (8 * p + τ (77 + 5 * r) % 8) + τ (80 + 5 * r)) M1 → Run C_Sp_applySame _ 57 [vR 105, vI r, vI (τ (77 + 5 * r) % 8), vI (τ (79 + 5 * r) % 8), vI (τ (80 + 5 * r)), vI sv, vI o] [] M1) (fun o ho hon ih M1 j => ?_) h0.1 M (J.rf _ hO hL (fun p a z => by omega))
  have X1 := hX.kp j.1.2.2.2.2 (fun c a b => by omega)
  rw [r_Sp_applySame_57]
  simp only [r_Sp_applySame_59, r_Sp_applySame_60, r_Sp_applySame_63, r_Sp_applySame_66, r_Sp_applySame_69, r_Sp_applySame_71, r_Sp_applySame_73, r_Sp_applySame_76, r_Sp_applySame_79, r_Sp_applySame_80, r_Sp_applySame_82, r_Sp_applySame_83, r_Sp_applySame_84, r_Sp_applySame_86, r_Sp_applySame_87, r_Sp_applySame_90, r_Sp_applySame_92, r_Sp_applySame_93, r_Sp_applySame_96, r_Sp_applySame_99, r_Sp_applySame_102, true_and, and_true, or_true, true_or, or_false, false_or, false_and, and_false, not_true_eq_false, not_false_eq_true, implies_true, true_implies, false_implies, X1.1]
  refine ⟨r32 (by omega) (by omega), r32 (by omega) (by omega), fun q => ?_, fun q => ?_⟩
  · rw [show o = τ 0 by omega] at j
    refine j.fin hV hC r0 r1 (fun p t p0 p1 ht hB => ?_) (fun y y2 p a z => ?_)
    · unfold Br at hB
      rw [if_pos hs] at hB
      refine ⟨_, hB.2, p0, p1, (hsr.2 p p0 (by omega)).2 ⟨?_, p1, hB.1⟩, rfl⟩
      omega
    · obtain ⟨z0, z1, z2, rfl⟩ := z
      have z3 := (hsr.2 p z0 (by omega)).1 z2
      have e := y (8 * p + τ (77 + 5 * r) % 8) (by omega) (by omega)
      have b := y2 (8 * p + τ (77 + 5 * r) % 8) (by omega) (by omega) (by omega)
      refine ⟨z0, z1, by omega, ?_⟩
      unfold Br
      rw [if_pos hs]
      exact ⟨z3.2.2, by omega⟩
  · refine has_if hsr.1.1 (by omega) ho (by omega) (fun q2 => ?_) (fun q2 => ih (by omega) M1 (j.iff (fun p a => ?_)))
    · refine Cal.I (timeOf_s M1 ho (by omega) (by omega) (by omega)) ?_
      have z3 := (hsr.2 o ho (by omega)).1 q2
      have hb := j.1.1 (8 * o + τ (77 + 5 * r) % 8) (by omega) (by omega)
      have hb2 := j.1.2.2.1.1 (8 * o + τ (77 + 5 * r) % 8) (by omega) (by omega)
      refine (bring_s j (at0 := M.1 106 (8 * o + τ (77 + 5 * r) % 8) + τ (80 + 5 * r)) ho (by omega) (by omega) (by omega) (by omega) (by omega) (by omega) (fun y => ?_) (fun y => ?_)).mono ?_
      · have := y (8 * o + τ (77 + 5 * r) % 8) (by omega) (by omega)
        omega
      · refine hC.2.2 r o _ r0 r1 ho (by omega) y ?_
        unfold Br
        rw [if_pos hs]
        exact ⟨z3.2.2, by omega⟩
      · rintro v M2 ⟨rfl, j2⟩
        refine ⟨rfl, ih (by omega) M2 (j2.iff (fun p a => ⟨?_, ?_⟩))⟩
        · rintro (⟨a1, a2, a3, a4⟩ | ⟨rfl, rfl⟩)
          · exact ⟨a1, by omega, a3, a4⟩
          · exact ⟨ho, by omega, q2, rfl⟩
        · rintro ⟨a1, a2, a3, a4⟩
          by_cases z : p = o
          · subst z; exact Or.inr ⟨rfl, a4⟩
          · exact Or.inl ⟨a1, by omega, a3, a4⟩
    · constructor
      · rintro ⟨a1, a2, a3, a4⟩; exact ⟨a1, by omega, a3, a4⟩
      · rintro ⟨a1, a2, a3, a4⟩
        by_cases z : p = o
        · subst z; exact absurd a3 q2
        · exact ⟨a1, by omega, a3, a4⟩
