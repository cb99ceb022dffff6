/-! the class's Spreader: rules of the sorts ALL and TWO -/
theorem nz_bit {a : Int} (h0 : 0 ≤ a) (h1 : a < 1024) (hn : ¬ a = 0) : ∃ x, 0 ≤ x ∧ x < 10 ∧ bit a x = true := by
  apply Classical.byContradiction
  intro hno
  refine hn (bit_ext h0 (by decide) (fun i hi => ?_))
  rw [bit_0]
  by_cases z : i < 10
  · cases q : bit a i with
    | false => rfl
    | true => exact absurd ⟨i, hi, z, q⟩ hno
  · exact bit_hi (n := 10) h0 (by have e : p2 10 = 1024 := by decide
                                  omega) (by omega)
theorem lastOf_s {τ : Rw} (hV : VR τ) {M : Mem} (hX : XT M τ) (hO : HO M) {l e : Int} (l0 : 0 ≤ l) (l1 : l < 1024) (hl : ∀ x, 0 ≤ x → x < 10 → bit l x = true → x < τ 0) (e0 : 0 ≤ e) (e1 : e < 8) : Cal Y_Sp_lastOf [vR 105, vI l, vI e] M (fun r M' => ∃ v, r = some (vI v) ∧ (M' = M ∧ 0 ≤ v ∧ v ≤ 1000000 ∧ ∀ t, t < 1000000 → (v ≤ t ↔ (∃ x, 0 ≤ x ∧ x < 10 ∧ bit l x = true) ∧ ∀ x, 0 ≤ x → x < 10 → bit l x = true → M.1 106 (8 * x + e) ≤ t))) := by
  have h0 := hV.1
  have hh := hO.2.1 e e0 e1
  refine Cal.mk (y := Y_Sp_lastOf) (loc := [vR 105, vI l, vI e, vN, vN]) G_Sp_lastOf rfl (by decide) rfl rfl (Nat.le_of_ble_eq_true rfl) ?_
  simp only [r_Sp_lastOf_0, r_Sp_lastOf_1, r_Sp_lastOf_4, r_Sp_lastOf_5, r_Sp_lastOf_6, r_Sp_lastOf_9, r_Sp_lastOf_10, r_Sp_lastOf_11, r_Sp_lastOf_12, r_Sp_lastOf_13, r_Sp_lastOf_14, r_Sp_lastOf_17, r_Sp_lastOf_19, r_Sp_lastOf_20, r_Sp_lastOf_21, r_Sp_lastOf_22, r_Sp_lastOf_23, true_and, and_true, or_true, true_or, or_false, false_or, false_and, and_false, not_true_eq_false, not_false_eq_true, implies_true, true_implies, false_implies]
  have nev : (∀ t, t < 1000000 → ¬ ((∃ x, 0 ≤ x ∧ x < 10 ∧ bit l x = true) ∧ ∀ x, 0 ≤ x → x < 10 → bit l x = true → M.1 106 (8 * x + e) ≤ t)) → ∃ v, some (vI 1000000) = some (vI v) ∧ (M = M ∧ 0 ≤ v ∧ v ≤ 1000000 ∧ ∀ t, t < 1000000 → (v ≤ t ↔ (∃ x, 0 ≤ x ∧ x < 10 ∧ bit l x = true) ∧ ∀ x, 0 ≤ x → x < 10 → bit l x = true → M.1 106 (8 * x + e) ≤ t)) := fun h => ⟨1000000, rfl, rfl, by decide, by decide, fun t ht => ⟨fun z => by omega, fun z => absurd z (h t ht)⟩⟩
  have hn := iandn_bd (a := l) (b := M.1 107 e) l0 (by omega) hh.1.1
  refine ⟨r32 (by omega) (by omega), fun q => ?_, fun q => ⟨e0, e1, r32 (by omega) (by omega), fun q2 => ?_, fun q2 => ?_⟩⟩
  · have := nev (fun t ht z => by
      obtain ⟨⟨x, x0, x1, x2⟩, _⟩ := z
      rw [q, bit_0] at x2; exact Bool.noConfusion x2)
    simpa using this
  · have hall : ∀ x, 0 ≤ x → x < 10 → bit l x = true → M.1 106 (8 * x + e) < 1000000 := fun x x0 x1 x2 => by
      rw [← hh.2 x x0 x1]
      have hb := bit_iandn (a := l) (b := M.1 107 e) (i := x) l0 (by omega) hh.1.1
      rw [q2, bit_0, x2] at hb
      simpa using hb
    obtain ⟨x0, xa, xb, xc⟩ := nz_bit l0 l1 q
    refine up_loop (lo := 0) (hi := τ 0) (P := fun o => ∀ c, 0 ≤ c → (∀ x, 0 ≤ x → x < o → bit l x = true → M.1 106 (8 * x + e) ≤ c) → (c = 0 ∨ ∃ x, 0 ≤ x ∧ x < o ∧ bit l x = true ∧ c = M.1 106 (8 * x + e)) → Run C_Sp_lastOf _ 25 [vR 105, vI l, vI e, vI c, vI o] [] M) (fun o ho hon ih c c0 c1 c2 => ?_) h0.1 0 (Int.le_refl _) (fun x a b => by omega) (Or.inl rfl)
    rw [r_Sp_lastOf_25]
    simp only [r_Sp_lastOf_27, r_Sp_lastOf_28, r_Sp_lastOf_31, r_Sp_lastOf_34, r_Sp_lastOf_37, r_Sp_lastOf_38, r_Sp_lastOf_40, r_Sp_lastOf_43, r_Sp_lastOf_46, r_Sp_lastOf_47, r_Sp_lastOf_48, r_Sp_lastOf_51, r_Sp_lastOf_53, r_Sp_lastOf_55, r_Sp_lastOf_56, r_Sp_lastOf_57, r_Sp_lastOf_58, r_Sp_lastOf_59, r_Sp_lastOf_62, r_Sp_lastOf_63, r_Sp_lastOf_66, r_Sp_lastOf_69, r_Sp_lastOf_70, true_and, and_true, or_true, true_or, or_false, false_or, false_and, and_false, not_true_eq_false, not_false_eq_true, implies_true, true_implies, false_implies, hX.1]
    refine ⟨r32 (by omega) (by omega), r32 (by omega) (by omega), fun q3 => ?_, fun q3 => ?_⟩
    · refine ⟨c, rfl, c0, ?_, fun t ht => ⟨fun z => ⟨⟨x0, xa, xb, xc⟩, fun x a b d => ?_⟩, fun z => ?_⟩⟩
      · rcases c2 with rfl | ⟨x, a, b, d, rfl⟩
        · decide
        · have := hall x a (by omega) d; omega
      · have := c1 x a (by have := hl x a b d; omega) d
        omega
      · rcases c2 with rfl | ⟨x, a, b, d, rfl⟩
        · have := z.2 x0 xa xb xc
          have := hO.1 (8 * x0 + e) (by omega) (by omega)
          omega
        · exact z.2 x a (by omega) d
    · refine has_if l0 (by omega) ho (by omega) (fun q4 => ?_) (fun q4 => ih (by omega) c c0 (fun x a b d => ?_) ?_)
      · rw [show o * 8 + e = 8 * o + e by omega]
        have hT := hO.1 (8 * o + e) (by omega) (by omega)
        have hc : c ≤ 1000000 := by
          rcases c2 with rfl | ⟨x, a, b, d, rfl⟩
          · decide
          · have := hall x a (by omega) d; omega
        refine ⟨by omega, by omega, r32 (by omega) (by omega), r32 (by omega) (by omega), ih (by omega) _ ?_ (fun x a b d => ?_) ?_⟩
        · split <;> omega
        · by_cases z : x = o
          · subst z; split <;> omega
          · have := c1 x a (by omega) d
            split <;> omega
        · split
          · exact Or.inr ⟨o, ho, by omega, q4, rfl⟩
          · rcases c2 with z | ⟨x, a, b, d, z⟩
            · exact Or.inl z
            · exact Or.inr ⟨x, a, by omega, d, z⟩
      · by_cases z : x = o
        · subst z; exact absurd d q4
        · exact c1 x a (by omega) d
      · rcases c2 with z | ⟨x, a, b, d, z⟩
        · exact Or.inl z
        · exact Or.inr ⟨x, a, by omega, d, z⟩
  · have := nev (fun t ht z => by
      obtain ⟨x, x0, x1, x2⟩ := nz_bit hn.1 (by omega) q2
      rw [bit_iandn l0 (by omega) hh.1.1, Bool.and_eq_true] at x2
      have h1 := z.2 x x0 x1 x2.1
      have h2 := (hh.2 x x0 x1).2 (by omega)
      rw [h2] at x2; simp at x2)
    simpa using this
theorem cnt_two {p : Int → Bool} {n x y : Int} (h : cntI p n < 2) (x0 : 0 ≤ x) (xy : x < y) (yn : y < n) (px : p x = true) (py : p y = true) : False := by
  have h1 := cntI_lt (p := p) x0 xy px
  have h2 := cntI_lt (p := p) (by omega) yn py
  have h3 := (cntI_bd p x0).1
  omega
theorem secondOf_s {τ : Rw} (hV : VR τ) {M : Mem} (hX : XT M τ) (hO : HO M) {l e : Int} (l0 : 0 ≤ l) (l1 : l < 1024) (hl : ∀ x, 0 ≤ x → x < 10 → bit l x = true → x < τ 0) (e0 : 0 ≤ e) (e1 : e < 8) : Cal Y_Sp_secondOf [vR 105, vI l, vI e] M (fun r M' => ∃ v, r = some (vI v) ∧ (M' = M ∧ 0 ≤ v ∧ v ≤ 1000000 ∧ ∀ t, t < 1000000 → (v ≤ t ↔ ∃ x y, 0 ≤ x ∧ x < 10 ∧ 0 ≤ y ∧ y < 10 ∧ ¬ x = y ∧ bit l x = true ∧ bit l y = true ∧ M.1 106 (8 * x + e) ≤ t ∧ M.1 106 (8 * y + e) ≤ t))) := by
  have h0 := hV.1
  have hpc : 0 ≤ pcI l ∧ pcI l ≤ 31 := cntI_bd _ (by decide)
  refine Cal.mk (y := Y_Sp_secondOf) (loc := [vR 105, vI l, vI e, vN, vN, vN, vN]) G_Sp_secondOf rfl (by decide) rfl rfl (Nat.le_of_ble_eq_true rfl) ?_
  simp only [r_Sp_secondOf_0, r_Sp_secondOf_1, r_Sp_secondOf_4, r_Sp_secondOf_5, r_Sp_secondOf_8, r_Sp_secondOf_10, r_Sp_secondOf_11, r_Sp_secondOf_13, r_Sp_secondOf_14, r_Sp_secondOf_16, r_Sp_secondOf_18, r_Sp_secondOf_19, true_and, and_true, or_true, true_or, or_false, false_or, false_and, and_false, not_true_eq_false, not_false_eq_true, implies_true, true_implies, false_implies]
  refine Cal.I (bitCount_s M l0 (by omega)) ?_
  refine ⟨r32 (by omega) (by omega), r32 (by decide) (by decide), fun q => ?_, fun q => ?_⟩
  · refine up_loop (lo := 0) (hi := τ 0) (P := fun o => ∀ c d l6, 0 ≤ c → c ≤ 1000000 → 0 ≤ d → d ≤ 1000000 → (∀ t, t < 1000000 → (c ≤ t ↔ ∃ x, 0 ≤ x ∧ x < o ∧ bit l x = true ∧ M.1 106 (8 * x + e) ≤ t)) → (∀ t, t < 1000000 → (d ≤ t ↔ ∃ x y, 0 ≤ x ∧ x < o ∧ 0 ≤ y ∧ y < o ∧ ¬ x = y ∧ bit l x = true ∧ bit l y = true ∧ M.1 106 (8 * x + e) ≤ t ∧ M.1 106 (8 * y + e) ≤ t)) → Run C_Sp_secondOf _ 21 [vR 105, vI l, vI e, vI c, vI d, vI o, l6] [] M) (fun o ho hon ih c d l6 c0 c1 d0 d1 hc hd => ?_) h0.1 1000000 1000000 _ (by decide) (by decide) (by decide) (by decide) (fun t ht => ⟨fun z => by omega, fun ⟨x, a, b, _⟩ => by omega⟩) (fun t ht => ⟨fun z => by omega, fun ⟨x, y, a, b, _⟩ => by omega⟩)
    rw [r_Sp_secondOf_21]
    simp only [r_Sp_secondOf_23, r_Sp_secondOf_24, r_Sp_secondOf_27, r_Sp_secondOf_30, r_Sp_secondOf_33, r_Sp_secondOf_34, r_Sp_secondOf_36, r_Sp_secondOf_39, r_Sp_secondOf_42, r_Sp_secondOf_43, r_Sp_secondOf_46, r_Sp_secondOf_48, r_Sp_secondOf_50, r_Sp_secondOf_51, r_Sp_secondOf_52, r_Sp_secondOf_53, r_Sp_secondOf_54, r_Sp_secondOf_56, r_Sp_secondOf_58, r_Sp_secondOf_59, r_Sp_secondOf_61, r_Sp_secondOf_64, r_Sp_secondOf_67, r_Sp_secondOf_69, r_Sp_secondOf_70, r_Sp_secondOf_72, r_Sp_secondOf_75, r_Sp_secondOf_76, r_Sp_secondOf_79, r_Sp_secondOf_82, r_Sp_secondOf_84, true_and, and_true, or_true, true_or, or_false, false_or, false_and, and_false, not_true_eq_false, not_false_eq_true, implies_true, true_implies, false_implies, hX.1]
    refine ⟨r32 (by omega) (by omega), r32 (by omega) (by omega), fun q3 => ?_, fun q3 => ?_⟩
    · refine ⟨d, rfl, d0, d1, fun t ht => ?_⟩
      rw [hd t ht]
      constructor
      · rintro ⟨x, y, a1, a2, a3, a4, a5⟩
        exact ⟨x, y, a1, by omega, a3, by omega, a5⟩
      · rintro ⟨x, y, a1, a2, a3, a4, a5, a6, a7, a8⟩
        have := hl x a1 a2 a6
        have := hl y a3 a4 a7
        exact ⟨x, y, a1, by omega, a3, by omega, a5, a6, a7, a8⟩
    · refine has_if l0 (by omega) ho (by omega) (fun q4 => ?_) (fun q4 => ih (by omega) c d _ c0 c1 d0 d1 (fun t ht => ?_) (fun t ht => ?_))
      · rw [show o * 8 + e = 8 * o + e by omega]
        have hT := hO.1 (8 * o + e) (by omega) (by omega)
        have hm : R32 (if c < M.1 106 (8 * o + e) then M.1 106 (8 * o + e) else c) := by
          split <;> exact r32 (by omega) (by omega)
        refine ⟨by omega, by omega, r32 (by omega) (by omega), r32 (by omega) (by omega), r32 (by omega) (by omega), hm, r32 (by omega) (by omega), r32 (by omega) (by omega), ?_⟩
        generalize hA : M.1 106 (8 * o + e) = A at hT hm ⊢
        refine ih (by omega) _ _ _ ?_ ?_ ?_ ?_ (fun t ht => ?_) (fun t ht => ?_)
        · split <;> omega
        · split <;> omega
        · split <;> split <;> omega
        · split <;> split <;> omega
        · have h1 : (if A < c then A else c) ≤ t ↔ c ≤ t ∨ A ≤ t := by split <;> omega
          rw [h1, hc t ht]
          constructor
          · rintro (⟨x, a, b, x2⟩ | z)
            · exact ⟨x, a, by omega, x2⟩
            · exact ⟨o, ho, by omega, q4, by omega⟩
          · rintro ⟨x, a, b, x2, x3⟩
            by_cases z : x = o
            · subst z; exact Or.inr (by omega)
            · exact Or.inl ⟨x, a, by omega, x2, x3⟩
        · have h1 : ∀ B, (if B < d then B else d) ≤ t ↔ d ≤ t ∨ B ≤ t := fun B => by split <;> omega
          have h2 : (if c < A then A else c) ≤ t ↔ c ≤ t ∧ A ≤ t := by split <;> omega
          rw [h1, h2, hd t ht, hc t ht]
          constructor
          · rintro (⟨x, y, a1, a2, a3, a4, a5⟩ | ⟨⟨x, a, b, x2, x3⟩, z⟩)
            · exact ⟨x, y, a1, by omega, a3, by omega, a5⟩
            · exact ⟨x, o, a, by omega, ho, by omega, by omega, x2, q4, x3, by omega⟩
          · rintro ⟨x, y, a1, a2, a3, a4, a5, a6, a7, a8, a9⟩
            by_cases z : x = o
            · subst z; exact Or.inr ⟨⟨y, a3, by omega, a7, a9⟩, by omega⟩
            · by_cases z2 : y = o
              · subst z2; exact Or.inr ⟨⟨x, a1, by omega, a6, a8⟩, by omega⟩
              · exact Or.inl ⟨x, y, a1, by omega, a3, by omega, a5, a6, a7, a8, a9⟩
      · rw [hc t ht]
        constructor
        · rintro ⟨x, a, b, x2⟩; exact ⟨x, a, by omega, x2⟩
        · rintro ⟨x, a, b, x2, x3⟩
          by_cases z : x = o
          · subst z; exact absurd x2 q4
          · exact ⟨x, a, by omega, x2, x3⟩
      · rw [hd t ht]
        constructor
        · rintro ⟨x, y, a1, a2, a3, a4, a5⟩; exact ⟨x, y, a1, by omega, a3, by omega, a5⟩
        · rintro ⟨x, y, a1, a2, a3, a4, a5, a6, a7, a8⟩
          by_cases z : x = o
          · subst z; exact absurd a6 q4
          · by_cases z2 : y = o
            · subst z2; exact absurd a7 q4
            · exact ⟨x, y, a1, by omega, a3, by omega, a5, a6, a7, a8⟩
  · refine ⟨1000000, rfl, rfl, by decide, by decide, fun t ht => ⟨fun z => by omega, ?_⟩⟩
    rintro ⟨x, y, a1, a2, a3, a4, a5, a6, a7, -⟩
    exfalso
    have hq : cntI (fun i => bit l i) 31 < 2 := by unfold pcI at q; omega
    rcases Int.lt_or_lt_of_ne a5 with z | z
    · exact cnt_two hq a1 z (by omega) a6 a7
    · exact cnt_two hq a3 z (by omega) a7 a6
