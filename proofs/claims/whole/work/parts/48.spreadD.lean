/-! the class's Spreader: rules of the sorts ALONG, AGAINST -/
theorem shr0 {v p q : Int} (hv : 0 ≤ v) (hp : 0 ≤ p) (h : v / 2 ^ p.toNat = 0) (hq : p ≤ q) : bit v q = false := by
  have h1 := p2_pos p
  have h2 := Int.lt_mul_ediv_self_add (x := v) (k := 2 ^ p.toNat) h1
  rw [h] at h2
  exact bit_hi (n := p) hv (by unfold p2; omega) hq
theorem shr_R {v p : Int} (hv : 0 ≤ v) (h2 : v < 1024) : R32 (v / 2 ^ p.toNat) := by
  have h1 : (0 : Int) < 2 ^ p.toNat := p2_pos p
  have h3 := Int.ediv_nonneg hv (Int.le_of_lt h1)
  have h4 := Int.ediv_le_self (2 ^ p.toNat) hv
  exact r32 (by omega) (by omega)
theorem applyOver_108 {τ : Rw} (hV : VR τ) {w S : Int} {L : Int → Int} (hC : Clo τ w S L) {r : Int} (r0 : 0 ≤ r) (r1 : r < τ 2) (hs : τ (76 + 5 * r) = 1) {M : Mem} (hX : XT M τ) (hT : LT τ w M) (hO : HO M) (hL : ∀ g, 0 ≤ g → g < 80 → L g ≤ M.1 106 g) : Cal Y_Sp_applyOver [vR 105, vI r, vR 108] M (fun v M' => v = none ∧ JF τ w L r M M') := by
  have h0 := hV.1
  have h2 := hV.2.2.1
  have hv := hV.2.2.2.2.2.2.2.1 r r0 r1
  obtain ⟨n0, n1, n2, n3, n4⟩ := n76
  have hsr := srcs hV hT hO (e := τ (77 + 5 * r) % 8) (k := τ (77 + 5 * r) / 8) (by omega) (by omega) (by omega) (by omega)
  have hwt := hT.2.2 (τ (79 + 5 * r) / 8) (by omega) (by omega)
  have hbr : ∀ T p t, Br τ w T r p t ↔ τ (6 + p) = τ (79 + 5 * r) / 8 ∧ ∃ x, src τ w r p x ∧ T (8 * x + τ (77 + 5 * r) % 8) + τ (80 + 5 * r) ≤ t := fun T p t => by
    unfold Br
    rw [if_neg (by omega), if_neg (by omega), if_neg (by omega)]
  have hwy : ∀ x, 0 ≤ x → x < 10 → (0 ≤ M.1 108 (τ (78 + 5 * r) * 10 + x) ∧ M.1 108 (τ (78 + 5 * r) * 10 + x) < 1024) ∧ ∀ p, 0 ≤ p → (src τ w r p x ↔ bit (M.1 108 (τ (78 + 5 * r) * 10 + x)) p = true ∧ τ (6 + x) = τ (77 + 5 * r) / 8) := fun x a b => by
    have hh := hT.1 (τ (78 + 5 * r)) x (by omega) (by omega) a b
    refine ⟨hh.1, fun p hp => ?_⟩
    unfold src
    first
    | rw [if_pos hs]
    | rw [if_neg (by omega)]
    exact and_congr (hh.2 p hp).symm Iff.rfl
  refine Cal.mk (y := Y_Sp_applyOver) (loc := [vR 105, vI r, vR 108, vN, vN, vN, vN, vN, vN, vN, vN, vN]) G_Sp_applyOver rfl (by decide) rfl rfl (Nat.le_of_ble_eq_true rfl) ?_
  simp only [r_Sp_applyOver_108_0, r_Sp_applyOver_108_1, r_Sp_applyOver_108_4, r_Sp_applyOver_108_5, r_Sp_applyOver_108_6, r_Sp_applyOver_108_9, r_Sp_applyOver_108_10, r_Sp_applyOver_108_11, r_Sp_applyOver_108_14, r_Sp_applyOver_108_15, r_Sp_applyOver_108_16, r_Sp_applyOver_108_19, r_Sp_applyOver_108_21, r_Sp_applyOver_108_22, r_Sp_applyOver_108_25, r_Sp_applyOver_108_26, r_Sp_applyOver_108_27, r_Sp_applyOver_108_30, r_Sp_applyOver_108_32, r_Sp_applyOver_108_33, r_Sp_applyOver_108_36, r_Sp_applyOver_108_37, r_Sp_applyOver_108_38, r_Sp_applyOver_108_41, r_Sp_applyOver_108_43, r_Sp_applyOver_108_44, r_Sp_applyOver_108_46, r_Sp_applyOver_108_47, r_Sp_applyOver_108_50, r_Sp_applyOver_108_51, r_Sp_applyOver_108_52, r_Sp_applyOver_108_53, r_Sp_applyOver_108_56, r_Sp_applyOver_108_57, r_Sp_applyOver_108_60, r_Sp_applyOver_108_61, r_Sp_applyOver_108_62, r_Sp_applyOver_108_65, r_Sp_applyOver_108_66, r_Sp_applyOver_108_67, r_Sp_applyOver_108_69, r_Sp_applyOver_108_70, r_Sp_applyOver_108_73, r_Sp_applyOver_108_74, r_Sp_applyOver_108_77, r_Sp_applyOver_108_78, r_Sp_applyOver_108_79, r_Sp_applyOver_108_82, r_Sp_applyOver_108_83, r_Sp_applyOver_108_85, r_Sp_applyOver_108_86, true_and, and_true, or_true, true_or, or_false, false_or, false_and, and_false, not_true_eq_false, not_false_eq_true, implies_true, true_implies, false_implies]
  refine Cal.I (event_s hV hX r0 r1 (Or.inl rfl)) ?_
  refine Cal.I (event_s hV hX r0 r1 (Or.inr rfl)) ?_
  refine Cal.I (part_s hX r0 (by omega) (by decide) (by decide)) ?_
  refine Cal.I (part_s hX r0 (by omega) (by decide) (by decide)) ?_
  rw [n1, n3, n4, n2]
  refine ⟨by omega, by omega, Cal.I (kind_s hV hX r0 r1 (Or.inl rfl)) ?_⟩
  rw [n1]
  refine ⟨by omega, by omega, Cal.I (kind_s hV hX r0 r1 (Or.inr rfl)) ?_⟩
  rw [n3]
  refine ⟨by omega, by omega, ?_⟩
  generalize hsv : iand (M.1 107 (τ (77 + 5 * r) % 8)) (M.1 110 (τ (77 + 5 * r) / 8)) = sv at hsr ⊢
  have inner : ∀ o, 0 ≤ o → o < τ 0 → ∀ tg, 0 ≤ tg → tg < 1024 → (∀ q, 0 ≤ q → q < 10 → (bit tg q = true ↔ bit sv o = true ∧ bit (M.1 108 (τ (78 + 5 * r) * 10 + o)) q = true ∧ q < τ 0 ∧ τ (6 + q) = τ (79 + 5 * r) / 8)) → ∀ M1, J L M (τ (79 + 5 * r) % 8) (fun p a => ∃ x, 0 ≤ x ∧ x < o ∧ 0 ≤ p ∧ p < τ 0 ∧ bit sv x = true ∧ bit (M.1 108 (τ (78 + 5 * r) * 10 + x)) p = true ∧ τ (6 + p) = τ (79 + 5 * r) / 8 ∧ a = M.1 106 (8 * x + τ (77 + 5 * r) % 8) + τ (80 + 5 * r)) M1 →
      (∀ M2 l10 l11, J L M (τ (79 + 5 * r) % 8) (fun p a => ∃ x, 0 ≤ x ∧ x < o + 1 ∧ 0 ≤ p ∧ p < τ 0 ∧ bit sv x = true ∧ bit (M.1 108 (τ (78 + 5 * r) * 10 + x)) p = true ∧ τ (6 + p) = τ (79 + 5 * r) / 8 ∧ a = M.1 106 (8 * x + τ (77 + 5 * r) % 8) + τ (80 + 5 * r)) M2 → Run C_Sp_applyOver (fun v M' => v = none ∧ JF τ w L r M M') 88 [vR 105, vI r, vR 108, vI (τ (77 + 5 * r) % 8), vI (τ (79 + 5 * r) % 8), vI (τ (80 + 5 * r)), vI (τ (78 + 5 * r) * 10), vI sv, vI (M.1 110 (τ (79 + 5 * r) / 8)), vI (o + 1), l10, l11] [] M2) →
      Run C_Sp_applyOver (fun v M' => v = none ∧ JF τ w L r M M') 129 [vR 105, vI r, vR 108, vI (τ (77 + 5 * r) % 8), vI (τ (79 + 5 * r) % 8), vI (τ (80 + 5 * r)), vI (τ (78 + 5 * r) * 10), vI sv, vI (M.1 110 (τ (79 + 5 * r) / 8)), vI o, vI tg, vI 0] [] M1 := by
    intro o ho hon tg t0 t1 htg M1 j nx
    have hdone : ∀ p, 0 ≤ p → p ≤ τ 0 → (∀ q, p ≤ q → q < τ 0 → ¬ bit tg q = true) → ∀ q a, ((∃ x, 0 ≤ x ∧ x < o ∧ 0 ≤ q ∧ q < τ 0 ∧ bit sv x = true ∧ bit (M.1 108 (τ (78 + 5 * r) * 10 + x)) q = true ∧ τ (6 + q) = τ (79 + 5 * r) / 8 ∧ a = M.1 106 (8 * x + τ (77 + 5 * r) % 8) + τ (80 + 5 * r)) ∨ (0 ≤ q ∧ q < p ∧ bit tg q = true ∧ a = M.1 106 (8 * o + τ (77 + 5 * r) % 8) + τ (80 + 5 * r))) ↔ ∃ x, 0 ≤ x ∧ x < o + 1 ∧ 0 ≤ q ∧ q < τ 0 ∧ bit sv x = true ∧ bit (M.1 108 (τ (78 + 5 * r) * 10 + x)) q = true ∧ τ (6 + q) = τ (79 + 5 * r) / 8 ∧ a = M.1 106 (8 * x + τ (77 + 5 * r) % 8) + τ (80 + 5 * r) := by
      intro p p0 p1 hno q a
      constructor
      · rintro (⟨x, x0, x1, x2⟩ | ⟨q0, q1, q2, q3⟩)
        · exact ⟨x, x0, by omega, x2⟩
        · have := (htg q q0 (by omega)).1 q2
          exact ⟨o, ho, by omega, q0, this.2.2.1, this.1, this.2.1, this.2.2.2, q3⟩
      · rintro ⟨x, x0, x1, q0, q1, x2, x3, x4, x5⟩
        by_cases z : x = o
        · subst z
          have hb := (htg q q0 (by omega)).2 ⟨x2, x3, q1, x4⟩
          refine Or.inr ⟨q0, ?_, hb, x5⟩
          rcases Int.lt_or_le q p with y | y
          · exact y
          · exact absurd hb (hno q y q1)
        · exact Or.inl ⟨x, x0, by omega, q0, q1, x2, x3, x4, x5⟩
    refine up_loop (lo := 0) (hi := τ 0) (P := fun p => ∀ M2, J L M (τ (79 + 5 * r) % 8) (fun q a => (∃ x, 0 ≤ x ∧ x < o ∧ 0 ≤ q ∧ q < τ 0 ∧ bit sv x = true ∧ bit (M.1 108 (τ (78 + 5 * r) * 10 + x)) q = true ∧ τ (6 + q) = τ (79 + 5 * r) / 8 ∧ a = M.1 106 (8 * x + τ (77 + 5 * r) % 8) + τ (80 + 5 * r)) ∨ (0 ≤ q ∧ q < p ∧ bit tg q = true ∧ a = M.1 106 (8 * o + τ (77 + 5 * r) % 8) + τ (80 + 5 * r))) M2 → Run C_Sp_applyOver (fun v M' => v = none ∧ JF τ w L r M M') 129 [vR 105, vI r, vR 108, vI (τ (77 + 5 * r) % 8), vI (τ (79 + 5 * r) % 8), vI (τ (80 + 5 * r)), vI (τ (78 + 5 * r) * 10), vI sv, vI (M.1 110 (τ (79 + 5 * r) / 8)), vI o, vI tg, vI p] [] M2) (fun p hp hpn ih M2 j2 => ?_) h0.1 M1 (j.iff (fun q a => ⟨Or.inl, fun z => z.resolve_right (fun y => by omega)⟩))
    have X2 := hX.kp j2.1.2.2.2.2 (fun c a b => by omega)
    rw [r_Sp_applyOver_108_129]
    simp only [r_Sp_applyOver_108_131, r_Sp_applyOver_108_132, r_Sp_applyOver_108_135, r_Sp_applyOver_108_138, r_Sp_applyOver_108_141, r_Sp_applyOver_108_143, r_Sp_applyOver_108_145, r_Sp_applyOver_108_146, r_Sp_applyOver_108_149, r_Sp_applyOver_108_151, r_Sp_applyOver_108_153, r_Sp_applyOver_108_156, r_Sp_applyOver_108_159, r_Sp_applyOver_108_160, r_Sp_applyOver_108_162, r_Sp_applyOver_108_164, r_Sp_applyOver_108_165, r_Sp_applyOver_108_167, r_Sp_applyOver_108_168, r_Sp_applyOver_108_171, r_Sp_applyOver_108_173, r_Sp_applyOver_108_174, r_Sp_applyOver_108_177, r_Sp_applyOver_108_180, r_Sp_applyOver_108_183, r_Sp_applyOver_108_186, true_and, and_true, or_true, true_or, or_false, false_or, false_and, and_false, not_true_eq_false, not_false_eq_true, implies_true, true_implies, false_implies, X2.1]
    refine ⟨r32 (by omega) (by omega), r32 (by omega) (by omega), fun q => ?_, fun q => ?_⟩
    · exact nx M2 _ _ (j2.iff (hdone p hp hpn (fun q a b => by omega)))
    · refine ⟨⟨r32 (by omega) (by omega), by omega, by omega⟩, shr_R t0 t1, fun q2 => ?_, fun q2 => ?_⟩
      · exact nx M2 _ _ (j2.iff (hdone p hp hpn (fun q a b z => by rw [shr0 t0 hp q2 a] at z; exact Bool.noConfusion z)))
      · refine has_if t0 (by omega) hp (by omega) (fun q3 => ?_) (fun q3 => ih (by omega) M2 (j2.iff (fun q a => or_congr Iff.rfl ?_)))
        · refine Cal.I (timeOf_s M2 ho (by omega) (by omega) (by omega)) ?_
          have z3 := (htg p hp (by omega)).1 q3
          have z4 := (hsr.2 o ho (by omega)).1 z3.1
          have hb := j2.1.1 (8 * o + τ (77 + 5 * r) % 8) (by omega) (by omega)
          have hb2 := j2.1.2.2.1.1 (8 * o + τ (77 + 5 * r) % 8) (by omega) (by omega)
          refine (bring_s j2 (at0 := M.1 106 (8 * o + τ (77 + 5 * r) % 8) + τ (80 + 5 * r)) hp (by omega) (by omega) (by omega) (by omega) (by omega) (by omega) (fun y => ?_) (fun y => ?_)).mono ?_
          · have := y (8 * o + τ (77 + 5 * r) % 8) (by omega) (by omega)
            omega
          · refine hC.2.2 r p _ r0 r1 hp (by omega) y ((hbr _ _ _).2 ⟨z3.2.2.2, o, ((hwy o ho (by omega)).2 p hp).2 ⟨z3.2.1, z4.2.2⟩, by omega⟩)
          · rintro v M3 ⟨rfl, j3⟩
            refine ⟨rfl, ih (by omega) M3 (j3.iff (fun q a => ⟨?_, ?_⟩))⟩
            · rintro ((z | ⟨a1, a2, a3⟩) | ⟨rfl, rfl⟩)
              · exact Or.inl z
              · exact Or.inr ⟨a1, by omega, a3⟩
              · exact Or.inr ⟨hp, by omega, q3, rfl⟩
            · rintro (z | ⟨a1, a2, a3, a4⟩)
              · exact Or.inl (Or.inl z)
              · by_cases y : q = p
                · subst y; exact Or.inr ⟨rfl, a4⟩
                · exact Or.inl (Or.inr ⟨a1, by omega, a3, a4⟩)
        · constructor
          · rintro ⟨a1, a2, a3, a4⟩; exact ⟨a1, by omega, a3, a4⟩
          · rintro ⟨a1, a2, a3, a4⟩
            by_cases z : q = p
            · subst z; exact absurd a3 q3
            · exact ⟨a1, by omega, a3, a4⟩
  refine up_loop (lo := 0) (hi := τ 0) (P := fun o => ∀ M1 l10 l11, J L M (τ (79 + 5 * r) % 8) (fun p a => ∃ x, 0 ≤ x ∧ x < o ∧ 0 ≤ p ∧ p < τ 0 ∧ bit sv x = true ∧ bit (M.1 108 (τ (78 + 5 * r) * 10 + x)) p = true ∧ τ (6 + p) = τ (79 + 5 * r) / 8 ∧ a = M.1 106 (8 * x + τ (77 + 5 * r) % 8) + τ (80 + 5 * r)) M1 → Run C_Sp_applyOver _ 88 [vR 105, vI r, vR 108, vI (τ (77 + 5 * r) % 8), vI (τ (79 + 5 * r) % 8), vI (τ (80 + 5 * r)), vI (τ (78 + 5 * r) * 10), vI sv, vI (M.1 110 (τ (79 + 5 * r) / 8)), vI o, l10, l11] [] M1) (fun o ho hon ih M1 l10 l11 j => ?_) h0.1 M _ _ (J.rf _ hO hL (fun p a z => by obtain ⟨x, x0, x1, _⟩ := z; omega))
  have X1 := hX.kp j.1.2.2.2.2 (fun c a b => by omega)
  have eW := j.1.2.2.2.2.at (c := 108) (by decide)
  rw [r_Sp_applyOver_108_88]
  simp only [r_Sp_applyOver_108_90, r_Sp_applyOver_108_91, r_Sp_applyOver_108_94, r_Sp_applyOver_108_97, r_Sp_applyOver_108_100, r_Sp_applyOver_108_102, r_Sp_applyOver_108_104, r_Sp_applyOver_108_107, r_Sp_applyOver_108_110, r_Sp_applyOver_108_111, r_Sp_applyOver_108_113, r_Sp_applyOver_108_115, r_Sp_applyOver_108_116, r_Sp_applyOver_108_117, r_Sp_applyOver_108_119, r_Sp_applyOver_108_120, r_Sp_applyOver_108_123, r_Sp_applyOver_108_124, r_Sp_applyOver_108_126, r_Sp_applyOver_108_127, r_Sp_applyOver_108_189, true_and, and_true, or_true, true_or, or_false, false_or, false_and, and_false, not_true_eq_false, not_false_eq_true, implies_true, true_implies, false_implies, X1.1, eW]
  refine ⟨r32 (by omega) (by omega), r32 (by omega) (by omega), fun q => ?_, fun q => ?_⟩
  · rw [show o = τ 0 by omega] at j
    refine j.fin hV hC r0 r1 (fun p t p0 p1 ht hB => ?_) (fun y y2 p a z => ?_)
    · obtain ⟨hk, x, hx, hxt⟩ := (hbr _ _ _).1 hB
      have hxb := src_bd hV hx
      have hx2 := ((hwy x hxb.1 (by omega)).2 p p0).1 hx
      refine ⟨_, hxt, x, hxb.1, hxb.2, p0, p1, (hsr.2 x hxb.1 (by omega)).2 ⟨?_, hxb.2, hx2.2⟩, hx2.1, hk, rfl⟩
      omega
    · obtain ⟨x, x0, x1, p0, p1, x2, x3, x4, rfl⟩ := z
      have z3 := (hsr.2 x x0 (by omega)).1 x2
      have e := y (8 * x + τ (77 + 5 * r) % 8) (by omega) (by omega)
      have b := y2 (8 * x + τ (77 + 5 * r) % 8) (by omega) (by omega) (by omega)
      exact ⟨p0, p1, by omega, (hbr _ _ _).2 ⟨x4, x, ((hwy x x0 (by omega)).2 p p0).2 ⟨x3, z3.2.2⟩, by omega⟩⟩
  · have hw1 := hwy o ho (by omega)
    have hib := iand_bd (a := M.1 108 (τ (78 + 5 * r) * 10 + o)) (b := M.1 110 (τ (79 + 5 * r) / 8)) hw1.1.1 (by omega) hwt.1.1
    refine has_if hsr.1.1 (by omega) ho (by omega) (fun q2 => ⟨by omega, by omega, ?_⟩) (fun q2 => ?_)
    · simp only [eW]
      refine inner o ho (by omega) _ hib.1 (by omega) (fun q a b => ?_) M1 j (fun M2 l10 l11 j2 => ih (by omega) M2 l10 l11 j2)
      rw [bit_iand hw1.1.1 (by omega) hwt.1.1, Bool.and_eq_true, hwt.2 q a]
      exact ⟨fun z => ⟨q2, z⟩, fun z => z.2⟩
    · refine inner o ho (by omega) 0 (by decide) (by decide) (fun q a b => ?_) M1 j (fun M2 l10 l11 j2 => ih (by omega) M2 l10 l11 j2)
      rw [bit_0]
      exact ⟨fun z => Bool.noConfusion z, fun z => absurd z.1 q2⟩
theorem applyOver_109 {τ : Rw} (hV : VR τ) {w S : Int} {L : Int → Int} (hC : Clo τ w S L) {r : Int} (r0 : 0 ≤ r) (r1 : r < τ 2) (hs : τ (76 + 5 * r) = 2) {M : Mem} (hX : XT M τ) (hT : LT τ w M) (hO : HO M) (hL : ∀ g, 0 ≤ g → g < 80 → L g ≤ M.1 106 g) : Cal Y_Sp_applyOver [vR 105, vI r, vR 109] M (fun v M' => v = none ∧ JF τ w L r M M') := by
  have h0 := hV.1
  have h2 := hV.2.2.1
  have hv := hV.2.2.2.2.2.2.2.1 r r0 r1
  obtain ⟨n0, n1, n2, n3, n4⟩ := n76
  have hsr := srcs hV hT hO (e := τ (77 + 5 * r) % 8) (k := τ (77 + 5 * r) / 8) (by omega) (by omega) (by omega) (by omega)
  have hwt := hT.2.2 (τ (79 + 5 * r) / 8) (by omega) (by omega)
  have hbr : ∀ T p t, Br τ w T r p t ↔ τ (6 + p) = τ (79 + 5 * r) / 8 ∧ ∃ x, src τ w r p x ∧ T (8 * x + τ (77 + 5 * r) % 8) + τ (80 + 5 * r) ≤ t := fun T p t => by
    unfold Br
    rw [if_neg (by omega), if_neg (by omega), if_neg (by omega)]
  have hwy : ∀ x, 0 ≤ x → x < 10 → (0 ≤ M.1 109 (τ (78 + 5 * r) * 10 + x) ∧ M.1 109 (τ (78 + 5 * r) * 10 + x) < 1024) ∧ ∀ p, 0 ≤ p → (src τ w r p x ↔ bit (M.1 109 (τ (78 + 5 * r) * 10 + x)) p = true ∧ τ (6 + x) = τ (77 + 5 * r) / 8) := fun x a b => by
    have hh := hT.2.1 (τ (78 + 5 * r)) x (by omega) (by omega) a b
    refine ⟨hh.1, fun p hp => ?_⟩
    unfold src
    first
    | rw [if_pos hs]
    | rw [if_neg (by omega)]
    exact and_congr (hh.2 p hp).symm Iff.rfl
  refine Cal.mk (y := Y_Sp_applyOver) (loc := [vR 105, vI r, vR 109, vN, vN, vN, vN, vN, vN, vN, vN, vN]) G_Sp_applyOver rfl (by decide) rfl rfl (Nat.le_of_ble_eq_true rfl) ?_
  simp only [r_Sp_applyOver_109_0, r_Sp_applyOver_109_1, r_Sp_applyOver_109_4, r_Sp_applyOver_109_5, r_Sp_applyOver_109_6, r_Sp_applyOver_109_9, r_Sp_applyOver_109_10, r_Sp_applyOver_109_11, r_Sp_applyOver_109_14, r_Sp_applyOver_109_15, r_Sp_applyOver_109_16, r_Sp_applyOver_109_19, r_Sp_applyOver_109_21, r_Sp_applyOver_109_22, r_Sp_applyOver_109_25, r_Sp_applyOver_109_26, r_Sp_applyOver_109_27, r_Sp_applyOver_109_30, r_Sp_applyOver_109_32, r_Sp_applyOver_109_33, r_Sp_applyOver_109_36, r_Sp_applyOver_109_37, r_Sp_applyOver_109_38, r_Sp_applyOver_109_41, r_Sp_applyOver_109_43, r_Sp_applyOver_109_44, r_Sp_applyOver_109_46, r_Sp_applyOver_109_47, r_Sp_applyOver_109_50, r_Sp_applyOver_109_51, r_Sp_applyOver_109_52, r_Sp_applyOver_109_53, r_Sp_applyOver_109_56, r_Sp_applyOver_109_57, r_Sp_applyOver_109_60, r_Sp_applyOver_109_61, r_Sp_applyOver_109_62, r_Sp_applyOver_109_65, r_Sp_applyOver_109_66, r_Sp_applyOver_109_67, r_Sp_applyOver_109_69, r_Sp_applyOver_109_70, r_Sp_applyOver_109_73, r_Sp_applyOver_109_74, r_Sp_applyOver_109_77, r_Sp_applyOver_109_78, r_Sp_applyOver_109_79, r_Sp_applyOver_109_82, r_Sp_applyOver_109_83, r_Sp_applyOver_109_85, r_Sp_applyOver_109_86, true_and, and_true, or_true, true_or, or_false, false_or, false_and, and_false, not_true_eq_false, not_false_eq_true, implies_true, true_implies, false_implies]
  refine Cal.I (event_s hV hX r0 r1 (Or.inl rfl)) ?_
  refine Cal.I (event_s hV hX r0 r1 (Or.inr rfl)) ?_
  refine Cal.I (part_s hX r0 (by omega) (by decide) (by decide)) ?_
  refine Cal.I (part_s hX r0 (by omega) (by decide) (by decide)) ?_
  rw [n1, n3, n4, n2]
  refine ⟨by omega, by omega, Cal.I (kind_s hV hX r0 r1 (Or.inl rfl)) ?_⟩
  rw [n1]
  refine ⟨by omega, by omega, Cal.I (kind_s hV hX r0 r1 (Or.inr rfl)) ?_⟩
  rw [n3]
  refine ⟨by omega, by omega, ?_⟩
  generalize hsv : iand (M.1 107 (τ (77 + 5 * r) % 8)) (M.1 110 (τ (77 + 5 * r) / 8)) = sv at hsr ⊢
  have inner : ∀ o, 0 ≤ o → o < τ 0 → ∀ tg, 0 ≤ tg → tg < 1024 → (∀ q, 0 ≤ q → q < 10 → (bit tg q = true ↔ bit sv o = true ∧ bit (M.1 109 (τ (78 + 5 * r) * 10 + o)) q = true ∧ q < τ 0 ∧ τ (6 + q) = τ (79 + 5 * r) / 8)) → ∀ M1, J L M (τ (79 + 5 * r) % 8) (fun p a => ∃ x, 0 ≤ x ∧ x < o ∧ 0 ≤ p ∧ p < τ 0 ∧ bit sv x = true ∧ bit (M.1 109 (τ (78 + 5 * r) * 10 + x)) p = true ∧ τ (6 + p) = τ (79 + 5 * r) / 8 ∧ a = M.1 106 (8 * x + τ (77 + 5 * r) % 8) + τ (80 + 5 * r)) M1 →
      (∀ M2 l10 l11, J L M (τ (79 + 5 * r) % 8) (fun p a => ∃ x, 0 ≤ x ∧ x < o + 1 ∧ 0 ≤ p ∧ p < τ 0 ∧ bit sv x = true ∧ bit (M.1 109 (τ (78 + 5 * r) * 10 + x)) p = true ∧ τ (6 + p) = τ (79 + 5 * r) / 8 ∧ a = M.1 106 (8 * x + τ (77 + 5 * r) % 8) + τ (80 + 5 * r)) M2 → Run C_Sp_applyOver (fun v M' => v = none ∧ JF τ w L r M M') 88 [vR 105, vI r, vR 109, vI (τ (77 + 5 * r) % 8), vI (τ (79 + 5 * r) % 8), vI (τ (80 + 5 * r)), vI (τ (78 + 5 * r) * 10), vI sv, vI (M.1 110 (τ (79 + 5 * r) / 8)), vI (o + 1), l10, l11] [] M2) →
      Run C_Sp_applyOver (fun v M' => v = none ∧ JF τ w L r M M') 129 [vR 105, vI r, vR 109, vI (τ (77 + 5 * r) % 8), vI (τ (79 + 5 * r) % 8), vI (τ (80 + 5 * r)), vI (τ (78 + 5 * r) * 10), vI sv, vI (M.1 110 (τ (79 + 5 * r) / 8)), vI o, vI tg, vI 0] [] M1 := by
    intro o ho hon tg t0 t1 htg M1 j nx
    have hdone : ∀ p, 0 ≤ p → p ≤ τ 0 → (∀ q, p ≤ q → q < τ 0 → ¬ bit tg q = true) → ∀ q a, ((∃ x, 0 ≤ x ∧ x < o ∧ 0 ≤ q ∧ q < τ 0 ∧ bit sv x = true ∧ bit (M.1 109 (τ (78 + 5 * r) * 10 + x)) q = true ∧ τ (6 + q) = τ (79 + 5 * r) / 8 ∧ a = M.1 106 (8 * x + τ (77 + 5 * r) % 8) + τ (80 + 5 * r)) ∨ (0 ≤ q ∧ q < p ∧ bit tg q = true ∧ a = M.1 106 (8 * o + τ (77 + 5 * r) % 8) + τ (80 + 5 * r))) ↔ ∃ x, 0 ≤ x ∧ x < o + 1 ∧ 0 ≤ q ∧ q < τ 0 ∧ bit sv x = true ∧ bit (M.1 109 (τ (78 + 5 * r) * 10 + x)) q = true ∧ τ (6 + q) = τ (79 + 5 * r) / 8 ∧ a = M.1 106 (8 * x + τ (77 + 5 * r) % 8) + τ (80 + 5 * r) := by
      intro p p0 p1 hno q a
      constructor
      · rintro (⟨x, x0, x1, x2⟩ | ⟨q0, q1, q2, q3⟩)
        · exact ⟨x, x0, by omega, x2⟩
        · have := (htg q q0 (by omega)).1 q2
          exact ⟨o, ho, by omega, q0, this.2.2.1, this.1, this.2.1, this.2.2.2, q3⟩
      · rintro ⟨x, x0, x1, q0, q1, x2, x3, x4, x5⟩
        by_cases z : x = o
        · subst z
          have hb := (htg q q0 (by omega)).2 ⟨x2, x3, q1, x4⟩
          refine Or.inr ⟨q0, ?_, hb, x5⟩
          rcases Int.lt_or_le q p with y | y
          · exact y
          · exact absurd hb (hno q y q1)
        · exact Or.inl ⟨x, x0, by omega, q0, q1, x2, x3, x4, x5⟩
    refine up_loop (lo := 0) (hi := τ 0) (P := fun p => ∀ M2, J L M (τ (79 + 5 * r) % 8) (fun q a => (∃ x, 0 ≤ x ∧ x < o ∧ 0 ≤ q ∧ q < τ 0 ∧ bit sv x = true ∧ bit (M.1 109 (τ (78 + 5 * r) * 10 + x)) q = true ∧ τ (6 + q) = τ (79 + 5 * r) / 8 ∧ a = M.1 106 (8 * x + τ (77 + 5 * r) % 8) + τ (80 + 5 * r)) ∨ (0 ≤ q ∧ q < p ∧ bit tg q = true ∧ a = M.1 106 (8 * o + τ (77 + 5 * r) % 8) + τ (80 + 5 * r))) M2 → Run C_Sp_applyOver (fun v M' => v = none ∧ JF τ w L r M M') 129 [vR 105, vI r, vR 109, vI (τ (77 + 5 * r) % 8), vI (τ (79 + 5 * r) % 8), vI (τ (80 + 5 * r)), vI (τ (78 + 5 * r) * 10), vI sv, vI (M.1 110 (τ (79 + 5 * r) / 8)), vI o, vI tg, vI p] [] M2) (fun p hp hpn ih M2 j2 => ?_) h0.1 M1 (j.iff (fun q a => ⟨Or.inl, fun z => z.resolve_right (fun y => by omega)⟩))
    have X2 := hX.kp j2.1.2.2.2.2 (fun c a b => by omega)
    rw [r_Sp_applyOver_109_129]
    simp only [r_Sp_applyOver_109_131, r_Sp_applyOver_109_132, r_Sp_applyOver_109_135, r_Sp_applyOver_109_138, r_Sp_applyOver_109_141, r_Sp_applyOver_109_143, r_Sp_applyOver_109_145, r_Sp_applyOver_109_146, r_Sp_applyOver_109_149, r_Sp_applyOver_109_151, r_Sp_applyOver_109_153, r_Sp_applyOver_109_156, r_Sp_applyOver_109_159, r_Sp_applyOver_109_160, r_Sp_applyOver_109_162, r_Sp_applyOver_109_164, r_Sp_applyOver_109_165, r_Sp_applyOver_109_167, r_Sp_applyOver_109_168, r_Sp_applyOver_109_171, r_Sp_applyOver_109_173, r_Sp_applyOver_109_174, r_Sp_applyOver_109_177, r_Sp_applyOver_109_180, r_Sp_applyOver_109_183, r_Sp_applyOver_109_186, true_and, and_true, or_true, true_or, or_false, false_or, false_and, and_false, not_true_eq_false, not_false_eq_true, implies_true, true_implies, false_implies, X2.1]
    refine ⟨r32 (by omega) (by omega), r32 (by omega) (by omega), fun q => ?_, fun q => ?_⟩
    · exact nx M2 _ _ (j2.iff (hdone p hp hpn (fun q a b => by omega)))
    · refine ⟨⟨r32 (by omega) (by omega), by omega, by omega⟩, shr_R t0 t1, fun q2 => ?_, fun q2 => ?_⟩
      · exact nx M2 _ _ (j2.iff (hdone p hp hpn (fun q a b z => by rw [shr0 t0 hp q2 a] at z; exact Bool.noConfusion z)))
      · refine has_if t0 (by omega) hp (by omega) (fun q3 => ?_) (fun q3 => ih (by omega) M2 (j2.iff (fun q a => or_congr Iff.rfl ?_)))
        · refine Cal.I (timeOf_s M2 ho (by omega) (by omega) (by omega)) ?_
          have z3 := (htg p hp (by omega)).1 q3
          have z4 := (hsr.2 o ho (by omega)).1 z3.1
          have hb := j2.1.1 (8 * o + τ (77 + 5 * r) % 8) (by omega) (by omega)
          have hb2 := j2.1.2.2.1.1 (8 * o + τ (77 + 5 * r) % 8) (by omega) (by omega)
          refine (bring_s j2 (at0 := M.1 106 (8 * o + τ (77 + 5 * r) % 8) + τ (80 + 5 * r)) hp (by omega) (by omega) (by omega) (by omega) (by omega) (by omega) (fun y => ?_) (fun y => ?_)).mono ?_
          · have := y (8 * o + τ (77 + 5 * r) % 8) (by omega) (by omega)
            omega
          · refine hC.2.2 r p _ r0 r1 hp (by omega) y ((hbr _ _ _).2 ⟨z3.2.2.2, o, ((hwy o ho (by omega)).2 p hp).2 ⟨z3.2.1, z4.2.2⟩, by omega⟩)
          · rintro v M3 ⟨rfl, j3⟩
            refine ⟨rfl, ih (by omega) M3 (j3.iff (fun q a => ⟨?_, ?_⟩))⟩
            · rintro ((z | ⟨a1, a2, a3⟩) | ⟨rfl, rfl⟩)
              · exact Or.inl z
              · exact Or.inr ⟨a1, by omega, a3⟩
              · exact Or.inr ⟨hp, by omega, q3, rfl⟩
            · rintro (z | ⟨a1, a2, a3, a4⟩)
              · exact Or.inl (Or.inl z)
              · by_cases y : q = p
                · subst y; exact Or.inr ⟨rfl, a4⟩
                · exact Or.inl (Or.inr ⟨a1, by omega, a3, a4⟩)
        · constructor
          · rintro ⟨a1, a2, a3, a4⟩; exact ⟨a1, by omega, a3, a4⟩
          · rintro ⟨a1, a2, a3, a4⟩
            by_cases z : q = p
            · subst z; exact absurd a3 q3
            · exact ⟨a1, by omega, a3, a4⟩
  refine up_loop (lo := 0) (hi := τ 0) (P := fun o => ∀ M1 l10 l11, J L M (τ (79 + 5 * r) % 8) (fun p a => ∃ x, 0 ≤ x ∧ x < o ∧ 0 ≤ p ∧ p < τ 0 ∧ bit sv x = true ∧ bit (M.1 109 (τ (78 + 5 * r) * 10 + x)) p = true ∧ τ (6 + p) = τ (79 + 5 * r) / 8 ∧ a = M.1 106 (8 * x + τ (77 + 5 * r) % 8) + τ (80 + 5 * r)) M1 → Run C_Sp_applyOver _ 88 [vR 105, vI r, vR 109, vI (τ (77 + 5 * r) % 8), vI (τ (79 + 5 * r) % 8), vI (τ (80 + 5 * r)), vI (τ (78 + 5 * r) * 10), vI sv, vI (M.1 110 (τ (79 + 5 * r) / 8)), vI o, l10, l11] [] M1) (fun o ho hon ih M1 l10 l11 j => ?_) h0.1 M _ _ (J.rf _ hO hL (fun p a z => by obtain ⟨x, x0, x1, _⟩ := z; omega))
  have X1 := hX.kp j.1.2.2.2.2 (fun c a b => by omega)
  have eW := j.1.2.2.2.2.at (c := 109) (by decide)
  rw [r_Sp_applyOver_109_88]
  simp only [r_Sp_applyOver_109_90, r_Sp_applyOver_109_91, r_Sp_applyOver_109_94, r_Sp_applyOver_109_97, r_Sp_applyOver_109_100, r_Sp_applyOver_109_102, r_Sp_applyOver_109_104, r_Sp_applyOver_109_107, r_Sp_applyOver_109_110, r_Sp_applyOver_109_111, r_Sp_applyOver_109_113, r_Sp_applyOver_109_115, r_Sp_applyOver_109_116, r_Sp_applyOver_109_117, r_Sp_applyOver_109_119, r_Sp_applyOver_109_120, r_Sp_applyOver_109_123, r_Sp_applyOver_109_124, r_Sp_applyOver_109_126, r_Sp_applyOver_109_127, r_Sp_applyOver_109_189, true_and, and_true, or_true, true_or, or_false, false_or, false_and, and_false, not_true_eq_false, not_false_eq_true, implies_true, true_implies, false_implies, X1.1, eW]
  refine ⟨r32 (by omega) (by omega), r32 (by omega) (by omega), fun q => ?_, fun q => ?_⟩
  · rw [show o = τ 0 by omega] at j
    refine j.fin hV hC r0 r1 (fun p t p0 p1 ht hB => ?_) (fun y y2 p a z => ?_)
    · obtain ⟨hk, x, hx, hxt⟩ := (hbr _ _ _).1 hB
      have hxb := src_bd hV hx
      have hx2 := ((hwy x hxb.1 (by omega)).2 p p0).1 hx
      refine ⟨_, hxt, x, hxb.1, hxb.2, p0, p1, (hsr.2 x hxb.1 (by omega)).2 ⟨?_, hxb.2, hx2.2⟩, hx2.1, hk, rfl⟩
      omega
    · obtain ⟨x, x0, x1, p0, p1, x2, x3, x4, rfl⟩ := z
      have z3 := (hsr.2 x x0 (by omega)).1 x2
      have e := y (8 * x + τ (77 + 5 * r) % 8) (by omega) (by omega)
      have b := y2 (8 * x + τ (77 + 5 * r) % 8) (by omega) (by omega) (by omega)
      exact ⟨p0, p1, by omega, (hbr _ _ _).2 ⟨x4, x, ((hwy x x0 (by omega)).2 p p0).2 ⟨x3, z3.2.2⟩, by omega⟩⟩
  · have hw1 := hwy o ho (by omega)
    have hib := iand_bd (a := M.1 109 (τ (78 + 5 * r) * 10 + o)) (b := M.1 110 (τ (79 + 5 * r) / 8)) hw1.1.1 (by omega) hwt.1.1
    refine has_if hsr.1.1 (by omega) ho (by omega) (fun q2 => ⟨by omega, by omega, ?_⟩) (fun q2 => ?_)
    · simp only [eW]
      refine inner o ho (by omega) _ hib.1 (by omega) (fun q a b => ?_) M1 j (fun M2 l10 l11 j2 => ih (by omega) M2 l10 l11 j2)
      rw [bit_iand hw1.1.1 (by omega) hwt.1.1, Bool.and_eq_true, hwt.2 q a]
      exact ⟨fun z => ⟨q2, z⟩, fun z => z.2⟩
    · refine inner o ho (by omega) 0 (by decide) (by decide) (fun q a b => ?_) M1 j (fun M2 l10 l11 j2 => ih (by omega) M2 l10 l11 j2)
      rw [bit_0]
      exact ⟨fun z => Bool.noConfusion z, fun z => absurd z.1 q2⟩
