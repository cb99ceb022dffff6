/-! the class's Spreader: a rule of any sort -/
theorem applyOfSeveral_s {τ : Rw} (hV : VR τ) {w S : Int} {L : Int → Int} (hC : Clo τ w S L) {r : Int} (r0 : 0 ≤ r) (r1 : r < τ 2) (hs : τ (76 + 5 * r) = 3 ∨ τ (76 + 5 * r) = 4) {M : Mem} (hX : XT M τ) (hT : LT τ w M) (hO : HO M) (hL : ∀ g, 0 ≤ g → g < 80 → L g ≤ M.1 106 g) : Cal Y_Sp_applyOfSeveral [vR 105, vI r] M (fun v M' => v = none ∧ JF τ w L r M M') := by
  have h0 := hV.1
  have h2 := hV.2.2.1
  have hv := hV.2.2.2.2.2.2.2.1 r r0 r1
  obtain ⟨n0, n1, n2, n3, n4⟩ := n76
  have hsr := hT.2.2 (τ (77 + 5 * r) / 8) (by omega) (by omega)
  have hwt := hT.2.2 (τ (79 + 5 * r) / 8) (by omega) (by omega)
  have hin := fun p (a : 0 ≤ p) (b : p < 10) => hT.2.1 (τ (78 + 5 * r)) p (by omega) (by omega) a b
  have hib := fun p (a : 0 ≤ p) (b : p < 10) => iand_bd (a := M.1 109 (τ (78 + 5 * r) * 10 + p)) (b := M.1 110 (τ (77 + 5 * r) / 8)) (hin p a b).1.1 (by have := (hin p a b).1.2; omega) hsr.1.1
  -- who leads to p
  have hld : ∀ p, 0 ≤ p → p < 10 → ∀ x, 0 ≤ x → (bit (iand (M.1 109 (τ (78 + 5 * r) * 10 + p)) (M.1 110 (τ (77 + 5 * r) / 8))) x = true ↔ src τ w r p x) := fun p a b x hx => by
    have hh := hin p a b
    rw [bit_iand hh.1.1 (by omega) hsr.1.1, Bool.and_eq_true, hh.2 x hx, hsr.2 x hx]
    constructor
    · rintro ⟨z1, z2, z3⟩
      unfold src
      rw [if_neg (by omega)]
      exact ⟨z1, z3⟩
    · intro z
      have hb := src_bd hV z
      unfold src at z
      rw [if_neg (by omega)] at z
      exact ⟨z.1, hb.2, z.2⟩
  generalize hlv : (fun p => if bit (M.1 110 (τ (79 + 5 * r) / 8)) p = true then iand (M.1 109 (τ (78 + 5 * r) * 10 + p)) (M.1 110 (τ (77 + 5 * r) / 8)) else 0) = lv
  have hlb : ∀ p, 0 ≤ p → p < 10 → 0 ≤ lv p ∧ lv p < 1024 := fun p a b => by
    rw [← hlv]
    have := hib p a b
    have := (hin p a b).1
    dsimp only
    split <;> omega
  have hlx : ∀ p, 0 ≤ p → p < τ 0 → ∀ x, 0 ≤ x → (bit (lv p) x = true ↔ τ (6 + p) = τ (79 + 5 * r) / 8 ∧ src τ w r p x) := fun p a b x hx => by
    rw [← hlv]
    dsimp only
    have hw1 := hwt.2 p a
    split
    · rename_i z
      rw [hld p a (by omega) x hx]
      exact ⟨fun y => ⟨(hw1.1 z).2, y⟩, fun y => y.2⟩
    · rename_i z
      rw [bit_0]
      exact ⟨fun y => Bool.noConfusion y, fun y => absurd (hw1.2 ⟨b, y.1⟩) z⟩
  have hlt : ∀ p, 0 ≤ p → p < τ 0 → ∀ x, 0 ≤ x → bit (lv p) x = true → x < τ 0 := fun p a b x hx z => (src_bd hV ((hlx p a b x hx).1 z).2).2
  refine Cal.mk (y := Y_Sp_applyOfSeveral) (loc := [vR 105, vI r, vN, vN, vN, vN, vN, vN, vN, vN, vN, vN]) G_Sp_applyOfSeveral rfl (by decide) rfl rfl (Nat.le_of_ble_eq_true rfl) ?_
  simp only [r_Sp_applyOfSeveral_0, r_Sp_applyOfSeveral_1, r_Sp_applyOfSeveral_4, r_Sp_applyOfSeveral_5, r_Sp_applyOfSeveral_6, r_Sp_applyOfSeveral_9, r_Sp_applyOfSeveral_10, r_Sp_applyOfSeveral_11, r_Sp_applyOfSeveral_14, r_Sp_applyOfSeveral_15, r_Sp_applyOfSeveral_16, r_Sp_applyOfSeveral_19, r_Sp_applyOfSeveral_20, r_Sp_applyOfSeveral_21, r_Sp_applyOfSeveral_24, r_Sp_applyOfSeveral_25, r_Sp_applyOfSeveral_26, r_Sp_applyOfSeveral_29, r_Sp_applyOfSeveral_31, r_Sp_applyOfSeveral_32, r_Sp_applyOfSeveral_35, r_Sp_applyOfSeveral_36, r_Sp_applyOfSeveral_37, r_Sp_applyOfSeveral_40, r_Sp_applyOfSeveral_42, r_Sp_applyOfSeveral_43, r_Sp_applyOfSeveral_45, r_Sp_applyOfSeveral_46, r_Sp_applyOfSeveral_49, r_Sp_applyOfSeveral_50, r_Sp_applyOfSeveral_53, r_Sp_applyOfSeveral_54, r_Sp_applyOfSeveral_55, r_Sp_applyOfSeveral_58, r_Sp_applyOfSeveral_59, r_Sp_applyOfSeveral_61, r_Sp_applyOfSeveral_62, r_Sp_applyOfSeveral_65, r_Sp_applyOfSeveral_66, r_Sp_applyOfSeveral_69, r_Sp_applyOfSeveral_70, r_Sp_applyOfSeveral_71, r_Sp_applyOfSeveral_74, r_Sp_applyOfSeveral_75, r_Sp_applyOfSeveral_77, r_Sp_applyOfSeveral_78, r_Sp_applyOfSeveral_81, r_Sp_applyOfSeveral_82, r_Sp_applyOfSeveral_83, r_Sp_applyOfSeveral_86, r_Sp_applyOfSeveral_87, r_Sp_applyOfSeveral_90, r_Sp_applyOfSeveral_91, r_Sp_applyOfSeveral_94, r_Sp_applyOfSeveral_95, r_Sp_applyOfSeveral_97, r_Sp_applyOfSeveral_98, true_and, and_true, or_true, true_or, or_false, false_or, false_and, and_false, not_true_eq_false, not_false_eq_true, implies_true, true_implies, false_implies]
  refine Cal.I (event_s hV hX r0 r1 (Or.inl rfl)) ?_
  refine Cal.I (event_s hV hX r0 r1 (Or.inr rfl)) ?_
  refine Cal.I (part_s hX r0 (by omega) (by decide) (by decide)) ?_
  refine Cal.I (part_s hX r0 (by omega) (by decide) (by decide)) ?_
  rw [n1, n3, n4, n2]
  refine Cal.I (kind_s hV hX r0 r1 (Or.inl rfl)) ?_
  rw [n1]
  refine ⟨by omega, by omega, Cal.I (kind_s hV hX r0 r1 (Or.inr rfl)) ?_⟩
  rw [n3]
  refine ⟨by omega, by omega, ?_⟩
  refine Cal.I (part_s hX r0 (by omega) (by decide) (by decide)) ?_
  rw [n0]
  have main : ∀ z, (z = 0 ∧ τ (76 + 5 * r) = 4) ∨ (z = 1 ∧ τ (76 + 5 * r) = 3) → ∀ l10 l11, Run C_Sp_applyOfSeveral (fun v M' => v = none ∧ JF τ w L r M M') 100 [vR 105, vI r, vI (τ (77 + 5 * r) % 8), vI (τ (79 + 5 * r) % 8), vI (τ (80 + 5 * r)), vI (τ (78 + 5 * r) * 10), vI (M.1 110 (τ (77 + 5 * r) / 8)), vI (M.1 110 (τ (79 + 5 * r) / 8)), vI z, vI 0, l10, l11] [] M := by
    intro z hz l10 l11
    refine up_loop (lo := 0) (hi := τ 0) (P := fun p => ∀ M1 l10 l11, (∃ D, J L M (τ (79 + 5 * r) % 8) D M1 ∧ (∀ q t, 0 ≤ q → q < p → t < 1000000 → Br τ w (M.1 106) r q t → ∃ a, a ≤ t ∧ D q a) ∧ ((∀ g, 0 ≤ g → g < 80 → M.1 106 g = L g) → ∀ q a, D q a → 0 ≤ q ∧ q < τ 0 ∧ (∃ g, 0 ≤ g ∧ g < 80 ∧ L g < 1000000 ∧ a ≤ L g + 9) ∧ Br τ w L r q a)) → Run C_Sp_applyOfSeveral _ 100 [vR 105, vI r, vI (τ (77 + 5 * r) % 8), vI (τ (79 + 5 * r) % 8), vI (τ (80 + 5 * r)), vI (τ (78 + 5 * r) * 10), vI (M.1 110 (τ (77 + 5 * r) / 8)), vI (M.1 110 (τ (79 + 5 * r) / 8)), vI z, vI p, l10, l11] [] M1) (fun p hp hpn ih M1 l10 l11 hD => ?_) h0.1 M _ _ ⟨fun _ _ => False, J.rf _ hO hL (fun _ _ z => z), fun q t a b => by omega, fun _ q a y => y.elim⟩
    obtain ⟨D, j, j5, jD⟩ := hD
    have X1 := hX.kp j.1.2.2.2.2 (fun c a b => by omega)
    have O1 := j.1.2.2.1
    have e9 := j.1.2.2.2.2.at (c := 109) (by decide)
    rw [r_Sp_applyOfSeveral_100]
    simp only [r_Sp_applyOfSeveral_102, r_Sp_applyOfSeveral_103, r_Sp_applyOfSeveral_106, r_Sp_applyOfSeveral_109, r_Sp_applyOfSeveral_112, r_Sp_applyOfSeveral_114, r_Sp_applyOfSeveral_116, r_Sp_applyOfSeveral_119, r_Sp_applyOfSeveral_122, r_Sp_applyOfSeveral_123, r_Sp_applyOfSeveral_126, r_Sp_applyOfSeveral_128, r_Sp_applyOfSeveral_130, r_Sp_applyOfSeveral_131, r_Sp_applyOfSeveral_132, r_Sp_applyOfSeveral_134, r_Sp_applyOfSeveral_135, r_Sp_applyOfSeveral_138, r_Sp_applyOfSeveral_139, r_Sp_applyOfSeveral_197, true_and, and_true, or_true, true_or, or_false, false_or, false_and, and_false, not_true_eq_false, not_false_eq_true, implies_true, true_implies, false_implies, X1.1]
    refine ⟨r32 (by omega) (by omega), r32 (by omega) (by omega), fun q => ?_, fun q => ?_⟩
    · rw [show p = τ 0 by omega] at j5
      refine j.fin hV hC r0 r1 (fun p t p0 p1 ht hB => j5 p t p0 p1 ht hB) (fun y y2 p a z => ?_)
      obtain ⟨z1, z2, ⟨g, g0, g1, g2, g3⟩, z4⟩ := jD y p a z
      have := y2 g g0 g1 g2
      exact ⟨z1, z2, by omega, z4⟩
    · have lb := hlb p hp (by omega)
      have hbd := fun g (a : 0 ≤ g) (b : g < 80) => O1.1 g a b
      -- what is found decides when the rule brings
      have key : ∀ v, 0 ≤ v → v ≤ 1000000 → (∀ t, t - τ (80 + 5 * r) < 1000000 → (v ≤ t - τ (80 + 5 * r) ↔ Br τ w (M1.1 106) r p t)) → (¬ v = 1000000 → (∀ g, 0 ≤ g → g < 80 → M.1 106 g = L g) → ∃ g, 0 ≤ g ∧ g < 80 ∧ L g < 1000000 ∧ v ≤ L g) → ∀ l11, Run C_Sp_applyOfSeveral (fun v M' => v = none ∧ JF τ w L r M M') 170 [vR 105, vI r, vI (τ (77 + 5 * r) % 8), vI (τ (79 + 5 * r) % 8), vI (τ (80 + 5 * r)), vI (τ (78 + 5 * r) * 10), vI (M.1 110 (τ (77 + 5 * r) / 8)), vI (M.1 110 (τ (79 + 5 * r) / 8)), vI z, vI p, vI (lv p), l11] [vI v] M1 := by
        intro v v0 v1 hvt hvg l11
        have hold : ∀ q t, 0 ≤ q → q < p + 1 → t < 1000000 → Br τ w (M.1 106) r q t → (∃ a, a ≤ t ∧ D q a) ∨ (q = p ∧ v + τ (80 + 5 * r) ≤ t) := fun q t a b c d => by
          by_cases y : q = p
          · rw [y] at d a
            have hB : Br τ w (M1.1 106) r p t := d.loc hV r0 r1 a (by omega) (fun g g0 g1 _ => (j.1.1 g g0 g1).2)
            have := (hvt t (by omega)).2 hB
            exact Or.inr ⟨y, by omega⟩
          · exact Or.inl (j5 q t a (by omega) c d)
        simp only [r_Sp_applyOfSeveral_170, r_Sp_applyOfSeveral_172, r_Sp_applyOfSeveral_174, r_Sp_applyOfSeveral_176, r_Sp_applyOfSeveral_179, r_Sp_applyOfSeveral_180, r_Sp_applyOfSeveral_182, r_Sp_applyOfSeveral_183, r_Sp_applyOfSeveral_185, r_Sp_applyOfSeveral_187, r_Sp_applyOfSeveral_188, r_Sp_applyOfSeveral_191, r_Sp_applyOfSeveral_194, true_and, and_true, or_true, true_or, or_false, false_or, false_and, and_false, not_true_eq_false, not_false_eq_true, implies_true, true_implies, false_implies]
        refine ⟨r32 (by omega) (by omega), r32 (by decide) (by decide), fun q2 => ?_, fun q2 => ?_⟩
        · refine ih (by omega) M1 _ _ ⟨D, j, fun q t a b c d => ?_, jD⟩
          exact (hold q t a b c d).resolve_right (fun y => by omega)
        · have hB : Br τ w (M1.1 106) r p (v + τ (80 + 5 * r)) := (hvt _ (by omega)).1 (by omega)
          refine (bring_s j (at' := v + τ (80 + 5 * r)) (at0 := v + τ (80 + 5 * r)) hp (by omega) (by omega) (by omega) (by omega) (by omega) (Int.le_refl _) (fun _ => rfl) (fun y => ?_)).mono ?_
          · exact hC.2.2 r p _ r0 r1 hp (by omega) y (hB.loc hV r0 r1 hp (by omega) (fun g g0 g1 _ => (j.1.1 g g0 g1).1))
          · rintro v' M2 ⟨rfl, j2⟩
            refine ⟨rfl, ih (by omega) M2 _ _ ⟨_, j2, fun q t a b c d => ?_, fun y q a z => ?_⟩⟩
            · rcases hold q t a b c d with ⟨a', y1, y2⟩ | ⟨rfl, y2⟩
              · exact ⟨a', y1, Or.inl y2⟩
              · exact ⟨_, y2, Or.inr ⟨rfl, rfl⟩⟩
            · rcases z with z | ⟨rfl, rfl⟩
              · exact jD y q a z
              · obtain ⟨g, g0, g1, g2, g3⟩ := hvg q2 y
                exact ⟨hp, by omega, ⟨g, g0, g1, g2, by omega⟩, hB.loc hV r0 r1 hp (by omega) (fun g g0 g1 _ => (j.1.1 g g0 g1).1)⟩
      have go : ∀ l11, Run C_Sp_applyOfSeveral (fun v M' => v = none ∧ JF τ w L r M M') 141 [vR 105, vI r, vI (τ (77 + 5 * r) % 8), vI (τ (79 + 5 * r) % 8), vI (τ (80 + 5 * r)), vI (τ (78 + 5 * r) * 10), vI (M.1 110 (τ (77 + 5 * r) / 8)), vI (M.1 110 (τ (79 + 5 * r) / 8)), vI z, vI p, vI (lv p), l11] [] M1 := by
        intro l11
        have hML : (∀ g, 0 ≤ g → g < 80 → M.1 106 g = L g) → ∀ g, 0 ≤ g → g < 80 → M1.1 106 g = L g := fun y g a b => by
          have := y g a b
          have := j.1.1 g a b
          omega
        simp only [r_Sp_applyOfSeveral_141, r_Sp_applyOfSeveral_143, r_Sp_applyOfSeveral_146, r_Sp_applyOfSeveral_147, r_Sp_applyOfSeveral_149, r_Sp_applyOfSeveral_150, r_Sp_applyOfSeveral_153, r_Sp_applyOfSeveral_156, r_Sp_applyOfSeveral_157, r_Sp_applyOfSeveral_159, r_Sp_applyOfSeveral_160, r_Sp_applyOfSeveral_163, r_Sp_applyOfSeveral_164, r_Sp_applyOfSeveral_165, r_Sp_applyOfSeveral_166, r_Sp_applyOfSeveral_167, true_and, and_true, or_true, true_or, or_false, false_or, false_and, and_false, not_true_eq_false, not_false_eq_true, implies_true, true_implies, false_implies]
        rcases hz with ⟨rfl, h4⟩ | ⟨rfl, h3⟩
        · have hh := O1.2.1 (τ (77 + 5 * r) % 8) (by omega) (by omega)
          have hb2 := iand_bd (a := lv p) (b := M1.1 107 (τ (77 + 5 * r) % 8)) lb.1 (by omega) hh.1.1
          have hbx : ∀ x, 0 ≤ x → x < 10 → (bit (iand (lv p) (M1.1 107 (τ (77 + 5 * r) % 8))) x = true ↔ (τ (6 + p) = τ (79 + 5 * r) / 8 ∧ src τ w r p x) ∧ M1.1 106 (8 * x + τ (77 + 5 * r) % 8) < 1000000) := fun x a b => by
            rw [bit_iand lb.1 (by omega) hh.1.1, Bool.and_eq_true, hlx p hp (by omega) x a, hh.2 x a b]
          refine ⟨r32 (by decide) (by decide), fun _ => ⟨by omega, by omega, ?_⟩, fun y => absurd rfl y⟩
          refine (secondOf_s hV X1 O1 hb2.1 (by omega) (fun x a b y => (src_bd hV ((hbx x a b).1 y).1.2).2) (by omega) (by omega)).mono ?_
          rintro _ M' ⟨v, rfl, hm, v0, v1, hv⟩
          obtain rfl : M1 = M' := hm.symm
          refine ⟨v, rfl, key v v0 v1 (fun t ht => ?_) (fun y y2 => ?_) _⟩
          · rw [hv _ ht]
            unfold Br
            rw [if_neg (by omega), if_neg (by omega), if_pos h4]
            constructor
            · rintro ⟨x, y, a1, a2, a3, a4, a5, a6, a7, a8, a9⟩
              have b1 := (hbx x a1 a2).1 a6
              have b2 := (hbx y a3 a4).1 a7
              exact ⟨b1.1.1, x, y, a5, b1.1.2, b2.1.2, by omega, by omega⟩
            · rintro ⟨hk, x, y, a1, a2, a3, a4, a5⟩
              have b1 := src_bd hV a2
              have b2 := src_bd hV a3
              exact ⟨x, y, b1.1, by omega, b2.1, by omega, a1, (hbx x b1.1 (by omega)).2 ⟨⟨hk, a2⟩, by omega⟩, (hbx y b2.1 (by omega)).2 ⟨⟨hk, a3⟩, by omega⟩, by omega, by omega⟩
          · obtain ⟨x, y', a1, a2, a3, a4, a5, a6, a7, a8, a9⟩ := (hv v (by omega)).1 (Int.le_refl _)
            have e1 := hML y2 (8 * x + τ (77 + 5 * r) % 8) (by omega) (by omega)
            have e2 := hML y2 (8 * y' + τ (77 + 5 * r) % 8) (by omega) (by omega)
            by_cases c : v ≤ M1.1 106 (8 * x + τ (77 + 5 * r) % 8)
            · exact ⟨8 * x + τ (77 + 5 * r) % 8, by omega, by omega, by omega, by rw [← e1]; exact c⟩
            · by_cases c2 : v ≤ M1.1 106 (8 * y' + τ (77 + 5 * r) % 8)
              · exact ⟨8 * y' + τ (77 + 5 * r) % 8, by omega, by omega, by omega, by rw [← e2]; exact c2⟩
              · exfalso
                have := (hv (v - 1) (by omega)).2 ⟨x, y', a1, a2, a3, a4, a5, a6, a7, by omega, by omega⟩
                omega
        · refine ⟨r32 (by decide) (by decide), fun y => absurd y (by decide), fun _ => ?_⟩
          refine (lastOf_s hV X1 O1 lb.1 lb.2 (fun x a b y => hlt p hp (by omega) x a y) (by omega) (by omega)).mono ?_
          rintro _ M' ⟨v, rfl, hm, v0, v1, hv⟩
          obtain rfl : M1 = M' := hm.symm
          refine ⟨v, rfl, key v v0 v1 (fun t ht => ?_) (fun y y2 => ?_) _⟩
          · rw [hv _ ht]
            unfold Br
            rw [if_neg (by omega), if_pos h3]
            constructor
            · rintro ⟨⟨x, a1, a2, a3⟩, hall⟩
              have b1 := (hlx p hp (by omega) x a1).1 a3
              refine ⟨b1.1, ⟨x, b1.2⟩, fun y hy => ?_⟩
              have b2 := src_bd hV hy
              have := hall y b2.1 (by omega) ((hlx p hp (by omega) y b2.1).2 ⟨b1.1, hy⟩)
              omega
            · rintro ⟨hk, ⟨x, hx⟩, hall⟩
              have b1 := src_bd hV hx
              refine ⟨⟨x, b1.1, by omega, (hlx p hp (by omega) x b1.1).2 ⟨hk, hx⟩⟩, fun y a b c => ?_⟩
              have := hall y ((hlx p hp (by omega) y a).1 c).2
              omega
          · obtain ⟨⟨x, a1, a2, a3⟩, hall⟩ := (hv v (by omega)).1 (Int.le_refl _)
            apply Classical.byContradiction
            intro hno
            have := (hv (v - 1) (by omega)).2 ⟨⟨x, a1, a2, a3⟩, fun u b1 b2 b3 => by
              have c1 := hall u b1 b2 b3
              have e1 := hML y2 (8 * u + τ (77 + 5 * r) % 8) (by omega) (by omega)
              rcases Int.lt_or_le (M1.1 106 (8 * u + τ (77 + 5 * r) % 8)) v with d | d
              · omega
              · exact absurd ⟨8 * u + τ (77 + 5 * r) % 8, by omega, by omega, by omega, by rw [← e1]; exact d⟩ hno⟩
            omega
      refine has_if hwt.1.1 (by omega) hp (by omega) (fun q2 => ⟨by omega, by omega, ?_⟩) (fun q2 => ?_)
      · simp only [e9]
        have := go l11
        rw [← hlv] at this
        dsimp only at this
        rw [if_pos q2] at this
        exact this
      · have := go l11
        rw [← hlv] at this
        dsimp only at this
        rw [if_neg q2] at this
        exact this
  refine ⟨r32 (by omega) (by omega), r32 (by decide) (by decide), fun q => main 0 (Or.inl ⟨rfl, by omega⟩) _ _, fun q => main 1 (Or.inr ⟨rfl, by omega⟩) _ _⟩
theorem apply_s {τ : Rw} (hV : VR τ) {w S : Int} {L : Int → Int} (hC : Clo τ w S L) {r : Int} (r0 : 0 ≤ r) (r1 : r < τ 2) {M : Mem} (hX : XT M τ) (hT : LT τ w M) (hO : HO M) (hL : ∀ g, 0 ≤ g → g < 80 → L g ≤ M.1 106 g) : Cal Y_Sp_apply [vR 105, vI r] M (fun v M' => v = none ∧ JF τ w L r M M') := by
  have h2 := hV.2.2.1
  have hv := (hV.2.2.2.2.2.2.2.1 r r0 r1).1
  refine Cal.mk (y := Y_Sp_apply) (loc := [vR 105, vI r]) G_Sp_apply rfl (by decide) rfl rfl (Nat.le_of_ble_eq_true rfl) ?_
  simp only [r_Sp_apply_0, r_Sp_apply_1, r_Sp_apply_4, r_Sp_apply_5, r_Sp_apply_6, r_Sp_apply_9, r_Sp_apply_36, r_Sp_apply_37, r_Sp_apply_38, r_Sp_apply_41, r_Sp_apply_44, r_Sp_apply_45, r_Sp_apply_46, r_Sp_apply_47, r_Sp_apply_50, r_Sp_apply_53, r_Sp_apply_56, r_Sp_apply_57, r_Sp_apply_58, r_Sp_apply_59, r_Sp_apply_62, r_Sp_apply_65, r_Sp_apply_68, r_Sp_apply_69, r_Sp_apply_70, r_Sp_apply_73, true_and, and_true, or_true, true_or, or_false, false_or, false_and, and_false, not_true_eq_false, not_false_eq_true, implies_true, true_implies, false_implies]
  refine Cal.I (part_s hX r0 (by omega) (by decide) (by decide)) ?_
  rw [n76.1]
  refine ⟨r32 (by omega) (by omega), ⟨fun q => ?_, fun q => ?_, fun q => ?_⟩, fun q => ?_⟩
  · exact (applySame_s hV hC r0 r1 q hX hT hO hL).mono (fun _ _ z => z)
  · exact (applyOver_108 hV hC r0 r1 q hX hT hO hL).mono (fun _ _ z => z)
  · exact (applyOver_109 hV hC r0 r1 q hX hT hO hL).mono (fun _ _ z => z)
  · exact (applyOfSeveral_s hV hC r0 r1 (by omega) hX hT hO hL).mono (fun _ _ z => z)
