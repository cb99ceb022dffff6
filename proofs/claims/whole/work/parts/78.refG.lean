/-! the reference's spread -/
/-- what of the reference's numbers a spread reads -/
def NT (τ : Rw) (M : Mem) : Prop := M.1 141 12 = nC τ ∧ M.1 141 15 = nS τ ∧ (∀ c, 0 ≤ c → c < nC τ → M.1 149 c = cf τ c / 8 ∧ M.1 150 c = cf τ c % 8) ∧ ∀ s, 0 ≤ s → s < nS τ → M.1 151 s = sf τ s / 8 ∧ M.1 152 s = sf τ s % 8
theorem NU.t {ρ : Rw} (hV : VR ρ) {M : Mem} (h : NU ρ M) : NT (tau ρ) M := by
  unfold NT
  rw [nC_tau hV, nS_tau hV]; exact h
theorem NT.kp {P : Nat → Prop} {τ : Rw} {M M' : Mem} (h : NT τ M) (hk : Kp P M M') (hP : ∀ c, 149 ≤ c → c ≤ 152 → ¬ P c) (h12 : M'.1 141 12 = M.1 141 12) (h15 : M'.1 141 15 = M.1 141 15) : NT τ M' := by
  unfold NT at *
  rw [h12, h15, hk.c (hP 149 (by decide) (by decide)), hk.c (hP 150 (by decide) (by decide)), hk.c (hP 151 (by decide) (by decide)), hk.c (hP 152 (by decide) (by decide))]
  exact h
theorem cf_sp {τ : Rw} (hV : VR τ) {c : Int} (c0 : 0 ≤ c) (c1 : c < nC τ) : 0 ≤ cf τ c ∧ cf τ c < 8 * τ 0 ∧ isC τ (cf τ c) = true ∧ cntI (isC τ) (cf τ c) = c := by
  have h0 := hV.1
  exact kth_sp (p := isC τ) (n := 8 * τ 0) (by omega) c0 c1
theorem spreadOf_s {τ : Rw} (hV : VR τ) {S : Int} (S0 : 0 ≤ S) (S1 : S < 4096) {M : Mem} (hT : RT τ M) (hN : NT τ M) : Cal Y_RM_spreadOf [vR 141, vI S] M (fun v M' => v = none ∧ (∀ g, 0 ≤ g → g < 80 → M'.1 153 g = sp τ (-1) S g) ∧ Kp (fun c => c = 153) M M') := by
  have h0 := hV.1
  have h2 := hV.2.2.1
  have hc12 := nC_bd hV
  have hsp := fun g (a : 0 ≤ g) (b : g < 80) => sp_nn hV (-1) S a b
  generalize hQ : (fun (v : Option Vl) (M' : Mem) => v = none ∧ (∀ g, 0 ≤ g → g < 80 → M'.1 153 g = sp τ (-1) S g) ∧ Kp (fun c => c = 153) M M') = Q
  -- one pass; what then, is told by K
  have pass : ∀ (M1 : Mem) (l3 l4 l5 l6 : Vl), Kp (fun c => c = 153) M M1 → (∀ g, 0 ≤ g → g < 80 → sp τ (-1) S g ≤ M1.1 153 g ∧ M1.1 153 g ≤ 1000000) → (∀ M2 more l3 l4 l5 l6, Kp (fun c => c = 153) M M2 → (∀ g, 0 ≤ g → g < 80 → sp τ (-1) S g ≤ M2.1 153 g ∧ M2.1 153 g ≤ M1.1 153 g) → ((more = 0 ∧ ∀ g, 0 ≤ g → g < 80 → M2.1 153 g = M1.1 153 g) ∨ (more = 1 ∧ ∃ g, 0 ≤ g ∧ g < 80 ∧ M2.1 153 g < M1.1 153 g)) → (∀ r o t, 0 ≤ r → r < τ 2 → 0 ≤ o → o < τ 0 → t < 1000000 → Br τ (-1) (M1.1 153) r o t → M2.1 153 (8 * o + τ (79 + 5 * r) % 8) ≤ t) → Run C_RM_spreadOf Q 70 [vR 141, vI S, vI more, l3, l4, l5, l6] [] M2) → Run C_RM_spreadOf Q 70 [vR 141, vI S, vI 1, l3, l4, l5, l6] [] M1 := by
    intro M1 l3 l4 l5 l6 k1 s1 K
    rw [r_RM_spreadOf_70]
    simp only [r_RM_spreadOf_71, r_RM_spreadOf_74, r_RM_spreadOf_75, r_RM_spreadOf_76, r_RM_spreadOf_77, true_and, and_true, or_true, true_or, or_false, false_or, false_and, and_false, not_true_eq_false, not_false_eq_true, implies_true, true_implies, false_implies]
    refine ⟨r32 (by decide) (by decide), fun z => absurd z (by decide), fun _ => ?_⟩
    refine up_loop (lo := 0) (hi := τ 2) (P := fun r => ∀ M2 more l4 l5 l6, Kp (fun c => c = 153) M M2 → (∀ g, 0 ≤ g → g < 80 → sp τ (-1) S g ≤ M2.1 153 g ∧ M2.1 153 g ≤ M1.1 153 g) → ((more = 0 ∧ ∀ g, 0 ≤ g → g < 80 → M2.1 153 g = M1.1 153 g) ∨ (more = 1 ∧ ∃ g, 0 ≤ g ∧ g < 80 ∧ M2.1 153 g < M1.1 153 g)) → (∀ r' o t, 0 ≤ r' → r' < r → 0 ≤ o → o < τ 0 → t < 1000000 → Br τ (-1) (M1.1 153) r' o t → M2.1 153 (8 * o + τ (79 + 5 * r') % 8) ≤ t) → Run C_RM_spreadOf Q 78 [vR 141, vI S, vI more, vI r, l4, l5, l6] [] M2) (fun r r0 rn ihr M2 more l4 l5 l6 k2 s2 m2 b2 => ?_) h2.1 M1 0 _ _ _ k1 (fun g a b => ⟨(s1 g a b).1, Int.le_refl _⟩) (Or.inl ⟨rfl, fun _ _ _ => rfl⟩) (fun r' o t a b => by omega)
    have e2 : M2.1 144 2 = τ 2 := by rw [k2.at (by decide)]; exact hT _ (by omega)
    rw [r_RM_spreadOf_78]
    simp only [r_RM_spreadOf_79, r_RM_spreadOf_80, r_RM_spreadOf_83, r_RM_spreadOf_84, r_RM_spreadOf_85, r_RM_spreadOf_88, r_RM_spreadOf_89, true_and, and_true, or_true, true_or, or_false, false_or, false_and, and_false, not_true_eq_false, not_false_eq_true, implies_true, true_implies, false_implies, e2]
    refine ⟨by decide, by decide, r32 (by omega) (by omega), r32 (by omega) (by omega), fun q => ?_, fun q => ?_⟩
    · simp only [r_RM_spreadOf_189, true_and, and_true, or_true, true_or, or_false, false_or, false_and, and_false, not_true_eq_false, not_false_eq_true, implies_true, true_implies, false_implies]
      rw [show r = τ 2 by omega] at b2 ⊢
      exact K M2 more _ _ _ _ k2 s2 m2 b2
    · refine up_loop (lo := 0) (hi := τ 0) (P := fun o => ∀ M3 more l5 l6, Kp (fun c => c = 153) M M3 → (∀ g, 0 ≤ g → g < 80 → sp τ (-1) S g ≤ M3.1 153 g ∧ M3.1 153 g ≤ M1.1 153 g) → ((more = 0 ∧ ∀ g, 0 ≤ g → g < 80 → M3.1 153 g = M1.1 153 g) ∨ (more = 1 ∧ ∃ g, 0 ≤ g ∧ g < 80 ∧ M3.1 153 g < M1.1 153 g)) → (∀ r' o' t, 0 ≤ r' → 0 ≤ o' → o' < τ 0 → (r' < r ∨ (r' = r ∧ o' < o)) → t < 1000000 → Br τ (-1) (M1.1 153) r' o' t → M3.1 153 (8 * o' + τ (79 + 5 * r') % 8) ≤ t) → Run C_RM_spreadOf Q 91 [vR 141, vI S, vI more, vI r, vI o, l5, l6] [] M3) (fun o o0 on iho M3 more l5 l6 k3 s3 m3 b3 => ?_) h0.1 M2 more _ _ k2 s2 m2 (fun r' o' t a b c d e => b2 r' o' t a (by omega) b c e)
      have T3 := hT.kp k3 (by decide)
      have e0 : M3.1 144 0 = τ 0 := T3 _ (by omega)
      have hv := hV.2.2.2.2.2.2.2.1 r r0 (by omega)
      rw [r_RM_spreadOf_91]
      simp only [r_RM_spreadOf_93, r_RM_spreadOf_94, r_RM_spreadOf_97, r_RM_spreadOf_98, r_RM_spreadOf_99, r_RM_spreadOf_102, r_RM_spreadOf_104, r_RM_spreadOf_106, r_RM_spreadOf_107, r_RM_spreadOf_108, r_RM_spreadOf_109, true_and, and_true, or_true, true_or, or_false, false_or, false_and, and_false, not_true_eq_false, not_false_eq_true, implies_true, true_implies, false_implies, e0]
      refine ⟨by decide, by decide, r32 (by omega) (by omega), r32 (by omega) (by omega), fun q2 => ?_, fun q2 => ?_⟩
      · simp only [r_RM_spreadOf_183, r_RM_spreadOf_186, true_and, and_true, or_true, true_or, or_false, false_or, false_and, and_false, not_true_eq_false, not_false_eq_true, implies_true, true_implies, false_implies]
        refine ihr (by omega) M3 more _ _ _ k3 s3 m3 (fun r' o' t a b c d e hB => b3 r' o' t a c d (by omega) e hB)
      · refine Cal.I (eventBrought_s hV T3 r0 (by omega)) ?_
        simp only [r_RM_spreadOf_112, r_RM_spreadOf_113, r_RM_spreadOf_115, r_RM_spreadOf_116, r_RM_spreadOf_117, r_RM_spreadOf_119, true_and, and_true, or_true, true_or, or_false, false_or, false_and, and_false, not_true_eq_false, not_false_eq_true, implies_true, true_implies, false_implies]
        have hS : ∀ g, 0 ≤ g → g < 80 → 0 ≤ M3.1 153 g ∧ M3.1 153 g ≤ 1000000 := fun g a b => by
          have := s3 g a b
          have := s1 g a b
          have := hsp g a b
          omega
        refine (brought_s hV T3 hS r0 (by omega) o0 (by omega)).mono ?_
        rintro _ M4 ⟨t, rfl, t0, t1, ht, hm⟩
        obtain rfl : M3 = M4 := hm.symm
        refine ⟨t, rfl, ?_⟩
        generalize hat : 8 * o + τ (79 + 5 * r) % 8 = at'
        have ha0 : 0 ≤ at' ∧ at' < 80 := by omega
        have hTa := hS at' ha0.1 ha0.2
        -- the new time
        have goes : ∀ more', ((more' = 0 ∧ more = 0 ∧ ¬ t < M3.1 153 at') ∨ (more' = 1 ∧ (more = 1 ∨ t < M3.1 153 at'))) → Run C_RM_spreadOf Q 91 [vR 141, vI S, vI more', vI r, vI (o + 1), vI at', vI t] [] (wI M3 153 at' (if t < M3.1 153 at' then t else M3.1 153 at')) := by
          intro more' hmore
          generalize hM5 : wI M3 153 at' (if t < M3.1 153 at' then t else M3.1 153 at') = M5
          have e5 : ∀ g, M5.1 153 g = if g = at' then (if t < M3.1 153 at' then t else M3.1 153 at') else M3.1 153 g := fun g => by
            rw [← hM5, wI_at]
            by_cases y : g = at'
            · rw [if_pos ⟨rfl, y⟩, if_pos y]
            · rw [if_neg (fun x => y x.2), if_neg y]
          have le5 : ∀ g, M5.1 153 g ≤ M3.1 153 g := fun g => by
            rw [e5]
            by_cases y : g = at'
            · rw [if_pos y, y]; split <;> omega
            · rw [if_neg y]; exact Int.le_refl _
          refine iho (by omega) M5 more' _ _ (by rw [← hM5]; exact Kp.w k3 rfl) (fun g a b => ?_) ?_ (fun r' o' u a b c d e hB => ?_)
          · have h3 := s3 g a b
            refine ⟨?_, by have := le5 g; omega⟩
            rw [e5]
            by_cases y : g = at'
            · rw [if_pos y]
              split
              · rename_i w
                have hB : Br τ (-1) (M3.1 153) r o t := (ht t (by omega)).1 (Int.le_refl _)
                have := (sp_clo hV (-1) S).2.2 r o t r0 (by omega) o0 (by omega) (by omega) (hB.loc hV r0 (by omega) o0 (by omega) (fun f x z _ => (s3 f x z).1))
                rw [hat] at this
                rw [y]; exact this
              · rw [← y]; exact h3.1
            · rw [if_neg y]; exact h3.1
          · rcases hmore with ⟨x, y, z⟩ | ⟨x, y⟩
            · refine Or.inl ⟨x, fun g a b => ?_⟩
              have h4 : ∀ g, 0 ≤ g → g < 80 → M3.1 153 g = M1.1 153 g := by
                rcases m3 with w | w
                · exact w.2
                · omega
              rw [e5, if_neg z]
              by_cases w : g = at'
              · rw [if_pos w, w]; exact h4 at' ha0.1 ha0.2
              · rw [if_neg w]; exact h4 g a b
            · refine Or.inr ⟨x, ?_⟩
              rcases y with y | y
              · rcases m3 with w | ⟨w, g, a, b, c⟩
                · omega
                · exact ⟨g, a, b, by have := le5 g; omega⟩
              · refine ⟨at', ha0.1, ha0.2, ?_⟩
                rw [e5, if_pos rfl, if_pos y]
                have := (s3 at' ha0.1 ha0.2).2
                omega
          · by_cases w : r' = r ∧ o' = o
            · rw [w.1, w.2] at hB ⊢
              rw [hat, e5, if_pos rfl]
              have hB2 : Br τ (-1) (M3.1 153) r o u := hB.loc hV r0 (by omega) o0 (by omega) (fun f x z _ => (s3 f x z).2)
              have := (ht u e).2 hB2
              split <;> omega
            · have := b3 r' o' u a b c (by omega) e hB
              have := le5 (8 * o' + τ (79 + 5 * r') % 8)
              omega
        have hmr : more = 0 ∨ more = 1 := by
          rcases m3 with w | w
          · exact Or.inl w.1
          · exact Or.inr w.1
        -- the store
        have st : ∀ more', ((more' = 0 ∧ more = 0 ∧ ¬ t < M3.1 153 at') ∨ (more' = 1 ∧ (more = 1 ∨ t < M3.1 153 at'))) → Run C_RM_spreadOf Q 145 [vR 141, vI S, vI more, vI r, vI o, vI at', vI t] [vI more'] M3 := by
          intro more' hmore
          have hg := goes more' hmore
          simp only [r_RM_spreadOf_145, r_RM_spreadOf_146, r_RM_spreadOf_147, r_RM_spreadOf_150, r_RM_spreadOf_152, r_RM_spreadOf_154, r_RM_spreadOf_155, r_RM_spreadOf_158, r_RM_spreadOf_160, r_RM_spreadOf_161, r_RM_spreadOf_164, r_RM_spreadOf_166, r_RM_spreadOf_169, r_RM_spreadOf_170, r_RM_spreadOf_173, r_RM_spreadOf_175, r_RM_spreadOf_176, r_RM_spreadOf_177, r_RM_spreadOf_180, true_and, and_true, or_true, true_or, or_false, false_or, false_and, and_false, not_true_eq_false, not_false_eq_true, implies_true, true_implies, false_implies]
          refine ⟨ha0.1, ha0.2, r32 (by omega) (by omega), r32 (by omega) (by omega), fun w => ⟨ha0.1, ha0.2, ha0.1, ha0.2, ?_⟩, fun w => ⟨ha0.1, ha0.2, ?_⟩⟩
          · rw [if_neg (by omega)] at hg; exact hg
          · rw [if_pos (by omega)] at hg; exact hg
        simp only [r_RM_spreadOf_122, r_RM_spreadOf_124, r_RM_spreadOf_125, r_RM_spreadOf_128, r_RM_spreadOf_130, r_RM_spreadOf_131, r_RM_spreadOf_134, r_RM_spreadOf_136, r_RM_spreadOf_137, r_RM_spreadOf_140, r_RM_spreadOf_141, r_RM_spreadOf_144, true_and, and_true, or_true, true_or, or_false, false_or, false_and, and_false, not_true_eq_false, not_false_eq_true, implies_true, true_implies, false_implies]
        refine ⟨by rcases hmr with w | w <;> rw [w] <;> exact r32 (by decide) (by decide), fun w => st 1 (Or.inr ⟨rfl, Or.inl (by omega)⟩), fun w => ⟨ha0.1, ha0.2, r32 (by omega) (by omega), r32 (by omega) (by omega), fun w2 => st 0 (Or.inl ⟨rfl, by omega, by omega⟩), fun w2 => st 1 (Or.inr ⟨rfl, Or.inr (by omega)⟩)⟩⟩
  have passes : ∀ (n : Nat) (M1 : Mem) (l3 l4 l5 l6 : Vl), Kp (fun c => c = 153) M M1 → (∀ g, 0 ≤ g → g < 80 → sp τ (-1) S g ≤ M1.1 153 g ∧ M1.1 153 g ≤ 1000000) → (∀ f, 0 ≤ f → f < 80 → inC τ S f → M1.1 153 f ≤ 0) → 80 - cntI (fun f => decide (M1.1 153 f = sp τ (-1) S f)) 80 ≤ n → Run C_RM_spreadOf Q 70 [vR 141, vI S, vI 1, l3, l4, l5, l6] [] M1 := by
    intro n
    have stop : ∀ (M1 M2 : Mem) (l3 l4 l5 l6 : Vl), Kp (fun c => c = 153) M M2 → (∀ g, 0 ≤ g → g < 80 → sp τ (-1) S g ≤ M1.1 153 g ∧ M1.1 153 g ≤ 1000000) → (∀ f, 0 ≤ f → f < 80 → inC τ S f → M1.1 153 f ≤ 0) → (∀ g, 0 ≤ g → g < 80 → M2.1 153 g = M1.1 153 g) → (∀ r o t, 0 ≤ r → r < τ 2 → 0 ≤ o → o < τ 0 → t < 1000000 → Br τ (-1) (M1.1 153) r o t → M2.1 153 (8 * o + τ (79 + 5 * r) % 8) ≤ t) → Run C_RM_spreadOf Q 70 [vR 141, vI S, vI 0, l3, l4, l5, l6] [] M2 := by
      intro M1 M2 l3 l4 l5 l6 k2 s1 i1 e2 b2
      rw [r_RM_spreadOf_70]
      simp only [r_RM_spreadOf_71, true_and, and_true, or_true, true_or, or_false, false_or, false_and, and_false, not_true_eq_false, not_false_eq_true, implies_true, true_implies, false_implies]
      refine ⟨r32 (by decide) (by decide), ?_⟩
      simp only [r_RM_spreadOf_192, true_and, and_true, or_true, true_or, or_false, false_or, false_and, and_false, not_true_eq_false, not_false_eq_true, implies_true, true_implies, false_implies]
      rw [← hQ]
      have hC : Clo τ (-1) S (M1.1 153) := ⟨fun f a b => (s1 f a b).2, i1, fun r o t a b c d e hB => by
        have hv := hV.2.2.2.2.2.2.2.1 r a b
        rw [← e2 _ (by omega) (by omega)]; exact b2 r o t a b c d e hB⟩
      refine ⟨rfl, fun g a b => ?_, k2⟩
      have h1 := (sp_max hV (-1) S a b).2 _ hC
      have h3 := (s1 g a b).1
      rw [e2 g a b]; omega
    induction n with
    | zero =>
      intro M1 l3 l4 l5 l6 k1 s1 i1 hn
      refine pass M1 _ _ _ _ k1 s1 (fun M2 more l3 l4 l5 l6 k2 s2 m2 b2 => ?_)
      rcases m2 with ⟨rfl, e2⟩ | ⟨rfl, g, a, b, c⟩
      · exact stop M1 M2 _ _ _ _ k2 s1 i1 e2 b2
      · exfalso
        have hb := (cntI_bd (fun f => decide (M1.1 153 f = sp τ (-1) S f)) (n := 80) (by decide)).2
        by_cases hall : ∃ f, 0 ≤ f ∧ f < 80 ∧ ¬ M1.1 153 f = sp τ (-1) S f
        · have := cntI_strict (p := fun f => decide (M1.1 153 f = sp τ (-1) S f)) (q := fun _ => true) 80 (by decide) (fun _ _ _ _ => rfl) (by
            obtain ⟨f, x, y, z⟩ := hall
            exact ⟨f, x, y, by rw [decide_eq_false_iff_not]; exact z, rfl⟩)
          have := (cntI_bd (fun _ => true) (n := 80) (by decide)).2
          omega
        · have : M1.1 153 g = sp τ (-1) S g := Classical.byContradiction (fun z => hall ⟨g, a, b, z⟩)
          have := (s2 g a b).1
          omega
    | succ n ih =>
      intro M1 l3 l4 l5 l6 k1 s1 i1 hn
      refine pass M1 _ _ _ _ k1 s1 (fun M2 more l3 l4 l5 l6 k2 s2 m2 b2 => ?_)
      rcases m2 with ⟨rfl, e2⟩ | ⟨rfl, g, a, b, c⟩
      · exact stop M1 M2 _ _ _ _ k2 s1 i1 e2 b2
      · have hx : ∃ f, 0 ≤ f ∧ f < 80 ∧ ¬ M1.1 153 f = sp τ (-1) S f := ⟨g, a, b, fun z => by have := (s2 g a b).1; omega⟩
        have := sp_round hV (w := -1) (S := S) (T := M1.1 153) (T' := M2.1 153) s2 (fun f x y => ⟨(s1 f x y).2, i1 f x y⟩) b2 hx
        refine ih M2 _ _ _ _ k2 (fun g a b => ⟨(s2 g a b).1, by have := (s2 g a b).2; have := (s1 g a b).2; omega⟩) (fun f x y z => ?_) (by omega)
        have := i1 f x y z
        have := (s2 f x y).2
        omega
  refine Cal.mk (y := Y_RM_spreadOf) (loc := [vR 141, vI S, vN, vN, vN, vN, vN]) G_RM_spreadOf rfl (by decide) rfl rfl (Nat.le_of_ble_eq_true rfl) ?_
  simp only [r_RM_spreadOf_0, r_RM_spreadOf_1, true_and, and_true, or_true, true_or, or_false, false_or, false_and, and_false, not_true_eq_false, not_false_eq_true, implies_true, true_implies, false_implies]
  refine up_loop (lo := 0) (hi := 80) (P := fun k => ∀ M1, Kp (fun c => c = 153) M M1 → (∀ i, 0 ≤ i → i < k → M1.1 153 i = 1000000) → Run C_RM_spreadOf Q 2 [vR 141, vI S, vI k, vN, vN, vN, vN] [] M1) (fun k k0 kn ih M1 k1 f1 => ?_) (by decide) M Kp.rf (fun i a b => by omega)
  rw [r_RM_spreadOf_2]
  simp only [r_RM_spreadOf_3, r_RM_spreadOf_5, r_RM_spreadOf_8, r_RM_spreadOf_9, r_RM_spreadOf_12, r_RM_spreadOf_13, r_RM_spreadOf_15, r_RM_spreadOf_16, r_RM_spreadOf_19, true_and, and_true, or_true, true_or, or_false, false_or, false_and, and_false, not_true_eq_false, not_false_eq_true, implies_true, true_implies, false_implies]
  refine ⟨r32 (by omega) (by omega), r32 (by decide) (by decide), fun q => ?_, fun q => ⟨k0, by omega, ih (by omega) _ (Kp.w k1 rfl) (fun i a b => ?_)⟩⟩
  · simp only [r_RM_spreadOf_22, r_RM_spreadOf_23, true_and, and_true, or_true, true_or, or_false, false_or, false_and, and_false, not_true_eq_false, not_false_eq_true, implies_true, true_implies, false_implies]
    rw [show k = 80 by omega] at f1
    refine up_loop (lo := 0) (hi := nC τ) (P := fun c => ∀ M2, Kp (fun c => c = 153) M M2 → (∀ g, 0 ≤ g → g < 80 → (M2.1 153 g = 1000000 ∧ ¬ (inC τ S g ∧ cntI (isC τ) g < c)) ∨ (M2.1 153 g = 0 ∧ inC τ S g)) → Run C_RM_spreadOf Q 24 [vR 141, vI S, vI c, vN, vN, vN, vN] [] M2) (fun c c0 cn ih2 M2 k2 f2 => ?_) hc12.1 M1 k1 (fun g a b => Or.inl ⟨f1 g a b, fun z => by have := (cntI_bd (isC τ) a).1; have := z.2; omega⟩)
    have N2 : NT τ M2 := hN.kp k2 (fun c a b => by omega) (by rw [k2.at (by decide)]) (by rw [k2.at (by decide)])
    rw [r_RM_spreadOf_24]
    simp only [r_RM_spreadOf_25, r_RM_spreadOf_26, r_RM_spreadOf_29, r_RM_spreadOf_32, r_RM_spreadOf_33, r_RM_spreadOf_34, r_RM_spreadOf_37, r_RM_spreadOf_40, r_RM_spreadOf_41, r_RM_spreadOf_44, r_RM_spreadOf_46, r_RM_spreadOf_47, r_RM_spreadOf_50, r_RM_spreadOf_51, r_RM_spreadOf_52, r_RM_spreadOf_53, r_RM_spreadOf_54, r_RM_spreadOf_57, r_RM_spreadOf_58, r_RM_spreadOf_59, r_RM_spreadOf_60, r_RM_spreadOf_61, r_RM_spreadOf_62, r_RM_spreadOf_65, true_and, and_true, or_true, true_or, or_false, false_or, false_and, and_false, not_true_eq_false, not_false_eq_true, implies_true, true_implies, false_implies, N2.1]
    refine ⟨r32 (by omega) (by omega), r32 (by omega) (by omega), fun q2 => ?_, fun q2 => ?_⟩
    · simp only [r_RM_spreadOf_68, r_RM_spreadOf_69, true_and, and_true, or_true, true_or, or_false, false_or, false_and, and_false, not_true_eq_false, not_false_eq_true, implies_true, true_implies, false_implies]
      have hb := (cntI_bd (fun f => decide (M2.1 153 f = sp τ (-1) S f)) (n := 80) (by decide)).1
      refine passes 80 M2 _ _ _ _ k2 (fun g a b => ?_) (fun f a b z => ?_) (by omega)
      · have h3 := hsp g a b
        rcases f2 g a b with z | z
        · rw [z.1]; omega
        · rw [z.1]
          have := (sp_clo hV (-1) S).2.1 g a b z.2
          omega
      · rcases f2 f a b with y | y
        · exfalso
          refine y.2 ⟨z, ?_⟩
          have h3 := cntI_lt a z.1 z.2.1
          have h4 : cntI (isC τ) (8 * τ 0) = nC τ := rfl
          omega
        · rw [y.1]; exact Int.le_refl _
    · obtain ⟨x0, x1, x2, x3⟩ := cf_sp hV c0 (show c < nC τ by omega)
      obtain ⟨y1, y2⟩ := N2.2.2.1 c c0 (by omega)
      refine rhas_if S0 (by omega) c0 (by omega) (fun q3 => ?_) (fun q3 => ih2 (by omega) M2 k2 (fun g a b => ?_))
      · rw [y1, y2, show 8 * (cf τ c / 8) + cf τ c % 8 = cf τ c by omega]
        have hin : inC τ S (cf τ c) := ⟨x1, x2, by rw [x3]; exact q3⟩
        refine ⟨c0, by omega, c0, by omega, by omega, by omega, ih2 (by omega) _ (Kp.w k2 rfl) (fun g a b => ?_)⟩
        rw [wI_at]
        by_cases z : g = cf τ c
        · rw [if_pos ⟨rfl, z⟩, z]; exact Or.inr ⟨rfl, hin⟩
        · rw [if_neg (fun w => z w.2)]
          rcases f2 g a b with y | y
          · refine Or.inl ⟨y.1, fun w => y.2 ⟨w.1, ?_⟩⟩
            by_cases u : cntI (isC τ) g = c
            · exact absurd (cntI_inj a x0 w.1.2.1 x2 (by omega)) z
            · have := w.2; omega
          · exact Or.inr y
      · rcases f2 g a b with y | y
        · refine Or.inl ⟨y.1, fun w => y.2 ⟨w.1, ?_⟩⟩
          by_cases u : cntI (isC τ) g = c
          · exact absurd (u ▸ w.1.2.2) q3
          · have := w.2; omega
        · exact Or.inr y
  · rw [wI_at]
    by_cases z : i = k
    · rw [if_pos ⟨rfl, z⟩]
    · rw [if_neg (fun w => z w.2)]; exact f1 i a (by omega)
