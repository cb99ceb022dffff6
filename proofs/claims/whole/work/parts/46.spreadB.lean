/-! the class's Spreader: how one rule is applied -/
def HO (M : Mem) : Prop := (∀ g, 0 ≤ g → g < 80 → 0 ≤ M.1 106 g ∧ M.1 106 g ≤ 1000000) ∧ (∀ e, 0 ≤ e → e < 8 → (0 ≤ M.1 107 e ∧ M.1 107 e < 1024) ∧ ∀ o, 0 ≤ o → o < 10 → (bit (M.1 107 e) o = true ↔ M.1 106 (8 * o + e) < 1000000)) ∧ (0 ≤ M.1 105 7 ∧ M.1 105 7 < 256) ∧ True
/-- what stays so while facts of event f are brought; L are times below which none falls -/
def JB (L : Int → Int) (M0 : Mem) (f : Int) (M : Mem) : Prop := (∀ g, 0 ≤ g → g < 80 → L g ≤ M.1 106 g ∧ M.1 106 g ≤ M0.1 106 g) ∧ (∀ g, 0 ≤ g → g < 80 → ¬ g % 8 = f → M.1 106 g = M0.1 106 g) ∧ HO M ∧ (∀ e, 0 ≤ e → e < 8 → (bit (M0.1 105 7) e = true → bit (M.1 105 7) e = true) ∧ (bit (M.1 105 7) e = false → ∀ o, 0 ≤ o → o < 10 → M.1 106 (8 * o + e) = M0.1 106 (8 * o + e))) ∧ Kp (fun c => 105 ≤ c ∧ c ≤ 107) M0 M
/-- D: what was brought -/
def J (L : Int → Int) (M0 : Mem) (f : Int) (D : Int → Int → Prop) (M : Mem) : Prop := JB L M0 f M ∧ (∀ p at', D p at' → M.1 106 (8 * p + f) ≤ at') ∧ ((∀ g, 0 ≤ g → g < 80 → M0.1 106 g = L g) → (M0.1 105 8 = 0 → M.1 105 8 = 0 ∨ M.1 105 8 = 1) ∧ (¬ M.1 105 8 = 0 ↔ ¬ M0.1 105 8 = 0 ∨ ∃ p at', D p at' ∧ at' = L (8 * p + f)))
theorem J.iff {L : Int → Int} {M0 M : Mem} {f : Int} {D D' : Int → Int → Prop} (h : J L M0 f D M) (hD : ∀ p a, D p a ↔ D' p a) : J L M0 f D' M := by
  have : D = D' := funext fun p => funext fun a => propext (hD p a)
  rw [← this]; exact h
theorem JB.rf {L : Int → Int} {M : Mem} (f : Int) (h : HO M) (hL : ∀ g, 0 ≤ g → g < 80 → L g ≤ M.1 106 g) : JB L M f M := ⟨fun g a b => ⟨hL g a b, Int.le_refl _⟩, fun _ _ _ _ => rfl, h, fun _ _ _ => ⟨id, fun _ _ _ _ => rfl⟩, Kp.rf⟩
theorem J.rf {L : Int → Int} {M : Mem} (f : Int) {D : Int → Int → Prop} (h : HO M) (hL : ∀ g, 0 ≤ g → g < 80 → L g ≤ M.1 106 g) (hD : ∀ p a, ¬ D p a) : J L M f D M := ⟨JB.rf f h hL, fun p a z => absurd z (hD p a), fun _ => ⟨Or.inl, Or.inl, fun z => z.resolve_right (fun ⟨p, a, y, _⟩ => hD p a y)⟩⟩
theorem p2_8 {n : Int} (h : n < 8) : p2 n < 256 := by
  have := p2_mono (show n ≤ 7 by omega)
  have e : p2 7 = 128 := by decide
  omega
theorem bring_s {L : Int → Int} {M0 M : Mem} {f : Int} {D : Int → Int → Prop} (h : J L M0 f D M) {p at' at0 : Int} (hp : 0 ≤ p) (hp2 : p < 10) (hf : 0 ≤ f) (hf2 : f < 8) (ha : 0 ≤ at') (ha2 : at' ≤ 2000000) (hle : at' ≤ at0) (heq : (∀ g, 0 ≤ g → g < 80 → M0.1 106 g = L g) → at' = at0) (hL : at' < 1000000 → L (8 * p + f) ≤ at') :
    Cal Y_Sp_bring [vR 105, vI p, vI f, vI at'] M (fun r M' => r = none ∧ J L M0 f (fun q a => D q a ∨ (q = p ∧ a = at0)) M') := by
  obtain ⟨⟨j1, j2, ⟨o1, o2, o3, o4⟩, j4, j7⟩, j5, j6⟩ := h
  have hT := o1 (8 * p + f) (by omega) (by omega)
  have hq := j1 (8 * p + f) (by omega) (by omega)
  refine Cal.mk (y := Y_Sp_bring) (loc := [vR 105, vI p, vI f, vI at', vN]) G_Sp_bring rfl (by decide) rfl rfl (Nat.le_of_ble_eq_true rfl) ?_
  simp only [r_Sp_bring_0, r_Sp_bring_1, r_Sp_bring_3, r_Sp_bring_4, r_Sp_bring_5, r_Sp_bring_6, r_Sp_bring_8, r_Sp_bring_9, r_Sp_bring_10, r_Sp_bring_13, r_Sp_bring_15, r_Sp_bring_16, r_Sp_bring_19, r_Sp_bring_20, r_Sp_bring_23, r_Sp_bring_25, r_Sp_bring_26, r_Sp_bring_27, r_Sp_bring_28, r_Sp_bring_31, r_Sp_bring_32, r_Sp_bring_33, r_Sp_bring_34, r_Sp_bring_35, r_Sp_bring_36, r_Sp_bring_37, r_Sp_bring_38, r_Sp_bring_39, r_Sp_bring_40, r_Sp_bring_41, r_Sp_bring_44, r_Sp_bring_45, r_Sp_bring_46, r_Sp_bring_47, r_Sp_bring_48, r_Sp_bring_51, r_Sp_bring_54, r_Sp_bring_55, r_Sp_bring_56, r_Sp_bring_59, r_Sp_bring_61, r_Sp_bring_62, r_Sp_bring_65, r_Sp_bring_66, r_Sp_bring_67, r_Sp_bring_70, true_and, and_true, or_true, true_or, or_false, false_or, false_and, and_false, not_true_eq_false, not_false_eq_true, implies_true, true_implies, false_implies, p2_def, show p * 8 + f = 8 * p + f by omega]
  have hR : R32 (M.1 106 (8 * p + f)) := r32 (by omega) (by omega)
  have hRa : R32 at' := r32 (by omega) (by omega)
  refine ⟨by omega, by omega, hRa, hR, fun z => ⟨by omega, by omega, hRa, hR, fun z2 => ?_, fun z2 => ?_⟩, fun z => ?_⟩
  · refine ⟨⟨j1, j2, ⟨o1, o2, o3, o4⟩, j4, j7⟩, fun q a y => ?_, fun y => ?_⟩
    · rcases y with y | ⟨rfl, rfl⟩
      · exact j5 q a y
      · omega
    · refine ⟨(j6 y).1, ?_⟩
      rw [(j6 y).2]
      refine or_congr Iff.rfl ⟨fun ⟨q, a, y1, y2⟩ => ⟨q, a, Or.inl y1, y2⟩, ?_⟩
      rintro ⟨q, a, y1 | ⟨rfl, rfl⟩, y2⟩
      · exact ⟨q, a, y1, y2⟩
      · have := heq y
        have := y (8 * q + f) (by omega) (by omega)
        omega
  · have hk : Kp (fun c => c = 105) M (wI M 105 8 1) := Kp.w Kp.rf rfl
    have e6 := hk.at (c := 106) (by decide)
    have e7 := hk.at (c := 107) (by decide)
    have ec : (wI M 105 8 1).1 105 7 = M.1 105 7 := wI_oth (by decide)
    refine ⟨⟨?_, ?_, ⟨?_, ?_, ?_, ?_⟩, ?_, j7.trans (hk.sub (fun c y => by omega))⟩, fun q a y => ?_, fun y => ?_⟩
    · simp only [e6]; exact j1
    · simp only [e6]; exact j2
    · simp only [e6]; exact o1
    · simp only [e6, e7]; exact o2
    · rw [ec]; exact o3
    · trivial
    · simp only [e6, ec]; exact j4
    · rw [e6]
      rcases y with y | ⟨rfl, rfl⟩
      · exact j5 q a y
      · omega
    · rw [wI_same]
      refine ⟨fun _ => Or.inr rfl, fun _ => Or.inr ⟨p, at0, Or.inr ⟨rfl, rfl⟩, ?_⟩, fun _ => by decide⟩
      have := heq y
      have := y (8 * p + f) (by omega) (by omega)
      omega
  · have hh := o2 f hf hf2
    have hor := fun x (hx : 0 ≤ x) => or_p2 (x := x) hh.1.1 hh.1.2 hp hp2 hx
    refine ⟨by omega, by omega, hf, hf2, ⟨by omega, by omega⟩, hf, hf2, ⟨by omega, by omega⟩, ?_⟩
    simp (disch := decide) only [wI_c]
    generalize hM' : wI (wI (wI M 106 (8 * p + f) at') 107 f (ior (M.1 107 f) (p2 p))) 105 7 (ior (M.1 105 7) (p2 f)) = M'
    have e6 : ∀ g, M'.1 106 g = if g = 8 * p + f then at' else M.1 106 g := fun g => by
      rw [← hM', wI_c (by decide), wI_c (by decide), wI_at]
      by_cases y : g = 8 * p + f
      · rw [if_pos ⟨rfl, y⟩, if_pos y]
      · rw [if_neg (fun x => y x.2), if_neg y]
    have e7 : ∀ e, M'.1 107 e = if e = f then ior (M.1 107 f) (p2 p) else M.1 107 e := fun e => by
      rw [← hM', wI_c (by decide), wI_at]
      by_cases y : e = f
      · rw [if_pos ⟨rfl, y⟩, if_pos y]
      · rw [if_neg (fun x => y x.2), if_neg y, wI_c (by decide)]
    have e57 : M'.1 105 7 = ior (M.1 105 7) (p2 f) := by rw [← hM', wI_same]
    have e58 : M'.1 105 8 = M.1 105 8 := by rw [← hM', wI_oth (by decide), wI_c (by decide), wI_c (by decide)]
    have hk : Kp (fun c => 105 ≤ c ∧ c ≤ 107) M M' := by rw [← hM']; exact Kp.w (Kp.w (Kp.w Kp.rf (by decide)) (by decide)) (by decide)
    have hpf := p2_8 hf2
    have hpf0 := p2_pos f
    have hC := ior_bd (n := 8) (by decide) o3.1 o3.2 (by omega : 0 ≤ p2 f) hpf
    have hCb : ∀ e, 0 ≤ e → bit (M'.1 105 7) e = (bit (M.1 105 7) e || decide (e = f)) := fun e he => by rw [e57, bit_ior o3.1 (by omega) (by omega) (by omega), bit_p2 hf he]
    have hlt : at' < 1000000 := by omega
    have hL := hL hlt
    refine ⟨⟨fun g a b => ?_, fun g a b c => ?_, ⟨fun g a b => ?_, fun e a b => ?_, ?_, ?_⟩, fun e a b => ⟨fun y => ?_, fun y o o0 o1' => ?_⟩, j7.trans hk⟩, fun q a y => ?_, fun y => ?_⟩
    · rw [e6]
      split
      · rename_i y; subst y; exact ⟨hL, by omega⟩
      · exact j1 g a b
    · rw [e6, if_neg (by omega)]; exact j2 g a b c
    · rw [e6]
      split
      · omega
      · exact o1 g a b
    · rw [e7]
      by_cases y : e = f
      · subst y
        rw [if_pos rfl]
        refine ⟨(hor 0 (by decide)).1, fun o x0 x1 => ?_⟩
        rw [(hor o x0).2, e6]
        by_cases y2 : o = p
        · subst y2; rw [if_pos rfl]; exact ⟨fun _ => hlt, fun _ => Or.inr rfl⟩
        · rw [if_neg (by omega), ← hh.2 o x0 x1]
          exact ⟨fun x => x.resolve_right y2, Or.inl⟩
      · rw [if_neg y]
        refine ⟨(o2 e a b).1, fun o x0 x1 => ?_⟩
        rw [e6, if_neg (by omega)]
        exact (o2 e a b).2 o x0 x1
    · rw [e57]; exact hC
    · trivial
    · rw [hCb e a, (j4 e a b).1 y]; rfl
    · rw [hCb e a] at y
      have y1 : bit (M.1 105 7) e = false := by
        cases q : bit (M.1 105 7) e with
        | true => rw [q] at y; exact Bool.noConfusion y
        | false => rfl
      have y2 : ¬ e = f := by
        intro q; rw [y1, q] at y; simp at y
      rw [e6, if_neg (by omega)]
      exact (j4 e a b).2 y1 o o0 o1'
    · rw [e6]
      split
      · rcases y with y | ⟨rfl, rfl⟩
        · rename_i y3
          have := j5 q a y
          rw [y3] at this; omega
        · exact hle
      · rename_i y3
        rcases y with y | ⟨rfl, rfl⟩
        · exact j5 q a y
        · exact absurd rfl y3
    · exfalso
      have := y (8 * p + f) (by omega) (by omega)
      omega
