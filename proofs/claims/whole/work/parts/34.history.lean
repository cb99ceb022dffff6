/-! what can be undone; the rolls of CAUSES and SIGNS -/
/-- what can be undone, the latest first, stands in the ring -/
def UX (us : List (Int × Rw)) (M : Mem) : Prop := M.1 9 2 = (us.length : Int) ∧ 0 ≤ M.1 9 3 ∧ M.1 9 3 < 10 ∧ us.length ≤ 10 ∧ ∀ (j : Nat) (u : Int × Rw), us[j]? = some u → M.1 11 ((M.1 9 3 + 9 - j) % 10) = u.1 ∧ XR M (12 + 8 * ((M.1 9 3 + 9 - j) % 10).toNat) u.2
theorem rt10 : ∀ i, i < 10 → cb_rt 10 i = 12 + 8 * i ∧ (12 + 8 * i) ∈ moL := by decide +kernel
theorem UX.kp {P : Nat → Prop} {us : List (Int × Rw)} {M M' : Mem} (h : UX us M) (hk : Kp P M M') (hP : ∀ c, 9 ≤ c → c ≤ 91 → ¬ P c) : UX us M' := by
  obtain ⟨h1, h2, h3, h4, h5⟩ := h
  have e1 := hk.at (hP 9 (by decide) (by decide))
  have e2 := hk.at (hP 11 (by decide) (by decide))
  refine ⟨by rw [e1]; exact h1, by rw [e1]; exact h2, by rw [e1]; exact h3, h4, fun j u hu => ?_⟩
  obtain ⟨a, b⟩ := h5 j u hu
  rw [e1, e2]
  exact ⟨a, b.kp hk (fun c q1 q2 => hP c (by omega) (by omega))⟩
theorem keep_s (M : Mem) {a : Int} {ρ : Rw} {us : List (Int × Rw)} (hX : XR M 1 ρ) (hU : UX us M) : Cal Y_Hi_keep [vR 9, vR 1, vI a] M (fun r M' => r = none ∧ UX ((a, ρ) :: us.take 9) M' ∧ Kp (fun c => 9 ≤ c ∧ c ≤ 91) M M') := by
  obtain ⟨h1, h2, h3, h4, h5⟩ := id hU
  obtain ⟨hrt, hmo⟩ := rt10 (M.1 9 3).toNat (by omega)
  refine Cal.mk (y := Y_Hi_keep) (loc := [vR 9, vR 1, vI a]) G_Hi_keep rfl (by decide) rfl rfl (Nat.le_of_ble_eq_true rfl) ?_
  simp only [r_Hi_keep_0, r_Hi_keep_1, r_Hi_keep_4, r_Hi_keep_5, r_Hi_keep_8, r_Hi_keep_9, true_and, and_true, or_true, true_or, or_false, false_or, false_and, and_false, not_true_eq_false, not_false_eq_true, implies_true, true_implies, false_implies]
  refine ⟨h2, h3, ?_⟩
  rw [hrt, r_Hi_keep_10 (moL_ok _ hmo).1]
  refine (copyFrom_s M hmo (by decide) (by omega)).mono ?_
  rintro v M1 ⟨rfl, hk, hc⟩
  have e9 := hk.at (c := 9) (by omega)
  have e11 := hk.at (c := 11) (by omega)
  simp only [r_Hi_keep_13, r_Hi_keep_14, r_Hi_keep_17, r_Hi_keep_18, r_Hi_keep_21, r_Hi_keep_22, r_Hi_keep_23, r_Hi_keep_24, r_Hi_keep_25, r_Hi_keep_28, r_Hi_keep_29, r_Hi_keep_30, r_Hi_keep_32, r_Hi_keep_33, r_Hi_keep_36, r_Hi_keep_37, r_Hi_keep_38, r_Hi_keep_41, r_Hi_keep_42, r_Hi_keep_43, r_Hi_keep_45, r_Hi_keep_48, r_Hi_keep_51, true_and, and_true, or_true, true_or, or_false, false_or, false_and, and_false, not_true_eq_false, not_false_eq_true, implies_true, true_implies, false_implies]
  have n9 : ∀ (c : Nat) (i z j : Int) (N : Mem), c ≠ 9 → (wI N c i z).1 9 j = N.1 9 j := fun c i z j N h => by rw [wI_c (Ne.symm h)]
  rw [n9 11 _ _ _ _ (by decide), e9]
  have et : (M.1 9 3 + 1).tmod 10 = (M.1 9 3 + 1) % 10 := Int.tmod_eq_emod_of_nonneg (by omega)
  rw [et]
  have es : (wI (wI M1 11 (M.1 9 3) a) 9 3 ((M.1 9 3 + 1) % 10)).1 9 2 = M.1 9 2 := by
    rw [wI_oth (by decide), n9 11 _ _ _ _ (by decide), e9]
  rw [es]
  refine ⟨h2, h3, ⟨r32 (by omega) (by omega), by decide, by decide⟩, r32 (by omega) (by omega), r32 (by decide) (by decide), ?_, ?_⟩
  · have hk2 : Kp (fun c => c = 9 ∨ c = 11) M1 (wI (wI (wI M1 11 (M.1 9 3) a) 9 3 ((M.1 9 3 + 1) % 10)) 9 2 (if 10 < M.1 9 2 + 1 then 10 else M.1 9 2 + 1)) := Kp.w (Kp.w (Kp.w Kp.rf (Or.inr rfl)) (Or.inl rfl)) (Or.inl rfl)
    have q2 : (wI (wI (wI M1 11 (M.1 9 3) a) 9 3 ((M.1 9 3 + 1) % 10)) 9 2 (if 10 < M.1 9 2 + 1 then 10 else M.1 9 2 + 1)).1 9 2 = (if 10 < M.1 9 2 + 1 then 10 else M.1 9 2 + 1) := wI_same _ _ _ _
    have q3 : (wI (wI (wI M1 11 (M.1 9 3) a) 9 3 ((M.1 9 3 + 1) % 10)) 9 2 (if 10 < M.1 9 2 + 1 then 10 else M.1 9 2 + 1)).1 9 3 = (M.1 9 3 + 1) % 10 := by rw [wI_oth (by decide), wI_same]
    have q11 : ∀ i, (wI (wI (wI M1 11 (M.1 9 3) a) 9 3 ((M.1 9 3 + 1) % 10)) 9 2 (if 10 < M.1 9 2 + 1 then 10 else M.1 9 2 + 1)).1 11 i = if i = M.1 9 3 then a else M.1 11 i := by
      intro i
      rw [wI_c (by decide), wI_c (by decide), wI_at, e11]
      simp
    generalize wI (wI (wI M1 11 (M.1 9 3) a) 9 3 ((M.1 9 3 + 1) % 10)) 9 2 (if 10 < M.1 9 2 + 1 then 10 else M.1 9 2 + 1) = M2 at hk2 q2 q3 q11 ⊢
    refine ⟨?_, by rw [q3]; omega, by rw [q3]; omega, by simp; omega, fun j u hu => ?_⟩
    · rw [q2]
      simp only [List.length_cons, List.length_take]
      split <;> omega
    · rw [q3, q11]
      cases j with
      | zero =>
        simp only [List.getElem?_cons_zero, Option.some.injEq] at hu
        subst hu
        have e : ((M.1 9 3 + 1) % 10 + 9 - ((0 : Nat) : Int)) % 10 = M.1 9 3 := by omega
        rw [e, if_pos rfl]
        exact ⟨rfl, (hc ρ hX).kp hk2 (fun c p1 p2 => by omega)⟩
      | succ j =>
        rw [List.getElem?_cons_succ] at hu
        have hj : j < 9 := by
          have := (List.getElem?_eq_some_iff.mp hu).1
          simp at this; omega
        rw [List.getElem?_take_of_lt hj] at hu
        obtain ⟨a1, a2⟩ := h5 j u hu
        have e : ((M.1 9 3 + 1) % 10 + 9 - ((j + 1 : Nat) : Int)) % 10 = (M.1 9 3 + 9 - (j : Int)) % 10 := by omega
        rw [e, if_neg (by omega)]
        refine ⟨a1, (a2.kp hk (fun c p1 p2 => by omega)).kp hk2 (fun c p1 p2 => by omega)⟩
  · exact Kp.w (Kp.w (Kp.w (hk.sub (fun c h => by omega)) (by decide)) (by decide)) (by decide)
theorem takeBack_s (M : Mem) {u : Int × Rw} {us : List (Int × Rw)} (hU : UX (u :: us) M) : Cal Y_Hi_takeBack [vR 9, vR 1] M (fun r M' => r = some (vI u.1) ∧ UX us M' ∧ XR M' 1 u.2 ∧ Kp (fun c => c = 9 ∨ (1 ≤ c ∧ c ≤ 8)) M M') := by
  obtain ⟨h1, h2, h3, h4, h5⟩ := id hU
  obtain ⟨hrt, hmo⟩ := rt10 ((M.1 9 3 + 9) % 10).toNat (by omega)
  refine Cal.mk (y := Y_Hi_takeBack) (loc := [vR 9, vR 1]) G_Hi_takeBack rfl (by decide) rfl rfl (Nat.le_of_ble_eq_true rfl) ?_
  simp only [r_Hi_takeBack_0, r_Hi_takeBack_1, r_Hi_takeBack_2, r_Hi_takeBack_5, r_Hi_takeBack_7, r_Hi_takeBack_8, r_Hi_takeBack_9, r_Hi_takeBack_10, r_Hi_takeBack_12, r_Hi_takeBack_13, r_Hi_takeBack_16, r_Hi_takeBack_17, r_Hi_takeBack_18, r_Hi_takeBack_21, r_Hi_takeBack_22, r_Hi_takeBack_23, r_Hi_takeBack_26, r_Hi_takeBack_27, r_Hi_takeBack_28, r_Hi_takeBack_31, r_Hi_takeBack_32, r_Hi_takeBack_35, true_and, and_true, or_true, true_or, or_false, false_or, false_and, and_false, not_true_eq_false, not_false_eq_true, implies_true, true_implies, false_implies]
  have et : (M.1 9 3 + 10 - 1).tmod 10 = (M.1 9 3 + 9) % 10 := by rw [Int.tmod_eq_emod_of_nonneg (by omega)]; congr 1; omega
  rw [et]
  have q3 : (wI (wI M 9 3 ((M.1 9 3 + 9) % 10)) 9 2 ((wI M 9 3 ((M.1 9 3 + 9) % 10)).1 9 2 - 1)).1 9 3 = (M.1 9 3 + 9) % 10 := by rw [wI_oth (by decide), wI_same]
  have q2 : (wI (wI M 9 3 ((M.1 9 3 + 9) % 10)) 9 2 ((wI M 9 3 ((M.1 9 3 + 9) % 10)).1 9 2 - 1)).1 9 2 = M.1 9 2 - 1 := by rw [wI_same, wI_oth (by decide)]
  have hk1 : Kp (fun c => c = 9) M (wI (wI M 9 3 ((M.1 9 3 + 9) % 10)) 9 2 ((wI M 9 3 ((M.1 9 3 + 9) % 10)).1 9 2 - 1)) := Kp.w (Kp.w Kp.rf rfl) rfl
  rw [q3]
  generalize wI (wI M 9 3 ((M.1 9 3 + 9) % 10)) 9 2 ((wI M 9 3 ((M.1 9 3 + 9) % 10)).1 9 2 - 1) = M1 at hk1 q2 q3 ⊢
  refine ⟨⟨r32 (by omega) (by omega), by decide, by decide⟩, by omega, by omega, ?_⟩
  rw [hrt, r_Hi_takeBack_36]
  refine (copyFrom_s M1 (by decide) hmo (by omega)).mono ?_
  rintro v M2 ⟨rfl, hk, hc⟩
  have e9 := hk.at (c := 9) (by omega)
  have e11 := hk.at (c := 11) (by omega)
  have f11 := hk1.at (c := 11) (by decide)
  simp only [r_Hi_takeBack_39, r_Hi_takeBack_40, r_Hi_takeBack_43, r_Hi_takeBack_44, r_Hi_takeBack_47, r_Hi_takeBack_48, true_and, and_true, or_true, true_or, or_false, false_or, false_and, and_false, not_true_eq_false, not_false_eq_true, implies_true, true_implies, false_implies]
  obtain ⟨a1, a2⟩ := h5 0 u rfl
  have e : (M.1 9 3 + 9 - ((0 : Nat) : Int)) % 10 = (M.1 9 3 + 9) % 10 := by omega
  rw [e] at a1 a2
  rw [e9, q3, e11, f11, a1]
  refine ⟨by omega, by omega, rfl, ⟨?_, ?_, ?_, ?_, fun j w hw => ?_⟩, ?_, ?_⟩
  · rw [e9, q2, h1]; simp
  · rw [e9, q3]; omega
  · rw [e9, q3]; omega
  · simp at h4; omega
  · obtain ⟨b1, b2⟩ := h5 (j + 1) w (by rw [List.getElem?_cons_succ]; exact hw)
    have hj : j < 9 := by
      have := (List.getElem?_eq_some_iff.mp hw).1
      simp at h4; omega
    rw [e9, q3, e11, f11]
    have e : ((M.1 9 3 + 9) % 10 + 9 - (j : Int)) % 10 = (M.1 9 3 + 9 - ((j + 1 : Nat) : Int)) % 10 := by omega
    rw [e]
    exact ⟨b1, (b2.kp hk1 (fun c p1 p2 => by omega)).kp hk (fun c p1 p2 => by omega)⟩
  · exact hc _ (a2.kp hk1 (fun c p1 p2 => by omega))
  · exact (hk1.sub (fun c h => Or.inl h)).trans (hk.sub (fun c h => Or.inr (by omega)))
/-- a roll: the facts below n of which p holds, in their order -/
def RO (M : Mem) (b : Nat) (p : Int → Bool) (wt : Int → Int) (n : Int) : Prop := M.1 b 0 = cntI p n ∧ ∀ f, 0 ≤ f → f < n → p f = true → M.1 (b + 1) (cntI p f) = f / 8 ∧ M.1 (b + 2) (cntI p f) = f % 8 ∧ M.1 (b + 3) (cntI p f) = wt f
theorem cntI_le {p : Int → Bool} {a b : Int} (h0 : 0 ≤ a) (h : a ≤ b) : cntI p a ≤ cntI p b := by
  have : ∀ n : Nat, cntI p a ≤ cntI p (a + n) := by
    intro n
    induction n with
    | zero => simp
    | succ n ih =>
      have e : a + ((n + 1 : Nat) : Int) = (a + n) + 1 := by omega
      rw [e, cntI_s p (by omega)]
      split <;> omega
  have h2 := this (b - a).toNat
  rwa [show a + (((b - a).toNat : Nat) : Int) = b by omega] at h2
theorem cntI_lt {p : Int → Bool} {a b : Int} (h0 : 0 ≤ a) (h : a < b) (hp : p a = true) : cntI p a < cntI p b := by
  have h1 := cntI_le (p := p) (show 0 ≤ a + 1 by omega) (show a + 1 ≤ b by omega)
  rw [cntI_s p h0, hp] at h1
  simp at h1; omega
theorem call_s_97 (M : Mem) (h0 : 0 ≤ M.1 1 0) (h1 : M.1 1 0 ≤ 10) (hk : ∀ o, 0 ≤ o → o < M.1 1 0 → 0 ≤ M.1 2 o ∧ M.1 2 o ≤ 3) (hm : ∀ i, 0 ≤ i → i < 32 → R32 (M.1 5 i)) {p : Int → Bool} {wt : Int → Int} (hwt : ∀ f, wt f = M.1 5 (M.1 2 (f / 8) * 8 + f % 8)) (hp : ∀ f, p f = decide (¬ wt f = 0)) (hn : cntI p (8 * M.1 1 0) ≤ 12) :
    Cal Y_Ro_call [vR 97, vR 1, vR 5] M (fun r M' => r = none ∧ RO M' 97 p wt (8 * M.1 1 0) ∧ Kp (fun c => 97 ≤ c ∧ c ≤ 100) M M') := by
  refine Cal.mk (y := Y_Ro_call) (loc := [vR 97, vR 1, vR 5, vN, vN, vN]) G_Ro_call rfl (by decide) rfl rfl (Nat.le_of_ble_eq_true rfl) ?_
  simp only [r_Ro_call_97_0, r_Ro_call_97_1, r_Ro_call_97_2, r_Ro_call_97_5, r_Ro_call_97_6, true_and, and_true, or_true, true_or, or_false, false_or, false_and, and_false, not_true_eq_false, not_false_eq_true, implies_true, true_implies, false_implies]
  refine up_loop (lo := 0) (hi := M.1 1 0) (P := fun o => ∀ (M1 : Mem) (l4 l5 : Vl), Kp (fun c => 97 ≤ c ∧ c ≤ 100) M M1 → RO M1 97 p wt (8 * o) → Run C_Ro_call _ 7 [vR 97, vR 1, vR 5, vI o, l4, l5] [] M1) (fun o ho hon ih => ?_) h0 _ _ _ (Kp.w Kp.rf (by decide)) ⟨by rw [wI_same]; rfl, fun f a b => by omega⟩
  intro M1 l4 l5 hK hR
  have e1 := hK.at (c := 1) (by decide)
  have e2 := hK.at (c := 2) (by decide)
  rw [r_Ro_call_97_7]
  simp only [r_Ro_call_97_8, r_Ro_call_97_9, r_Ro_call_97_12, r_Ro_call_97_15, r_Ro_call_97_16, r_Ro_call_97_109, e1, true_and, and_true, or_true, true_or, or_false, false_or, false_and, and_false, not_true_eq_false, not_false_eq_true, implies_true, true_implies, false_implies]
  refine ⟨r32 (by omega) (by omega), r32 (by omega) (by omega), fun h => ?_, fun h => ?_⟩
  · rw [show o = M.1 1 0 by omega] at hR
    exact ⟨hR, hK⟩
  · refine up_loop (lo := 0) (hi := 8) (P := fun e => ∀ (M1 : Mem) (l5 : Vl), Kp (fun c => 97 ≤ c ∧ c ≤ 100) M M1 → RO M1 97 p wt (8 * o + e) → Run C_Ro_call _ 18 [vR 97, vR 1, vR 5, vI o, vI e, l5] [] M1) (fun e he hen ih2 => ?_) (by decide) M1 l5 hK (by rw [Int.add_zero]; exact hR)
    intro M2 l5 hK2 hR2
    have e2 := hK2.at (c := 2) (by decide)
    have e5 := hK2.at (c := 5) (by decide)
    rw [r_Ro_call_97_18]
    simp only [r_Ro_call_97_20, r_Ro_call_97_22, r_Ro_call_97_25, r_Ro_call_97_26, r_Ro_call_97_27, r_Ro_call_97_30, r_Ro_call_97_31, r_Ro_call_97_32, r_Ro_call_97_34, r_Ro_call_97_35, r_Ro_call_97_37, r_Ro_call_97_38, r_Ro_call_97_39, r_Ro_call_97_41, r_Ro_call_97_43, r_Ro_call_97_46, r_Ro_call_97_47, r_Ro_call_97_50, r_Ro_call_97_52, r_Ro_call_97_55, r_Ro_call_97_56, r_Ro_call_97_59, r_Ro_call_97_60, r_Ro_call_97_63, r_Ro_call_97_64, r_Ro_call_97_65, r_Ro_call_97_66, r_Ro_call_97_69, r_Ro_call_97_70, r_Ro_call_97_73, r_Ro_call_97_75, r_Ro_call_97_76, r_Ro_call_97_77, r_Ro_call_97_80, r_Ro_call_97_81, r_Ro_call_97_84, r_Ro_call_97_86, r_Ro_call_97_87, r_Ro_call_97_88, r_Ro_call_97_89, r_Ro_call_97_92, r_Ro_call_97_93, r_Ro_call_97_94, r_Ro_call_97_97, r_Ro_call_97_100, r_Ro_call_97_103, r_Ro_call_97_106, e2, e5, true_and, and_true, or_true, true_or, or_false, false_or, false_and, and_false, not_true_eq_false, not_false_eq_true, implies_true, true_implies, false_implies]
    have hko := hk o ho (by omega)
    refine ⟨r32 (by omega) (by omega), r32 (by omega) (by omega), fun h2 => ?_, fun h2 => ?_⟩
    · exact ih (by omega) M2 _ _ hK2 (by rw [show 8 * (o + 1) = 8 * o + e by omega]; exact hR2)
    · have ef : (8 * o + e) / 8 = o := by omega
      have em : (8 * o + e) % 8 = e := by omega
      have hw := hwt (8 * o + e)
      rw [ef, em] at hw
      have hpf := hp (8 * o + e)
      rw [← hw]
      have hs := cntI_s p (show 0 ≤ 8 * o + e by omega)
      refine ⟨ho, by omega, by omega, by omega, by rw [hw]; exact hm _ (by omega) (by omega), fun h3 => ?_, fun h3 => ?_⟩
      · refine ih2 (by omega) M2 _ hK2 ⟨?_, fun f a b c => ?_⟩
        · rw [show 8 * o + (e + 1) = 8 * o + e + 1 by omega, hs, hpf, hR2.1]
          simp [h3]
        · by_cases hf : f = 8 * o + e
          · subst hf
            rw [hpf] at c
            simp [h3] at c
          · exact hR2.2 f a (by omega) c
      · have hpt : p (8 * o + e) = true := by rw [hpf]; simp [h3]
        have hlt := cntI_lt (p := p) (b := 8 * M.1 1 0) (show 0 ≤ 8 * o + e by omega) (by omega) hpt
        have hge := (cntI_bd p (show 0 ≤ 8 * o + e by omega)).1
        have hsz := hR2.1
        rw [hpt, if_pos rfl] at hs
        refine ⟨r32 (by omega) (by omega), r32 (by omega) (by omega), fun h4 => by omega, fun h4 => ?_⟩
        simp (disch := decide) only [wI_c, hsz]
        refine ⟨by omega, by omega, by omega, by omega, by omega, by omega, ?_⟩
        refine ih2 (by omega) _ _ (Kp.w (Kp.w (Kp.w (Kp.w hK2 (by decide)) (by decide)) (by decide)) (by decide)) ⟨?_, fun f a b c => ?_⟩
        · rw [wI_same, show 8 * o + (e + 1) = 8 * o + e + 1 by omega, hs]
        · simp (disch := decide) only [wI_c]
          by_cases hf : f = 8 * o + e
          · subst hf
            rw [wI_same, wI_same, wI_same, ef, em]
            exact ⟨rfl, rfl, rfl⟩
          · have h5 := cntI_lt (p := p) (b := 8 * o + e) a (by omega) c
            rw [wI_oth (by omega), wI_oth (by omega), wI_oth (by omega)]
            exact hR2.2 f a (by omega) c
theorem call_s_101 (M : Mem) (h0 : 0 ≤ M.1 1 0) (h1 : M.1 1 0 ≤ 10) (hk : ∀ o, 0 ≤ o → o < M.1 1 0 → 0 ≤ M.1 2 o ∧ M.1 2 o ≤ 3) (hm : ∀ i, 0 ≤ i → i < 32 → R32 (M.1 6 i)) {p : Int → Bool} {wt : Int → Int} (hwt : ∀ f, wt f = M.1 6 (M.1 2 (f / 8) * 8 + f % 8)) (hp : ∀ f, p f = decide (¬ wt f = 0)) (hn : cntI p (8 * M.1 1 0) ≤ 12) :
    Cal Y_Ro_call [vR 101, vR 1, vR 6] M (fun r M' => r = none ∧ RO M' 101 p wt (8 * M.1 1 0) ∧ Kp (fun c => 101 ≤ c ∧ c ≤ 104) M M') := by
  refine Cal.mk (y := Y_Ro_call) (loc := [vR 101, vR 1, vR 6, vN, vN, vN]) G_Ro_call rfl (by decide) rfl rfl (Nat.le_of_ble_eq_true rfl) ?_
  simp only [r_Ro_call_101_0, r_Ro_call_101_1, r_Ro_call_101_2, r_Ro_call_101_5, r_Ro_call_101_6, true_and, and_true, or_true, true_or, or_false, false_or, false_and, and_false, not_true_eq_false, not_false_eq_true, implies_true, true_implies, false_implies]
  refine up_loop (lo := 0) (hi := M.1 1 0) (P := fun o => ∀ (M1 : Mem) (l4 l5 : Vl), Kp (fun c => 101 ≤ c ∧ c ≤ 104) M M1 → RO M1 101 p wt (8 * o) → Run C_Ro_call _ 7 [vR 101, vR 1, vR 6, vI o, l4, l5] [] M1) (fun o ho hon ih => ?_) h0 _ _ _ (Kp.w Kp.rf (by decide)) ⟨by rw [wI_same]; rfl, fun f a b => by omega⟩
  intro M1 l4 l5 hK hR
  have e1 := hK.at (c := 1) (by decide)
  have e2 := hK.at (c := 2) (by decide)
  rw [r_Ro_call_101_7]
  simp only [r_Ro_call_101_8, r_Ro_call_101_9, r_Ro_call_101_12, r_Ro_call_101_15, r_Ro_call_101_16, r_Ro_call_101_109, e1, true_and, and_true, or_true, true_or, or_false, false_or, false_and, and_false, not_true_eq_false, not_false_eq_true, implies_true, true_implies, false_implies]
  refine ⟨r32 (by omega) (by omega), r32 (by omega) (by omega), fun h => ?_, fun h => ?_⟩
  · rw [show o = M.1 1 0 by omega] at hR
    exact ⟨hR, hK⟩
  · refine up_loop (lo := 0) (hi := 8) (P := fun e => ∀ (M1 : Mem) (l5 : Vl), Kp (fun c => 101 ≤ c ∧ c ≤ 104) M M1 → RO M1 101 p wt (8 * o + e) → Run C_Ro_call _ 18 [vR 101, vR 1, vR 6, vI o, vI e, l5] [] M1) (fun e he hen ih2 => ?_) (by decide) M1 l5 hK (by rw [Int.add_zero]; exact hR)
    intro M2 l5 hK2 hR2
    have e2 := hK2.at (c := 2) (by decide)
    have e5 := hK2.at (c := 6) (by decide)
    rw [r_Ro_call_101_18]
    simp only [r_Ro_call_101_20, r_Ro_call_101_22, r_Ro_call_101_25, r_Ro_call_101_26, r_Ro_call_101_27, r_Ro_call_101_30, r_Ro_call_101_31, r_Ro_call_101_32, r_Ro_call_101_34, r_Ro_call_101_35, r_Ro_call_101_37, r_Ro_call_101_38, r_Ro_call_101_39, r_Ro_call_101_41, r_Ro_call_101_43, r_Ro_call_101_46, r_Ro_call_101_47, r_Ro_call_101_50, r_Ro_call_101_52, r_Ro_call_101_55, r_Ro_call_101_56, r_Ro_call_101_59, r_Ro_call_101_60, r_Ro_call_101_63, r_Ro_call_101_64, r_Ro_call_101_65, r_Ro_call_101_66, r_Ro_call_101_69, r_Ro_call_101_70, r_Ro_call_101_73, r_Ro_call_101_75, r_Ro_call_101_76, r_Ro_call_101_77, r_Ro_call_101_80, r_Ro_call_101_81, r_Ro_call_101_84, r_Ro_call_101_86, r_Ro_call_101_87, r_Ro_call_101_88, r_Ro_call_101_89, r_Ro_call_101_92, r_Ro_call_101_93, r_Ro_call_101_94, r_Ro_call_101_97, r_Ro_call_101_100, r_Ro_call_101_103, r_Ro_call_101_106, e2, e5, true_and, and_true, or_true, true_or, or_false, false_or, false_and, and_false, not_true_eq_false, not_false_eq_true, implies_true, true_implies, false_implies]
    have hko := hk o ho (by omega)
    refine ⟨r32 (by omega) (by omega), r32 (by omega) (by omega), fun h2 => ?_, fun h2 => ?_⟩
    · exact ih (by omega) M2 _ _ hK2 (by rw [show 8 * (o + 1) = 8 * o + e by omega]; exact hR2)
    · have ef : (8 * o + e) / 8 = o := by omega
      have em : (8 * o + e) % 8 = e := by omega
      have hw := hwt (8 * o + e)
      rw [ef, em] at hw
      have hpf := hp (8 * o + e)
      rw [← hw]
      have hs := cntI_s p (show 0 ≤ 8 * o + e by omega)
      refine ⟨ho, by omega, by omega, by omega, by rw [hw]; exact hm _ (by omega) (by omega), fun h3 => ?_, fun h3 => ?_⟩
      · refine ih2 (by omega) M2 _ hK2 ⟨?_, fun f a b c => ?_⟩
        · rw [show 8 * o + (e + 1) = 8 * o + e + 1 by omega, hs, hpf, hR2.1]
          simp [h3]
        · by_cases hf : f = 8 * o + e
          · subst hf
            rw [hpf] at c
            simp [h3] at c
          · exact hR2.2 f a (by omega) c
      · have hpt : p (8 * o + e) = true := by rw [hpf]; simp [h3]
        have hlt := cntI_lt (p := p) (b := 8 * M.1 1 0) (show 0 ≤ 8 * o + e by omega) (by omega) hpt
        have hge := (cntI_bd p (show 0 ≤ 8 * o + e by omega)).1
        have hsz := hR2.1
        rw [hpt, if_pos rfl] at hs
        refine ⟨r32 (by omega) (by omega), r32 (by omega) (by omega), fun h4 => by omega, fun h4 => ?_⟩
        simp (disch := decide) only [wI_c, hsz]
        refine ⟨by omega, by omega, by omega, by omega, by omega, by omega, ?_⟩
        refine ih2 (by omega) _ _ (Kp.w (Kp.w (Kp.w (Kp.w hK2 (by decide)) (by decide)) (by decide)) (by decide)) ⟨?_, fun f a b c => ?_⟩
        · rw [wI_same, show 8 * o + (e + 1) = 8 * o + e + 1 by omega, hs]
        · simp (disch := decide) only [wI_c]
          by_cases hf : f = 8 * o + e
          · subst hf
            rw [wI_same, wI_same, wI_same, ef, em]
            exact ⟨rfl, rfl, rfl⟩
          · have h5 := cntI_lt (p := p) (b := 8 * o + e) a (by omega) c
            rw [wI_oth (by omega), wI_oth (by omega), wI_oth (by omega)]
            exact hR2.2 f a (by omega) c
