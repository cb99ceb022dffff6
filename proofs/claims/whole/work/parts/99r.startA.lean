/-! THE LAW, from its entry -/
theorem cb_Ws.of {s : State} {b : Nat} (h : ∀ w ∈ lw_tbl, w.before #[Value.ref b] s = true) : cb_Ws s := by
  intro w hw a
  obtain ⟨h1, hk⟩ := List.mem_filter.mp hw
  have h2 := h w h1
  by_cases hg : goodWord w = true
  · exact word_at (State.WarmedH.refl s) (good_of_word hg) h2
  · have hg : goodWord w = false := by simpa using hg
    simp only [cb_ok, hg, Bool.false_or] at hk
    cases w <;> simp at hk
    · exact va_Nw.use rfl (va_Nw.of rfl h2)
    · exact va_Nw.use rfl (va_Nw.of rfl h2)
/-- what the tables say of the classes -/
theorem kb_K {s : State} (hWs : cb_Ws s) (hAO : va_AO "CauseBook$Model" s) : ∃ (D : va_G) (T : ClassId × ClassId × ClassId × ClassId), ∀ al : Nat → Nat, cb_K (D, T, al) s := by
  have hts : ∀ w ∈ cb_TB, w.before #[] s = true := fun w hw => hWs w hw #[]
  have hk : ∀ k : Nat, ∃ z : ClassId × (Nat → Nat), ∀ q : vw_C, cb_cl[k]? = some q → u_Kn s q.1 q.2.1 q.2.2 z.1 z.2 := by
    intro k
    match k with
    | 0 => obtain ⟨cC, iS, h⟩ := u_known (n := 6) hts cb_c0.2.1 (hts _ cw_293); exact ⟨(cC, iS), fun q hq => by cases hq; exact h⟩
    | 1 => obtain ⟨cC, iS, h⟩ := u_known (n := 5) hts cb_c1.2.1 (hts _ cw_344); exact ⟨(cC, iS), fun q hq => by cases hq; exact h⟩
    | 2 => obtain ⟨cC, iS, h⟩ := u_known (n := 15) hts cb_c2.2.1 (hts _ cw_203); exact ⟨(cC, iS), fun q hq => by cases hq; exact h⟩
    | 3 => obtain ⟨cC, iS, h⟩ := u_known (n := 4) hts cb_c3.2.1 (hts _ cw_272); exact ⟨(cC, iS), fun q hq => by cases hq; exact h⟩
    | 4 => obtain ⟨cC, iS, h⟩ := u_known (n := 4) hts cb_c4.2.1 (hts _ cw_96); exact ⟨(cC, iS), fun q hq => by cases hq; exact h⟩
    | 5 => obtain ⟨cC, iS, h⟩ := u_known (n := 13) hts cb_c5.2.1 (hts _ cw_26); exact ⟨(cC, iS), fun q hq => by cases hq; exact h⟩
    | 6 => obtain ⟨cC, iS, h⟩ := u_known (n := 5) hts cb_c6.2.1 (hts _ cw_322); exact ⟨(cC, iS), fun q hq => by cases hq; exact h⟩
    | 7 => obtain ⟨cC, iS, h⟩ := u_known (n := 2) hts cb_c7.2.1 (hts _ cw_119); exact ⟨(cC, iS), fun q hq => by cases hq; exact h⟩
    | 8 => obtain ⟨cC, iS, h⟩ := u_known (n := 4) hts cb_c8.2.1 (hts _ cw_135); exact ⟨(cC, iS), fun q hq => by cases hq; exact h⟩
    | 9 => obtain ⟨cC, iS, h⟩ := u_known (n := 9) hts cb_c9.2.1 (hts _ cw_169); exact ⟨(cC, iS), fun q hq => by cases hq; exact h⟩
    | 10 => obtain ⟨cC, iS, h⟩ := u_known (n := 14) hts cb_c10.2.1 (hts _ cw_18); exact ⟨(cC, iS), fun q hq => by cases hq; exact h⟩
    | 11 => obtain ⟨cC, iS, h⟩ := u_known (n := 25) hts cb_c11.2.1 (hts _ cw_1051); exact ⟨(cC, iS), fun q hq => by cases hq; exact h⟩
    | k + 12 => exact ⟨(0, fun _ => 0), fun q hq => by simp [cb_cl] at hq⟩
  obtain ⟨cI, kI, mI, i1, i2, i3⟩ := Cond.arrayClass_spec (hts _ cw_94)
  obtain ⟨cZ, kZ, mZ, z1, z2, z3⟩ := Cond.arrayClass_spec (hts _ cw_133)
  obtain ⟨cJ, kJ, mJ, j1, j2, j3⟩ := Cond.arrayClass_spec (hts _ cw_320)
  obtain ⟨comp, cM, kM, m1, m2, m3, m4, m5⟩ := Cond.arrayOver_spec hAO
  refine ⟨(fun k => (Classical.choose (hk k)).1, fun k => (Classical.choose (hk k)).2), (cI, cZ, cJ, cM), fun al => ⟨fun k q hq => Classical.choose_spec (hk k) q hq, fun k q hq => ?_⟩⟩
  match k, hq with
  | 0, hq => cases hq; exact ⟨fun n z => ⟨fun k h => (by cases h), kI, i2, mI, i3⟩, i1⟩
  | 1, hq => cases hq; exact ⟨fun n z => ⟨fun k h => (by cases h), kZ, z2, mZ, z3⟩, z1⟩
  | 2, hq => cases hq; exact ⟨fun n z => ⟨fun k h => (by cases h), kJ, j2, mJ, j3⟩, j1⟩
  | 3, hq => cases hq; exact ⟨fun n z => ⟨fun k h => (by cases h), kM, m3, comp, m4⟩, kM, comp, m3, m4, m1, m5⟩
  | k + 4, hq => simp [cb_ty] at hq
/-- the two tables -/
theorem kb_St {s : State} {b : Nat} (hts : ∀ w ∈ lw_tbl, w.before #[Value.ref b] s = true) (hgv : (Jvm.Cond.and given_1 narrow_1).before #[Value.ref b] s = true) : ∃ tM tT : Nat, (va_Z "CauseBook" "MOST_OF_TERMS" "[I" (.ref tM) (fun q => s.heap.size ≤ q) s s.heap ∧ va_T .int tM 4 (fun j => .int (Int32.ofInt (cb_mt j))) (fun q => s.heap.size ≤ q) s s.heap) ∧ va_Z "CauseBook" "TERMS_AT_FIRST" "[I" (.ref tT) (fun q => s.heap.size ≤ q) s s.heap ∧ va_T .int tT 4 (fun j => .int (Int32.ofInt (tz j))) (fun q => s.heap.size ≤ q) s s.heap := by
  have hs := flat_of_before _ hgv
  have hA : ∀ a : Nat, a < s.heap.size → ¬ (fun q : Nat => s.heap.size ≤ q) a := fun a h => Nat.not_le.mpr h
  have hini : (Cond.initialized "CauseBook").before #[Value.ref b] s = true := (cb_Ws.of hts) _ cw_1 _
  obtain ⟨tM, m1, m2⟩ := va_Tof (tm := .static "CauseBook" "MOST_OF_TERMS" "[I") (ty := .int) (N := 4) (f := fun j => .int (Int32.ofInt (cb_mt j))) (A := fun q => s.heap.size ≤ q) (by decide) (hs (Cond.arrayOf (.static "CauseBook" "MOST_OF_TERMS" "[I") .int) (by decide +kernel)) (va_eqt (hs (Cond.eq (.length (.static "CauseBook" "MOST_OF_TERMS" "[I")) (.int 4)) (by decide +kernel)))
      (fun j hj => by
        rcases (show j = 0 ∨ j = 1 ∨ j = 2 ∨ j = 3 by omega) with e | e | e | e
        · rw [e]; exact va_eqt (hs (Cond.eq (.elem (.static "CauseBook" "MOST_OF_TERMS" "[I") (.int 0)) (.int 16)) (by decide +kernel))
        · rw [e]; exact va_eqt (hs (Cond.eq (.elem (.static "CauseBook" "MOST_OF_TERMS" "[I") (.int 1)) (.int 16)) (by decide +kernel))
        · rw [e]; exact va_eqt (hs (Cond.eq (.elem (.static "CauseBook" "MOST_OF_TERMS" "[I") (.int 2)) (.int 9)) (by decide +kernel))
        · rw [e]; exact va_eqt (hs (Cond.eq (.elem (.static "CauseBook" "MOST_OF_TERMS" "[I") (.int 3)) (.int 5)) (by decide +kernel))) hA
  obtain ⟨tT, t1, t2⟩ := va_Tof (tm := .static "CauseBook" "TERMS_AT_FIRST" "[I") (ty := .int) (N := 4) (f := fun j => .int (Int32.ofInt (tz j))) (A := fun q => s.heap.size ≤ q) (by decide) (hs (Cond.arrayOf (.static "CauseBook" "TERMS_AT_FIRST" "[I") .int) (by decide +kernel)) (va_eqt (hs (Cond.eq (.length (.static "CauseBook" "TERMS_AT_FIRST" "[I")) (.int 4)) (by decide +kernel)))
      (fun j hj => by
        rcases (show j = 0 ∨ j = 1 ∨ j = 2 ∨ j = 3 by omega) with e | e | e | e
        · rw [e]; exact va_eqt (hs (Cond.eq (.elem (.static "CauseBook" "TERMS_AT_FIRST" "[I") (.int 0)) (.int 2)) (by decide +kernel))
        · rw [e]; exact va_eqt (hs (Cond.eq (.elem (.static "CauseBook" "TERMS_AT_FIRST" "[I") (.int 1)) (.int 1)) (by decide +kernel))
        · rw [e]; exact va_eqt (hs (Cond.eq (.elem (.static "CauseBook" "TERMS_AT_FIRST" "[I") (.int 2)) (.int 1)) (by decide +kernel))
        · rw [e]; exact va_eqt (hs (Cond.eq (.elem (.static "CauseBook" "TERMS_AT_FIRST" "[I") (.int 3)) (.int 1)) (by decide +kernel))) hA
  have l1 : (Cond.laysStatic "CauseBook" "MOST_OF_TERMS" "[I").before #[Value.ref b] s = true := hts _ (List.mem_append_right _ (List.mem_append_right _ (List.mem_append_left _ (List.mem_of_getElem? (i := 181) rfl))))
  have l2 : (Cond.laysStatic "CauseBook" "TERMS_AT_FIRST" "[I").before #[Value.ref b] s = true := hts _ (List.mem_append_right _ (List.mem_append_right _ (List.mem_append_left _ (List.mem_of_getElem? (i := 126) rfl))))
  exact ⟨tM, tT, ⟨va_Zof l1 hini m1 hA, m2⟩, va_Zof l2 hini t1 hA, t2⟩
