/-! what each act leaves is a state again -/
theorem VS_rfs {σ : St} (hV : VS σ) (w : Int) : VS (rfs σ w) := ⟨hV.1, hV.2.1, hV.2.2.1, hV.2.2.2⟩
theorem VR_bk {ρ : Rw} (hV : VR ρ) {v : Int} (h : 0 ≤ v ∧ v < p2 (nS ρ)) : VR (rs ρ 4 v) := by
  have h12 := hV.2.2.2.2.2.2.2.2.2.2.2.2
  refine VR_log hV (fun i a b => rs_oth (by omega)) ?_ (by rw [rs_same]; exact h) ?_ (fun k a b => ?_)
  · rw [rs_oth (by decide)]; exact hV.2.2.2.1
  · rw [rs_oth (by decide)]; exact h12.2
  · rw [rs_oth (by decide)] at b
    rw [rs_oth (by omega), rs_oth (by omega)]; exact hV.2.2.2.2.2.2.2.2.2.1 k a b
theorem VR_se {ρ : Rw} (hV : VR ρ) {v : Int} (h : 0 ≤ v ∧ v < p2 (nS ρ)) : VR (rs ρ 5 v) := by
  have h12 := hV.2.2.2.2.2.2.2.2.2.2.2.2
  refine VR_log hV (fun i a b => rs_oth (by omega)) ?_ ?_ (by rw [rs_same]; exact h) (fun k a b => ?_)
  · rw [rs_oth (by decide)]; exact hV.2.2.2.1
  · rw [rs_oth (by decide)]; exact h12.1
  · rw [rs_oth (by decide)] at b
    rw [rs_oth (by omega), rs_oth (by omega)]; exact hV.2.2.2.2.2.2.2.2.2.1 k a b
theorem VR_clr {ρ : Rw} (hV : VR ρ) : VR (rs ρ 3 0) := by
  have h12 := hV.2.2.2.2.2.2.2.2.2.2.2.2
  refine VR_log hV (fun i a b => rs_oth (by omega)) (by rw [rs_same]; decide) ?_ ?_ (fun k a b => ?_)
  · rw [rs_oth (by decide)]; exact h12.1
  · rw [rs_oth (by decide)]; exact h12.2
  · rw [rs_same] at b; omega
theorem VR_addE {ρ : Rw} (hV : VR ρ) {s t : Int} (h3 : ρ 3 < 20) (hs : 0 ≤ s ∧ s < nS ρ) (ht : 0 ≤ t ∧ t ≤ 999) : VR (addE ρ s t) := by
  have h12 := hV.2.2.2.2.2.2.2.2.2.2.2.2
  have h30 := hV.2.2.2.1
  have e : ∀ i, addE ρ s t i = if i = 3 then ρ 3 + 1 else if i = 201 + 2 * ρ 3 then t else if i = 200 + 2 * ρ 3 then s else ρ i := fun i => rfl
  refine VR_log hV (fun i a b => ?_) ?_ ?_ ?_ (fun k a b => ?_)
  · rw [e, if_neg (by omega), if_neg (by omega), if_neg (by omega)]
  · rw [e, if_pos rfl]; omega
  · rw [e, if_neg (by omega), if_neg (by omega), if_neg (by omega)]; exact h12.1
  · rw [e, if_neg (by omega), if_neg (by omega), if_neg (by omega)]; exact h12.2
  · rw [e 3, if_pos rfl] at b
    by_cases z : k = ρ 3
    · rw [e (200 + 2 * k), if_neg (by omega), if_neg (by omega), if_pos (by omega), e (201 + 2 * k), if_neg (by omega), if_pos (by omega)]
      omega
    · rw [e (200 + 2 * k), if_neg (by omega), if_neg (by omega), if_neg (by omega), e (201 + 2 * k), if_neg (by omega), if_neg (by omega), if_neg (by omega)]
      exact hV.2.2.2.2.2.2.2.2.2.1 k a (by omega)
theorem VS_terms {σ : St} (hV : VS σ) (what value : Int) : VS (s_terms σ what value).2 := by
  unfold s_terms
  split
  · exact VS_rfs hV _
  · rename_i q
    refine ⟨hV.1, hV.2.1, hV.2.2.1, fun i a b => ?_⟩
    show 0 ≤ rs σ.2.2.2.1 what value i ∧ rs σ.2.2.2.1 what value i ≤ cb_mt i.toNat
    by_cases z : i = what
    · rw [z, rs_same]; omega
    · rw [rs_oth z]; exact hV.2.2.2 i a b
theorem VS_link {σ : St} (hV : VS σ) (r a b : Int) : VS (s_link σ r a b).2 := by
  unfold s_link
  split
  · exact VS_rfs hV _
  split
  · exact VS_rfs hV _
  split
  · exact VS_rfs hV _
  split
  · exact VS_rfs hV _
  · rename_i q1 q2 q3 q4
    exact VS_act hV 1 (VR_addL hV.1 (by omega) (by omega) (by omega) (by omega) (fun z => q3 (Or.inr z)))
theorem VS_cut {σ : St} (hV : VS σ) (l : Int) : VS (s_cut σ l).2 := by
  unfold s_cut
  split
  · exact VS_rfs hV _
  · exact VS_act hV 2 (VR_cutL hV.1 (by omega) (by omega))
theorem VS_drop {σ : St} (hV : VS σ) (l : Int) : VS (s_drop σ l).2 := by
  unfold s_drop
  split
  · exact VS_rfs hV _
  · exact VS_act hV 4 (VR_cutR hV.1 (by omega) (by omega))
theorem VS_rule {σ : St} (hV : VS σ) (s a r b d : Int) : VS (s_rule σ s a r b d).2 := by
  unfold s_rule
  split
  · exact VS_rfs hV _
  split
  · exact VS_rfs hV _
  · exact VS_act hV 3 (VR_addR hV.1 (by omega) (by omega) (by omega) (by omega) (by omega) (by omega))
theorem VS_book {σ : St} (hV : VS σ) (v : Int) : VS (s_book σ v).2 := by
  unfold s_book
  split
  · exact VS_rfs hV _
  · exact VS_act hV 8 (VR_bk hV.1 (by omega))
theorem VS_see {σ : St} (hV : VS σ) (v : Int) : VS (s_see σ v).2 := by
  unfold s_see
  split
  · exact VS_rfs hV _
  · exact VS_act hV 9 (VR_se hV.1 (by omega))
theorem VS_note {σ : St} (hV : VS σ) (s t : Int) : VS (s_note σ s t).2 := by
  unfold s_note
  split
  · exact VS_rfs hV _
  split
  · exact VS_rfs hV _
  split
  · exact VS_rfs hV _
  · exact VS_act hV 10 (VR_addE hV.1 (by omega) (by omega) (by omega))
theorem VS_clear {σ : St} (hV : VS σ) : VS (s_clear σ).2 := by
  refine ⟨VR_clr hV.1, fun u hu => ?_, hV.2.2.1, hV.2.2.2⟩
  rcases List.mem_cons.1 hu with z | z
  · rw [z]; exact hV.1
  · exact hV.2.1 u (List.mem_of_mem_take z)
theorem VS_window {σ : St} (hV : VS σ) (t w : Int) : VS (s_window σ t w).2 := by
  unfold s_window
  split
  · exact VS_rfs hV _
  · have h := win_b hV.1 t (t + w)
    exact VS_act hV 12 (VR_se hV.1 ⟨h.1, h.2.1⟩)
theorem VS_reduce {σ : St} (hV : VS σ) (d : Int) : VS (s_reduce σ d).2 := by
  unfold s_reduce
  split
  · exact VS_rfs hV _
  · have h := red_bd hV.1 d
    exact VS_act hV 7 (VR_bk hV.1 ⟨h.1, h.2.1⟩)
theorem VS_undo {σ : St} (hV : VS σ) : VS (s_undo σ).2 := by
  obtain ⟨ρ, us, im, tm, rf, st⟩ := σ
  cases us with
  | nil => exact VS_rfs hV _
  | cons u us => exact ⟨hV.2.1 u (List.mem_cons_self ..), fun v hv => hV.2.1 v (List.mem_cons_of_mem _ hv), hV.2.2.1, hV.2.2.2⟩
theorem VS_image {σ : St} (hV : VS σ) (k : Int) : VS (s_image σ k).2 := by
  unfold s_image
  split
  · exact VS_rfs hV _
  · refine ⟨hV.1, hV.2.1, fun j r hr => ?_, hV.2.2.2⟩
    have hr : (if j = k then some σ.1 else σ.2.2.1 j) = some r := hr
    by_cases z : j = k
    · rw [if_pos z] at hr
      injection hr with e
      rw [← e]; exact hV.1
    · rw [if_neg z] at hr; exact hV.2.2.1 j r hr
theorem VS_back {σ : St} (hV : VS σ) (k : Int) : VS (s_back σ k).2 := by
  unfold s_back
  split
  · exact VS_rfs hV _
  · split
    · exact VS_rfs hV _
    · rename_i r hr
      exact ⟨hV.2.2.1 k r hr, (fun u hu => absurd hu (List.not_mem_nil)), hV.2.2.1, hV.2.2.2⟩
theorem VS_cause {σ : St} (hV : VS σ) (k e w : Int) : VS (s_cause σ k e w).2 := by
  have hr := hV.1
  have h10 := hr.2.2.2.2.2.2.2.2.2.2.1
  unfold s_cause
  split
  · exact VS_rfs hV _
  split
  · exact VS_rfs hV _
  split
  · exact VS_rfs hV _
  · rename_i q1 q2 q3
    have hup := nC_up (w := w) hr (k := k) (e := e) (by omega) (by omega) (by omega) (by omega)
    exact VS_act hV 5 (VR_cause hr (by omega) (by omega) (by omega) (by omega) (by omega) (by
      by_cases zz : σ.1 (136 + (k * 8 + e)) = 0
      · rw [if_pos zz] at hup; omega
      · rw [if_neg zz] at hup; omega))
theorem VS_sign {σ : St} (hV : VS σ) (k e : Int) : VS (s_sign σ k e).2 := by
  unfold s_sign
  split
  · exact VS_rfs hV _
  split
  · exact VS_rfs hV _
  · rename_i q1 q2
    exact VS_act hV 6 (VR_sign hV.1 (by omega) (by omega) (by omega) (by omega) q2).1
theorem VS_object {σ : St} (hV : VS σ) (k : Int) : VS (s_object σ k).2 := by
  unfold s_object
  split
  · exact VS_rfs hV _
  split
  · exact VS_rfs hV _
  · rename_i q1 q2
    have h := VR_addO hV.1 (by omega) (k := k) (by omega) (by omega) (by omega) (by omega)
    refine VS_act hV 0 ?_
    split
    · exact h.2
    · exact h.1
