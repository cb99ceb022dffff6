/-! book, see, note, clear, window -/
theorem VR_log {ρ ρ' : Rw} (hV : VR ρ) (hs : ∀ i, ¬ (3 ≤ i ∧ i ≤ 5) → ¬ (200 ≤ i ∧ i < 240) → ρ' i = ρ i) (h3 : 0 ≤ ρ' 3 ∧ ρ' 3 ≤ 20) (h4 : 0 ≤ ρ' 4 ∧ ρ' 4 < p2 (nS ρ)) (h5 : 0 ≤ ρ' 5 ∧ ρ' 5 < p2 (nS ρ)) (hl : ∀ k, 0 ≤ k → k < ρ' 3 → 0 ≤ ρ' (200 + 2 * k) ∧ ρ' (200 + 2 * k) < nS ρ ∧ 0 ≤ ρ' (201 + 2 * k) ∧ ρ' (201 + 2 * k) ≤ 999) : VR ρ' := by
  obtain ⟨cC, cS⟩ := nCS_cong hV (ρ' := ρ') (fun i h => hs i (by omega) (by omega))
  have e0 := hs 0 (by decide) (by decide)
  have e1 := hs 1 (by decide) (by decide)
  have e2 := hs 2 (by decide) (by decide)
  obtain ⟨v0, v1, v2, v3, v4, v5, v6, v7, v8, v9, v10, v11, v12, v13⟩ := hV
  refine ⟨by rw [e0]; exact v0, by rw [e1]; exact v1, by rw [e2]; exact v2, h3, fun o p q => ?_, fun m p q => ?_, fun m n p q t => ?_, fun k p q => ?_, fun k p q => ?_, fun k p q => by rw [cS]; exact hl k p q, by rw [cC]; exact v10, by rw [cS]; exact v11, by rw [cS]; exact h4, by rw [cS]; exact h5⟩
  · rw [e0] at q
    rw [hs _ (by omega) (by omega)]; exact v4 o p q
  · rw [e1] at q
    rw [e0, hs _ (by omega) (by omega), hs _ (by omega) (by omega), hs _ (by omega) (by omega)]; exact v5 m p q
  · rw [e1] at t
    rw [hs _ (by omega) (by omega), hs _ (by omega) (by omega), hs _ (by omega) (by omega), hs _ (by omega) (by omega), hs _ (by omega) (by omega), hs _ (by omega) (by omega)]; exact v6 m n p q t
  · rw [e2] at q
    rw [hs _ (by omega) (by omega), hs _ (by omega) (by omega), hs _ (by omega) (by omega), hs _ (by omega) (by omega), hs _ (by omega) (by omega)]; exact v7 k p q
  · rw [hs _ (by omega) (by omega), hs _ (by omega) (by omega)]; exact v8 k p q
/-- after a change of the row that leaves all but book, seen, log -/
theorem XI.row {σ : St} {M M' : Mem} {ρ' : Rw} (h : XI σ M) (hX : XR M' 1 ρ') (hk : Kp (fun c => 1 ≤ c ∧ c ≤ 8) M M') (ht : tau ρ' = tau σ.1) : XI (ρ', σ.2) M' := by
  obtain ⟨h1, h2, h3, h4, h5, h6, h7, h8, h9⟩ := h
  have e0 : ρ' 0 = σ.1 0 := by
    have := congrFun ht 0
    rwa [tau_lo (by decide) (by decide), tau_lo (by decide) (by decide)] at this
  refine ⟨hX, ?_, ?_, h4.kp hk (fun c a b => by omega), h5.kp hk (by decide) (fun c a b => by omega), ?_, ?_, ?_, ?_⟩
  · show RO M' 97 (isC (tau ρ')) (wC (tau ρ')) (8 * ρ' 0)
    rw [e0, ht]; exact h2.kp hk (fun c a b => by omega)
  · show RO M' 101 (isS (tau ρ')) (wS (tau ρ')) (8 * ρ' 0)
    rw [e0, ht]; exact h3.kp hk (fun c a b => by omega)
  · intro i a b; rw [hk.at (c := 96) (by decide)]; exact h6 i a b
  · intro i a b; rw [hk.at (c := 95) (by decide)]; exact h7 i a b
  · rw [hk.at (c := 94) (by decide)]; exact h8
  · show CX (tau ρ') M'
    rw [ht]; exact h9.kp hk (fun c a b => by omega)
theorem p2_12 {n : Int} (h : n ≤ 12) : p2 n ≤ 4096 := by
  have := p2_mono h
  have e : p2 12 = 4096 := by decide
  omega
def s_book (σ : St) (v : Int) : Int × St := if v < 0 ∨ p2 (nS σ.1) ≤ v then (-1, rfs σ (-1)) else (pcI v, act σ 8 (rs σ.1 4 v))
theorem X_book {σ : St} {M : Mem} (h : XI σ M) (hV : VS σ) {v : Int} (hv : R32 v) : Cal Y_CB_book [vR 0, vI v] M (Qx (s_book σ v) M) := by
  have hr := hV.1
  have e := XI_nS hr h
  have hn := nS_nn hr.1.1
  have h12 := hr.2.2.2.2.2.2.2.2.2.2.2.1
  have hp := p2_12 h12
  have hp0 := p2_pos (nS σ.1)
  refine Cal.mk (y := Y_CB_book) (loc := [vR 0, vI v]) G_CB_book rfl (by decide) rfl rfl (Nat.le_of_ble_eq_true rfl) ?_
  simp only [r_CB_book_0, r_CB_book_1, r_CB_book_2, r_CB_book_3, r_CB_book_6, r_CB_book_9, r_CB_book_10, r_CB_book_13, r_CB_book_16, r_CB_book_17, r_CB_book_20, r_CB_book_21, r_CB_book_24, r_CB_book_25, r_CB_book_26, r_CB_book_28, true_and, and_true, or_true, true_or, or_false, false_or, false_and, and_false, not_true_eq_false, not_false_eq_true, implies_true, true_implies, false_implies, e, p2_def]
  refine ⟨by omega, out_eq hv (r32 (by omega) (by omega)) (fun q => Qx.ref h (Or.inl rfl) (if_pos q)) (fun q => ?_)⟩
  have es : s_book σ v = (pcI v, act σ 8 (rs σ.1 4 v)) := if_neg q
  rw [es]
  refine (X_begin h 8).mono ?_
  rintro z M1 ⟨rfl, x1, k1⟩
  simp only [r_CB_book_31, r_CB_book_32, r_CB_book_35, r_CB_book_36, r_CB_book_39, r_CB_book_40, r_CB_book_43, true_and, and_true, or_true, true_or, or_false, false_or, false_and, and_false, not_true_eq_false, not_false_eq_true, implies_true, true_implies, false_implies]
  refine Cal.I (bitCount_s _ (by omega) (by omega)) ⟨rfl, ?_, ?_⟩
  · exact x1.row (x1.1.s0 (i := 4) v (by decide) (by decide)) (Kp.w Kp.rf (by decide)) (tau_cong (fun i z => rs_oth (by omega)))
  · exact (k1.sub (fun c z => by unfold KX; omega)).trans (Kp.w Kp.rf (by unfold KX; decide))
def s_see (σ : St) (v : Int) : Int × St := if v < 0 ∨ p2 (nS σ.1) ≤ v then (-1, rfs σ (-1)) else (pcI (ixor (σ.1 5) v), act σ 9 (rs σ.1 5 v))
theorem X_see {σ : St} {M : Mem} (h : XI σ M) (hV : VS σ) {v : Int} (hv : R32 v) : Cal Y_CB_see [vR 0, vI v] M (Qx (s_see σ v) M) := by
  have hr := hV.1
  have e := XI_nS hr h
  have hn := nS_nn hr.1.1
  have h12 := hr.2.2.2.2.2.2.2.2.2.2.2.1
  have h5 := hr.2.2.2.2.2.2.2.2.2.2.2.2.2
  have hp := p2_12 h12
  have hp0 := p2_pos (nS σ.1)
  refine Cal.mk (y := Y_CB_see) (loc := [vR 0, vI v, vN]) G_CB_see rfl (by decide) rfl rfl (Nat.le_of_ble_eq_true rfl) ?_
  simp only [r_CB_see_0, r_CB_see_1, r_CB_see_2, r_CB_see_3, r_CB_see_6, r_CB_see_9, r_CB_see_10, r_CB_see_13, r_CB_see_16, r_CB_see_17, r_CB_see_20, r_CB_see_21, r_CB_see_24, r_CB_see_25, r_CB_see_26, r_CB_see_28, true_and, and_true, or_true, true_or, or_false, false_or, false_and, and_false, not_true_eq_false, not_false_eq_true, implies_true, true_implies, false_implies, e, p2_def]
  refine ⟨by omega, out_eq hv (r32 (by omega) (by omega)) (fun q => Qx.ref h (Or.inl rfl) (if_pos q)) (fun q => ?_)⟩
  have es : s_see σ v = (pcI (ixor (σ.1 5) v), act σ 9 (rs σ.1 5 v)) := if_neg q
  rw [es]
  refine (X_begin h 9).mono ?_
  rintro z M1 ⟨rfl, x1, k1⟩
  simp only [r_CB_see_31, r_CB_see_32, r_CB_see_35, r_CB_see_38, r_CB_see_39, r_CB_see_40, r_CB_see_41, r_CB_see_42, r_CB_see_45, r_CB_see_46, r_CB_see_49, r_CB_see_50, r_CB_see_53, true_and, and_true, or_true, true_or, or_false, false_or, false_and, and_false, not_true_eq_false, not_false_eq_true, implies_true, true_implies, false_implies, x1.1.n.2.2.2.2.2]
  have hx := ixor_bd (n := 12) (by decide) (a := σ.1 5) (b := v) h5.1 (by omega) (by omega) (by omega)
  refine Cal.I (bitCount_s _ hx.1 (by omega)) ⟨rfl, ?_, ?_⟩
  · exact x1.row (x1.1.s0 (i := 5) v (by decide) (by decide)) (Kp.w Kp.rf (by decide)) (tau_cong (fun i z => rs_oth (by omega)))
  · exact (k1.sub (fun c z => by unfold KX; omega)).trans (Kp.w Kp.rf (by unfold KX; decide))
def addE (ρ : Rw) (s t : Int) : Rw := rs (rs (rs ρ (200 + 2 * ρ 3) s) (201 + 2 * ρ 3) t) 3 (ρ 3 + 1)
theorem addEntry_s {M : Mem} {ρ : Rw} (hX : XR M 1 ρ) (h0 : 0 ≤ ρ 3) (h1 : ρ 3 < 20) {s t : Int} : Cal Y_Mo_addEntry [vR 1, vI s, vI t] M (fun v M' => v = none ∧ XR M' 1 (addE ρ s t) ∧ Kp (fun c => 1 ≤ c ∧ c ≤ 8) M M') := by
  have e1 := hX.n.2.2.2.1
  refine Cal.mk (y := Y_Mo_addEntry) (loc := [vR 1, vI s, vI t]) G_Mo_addEntry rfl (by decide) rfl rfl (Nat.le_of_ble_eq_true rfl) ?_
  simp (disch := decide) only [r_Mo_addEntry_0, r_Mo_addEntry_1, r_Mo_addEntry_4, r_Mo_addEntry_5, r_Mo_addEntry_8, r_Mo_addEntry_9, r_Mo_addEntry_10, r_Mo_addEntry_11, r_Mo_addEntry_14, r_Mo_addEntry_15, r_Mo_addEntry_18, r_Mo_addEntry_19, r_Mo_addEntry_20, r_Mo_addEntry_21, r_Mo_addEntry_22, r_Mo_addEntry_25, r_Mo_addEntry_26, r_Mo_addEntry_27, r_Mo_addEntry_30, true_and, and_true, or_true, true_or, or_false, false_or, false_and, and_false, not_true_eq_false, not_false_eq_true, implies_true, true_implies, false_implies, e1, wI_c]
  refine ⟨by omega, by omega, by omega, by omega, ?_, ?_⟩
  · exact ((hX.s6 (i := ρ 3) s (by omega) (by omega)).s7 (i := ρ 3) t (by omega) (by omega)).s0 (i := 3) (ρ 3 + 1) (by decide) (by decide)
  · exact Kp.w (Kp.w (Kp.w Kp.rf (by decide)) (by decide)) (by decide)
def s_note (σ : St) (s t : Int) : Int × St := if t < 0 ∨ 1000 ≤ t then (-1, rfs σ (-1)) else if s < 0 ∨ nS σ.1 ≤ s then (-2, rfs σ (-2)) else if 20 ≤ σ.1 3 then (-5, rfs σ (-5)) else (σ.1 3 + 1, act σ 10 (addE σ.1 s t))
theorem X_note {σ : St} {M : Mem} (h : XI σ M) (hV : VS σ) {s t : Int} (hs : R32 s) (ht : R32 t) : Cal Y_CB_note [vR 0, vI s, vI t] M (Qx (s_note σ s t) M) := by
  have hr := hV.1
  have e := XI_nS hr h
  have hn := nS_nn hr.1.1
  have h12 := hr.2.2.2.2.2.2.2.2.2.2.2.1
  have h3 := hr.2.2.2.1
  have e3 := h.1.n.2.2.2.1
  refine Cal.mk (y := Y_CB_note) (loc := [vR 0, vI s, vI t]) G_CB_note rfl (by decide) rfl rfl (Nat.le_of_ble_eq_true rfl) ?_
  simp only [r_CB_note_0, r_CB_note_1, r_CB_note_4, r_CB_note_7, r_CB_note_10, r_CB_note_11, r_CB_note_14, r_CB_note_15, r_CB_note_18, r_CB_note_19, r_CB_note_20, r_CB_note_21, r_CB_note_24, r_CB_note_27, r_CB_note_30, r_CB_note_33, r_CB_note_34, r_CB_note_37, r_CB_note_39, r_CB_note_42, r_CB_note_43, r_CB_note_44, r_CB_note_47, r_CB_note_50, r_CB_note_52, r_CB_note_55, r_CB_note_56, r_CB_note_59, r_CB_note_61, r_CB_note_64, r_CB_note_65, r_CB_note_66, r_CB_note_68, true_and, and_true, or_true, true_or, or_false, false_or, false_and, and_false, not_true_eq_false, not_false_eq_true, implies_true, true_implies, false_implies, e, e3]
  refine out_eq ht (r32 (by decide) (by decide)) (fun q => Qx.ref h (Or.inl rfl) (if_pos q)) (fun q => ?_)
  simp only [e, e3]
  refine out_eq hs (r32 (by omega) (by omega)) (fun q2 => Qx.ref h (Or.inr (Or.inl rfl)) ((if_neg q).trans (if_pos q2))) (fun q2 => ?_)
  simp only [e3]
  refine ⟨r32 (by omega) (by omega), r32 (by decide) (by decide), fun q3 => ?_, fun q3 => Qx.ref h (Or.inr (Or.inr (Or.inr rfl))) ((if_neg q).trans ((if_neg q2).trans (if_pos (by omega))))⟩
  have es : s_note σ s t = (σ.1 3 + 1, act σ 10 (addE σ.1 s t)) := (if_neg q).trans ((if_neg q2).trans (if_neg (by omega)))
  rw [es]
  refine (X_begin h 10).mono ?_
  rintro z M1 ⟨rfl, x1, k1⟩
  simp only [r_CB_note_71, r_CB_note_72, r_CB_note_75, r_CB_note_76, r_CB_note_77, true_and, and_true, or_true, true_or, or_false, false_or, false_and, and_false, not_true_eq_false, not_false_eq_true, implies_true, true_implies, false_implies]
  refine (addEntry_s x1.1 (ρ := σ.1) h3.1 (by omega)).mono ?_
  rintro z M2 ⟨rfl, x2, k2⟩
  simp only [r_CB_note_80, r_CB_note_81, r_CB_note_84, r_CB_note_87, true_and, and_true, or_true, true_or, or_false, false_or, false_and, and_false, not_true_eq_false, not_false_eq_true, implies_true, true_implies, false_implies, x2.n.2.2.2.1]
  refine ⟨?_, ?_, ?_⟩
  · rw [show addE σ.1 s t 3 = σ.1 3 + 1 from rs_same _ _ _]
  · exact x1.row x2 k2 (tau_cong (fun i z => by unfold addE; rw [rs_oth (by omega), rs_oth (by omega), rs_oth (by omega)]; rfl))
  · exact (k1.sub (fun c z => by unfold KX; omega)).trans (k2.sub (fun c z => by unfold KX; omega))
def s_clear (σ : St) : Int × St := (σ.1 3, (rs σ.1 3 0, (11, σ.1) :: σ.2.1.take 9, σ.2.2))
theorem X_clear {σ : St} {M : Mem} (h : XI σ M) : Cal Y_CB_clear [vR 0] M (Qx (s_clear σ) M) := by
  refine Cal.mk (y := Y_CB_clear) (loc := [vR 0, vN]) G_CB_clear rfl (by decide) rfl rfl (Nat.le_of_ble_eq_true rfl) ?_
  simp only [r_CB_clear_0, r_CB_clear_1, r_CB_clear_4, r_CB_clear_5, r_CB_clear_8, r_CB_clear_10, true_and, and_true, or_true, true_or, or_false, false_or, false_and, and_false, not_true_eq_false, not_false_eq_true, implies_true, true_implies, false_implies]
  refine (X_keep h 11).mono ?_
  rintro z M1 ⟨rfl, x1, k1⟩
  simp only [r_CB_clear_13, r_CB_clear_14, r_CB_clear_17, r_CB_clear_20, r_CB_clear_21, r_CB_clear_22, r_CB_clear_25, r_CB_clear_26, r_CB_clear_29, r_CB_clear_30, true_and, and_true, or_true, true_or, or_false, false_or, false_and, and_false, not_true_eq_false, not_false_eq_true, implies_true, true_implies, false_implies, x1.1.n.2.2.2.1]
  refine ⟨rfl, ?_, ?_⟩
  · exact x1.row (x1.1.s0 (i := 3) 0 (by decide) (by decide)) (Kp.w Kp.rf (by decide)) (tau_cong (fun i z => rs_oth (by omega)))
  · exact (k1.sub (fun c z => by unfold KX; omega)).trans (Kp.w Kp.rf (by unfold KX; decide))
/-- what comes of going through the numbers below n -/
def foN (f : Int → Int → Int) (z : Int) : Nat → Int
  | 0 => z
  | n + 1 => f n (foN f z n)
def foI (f : Int → Int → Int) (z n : Int) : Int := foN f z n.toNat
theorem foI_0 (f : Int → Int → Int) (z : Int) : foI f z 0 = z := rfl
theorem foI_s (f : Int → Int → Int) (z : Int) {n : Int} (h : 0 ≤ n) : foI f z (n + 1) = f n (foI f z n) := by
  unfold foI
  rw [toNat_succ h, foN, toNat_cast h]
/-- the signs of the log at times from a on, below b -/
def winS (ρ : Rw) (a b k acc : Int) : Int := if a ≤ ρ (201 + 2 * k) ∧ ρ (201 + 2 * k) < b then ior acc (p2 (ρ (200 + 2 * k))) else acc
def win (ρ : Rw) (a b : Int) : Int := foI (winS ρ a b) 0 (ρ 3)
theorem win_bd {ρ : Rw} (hV : VR ρ) (a b : Int) : ∀ n, 0 ≤ n → n ≤ ρ 3 → 0 ≤ foI (winS ρ a b) 0 n ∧ foI (winS ρ a b) 0 n < p2 (nS ρ) := by
  intro n hn
  have h12 := hV.2.2.2.2.2.2.2.2.2.2.2.1
  have hp := p2_pos (nS ρ)
  have hnn := nS_nn hV.1.1
  refine int_ind (P := fun n => n ≤ ρ 3 → 0 ≤ foI (winS ρ a b) 0 n ∧ foI (winS ρ a b) 0 n < p2 (nS ρ)) (fun _ => by rw [foI_0]; omega) (fun n hn ih h => ?_) n hn
  rw [foI_s _ _ hn]
  have ih := ih (by omega)
  have hl := hV.2.2.2.2.2.2.2.2.2.1 n hn (by omega)
  generalize foI (winS ρ a b) 0 n = acc at ih ⊢
  unfold winS
  split
  · have h1 := p2_lt hl.1 hl.2.1
    have h2 := p2_pos (ρ (200 + 2 * n))
    have hq : p2 (nS ρ) = 2 ^ (nS ρ).toNat := rfl
    rw [hq] at ih h1 ⊢
    exact ior_bd (by omega) ih.1 ih.2 (by omega) h1
  · exact ih
theorem signsWithin_s {M : Mem} {ρ : Rw} (hV : VR ρ) (hX : XR M 1 ρ) {t w : Int} (ht : R32 t) (hw : R32 (t + w)) : Cal Y_Cr_signsWithin [vR 123, vI t, vI w] M (fun v M' => v = some (vI (win ρ t (t + w))) ∧ M' = M) := by
  have h3 := hV.2.2.2.1
  have e3 := hX.n.2.2.2.1
  have h12 := hV.2.2.2.2.2.2.2.2.2.2.2.1
  refine Cal.mk (y := Y_Cr_signsWithin) (loc := [vR 123, vI t, vI w, vN, vN, vN]) G_Cr_signsWithin rfl (by decide) rfl rfl (Nat.le_of_ble_eq_true rfl) ?_
  simp only [r_Cr_signsWithin_0, r_Cr_signsWithin_1, r_Cr_signsWithin_2, r_Cr_signsWithin_3, true_and, and_true, or_true, true_or, or_false, false_or, false_and, and_false, not_true_eq_false, not_false_eq_true, implies_true, true_implies, false_implies]
  refine up_loop (lo := 0) (hi := ρ 3) (P := fun k => ∀ l5, Run C_Cr_signsWithin _ 5 [vR 123, vI t, vI w, vI (foI (winS ρ t (t + w)) 0 k), vI k, l5] [] M) (fun k hk hkn ih l5 => ?_) h3.1 _
  rw [r_Cr_signsWithin_5]
  simp only [r_Cr_signsWithin_7, r_Cr_signsWithin_8, r_Cr_signsWithin_11, r_Cr_signsWithin_14, r_Cr_signsWithin_17, r_Cr_signsWithin_18, r_Cr_signsWithin_21, r_Cr_signsWithin_24, r_Cr_signsWithin_26, r_Cr_signsWithin_27, r_Cr_signsWithin_29, r_Cr_signsWithin_31, r_Cr_signsWithin_32, r_Cr_signsWithin_35, r_Cr_signsWithin_37, r_Cr_signsWithin_38, r_Cr_signsWithin_39, r_Cr_signsWithin_40, r_Cr_signsWithin_43, r_Cr_signsWithin_44, r_Cr_signsWithin_45, r_Cr_signsWithin_46, r_Cr_signsWithin_49, r_Cr_signsWithin_52, r_Cr_signsWithin_54, r_Cr_signsWithin_55, r_Cr_signsWithin_56, r_Cr_signsWithin_57, r_Cr_signsWithin_58, r_Cr_signsWithin_61, r_Cr_signsWithin_64, r_Cr_signsWithin_65, true_and, and_true, or_true, true_or, or_false, false_or, false_and, and_false, not_true_eq_false, not_false_eq_true, implies_true, true_implies, false_implies, e3]
  refine ⟨r32 (by omega) (by omega), r32 (by omega) (by omega), fun q => ?_, fun q => ?_⟩
  · rw [show k = ρ 3 by omega]; rfl
  · have hl := hV.2.2.2.2.2.2.2.2.2.1 k hk (by omega)
    have x7 := hX.2.2.2.2.2.2.2 k hk (by omega)
    have x6 := hX.2.2.2.2.2.2.1 k hk (by omega)
    have hih := ih (by omega)
    rw [foI_s _ _ hk] at hih
    simp only [show (1 + 7 : Nat) = 8 from rfl, show (1 + 6 : Nat) = 7 from rfl] at x7 x6
    rw [x7]
    unfold winS at hih
    refine ⟨hk, by omega, r32 (by omega) (by omega), ht, fun q1 => ?_, fun q1 => ⟨r32 (by omega) (by omega), hw, fun q2 => ?_, fun q2 => ?_⟩⟩
    · rw [if_neg (by omega)] at hih; exact hih _
    · rw [if_neg (by omega)] at hih; exact hih _
    · rw [if_pos (by omega)] at hih
      rw [x6, p2_def]
      exact ⟨hk, by omega, ⟨by omega, by omega⟩, hih _⟩
