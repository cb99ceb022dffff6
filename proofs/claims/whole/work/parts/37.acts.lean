/-! how a Model's row changes with its cells (printed by a program), and the class's small acts -/
def rs (ρ : Rw) (i v : Int) : Rw := fun j => if j = i then v else ρ j
theorem XR.s0 {M : Mem} {b : Nat} {ρ : Rw} (h : XR M b ρ) {i : Int} (v : Int) (h0 : 0 ≤ i) (h1 : i < 6) : XR (wI M b i v) b (rs ρ (i) v) := by
  obtain ⟨g0, g1, g2, g3, g4, g5, g6, g7⟩ := h
  refine ⟨fun j a c => ?_, fun j a c => ?_, fun j a c => ?_, fun j a c => ?_, fun j a c => ?_, fun j a c => ?_, fun j a c => ?_, fun j a c => ?_⟩
  · rw [wI_at]; unfold rs
    by_cases q : j = i
    · subst q; rw [if_pos ⟨rfl, rfl⟩, if_pos rfl]
    · rw [if_neg (fun z => q z.2), if_neg (by omega)]; exact g0 j a c
  · rw [wI_at]; unfold rs; rw [if_neg (by omega), if_neg (by omega)]; exact g1 j a c
  · rw [wI_at]; unfold rs; rw [if_neg (by omega), if_neg (by omega)]; exact g2 j a c
  · rw [wI_at]; unfold rs; rw [if_neg (by omega), if_neg (by omega)]; exact g3 j a c
  · rw [wI_at]; unfold rs; rw [if_neg (by omega), if_neg (by omega)]; exact g4 j a c
  · rw [wI_at]; unfold rs; rw [if_neg (by omega), if_neg (by omega)]; exact g5 j a c
  · rw [wI_at]; unfold rs; rw [if_neg (by omega), if_neg (by omega)]; exact g6 j a c
  · rw [wI_at]; unfold rs; rw [if_neg (by omega), if_neg (by omega)]; exact g7 j a c
theorem XR.s1 {M : Mem} {b : Nat} {ρ : Rw} (h : XR M b ρ) {i : Int} (v : Int) (h0 : 0 ≤ i) (h1 : i < 10) : XR (wI M (b + 1) i v) b (rs ρ (6 + i) v) := by
  obtain ⟨g0, g1, g2, g3, g4, g5, g6, g7⟩ := h
  refine ⟨fun j a c => ?_, fun j a c => ?_, fun j a c => ?_, fun j a c => ?_, fun j a c => ?_, fun j a c => ?_, fun j a c => ?_, fun j a c => ?_⟩
  · rw [wI_at]; unfold rs; rw [if_neg (by omega), if_neg (by omega)]; exact g0 j a c
  · rw [wI_at]; unfold rs
    by_cases q : j = i
    · subst q; rw [if_pos ⟨rfl, rfl⟩, if_pos rfl]
    · rw [if_neg (fun z => q z.2), if_neg (by omega)]; exact g1 j a c
  · rw [wI_at]; unfold rs; rw [if_neg (by omega), if_neg (by omega)]; exact g2 j a c
  · rw [wI_at]; unfold rs; rw [if_neg (by omega), if_neg (by omega)]; exact g3 j a c
  · rw [wI_at]; unfold rs; rw [if_neg (by omega), if_neg (by omega)]; exact g4 j a c
  · rw [wI_at]; unfold rs; rw [if_neg (by omega), if_neg (by omega)]; exact g5 j a c
  · rw [wI_at]; unfold rs; rw [if_neg (by omega), if_neg (by omega)]; exact g6 j a c
  · rw [wI_at]; unfold rs; rw [if_neg (by omega), if_neg (by omega)]; exact g7 j a c
theorem XR.s2 {M : Mem} {b : Nat} {ρ : Rw} (h : XR M b ρ) {i : Int} (v : Int) (h0 : 0 ≤ i) (h1 : i < 60) : XR (wI M (b + 2) i v) b (rs ρ (16 + i) v) := by
  obtain ⟨g0, g1, g2, g3, g4, g5, g6, g7⟩ := h
  refine ⟨fun j a c => ?_, fun j a c => ?_, fun j a c => ?_, fun j a c => ?_, fun j a c => ?_, fun j a c => ?_, fun j a c => ?_, fun j a c => ?_⟩
  · rw [wI_at]; unfold rs; rw [if_neg (by omega), if_neg (by omega)]; exact g0 j a c
  · rw [wI_at]; unfold rs; rw [if_neg (by omega), if_neg (by omega)]; exact g1 j a c
  · rw [wI_at]; unfold rs
    by_cases q : j = i
    · subst q; rw [if_pos ⟨rfl, rfl⟩, if_pos rfl]
    · rw [if_neg (fun z => q z.2), if_neg (by omega)]; exact g2 j a c
  · rw [wI_at]; unfold rs; rw [if_neg (by omega), if_neg (by omega)]; exact g3 j a c
  · rw [wI_at]; unfold rs; rw [if_neg (by omega), if_neg (by omega)]; exact g4 j a c
  · rw [wI_at]; unfold rs; rw [if_neg (by omega), if_neg (by omega)]; exact g5 j a c
  · rw [wI_at]; unfold rs; rw [if_neg (by omega), if_neg (by omega)]; exact g6 j a c
  · rw [wI_at]; unfold rs; rw [if_neg (by omega), if_neg (by omega)]; exact g7 j a c
theorem XR.s3 {M : Mem} {b : Nat} {ρ : Rw} (h : XR M b ρ) {i : Int} (v : Int) (h0 : 0 ≤ i) (h1 : i < 60) : XR (wI M (b + 3) i v) b (rs ρ (76 + i) v) := by
  obtain ⟨g0, g1, g2, g3, g4, g5, g6, g7⟩ := h
  refine ⟨fun j a c => ?_, fun j a c => ?_, fun j a c => ?_, fun j a c => ?_, fun j a c => ?_, fun j a c => ?_, fun j a c => ?_, fun j a c => ?_⟩
  · rw [wI_at]; unfold rs; rw [if_neg (by omega), if_neg (by omega)]; exact g0 j a c
  · rw [wI_at]; unfold rs; rw [if_neg (by omega), if_neg (by omega)]; exact g1 j a c
  · rw [wI_at]; unfold rs; rw [if_neg (by omega), if_neg (by omega)]; exact g2 j a c
  · rw [wI_at]; unfold rs
    by_cases q : j = i
    · subst q; rw [if_pos ⟨rfl, rfl⟩, if_pos rfl]
    · rw [if_neg (fun z => q z.2), if_neg (by omega)]; exact g3 j a c
  · rw [wI_at]; unfold rs; rw [if_neg (by omega), if_neg (by omega)]; exact g4 j a c
  · rw [wI_at]; unfold rs; rw [if_neg (by omega), if_neg (by omega)]; exact g5 j a c
  · rw [wI_at]; unfold rs; rw [if_neg (by omega), if_neg (by omega)]; exact g6 j a c
  · rw [wI_at]; unfold rs; rw [if_neg (by omega), if_neg (by omega)]; exact g7 j a c
theorem XR.s4 {M : Mem} {b : Nat} {ρ : Rw} (h : XR M b ρ) {i : Int} (v : Int) (h0 : 0 ≤ i) (h1 : i < 32) : XR (wI M (b + 4) i v) b (rs ρ (136 + i) v) := by
  obtain ⟨g0, g1, g2, g3, g4, g5, g6, g7⟩ := h
  refine ⟨fun j a c => ?_, fun j a c => ?_, fun j a c => ?_, fun j a c => ?_, fun j a c => ?_, fun j a c => ?_, fun j a c => ?_, fun j a c => ?_⟩
  · rw [wI_at]; unfold rs; rw [if_neg (by omega), if_neg (by omega)]; exact g0 j a c
  · rw [wI_at]; unfold rs; rw [if_neg (by omega), if_neg (by omega)]; exact g1 j a c
  · rw [wI_at]; unfold rs; rw [if_neg (by omega), if_neg (by omega)]; exact g2 j a c
  · rw [wI_at]; unfold rs; rw [if_neg (by omega), if_neg (by omega)]; exact g3 j a c
  · rw [wI_at]; unfold rs
    by_cases q : j = i
    · subst q; rw [if_pos ⟨rfl, rfl⟩, if_pos rfl]
    · rw [if_neg (fun z => q z.2), if_neg (by omega)]; exact g4 j a c
  · rw [wI_at]; unfold rs; rw [if_neg (by omega), if_neg (by omega)]; exact g5 j a c
  · rw [wI_at]; unfold rs; rw [if_neg (by omega), if_neg (by omega)]; exact g6 j a c
  · rw [wI_at]; unfold rs; rw [if_neg (by omega), if_neg (by omega)]; exact g7 j a c
theorem XR.s5 {M : Mem} {b : Nat} {ρ : Rw} (h : XR M b ρ) {i : Int} (v : Int) (h0 : 0 ≤ i) (h1 : i < 32) : XR (wI M (b + 5) i v) b (rs ρ (168 + i) v) := by
  obtain ⟨g0, g1, g2, g3, g4, g5, g6, g7⟩ := h
  refine ⟨fun j a c => ?_, fun j a c => ?_, fun j a c => ?_, fun j a c => ?_, fun j a c => ?_, fun j a c => ?_, fun j a c => ?_, fun j a c => ?_⟩
  · rw [wI_at]; unfold rs; rw [if_neg (by omega), if_neg (by omega)]; exact g0 j a c
  · rw [wI_at]; unfold rs; rw [if_neg (by omega), if_neg (by omega)]; exact g1 j a c
  · rw [wI_at]; unfold rs; rw [if_neg (by omega), if_neg (by omega)]; exact g2 j a c
  · rw [wI_at]; unfold rs; rw [if_neg (by omega), if_neg (by omega)]; exact g3 j a c
  · rw [wI_at]; unfold rs; rw [if_neg (by omega), if_neg (by omega)]; exact g4 j a c
  · rw [wI_at]; unfold rs
    by_cases q : j = i
    · subst q; rw [if_pos ⟨rfl, rfl⟩, if_pos rfl]
    · rw [if_neg (fun z => q z.2), if_neg (by omega)]; exact g5 j a c
  · rw [wI_at]; unfold rs; rw [if_neg (by omega), if_neg (by omega)]; exact g6 j a c
  · rw [wI_at]; unfold rs; rw [if_neg (by omega), if_neg (by omega)]; exact g7 j a c
theorem XR.s6 {M : Mem} {b : Nat} {ρ : Rw} (h : XR M b ρ) {i : Int} (v : Int) (h0 : 0 ≤ i) (h1 : i < 20) : XR (wI M (b + 6) i v) b (rs ρ (200 + 2 * i) v) := by
  obtain ⟨g0, g1, g2, g3, g4, g5, g6, g7⟩ := h
  refine ⟨fun j a c => ?_, fun j a c => ?_, fun j a c => ?_, fun j a c => ?_, fun j a c => ?_, fun j a c => ?_, fun j a c => ?_, fun j a c => ?_⟩
  · rw [wI_at]; unfold rs; rw [if_neg (by omega), if_neg (by omega)]; exact g0 j a c
  · rw [wI_at]; unfold rs; rw [if_neg (by omega), if_neg (by omega)]; exact g1 j a c
  · rw [wI_at]; unfold rs; rw [if_neg (by omega), if_neg (by omega)]; exact g2 j a c
  · rw [wI_at]; unfold rs; rw [if_neg (by omega), if_neg (by omega)]; exact g3 j a c
  · rw [wI_at]; unfold rs; rw [if_neg (by omega), if_neg (by omega)]; exact g4 j a c
  · rw [wI_at]; unfold rs; rw [if_neg (by omega), if_neg (by omega)]; exact g5 j a c
  · rw [wI_at]; unfold rs
    by_cases q : j = i
    · subst q; rw [if_pos ⟨rfl, rfl⟩, if_pos rfl]
    · rw [if_neg (fun z => q z.2), if_neg (by omega)]; exact g6 j a c
  · rw [wI_at]; unfold rs; rw [if_neg (by omega), if_neg (by omega)]; exact g7 j a c
theorem XR.s7 {M : Mem} {b : Nat} {ρ : Rw} (h : XR M b ρ) {i : Int} (v : Int) (h0 : 0 ≤ i) (h1 : i < 20) : XR (wI M (b + 7) i v) b (rs ρ (201 + 2 * i) v) := by
  obtain ⟨g0, g1, g2, g3, g4, g5, g6, g7⟩ := h
  refine ⟨fun j a c => ?_, fun j a c => ?_, fun j a c => ?_, fun j a c => ?_, fun j a c => ?_, fun j a c => ?_, fun j a c => ?_, fun j a c => ?_⟩
  · rw [wI_at]; unfold rs; rw [if_neg (by omega), if_neg (by omega)]; exact g0 j a c
  · rw [wI_at]; unfold rs; rw [if_neg (by omega), if_neg (by omega)]; exact g1 j a c
  · rw [wI_at]; unfold rs; rw [if_neg (by omega), if_neg (by omega)]; exact g2 j a c
  · rw [wI_at]; unfold rs; rw [if_neg (by omega), if_neg (by omega)]; exact g3 j a c
  · rw [wI_at]; unfold rs; rw [if_neg (by omega), if_neg (by omega)]; exact g4 j a c
  · rw [wI_at]; unfold rs; rw [if_neg (by omega), if_neg (by omega)]; exact g5 j a c
  · rw [wI_at]; unfold rs; rw [if_neg (by omega), if_neg (by omega)]; exact g6 j a c
  · rw [wI_at]; unfold rs
    by_cases q : j = i
    · subst q; rw [if_pos ⟨rfl, rfl⟩, if_pos rfl]
    · rw [if_neg (fun z => q z.2), if_neg (by omega)]; exact g7 j a c
theorem rs_same (ρ : Rw) (i v : Int) : rs ρ i v i = v := if_pos rfl
theorem rs_oth {ρ : Rw} {i j v : Int} (h : ¬ j = i) : rs ρ i v j = ρ j := if_neg h
/-- refused by w -/
def rfs (σ : St) (w : Int) : St := (σ.1, σ.2.1, σ.2.2.1, σ.2.2.2.1, rs σ.2.2.2.2.1 (plc w) (σ.2.2.2.2.1 (plc w) + 1), w)
/-- an act of sort a: the row is another one -/
def act (σ : St) (a : Int) (ρ : Rw) : St := (ρ, (a, σ.1) :: σ.2.1.take 9, σ.2.2.1, σ.2.2.2.1, σ.2.2.2.2.1, 0)
def acc (σ : St) : St := (σ.1, σ.2.1, σ.2.2.1, σ.2.2.2.1, σ.2.2.2.2.1, 0)
theorem XI.kp {P : Nat → Prop} {σ : St} {M M' : Mem} (h : XI σ M) (hk : Kp P M M') (hP : ∀ c, c < 105 → ¬ P c) (hP2 : ∀ c, 111 ≤ c → c ≤ 115 → ¬ P c) (hP3 : ∀ c, 125 ≤ c → c ≤ 140 → ¬ P c) : XI σ M' := by
  obtain ⟨h1, h2, h3, h4, h5, h6, h7, h8, h9⟩ := h
  refine ⟨h1.kp hk (fun c a b => hP c (by omega)), h2.kp hk (fun c a b => hP c (by omega)), h3.kp hk (fun c a b => hP c (by omega)), h4.kp hk (fun c a b => hP c (by omega)), h5.kp hk (hP 93 (by decide)) hP3, ?_, ?_, ?_, h9.kp hk hP2⟩
  · intro i a b; rw [hk.at (hP 96 (by decide))]; exact h6 i a b
  · intro i a b; rw [hk.at (hP 95 (by decide))]; exact h7 i a b
  · rw [hk.at (hP 94 (by decide))]; exact h8
theorem X_refuse {σ : St} {M : Mem} (h : XI σ M) {w : Int} (hw : w = -1 ∨ w = -2 ∨ w = -4 ∨ w = -5) : Cal Y_Rf_refuse [vR 94, vI w] M (fun r M' => r = some (vI w) ∧ XI (rfs σ w) M' ∧ Kp KX M M') := by
  refine (refuse_s M hw).mono ?_
  rintro v M' ⟨rfl, rfl⟩
  have hk : Kp (fun c => c = 94 ∨ c = 95) M (wI (wI M 94 1 w) 95 (plc w) (M.1 95 (plc w) + 1)) := Kp.w (Kp.w Kp.rf (Or.inl rfl)) (Or.inr rfl)
  obtain ⟨h1, h2, h3, h4, h5, h6, h7, h8, h9⟩ := h
  have hb := plc_bd w
  refine ⟨rfl, ⟨h1.kp hk (fun c a b => by omega), h2.kp hk (fun c a b => by omega), h3.kp hk (fun c a b => by omega), h4.kp hk (fun c a b => by omega), h5.kp hk (by decide) (fun c a b => by omega), ?_, ?_, ?_, h9.kp hk (fun c a b => by omega)⟩, hk.sub (fun c hc => by unfold KX; omega)⟩
  · intro i a b; rw [hk.at (c := 96) (by decide)]; exact h6 i a b
  · intro i a b
    show (wI (wI M 94 1 w) 95 (plc w) (M.1 95 (plc w) + 1)).1 95 i = rs σ.2.2.2.2.1 (plc w) (σ.2.2.2.2.1 (plc w) + 1) i
    rw [wI_at, wI_c (by decide), h7 (plc w) hb.1 hb.2]
    unfold rs
    by_cases q : i = plc w
    · rw [if_pos ⟨rfl, q⟩, if_pos q]
    · rw [if_neg (fun z => q z.2), if_neg q]; exact h7 i a b
  · rw [wI_c (by decide), wI_same]; rfl
theorem X_accept {σ : St} {M : Mem} (h : XI σ M) : Cal Y_Rf_accept [vR 94] M (fun r M' => r = none ∧ XI (acc σ) M' ∧ Kp (fun c => c = 94) M M') := by
  refine (accept_s M).mono ?_
  rintro v M' ⟨rfl, rfl⟩
  have hk : Kp (fun c => c = 94) M (wI M 94 1 0) := Kp.w Kp.rf rfl
  obtain ⟨h1, h2, h3, h4, h5, h6, h7, h8, h9⟩ := h
  refine ⟨rfl, ⟨h1.kp hk (fun c a b => by omega), h2.kp hk (fun c a b => by omega), h3.kp hk (fun c a b => by omega), h4.kp hk (fun c a b => by omega), h5.kp hk (by decide) (fun c a b => by omega), ?_, ?_, ?_, h9.kp hk (fun c a b => by omega)⟩, hk⟩
  · intro i a b; rw [hk.at (c := 96) (by decide)]; exact h6 i a b
  · intro i a b; rw [hk.at (c := 95) (by decide)]; exact h7 i a b
  · rw [wI_same]; rfl
theorem X_keep {σ : St} {M : Mem} (h : XI σ M) (a : Int) : Cal Y_Hi_keep [vR 9, vR 1, vI a] M (fun r M' => r = none ∧ XI (σ.1, (a, σ.1) :: σ.2.1.take 9, σ.2.2) M' ∧ Kp (fun c => 9 ≤ c ∧ c ≤ 91) M M') := by
  refine (keep_s M h.1 h.2.2.2.1).mono ?_
  rintro v M' ⟨rfl, hU, hk⟩
  obtain ⟨h1, h2, h3, h4, h5, h6, h7, h8, h9⟩ := h
  refine ⟨rfl, ⟨h1.kp hk (fun c a b => by omega), h2.kp hk (fun c a b => by omega), h3.kp hk (fun c a b => by omega), hU, h5.kp hk (by decide) (fun c a b => by omega), ?_, ?_, ?_, h9.kp hk (fun c a b => by omega)⟩, hk⟩
  · intro i a b; rw [hk.at (c := 96) (by decide)]; exact h6 i a b
  · intro i a b; rw [hk.at (c := 95) (by decide)]; exact h7 i a b
  · rw [hk.at (c := 94) (by decide)]; exact h8
theorem X_begin {σ : St} {M : Mem} (h : XI σ M) (a : Int) : Cal Y_CB_begin [vR 0, vI a] M (fun r M' => r = none ∧ XI (act σ a σ.1) M' ∧ Kp (fun c => 9 ≤ c ∧ c ≤ 94) M M') := by
  refine Cal.mk (y := Y_CB_begin) (loc := [vR 0, vI a]) G_CB_begin rfl (by decide) rfl rfl (Nat.le_of_ble_eq_true rfl) ?_
  simp only [r_CB_begin_0, r_CB_begin_1, r_CB_begin_4, true_and, and_true, or_true, true_or, or_false, false_or, false_and, and_false, not_true_eq_false, not_false_eq_true, implies_true, true_implies, false_implies]
  refine (X_accept h).mono ?_
  rintro v M1 ⟨rfl, h1, k1⟩
  simp only [r_CB_begin_7, r_CB_begin_8, r_CB_begin_11, r_CB_begin_12, r_CB_begin_15, r_CB_begin_16, r_CB_begin_19, true_and, and_true, or_true, true_or, or_false, false_or, false_and, and_false, not_true_eq_false, not_false_eq_true, implies_true, true_implies, false_implies]
  refine (X_keep h1 a).mono ?_
  rintro v M2 ⟨rfl, h2, k2⟩
  exact ⟨rfl, h2, (k1.sub (fun c hc => by omega)).trans (k2.sub (fun c hc => by omega))⟩
theorem forget_s (M : Mem) : Cal Y_Co_forget [vR 111] M (fun r M' => r = none ∧ Kp (fun c => c = 111) M M' ∧ ∀ τ, CX τ M') := by
  refine Cal.mk (y := Y_Co_forget) (loc := [vR 111]) G_Co_forget rfl (by decide) rfl rfl (Nat.le_of_ble_eq_true rfl) ?_
  simp only [r_Co_forget_0, r_Co_forget_1, r_Co_forget_2, r_Co_forget_5, r_Co_forget_6, r_Co_forget_7, r_Co_forget_10, r_Co_forget_11, r_Co_forget_12, r_Co_forget_15, true_and, and_true, or_true, true_or, or_false, false_or, false_and, and_false, not_true_eq_false, not_false_eq_true, implies_true, true_implies, false_implies]
  refine ⟨Kp.w (Kp.w (Kp.w Kp.rf rfl) rfl) rfl, fun τ => ⟨Or.inl ?_, Or.inl ?_, Or.inl ?_⟩⟩
  · rw [wI_oth (by decide), wI_oth (by decide), wI_same]
  · rw [wI_oth (by decide), wI_same]
  · rw [wI_same]
/-- the row's tables are the roll's -/
def XQ (M : Mem) (ρ : Rw) : Prop := M.1 1 0 = ρ 0 ∧ (∀ i, 0 ≤ i → i < 10 → M.1 2 i = ρ (6 + i)) ∧ (∀ i, 0 ≤ i → i < 32 → M.1 5 i = ρ (136 + i)) ∧ (∀ i, 0 ≤ i → i < 32 → M.1 6 i = ρ (168 + i))
theorem XR.q {M : Mem} {ρ : Rw} (h : XR M 1 ρ) : XQ M ρ := ⟨h.1 0 (by decide) (by decide), h.2.1, h.2.2.2.2.1, h.2.2.2.2.2.1⟩
theorem XQ.kp {P : Nat → Prop} {M M' : Mem} {ρ : Rw} (h : XQ M ρ) (hk : Kp P M M') (hP : ∀ c, 1 ≤ c → c ≤ 8 → ¬ P c) : XQ M' ρ := by
  have e1 := hk.at (hP 1 (by decide) (by decide))
  have e2 := hk.at (hP 2 (by decide) (by decide))
  have e5 := hk.at (hP 5 (by decide) (by decide))
  have e6 := hk.at (hP 6 (by decide) (by decide))
  unfold XQ at *
  simp only [e1, e2, e5, e6]
  exact h
theorem XI.roll {ρ : Rw} (hV : VR ρ) {M : Mem} (h1 : XQ M ρ) : (∀ f, 0 ≤ f → f < 8 * ρ 0 → M.1 5 (M.1 2 (f / 8) * 8 + f % 8) = wC (tau ρ) f) ∧ (∀ f, 0 ≤ f → f < 8 * ρ 0 → M.1 6 (M.1 2 (f / 8) * 8 + f % 8) = wS (tau ρ) f) := by
  have hn := hV.1
  refine ⟨fun f a b => ?_, fun f a b => ?_⟩
  · have hk := hV.2.2.2.2.1 (f / 8) (by omega) (by omega)
    rw [wC_tau hV a b, h1.2.1 (f / 8) (by omega) (by omega), h1.2.2.1 _ (by omega) (by omega)]
    rfl
  · have hk := hV.2.2.2.2.1 (f / 8) (by omega) (by omega)
    rw [wS_tau hV a b, h1.2.1 (f / 8) (by omega) (by omega), h1.2.2.2 _ (by omega) (by omega)]
    rfl
theorem settle_g {ρ : Rw} (hV : VR ρ) {M : Mem} (h1 : XQ M ρ) : Cal Y_CB_settle [vR 0] M (fun r M' => r = none ∧ RO M' 97 (isC (tau ρ)) (wC (tau ρ)) (8 * ρ 0) ∧ RO M' 101 (isS (tau ρ)) (wS (tau ρ)) (8 * ρ 0) ∧ (∀ τ, CX τ M') ∧ Kp (fun c => (97 ≤ c ∧ c ≤ 104) ∨ c = 111) M M') := by
  have hn := hV.1
  have e0 : M.1 1 0 = ρ 0 := h1.1
  have hr := XI.roll hV h1
  have hC := nC_tau hV
  have hS := nS_tau hV
  refine Cal.mk (y := Y_CB_settle) (loc := [vR 0]) G_CB_settle rfl (by decide) rfl rfl (Nat.le_of_ble_eq_true rfl) ?_
  simp only [r_CB_settle_0, r_CB_settle_1, r_CB_settle_4, r_CB_settle_5, r_CB_settle_8, r_CB_settle_9, r_CB_settle_12, r_CB_settle_15, true_and, and_true, or_true, true_or, or_false, false_or, false_and, and_false, not_true_eq_false, not_false_eq_true, implies_true, true_implies, false_implies]
  refine (call_s_97 M (by omega) (by omega) (fun o a b => ?_) (fun i a b => ?_) (p := fun f => decide (¬ M.1 5 (M.1 2 (f / 8) * 8 + f % 8) = 0)) (wt := fun f => M.1 5 (M.1 2 (f / 8) * 8 + f % 8)) (fun f => rfl) (fun f => rfl) ?_).mono ?_
  · rw [h1.2.1 o a (by omega)]; exact hV.2.2.2.2.1 o a (by omega)
  · rw [h1.2.2.1 i a b]
    have := (hV.2.2.2.2.2.2.2.2.1 i a b).1
    exact r32 (by omega) (by omega)
  · rw [e0]
    have e : cntI (fun f => decide (¬ M.1 5 (M.1 2 (f / 8) * 8 + f % 8) = 0)) (8 * ρ 0) = nC (tau ρ) := by
      unfold nC
      rw [tau_lo (by decide) (by decide)]
      exact cntI_cong (by omega) (fun f a b => by unfold isC; rw [hr.1 f a b])
    rw [e, hC]; exact hV.2.2.2.2.2.2.2.2.2.2.1
  · rintro v M1 ⟨rfl, R1, k1⟩
    simp only [r_CB_settle_18, r_CB_settle_19, r_CB_settle_22, r_CB_settle_23, r_CB_settle_26, r_CB_settle_27, r_CB_settle_30, r_CB_settle_33, true_and, and_true, or_true, true_or, or_false, false_or, false_and, and_false, not_true_eq_false, not_false_eq_true, implies_true, true_implies, false_implies]
    have X1 := h1.kp k1 (fun c a b => by omega)
    have hr1 := XI.roll hV X1
    have e1 : M1.1 1 0 = ρ 0 := X1.1
    refine (call_s_101 M1 (by omega) (by omega) (fun o a b => ?_) (fun i a b => ?_) (p := fun f => decide (¬ M1.1 6 (M1.1 2 (f / 8) * 8 + f % 8) = 0)) (wt := fun f => M1.1 6 (M1.1 2 (f / 8) * 8 + f % 8)) (fun f => rfl) (fun f => rfl) ?_).mono ?_
    · rw [X1.2.1 o a (by omega)]; exact hV.2.2.2.2.1 o a (by omega)
    · rw [X1.2.2.2 i a b]
      have := (hV.2.2.2.2.2.2.2.2.1 i a b).2
      exact r32 (by omega) (by omega)
    · rw [e1]
      have e : cntI (fun f => decide (¬ M1.1 6 (M1.1 2 (f / 8) * 8 + f % 8) = 0)) (8 * ρ 0) = nS (tau ρ) := by
        unfold nS
        rw [tau_lo (by decide) (by decide)]
        exact cntI_cong (by omega) (fun f a b => by unfold isS; rw [hr1.2 f a b])
      rw [e, hS]; exact hV.2.2.2.2.2.2.2.2.2.2.2.1
    · rintro v M2 ⟨rfl, R2, k2⟩
      simp only [r_CB_settle_36, r_CB_settle_37, r_CB_settle_40, r_CB_settle_43, true_and, and_true, or_true, true_or, or_false, false_or, false_and, and_false, not_true_eq_false, not_false_eq_true, implies_true, true_implies, false_implies]
      refine (forget_s M2).mono ?_
      rintro v M3 ⟨rfl, k3, hcx⟩
      rw [e0] at R1
      rw [e1] at R2
      refine ⟨rfl, ?_, ?_, hcx, ?_⟩
      · exact ((R1.cong (by omega) (fun f a b => by unfold isC; rw [hr.1 f a b]) hr.1).kp k2 (fun c a b => by omega)).kp k3 (fun c a b => by omega)
      · exact (R2.cong (by omega) (fun f a b => by unfold isS; rw [hr1.2 f a b]) hr1.2).kp k3 (fun c a b => by omega)
      · exact ((k1.sub (fun c h => by omega)).trans (k2.sub (fun c h => by omega))).trans (k3.sub (fun c h => by omega))
theorem settle_s {ρ : Rw} (hV : VR ρ) {M : Mem} (h1 : XR M 1 ρ) : Cal Y_CB_settle [vR 0] M (fun r M' => r = none ∧ RO M' 97 (isC (tau ρ)) (wC (tau ρ)) (8 * ρ 0) ∧ RO M' 101 (isS (tau ρ)) (wS (tau ρ)) (8 * ρ 0) ∧ (∀ τ, CX τ M') ∧ Kp (fun c => (97 ≤ c ∧ c ≤ 104) ∨ c = 111) M M') := settle_g hV h1.q
/-- what the rolls' sizes are -/
theorem XI_nC {σ : St} (hV : VR σ.1) {M : Mem} (h : XI σ M) : M.1 97 0 = nC σ.1 := by
  rw [h.2.1.1, ← nC_tau hV]; unfold nC; rw [tau_lo (by decide) (by decide)]
theorem XI_nS {σ : St} (hV : VR σ.1) {M : Mem} (h : XI σ M) : M.1 101 0 = nS σ.1 := by
  rw [h.2.2.1.1, ← nS_tau hV]; unfold nS; rw [tau_lo (by decide) (by decide)]
