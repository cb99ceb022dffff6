/-! cause, sign, object: how many causes and signs there are then -/
theorem cntI_or {p q r : Int → Bool} : ∀ n : Int, 0 ≤ n → (∀ i, 0 ≤ i → i < n → r i = true → p i = true ∨ q i = true) → cntI r n ≤ cntI p n + cntI q n := by
  intro n hn
  refine int_ind (P := fun n => (∀ i, 0 ≤ i → i < n → r i = true → p i = true ∨ q i = true) → cntI r n ≤ cntI p n + cntI q n) (fun _ => by simp only [cntI_0]; omega) (fun n hn ih h => ?_) n hn
  have ih := ih (fun i a b => h i a (by omega))
  have hh := h n hn (by omega)
  rw [cntI_s _ hn, cntI_s _ hn, cntI_s _ hn]
  cases hr : r n with
  | false => simp only [Bool.false_eq_true, if_false]; split <;> split <;> omega
  | true =>
    rcases hh hr with e | e
    · rw [e]; simp only [if_true]; split <;> omega
    · rw [e]; simp only [if_true]; split <;> omega
theorem cntI_blk (p : Int → Bool) : ∀ n : Int, 0 ≤ n → cntI p (8 * n) = sumI (fun o => cntI (fun j => p (8 * o + j)) 8) n := by
  intro n hn
  refine int_ind (P := fun n => cntI p (8 * n) = sumI (fun o => cntI (fun j => p (8 * o + j)) 8) n) rfl (fun n hn ih => ?_) n hn
  rw [sumI_s _ hn, ← ih, show 8 * (n + 1) = 8 * n + 8 by omega]
  exact cntI_split p (by omega) (by decide)
theorem cntI_one {e : Int} : ∀ n : Int, 0 ≤ n → 0 ≤ e → cntI (fun j => decide (j = e)) n = if e < n then 1 else 0 := by
  intro n hn he
  refine int_ind (P := fun n => cntI (fun j => decide (j = e)) n = if e < n then 1 else 0) ?_ (fun n hn ih => ?_) n hn
  · rw [cntI_0, if_neg (by omega)]
  · rw [cntI_s _ hn, ih]
    by_cases h1 : n = e
    · subst h1; rw [if_neg (by omega), if_pos (by simp), if_pos (by omega)]; rfl
    · rw [if_neg (c := decide (n = e) = true) (by simp [h1])]
      by_cases h2 : e < n
      · rw [if_pos h2, if_pos (by omega)]; rfl
      · rw [if_neg h2, if_neg (by omega)]; rfl
def kc (ρ : Rw) (k : Int) : Int := cntI (fun o => decide (ρ (6 + o) = k)) (ρ 0)
def mk (ρ : Rw) (b k : Int) : Int := cntI (fun j => decide (¬ ρ (b + (k * 8 + j)) = 0)) 8
theorem kc_facts {ρ : Rw} (hV : VR ρ) {k e : Int} (he : 0 ≤ e) (he2 : e < 8) : cntI (fun f => decide (ρ (6 + f / 8) * 8 + f % 8 = k * 8 + e)) (8 * ρ 0) = kc ρ k := by
  have hn := hV.1
  rw [cntI_blk _ _ hn.1]
  unfold kc cntI
  refine sumI_cong _ hn.1 (fun o a b => ?_)
  show cntI _ 8 = _
  have e1 : ∀ j, 0 ≤ j → j < 8 → (8 * o + j) / 8 = o ∧ (8 * o + j) % 8 = j := fun j a b => by omega
  by_cases h : ρ (6 + o) = k
  · rw [if_pos (by simp [h])]
    have := cntI_one (e := e) 8 (by decide) he
    rw [if_pos he2] at this
    rw [← this]
    refine cntI_cong (by decide) (fun j p q => ?_)
    rw [(e1 j p q).1, (e1 j p q).2]
    refine decide_eq_decide.mpr ?_
    omega
  · rw [if_neg (by simp [h])]
    refine cntI_no (by decide) (fun j p q => ?_)
    rw [(e1 j p q).1, (e1 j p q).2]
    refine decide_eq_false ?_
    omega
/-- one mark of a kind is another one: how many marked facts there are at most -/
theorem nC_up {ρ : Rw} (hV : VR ρ) {k e w : Int} (hk : 0 ≤ k) (hk2 : k < 4) (he : 0 ≤ e) (he2 : e < 8) : nC (rs ρ (136 + (k * 8 + e)) w) ≤ nC ρ + (if ρ (136 + (k * 8 + e)) = 0 then kc ρ k else 0) := by
  have hn := hV.1
  have e0 : rs ρ (136 + (k * 8 + e)) w 0 = ρ 0 := rs_oth (by omega)
  have ew : ∀ f, 0 ≤ f → f < 8 * ρ 0 → wC (rs ρ (136 + (k * 8 + e)) w) f = if ρ (6 + f / 8) * 8 + f % 8 = k * 8 + e then w else wC ρ f := fun f a b => by
    have hkd := hV.2.2.2.2.1 (f / 8) (by omega) (by omega)
    unfold wC
    rw [rs_oth (i := 136 + (k * 8 + e)) (j := 6 + f / 8) (by omega)]
    unfold rs
    by_cases h : ρ (6 + f / 8) * 8 + f % 8 = k * 8 + e
    · rw [if_pos h, if_pos (by omega)]
    · rw [if_neg h, if_neg (by omega)]
  unfold nC
  rw [e0]
  by_cases hz : ρ (136 + (k * 8 + e)) = 0
  · rw [if_pos hz, ← kc_facts hV he he2]
    refine cntI_or _ (by omega) (fun f a b h => ?_)
    by_cases hq : ρ (6 + f / 8) * 8 + f % 8 = k * 8 + e
    · exact Or.inr (decide_eq_true hq)
    · unfold isC at h ⊢
      rw [ew f a b, if_neg hq] at h
      exact Or.inl h
  · rw [if_neg hz]
    have := cntI_mono (p := isC (rs ρ (136 + (k * 8 + e)) w)) (q := isC ρ) (8 * ρ 0) (by omega) (fun f a b h => ?_)
    · omega
    · by_cases hq : ρ (6 + f / 8) * 8 + f % 8 = k * 8 + e
      · unfold isC wC
        rw [hq]; exact decide_eq_true hz
      · unfold isC at h ⊢
        rw [ew f a b, if_neg hq] at h
        exact h
theorem nS_up {ρ : Rw} (hV : VR ρ) {k e w : Int} (hk : 0 ≤ k) (hk2 : k < 4) (he : 0 ≤ e) (he2 : e < 8) : nS (rs ρ (168 + (k * 8 + e)) w) ≤ nS ρ + (if ρ (168 + (k * 8 + e)) = 0 then kc ρ k else 0) := by
  have hn := hV.1
  have e0 : rs ρ (168 + (k * 8 + e)) w 0 = ρ 0 := rs_oth (by omega)
  have ew : ∀ f, 0 ≤ f → f < 8 * ρ 0 → wS (rs ρ (168 + (k * 8 + e)) w) f = if ρ (6 + f / 8) * 8 + f % 8 = k * 8 + e then w else wS ρ f := fun f a b => by
    have hkd := hV.2.2.2.2.1 (f / 8) (by omega) (by omega)
    unfold wS
    rw [rs_oth (i := 168 + (k * 8 + e)) (j := 6 + f / 8) (by omega)]
    unfold rs
    by_cases h : ρ (6 + f / 8) * 8 + f % 8 = k * 8 + e
    · rw [if_pos h, if_pos (by omega)]
    · rw [if_neg h, if_neg (by omega)]
  unfold nS
  rw [e0]
  by_cases hz : ρ (168 + (k * 8 + e)) = 0
  · rw [if_pos hz, ← kc_facts hV he he2]
    refine cntI_or _ (by omega) (fun f a b h => ?_)
    by_cases hq : ρ (6 + f / 8) * 8 + f % 8 = k * 8 + e
    · exact Or.inr (decide_eq_true hq)
    · unfold isS at h ⊢
      rw [ew f a b, if_neg hq] at h
      exact Or.inl h
  · rw [if_neg hz]
    have := cntI_mono (p := isS (rs ρ (168 + (k * 8 + e)) w)) (q := isS ρ) (8 * ρ 0) (by omega) (fun f a b h => ?_)
    · omega
    · by_cases hq : ρ (6 + f / 8) * 8 + f % 8 = k * 8 + e
      · unfold isS wS
        rw [hq]; exact decide_eq_true hz
      · unfold isS at h ⊢
        rw [ew f a b, if_neg hq] at h
        exact h
theorem nC_cong {ρ ρ' : Rw} (hV : VR ρ) (h0 : ρ' 0 = ρ 0) (hk : ∀ i, 6 ≤ i → i < 16 → ρ' i = ρ i) (hw : ∀ i, 136 ≤ i → i < 168 → ρ' i = ρ i) : nC ρ' = nC ρ := by
  have hn := hV.1
  unfold nC
  rw [h0]
  refine cntI_cong (by omega) (fun f a b => ?_)
  have hkd := hV.2.2.2.2.1 (f / 8) (by omega) (by omega)
  unfold isC wC
  rw [hk (6 + f / 8) (by omega) (by omega), hw _ (by omega) (by omega)]
theorem nS_cong {ρ ρ' : Rw} (h0n : 0 ≤ ρ 0 ∧ ρ 0 ≤ 10) (hkk : ∀ o, 0 ≤ o → o < ρ 0 → 0 ≤ ρ (6 + o) ∧ ρ (6 + o) ≤ 3) (h0 : ρ' 0 = ρ 0) (hk : ∀ i, 6 ≤ i → i < 16 → ρ' i = ρ i) (hw : ∀ i, 168 ≤ i → i < 200 → ρ' i = ρ i) : nS ρ' = nS ρ := by
  unfold nS
  rw [h0]
  refine cntI_cong (by omega) (fun f a b => ?_)
  have hkd := hkk (f / 8) (by omega) (by omega)
  unfold isS wS
  rw [hk (6 + f / 8) (by omega) (by omega), hw _ (by omega) (by omega)]
/-- another row of objects and marks -/
theorem VR_mk {ρ ρ' : Rw} (hV : VR ρ) (hs : ∀ i, (1 ≤ i ∧ i ≤ 2) ∨ (16 ≤ i ∧ i < 136) → ρ' i = ρ i) (h0 : ρ 0 ≤ ρ' 0 ∧ ρ' 0 ≤ 10) (hk : ∀ o, 0 ≤ o → o < ρ' 0 → 0 ≤ ρ' (6 + o) ∧ ρ' (6 + o) ≤ 3) (hm : ∀ k, 0 ≤ k → k < 32 → (0 ≤ ρ' (136 + k) ∧ ρ' (136 + k) ≤ 9) ∧ (0 ≤ ρ' (168 + k) ∧ ρ' (168 + k) ≤ 1)) (hC : nC ρ' ≤ 12) (hS : nS ρ' ≤ 12) (h3 : 0 ≤ ρ' 3 ∧ ρ' 3 ≤ 20) (hl : ∀ k, 0 ≤ k → k < ρ' 3 → 0 ≤ ρ' (200 + 2 * k) ∧ ρ' (200 + 2 * k) < nS ρ' ∧ 0 ≤ ρ' (201 + 2 * k) ∧ ρ' (201 + 2 * k) ≤ 999) (h4 : 0 ≤ ρ' 4 ∧ ρ' 4 < p2 (nS ρ')) (h5 : 0 ≤ ρ' 5 ∧ ρ' 5 < p2 (nS ρ')) : VR ρ' := by
  have e1 := hs 1 (by omega)
  have e2 := hs 2 (by omega)
  obtain ⟨v0, v1, v2, v3, v4, v5, v6, v7, v8, v9, v10, v11, v12, v13⟩ := hV
  refine ⟨⟨by omega, h0.2⟩, by rw [e1]; exact v1, by rw [e2]; exact v2, h3, hk, fun m p q => ?_, fun m n p q t => ?_, fun k p q => ?_, hm, hl, hC, hS, h4, h5⟩
  · rw [e1] at q
    have := v5 m p q
    rw [hs (16 + 3 * m) (by omega), hs (17 + 3 * m) (by omega), hs (18 + 3 * m) (by omega)]; omega
  · rw [e1] at t
    rw [hs _ (by omega), hs _ (by omega), hs _ (by omega), hs _ (by omega), hs _ (by omega), hs _ (by omega)]; exact v6 m n p q t
  · rw [e2] at q
    rw [hs _ (by omega), hs _ (by omega), hs _ (by omega), hs _ (by omega), hs _ (by omega)]; exact v7 k p q
theorem rs_kind {ρ : Rw} (hV : VR ρ) {a v : Int} (ha : 136 ≤ a) (o : Int) (h0 : 0 ≤ o) (h1 : o < ρ 0) : 0 ≤ rs ρ a v (6 + o) ∧ rs ρ a v (6 + o) ≤ 3 := by
  have := hV.1
  rw [rs_oth (by omega)]; exact hV.2.2.2.2.1 o h0 h1
theorem VR_cause {ρ : Rw} (hV : VR ρ) {k e w : Int} (hk : 0 ≤ k) (hk2 : k < 4) (he : 0 ≤ e) (he2 : e < 8) (hw : 0 ≤ w ∧ w ≤ 9) (hC : nC (rs ρ (136 + (k * 8 + e)) w) ≤ 12) : VR (rs ρ (136 + (k * 8 + e)) w) := by
  have hs : ∀ i, ¬ i = 136 + (k * 8 + e) → rs ρ (136 + (k * 8 + e)) w i = ρ i := fun i h => rs_oth h
  have eS : nS (rs ρ (136 + (k * 8 + e)) w) = nS ρ := nS_cong hV.1 hV.2.2.2.2.1 (hs _ (by omega)) (fun i a b => hs _ (by omega)) (fun i a b => hs _ (by omega))
  have e0 := hs 0 (by omega)
  have e3 := hs 3 (by omega)
  have e4 := hs 4 (by omega)
  have e5 := hs 5 (by omega)
  have h0 := hV.1
  refine VR_mk hV (fun i h => hs _ (by omega)) (by omega) (fun o a b => rs_kind hV (by omega) o a (by omega)) (fun j a b => ?_) hC (by rw [eS]; exact hV.2.2.2.2.2.2.2.2.2.2.2.1) (by rw [e3]; exact hV.2.2.2.1) (fun j a b => ?_) (by rw [eS, e4]; exact hV.2.2.2.2.2.2.2.2.2.2.2.2.1) (by rw [eS, e5]; exact hV.2.2.2.2.2.2.2.2.2.2.2.2.2)
  · have hm := hV.2.2.2.2.2.2.2.2.1 j a b
    rw [hs (168 + j) (by omega)]
    refine ⟨?_, hm.2⟩
    unfold rs
    split
    · exact hw
    · exact hm.1
  · rw [e3] at b
    have h3 := hV.2.2.2.1
    rw [eS, hs (200 + 2 * j) (by omega), hs (201 + 2 * j) (by omega)]
    exact hV.2.2.2.2.2.2.2.2.2.1 j a b
/-- the class's acts that change a mark or an object -/
theorem XI.new {σ : St} {M1 M2 M3 : Mem} {ρ' : Rw} (h : XI σ M1) (hX : XR M3 1 ρ') (R1 : RO M3 97 (isC (tau ρ')) (wC (tau ρ')) (8 * ρ' 0)) (R2 : RO M3 101 (isS (tau ρ')) (wS (tau ρ')) (8 * ρ' 0)) (hc : CX (tau ρ') M3) (k : Kp (fun c => (1 ≤ c ∧ c ≤ 8) ∨ (97 ≤ c ∧ c ≤ 104) ∨ c = 111) M1 M3) : XI (ρ', σ.2) M3 := by
  obtain ⟨g1, g2, g3, g4, g5, g6, g7, g8, g9⟩ := h
  refine ⟨hX, R1, R2, g4.kp k (fun c a b => by omega), g5.kp k (by decide) (fun c a b => by omega), ?_, ?_, ?_, hc⟩
  · intro i a b; rw [k.at (c := 96) (by decide)]; exact g6 i a b
  · intro i a b; rw [k.at (c := 95) (by decide)]; exact g7 i a b
  · rw [k.at (c := 94) (by decide)]; exact g8
theorem kc_mem {M : Mem} {ρ : Rw} (hX : XR M 1 ρ) (hV : VR ρ) (k : Int) : cntI (fun o => decide (M.1 2 o = k)) (M.1 1 0) = kc ρ k := by
  have := hV.1
  unfold kc
  rw [hX.n.1]
  exact cntI_cong (by omega) (fun o a b => by rw [hX.2.1 o a (by omega)])
theorem kc_s {M : Mem} {ρ : Rw} (hX : XR M 1 ρ) (hV : VR ρ) {k : Int} (hk : R32 k) : Cal Y_Mo_objectsOf [vR 1, vI k] M (fun r M' => r = some (vI (kc ρ k)) ∧ M' = M) := by
  have h0 := hV.1
  rw [← kc_mem hX hV k]
  refine objectsOf_s M hk (by rw [hX.n.1]; omega) (by rw [hX.n.1]; omega) (fun o a b => ?_)
  rw [hX.n.1] at b
  rw [hX.2.1 o a (by omega)]
  have := hV.2.2.2.2.1 o a b
  exact r32 (by omega) (by omega)
theorem kc_bd {ρ : Rw} (hV : VR ρ) (k : Int) : 0 ≤ kc ρ k ∧ kc ρ k ≤ 10 := by
  have h0 := hV.1
  have := cntI_bd (fun o => decide (ρ (6 + o) = k)) h0.1
  unfold kc
  omega
def s_cause (σ : St) (k e w : Int) : Int × St := if (k < 0 ∨ 4 ≤ k) ∨ (e < 0 ∨ 8 ≤ e) ∨ w < 0 ∨ 9 < w then (-1, rfs σ (-1)) else if σ.1 (136 + (k * 8 + e)) = w then (-4, rfs σ (-4)) else if σ.1 (136 + (k * 8 + e)) = 0 ∧ 12 < nC σ.1 + kc σ.1 k then (-5, rfs σ (-5)) else (σ.1 (136 + (k * 8 + e)), act σ 5 (rs σ.1 (136 + (k * 8 + e)) w))
theorem X_cause {σ : St} {M : Mem} (h : XI σ M) (hV : VS σ) {k e w : Int} (hk : R32 k) (he : R32 e) (hw : R32 w) : Cal Y_CB_cause [vR 0, vI k, vI e, vI w] M (Qx (s_cause σ k e w) M) := by
  have hr := hV.1
  have eC := XI_nC hr h
  have h10 := hr.2.2.2.2.2.2.2.2.2.2.1
  have hnn := nC_nn hr.1.1
  have hkc := kc_bd hr k
  refine Cal.mk (y := Y_CB_cause) (loc := [vR 0, vI k, vI e, vI w, vN, vN]) G_CB_cause rfl (by decide) rfl rfl (Nat.le_of_ble_eq_true rfl) ?_
  simp only [r_CB_cause_0, r_CB_cause_1, r_CB_cause_2, r_CB_cause_5, r_CB_cause_8, r_CB_cause_9, r_CB_cause_11, r_CB_cause_14, r_CB_cause_17, r_CB_cause_18, r_CB_cause_21, r_CB_cause_22, r_CB_cause_24, r_CB_cause_27, r_CB_cause_28, r_CB_cause_31, r_CB_cause_32, r_CB_cause_35, true_and, and_true, or_true, true_or, or_false, false_or, false_and, and_false, not_true_eq_false, not_false_eq_true, implies_true, true_implies, false_implies]
  refine out_ne hk R4 (fun q => Qx.ref h (Or.inl rfl) (if_pos (Or.inl q))) (fun q => ?_)
  refine out_ne he R8 (fun q2 => Qx.ref h (Or.inl rfl) (if_pos (Or.inr (Or.inl q2)))) (fun q2 => ?_)
  refine ⟨hw, fun q3 => Qx.ref h (Or.inl rfl) (if_pos (Or.inr (Or.inr (Or.inl q3)))), fun q3 => ⟨hw, r32 (by decide) (by decide), fun q4 => ?_, fun q4 => Qx.ref h (Or.inl rfl) (if_pos (Or.inr (Or.inr (Or.inr (by omega)))))⟩⟩
  have es : s_cause σ k e w = if σ.1 (136 + (k * 8 + e)) = w then (-4, rfs σ (-4)) else if σ.1 (136 + (k * 8 + e)) = 0 ∧ 12 < nC σ.1 + kc σ.1 k then (-5, rfs σ (-5)) else (σ.1 (136 + (k * 8 + e)), act σ 5 (rs σ.1 (136 + (k * 8 + e)) w)) := if_neg (by omega)
  have em := h.1.2.2.2.2.1 (k * 8 + e) (by omega) (by omega)
  have hm := (hr.2.2.2.2.2.2.2.2.1 (k * 8 + e) (by omega) (by omega)).1
  simp only [show (1 + 4 : Nat) = 5 from rfl] at em
  have fin : ¬ σ.1 (136 + (k * 8 + e)) = w → ¬ (σ.1 (136 + (k * 8 + e)) = 0 ∧ 12 < nC σ.1 + kc σ.1 k) → Run C_CB_cause (Qx (s_cause σ k e w) M) 108 [vR 0, vI k, vI e, vI w, vI (k * 8 + e), vI (σ.1 (136 + (k * 8 + e)))] [] M := by
    intro z1 z2
    rw [es, if_neg z1, if_neg z2]
    simp only [r_CB_cause_108, r_CB_cause_109, r_CB_cause_110, true_and, and_true, or_true, true_or, or_false, false_or, false_and, and_false, not_true_eq_false, not_false_eq_true, implies_true, true_implies, false_implies]
    refine (X_begin h 5).mono ?_
    rintro v M1 ⟨rfl, x1, k1⟩
    simp only [r_CB_cause_113, r_CB_cause_114, r_CB_cause_117, r_CB_cause_120, r_CB_cause_122, r_CB_cause_123, r_CB_cause_124, r_CB_cause_125, true_and, and_true, or_true, true_or, or_false, false_or, false_and, and_false, not_true_eq_false, not_false_eq_true, implies_true, true_implies, false_implies]
    refine ⟨by omega, by omega, ?_⟩
    have hX := x1.1.s4 (i := k * 8 + e) w (by omega) (by omega)
    have k2 : Kp (fun c => (1 ≤ c ∧ c ≤ 8) ∨ (97 ≤ c ∧ c ≤ 104) ∨ c = 111) M1 (wI M1 5 (k * 8 + e) w) := Kp.w Kp.rf (by decide)
    have hup := nC_up (w := w) hr (k := k) (e := e) (by omega) (by omega) (by omega) (by omega)
    have hV' : VR (rs σ.1 (136 + (k * 8 + e)) w) := VR_cause hr (by omega) (by omega) (by omega) (by omega) (by omega) (by
      by_cases zz : σ.1 (136 + (k * 8 + e)) = 0
      · rw [if_pos zz] at hup; omega
      · rw [if_neg zz] at hup; omega)
    refine (settle_s hV' hX).mono ?_
    rintro v M3 ⟨rfl, R1, R2, hc, k3⟩
    simp only [r_CB_cause_128, r_CB_cause_130, true_and, and_true, or_true, true_or, or_false, false_or, false_and, and_false, not_true_eq_false, not_false_eq_true, implies_true, true_implies, false_implies]
    have k23 := k2.trans (k3.sub (fun c z => by omega))
    exact ⟨rfl, x1.new (M2 := M3) (hX.kp k3 (fun c a b => by omega)) R1 R2 (hc _) k23, (k1.sub (fun c z => by unfold KX; omega)).trans (k23.sub (fun c z => by unfold KX; omega))⟩
  simp only [r_CB_cause_36, r_CB_cause_37, r_CB_cause_39, r_CB_cause_40, r_CB_cause_41, r_CB_cause_42, r_CB_cause_44, r_CB_cause_45, r_CB_cause_48, r_CB_cause_51, r_CB_cause_53, r_CB_cause_54, r_CB_cause_56, r_CB_cause_58, r_CB_cause_59, r_CB_cause_62, r_CB_cause_63, r_CB_cause_66, r_CB_cause_68, r_CB_cause_71, r_CB_cause_72, r_CB_cause_74, r_CB_cause_77, r_CB_cause_78, r_CB_cause_81, r_CB_cause_84, r_CB_cause_85, r_CB_cause_88, r_CB_cause_89, r_CB_cause_92, r_CB_cause_93, r_CB_cause_95, r_CB_cause_98, r_CB_cause_99, r_CB_cause_102, r_CB_cause_104, r_CB_cause_107, true_and, and_true, or_true, true_or, or_false, false_or, false_and, and_false, not_true_eq_false, not_false_eq_true, implies_true, true_implies, false_implies, em]
  refine ⟨by omega, by omega, r32 (by omega) (by omega), hw, fun z1 => ⟨r32 (by omega) (by omega), fun z2 => fin z1 (by omega), fun z2 => ?_⟩, fun z1 => Qx.ref h (Or.inr (Or.inr (Or.inl rfl))) (es.trans (if_pos (by omega)))⟩
  refine Cal.I (kc_s h.1 hr hk) ?_
  rw [eC]
  refine ⟨r32 (by omega) (by omega), r32 (by decide) (by decide), fun z3 => fin z1 (by omega), fun z3 => Qx.ref h (Or.inr (Or.inr (Or.inr rfl))) (es.trans ((if_neg z1).trans (if_pos (by omega))))⟩
