/-! the reference: its smallest methods, and how it holds the state -/
theorem in_s (M : Mem) {v lo hi : Int} (hv : R64 v) (hl : R64 lo) (hh : R64 hi) : Cal Y_RM_in [vL v, vL lo, vL hi] M (fun r M' => r = some (vI (if lo ≤ v ∧ v ≤ hi then 1 else 0)) ∧ M' = M) := by
  refine Cal.mk (y := Y_RM_in) (loc := [vL v, vN, vL lo, vN, vL hi, vN]) G_RM_in rfl (by decide) rfl rfl (Nat.le_of_ble_eq_true rfl) ?_
  simp only [r_RM_in_0, r_RM_in_1, r_RM_in_2, r_RM_in_3, r_RM_in_6, r_RM_in_7, r_RM_in_9, r_RM_in_10, r_RM_in_13, r_RM_in_14, r_RM_in_17, r_RM_in_18, true_and, and_true, or_true, true_or, or_false, false_or, false_and, and_false, not_true_eq_false, not_false_eq_true, implies_true, true_implies, false_implies]
  refine ⟨hv, hl, c3_r, fun q => ?_, fun q => ⟨hv, hh, c3_r, fun q2 => ?_, fun q2 => ?_⟩⟩
  · have : v < lo := by
      rcases Int.lt_trichotomy v lo with z | z | z
      · exact z
      · rw [c3_eq z] at q; omega
      · rw [c3_gt z] at q; omega
    rw [if_neg (by omega)]
  · rw [c3_p] at q2
    rw [if_neg (by omega)]
  · rw [c3_p] at q2
    have : ¬ v < lo := fun z => q (by rw [c3_lt z]; decide)
    rw [if_pos (by omega)]
theorem R32.l {z : Int} (h : R32 z) : R64 z := ⟨by have := h.1; omega, by have := h.2; omega⟩
theorem in_e {M : Mem} {v lo hi : Int} (hv : R64 v) (hl : R64 lo) (hh : R64 hi) {A B : Mem → Prop} (h1 : lo ≤ v ∧ v ≤ hi → B M) (h2 : ¬ (lo ≤ v ∧ v ≤ hi) → A M) : Cal Y_RM_in [vL v, vL lo, vL hi] M (fun r M' => ∃ z, r = some (vI z) ∧ R32 z ∧ (z = 0 → A M') ∧ (¬ z = 0 → B M')) := (in_s M hv hl hh).Be h1 h2
theorem in_n {M : Mem} {v lo hi : Int} (hv : R64 v) (hl : R64 lo) (hh : R64 hi) {A B : Mem → Prop} (h1 : lo ≤ v ∧ v ≤ hi → B M) (h2 : ¬ (lo ≤ v ∧ v ≤ hi) → A M) : Cal Y_RM_in [vL v, vL lo, vL hi] M (fun r M' => ∃ z, r = some (vI z) ∧ R32 z ∧ (¬ z = 0 → B M') ∧ (¬ ¬ z = 0 → A M')) := (in_s M hv hl hh).Bn h1 h2
theorem l64 {z : Int} (h1 : -1000000000 ≤ z) (h2 : z ≤ 1000000000) : R64 z := r64 (by omega) (by omega)
theorem cnt_rem {p q : Int → Bool} {h : Int} (h0 : 0 ≤ h) (hp : p h = true) (hq : q h = false) (he : ∀ i, 0 ≤ i → ¬ i = h → p i = q i) : ∀ n, 0 ≤ n → cntI p n = cntI q n + (if h < n then 1 else 0) := by
  refine int_ind (by rw [cntI_0, cntI_0, if_neg (by omega)]; rfl) (fun n hn ih => ?_)
  rw [cntI_s p hn, cntI_s q hn, ih]
  by_cases z : n = h
  · rw [z, hp, hq, if_neg (show ¬ h < h by omega), if_pos (show h < h + 1 by omega)]; simp
  · rw [he n hn z]
    by_cases y : h < n
    · have e1 : (if h < n then (1 : Int) else 0) = 1 := if_pos y
      have e2 : (if h < n + 1 then (1 : Int) else 0) = 1 := if_pos (by omega)
      rw [e1, e2]; omega
    · have e1 : (if h < n then (1 : Int) else 0) = 0 := if_neg y
      have e2 : (if h < n + 1 then (1 : Int) else 0) = 0 := if_neg (by omega)
      rw [e1, e2]; omega
theorem lowb_lt {a h n : Int} (h0 : 0 ≤ a) (h1 : a < p2 n) (hl : lowb a h) : h < n := by
  rcases Int.lt_or_le h n with q | q
  · exact q
  · have := bit_hi h0 h1 q
    rw [hl.2.1] at this; exact Bool.noConfusion this
theorem clr_bit {a h i : Int} (h0 : 0 < a) (h1 : a < 1073741824) (hl : lowb a h) (i0 : 0 ≤ i) : bit (iand a (a - 1)) i = (bit a i && !decide (i = h)) := by
  rw [bit_iand (by omega) (by omega) (by omega), pm1_bit (by omega) hl i0]
  by_cases q : i < h
  · rw [if_pos q, hl.2.2 i i0 q]; rfl
  · by_cases q2 : i = h
    · rw [if_neg q, if_pos q2, decide_eq_true q2]; simp
    · rw [if_neg q, if_neg q2, decide_eq_false q2]
      cases bit a i <;> rfl
theorem pc_clear {a : Int} (h0 : 0 < a) (h1 : a < 1073741824) : 0 ≤ iand a (a - 1) ∧ iand a (a - 1) ≤ a ∧ pcI a = pcI (iand a (a - 1)) + 1 := by
  obtain ⟨h, hl⟩ := lowb_ex (a := a) (by omega) (by omega)
  have hb := iand_bd (a := a) (b := a - 1) (by omega) (by omega) (by omega)
  have e30 : p2 30 = 1073741824 := by decide
  have hh := lowb_lt (n := 30) (by omega) (by omega) hl
  refine ⟨hb.1, hb.2, ?_⟩
  have := cnt_rem (p := fun i => bit a i) (q := fun i => bit (iand a (a - 1)) i) hl.1 hl.2.1 (by rw [clr_bit h0 h1 hl hl.1, decide_eq_true rfl]; simp) (fun i i0 z => by rw [clr_bit h0 h1 hl i0, decide_eq_false z]; simp) 31 (by decide)
  rw [if_pos (by omega)] at this
  exact this
theorem bits_s (M : Mem) {v : Int} (v0 : 0 ≤ v) (v1 : v < 1073741824) : Cal Y_RM_bits [vI v] M (fun r M' => r = some (vI (pcI v)) ∧ M' = M) := by
  have key : ∀ (n : Nat) (s acc : Int), 0 ≤ s → s < 1073741824 → pcI s ≤ n → Run C_RM_bits (fun r M' => r = some (vI (acc + pcI s)) ∧ M' = M) 4 [vI v, vI acc, vI s] [] M := by
    intro n
    induction n with
    | zero =>
      intro s acc s0 s1 hn
      rw [r_RM_bits_4]
      simp only [r_RM_bits_5, r_RM_bits_8, r_RM_bits_11, r_RM_bits_12, r_RM_bits_13, r_RM_bits_14, r_RM_bits_15, r_RM_bits_16, r_RM_bits_17, r_RM_bits_20, r_RM_bits_21, true_and, and_true, or_true, true_or, or_false, false_or, false_and, and_false, not_true_eq_false, not_false_eq_true, implies_true, true_implies, false_implies]
      refine ⟨r32 (by omega) (by omega), fun q => ?_, fun q => ?_⟩
      · rw [q, pcI_z, Int.add_zero]
      · have := pc_clear (a := s) (by omega) s1
        have := pcI_bd (iand s (s - 1))
        omega
    | succ n ih =>
      intro s acc s0 s1 hn
      rw [r_RM_bits_4]
      simp only [r_RM_bits_5, r_RM_bits_8, r_RM_bits_11, r_RM_bits_12, r_RM_bits_13, r_RM_bits_14, r_RM_bits_15, r_RM_bits_16, r_RM_bits_17, r_RM_bits_20, r_RM_bits_21, true_and, and_true, or_true, true_or, or_false, false_or, false_and, and_false, not_true_eq_false, not_false_eq_true, implies_true, true_implies, false_implies]
      refine ⟨r32 (by omega) (by omega), fun q => ?_, fun q => ?_⟩
      · rw [q, pcI_z, Int.add_zero]
      · have hc := pc_clear (a := s) (by omega) s1
        have := ih (iand s (s - 1)) (acc + 1) hc.1 (by omega) (by omega)
        rw [show acc + 1 + pcI (iand s (s - 1)) = acc + pcI s by omega] at this
        exact this
  refine Cal.mk (y := Y_RM_bits) (loc := [vI v, vN, vN]) G_RM_bits rfl (by decide) rfl rfl (Nat.le_of_ble_eq_true rfl) ?_
  simp only [r_RM_bits_0, r_RM_bits_1, r_RM_bits_2, r_RM_bits_3, true_and, and_true, or_true, true_or, or_false, false_or, false_and, and_false, not_true_eq_false, not_false_eq_true, implies_true, true_implies, false_implies]
  have := key 31 v 0 v0 v1 (pcI_bd v).2
  rw [Int.zero_add] at this
  exact this
theorem rhas_s (M : Mem) {v i : Int} (hv : 0 ≤ v) (hv2 : v < 2147483648) (hi : 0 ≤ i) (hi2 : i < 32) : Cal Y_RM_has [vI v, vI i] M (fun r M' => r = some (vI (if bit v i = true then 1 else 0)) ∧ M' = M) := by
  refine Cal.mk (y := Y_RM_has) (loc := [vI v, vI i]) G_RM_has rfl (by decide) rfl rfl (Nat.le_of_ble_eq_true rfl) ?_
  simp only [r_RM_has_0, r_RM_has_1, r_RM_has_2, r_RM_has_3, r_RM_has_4, r_RM_has_5, r_RM_has_6, r_RM_has_9, r_RM_has_10, r_RM_has_13, r_RM_has_14, shr_bit hv hv2, true_and, and_true, or_true, true_or, or_false, false_or, false_and, and_false, not_true_eq_false, not_false_eq_true, implies_true, true_implies, false_implies]
  refine ⟨⟨r32 (by omega) (by omega), hi, hi2⟩, ?_⟩
  by_cases q : bit v i = true
  · rw [if_pos q]
    exact ⟨r32 (by decide) (by decide), r32 (by decide) (by decide), fun z => absurd rfl z, fun _ => rfl⟩
  · rw [if_neg q]
    exact ⟨r32 (by decide) (by decide), r32 (by decide) (by decide), fun _ => rfl, fun z => absurd (by decide) z⟩
theorem rhas_if {M : Mem} {v i : Int} (hv : 0 ≤ v) (hv2 : v < 2147483648) (hi : 0 ≤ i) (hi2 : i < 32) {A B : Mem → Prop} (h1 : bit v i = true → B M) (h2 : ¬ bit v i = true → A M) : Cal Y_RM_has [vI v, vI i] M (fun r M' => ∃ z, r = some (vI z) ∧ R32 z ∧ (z = 0 → A M') ∧ (¬ z = 0 → B M')) := (rhas_s M hv hv2 hi hi2).Be h1 h2
/-- the row that the reference holds -/
def RR (ρ : Rw) (M : Mem) : Prop := ∀ i, 0 ≤ i → i < 240 → M.1 144 i = ρ i
def MU (us : List (Int × Rw)) (M : Mem) : Prop := M.1 141 7 = (us.length : Int) ∧ us.length ≤ 10 ∧ ∀ (j : Nat) (u : Int × Rw), us[j]? = some u → M.1 146 (us.length - 1 - j) = u.1 ∧ ∀ i, 0 ≤ i → i < 240 → M.1 145 (240 * (us.length - 1 - j) + i) = u.2 i
def MG (im : Int → Option Rw) (M : Mem) : Prop := ∀ k : Int, 0 ≤ k → k < 2 → (M.1 148 k = 0 ∧ im k = none) ∨ (∃ r, M.1 148 k = 1 ∧ im k = some r ∧ ∀ i, 0 ≤ i → i < 240 → M.1 147 (240 * k + i) = r i)
def MI (σ : St) (M : Mem) : Prop := RR σ.1 M ∧ MU σ.2.1 M ∧ MG σ.2.2.1 M ∧ (∀ i, 0 ≤ i → i < 4 → M.1 143 i = σ.2.2.2.1 i) ∧ (M.1 142 1 = σ.2.2.2.2.1 0 ∧ M.1 142 2 = σ.2.2.2.2.1 1 ∧ M.1 142 4 = σ.2.2.2.2.1 2 ∧ M.1 142 5 = σ.2.2.2.2.1 3) ∧ M.1 141 1 = σ.2.2.2.2.2
/-- what the reference's own workings leave alone -/
def KR (M M' : Mem) : Prop := Kp (fun c => c = 141 ∨ 149 ≤ c) M M' ∧ M'.1 141 1 = M.1 141 1 ∧ M'.1 141 7 = M.1 141 7
theorem KR.rf {M : Mem} : KR M M := ⟨Kp.rf, rfl, rfl⟩
theorem KR.trans {M M' M'' : Mem} (h1 : KR M M') (h2 : KR M' M'') : KR M M'' := ⟨h1.1.trans h2.1, h2.2.1.trans h1.2.1, h2.2.2.trans h1.2.2⟩
theorem KR.w1 {M M' : Mem} {i z : Int} (h : KR M M') (h1 : 1 ≠ i) (h7 : 7 ≠ i) : KR M (wI M' 141 i z) := ⟨Kp.w h.1 (Or.inl rfl), (wI_oth h1).trans h.2.1, (wI_oth h7).trans h.2.2⟩
theorem KR.w2 {M M' : Mem} {c : Nat} {i z : Int} (h : KR M M') (hc : 149 ≤ c) : KR M (wI M' c i z) := ⟨Kp.w h.1 (Or.inr hc), by rw [wI_c (by omega)]; exact h.2.1, by rw [wI_c (by omega)]; exact h.2.2⟩
theorem KR.m {M M' : Mem} (h : KR M M') : Kp KM M M' := h.1.sub (fun c z => by unfold KM; omega)
theorem KR.rr {ρ : Rw} {M M' : Mem} (h : KR M M') (hr : RR ρ M) : RR ρ M' := fun i a b => by rw [h.1.at (by decide)]; exact hr i a b
theorem MI.kr {σ : St} {M M' : Mem} (h : MI σ M) (hk : KR M M') : MI σ M' := by
  obtain ⟨h1, h2, h3, h4, h5, h6⟩ := h
  have e2 := hk.1.c (c := 142) (by decide)
  have e3 := hk.1.c (c := 143) (by decide)
  have e5 := hk.1.c (c := 145) (by decide)
  have e6 := hk.1.c (c := 146) (by decide)
  have e7 := hk.1.c (c := 147) (by decide)
  have e8 := hk.1.c (c := 148) (by decide)
  refine ⟨hk.rr h1, ?_, ?_, ?_, ?_, ?_⟩
  · unfold MU at *; rw [hk.2.2, e5, e6]; exact h2
  · unfold MG at *; rw [e7, e8]; exact h3
  · rw [e3]; exact h4
  · rw [e2]; exact h5
  · rw [hk.2.1]; exact h6
/-- the class's doings leave the reference alone -/
theorem MI.kx {σ : St} {M M' : Mem} (h : MI σ M) (hk : Kp KX M M') : MI σ M' := by
  obtain ⟨h1, h2, h3, h4, h5, h6⟩ := h
  have e1 := hk.c (c := 141) (by unfold KX; decide)
  have e2 := hk.c (c := 142) (by unfold KX; decide)
  have e3 := hk.c (c := 143) (by unfold KX; decide)
  have e4 := hk.c (c := 144) (by unfold KX; decide)
  have e5 := hk.c (c := 145) (by unfold KX; decide)
  have e6 := hk.c (c := 146) (by unfold KX; decide)
  have e7 := hk.c (c := 147) (by unfold KX; decide)
  have e8 := hk.c (c := 148) (by unfold KX; decide)
  unfold MI RR MU MG at *
  rw [e1, e2, e3, e4, e5, e6, e7, e8]
  exact ⟨h1, h2, h3, h4, h5, h6⟩
