/-! the class's Spreader: what is told of a spread; time, spread, code of the class -/
theorem bdec {b : Bool} {p : Prop} [Decidable p] (h : b = true ↔ p) : b = decide p := by
  by_cases q : p
  · rw [decide_eq_true q]; exact h.2 q
  · rw [decide_eq_false q]
    cases b with
    | true => exact absurd (h.1 rfl) q
    | false => rfl
theorem bdec' {b : Bool} {p : Prop} (h : b = true ↔ p) : b = dec p := by
  rw [dec_eq (Classical.propDecidable p)]; exact @bdec b p (Classical.propDecidable p) h
theorem Cal.Be {y : Mi} {as : List Vl} {M : Mem} {c : Prop} [Decidable c] (h : Cal y as M (fun r M' => r = some (vI (if c then 1 else 0)) ∧ M' = M)) {A B : Mem → Prop} (h1 : c → B M) (h2 : ¬ c → A M) : Cal y as M (fun r M' => ∃ z, r = some (vI z) ∧ R32 z ∧ (z = 0 → A M') ∧ (¬ z = 0 → B M')) := by
  refine Cal.I (K := fun z M' => R32 z ∧ (z = 0 → A M') ∧ (¬ z = 0 → B M')) h ?_
  by_cases q : c
  · rw [if_pos q]; exact ⟨r32 (by decide) (by decide), fun h => absurd h (by decide), fun _ => h1 q⟩
  · rw [if_neg q]; exact ⟨r32 (by decide) (by decide), fun _ => h2 q, fun h => absurd rfl h⟩
theorem Cal.Bn {y : Mi} {as : List Vl} {M : Mem} {c : Prop} [Decidable c] (h : Cal y as M (fun r M' => r = some (vI (if c then 1 else 0)) ∧ M' = M)) {A B : Mem → Prop} (h1 : c → B M) (h2 : ¬ c → A M) : Cal y as M (fun r M' => ∃ z, r = some (vI z) ∧ R32 z ∧ (¬ z = 0 → B M') ∧ (¬ ¬ z = 0 → A M')) := by
  refine Cal.I (K := fun z M' => R32 z ∧ (¬ z = 0 → B M') ∧ (¬ ¬ z = 0 → A M')) h ?_
  by_cases q : c
  · rw [if_pos q]; exact ⟨r32 (by decide) (by decide), fun _ => h1 q, fun h => absurd (by decide) h⟩
  · rw [if_neg q]; exact ⟨r32 (by decide) (by decide), fun h => absurd rfl h, fun _ => h2 q⟩
theorem ite01 {c : Prop} [Decidable c] : (if c then (1 : Int) else 0) = 0 ∨ (if c then (1 : Int) else 0) = 1 := by
  split
  · exact Or.inr rfl
  · exact Or.inl rfl
theorem p2_10e : p2 10 = 1024 := by decide
theorem factCount_s {M : Mem} (hO : HO M) : Cal Y_Sp_factCount [vR 105] M (fun r M' => r = some (vI (cntI (fun g => decide (M.1 106 g < 1000000)) 80)) ∧ M' = M) := by
  refine Cal.mk (y := Y_Sp_factCount) (loc := [vR 105, vN, vN]) G_Sp_factCount rfl (by decide) rfl rfl (Nat.le_of_ble_eq_true rfl) ?_
  simp only [r_Sp_factCount_0, r_Sp_factCount_1, r_Sp_factCount_2, r_Sp_factCount_3, true_and, and_true, or_true, true_or, or_false, false_or, false_and, and_false, not_true_eq_false, not_false_eq_true, implies_true, true_implies, false_implies]
  refine up_loop (lo := 0) (hi := 8) (P := fun e => Run C_Sp_factCount _ 4 [vR 105, vI (sumI (fun e => cntI (fun o => decide (M.1 106 (8 * o + e) < 1000000)) 10) e), vI e] [] M) (fun e he hen ih => ?_) (by decide)
  rw [r_Sp_factCount_4]
  simp only [r_Sp_factCount_5, r_Sp_factCount_7, r_Sp_factCount_10, r_Sp_factCount_11, r_Sp_factCount_12, r_Sp_factCount_15, r_Sp_factCount_16, r_Sp_factCount_17, r_Sp_factCount_20, r_Sp_factCount_21, r_Sp_factCount_22, r_Sp_factCount_25, r_Sp_factCount_28, r_Sp_factCount_29, true_and, and_true, or_true, true_or, or_false, false_or, false_and, and_false, not_true_eq_false, not_false_eq_true, implies_true, true_implies, false_implies]
  refine ⟨r32 (by omega) (by omega), r32 (by decide) (by decide), fun q => ?_, fun q => ⟨he, by omega, ?_⟩⟩
  · rw [show e = 8 by omega, ← cnt_oe (fun g => decide (M.1 106 g < 1000000)) 10 (by decide)]; rfl
  · have hh := hO.2.1 e he (by omega)
    refine Cal.I (bitCount_s M hh.1.1 (by omega)) ?_
    have := ih (by omega)
    rw [sumI_s _ he] at this
    rw [pcI_n (n := 10) hh.1.1 (by decide) (by decide) (by rw [p2_10e]; exact hh.1.2), cntI_cong (by decide) (fun o a b => bdec (hh.2 o a b))]
    exact this
/-- the latest time up to some fact -/
def laS (T : Int → Int) (k acc : Int) : Int := if T k < 1000000 ∧ acc < T k then T k else acc
theorem la_bd {T : Int → Int} : ∀ n, 0 ≤ n → 0 ≤ foI (laS T) 0 n ∧ foI (laS T) 0 n ≤ 1000000 := by
  refine int_ind (P := fun n => 0 ≤ foI (laS T) 0 n ∧ foI (laS T) 0 n ≤ 1000000) (by rw [foI_0]; decide) (fun n hn ih => ?_)
  rw [foI_s _ _ hn]
  unfold laS at ih ⊢
  split <;> omega
theorem latest_s {M : Mem} (hO : HO M) {n : Int} (e0 : M.1 1 0 = n) (n0 : 0 ≤ n) (n1 : n ≤ 10) : Cal Y_Sp_latest [vR 105] M (fun r M' => r = some (vI (foI (laS (M.1 106)) 0 (8 * n))) ∧ M' = M) := by
  refine Cal.mk (y := Y_Sp_latest) (loc := [vR 105, vN, vN]) G_Sp_latest rfl (by decide) rfl rfl (Nat.le_of_ble_eq_true rfl) ?_
  simp only [r_Sp_latest_0, r_Sp_latest_1, r_Sp_latest_2, r_Sp_latest_3, true_and, and_true, or_true, true_or, or_false, false_or, false_and, and_false, not_true_eq_false, not_false_eq_true, implies_true, true_implies, false_implies]
  refine up_loop (lo := 0) (hi := 8 * n) (P := fun k => Run C_Sp_latest _ 4 [vR 105, vI (foI (laS (M.1 106)) 0 k), vI k] [] M) (fun k hk hkn ih => ?_) (by omega)
  rw [r_Sp_latest_4]
  simp only [r_Sp_latest_5, r_Sp_latest_6, r_Sp_latest_9, r_Sp_latest_12, r_Sp_latest_14, r_Sp_latest_15, r_Sp_latest_18, r_Sp_latest_19, r_Sp_latest_22, r_Sp_latest_23, r_Sp_latest_24, r_Sp_latest_26, r_Sp_latest_29, r_Sp_latest_30, r_Sp_latest_31, r_Sp_latest_34, r_Sp_latest_35, r_Sp_latest_36, r_Sp_latest_39, r_Sp_latest_40, r_Sp_latest_43, r_Sp_latest_46, r_Sp_latest_47, true_and, and_true, or_true, true_or, or_false, false_or, false_and, and_false, not_true_eq_false, not_false_eq_true, implies_true, true_implies, false_implies, e0, show n * 8 = 8 * n by omega]
  refine ⟨r32 (by omega) (by omega), r32 (by omega) (by omega), fun q => ?_, fun q => ⟨hk, by omega, ?_⟩⟩
  · rw [show k = 8 * n by omega]
  · have hb := hO.1 k hk (by omega)
    have hl := la_bd (T := M.1 106) k hk
    have := ih (by omega)
    rw [foI_s _ _ hk] at this
    refine ⟨r32 (by omega) (by omega), r32 (by decide) (by decide), fun q2 => ?_, fun q2 => ⟨hk, by omega, r32 (by omega) (by omega), r32 (by omega) (by omega), ?_⟩⟩
    · rw [show laS (M.1 106) k (foI (laS (M.1 106)) 0 k) = foI (laS (M.1 106)) 0 k from if_neg (by omega)] at this
      exact this
    · rw [show laS (M.1 106) k (foI (laS (M.1 106)) 0 k) = if foI (laS (M.1 106)) 0 k < M.1 106 k then M.1 106 k else foI (laS (M.1 106)) 0 k by
        show (if M.1 106 k < 1000000 ∧ foI (laS (M.1 106)) 0 k < M.1 106 k then M.1 106 k else foI (laS (M.1 106)) 0 k) = _
        by_cases z : foI (laS (M.1 106)) 0 k < M.1 106 k
        · rw [if_pos z, if_pos (by omega)]
        · rw [if_neg z, if_neg (by omega)]] at this
      exact this
/-- objects that have some fact -/
noncomputable def tch (T : Int → Int) : Int := bsI (fun o => dec (∃ e, 0 ≤ e ∧ e < 8 ∧ T (8 * o + e) < 1000000)) 10
theorem touched_s {M : Mem} (hO : HO M) : Cal Y_Sp_touched [vR 105] M (fun r M' => r = some (vI (tch (M.1 106))) ∧ M' = M) := by
  refine Cal.mk (y := Y_Sp_touched) (loc := [vR 105, vN, vN]) G_Sp_touched rfl (by decide) rfl rfl (Nat.le_of_ble_eq_true rfl) ?_
  simp only [r_Sp_touched_0, r_Sp_touched_1, r_Sp_touched_2, r_Sp_touched_3, true_and, and_true, or_true, true_or, or_false, false_or, false_and, and_false, not_true_eq_false, not_false_eq_true, implies_true, true_implies, false_implies]
  refine up_loop (lo := 0) (hi := 8) (P := fun e => ∀ v, 0 ≤ v → v < 1024 → (∀ o, 0 ≤ o → o < 10 → (bit v o = true ↔ ∃ x, 0 ≤ x ∧ x < e ∧ M.1 106 (8 * o + x) < 1000000)) → Run C_Sp_touched _ 4 [vR 105, vI v, vI e] [] M) (fun e he hen ih v v0 v1 hv => ?_) (by decide) 0 (by decide) (by decide) (fun o a b => by rw [bit_0]; exact ⟨fun z => Bool.noConfusion z, fun ⟨x, p, q, _⟩ => by omega⟩)
  rw [r_Sp_touched_4]
  simp only [r_Sp_touched_5, r_Sp_touched_7, r_Sp_touched_10, r_Sp_touched_11, r_Sp_touched_12, r_Sp_touched_15, r_Sp_touched_16, r_Sp_touched_17, r_Sp_touched_18, r_Sp_touched_19, r_Sp_touched_22, r_Sp_touched_25, r_Sp_touched_26, true_and, and_true, or_true, true_or, or_false, false_or, false_and, and_false, not_true_eq_false, not_false_eq_true, implies_true, true_implies, false_implies]
  refine ⟨r32 (by omega) (by omega), r32 (by decide) (by decide), fun q => ?_, fun q => ⟨he, by omega, ?_⟩⟩
  · congr 2
    have hb := bsI_bd (fun o => dec (∃ e, 0 ≤ e ∧ e < 8 ∧ M.1 106 (8 * o + e) < 1000000)) 10
    unfold tch
    apply bit_ext v0 hb.1
    intro o o0
    rw [bsI_bit _ o0]
    by_cases z : o < 10
    · rw [decide_eq_true z, Bool.true_and]
      refine bdec' ?_
      rw [hv o o0 z, show e = 8 by omega]
    · rw [decide_eq_false z, Bool.false_and, bit_hi (n := 10) v0 (by rw [p2_10e]; exact v1) (by omega)]
  · have hh := hO.2.1 e he (by omega)
    have hb := ior_bd (n := 10) (by decide) v0 v1 hh.1.1 hh.1.2
    refine ih (by omega) _ hb.1 hb.2 (fun o a b => ?_)
    rw [bit_ior v0 (by omega) hh.1.1 (by omega), Bool.or_eq_true, hv o a b, hh.2 o a b]
    constructor
    · rintro (⟨x, x0, x1, x2⟩ | z)
      · exact ⟨x, x0, by omega, x2⟩
      · exact ⟨e, he, by omega, z⟩
    · rintro ⟨x, x0, x1, x2⟩
      by_cases z : x = e
      · rw [z] at x2; exact Or.inr x2
      · exact Or.inl ⟨x, x0, by omega, x2⟩
/-- a rule brings some fact at its time -/
def brg (τ : Rw) (w S r : Int) : Prop := ∃ p, 0 ≤ p ∧ p < τ 0 ∧ sp τ w S (8 * p + τ (79 + 5 * r) % 8) < 1000000 ∧ Br τ w (sp τ w S) r p (sp τ w S (8 * p + τ (79 + 5 * r) % 8))
theorem bringers_s {τ : Rw} (hV : VR τ) {w S : Int} {M : Mem} (hX : XT M τ) (hT : LT τ w M) (hF : FL τ w S M) : Cal Y_Sp_bringers [vR 105] M (fun r M' => r = some (vI (bsI (fun r => dec (brg τ w S r)) (τ 2))) ∧ Kp (fun c => 105 ≤ c ∧ c ≤ 107) M M') := by
  have h2 := hV.2.2.1
  refine Cal.mk (y := Y_Sp_bringers) (loc := [vR 105, vN, vN]) G_Sp_bringers rfl (by decide) rfl rfl (Nat.le_of_ble_eq_true rfl) ?_
  simp only [r_Sp_bringers_0, r_Sp_bringers_1, r_Sp_bringers_2, r_Sp_bringers_3, true_and, and_true, or_true, true_or, or_false, false_or, false_and, and_false, not_true_eq_false, not_false_eq_true, implies_true, true_implies, false_implies]
  refine up_loop (lo := 0) (hi := τ 2) (P := fun r => ∀ M1, FL τ w S M1 → Kp (fun c => 105 ≤ c ∧ c ≤ 107) M M1 → Run C_Sp_bringers _ 4 [vR 105, vI (bsI (fun r => dec (brg τ w S r)) r), vI r] [] M1) (fun r hr hrn ih M1 F1 k1 => ?_) h2.1 M hF Kp.rf
  have X1 := hX.kp k1 (fun c a b => by omega)
  have hb := bsI_bd (fun r => dec (brg τ w S r)) r
  rw [r_Sp_bringers_4]
  simp only [r_Sp_bringers_5, r_Sp_bringers_6, r_Sp_bringers_9, r_Sp_bringers_12, r_Sp_bringers_15, r_Sp_bringers_16, r_Sp_bringers_17, r_Sp_bringers_20, r_Sp_bringers_21, r_Sp_bringers_22, r_Sp_bringers_25, r_Sp_bringers_26, r_Sp_bringers_29, r_Sp_bringers_32, r_Sp_bringers_33, r_Sp_bringers_34, r_Sp_bringers_35, r_Sp_bringers_36, r_Sp_bringers_37, r_Sp_bringers_38, r_Sp_bringers_41, r_Sp_bringers_44, r_Sp_bringers_45, true_and, and_true, or_true, true_or, or_false, false_or, false_and, and_false, not_true_eq_false, not_false_eq_true, implies_true, true_implies, false_implies, X1.2.2.1, p2_def]
  refine ⟨r32 (by omega) (by omega), r32 (by omega) (by omega), fun q => ?_, fun q => ?_⟩
  · rw [show r = τ 2 by omega]
    exact ⟨rfl, k1⟩
  · have k2 : Kp (fun c => c = 105) M1 (wI M1 105 8 0) := Kp.w Kp.rf rfl
    have e6 := k2.at (c := 106) (by decide)
    have e7 := k2.at (c := 107) (by decide)
    have O2 : HO (wI M1 105 8 0) := ⟨by simp only [e6]; exact F1.2.1, by simp only [e6, e7]; exact F1.2.2.1, by rw [wI_oth (by decide)]; exact F1.2.2.2.1, trivial⟩
    have k3 := k1.trans (k2.sub (P' := fun c => 105 ≤ c ∧ c ≤ 107) (fun c z => by omega))
    have h58 : (wI M1 105 8 0).1 105 8 = 0 := wI_same _ _ _ _
    have hT6 : ∀ g, 0 ≤ g → g < 80 → (wI M1 105 8 0).1 106 g = sp τ w S g := fun g a b => by rw [e6]; exact F1.1 g a b
    refine (apply_s hV (sp_clo hV w S) hr (by omega) (hX.kp k3 (fun c a b => by omega)) (hT.kp k3 (fun c a b => by omega)) O2 (fun g a b => Int.le_of_eq (hT6 g a b).symm)).mono ?_
    rintro v M2 ⟨rfl, ⟨j1, j2, j3, j4, j5⟩, jb, jc⟩
    have hc := jc hT6 (fun g a b c => by have := sp_bd hV w S a b c; omega)
    have h8 := hc.1 h58
    have hih := ih (by omega) M2 ⟨fun g a b => by have := j1 g a b; have := hT6 g a b; omega, j3⟩ (k3.trans j5)
    rw [bsI_s hr (by omega)] at hih
    refine ⟨rfl, by rcases h8 with z | z <;> rw [z] <;> exact r32 (by decide) (by decide), fun q2 => ?_, fun q2 => ⟨⟨hr, by omega⟩, ?_⟩⟩
    · rw [if_neg] at hih
      · exact hih
      · rw [dec_iff]
        intro z
        exact hc.2.2 (Or.inr z) q2
    · rw [if_pos] at hih
      · exact hih
      · rw [dec_iff]
        exact (hc.2.1 q2).resolve_left (fun z => z h58)
theorem codeOfFlow_s {τ : Rw} (hV : VR τ) {w S : Int} {M : Mem} (hF : FL τ w S M) (hR : RO M 101 (isS τ) (wS τ) (8 * τ 0)) : Cal Y_Co_codeOfFlow [vR 111] M (fun r M' => r = some (vI (cod τ w S)) ∧ M' = M) := by
  have h0 := hV.1
  have hs12 := hV.2.2.2.2.2.2.2.2.2.2.2.1
  have hn0 : 0 ≤ nS τ := nS_nn h0.1
  refine Cal.mk (y := Y_Co_codeOfFlow) (loc := [vR 111, vN, vN]) G_Co_codeOfFlow rfl (by decide) rfl rfl (Nat.le_of_ble_eq_true rfl) ?_
  simp only [r_Co_codeOfFlow_0, r_Co_codeOfFlow_1, r_Co_codeOfFlow_2, r_Co_codeOfFlow_3, true_and, and_true, or_true, true_or, or_false, false_or, false_and, and_false, not_true_eq_false, not_false_eq_true, implies_true, true_implies, false_implies]
  refine up_loop (lo := 0) (hi := nS τ) (P := fun s => Run C_Co_codeOfFlow _ 4 [vR 111, vI (bsI (fun s => decide (sp τ w S (sf τ s) < 1000000)) s), vI s] [] M) (fun s hs hsn ih => ?_) hn0
  rw [r_Co_codeOfFlow_4]
  simp only [r_Co_codeOfFlow_5, r_Co_codeOfFlow_6, r_Co_codeOfFlow_9, r_Co_codeOfFlow_12, r_Co_codeOfFlow_15, r_Co_codeOfFlow_16, r_Co_codeOfFlow_19, r_Co_codeOfFlow_20, r_Co_codeOfFlow_23, r_Co_codeOfFlow_26, r_Co_codeOfFlow_27, r_Co_codeOfFlow_28, r_Co_codeOfFlow_29, r_Co_codeOfFlow_32, r_Co_codeOfFlow_35, r_Co_codeOfFlow_36, r_Co_codeOfFlow_37, r_Co_codeOfFlow_40, r_Co_codeOfFlow_42, r_Co_codeOfFlow_45, r_Co_codeOfFlow_46, r_Co_codeOfFlow_47, r_Co_codeOfFlow_48, r_Co_codeOfFlow_49, r_Co_codeOfFlow_50, r_Co_codeOfFlow_51, r_Co_codeOfFlow_54, r_Co_codeOfFlow_57, r_Co_codeOfFlow_58, true_and, and_true, or_true, true_or, or_false, false_or, false_and, and_false, not_true_eq_false, not_false_eq_true, implies_true, true_implies, false_implies, show M.1 101 0 = nS τ from hR.1, p2_def]
  refine ⟨r32 (by omega) (by omega), r32 (by omega) (by omega), fun q => ?_, fun q => ?_⟩
  · rw [show s = nS τ by omega]; rfl
  · obtain ⟨x0, x1, x2, x3, x4, x5⟩ := hR.si hV hs (by omega)
    simp only [x4, x5]
    refine ⟨hs, by omega, hs, by omega, ?_⟩
    refine Cal.I (timeOf_s M (by omega) (by omega) (by omega) (by omega)) ?_
    rw [show 8 * (sf τ s / 8) + sf τ s % 8 = sf τ s by omega, hF.1 _ x0 (by omega)]
    have hb := sp_nn hV w S x0 (f := sf τ s) (by omega)
    have hih := ih (by omega)
    rw [bsI_s hs (by omega)] at hih
    refine ⟨r32 (by omega) (by omega), r32 (by decide) (by decide), fun q2 => ?_, fun q2 => ⟨⟨hs, by omega⟩, ?_⟩⟩
    · rw [if_neg (by simp only [decide_eq_true_eq]; omega)] at hih
      exact hih
    · rw [if_pos (by simp only [decide_eq_true_eq]; omega)] at hih
      exact hih
theorem XI.rc {σ : St} {M : Mem} (h : XI σ M) : RO M 97 (isC (tau σ.1)) (wC (tau σ.1)) (8 * tau σ.1 0) := by
  rw [tau_lo (by decide) (by decide)]; exact h.2.1
theorem XI.rs {σ : St} {M : Mem} (h : XI σ M) : RO M 101 (isS (tau σ.1)) (wS (tau σ.1)) (8 * tau σ.1 0) := by
  rw [tau_lo (by decide) (by decide)]; exact h.2.2.1
theorem X_readLinks {σ : St} (hV : VS σ) {M : Mem} (h : XI σ M) {w : Int} (hw : R32 w) : Cal Y_Sp_readLinks [vR 105, vI w] M (fun r M' => r = none ∧ XI σ M' ∧ LT (tau σ.1) w M' ∧ Kp (fun c => 105 ≤ c ∧ c ≤ 110) M M') := by
  refine (readLinks_s (VR_tau hV.1) h.1.t hw).mono ?_
  rintro v M' ⟨rfl, h1, h2⟩
  exact ⟨rfl, h.kp h2 (fun c a => by omega) (fun c a b => by omega) (fun c a b => by omega), h1, h2.sub (fun c z => by omega)⟩
theorem X_flow {σ : St} (hV : VS σ) {M : Mem} (h : XI σ M) {w S : Int} (hT : LT (tau σ.1) w M) (S0 : 0 ≤ S) (S1 : S < 4096) : Cal Y_Sp_flow [vR 105, vI S] M (fun r M' => r = none ∧ XI σ M' ∧ LT (tau σ.1) w M' ∧ FL (tau σ.1) w S M' ∧ Kp (fun c => 105 ≤ c ∧ c ≤ 110) M M') := by
  refine (flow_s (VR_tau hV.1) S0 S1 h.1.t hT h.rc).mono ?_
  rintro v M' ⟨rfl, h1, h2⟩
  exact ⟨rfl, h.kp h2 (fun c a => by omega) (fun c a b => by omega) (fun c a b => by omega), hT.kp h2 (fun c a b => by omega), h1, h2.sub (fun c z => by omega)⟩
theorem noSuchCauses_s {σ : St} (hV : VS σ) {M : Mem} (h : XI σ M) {v : Int} (hv : R32 v) : Cal Y_CB_noSuchCauses [vR 0, vI v] M (fun r M' => r = some (vI (if v < 0 ∨ p2 (nC σ.1) ≤ v then 1 else 0)) ∧ M' = M) := by
  have e := XI_nC hV.1 h
  have h0 := nC_nn hV.1.1.1
  have h1 := hV.1.2.2.2.2.2.2.2.2.2.2.1
  have hp := p2_31 (n := nC σ.1) (by omega)
  have hq := p2_pos (nC σ.1)
  refine Cal.mk (y := Y_CB_noSuchCauses) (loc := [vR 0, vI v]) G_CB_noSuchCauses rfl (by decide) rfl rfl (Nat.le_of_ble_eq_true rfl) ?_
  simp only [r_CB_noSuchCauses_0, r_CB_noSuchCauses_1, r_CB_noSuchCauses_2, r_CB_noSuchCauses_3, r_CB_noSuchCauses_6, r_CB_noSuchCauses_9, r_CB_noSuchCauses_10, r_CB_noSuchCauses_13, true_and, and_true, or_true, true_or, or_false, false_or, false_and, and_false, not_true_eq_false, not_false_eq_true, implies_true, true_implies, false_implies, e, p2_def]
  refine ⟨⟨h0, by omega⟩, (outside_s M hv (r32 (by omega) (by omega))).mono ?_⟩
  rintro v M' ⟨rfl, rfl⟩
  exact ⟨_, rfl, ite01, rfl, rfl⟩
theorem noSuchCause_s {σ : St} (hV : VS σ) {M : Mem} (h : XI σ M) {v : Int} (hv : R32 v) : Cal Y_CB_noSuchCause [vR 0, vI v] M (fun r M' => r = some (vI (if v < 0 ∨ nC σ.1 ≤ v then 1 else 0)) ∧ M' = M) := by
  have e := XI_nC hV.1 h
  have h0 := nC_nn hV.1.1.1
  have h1 := hV.1.2.2.2.2.2.2.2.2.2.2.1
  refine Cal.mk (y := Y_CB_noSuchCause) (loc := [vR 0, vI v]) G_CB_noSuchCause rfl (by decide) rfl rfl (Nat.le_of_ble_eq_true rfl) ?_
  simp only [r_CB_noSuchCause_0, r_CB_noSuchCause_1, r_CB_noSuchCause_2, r_CB_noSuchCause_5, r_CB_noSuchCause_8, r_CB_noSuchCause_11, true_and, and_true, or_true, true_or, or_false, false_or, false_and, and_false, not_true_eq_false, not_false_eq_true, implies_true, true_implies, false_implies, e]
  refine (outside_s M hv (r32 (by omega) (by omega))).mono ?_
  rintro v M' ⟨rfl, rfl⟩
  exact ⟨_, rfl, ite01, rfl, rfl⟩
theorem KX_s {M M' : Mem} (h : Kp (fun c => 105 ≤ c ∧ c ≤ 110) M M') : Kp KX M M' := h.sub (fun c z => by unfold KX; omega)
noncomputable def q_time (ρ : Rw) (v o e : Int) : Int := if (v < 0 ∨ p2 (nC ρ) ≤ v) ∨ (o < 0 ∨ ρ 0 ≤ o) ∨ (e < 0 ∨ 8 ≤ e) then -1 else if sp (tau ρ) (-1) v (8 * o + e) = 1000000 then -2 else sp (tau ρ) (-1) v (8 * o + e)
theorem X_time {σ : St} {M : Mem} (h : XI σ M) (hV : VS σ) {v o e : Int} (hv : R32 v) (ho : R32 o) (he : R32 e) : Cal Y_CB_time [vR 0, vI v, vI o, vI e] M (Qx (q_time σ.1 v o e, σ) M) := by
  have h0 := hV.1.1
  have h12 := p2_12 hV.1.2.2.2.2.2.2.2.2.2.2.1
  have e0 := h.1.n.1
  refine Cal.mk (y := Y_CB_time) (loc := [vR 0, vI v, vI o, vI e, vN]) G_CB_time rfl (by decide) rfl rfl (Nat.le_of_ble_eq_true rfl) ?_
  simp only [r_CB_time_0, r_CB_time_1, r_CB_time_2, r_CB_time_5, r_CB_time_8, r_CB_time_9, r_CB_time_10, r_CB_time_13, r_CB_time_16, r_CB_time_19, r_CB_time_22, r_CB_time_23, r_CB_time_25, r_CB_time_28, r_CB_time_31, r_CB_time_32, r_CB_time_33, r_CB_time_34, r_CB_time_37, r_CB_time_38, true_and, and_true, or_true, true_or, or_false, false_or, false_and, and_false, not_true_eq_false, not_false_eq_true, implies_true, true_implies, false_implies, e0]
  refine (noSuchCauses_s hV h hv).Bn (fun q => ⟨by unfold q_time; rw [if_pos (Or.inl q)], h, Kp.rf⟩) (fun q => ?_)
  refine out_ne ho (r32 (by omega) (by omega)) (fun q2 => ⟨by unfold q_time; rw [if_pos (Or.inr (Or.inl (by omega)))], h, Kp.rf⟩) (fun q2 => ?_)
  refine out_eq he R8 (fun q3 => ⟨by unfold q_time; rw [if_pos (Or.inr (Or.inr q3))], h, Kp.rf⟩) (fun q3 => ?_)
  refine (X_readLinks hV h (r32 (by decide) (by decide))).mono ?_
  rintro _ M1 ⟨rfl, h1, t1, k1⟩
  simp only [r_CB_time_41, r_CB_time_42, r_CB_time_45, r_CB_time_46, true_and, and_true, or_true, true_or, or_false, false_or, false_and, and_false, not_true_eq_false, not_false_eq_true, implies_true, true_implies, false_implies]
  refine (X_flow hV h1 t1 (by omega) (by omega)).mono ?_
  rintro _ M2 ⟨rfl, h2, t2, f2, k2⟩
  simp only [r_CB_time_49, r_CB_time_50, r_CB_time_53, r_CB_time_54, r_CB_time_55, r_CB_time_58, r_CB_time_60, r_CB_time_62, r_CB_time_64, r_CB_time_67, r_CB_time_69, r_CB_time_72, r_CB_time_74, true_and, and_true, or_true, true_or, or_false, false_or, false_and, and_false, not_true_eq_false, not_false_eq_true, implies_true, true_implies, false_implies]
  refine Cal.I (timeOf_s M2 (by omega) (by omega) (by omega) (by omega)) ?_
  rw [f2.1 _ (by omega) (by omega)]
  have hb := sp_nn (VR_tau hV.1) (-1) v (f := 8 * o + e) (by omega) (by omega)
  have kk := KX_s (k1.trans k2)
  have ee : q_time σ.1 v o e = if sp (tau σ.1) (-1) v (8 * o + e) = 1000000 then -2 else sp (tau σ.1) (-1) v (8 * o + e) := if_neg (by omega)
  refine ⟨r32 (by omega) (by omega), r32 (by decide) (by decide), fun q4 => ⟨?_, h2, kk⟩, fun q4 => ⟨?_, h2, kk⟩⟩
  · rw [ee, if_neg q4]
  · rw [ee, if_pos (by omega)]
noncomputable def q_code (ρ : Rw) (v : Int) : Int := if v < 0 ∨ p2 (nC ρ) ≤ v then -1 else cod (tau ρ) (-1) v
theorem X_code {σ : St} {M : Mem} (h : XI σ M) (hV : VS σ) {v : Int} (hv : R32 v) : Cal Y_CB_code [vR 0, vI v] M (Qx (q_code σ.1 v, σ) M) := by
  have h12 := p2_12 hV.1.2.2.2.2.2.2.2.2.2.2.1
  refine Cal.mk (y := Y_CB_code) (loc := [vR 0, vI v]) G_CB_code rfl (by decide) rfl rfl (Nat.le_of_ble_eq_true rfl) ?_
  simp only [r_CB_code_0, r_CB_code_1, r_CB_code_2, r_CB_code_5, r_CB_code_8, r_CB_code_9, r_CB_code_10, r_CB_code_11, r_CB_code_14, r_CB_code_15, true_and, and_true, or_true, true_or, or_false, false_or, false_and, and_false, not_true_eq_false, not_false_eq_true, implies_true, true_implies, false_implies]
  refine (noSuchCauses_s hV h hv).Be (fun q => ⟨by unfold q_code; rw [if_pos q], h, Kp.rf⟩) (fun q => ?_)
  refine (X_readLinks hV h (r32 (by decide) (by decide))).mono ?_
  rintro _ M1 ⟨rfl, h1, t1, k1⟩
  simp only [r_CB_code_18, r_CB_code_19, r_CB_code_22, r_CB_code_23, true_and, and_true, or_true, true_or, or_false, false_or, false_and, and_false, not_true_eq_false, not_false_eq_true, implies_true, true_implies, false_implies]
  refine (X_flow hV h1 t1 (by omega) (by omega)).mono ?_
  rintro _ M2 ⟨rfl, h2, t2, f2, k2⟩
  simp only [r_CB_code_26, r_CB_code_27, r_CB_code_30, r_CB_code_33, true_and, and_true, or_true, true_or, or_false, false_or, false_and, and_false, not_true_eq_false, not_false_eq_true, implies_true, true_implies, false_implies]
  refine Cal.I (codeOfFlow_s (VR_tau hV.1) f2 h2.rs) ?_
  exact ⟨by unfold q_code; rw [if_neg q], h2, KX_s (k1.trans k2)⟩
noncomputable def q_spread (ρ : Rw) (v w : Int) : Int := if (v < 0 ∨ p2 (nC ρ) ≤ v) ∨ (w < 0 ∨ 4 ≤ w) then -1 else if w = 0 then cntI (fun g => decide (sp (tau ρ) (-1) v g < 1000000)) 80 else if w = 1 then foI (laS (sp (tau ρ) (-1) v)) 0 80 else if w = 2 then pcI (tch (sp (tau ρ) (-1) v)) else bsI (fun r => dec (brg (tau ρ) (-1) v r)) (ρ 2)
theorem X_spread {σ : St} {M : Mem} (h : XI σ M) (hV : VS σ) {v w : Int} (hv : R32 v) (hw : R32 w) : Cal Y_CB_spread [vR 0, vI v, vI w] M (Qx (q_spread σ.1 v w, σ) M) := by
  have h12 := p2_12 hV.1.2.2.2.2.2.2.2.2.2.2.1
  have h0 := hV.1.1
  refine Cal.mk (y := Y_CB_spread) (loc := [vR 0, vI v, vI w]) G_CB_spread rfl (by decide) rfl rfl (Nat.le_of_ble_eq_true rfl) ?_
  simp only [r_CB_spread_0, r_CB_spread_1, r_CB_spread_2, r_CB_spread_5, r_CB_spread_8, r_CB_spread_9, r_CB_spread_10, r_CB_spread_13, r_CB_spread_16, r_CB_spread_17, r_CB_spread_18, r_CB_spread_19, r_CB_spread_22, r_CB_spread_23, true_and, and_true, or_true, true_or, or_false, false_or, false_and, and_false, not_true_eq_false, not_false_eq_true, implies_true, true_implies, false_implies]
  refine (noSuchCauses_s hV h hv).Bn (fun q => ⟨by unfold q_spread; rw [if_pos (Or.inl q)], h, Kp.rf⟩) (fun q => ?_)
  refine out_eq hw R4 (fun q2 => ⟨by unfold q_spread; rw [if_pos (Or.inr q2)], h, Kp.rf⟩) (fun q2 => ?_)
  refine (X_readLinks hV h (r32 (by decide) (by decide))).mono ?_
  rintro _ M1 ⟨rfl, h1, t1, k1⟩
  simp only [r_CB_spread_26, r_CB_spread_27, r_CB_spread_30, r_CB_spread_31, true_and, and_true, or_true, true_or, or_false, false_or, false_and, and_false, not_true_eq_false, not_false_eq_true, implies_true, true_implies, false_implies]
  refine (X_flow hV h1 t1 (by omega) (by omega)).mono ?_
  rintro _ M2 ⟨rfl, h2, t2, f2, k2⟩
  simp only [r_CB_spread_34, r_CB_spread_35, r_CB_spread_60, r_CB_spread_61, r_CB_spread_64, r_CB_spread_67, r_CB_spread_68, r_CB_spread_69, r_CB_spread_72, r_CB_spread_75, r_CB_spread_76, r_CB_spread_77, r_CB_spread_80, r_CB_spread_83, r_CB_spread_86, r_CB_spread_87, r_CB_spread_88, r_CB_spread_91, r_CB_spread_94, true_and, and_true, or_true, true_or, or_false, false_or, false_and, and_false, not_true_eq_false, not_false_eq_true, implies_true, true_implies, false_implies]
  have kk := KX_s (k1.trans k2)
  have ee : q_spread σ.1 v w = if w = 0 then cntI (fun g => decide (sp (tau σ.1) (-1) v g < 1000000)) 80 else if w = 1 then foI (laS (sp (tau σ.1) (-1) v)) 0 80 else if w = 2 then pcI (tch (sp (tau σ.1) (-1) v)) else bsI (fun r => dec (brg (tau σ.1) (-1) v r)) (σ.1 2) := if_neg (by omega)
  refine ⟨hw, ⟨fun q3 => ?_, fun q3 => ?_, fun q3 => ?_⟩, fun q3 => ?_⟩
  · refine Cal.I (factCount_s f2.2) ⟨?_, h2, kk⟩
    rw [ee, if_pos q3, cntI_cong (by decide) (fun g a b => by rw [f2.1 g a b])]
  · refine Cal.I (latest_s f2.2 h2.1.n.1 h0.1 h0.2) ⟨?_, h2, kk⟩
    rw [ee, if_neg (by omega), if_pos q3, foI_stop (m := 8 * σ.1 0) (by omega) 80 (by omega) (fun k a b c => ?_), foI_ext _ (by omega) (fun k a b c => ?_)]
    · unfold laS; rw [f2.1 k b (by omega)]
    · unfold laS
      rw [if_neg]
      have := sp_out (VR_tau hV.1) (-1) v (f := k) (by rw [tau_lo (by decide) (by decide)]; exact b) c
      omega
  · refine Cal.I (touched_s f2.2) ?_
    have hb := bsI_bd (fun o => dec (∃ e, 0 ≤ e ∧ e < 8 ∧ M2.1 106 (8 * o + e) < 1000000)) 10
    rw [p2_10e] at hb
    refine Cal.I (bitCount_s M2 (v := tch (M2.1 106)) hb.1 (Int.lt_of_lt_of_le hb.2 (by decide))) ⟨?_, h2, kk⟩
    rw [ee, if_neg (by omega), if_neg (by omega), if_pos q3]
    congr 3
    unfold tch
    refine bsI_cong (fun o a b => dec_cong ⟨?_, ?_⟩)
    · rintro ⟨e, e0, e1, e2⟩; exact ⟨e, e0, e1, by rw [← f2.1 _ (by omega) (by omega)]; exact e2⟩
    · rintro ⟨e, e0, e1, e2⟩; exact ⟨e, e0, e1, by rw [f2.1 _ (by omega) (by omega)]; exact e2⟩
  · refine (bringers_s (VR_tau hV.1) h2.1.t t2 f2).mono ?_
    rintro _ M3 ⟨rfl, k3⟩
    refine ⟨_, rfl, ?_, h2.kp k3 (fun c a => by omega) (fun c a b => by omega) (fun c a b => by omega), kk.trans (KX_s (k3.sub (fun c z => by omega)))⟩
    rw [ee, if_neg (by omega), if_neg (by omega), if_neg (by omega), tau_lo (by decide) (by decide)]
