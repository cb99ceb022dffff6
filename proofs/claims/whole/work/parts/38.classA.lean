/-! what the acts answer and leave, and that the class does so: terms, link, cut, rule, drop -/
def Qx (s : Int × St) (M : Mem) : Option Vl → Mem → Prop := fun v M' => v = some (vI s.1) ∧ XI s.2 M' ∧ Kp KX M M'
theorem Cal.I {y : Mi} {as : List Vl} {M : Mem} {X : Int} (h : Cal y as M (fun r M' => r = some (vI X) ∧ M' = M)) {K : Int → Mem → Prop} (hk : K X M) : Cal y as M (fun r M' => ∃ z, r = some (vI z) ∧ K z M') := h.mono (by rintro v M' ⟨rfl, rfl⟩; exact ⟨_, rfl, hk⟩)
theorem out_eq {M : Mem} {v n : Int} (hv : R32 v) (hn : R32 n) {A B : Mem → Prop} (h1 : v < 0 ∨ n ≤ v → B M) (h2 : ¬ (v < 0 ∨ n ≤ v) → A M) : Cal Y_CB_outside [vI v, vI n] M (fun r M' => ∃ z, r = some (vI z) ∧ R32 z ∧ (z = 0 → A M') ∧ (¬ z = 0 → B M')) := by
  refine Cal.I (K := fun z M' => R32 z ∧ (z = 0 → A M') ∧ (¬ z = 0 → B M')) (outside_s M hv hn) ?_
  by_cases q : v < 0 ∨ n ≤ v
  · rw [if_pos q]; exact ⟨r32 (by decide) (by decide), fun h => absurd h (by decide), fun _ => h1 q⟩
  · rw [if_neg q]; exact ⟨r32 (by decide) (by decide), fun _ => h2 q, fun h => absurd rfl h⟩
theorem out_ne {M : Mem} {v n : Int} (hv : R32 v) (hn : R32 n) {A B : Mem → Prop} (h1 : v < 0 ∨ n ≤ v → B M) (h2 : ¬ (v < 0 ∨ n ≤ v) → A M) : Cal Y_CB_outside [vI v, vI n] M (fun r M' => ∃ z, r = some (vI z) ∧ R32 z ∧ (¬ z = 0 → B M') ∧ (¬ ¬ z = 0 → A M')) := by
  refine Cal.I (K := fun z M' => R32 z ∧ (¬ z = 0 → B M') ∧ (¬ ¬ z = 0 → A M')) (outside_s M hv hn) ?_
  by_cases q : v < 0 ∨ n ≤ v
  · rw [if_pos q]; exact ⟨r32 (by decide) (by decide), fun _ => h1 q, fun h => absurd (by decide) h⟩
  · rw [if_neg q]; exact ⟨r32 (by decide) (by decide), fun h => absurd rfl h, fun _ => h2 q⟩
theorem Qx.ref {σ : St} {M : Mem} (h : XI σ M) {w : Int} (hw : w = -1 ∨ w = -2 ∨ w = -4 ∨ w = -5) {s : Int × St} (hs : s = (w, rfs σ w)) : Cal Y_Rf_refuse [vR 94, vI w] M (fun v M' => ∃ z, v = some (vI z) ∧ Qx s M (some (vI z)) M') := by
  subst hs
  refine (X_refuse h hw).mono ?_
  rintro v M' ⟨rfl, h1, h2⟩
  exact ⟨w, rfl, rfl, h1, h2⟩
theorem R3 : R32 3 := r32 (by decide) (by decide)
theorem R4 : R32 4 := r32 (by decide) (by decide)
theorem R5 : R32 5 := r32 (by decide) (by decide)
theorem R8 : R32 8 := r32 (by decide) (by decide)
theorem R32n : R32 32 := r32 (by decide) (by decide)
theorem cb_mt_bd {i : Int} (h0 : 0 ≤ i) (h1 : i < 4) : 5 ≤ cb_mt i.toNat ∧ cb_mt i.toNat ≤ 16 := by
  rcases (show i = 0 ∨ i = 1 ∨ i = 2 ∨ i = 3 by omega) with rfl | rfl | rfl | rfl <;> decide
def s_terms (σ : St) (what value : Int) : Int × St := if (what < 0 ∨ 4 ≤ what) ∨ value < 0 ∨ cb_mt what.toNat < value then (-1, rfs σ (-1)) else (σ.2.2.2.1 what, (σ.1, σ.2.1, σ.2.2.1, rs σ.2.2.2.1 what value, σ.2.2.2.2.1, 0))
theorem X_terms {σ : St} {M : Mem} (h : XI σ M) {a b : Int} (ha : R32 a) (hb : R32 b) : Cal Y_CB_terms [vR 0, vI a, vI b] M (Qx (s_terms σ a b) M) := by
  refine Cal.mk (y := Y_CB_terms) (loc := [vR 0, vI a, vI b, vN]) G_CB_terms rfl (by decide) rfl rfl (Nat.le_of_ble_eq_true rfl) ?_
  simp only [r_CB_terms_0, r_CB_terms_1, r_CB_terms_2, r_CB_terms_5, r_CB_terms_8, r_CB_terms_9, r_CB_terms_12, r_CB_terms_13, r_CB_terms_16, r_CB_terms_17, r_CB_terms_18, r_CB_terms_21, r_CB_terms_22, r_CB_terms_25, r_CB_terms_26, r_CB_terms_29, r_CB_terms_30, r_CB_terms_31, r_CB_terms_34, r_CB_terms_37, r_CB_terms_38, r_CB_terms_41, r_CB_terms_42, r_CB_terms_43, r_CB_terms_44, r_CB_terms_45, r_CB_terms_48, r_CB_terms_49, r_CB_terms_50, r_CB_terms_51, r_CB_terms_52, true_and, and_true, or_true, true_or, or_false, false_or, false_and, and_false, not_true_eq_false, not_false_eq_true, implies_true, true_implies, false_implies]
  refine out_ne ha R4 (fun q => Qx.ref h (Or.inl rfl) (if_pos (Or.inl q))) (fun q => ?_)
  refine ⟨hb, fun q2 => Qx.ref h (Or.inl rfl) (if_pos (Or.inr (Or.inl q2))), fun q2 => ?_⟩
  have hm := cb_mt_bd (i := a) (by omega) (by omega)
  refine ⟨by omega, by omega, hb, r32 (by omega) (by omega), fun q3 => ?_, fun q3 => Qx.ref h (Or.inl rfl) (if_pos (Or.inr (Or.inr (by omega))))⟩
  refine (X_accept h).mono ?_
  rintro v M1 ⟨rfl, h1, k1⟩
  have e : s_terms σ a b = (σ.2.2.2.1 a, (σ.1, σ.2.1, σ.2.2.1, rs σ.2.2.2.1 a b, σ.2.2.2.2.1, 0)) := if_neg (by omega)
  rw [e]
  refine ⟨rfl, by omega, by omega, by omega, by omega, ?_, ?_, ?_⟩
  · rw [h1.2.2.2.2.2.1 a (by omega) (by omega)]; rfl
  · have hk : Kp (fun c => c = 96) M1 (wI M1 96 a b) := Kp.w Kp.rf rfl
    obtain ⟨h1, h2, h3, h4, h5, h6, h7, h8, h9⟩ := h1
    refine ⟨h1.kp hk (fun c a b => by omega), h2.kp hk (fun c a b => by omega), h3.kp hk (fun c a b => by omega), h4.kp hk (fun c a b => by omega), h5.kp hk (by decide) (fun c a b => by omega), ?_, ?_, ?_, h9.kp hk (fun c a b => by omega)⟩
    · intro i p1 p2
      show (wI M1 96 a b).1 96 i = rs σ.2.2.2.1 a b i
      rw [wI_at]; unfold rs
      by_cases q : i = a
      · rw [if_pos ⟨rfl, q⟩, if_pos q]
      · rw [if_neg (fun z => q z.2), if_neg q]; exact h6 i p1 p2
    · intro i a b; rw [hk.at (c := 95) (by decide)]; exact h7 i a b
    · rw [hk.at (c := 94) (by decide)]; exact h8
  · exact (k1.sub (fun c hc => by unfold KX; omega)).trans (Kp.w Kp.rf (by unfold KX; decide))
/-- a row's facts in the memory -/
theorem XR.n {M : Mem} {ρ : Rw} (h : XR M 1 ρ) : M.1 1 0 = ρ 0 ∧ M.1 1 1 = ρ 1 ∧ M.1 1 2 = ρ 2 ∧ M.1 1 3 = ρ 3 ∧ M.1 1 4 = ρ 4 ∧ M.1 1 5 = ρ 5 :=
  ⟨h.1 0 (by decide) (by decide), h.1 1 (by decide) (by decide), h.1 2 (by decide) (by decide), h.1 3 (by decide) (by decide), h.1 4 (by decide) (by decide), h.1 5 (by decide) (by decide)⟩
theorem XR.l {M : Mem} {ρ : Rw} (h : XR M 1 ρ) {l p : Int} (h0 : 0 ≤ l) (h1 : l < 20) (p0 : 0 ≤ p) (p1 : p ≤ 2) : M.1 3 (l * 3 + p) = ρ (16 + 3 * l + p) := by
  rw [h.2.2.1 (l * 3 + p) (by omega) (by omega)]; congr 1; omega
theorem XR.r {M : Mem} {ρ : Rw} (h : XR M 1 ρ) {l p : Int} (h0 : 0 ≤ l) (h1 : l < 12) (p0 : 0 ≤ p) (p1 : p ≤ 4) : M.1 4 (l * 5 + p) = ρ (76 + 5 * l + p) := by
  rw [h.2.2.2.1 (l * 5 + p) (by omega) (by omega)]; congr 1; omega
def isL (ρ : Rw) (r a b l : Int) : Bool := decide (ρ (16 + 3 * l) = r ∧ ρ (17 + 3 * l) = a ∧ ρ (18 + 3 * l) = b)
def hasL (ρ : Rw) (r a b : Int) : Prop := 0 < cntI (isL ρ r a b) (ρ 1)
theorem hasLink_s {M : Mem} {ρ : Rw} (hV : VR ρ) (hX : XR M 1 ρ) {r a b : Int} (hr : R32 r) (ha : R32 a) (hb : R32 b) : Cal Y_Mo_hasLink [vR 1, vI r, vI a, vI b] M (fun v M' => v = some (vI (if 0 < cntI (isL ρ r a b) (ρ 1) then 1 else 0)) ∧ M' = M) := by
  have hn := hV.2.1
  have h0 := hV.1
  have e1 := hX.n.2.1
  refine Cal.mk (y := Y_Mo_hasLink) (loc := [vR 1, vI r, vI a, vI b, vN]) G_Mo_hasLink rfl (by decide) rfl rfl (Nat.le_of_ble_eq_true rfl) ?_
  simp only [r_Mo_hasLink_0, r_Mo_hasLink_1, true_and, and_true, or_true, true_or, or_false, false_or, false_and, and_false, not_true_eq_false, not_false_eq_true, implies_true, true_implies, false_implies]
  refine up_loop (lo := 0) (hi := ρ 1) (P := fun l => cntI (isL ρ r a b) l = 0 → Run C_Mo_hasLink _ 3 [vR 1, vI r, vI a, vI b, vI l] [] M) (fun l hl hln ih hc => ?_) hn.1 rfl
  rw [r_Mo_hasLink_3]
  simp only [r_Mo_hasLink_5, r_Mo_hasLink_6, r_Mo_hasLink_9, r_Mo_hasLink_12, r_Mo_hasLink_13, r_Mo_hasLink_15, r_Mo_hasLink_16, r_Mo_hasLink_19, r_Mo_hasLink_20, r_Mo_hasLink_23, r_Mo_hasLink_24, r_Mo_hasLink_26, r_Mo_hasLink_27, r_Mo_hasLink_30, r_Mo_hasLink_31, r_Mo_hasLink_34, r_Mo_hasLink_35, r_Mo_hasLink_37, r_Mo_hasLink_38, r_Mo_hasLink_41, r_Mo_hasLink_42, r_Mo_hasLink_45, r_Mo_hasLink_46, r_Mo_hasLink_47, r_Mo_hasLink_50, r_Mo_hasLink_53, r_Mo_hasLink_54, e1, true_and, and_true, or_true, true_or, or_false, false_or, false_and, and_false, not_true_eq_false, not_false_eq_true, implies_true, true_implies, false_implies]
  refine ⟨r32 (by omega) (by omega), r32 (by omega) (by omega), fun q => ?_, fun q => ?_⟩
  · rw [show ρ 1 = l by omega, hc]; rfl
  · have hv := hV.2.2.2.2.2.1 l hl (by omega)
    have x0 := hX.l (l := l) (p := 0) hl (by omega) (by decide) (by decide)
    have x1 := hX.l (l := l) (p := 1) hl (by omega) (by decide) (by decide)
    have x2 := hX.l (l := l) (p := 2) hl (by omega) (by decide) (by decide)
    rw [show 16 + 3 * l + 0 = 16 + 3 * l by omega] at x0
    rw [show 16 + 3 * l + 1 = 17 + 3 * l by omega] at x1
    rw [show 16 + 3 * l + 2 = 18 + 3 * l by omega] at x2
    have nx : isL ρ r a b l = false → Run C_Mo_hasLink (fun v M' => v = some (vI (if 0 < cntI (isL ρ r a b) (ρ 1) then 1 else 0)) ∧ M' = M) 3 [vR 1, vI r, vI a, vI b, vI (l + 1)] [] M := fun hf => ih (by omega) (by rw [cntI_s _ hl, hf, hc]; rfl)
    refine Cal.I (linkPart_s M (by omega) (by omega)) ?_
    rw [x0]
    refine ⟨r32 (by omega) (by omega), hr, fun q1 => nx (decide_eq_false (fun z => q1 z.1)), fun q1 => ?_⟩
    refine Cal.I (linkPart_s M (by omega) (by omega)) ?_
    rw [x1]
    refine ⟨r32 (by omega) (by omega), ha, fun q2 => nx (decide_eq_false (fun z => q2 z.2.1)), fun q2 => ?_⟩
    refine Cal.I (linkPart_s M (by omega) (by omega)) ?_
    rw [x2]
    refine ⟨r32 (by omega) (by omega), hb, fun q3 => nx (decide_eq_false (fun z => q3 z.2.2)), fun q3 => ?_⟩
    have ht : isL ρ r a b l = true := decide_eq_true ⟨by omega, by omega, by omega⟩
    have := cntI_lt (p := isL ρ r a b) hl (show l < ρ 1 by omega) ht
    rw [if_pos (by omega)]
    exact ⟨rfl, rfl⟩
def addL (ρ : Rw) (r a b : Int) : Rw := rs (rs (rs (rs ρ (16 + 3 * ρ 1) r) (17 + 3 * ρ 1) a) (18 + 3 * ρ 1) b) 1 (ρ 1 + 1)
theorem addLink_s {M : Mem} {ρ : Rw} (hX : XR M 1 ρ) (h0 : 0 ≤ ρ 1) (h1 : ρ 1 < 20) {r a b : Int} : Cal Y_Mo_addLink [vR 1, vI r, vI a, vI b] M (fun v M' => v = none ∧ XR M' 1 (addL ρ r a b) ∧ Kp (fun c => c = 1 ∨ c = 3) M M') := by
  have e1 := hX.n.2.1
  refine Cal.mk (y := Y_Mo_addLink) (loc := [vR 1, vI r, vI a, vI b, vN]) G_Mo_addLink rfl (by decide) rfl rfl (Nat.le_of_ble_eq_true rfl) ?_
  simp only [r_Mo_addLink_0, r_Mo_addLink_1, r_Mo_addLink_4, r_Mo_addLink_5, r_Mo_addLink_6, r_Mo_addLink_8, r_Mo_addLink_9, r_Mo_addLink_12, r_Mo_addLink_14, r_Mo_addLink_15, r_Mo_addLink_16, r_Mo_addLink_17, r_Mo_addLink_18, r_Mo_addLink_19, r_Mo_addLink_22, r_Mo_addLink_24, r_Mo_addLink_25, r_Mo_addLink_26, r_Mo_addLink_27, r_Mo_addLink_28, r_Mo_addLink_29, r_Mo_addLink_32, r_Mo_addLink_34, r_Mo_addLink_35, r_Mo_addLink_36, r_Mo_addLink_37, r_Mo_addLink_38, r_Mo_addLink_39, r_Mo_addLink_40, r_Mo_addLink_43, r_Mo_addLink_44, r_Mo_addLink_45, r_Mo_addLink_48, true_and, and_true, or_true, true_or, or_false, false_or, false_and, and_false, not_true_eq_false, not_false_eq_true, implies_true, true_implies, false_implies, e1]
  refine ⟨by omega, by omega, by omega, by omega, by omega, by omega, ?_, ?_⟩
  · have x1 := hX.s2 (i := ρ 1 * 3 + 0) r (by omega) (by omega)
    have x2 := x1.s2 (i := ρ 1 * 3 + 1) a (by omega) (by omega)
    have x3 := x2.s2 (i := ρ 1 * 3 + 2) b (by omega) (by omega)
    have x4 := x3.s0 (i := 1) (ρ 1 + 1) (by decide) (by decide)
    simp (disch := decide) only [wI_c, e1]
    rw [show 16 + (ρ 1 * 3 + 0) = 16 + 3 * ρ 1 by omega, show 16 + (ρ 1 * 3 + 1) = 17 + 3 * ρ 1 by omega, show 16 + (ρ 1 * 3 + 2) = 18 + 3 * ρ 1 by omega] at x4
    exact x4
  · exact Kp.w (Kp.w (Kp.w (Kp.w Kp.rf (Or.inr rfl)) (Or.inr rfl)) (Or.inr rfl)) (Or.inl rfl)
/-- after a change of the row that leaves the rolls, and with codes forgotten -/
theorem XI.chg {σ : St} {M M' : Mem} {ρ' : Rw} (h : XI σ M) (hV : VR σ.1) (hV' : VR ρ') (hX : XR M' 1 ρ') (hk : Kp (fun c => (1 ≤ c ∧ c ≤ 8) ∨ c = 111) M M') (hc : CX (tau ρ') M') (hs : ∀ i, i = 0 ∨ (6 ≤ i ∧ i < 16) ∨ (136 ≤ i ∧ i < 200) → ρ' i = σ.1 i) : XI (ρ', σ.2) M' := by
  obtain ⟨h1, h2, h3, h4, h5, h6, h7, h8, h9⟩ := h
  have e0 : ρ' 0 = σ.1 0 := hs 0 (Or.inl rfl)
  have hn := hV.1
  have cC : ∀ f, 0 ≤ f → f < 8 * σ.1 0 → wC (tau σ.1) f = wC (tau ρ') f := fun f a b => by
    rw [wC_tau hV a b, wC_tau hV' a (by rw [e0]; exact b)]
    have hkd := hV.2.2.2.2.1 (f / 8) (by omega) (by omega)
    unfold wC
    rw [hs (6 + f / 8) (Or.inr (Or.inl (by omega))), hs _ (Or.inr (Or.inr (by omega)))]
  have cS : ∀ f, 0 ≤ f → f < 8 * σ.1 0 → wS (tau σ.1) f = wS (tau ρ') f := fun f a b => by
    rw [wS_tau hV a b, wS_tau hV' a (by rw [e0]; exact b)]
    have hkd := hV.2.2.2.2.1 (f / 8) (by omega) (by omega)
    unfold wS
    rw [hs (6 + f / 8) (Or.inr (Or.inl (by omega))), hs _ (Or.inr (Or.inr (by omega)))]
  refine ⟨hX, ?_, ?_, h4.kp hk (fun c a b => by omega), h5.kp hk (by decide) (fun c a b => by omega), ?_, ?_, ?_, hc⟩
  · show RO M' 97 _ _ (8 * ρ' 0)
    rw [e0]
    exact (h2.cong (by omega) (fun f a b => by unfold isC; rw [cC f a b]) cC).kp hk (fun c a b => by omega)
  · show RO M' 101 _ _ (8 * ρ' 0)
    rw [e0]
    exact (h3.cong (by omega) (fun f a b => by unfold isS; rw [cS f a b]) cS).kp hk (fun c a b => by omega)
  · intro i a b; rw [hk.at (c := 96) (by decide)]; exact h6 i a b
  · intro i a b; rw [hk.at (c := 95) (by decide)]; exact h7 i a b
  · rw [hk.at (c := 94) (by decide)]; exact h8
theorem nCS_cong {ρ ρ' : Rw} (hV : VR ρ) (hs : ∀ i, i = 0 ∨ (6 ≤ i ∧ i < 16) ∨ (136 ≤ i ∧ i < 200) → ρ' i = ρ i) : nC ρ' = nC ρ ∧ nS ρ' = nS ρ := by
  have hn := hV.1
  have e0 : ρ' 0 = ρ 0 := hs 0 (Or.inl rfl)
  unfold nC nS
  rw [e0]
  refine ⟨cntI_cong (by omega) (fun f a b => ?_), cntI_cong (by omega) (fun f a b => ?_)⟩
  · have hkd := hV.2.2.2.2.1 (f / 8) (by omega) (by omega)
    unfold isC wC
    rw [hs (6 + f / 8) (Or.inr (Or.inl (by omega))), hs _ (Or.inr (Or.inr (by omega)))]
  · have hkd := hV.2.2.2.2.1 (f / 8) (by omega) (by omega)
    unfold isS wS
    rw [hs (6 + f / 8) (Or.inr (Or.inl (by omega))), hs _ (Or.inr (Or.inr (by omega)))]
theorem VR_addL {ρ : Rw} (hV : VR ρ) {r a b : Int} (hr : 0 ≤ r ∧ r ≤ 2) (ha : 0 ≤ a ∧ a < ρ 0) (hb : 0 ≤ b ∧ b < ρ 0) (hn : ρ 1 < 20) (hL : ¬ hasL ρ r a b) : VR (addL ρ r a b) := by
  have hs : ∀ i, ¬ (16 ≤ i ∧ i < 76) → ¬ i = 1 → addL ρ r a b i = ρ i := fun i h1 h2 => by
    have := hV.2.1
    unfold addL; rw [rs_oth h2, rs_oth (by omega), rs_oth (by omega), rs_oth (by omega)]
  have hold : ∀ l p, 0 ≤ l → l < ρ 1 → 0 ≤ p → p ≤ 2 → addL ρ r a b (16 + p + 3 * l) = ρ (16 + p + 3 * l) := fun l p h1 h2 h3 h4 => by
    unfold addL; rw [rs_oth (by omega), rs_oth (by omega), rs_oth (by omega), rs_oth (by omega)]
  have e1 : addL ρ r a b 1 = ρ 1 + 1 := rs_same _ _ _
  have l0 : addL ρ r a b (16 + 3 * ρ 1) = r := by unfold addL; rw [rs_oth (by have := hV.2.1; omega), rs_oth (by omega), rs_oth (by omega), rs_same]
  have l1 : addL ρ r a b (17 + 3 * ρ 1) = a := by unfold addL; rw [rs_oth (by have := hV.2.1; omega), rs_oth (by omega), rs_same]
  have l2 : addL ρ r a b (18 + 3 * ρ 1) = b := by unfold addL; rw [rs_oth (by have := hV.2.1; omega), rs_same]
  obtain ⟨cC, cS⟩ := nCS_cong hV (ρ' := addL ρ r a b) (fun i h => hs i (by omega) (by omega))
  have hno : ∀ l, 0 ≤ l → l < ρ 1 → ¬ (ρ (16 + 3 * l) = r ∧ ρ (17 + 3 * l) = a ∧ ρ (18 + 3 * l) = b) := fun l h1 h2 h3 => by
    have := cntI_lt (p := isL ρ r a b) h1 h2 (decide_eq_true h3)
    have := (cntI_bd (isL ρ r a b) h1).1
    exact hL (by unfold hasL; omega)
  have e0 := hs 0 (by decide) (by decide)
  obtain ⟨v0, v1, v2, v3, v4, v5, v6, v7, v8, v9, v10, v11, v12, v13⟩ := hV
  refine ⟨by rw [e0]; exact v0, by rw [e1]; omega, by rw [hs 2 (by decide) (by decide)]; exact v2, by rw [hs 3 (by decide) (by decide)]; exact v3, fun o p q => ?_, fun l p q => ?_, fun l m p q t => ?_, fun k p q => ?_, fun k p q => ?_, fun k p q => ?_, by rw [cC]; exact v10, by rw [cS]; exact v11, by rw [cS, hs 4 (by decide) (by decide)]; exact v12, by rw [cS, hs 5 (by decide) (by decide)]; exact v13⟩
  · rw [e0] at q
    rw [hs _ (by omega) (by omega)]; exact v4 o p q
  · rw [e1] at q
    rw [e0]
    by_cases hl : l = ρ 1
    · subst hl; rw [l0, l1, l2]; omega
    · have k0 := hold l 0 p (by omega) (by decide) (by decide)
      have k1 := hold l 1 p (by omega) (by decide) (by decide)
      have k2 := hold l 2 p (by omega) (by decide) (by decide)
      rw [Int.add_zero] at k0
      rw [k0, show (17 : Int) = 16 + 1 from rfl, k1, show (18 : Int) = 16 + 2 from rfl, k2]
      exact v5 l p (by omega)
  · rw [e1] at t
    have k0 := hold l 0 p (by omega) (by decide) (by decide)
    have k1 := hold l 1 p (by omega) (by decide) (by decide)
    have k2 := hold l 2 p (by omega) (by decide) (by decide)
    rw [Int.add_zero] at k0
    rw [show (16 : Int) + 1 = 17 from rfl] at k1
    rw [show (16 : Int) + 2 = 18 from rfl] at k2
    rw [k0, k1, k2]
    by_cases hm : m = ρ 1
    · subst hm; rw [l0, l1, l2]; exact hno l p q
    · have j0 := hold m 0 (by omega) (by omega) (by decide) (by decide)
      have j1 := hold m 1 (by omega) (by omega) (by decide) (by decide)
      have j2 := hold m 2 (by omega) (by omega) (by decide) (by decide)
      rw [Int.add_zero] at j0
      rw [show (16 : Int) + 1 = 17 from rfl] at j1
      rw [show (16 : Int) + 2 = 18 from rfl] at j2
      rw [j0, j1, j2]; exact v6 l m p q (by omega)
  · rw [hs 2 (by decide) (by decide)] at q
    rw [hs _ (by omega) (by omega), hs _ (by omega) (by omega), hs _ (by omega) (by omega), hs _ (by omega) (by omega), hs _ (by omega) (by omega)]; exact v7 k p q
  · rw [hs _ (by omega) (by omega), hs _ (by omega) (by omega)]; exact v8 k p q
  · rw [hs 3 (by decide) (by decide)] at q
    rw [hs _ (by omega) (by omega), hs _ (by omega) (by omega), cS]; exact v9 k p q
def s_link (σ : St) (r a b : Int) : Int × St := if r < 0 ∨ 3 ≤ r then (-1, rfs σ (-1)) else if (a < 0 ∨ σ.1 0 ≤ a) ∨ (b < 0 ∨ σ.1 0 ≤ b) then (-2, rfs σ (-2)) else if a = b ∨ 0 < cntI (isL σ.1 r a b) (σ.1 1) then (-4, rfs σ (-4)) else if 20 ≤ σ.1 1 then (-5, rfs σ (-5)) else (σ.1 1, act σ 1 (addL σ.1 r a b))
theorem X_link {σ : St} {M : Mem} (h : XI σ M) (hV : VS σ) {r a b : Int} (hr : R32 r) (ha : R32 a) (hb : R32 b) : Cal Y_CB_link [vR 0, vI r, vI a, vI b] M (Qx (s_link σ r a b) M) := by
  have hX := h.1
  have hv := hV.1
  have h0 := hv.1
  have h1 := hv.2.1
  have e0 := hX.n.1
  have e1 := hX.n.2.1
  refine Cal.mk (y := Y_CB_link) (loc := [vR 0, vI r, vI a, vI b]) G_CB_link rfl (by decide) rfl rfl (Nat.le_of_ble_eq_true rfl) ?_
  simp only [r_CB_link_0, r_CB_link_1, r_CB_link_2, r_CB_link_5, r_CB_link_8, r_CB_link_9, r_CB_link_12, r_CB_link_13, r_CB_link_16, r_CB_link_17, r_CB_link_18, r_CB_link_19, r_CB_link_22, r_CB_link_25, r_CB_link_28, r_CB_link_31, r_CB_link_32, r_CB_link_33, r_CB_link_36, r_CB_link_39, r_CB_link_42, r_CB_link_45, r_CB_link_46, r_CB_link_49, r_CB_link_51, r_CB_link_54, r_CB_link_55, r_CB_link_56, r_CB_link_57, r_CB_link_60, r_CB_link_61, r_CB_link_64, r_CB_link_65, r_CB_link_66, r_CB_link_67, r_CB_link_70, r_CB_link_73, r_CB_link_74, r_CB_link_77, r_CB_link_79, r_CB_link_82, r_CB_link_83, r_CB_link_84, r_CB_link_87, r_CB_link_90, r_CB_link_92, r_CB_link_95, r_CB_link_96, r_CB_link_99, r_CB_link_101, r_CB_link_104, r_CB_link_105, r_CB_link_106, r_CB_link_107, true_and, and_true, or_true, true_or, or_false, false_or, false_and, and_false, not_true_eq_false, not_false_eq_true, implies_true, true_implies, false_implies]
  refine out_eq hr R3 (fun q => Qx.ref h (Or.inl rfl) (if_pos q)) (fun q => ?_)
  rw [e0]
  refine out_ne ha (r32 (by omega) (by omega)) (fun q2 => Qx.ref h (Or.inr (Or.inl rfl)) ((if_neg q).trans (if_pos (Or.inl q2)))) (fun q2 => ?_)
  rw [e0]
  refine out_eq hb (r32 (by omega) (by omega)) (fun q3 => Qx.ref h (Or.inr (Or.inl rfl)) ((if_neg q).trans (if_pos (Or.inr q3)))) (fun q3 => ?_)
  have q23 : ¬ ((a < 0 ∨ σ.1 0 ≤ a) ∨ (b < 0 ∨ σ.1 0 ≤ b)) := fun z => z.elim q2 q3
  refine ⟨ha, hb, fun q4 => Qx.ref h (Or.inr (Or.inr (Or.inl rfl))) ((if_neg q).trans ((if_neg q23).trans (if_pos (Or.inl q4)))), fun q4 => ?_⟩
  refine Cal.I (hasLink_s hv hX hr ha hb) ?_
  by_cases q5 : 0 < cntI (isL σ.1 r a b) (σ.1 1)
  · rw [if_pos q5]
    exact ⟨r32 (by decide) (by decide), fun z => absurd z (by decide), fun _ => Qx.ref h (Or.inr (Or.inr (Or.inl rfl))) ((if_neg q).trans ((if_neg q23).trans (if_pos (Or.inr q5))))⟩
  · rw [if_neg q5]
    have q45 : ¬ (a = b ∨ 0 < cntI (isL σ.1 r a b) (σ.1 1)) := fun z => z.elim q4 q5
    refine ⟨r32 (by decide) (by decide), fun _ => ?_, fun z => absurd rfl z⟩
    rw [e1]
    refine ⟨r32 (by omega) (by omega), r32 (by decide) (by decide), fun q6 => ?_, fun q6 => Qx.ref h (Or.inr (Or.inr (Or.inr rfl))) ((if_neg q).trans ((if_neg q23).trans ((if_neg q45).trans (if_pos (by omega)))))⟩
    have es : s_link σ r a b = (σ.1 1, act σ 1 (addL σ.1 r a b)) := (if_neg q).trans ((if_neg q23).trans ((if_neg q45).trans (if_neg (by omega))))
    rw [es]
    refine (X_begin h 1).mono ?_
    rintro v M1 ⟨rfl, x1, k1⟩
    simp only [r_CB_link_110, r_CB_link_111, r_CB_link_114, r_CB_link_115, r_CB_link_116, r_CB_link_117, true_and, and_true, or_true, true_or, or_false, false_or, false_and, and_false, not_true_eq_false, not_false_eq_true, implies_true, true_implies, false_implies]
    refine (addLink_s x1.1 (ρ := σ.1) h1.1 (by omega)).mono ?_
    rintro v M2 ⟨rfl, x2, k2⟩
    simp only [r_CB_link_120, r_CB_link_121, r_CB_link_124, r_CB_link_127, r_CB_link_128, r_CB_link_131, r_CB_link_134, r_CB_link_135, r_CB_link_136, true_and, and_true, or_true, true_or, or_false, false_or, false_and, and_false, not_true_eq_false, not_false_eq_true, implies_true, true_implies, false_implies]
    refine (forget_s M2).mono ?_
    rintro v M3 ⟨rfl, k3, hc⟩
    have hV' : VR (addL σ.1 r a b) := VR_addL hv (by omega) (by omega) (by omega) (by omega) q5
    have x3 := x2.kp k3 (fun c p q => by omega)
    have e3 := x3.n.2.1
    have e9 : addL σ.1 r a b 1 = σ.1 1 + 1 := rs_same _ _ _
    refine ⟨rfl, ?_, ?_, ?_⟩
    · rw [e3, e9]; congr 2; omega
    · exact x1.chg hv hV' x3 ((k2.sub (fun c z => by omega)).trans (k3.sub (fun c z => by omega))) (hc _) (fun i z => by unfold addL; rw [rs_oth (by omega), rs_oth (by omega), rs_oth (by omega), rs_oth (by omega)]; rfl)
    · exact ((k1.sub (fun c z => by unfold KX; omega)).trans (k2.sub (fun c z => by unfold KX; omega))).trans (k3.sub (fun c z => by unfold KX; omega))
