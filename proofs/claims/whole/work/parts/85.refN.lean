/-! the row without a link, as mathematics; ofObject of the reference -/
theorem kth_cong {p q : Int → Bool} {n c : Int} (h : ∀ i, 0 ≤ i → i < n → p i = q i) : kth p n c = kth q n c := by
  have e : (fun f => 0 ≤ f ∧ f < n ∧ p f = true ∧ cntI p f = c) = (fun f => 0 ≤ f ∧ f < n ∧ q f = true ∧ cntI q f = c) := by
    funext f
    refine propext ⟨?_, ?_⟩
    · rintro ⟨a, b, d, e⟩
      exact ⟨a, b, by rw [← h f a b]; exact d, by rw [← e]; exact (cntI_cong a (fun i x y => h i x (by omega))).symm⟩
    · rintro ⟨a, b, d, e⟩
      exact ⟨a, b, by rw [h f a b]; exact d, by rw [← e]; exact cntI_cong a (fun i x y => h i x (by omega))⟩
  unfold kth
  rw [e]
theorem cutL_oth {ρ : Rw} (hV : VR ρ) {l : Int} (l0 : 0 ≤ l) (i : Int) (h1 : ¬ (16 ≤ i ∧ i < 76)) (h2 : ¬ i = 1) : cutL ρ l i = ρ i := by
  have := hV.2.1
  unfold cutL; rw [if_neg h2, if_neg (by omega)]
theorem cutL_1 (ρ : Rw) (l : Int) : cutL ρ l 1 = ρ 1 - 1 := if_pos rfl
theorem cutL_m {ρ : Rw} {l m p : Int} (h1 : 0 ≤ m) (h2 : m < ρ 1 - 1) (h3 : 0 ≤ p) (h4 : p ≤ 2) : cutL ρ l (16 + p + 3 * m) = ρ (16 + p + 3 * (if l ≤ m then m + 1 else m)) := by
  unfold cutL
  rw [if_neg (show ¬ 16 + p + 3 * m = 1 by omega)]
  by_cases q : l ≤ m
  · rw [if_pos (by omega), if_pos q]; congr 1; omega
  · rw [if_neg (by omega), if_neg q]
theorem lk_cut {ρ : Rw} {l : Int} (l0 : 0 ≤ l) (l1 : l < ρ 1) (r a b : Int) : lk (cutL ρ l) (-1) r a b ↔ lk ρ l r a b := by
  have key : ∀ m, 0 ≤ m → m < ρ 1 - 1 → cutL ρ l (16 + 3 * m) = ρ (16 + 3 * (if l ≤ m then m + 1 else m)) ∧ cutL ρ l (17 + 3 * m) = ρ (17 + 3 * (if l ≤ m then m + 1 else m)) ∧ cutL ρ l (18 + 3 * m) = ρ (18 + 3 * (if l ≤ m then m + 1 else m)) := fun m m0 m1 =>
    ⟨cutL_m (p := 0) m0 m1 (by decide) (by decide), cutL_m (p := 1) m0 m1 (by decide) (by decide), cutL_m (p := 2) m0 m1 (by decide) (by decide)⟩
  constructor
  · rintro ⟨m, m0, m1, -, e0, e1, e2⟩
    rw [cutL_1] at m1
    obtain ⟨x0, x1, x2⟩ := key m m0 m1
    refine ⟨if l ≤ m then m + 1 else m, ?_, ?_, ?_, by rw [← x0]; exact e0, by rw [← x1]; exact e1, by rw [← x2]; exact e2⟩
    · split <;> omega
    · split <;> omega
    · split <;> omega
  · rintro ⟨m, m0, m1, m2, e0, e1, e2⟩
    by_cases q : m < l
    · obtain ⟨x0, x1, x2⟩ := key m m0 (by omega)
      rw [if_neg (by omega)] at x0 x1 x2
      exact ⟨m, m0, by rw [cutL_1]; omega, by omega, by rw [x0]; exact e0, by rw [x1]; exact e1, by rw [x2]; exact e2⟩
    · obtain ⟨x0, x1, x2⟩ := key (m - 1) (by omega) (by omega)
      rw [if_pos (by omega), Int.sub_add_cancel] at x0 x1 x2
      exact ⟨m - 1, by omega, by rw [cutL_1]; omega, by omega, by rw [x0]; exact e0, by rw [x1]; exact e1, by rw [x2]; exact e2⟩
theorem src_cut {ρ : Rw} (hV : VR ρ) {l : Int} (l0 : 0 ≤ l) (l1 : l < ρ 1) {r : Int} (r0 : 0 ≤ r) (o : Int) : src (cutL ρ l) (-1) r o = src ρ l r o := by
  have h0 := hV.1
  funext x
  unfold src
  rw [cutL_oth hV l0 (76 + 5 * r) (by omega) (by omega), cutL_oth hV l0 (77 + 5 * r) (by omega) (by omega), cutL_oth hV l0 (78 + 5 * r) (by omega) (by omega)]
  simp only [lk_cut l0 l1]
  have key : (if ρ (76 + 5 * r) = 2 then lk ρ l (ρ (78 + 5 * r)) o x else lk ρ l (ρ (78 + 5 * r)) x o) → cutL ρ l (6 + x) = ρ (6 + x) := fun a => by
    have hx : 0 ≤ x ∧ x < ρ 0 := by
      split at a
      · obtain ⟨m, p, q, -, -, -, c⟩ := a
        have := hV.2.2.2.2.2.1 m p q
        omega
      · obtain ⟨m, p, q, -, -, c, -⟩ := a
        have := hV.2.2.2.2.2.1 m p q
        omega
    exact cutL_oth hV l0 (6 + x) (by omega) (by omega)
  exact propext ⟨fun ⟨a, b⟩ => ⟨a, by rw [← key a]; exact b⟩, fun ⟨a, b⟩ => ⟨a, by rw [key a]; exact b⟩⟩
theorem Br_cut {ρ : Rw} (hV : VR ρ) {l : Int} (l0 : 0 ≤ l) (l1 : l < ρ 1) {r o : Int} (r0 : 0 ≤ r) (o0 : 0 ≤ o) (o1 : o < ρ 0) (T : Int → Int) (t : Int) : Br (cutL ρ l) (-1) T r o t = Br ρ l T r o t := by
  have h0 := hV.1
  unfold Br
  rw [src_cut hV l0 l1 r0 o, cutL_oth hV l0 (76 + 5 * r) (by omega) (by omega), cutL_oth hV l0 (77 + 5 * r) (by omega) (by omega), cutL_oth hV l0 (79 + 5 * r) (by omega) (by omega), cutL_oth hV l0 (80 + 5 * r) (by omega) (by omega), cutL_oth hV l0 (6 + o) (by omega) (by omega)]
theorem w_cut {ρ : Rw} (hV : VR ρ) {l : Int} (l0 : 0 ≤ l) {f : Int} (f0 : 0 ≤ f) (f1 : f < 8 * ρ 0) : wC (cutL ρ l) f = wC ρ f ∧ wS (cutL ρ l) f = wS ρ f := by
  have h0 := hV.1
  have hk := hV.2.2.2.2.1 (f / 8) (by omega) (by omega)
  unfold wC wS
  rw [cutL_oth hV l0 (6 + f / 8) (by omega) (by omega), cutL_oth hV l0 (136 + (ρ (6 + f / 8) * 8 + f % 8)) (by omega) (by omega), cutL_oth hV l0 (168 + (ρ (6 + f / 8) * 8 + f % 8)) (by omega) (by omega)]
  exact ⟨rfl, rfl⟩
theorem isC_cut {ρ : Rw} (hV : VR ρ) {l : Int} (l0 : 0 ≤ l) {f : Int} (f0 : 0 ≤ f) (f1 : f < 8 * ρ 0) : isC (cutL ρ l) f = isC ρ f := by unfold isC; rw [(w_cut hV l0 f0 f1).1]
theorem isS_cut {ρ : Rw} (hV : VR ρ) {l : Int} (l0 : 0 ≤ l) {f : Int} (f0 : 0 ≤ f) (f1 : f < 8 * ρ 0) : isS (cutL ρ l) f = isS ρ f := by unfold isS; rw [(w_cut hV l0 f0 f1).2]
theorem nC_cut {ρ : Rw} (hV : VR ρ) {l : Int} (l0 : 0 ≤ l) : nC (cutL ρ l) = nC ρ := by
  have h0 := hV.1
  unfold nC
  rw [cutL_oth hV l0 0 (by decide) (by decide)]
  exact cntI_cong (by omega) (fun f a b => isC_cut hV l0 a b)
theorem nS_cut {ρ : Rw} (hV : VR ρ) {l : Int} (l0 : 0 ≤ l) : nS (cutL ρ l) = nS ρ := by
  have h0 := hV.1
  unfold nS
  rw [cutL_oth hV l0 0 (by decide) (by decide)]
  exact cntI_cong (by omega) (fun f a b => isS_cut hV l0 a b)
theorem cf_cut {ρ : Rw} (hV : VR ρ) {l : Int} (l0 : 0 ≤ l) (c : Int) : cf (cutL ρ l) c = cf ρ c := by
  unfold cf
  rw [cutL_oth hV l0 0 (by decide) (by decide)]
  exact kth_cong (fun f a b => isC_cut hV l0 a b)
theorem sf_cut {ρ : Rw} (hV : VR ρ) {l : Int} (l0 : 0 ≤ l) (c : Int) : sf (cutL ρ l) c = sf ρ c := by
  unfold sf
  rw [cutL_oth hV l0 0 (by decide) (by decide)]
  exact kth_cong (fun f a b => isS_cut hV l0 a b)
theorem inC_cut {ρ : Rw} (hV : VR ρ) {l : Int} (l0 : 0 ≤ l) (S : Int) {f : Int} (f0 : 0 ≤ f) : inC (cutL ρ l) S f ↔ inC ρ S f := by
  unfold inC
  rw [cutL_oth hV l0 0 (by decide) (by decide)]
  refine and_congr_right (fun h => ?_)
  rw [isC_cut hV l0 f0 h, cntI_cong f0 (fun i a b => isC_cut hV l0 a (by omega))]
theorem Clo_cut {ρ : Rw} (hV : VR ρ) {l : Int} (l0 : 0 ≤ l) (l1 : l < ρ 1) (S : Int) (T : Int → Int) : Clo (cutL ρ l) (-1) S T ↔ Clo ρ l S T := by
  unfold Clo
  rw [cutL_oth hV l0 0 (by decide) (by decide), cutL_oth hV l0 2 (by decide) (by decide)]
  refine and_congr Iff.rfl (and_congr ⟨fun h f a b d => h f a b ((inC_cut hV l0 S a).2 d), fun h f a b d => h f a b ((inC_cut hV l0 S a).1 d)⟩ ⟨fun h r o t a b c d e g => ?_, fun h r o t a b c d e g => ?_⟩)
  · have := h r o t a b c d e (by rw [Br_cut hV l0 l1 a c d]; exact g)
    rw [cutL_oth hV l0 (79 + 5 * r) (by omega) (by omega)] at this
    exact this
  · rw [cutL_oth hV l0 (79 + 5 * r) (by omega) (by omega)]
    rw [Br_cut hV l0 l1 a c d] at g
    exact h r o t a b c d e g
theorem sp_cut {ρ : Rw} (hV : VR ρ) {l : Int} (l0 : 0 ≤ l) (l1 : l < ρ 1) (S f : Int) : sp (cutL ρ l) (-1) S f = sp ρ l S f := by
  have e : Clo (cutL ρ l) (-1) S = Clo ρ l S := funext (fun T => propext (Clo_cut hV l0 l1 S T))
  unfold sp
  rw [e]
theorem cod_cut {ρ : Rw} (hV : VR ρ) {l : Int} (l0 : 0 ≤ l) (l1 : l < ρ 1) (S : Int) : cod (cutL ρ l) (-1) S = cod ρ l S := by
  unfold cod
  rw [nS_cut hV l0]
  exact bsI_cong (fun s a b => by rw [sp_cut hV l0 l1, sf_cut hV l0])
theorem NT_cut {ρ : Rw} (hV : VR ρ) {l : Int} (l0 : 0 ≤ l) {M : Mem} (h : NT ρ M) : NT (cutL ρ l) M := by
  unfold NT
  rw [nC_cut hV l0, nS_cut hV l0]
  refine ⟨h.1, h.2.1, fun c a b => ?_, fun s a b => ?_⟩
  · rw [cf_cut hV l0]; exact h.2.2.1 c a b
  · rw [sf_cut hV l0]; exact h.2.2.2 s a b
theorem RT_cut {ρ : Rw} (hV : VR ρ) {l : Int} (l0 : 0 ≤ l) {M : Mem} (h : RR (cutL ρ l) M) : RT (cutL (tau ρ) l) M := fun i z => by
  have h1 := hV.2.1
  have t1 : tau ρ 1 = ρ 1 := tau_lo (by decide) (by decide)
  rw [h i (by omega) (by omega)]
  unfold cutL
  rw [t1]
  by_cases q : i = 1
  · rw [if_pos q, if_pos q]
  · rw [if_neg q, if_neg q]
    by_cases q2 : 16 + 3 * l ≤ i ∧ i < 16 + 3 * (ρ 1 - 1)
    · rw [if_pos q2, if_pos q2, tau_hi (by omega) (by omega)]
    · rw [if_neg q2, if_neg q2]
      rcases z with z | z
      · rw [tau_lo z.1 z.2]
      · rw [tau_hi z.1 z.2]
theorem M_ofObject {σ : St} {M : Mem} (h : MI σ M) (hV : VS σ) {o w : Int} (ho : R32 o) (hw : R32 w) : Cal Y_RM_ofObject [vR 141, vI o, vI w] M (Qm (s_ofObject σ o w) M) := by
  have h0' := hV.1.1
  have h1' := hV.1.2.1
  have ⟨h0, k0⟩ := th0 h
  have fin : ∀ x, x = (s_ofObject σ o w).1 → Qm (s_ofObject σ o w) M (some (vI x)) (wI M 141 0 0) := fun x e => ⟨by rw [e], h0, k0⟩
  have no : ((o < 0 ∨ σ.1 0 ≤ o) ∨ (w < 0 ∨ 7 ≤ w)) → (s_ofObject σ o w).1 = -1 := fun z => if_pos z
  refine Cal.mk (y := Y_RM_ofObject) (loc := [vR 141, vI o, vI w, vN, vN, vN, vN]) G_RM_ofObject rfl (by decide) rfl rfl (Nat.le_of_ble_eq_true rfl) ?_
  simp only [r_RM_ofObject_0, r_RM_ofObject_1, r_RM_ofObject_2, r_RM_ofObject_5, r_RM_ofObject_6, r_RM_ofObject_7, r_RM_ofObject_10, r_RM_ofObject_13, r_RM_ofObject_14, r_RM_ofObject_15, r_RM_ofObject_16, r_RM_ofObject_19, r_RM_ofObject_22, r_RM_ofObject_25, r_RM_ofObject_26, r_RM_ofObject_27, r_RM_ofObject_28, r_RM_ofObject_29, r_RM_ofObject_30, true_and, and_true, or_true, true_or, or_false, false_or, false_and, and_false, not_true_eq_false, not_false_eq_true, implies_true, true_implies, false_implies]
  generalize hM1 : wI M 141 0 0 = M1 at h0 k0 fin
  refine (isObject_s hV.1 h0.1 ho).Be (fun q => ⟨hw, in_n hw.l (l64 (by decide) (by decide)) (l64 (by decide) (by decide)) (fun q2 => ?_) (fun q2 => fin _ (no (by omega)).symm)⟩) (fun q => fin _ (no (by omega)).symm)
  have e : (s_ofObject σ o w).1 = if w = 0 then σ.1 (6 + o) else if w ≤ 3 then foI (nbS σ.1 o (w - 1) 1) 0 (σ.1 1) else foI (nbS σ.1 o (w - 4) 2) 0 (σ.1 1) := if_neg (by omega)
  have hr : (w = 0 → Int.tmod (w - 1) 3 = -1) ∧ (1 ≤ w ∧ w ≤ 3 → Int.tmod (w - 1) 3 = w - 1) ∧ (4 ≤ w → Int.tmod (w - 1) 3 = w - 4) := by
    refine ⟨fun z => by rw [z]; decide, fun z => ?_, fun z => ?_⟩
    · rw [Int.tmod_eq_emod_of_nonneg (by omega)]; omega
    · rw [Int.tmod_eq_emod_of_nonneg (by omega)]; omega
  generalize hp : (if w < 4 then (1 : Int) else 2) = p
  have hp' : (w < 4 ∧ p = 1) ∨ (4 ≤ w ∧ p = 2) := by
    rw [← hp]; split <;> omega
  generalize hrr : Int.tmod (w - 1) 3 = r at hr
  refine up_loop (lo := 0) (hi := σ.1 1) (P := fun l => ∀ l5 l6, Run C_RM_ofObject (Qm (s_ofObject σ o w) M) 32 [vR 141, vI o, vI w, vI (foI (nbS σ.1 o r p) 0 l), vI l, l5, l6] [] M1) (fun l l0 l1 ih l5 l6 => ?_) h1'.1 _ _
  rw [r_RM_ofObject_32]
  simp only [r_RM_ofObject_34, r_RM_ofObject_35, r_RM_ofObject_38, r_RM_ofObject_39, r_RM_ofObject_40, r_RM_ofObject_43, r_RM_ofObject_45, r_RM_ofObject_46, r_RM_ofObject_48, r_RM_ofObject_49, r_RM_ofObject_50, r_RM_ofObject_52, r_RM_ofObject_53, r_RM_ofObject_54, r_RM_ofObject_57, r_RM_ofObject_58, r_RM_ofObject_61, true_and, and_true, or_true, true_or, or_false, false_or, false_and, and_false, not_true_eq_false, not_false_eq_true, implies_true, true_implies, false_implies, show M1.1 144 1 = σ.1 1 from h0.1 1 (by decide) (by decide)]
  refine ⟨by decide, by decide, r32 (by omega) (by omega), r32 (by omega) (by omega), fun q3 => ?_, fun q3 => ?_⟩
  · simp only [r_RM_ofObject_130, r_RM_ofObject_131, r_RM_ofObject_134, r_RM_ofObject_135, r_RM_ofObject_138, r_RM_ofObject_140, r_RM_ofObject_141, r_RM_ofObject_142, r_RM_ofObject_143, r_RM_ofObject_146, r_RM_ofObject_147, true_and, and_true, or_true, true_or, or_false, false_or, false_and, and_false, not_true_eq_false, not_false_eq_true, implies_true, true_implies, false_implies]
    refine ⟨hw, fun q4 => fin _ ?_, fun q4 => ⟨by omega, by omega, fin _ ?_⟩⟩
    · rw [e, if_neg q4, show l = σ.1 1 by omega]
      rcases hp' with ⟨a, b⟩ | ⟨a, b⟩
      · rw [if_pos (by omega), b, hr.2.1 (by omega)]
      · rw [if_neg (by omega), b, hr.2.2 (by omega)]
    · rw [e, if_pos (by omega)]; exact h0.1 _ (by omega) (by omega)
  have hv := hV.1.2.2.2.2.2.1 l l0 (by omega)
  have x0 : M1.1 144 (16 + 3 * l) = σ.1 (16 + 3 * l) := h0.1 _ (by omega) (by omega)
  have x1 : M1.1 144 (16 + 3 * l + 1) = σ.1 (17 + 3 * l) := by rw [show 16 + 3 * l + 1 = 17 + 3 * l by omega]; exact h0.1 _ (by omega) (by omega)
  have x2 : M1.1 144 (16 + 3 * l + 2) = σ.1 (18 + 3 * l) := by rw [show 16 + 3 * l + 2 = 18 + 3 * l by omega]; exact h0.1 _ (by omega) (by omega)
  have hih := fun l6 => ih (by omega) (vI (16 + 3 * l)) l6
  rw [foI_s _ _ l0] at hih
  have hrb : -1 ≤ r ∧ r ≤ 2 := by omega
  refine ⟨hw, r32 (by decide) (by decide), fun q4 => ?_, fun q4 => ?_⟩
  · have hp2 : p = 2 := by omega
    subst hp2
    unfold nbS at hih
    simp only [show (16 : Int) + 2 = 18 from rfl, show (16 : Int) + (3 - 2) = 17 from rfl] at hih
    simp only [r_RM_ofObject_62, r_RM_ofObject_64, r_RM_ofObject_65, r_RM_ofObject_68, r_RM_ofObject_70, r_RM_ofObject_71, r_RM_ofObject_72, r_RM_ofObject_73, r_RM_ofObject_74, r_RM_ofObject_75, r_RM_ofObject_76, r_RM_ofObject_79, r_RM_ofObject_80, r_RM_ofObject_83, r_RM_ofObject_85, r_RM_ofObject_87, r_RM_ofObject_90, r_RM_ofObject_91, r_RM_ofObject_94, r_RM_ofObject_95, r_RM_ofObject_96, r_RM_ofObject_97, r_RM_ofObject_98, r_RM_ofObject_101, r_RM_ofObject_102, r_RM_ofObject_103, r_RM_ofObject_104, r_RM_ofObject_107, r_RM_ofObject_109, r_RM_ofObject_111, r_RM_ofObject_114, r_RM_ofObject_115, r_RM_ofObject_118, r_RM_ofObject_119, r_RM_ofObject_120, r_RM_ofObject_121, r_RM_ofObject_122, r_RM_ofObject_123, r_RM_ofObject_124, r_RM_ofObject_127, true_and, and_true, or_true, true_or, or_false, false_or, false_and, and_false, not_true_eq_false, not_false_eq_true, implies_true, true_implies, false_implies, hrr, x0, x1, x2, p2_def]
    refine ⟨by omega, by omega, ⟨r32 (by omega) (by omega), by decide, by decide⟩, r32 (by omega) (by omega), r32 (by omega) (by omega), fun q5 => ?_, fun q5 => ⟨r32 (by decide) (by decide), by omega, by omega, r32 (by omega) (by omega), ho, fun q6 => ?_, fun q6 => ⟨r32 (by decide) (by decide), by omega, by omega, ⟨by omega, by omega⟩, ?_⟩⟩⟩
    · rw [if_neg (fun z => q5 z.1)] at hih; exact hih _
    · rw [if_neg (fun z => q6 z.2)] at hih; exact hih _
    · rw [if_pos ⟨Classical.not_not.1 q5, Classical.not_not.1 q6⟩] at hih; exact hih _
  · have hp2 : p = 1 := by omega
    subst hp2
    unfold nbS at hih
    simp only [show (16 : Int) + 1 = 17 from rfl, show (16 : Int) + (3 - 1) = 18 from rfl] at hih
    simp only [r_RM_ofObject_62, r_RM_ofObject_64, r_RM_ofObject_65, r_RM_ofObject_68, r_RM_ofObject_70, r_RM_ofObject_71, r_RM_ofObject_72, r_RM_ofObject_73, r_RM_ofObject_74, r_RM_ofObject_75, r_RM_ofObject_76, r_RM_ofObject_79, r_RM_ofObject_80, r_RM_ofObject_83, r_RM_ofObject_85, r_RM_ofObject_87, r_RM_ofObject_90, r_RM_ofObject_91, r_RM_ofObject_94, r_RM_ofObject_95, r_RM_ofObject_96, r_RM_ofObject_97, r_RM_ofObject_98, r_RM_ofObject_101, r_RM_ofObject_102, r_RM_ofObject_103, r_RM_ofObject_104, r_RM_ofObject_107, r_RM_ofObject_109, r_RM_ofObject_111, r_RM_ofObject_114, r_RM_ofObject_115, r_RM_ofObject_118, r_RM_ofObject_119, r_RM_ofObject_120, r_RM_ofObject_121, r_RM_ofObject_122, r_RM_ofObject_123, r_RM_ofObject_124, r_RM_ofObject_127, true_and, and_true, or_true, true_or, or_false, false_or, false_and, and_false, not_true_eq_false, not_false_eq_true, implies_true, true_implies, false_implies, hrr, x0, x1, x2, p2_def]
    refine ⟨by omega, by omega, ⟨r32 (by omega) (by omega), by decide, by decide⟩, r32 (by omega) (by omega), r32 (by omega) (by omega), fun q5 => ?_, fun q5 => ⟨r32 (by decide) (by decide), fun z => absurd z (by decide), fun _ => ⟨by omega, by omega, r32 (by omega) (by omega), ho, fun q6 => ?_, fun q6 => ⟨r32 (by decide) (by decide), fun z => absurd z (by decide), fun _ => ⟨by omega, by omega, ⟨by omega, by omega⟩, ?_⟩⟩⟩⟩⟩
    · rw [if_neg (fun z => q5 z.1)] at hih; exact hih _
    · rw [if_neg (fun z => q6 z.2)] at hih; exact hih _
    · rw [if_pos ⟨Classical.not_not.1 q5, Classical.not_not.1 q6⟩] at hih; exact hih _
