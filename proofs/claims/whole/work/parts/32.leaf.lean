/-! what stays of a memory; the smallest methods -/
/-- all cells stay but those of which P holds -/
def Kp (P : Nat → Prop) (M M' : Mem) : Prop := ∀ c, ¬ P c → M'.1 c = M.1 c ∧ M'.2 c = M.2 c
theorem Kp.rf {P : Nat → Prop} {M : Mem} : Kp P M M := fun _ _ => ⟨rfl, rfl⟩
theorem Kp.trans {P : Nat → Prop} {M M' M'' : Mem} (h1 : Kp P M M') (h2 : Kp P M' M'') : Kp P M M'' := fun c hc => ⟨(h2 c hc).1.trans (h1 c hc).1, (h2 c hc).2.trans (h1 c hc).2⟩
theorem Kp.sub {P P' : Nat → Prop} {M M' : Mem} (h : Kp P M M') (hs : ∀ c, P c → P' c) : Kp P' M M' := fun c hc => h c (fun q => hc (hs c q))
theorem Kp.at {P : Nat → Prop} {M M' : Mem} (h : Kp P M M') {c : Nat} (hc : ¬ P c) (i : Int) : M'.1 c i = M.1 c i := by rw [(h c hc).1]
theorem Kp.at2 {P : Nat → Prop} {M M' : Mem} (h : Kp P M M') {c : Nat} (hc : ¬ P c) (i : Int) : M'.2 c i = M.2 c i := by rw [(h c hc).2]
theorem wI_at (M : Mem) (c c' : Nat) (i i' z : Int) : (wI M c i z).1 c' i' = if c' = c ∧ i' = i then z else M.1 c' i' := rfl
theorem wI_c {M : Mem} {c c' : Nat} {i z : Int} (h : c' ≠ c) : (wI M c i z).1 c' = M.1 c' := by
  funext j; rw [wI_at, if_neg (fun q => h q.1)]
theorem wI_same (M : Mem) (c : Nat) (i z : Int) : (wI M c i z).1 c i = z := by rw [wI_at, if_pos ⟨rfl, rfl⟩]
theorem wI_oth {M : Mem} {c : Nat} {i i' z : Int} (h : i' ≠ i) : (wI M c i z).1 c i' = M.1 c i' := by rw [wI_at, if_neg (fun q => h q.2)]
theorem Kp.w {P : Nat → Prop} {M M' : Mem} {c : Nat} {i z : Int} (h : Kp P M M') (hc : P c) : Kp P M (wI M' c i z) := fun k hk => ⟨(wI_c (c := c) (c' := k) (fun q => hk (by rw [q]; exact hc))).trans (h k hk).1, (h k hk).2⟩
theorem cpI_c {M : Mem} {c0 c1 c' : Nat} {sp dp n : Int} (h : c' ≠ c1) : (cpI M c0 sp c1 dp n).1 c' = M.1 c' := by
  funext j; simp [cpI, h]
theorem cpI_at (M : Mem) (c0 c1 : Nat) (sp dp n i : Int) : (cpI M c0 sp c1 dp n).1 c1 i = if dp ≤ i ∧ i < dp + n then M.1 c0 (sp + (i - dp)) else M.1 c1 i := by
  simp [cpI]
theorem Kp.cp {P : Nat → Prop} {M M' : Mem} {c0 c1 : Nat} {sp dp n : Int} (h : Kp P M M') (hc : P c1) : Kp P M (cpI M' c0 sp c1 dp n) := fun k hk => ⟨(cpI_c (c' := k) (fun q => hk (by rw [q]; exact hc))).trans (h k hk).1, (h k hk).2⟩
theorem outside_s (M : Mem) {v n : Int} (hv : R32 v) (hn : R32 n) : Cal Y_CB_outside [vI v, vI n] M (fun r M' => r = some (vI (if v < 0 ∨ n ≤ v then 1 else 0)) ∧ M' = M) := by
  refine Cal.mk (y := Y_CB_outside) (loc := [vI v, vI n]) G_CB_outside rfl (by decide) rfl rfl (Nat.le_of_ble_eq_true rfl) ?_
  simp only [r_CB_outside_0, r_CB_outside_1, r_CB_outside_4, r_CB_outside_5, r_CB_outside_6, r_CB_outside_9, r_CB_outside_10, r_CB_outside_13, r_CB_outside_14, true_and, and_true, or_true, true_or, or_false, false_or, false_and, and_false, not_true_eq_false, not_false_eq_true, implies_true, true_implies, false_implies]
  refine ⟨hv, fun h => by rw [if_pos (Or.inl h)], fun h => ⟨hv, hn, fun h2 => by rw [if_neg (by omega)], fun h2 => by rw [if_pos (by omega)]⟩⟩
theorem has_s (M : Mem) {v i : Int} (hv : 0 ≤ v) (hv2 : v < 2147483648) (hi : 0 ≤ i) (hi2 : i < 32) : Cal Y_CB_has [vI v, vI i] M (fun r M' => r = some (vI (if bit v i then 1 else 0)) ∧ M' = M) := by
  refine Cal.mk (y := Y_CB_has) (loc := [vI v, vI i]) G_CB_has rfl (by decide) rfl rfl (Nat.le_of_ble_eq_true rfl) ?_
  simp only [r_CB_has_0, r_CB_has_1, r_CB_has_2, r_CB_has_3, r_CB_has_4, r_CB_has_5, r_CB_has_8, r_CB_has_9, r_CB_has_12, r_CB_has_13, shr_bit hv hv2, true_and, and_true, or_true, true_or, or_false, false_or, false_and, and_false, not_true_eq_false, not_false_eq_true, implies_true, true_implies, false_implies]
  refine ⟨⟨⟨by omega, hv2⟩, hi, hi2⟩, ?_⟩
  cases bit v i
  · exact ⟨r32 (by decide) (by decide), fun h => rfl, fun h => absurd rfl h⟩
  · exact ⟨r32 (by decide) (by decide), fun h => absurd h (by decide), fun h => rfl⟩
theorem linkPart_s (M : Mem) {l p : Int} (h0 : 0 ≤ l * 3 + p) (h1 : l * 3 + p < 60) : Cal Y_Mo_linkPart [vR 1, vI l, vI p] M (fun r M' => r = some (vI (M.1 3 (l * 3 + p))) ∧ M' = M) := by
  refine Cal.mk (y := Y_Mo_linkPart) (loc := [vR 1, vI l, vI p]) G_Mo_linkPart rfl (by decide) rfl rfl (Nat.le_of_ble_eq_true rfl) ?_
  simp only [r_Mo_linkPart_0, r_Mo_linkPart_1, r_Mo_linkPart_4, r_Mo_linkPart_5, r_Mo_linkPart_6, r_Mo_linkPart_7, r_Mo_linkPart_8, r_Mo_linkPart_9, r_Mo_linkPart_10, true_and, and_true, or_true, true_or, or_false, false_or, false_and, and_false, not_true_eq_false, not_false_eq_true, implies_true, true_implies, false_implies]
  exact ⟨h0, h1⟩
theorem rulePart_s (M : Mem) {l p : Int} (h0 : 0 ≤ l * 5 + p) (h1 : l * 5 + p < 60) : Cal Y_Mo_rulePart [vR 1, vI l, vI p] M (fun r M' => r = some (vI (M.1 4 (l * 5 + p))) ∧ M' = M) := by
  refine Cal.mk (y := Y_Mo_rulePart) (loc := [vR 1, vI l, vI p]) G_Mo_rulePart rfl (by decide) rfl rfl (Nat.le_of_ble_eq_true rfl) ?_
  simp only [r_Mo_rulePart_0, r_Mo_rulePart_1, r_Mo_rulePart_4, r_Mo_rulePart_5, r_Mo_rulePart_6, r_Mo_rulePart_7, r_Mo_rulePart_8, r_Mo_rulePart_9, r_Mo_rulePart_10, true_and, and_true, or_true, true_or, or_false, false_or, false_and, and_false, not_true_eq_false, not_false_eq_true, implies_true, true_implies, false_implies]
  exact ⟨h0, h1⟩
/-- a loop upwards -/
theorem up_loop {P : Int → Prop} {lo hi : Int} (hs : ∀ i, lo ≤ i → i ≤ hi → (i < hi → P (i + 1)) → P i) (h : lo ≤ hi) : P lo := by
  have key : ∀ (n : Nat) (i : Int), lo ≤ i → i + n = hi → P i := by
    intro n
    induction n with
    | zero => intro i h1 h2; exact hs i h1 (by omega) (fun q => by omega)
    | succ n ih => intro i h1 h2; exact hs i h1 (by omega) (fun q => ih (i + 1) (by omega) (by omega))
  exact key (hi - lo).toNat lo (Int.le_refl _) (by omega)
theorem objectsOf_s (M : Mem) {k : Int} (hk : R32 k) (h0 : 0 ≤ M.1 1 0) (h1 : M.1 1 0 ≤ 10) (hr : ∀ o, 0 ≤ o → o < M.1 1 0 → R32 (M.1 2 o)) : Cal Y_Mo_objectsOf [vR 1, vI k] M (fun r M' => r = some (vI (cntI (fun o => decide (M.1 2 o = k)) (M.1 1 0))) ∧ M' = M) := by
  refine Cal.mk (y := Y_Mo_objectsOf) (loc := [vR 1, vI k, vN, vN]) G_Mo_objectsOf rfl (by decide) rfl rfl (Nat.le_of_ble_eq_true rfl) ?_
  simp only [r_Mo_objectsOf_0, r_Mo_objectsOf_1, r_Mo_objectsOf_2, r_Mo_objectsOf_3, true_and, and_true, or_true, true_or, or_false, false_or, false_and, and_false, not_true_eq_false, not_false_eq_true, implies_true, true_implies, false_implies]
  refine up_loop (lo := 0) (hi := M.1 1 0) (P := fun o => Run C_Mo_objectsOf _ 4 [vR 1, vI k, vI (cntI (fun o => decide (M.1 2 o = k)) o), vI o] [] M) (fun o ho hn ih => ?_) h0
  rw [r_Mo_objectsOf_4]
  simp only [r_Mo_objectsOf_5, r_Mo_objectsOf_6, r_Mo_objectsOf_9, r_Mo_objectsOf_12, r_Mo_objectsOf_13, r_Mo_objectsOf_14, r_Mo_objectsOf_17, r_Mo_objectsOf_18, r_Mo_objectsOf_19, r_Mo_objectsOf_20, r_Mo_objectsOf_23, r_Mo_objectsOf_24, r_Mo_objectsOf_27, r_Mo_objectsOf_28, r_Mo_objectsOf_29, r_Mo_objectsOf_30, r_Mo_objectsOf_33, r_Mo_objectsOf_36, r_Mo_objectsOf_37, true_and, and_true, or_true, true_or, or_false, false_or, false_and, and_false, not_true_eq_false, not_false_eq_true, implies_true, true_implies, false_implies]
  refine ⟨r32 (by omega) (by omega), r32 (by omega) (by omega), fun _ => ?_, fun h => ⟨ho, by omega, hr o ho (by omega), hk, fun h2 => ?_, fun h2 => ?_⟩⟩
  · rw [show o = M.1 1 0 by omega]
  · have e := ih (by omega)
    rw [cntI_s _ ho, decide_eq_false h2] at e
    exact e
  · have e := ih (by omega)
    rw [cntI_s _ ho, decide_eq_true (by omega)] at e
    exact e
