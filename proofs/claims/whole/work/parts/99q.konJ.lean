/-! CauseBook() (printed by wip/gen/g99q.py) -/
theorem rmx_9 : ∀ k, k < 9 → 1 ≤ k → k ≠ 92 → k ≠ 96 → cb_rmx k < 9 := by decide +kernel
theorem rmx_92 : ∀ k, k < 92 → 1 ≤ k → k ≠ 92 → k ≠ 96 → cb_rmx k < 92 := by decide +kernel
theorem rmx_93 : ∀ k, k < 93 → 1 ≤ k → k ≠ 92 → k ≠ 96 → cb_rmx k < 93 := by decide +kernel
theorem rmx_94 : ∀ k, k < 94 → 1 ≤ k → k ≠ 92 → k ≠ 96 → cb_rmx k < 94 := by decide +kernel
theorem rmx_96 : ∀ k, k < 96 → 1 ≤ k → k ≠ 92 → k ≠ 96 → cb_rmx k < 96 := by decide +kernel
theorem rmx_97 : ∀ k, k < 97 → 1 ≤ k → k ≠ 92 → k ≠ 96 → cb_rmx k < 97 := by decide +kernel
theorem rmx_101 : ∀ k, k < 101 → 1 ≤ k → k ≠ 92 → k ≠ 96 → cb_rmx k < 101 := by decide +kernel
theorem rmx_105 : ∀ k, k < 105 → 1 ≤ k → k ≠ 92 → k ≠ 96 → cb_rmx k < 105 := by decide +kernel
theorem rmx_111 : ∀ k, k < 111 → 1 ≤ k → k ≠ 92 → k ≠ 96 → cb_rmx k < 111 := by decide +kernel
theorem rmx_117 : ∀ k, k < 117 → 1 ≤ k → k ≠ 92 → k ≠ 96 → cb_rmx k < 117 := by decide +kernel
theorem rmx_118 : ∀ k, k < 118 → 1 ≤ k → k ≠ 92 → k ≠ 96 → cb_rmx k < 118 := by decide +kernel
theorem rmx_120 : ∀ k, k < 120 → 1 ≤ k → k ≠ 92 → k ≠ 96 → cb_rmx k < 120 := by decide +kernel
theorem rmx_123 : ∀ k, k < 123 → 1 ≤ k → k ≠ 92 → k ≠ 96 → cb_rmx k < 123 := by decide +kernel
theorem rmx_125 : ∀ k, k < 125 → 1 ≤ k → k ≠ 92 → k ≠ 96 → cb_rmx k < 125 := by decide +kernel
theorem rmx_133 : ∀ k, k < 133 → 1 ≤ k → k ≠ 92 → k ≠ 96 → cb_rmx k < 133 := by decide +kernel
theorem img_up (x y : Option Nat) : va_up (va_up (fun _ => none) (0 : Int32).toNatClampNeg x) (1 : Int32).toNatClampNeg y 0 = x ∧ va_up (va_up (fun _ => none) (0 : Int32).toNatClampNeg x) (1 : Int32).toNatClampNeg y 1 = y := ⟨rfl, rfl⟩
theorem tz_copy : va_cpy (fun j : Nat => Int32.ofInt (tz j)) (fun _ => 0) 0 0 4 = fun j : Nat => Int32.ofInt (tz j) := by
  funext j
  unfold va_cpy
  by_cases h : j < 4
  · rw [if_pos (by omega), show 0 + (j - 0) = j by omega]
  · rw [if_neg (by omega)]
    unfold tz
    rw [if_neg (by omega), if_neg (by omega)]
    rfl
set_option maxRecDepth 10000 in
set_option maxHeartbeats 4000000 in
theorem k_CB : Kon Y_CB_init 140 4983 1 141 (fun al => [.ref (al 0)]) (fun g al E => E 0 = .inr (10, [.null, .null, .null, .null, .null, .null, .null, .null, .null, .null, .null, .null, .null, .null])) (fun g al E al1 E1 => ∀ k, k < 141 → E1 k = cb_E (kg g al1) mz k) := by
  refine Kon.of (by decide) rfl rfl (fun al => Nat.le_of_ble_eq_true rfl) ?_
  intro p l e R s m args below meth c Q g A al E X hfr hlo hce hsl hE fin H ls hZ hl
  have X : kb_X "CauseBook" prog_1_method_1_code 2 p s m meth c g A := X
  have hfr : 3 ≤ R.frames := hfr
  have hlo : 120 ≤ R.locals := hlo
  have hl : lv_has ls 2 [(0, .ref (al 0))] := hl
  refine lv_aload_n X.1 X.2.1 d_CB_init_0 rfl (lv_at hl 0 rfl) ?_
  refine kb_obj X cw_22 hl.1 (by omega) (by omega) d_CB_init_1 ?_
  have D0 : ∀ k, 1 ≤ k → k < 1 → k ≠ 92 → k ≠ 96 → E k = cb_E (kg g al) mz k := fun k a b h1 h2 => by omega
  refine lv_aload_n X.1 X.2.1 d_CB_init_4 rfl (lv_at hl 0 rfl) ?_
  refine kf_new X hZ cb_c5 cw_25 cw_26 cw_2 [.int 0, .int 0, .int 0, .int 0, .int 0, .int 0, .null, .null, .null, .null, .null, .null, .null] (fun j hj => by rcases (show j = 0 ∨ j = 1 ∨ j = 2 ∨ j = 3 ∨ j = 4 ∨ j = 5 ∨ j = 6 ∨ j = 7 ∨ j = 8 ∨ j = 9 ∨ j = 10 ∨ j = 11 ∨ j = 12 by omega) with rfl | rfl | rfl | rfl | rfl | rfl | rfl | rfl | rfl | rfl | rfl | rfl | rfl <;> rfl) (Nat.le_trans (Nat.le_of_ble_eq_true rfl) hce) (Nat.le_trans (Nat.le_of_ble_eq_true rfl) hsl) d_CB_init_5 ?_
  intro al1 E1 H1 o1 q1 z1 hZ1
  have hc1_0 : al1 0 = al 0 := (o1 0 (by omega)).trans rfl
  have c1 : E1 0 = .inr (10, [.null, .null, .null, .null, .null, .null, .null, .null, .null, .null, .null, .null, .null, .null]) := (q1 0 (by omega)).trans hE
  have D1 : ∀ k, 1 ≤ k → k < 1 → k ≠ 92 → k ≠ 96 → E1 k = cb_E (kg g al1) mz k := fun k a b h1 h2 => by
    rw [q1 k (by omega), D0 k a b h1 h2]
    omega
  refine lv_dup X.1 X.2.1 d_CB_init_8 rfl ?_
  refine kb_callN X hZ1 (As := []) (st := [.ref (al1 1), .ref (al 0)]) (k_Mo mb1) K_Mo_init rfl cw_27 (by show 1 + 1 ≤ R.frames; omega) (by show 8 + (1 + 11) + 12 ≤ R.locals; omega) (Nat.le_trans (Nat.le_of_ble_eq_true rfl) hce) (Nat.le_trans (Nat.le_of_ble_eq_true rfl) hsl) hl.1 (Nat.le_of_ble_eq_true rfl) d_CB_init_9 z1 ?_
  intro al2 E2 H2 locs2 o2 w2 hZ2
  obtain ⟨q2, w2⟩ := w2
  have hc2_0 : al2 0 = al 0 := (o2 0 (by omega)).trans hc1_0
  have hc2_1 : al2 1 = al1 1 := o2 1 (by omega)
  have c2 : E2 0 = .inr (10, [.null, .null, .null, .null, .null, .null, .null, .null, .null, .null, .null, .null, .null, .null]) := (q2 0 (by omega)).trans c1
  have D2 : ∀ k, 1 ≤ k → k < 1 → k ≠ 92 → k ≠ 96 → E2 k = cb_E (kg g al2) mz k := fun k a b h1 h2 => by
    rw [q2 k (by omega), D1 k a b h1 h2]
    omega
  have D2x : ∀ k, 1 ≤ k → k < 9 → k ≠ 92 → k ≠ 96 → E2 k = cb_E (kg g al2) mz k := fun k a b h1 h2 => by
    by_cases e0 : k < 1
    · exact D2 k a e0 h1 h2
    · exact w2 k (by omega) (by omega)
  refine kf_R X hZ2 (ci := 10) (c0 := 0) (t := .object "CauseBook$Model") (fs := [.null, .null, .null, .null, .null, .null, .null, .null, .null, .null, .null, .null, .null, .null]) cb_c10 0 cw_370 (by omega) hc2_0 c2 (by decide) rfl rfl (by decide +kernel) rfl rfl (Nat.le_of_ble_eq_true rfl) d_CB_init_12 ?_
  intro E3 H3 locs3 q3 c3 hZ3
  have D3 : ∀ k, 1 ≤ k → k < 9 → k ≠ 92 → k ≠ 96 → E3 k = cb_E (kg g al2) mz k := fun k a b h1 h2 => by rw [q3 k (by omega)]; exact D2x k a b h1 h2
  refine lv_aload_n X.1 X.2.1 d_CB_init_15 rfl (lv_at hl 0 rfl) ?_
  refine kf_new X hZ3 cb_c4 cw_95 cw_96 cw_3 [.null, .null, .int 0, .int 0] (fun j hj => by rcases (show j = 0 ∨ j = 1 ∨ j = 2 ∨ j = 3 by omega) with rfl | rfl | rfl | rfl <;> rfl) (Nat.le_trans (Nat.le_of_ble_eq_true rfl) hce) (Nat.le_trans (Nat.le_of_ble_eq_true rfl) hsl) d_CB_init_16 ?_
  intro al4 E4 H4 o4 q4 z4 hZ4
  have hc4_0 : al4 0 = al 0 := (o4 0 (by omega)).trans hc2_0
  have hc4_1 : al4 1 = al1 1 := (o4 1 (by omega)).trans hc2_1
  have c4 : E4 0 = .inr (10, [.ref (al1 1), .null, .null, .null, .null, .null, .null, .null, .null, .null, .null, .null, .null, .null]) := (q4 0 (by omega)).trans c3
  have D4 : ∀ k, 1 ≤ k → k < 9 → k ≠ 92 → k ≠ 96 → E4 k = cb_E (kg g al4) mz k := fun k a b h1 h2 => by
    rw [q4 k (by omega), D3 k a b h1 h2]
    exact (kz_st (n := 9) (rmx_9 k b a h1 h2) (fun x hx => o4 x (by omega))).symm
  refine lv_dup X.1 X.2.1 d_CB_init_19 rfl ?_
  refine kb_callN X hZ4 (As := []) (st := [.ref (al4 9), .ref (al 0)]) (k_Hi) K_Hi_init rfl cw_97 (by show 2 + 1 ≤ R.frames; omega) (by show 8 + (2 + 11) + 40 ≤ R.locals; omega) (Nat.le_trans (Nat.le_of_ble_eq_true rfl) hce) (Nat.le_trans (Nat.le_of_ble_eq_true rfl) hsl) hl.1 (Nat.le_of_ble_eq_true rfl) d_CB_init_20 z4 ?_
  intro al5 E5 H5 locs5 o5 w5 hZ5
  obtain ⟨q5, w5⟩ := w5
  have hc5_0 : al5 0 = al 0 := (o5 0 (by omega)).trans hc4_0
  have hc5_1 : al5 1 = al1 1 := (o5 1 (by omega)).trans hc4_1
  have hc5_9 : al5 9 = al4 9 := o5 9 (by omega)
  have c5 : E5 0 = .inr (10, [.ref (al1 1), .null, .null, .null, .null, .null, .null, .null, .null, .null, .null, .null, .null, .null]) := (q5 0 (by omega)).trans c4
  have D5 : ∀ k, 1 ≤ k → k < 9 → k ≠ 92 → k ≠ 96 → E5 k = cb_E (kg g al5) mz k := fun k a b h1 h2 => by
    rw [q5 k (by omega), D4 k a b h1 h2]
    exact (kz_st (n := 9) (rmx_9 k b a h1 h2) (fun x hx => o5 x (by omega))).symm
  have D5x : ∀ k, 1 ≤ k → k < 92 → k ≠ 92 → k ≠ 96 → E5 k = cb_E (kg g al5) mz k := fun k a b h1 h2 => by
    by_cases e0 : k < 9
    · exact D5 k a e0 h1 h2
    · exact w5 k (by omega) (by omega)
  refine kf_R X hZ5 (ci := 10) (c0 := 0) (t := .object "CauseBook$History") (fs := [.ref (al1 1), .null, .null, .null, .null, .null, .null, .null, .null, .null, .null, .null, .null, .null]) cb_c10 1 cw_371 (by omega) hc5_0 c5 (by decide) rfl rfl (by decide +kernel) rfl rfl (Nat.le_of_ble_eq_true rfl) d_CB_init_23 ?_
  intro E6 H6 locs6 q6 c6 hZ6
  have D6 : ∀ k, 1 ≤ k → k < 92 → k ≠ 92 → k ≠ 96 → E6 k = cb_E (kg g al5) mz k := fun k a b h1 h2 => by rw [q6 k (by omega)]; exact D5x k a b h1 h2
  refine lv_aload_n X.1 X.2.1 d_CB_init_26 rfl (lv_at hl 0 rfl) ?_
  refine lv_iconst (v := 2) X.1 X.2.1 d_CB_init_27 (by decide) ?_
  refine kf_Q X hZ6 (ci := 10) (c0 := 0) (fs := [.ref (al1 1), .ref (al4 9), .null, .null, .null, .null, .null, .null, .null, .null, .null, .null, .null, .null]) cb_c10 2 2 cw_25 cw_372 (by omega) hc5_0 c6 (by decide) rfl rfl (by decide +kernel) (Nat.le_of_ble_eq_true rfl) (by decide) (by decide) (Nat.le_of_ble_eq_true rfl) (Nat.le_trans (Nat.le_of_ble_eq_true rfl) hce) (Nat.le_trans (Nat.le_of_ble_eq_true rfl) hsl) d_CB_init_28 d_CB_init_31 ?_
  intro al7 E7 H7 locs7 o7 q7 z7 c7 hZ7
  have hc7_0 : al7 0 = al 0 := (o7 0 (by omega)).trans hc5_0
  have hc7_1 : al7 1 = al1 1 := (o7 1 (by omega)).trans hc5_1
  have hc7_9 : al7 9 = al4 9 := (o7 9 (by omega)).trans hc5_9
  have D7 : ∀ k, 1 ≤ k → k < 92 → k ≠ 92 → k ≠ 96 → E7 k = cb_E (kg g al7) mz k := fun k a b h1 h2 => by
    rw [q7 k (by omega) (by omega), D6 k a b h1 h2]
    exact (kz_st (n := 92) (rmx_92 k b a h1 h2) (fun x hx => o7 x (by omega))).symm
  have D7x : ∀ k, 1 ≤ k → k < 93 → k ≠ 92 → k ≠ 96 → E7 k = cb_E (kg g al7) mz k := fun k a b h1 h2 => by
    by_cases e0 : k < 92
    · exact D7 k a e0 h1 h2
    · omega
  refine lv_aload_n X.1 X.2.1 d_CB_init_34 rfl (lv_at hl 0 rfl) ?_
  refine lv_iconst (v := 2) X.1 X.2.1 d_CB_init_35 (by decide) ?_
  refine kf_Z X hZ7 (ci := 10) (c0 := 0) (fs := [.ref (al1 1), .ref (al4 9), .ref (al7 92), .null, .null, .null, .null, .null, .null, .null, .null, .null, .null, .null]) cb_c10 3 2 cw_373 (by omega) hc7_0 c7 (by decide) rfl rfl (by decide +kernel) (Nat.le_of_ble_eq_true rfl) (by decide) (by decide) (Nat.le_of_ble_eq_true rfl) (Nat.le_trans (Nat.le_of_ble_eq_true rfl) hce) (Nat.le_trans (Nat.le_of_ble_eq_true rfl) hsl) d_CB_init_36 d_CB_init_38 ?_
  intro al8 E8 H8 locs8 o8 q8 z8 c8 hZ8
  have hc8_0 : al8 0 = al 0 := (o8 0 (by omega)).trans hc7_0
  have hc8_1 : al8 1 = al1 1 := (o8 1 (by omega)).trans hc7_1
  have hc8_9 : al8 9 = al4 9 := (o8 9 (by omega)).trans hc7_9
  have hc8_92 : al8 92 = al7 92 := (o8 92 (by omega)).trans rfl
  have D8 : ∀ k, 1 ≤ k → k < 93 → k ≠ 92 → k ≠ 96 → E8 k = cb_E (kg g al8) mz k := fun k a b h1 h2 => by
    rw [q8 k (by omega) (by omega), D7x k a b h1 h2]
    exact (kz_st (n := 93) (rmx_93 k b a h1 h2) (fun x hx => o8 x (by omega))).symm
  have x8_92 : E8 92 = .inl (g.2.1.2.2.2, 2, .inr (.inr (.inr (.inr (fun _ => none))))) := (q8 92 (by omega) (by omega)).trans z7
  have D8x : ∀ k, 1 ≤ k → k < 94 → k ≠ 92 → k ≠ 96 → E8 k = cb_E (kg g al8) mz k := fun k a b h1 h2 => by
    by_cases e0 : k < 93
    · exact D8 k a e0 h1 h2
    · have e1 : k = 93 := by omega
      rw [e1, z8, kz1 (show cb_kd 93 = (1, 2) from rfl) (by decide) (by decide)]
  refine lv_aload_n X.1 X.2.1 d_CB_init_41 rfl (lv_at hl 0 rfl) ?_
  refine kf_new X hZ8 cb_c7 cw_118 cw_119 cw_4 [.null, .int 0] (fun j hj => by rcases (show j = 0 ∨ j = 1 by omega) with rfl | rfl <;> rfl) (Nat.le_trans (Nat.le_of_ble_eq_true rfl) hce) (Nat.le_trans (Nat.le_of_ble_eq_true rfl) hsl) d_CB_init_42 ?_
  intro al9 E9 H9 o9 q9 z9 hZ9
  have hc9_0 : al9 0 = al 0 := (o9 0 (by omega)).trans hc8_0
  have hc9_1 : al9 1 = al1 1 := (o9 1 (by omega)).trans hc8_1
  have hc9_9 : al9 9 = al4 9 := (o9 9 (by omega)).trans hc8_9
  have hc9_92 : al9 92 = al7 92 := (o9 92 (by omega)).trans hc8_92
  have hc9_93 : al9 93 = al8 93 := (o9 93 (by omega)).trans rfl
  have c9 : E9 0 = .inr (10, [.ref (al1 1), .ref (al4 9), .ref (al7 92), .ref (al8 93), .null, .null, .null, .null, .null, .null, .null, .null, .null, .null]) := (q9 0 (by omega)).trans c8
  have D9 : ∀ k, 1 ≤ k → k < 94 → k ≠ 92 → k ≠ 96 → E9 k = cb_E (kg g al9) mz k := fun k a b h1 h2 => by
    rw [q9 k (by omega), D8x k a b h1 h2]
    exact (kz_st (n := 94) (rmx_94 k b a h1 h2) (fun x hx => o9 x (by omega))).symm
  have x9_92 : E9 92 = .inl (g.2.1.2.2.2, 2, .inr (.inr (.inr (.inr (fun _ => none))))) := (q9 92 (by omega)).trans x8_92
  refine lv_dup X.1 X.2.1 d_CB_init_45 rfl ?_
  refine kb_callN X hZ9 (As := []) (st := [.ref (al9 94), .ref (al 0)]) (k_Rf) K_Rf_init rfl cw_120 (by show 1 + 1 ≤ R.frames; omega) (by show 8 + (1 + 11) + 12 ≤ R.locals; omega) (Nat.le_trans (Nat.le_of_ble_eq_true rfl) hce) (Nat.le_trans (Nat.le_of_ble_eq_true rfl) hsl) hl.1 (Nat.le_of_ble_eq_true rfl) d_CB_init_46 z9 ?_
  intro al10 E10 H10 locs10 o10 w10 hZ10
  obtain ⟨q10, w10⟩ := w10
  have hc10_0 : al10 0 = al 0 := (o10 0 (by omega)).trans hc9_0
  have hc10_1 : al10 1 = al1 1 := (o10 1 (by omega)).trans hc9_1
  have hc10_9 : al10 9 = al4 9 := (o10 9 (by omega)).trans hc9_9
  have hc10_92 : al10 92 = al7 92 := (o10 92 (by omega)).trans hc9_92
  have hc10_93 : al10 93 = al8 93 := (o10 93 (by omega)).trans hc9_93
  have hc10_94 : al10 94 = al9 94 := o10 94 (by omega)
  have c10 : E10 0 = .inr (10, [.ref (al1 1), .ref (al4 9), .ref (al7 92), .ref (al8 93), .null, .null, .null, .null, .null, .null, .null, .null, .null, .null]) := (q10 0 (by omega)).trans c9
  have D10 : ∀ k, 1 ≤ k → k < 94 → k ≠ 92 → k ≠ 96 → E10 k = cb_E (kg g al10) mz k := fun k a b h1 h2 => by
    rw [q10 k (by omega), D9 k a b h1 h2]
    exact (kz_st (n := 94) (rmx_94 k b a h1 h2) (fun x hx => o10 x (by omega))).symm
  have x10_92 : E10 92 = .inl (g.2.1.2.2.2, 2, .inr (.inr (.inr (.inr (fun _ => none))))) := (q10 92 (by omega)).trans x9_92
  have D10x : ∀ k, 1 ≤ k → k < 96 → k ≠ 92 → k ≠ 96 → E10 k = cb_E (kg g al10) mz k := fun k a b h1 h2 => by
    by_cases e0 : k < 94
    · exact D10 k a e0 h1 h2
    · exact w10 k (by omega) (by omega)
  refine kf_R X hZ10 (ci := 10) (c0 := 0) (t := .object "CauseBook$Refusals") (fs := [.ref (al1 1), .ref (al4 9), .ref (al7 92), .ref (al8 93), .null, .null, .null, .null, .null, .null, .null, .null, .null, .null]) cb_c10 4 cw_374 (by omega) hc10_0 c10 (by decide) rfl rfl (by decide +kernel) rfl rfl (Nat.le_of_ble_eq_true rfl) d_CB_init_49 ?_
  intro E11 H11 locs11 q11 c11 hZ11
  have D11 : ∀ k, 1 ≤ k → k < 96 → k ≠ 92 → k ≠ 96 → E11 k = cb_E (kg g al10) mz k := fun k a b h1 h2 => by rw [q11 k (by omega)]; exact D10x k a b h1 h2
  have x11_92 : E11 92 = .inl (g.2.1.2.2.2, 2, .inr (.inr (.inr (.inr (fun _ => none))))) := (q11 92 (by omega)).trans x10_92
  refine lv_aload_n X.1 X.2.1 d_CB_init_52 rfl (lv_at hl 0 rfl) ?_
  refine lv_iconst (v := 4) X.1 X.2.1 d_CB_init_53 (by decide) ?_
  refine kf_I X hZ11 (ci := 10) (c0 := 0) (fs := [.ref (al1 1), .ref (al4 9), .ref (al7 92), .ref (al8 93), .ref (al9 94), .null, .null, .null, .null, .null, .null, .null, .null, .null]) cb_c10 5 4 cw_375 (by omega) hc10_0 c11 (by decide) rfl rfl (by decide +kernel) (Nat.le_of_ble_eq_true rfl) (by decide) (by decide) (Nat.le_of_ble_eq_true rfl) (Nat.le_trans (Nat.le_of_ble_eq_true rfl) hce) (Nat.le_trans (Nat.le_of_ble_eq_true rfl) hsl) d_CB_init_54 d_CB_init_56 ?_
  intro al12 E12 H12 locs12 o12 q12 z12 c12 hZ12
  have hc12_0 : al12 0 = al 0 := (o12 0 (by omega)).trans hc10_0
  have hc12_1 : al12 1 = al1 1 := (o12 1 (by omega)).trans hc10_1
  have hc12_9 : al12 9 = al4 9 := (o12 9 (by omega)).trans hc10_9
  have hc12_92 : al12 92 = al7 92 := (o12 92 (by omega)).trans hc10_92
  have hc12_93 : al12 93 = al8 93 := (o12 93 (by omega)).trans hc10_93
  have hc12_94 : al12 94 = al9 94 := (o12 94 (by omega)).trans hc10_94
  have D12 : ∀ k, 1 ≤ k → k < 96 → k ≠ 92 → k ≠ 96 → E12 k = cb_E (kg g al12) mz k := fun k a b h1 h2 => by
    rw [q12 k (by omega) (by omega), D11 k a b h1 h2]
    exact (kz_st (n := 96) (rmx_96 k b a h1 h2) (fun x hx => o12 x (by omega))).symm
  have x12_92 : E12 92 = .inl (g.2.1.2.2.2, 2, .inr (.inr (.inr (.inr (fun _ => none))))) := (q12 92 (by omega) (by omega)).trans x11_92
  have D12x : ∀ k, 1 ≤ k → k < 97 → k ≠ 92 → k ≠ 96 → E12 k = cb_E (kg g al12) mz k := fun k a b h1 h2 => by
    by_cases e0 : k < 96
    · exact D12 k a e0 h1 h2
    · omega
  refine lv_aload_n X.1 X.2.1 d_CB_init_59 rfl (lv_at hl 0 rfl) ?_
  refine kf_new X hZ12 cb_c8 cw_134 cw_135 cw_5 [.int 0, .null, .null, .null] (fun j hj => by rcases (show j = 0 ∨ j = 1 ∨ j = 2 ∨ j = 3 by omega) with rfl | rfl | rfl | rfl <;> rfl) (Nat.le_trans (Nat.le_of_ble_eq_true rfl) hce) (Nat.le_trans (Nat.le_of_ble_eq_true rfl) hsl) d_CB_init_60 ?_
  intro al13 E13 H13 o13 q13 z13 hZ13
  have hc13_0 : al13 0 = al 0 := (o13 0 (by omega)).trans hc12_0
  have hc13_1 : al13 1 = al1 1 := (o13 1 (by omega)).trans hc12_1
  have hc13_9 : al13 9 = al4 9 := (o13 9 (by omega)).trans hc12_9
  have hc13_92 : al13 92 = al7 92 := (o13 92 (by omega)).trans hc12_92
  have hc13_93 : al13 93 = al8 93 := (o13 93 (by omega)).trans hc12_93
  have hc13_94 : al13 94 = al9 94 := (o13 94 (by omega)).trans hc12_94
  have hc13_96 : al13 96 = al12 96 := (o13 96 (by omega)).trans rfl
  have c13 : E13 0 = .inr (10, [.ref (al1 1), .ref (al4 9), .ref (al7 92), .ref (al8 93), .ref (al9 94), .ref (al12 96), .null, .null, .null, .null, .null, .null, .null, .null]) := (q13 0 (by omega)).trans c12
  have D13 : ∀ k, 1 ≤ k → k < 97 → k ≠ 92 → k ≠ 96 → E13 k = cb_E (kg g al13) mz k := fun k a b h1 h2 => by
    rw [q13 k (by omega), D12x k a b h1 h2]
    exact (kz_st (n := 97) (rmx_97 k b a h1 h2) (fun x hx => o13 x (by omega))).symm
  have x13_92 : E13 92 = .inl (g.2.1.2.2.2, 2, .inr (.inr (.inr (.inr (fun _ => none))))) := (q13 92 (by omega)).trans x12_92
  have x13_96 : E13 96 = .inl (g.2.1.1, 4, .inl (fun _ => 0)) := (q13 96 (by omega)).trans z12
  refine lv_dup X.1 X.2.1 d_CB_init_63 rfl ?_
  refine kb_callN X hZ13 (As := []) (st := [.ref (al13 97), .ref (al 0)]) (k_Ro_97) K_Ro_init rfl cw_136 (by show 1 + 1 ≤ R.frames; omega) (by show 8 + (1 + 11) + 12 ≤ R.locals; omega) (Nat.le_trans (Nat.le_of_ble_eq_true rfl) hce) (Nat.le_trans (Nat.le_of_ble_eq_true rfl) hsl) hl.1 (Nat.le_of_ble_eq_true rfl) d_CB_init_64 z13 ?_
  intro al14 E14 H14 locs14 o14 w14 hZ14
  obtain ⟨q14, w14⟩ := w14
  have hc14_0 : al14 0 = al 0 := (o14 0 (by omega)).trans hc13_0
  have hc14_1 : al14 1 = al1 1 := (o14 1 (by omega)).trans hc13_1
  have hc14_9 : al14 9 = al4 9 := (o14 9 (by omega)).trans hc13_9
  have hc14_92 : al14 92 = al7 92 := (o14 92 (by omega)).trans hc13_92
  have hc14_93 : al14 93 = al8 93 := (o14 93 (by omega)).trans hc13_93
  have hc14_94 : al14 94 = al9 94 := (o14 94 (by omega)).trans hc13_94
  have hc14_96 : al14 96 = al12 96 := (o14 96 (by omega)).trans hc13_96
  have hc14_97 : al14 97 = al13 97 := o14 97 (by omega)
  have c14 : E14 0 = .inr (10, [.ref (al1 1), .ref (al4 9), .ref (al7 92), .ref (al8 93), .ref (al9 94), .ref (al12 96), .null, .null, .null, .null, .null, .null, .null, .null]) := (q14 0 (by omega)).trans c13
  have D14 : ∀ k, 1 ≤ k → k < 97 → k ≠ 92 → k ≠ 96 → E14 k = cb_E (kg g al14) mz k := fun k a b h1 h2 => by
    rw [q14 k (by omega), D13 k a b h1 h2]
    exact (kz_st (n := 97) (rmx_97 k b a h1 h2) (fun x hx => o14 x (by omega))).symm
  have x14_92 : E14 92 = .inl (g.2.1.2.2.2, 2, .inr (.inr (.inr (.inr (fun _ => none))))) := (q14 92 (by omega)).trans x13_92
  have x14_96 : E14 96 = .inl (g.2.1.1, 4, .inl (fun _ => 0)) := (q14 96 (by omega)).trans x13_96
  have D14x : ∀ k, 1 ≤ k → k < 101 → k ≠ 92 → k ≠ 96 → E14 k = cb_E (kg g al14) mz k := fun k a b h1 h2 => by
    by_cases e0 : k < 97
    · exact D14 k a e0 h1 h2
    · exact w14 k (by omega) (by omega)
  refine kf_R X hZ14 (ci := 10) (c0 := 0) (t := .object "CauseBook$Roll") (fs := [.ref (al1 1), .ref (al4 9), .ref (al7 92), .ref (al8 93), .ref (al9 94), .ref (al12 96), .null, .null, .null, .null, .null, .null, .null, .null]) cb_c10 6 cw_376 (by omega) hc14_0 c14 (by decide) rfl rfl (by decide +kernel) rfl rfl (Nat.le_of_ble_eq_true rfl) d_CB_init_67 ?_
  intro E15 H15 locs15 q15 c15 hZ15
  have D15 : ∀ k, 1 ≤ k → k < 101 → k ≠ 92 → k ≠ 96 → E15 k = cb_E (kg g al14) mz k := fun k a b h1 h2 => by rw [q15 k (by omega)]; exact D14x k a b h1 h2
  have x15_92 : E15 92 = .inl (g.2.1.2.2.2, 2, .inr (.inr (.inr (.inr (fun _ => none))))) := (q15 92 (by omega)).trans x14_92
  have x15_96 : E15 96 = .inl (g.2.1.1, 4, .inl (fun _ => 0)) := (q15 96 (by omega)).trans x14_96
  refine lv_aload_n X.1 X.2.1 d_CB_init_70 rfl (lv_at hl 0 rfl) ?_
  refine kf_new X hZ15 cb_c8 cw_134 cw_135 cw_5 [.int 0, .null, .null, .null] (fun j hj => by rcases (show j = 0 ∨ j = 1 ∨ j = 2 ∨ j = 3 by omega) with rfl | rfl | rfl | rfl <;> rfl) (Nat.le_trans (Nat.le_of_ble_eq_true rfl) hce) (Nat.le_trans (Nat.le_of_ble_eq_true rfl) hsl) d_CB_init_71 ?_
  intro al16 E16 H16 o16 q16 z16 hZ16
  have hc16_0 : al16 0 = al 0 := (o16 0 (by omega)).trans hc14_0
  have hc16_1 : al16 1 = al1 1 := (o16 1 (by omega)).trans hc14_1
  have hc16_9 : al16 9 = al4 9 := (o16 9 (by omega)).trans hc14_9
  have hc16_92 : al16 92 = al7 92 := (o16 92 (by omega)).trans hc14_92
  have hc16_93 : al16 93 = al8 93 := (o16 93 (by omega)).trans hc14_93
  have hc16_94 : al16 94 = al9 94 := (o16 94 (by omega)).trans hc14_94
  have hc16_96 : al16 96 = al12 96 := (o16 96 (by omega)).trans hc14_96
  have hc16_97 : al16 97 = al13 97 := (o16 97 (by omega)).trans hc14_97
  have c16 : E16 0 = .inr (10, [.ref (al1 1), .ref (al4 9), .ref (al7 92), .ref (al8 93), .ref (al9 94), .ref (al12 96), .ref (al13 97), .null, .null, .null, .null, .null, .null, .null]) := (q16 0 (by omega)).trans c15
  have D16 : ∀ k, 1 ≤ k → k < 101 → k ≠ 92 → k ≠ 96 → E16 k = cb_E (kg g al16) mz k := fun k a b h1 h2 => by
    rw [q16 k (by omega), D15 k a b h1 h2]
    exact (kz_st (n := 101) (rmx_101 k b a h1 h2) (fun x hx => o16 x (by omega))).symm
  have x16_92 : E16 92 = .inl (g.2.1.2.2.2, 2, .inr (.inr (.inr (.inr (fun _ => none))))) := (q16 92 (by omega)).trans x15_92
  have x16_96 : E16 96 = .inl (g.2.1.1, 4, .inl (fun _ => 0)) := (q16 96 (by omega)).trans x15_96
  refine lv_dup X.1 X.2.1 d_CB_init_74 rfl ?_
  refine kb_callN X hZ16 (As := []) (st := [.ref (al16 101), .ref (al 0)]) (k_Ro_101) K_Ro_init rfl cw_136 (by show 1 + 1 ≤ R.frames; omega) (by show 8 + (1 + 11) + 12 ≤ R.locals; omega) (Nat.le_trans (Nat.le_of_ble_eq_true rfl) hce) (Nat.le_trans (Nat.le_of_ble_eq_true rfl) hsl) hl.1 (Nat.le_of_ble_eq_true rfl) d_CB_init_75 z16 ?_
  intro al17 E17 H17 locs17 o17 w17 hZ17
  obtain ⟨q17, w17⟩ := w17
  have hc17_0 : al17 0 = al 0 := (o17 0 (by omega)).trans hc16_0
  have hc17_1 : al17 1 = al1 1 := (o17 1 (by omega)).trans hc16_1
  have hc17_9 : al17 9 = al4 9 := (o17 9 (by omega)).trans hc16_9
  have hc17_92 : al17 92 = al7 92 := (o17 92 (by omega)).trans hc16_92
  have hc17_93 : al17 93 = al8 93 := (o17 93 (by omega)).trans hc16_93
  have hc17_94 : al17 94 = al9 94 := (o17 94 (by omega)).trans hc16_94
  have hc17_96 : al17 96 = al12 96 := (o17 96 (by omega)).trans hc16_96
  have hc17_97 : al17 97 = al13 97 := (o17 97 (by omega)).trans hc16_97
  have hc17_101 : al17 101 = al16 101 := o17 101 (by omega)
  have c17 : E17 0 = .inr (10, [.ref (al1 1), .ref (al4 9), .ref (al7 92), .ref (al8 93), .ref (al9 94), .ref (al12 96), .ref (al13 97), .null, .null, .null, .null, .null, .null, .null]) := (q17 0 (by omega)).trans c16
  have D17 : ∀ k, 1 ≤ k → k < 101 → k ≠ 92 → k ≠ 96 → E17 k = cb_E (kg g al17) mz k := fun k a b h1 h2 => by
    rw [q17 k (by omega), D16 k a b h1 h2]
    exact (kz_st (n := 101) (rmx_101 k b a h1 h2) (fun x hx => o17 x (by omega))).symm
  have x17_92 : E17 92 = .inl (g.2.1.2.2.2, 2, .inr (.inr (.inr (.inr (fun _ => none))))) := (q17 92 (by omega)).trans x16_92
  have x17_96 : E17 96 = .inl (g.2.1.1, 4, .inl (fun _ => 0)) := (q17 96 (by omega)).trans x16_96
  have D17x : ∀ k, 1 ≤ k → k < 105 → k ≠ 92 → k ≠ 96 → E17 k = cb_E (kg g al17) mz k := fun k a b h1 h2 => by
    by_cases e0 : k < 101
    · exact D17 k a e0 h1 h2
    · exact w17 k (by omega) (by omega)
  refine kf_R X hZ17 (ci := 10) (c0 := 0) (t := .object "CauseBook$Roll") (fs := [.ref (al1 1), .ref (al4 9), .ref (al7 92), .ref (al8 93), .ref (al9 94), .ref (al12 96), .ref (al13 97), .null, .null, .null, .null, .null, .null, .null]) cb_c10 7 cw_377 (by omega) hc17_0 c17 (by decide) rfl rfl (by decide +kernel) rfl rfl (Nat.le_of_ble_eq_true rfl) d_CB_init_78 ?_
  intro E18 H18 locs18 q18 c18 hZ18
  have D18 : ∀ k, 1 ≤ k → k < 105 → k ≠ 92 → k ≠ 96 → E18 k = cb_E (kg g al17) mz k := fun k a b h1 h2 => by rw [q18 k (by omega)]; exact D17x k a b h1 h2
  have x18_92 : E18 92 = .inl (g.2.1.2.2.2, 2, .inr (.inr (.inr (.inr (fun _ => none))))) := (q18 92 (by omega)).trans x17_92
  have x18_96 : E18 96 = .inl (g.2.1.1, 4, .inl (fun _ => 0)) := (q18 96 (by omega)).trans x17_96
  refine lv_aload_n X.1 X.2.1 d_CB_init_81 rfl (lv_at hl 0 rfl) ?_
  refine kf_new X hZ18 cb_c9 cw_168 cw_169 cw_6 [.null, .null, .null, .null, .null, .null, .null, .int 0, .int 0] (fun j hj => by rcases (show j = 0 ∨ j = 1 ∨ j = 2 ∨ j = 3 ∨ j = 4 ∨ j = 5 ∨ j = 6 ∨ j = 7 ∨ j = 8 by omega) with rfl | rfl | rfl | rfl | rfl | rfl | rfl | rfl | rfl <;> rfl) (Nat.le_trans (Nat.le_of_ble_eq_true rfl) hce) (Nat.le_trans (Nat.le_of_ble_eq_true rfl) hsl) d_CB_init_82 ?_
  intro al19 E19 H19 o19 q19 z19 hZ19
  have hc19_0 : al19 0 = al 0 := (o19 0 (by omega)).trans hc17_0
  have hc19_1 : al19 1 = al1 1 := (o19 1 (by omega)).trans hc17_1
  have hc19_9 : al19 9 = al4 9 := (o19 9 (by omega)).trans hc17_9
  have hc19_92 : al19 92 = al7 92 := (o19 92 (by omega)).trans hc17_92
  have hc19_93 : al19 93 = al8 93 := (o19 93 (by omega)).trans hc17_93
  have hc19_94 : al19 94 = al9 94 := (o19 94 (by omega)).trans hc17_94
  have hc19_96 : al19 96 = al12 96 := (o19 96 (by omega)).trans hc17_96
  have hc19_97 : al19 97 = al13 97 := (o19 97 (by omega)).trans hc17_97
  have hc19_101 : al19 101 = al16 101 := (o19 101 (by omega)).trans hc17_101
  have c19 : E19 0 = .inr (10, [.ref (al1 1), .ref (al4 9), .ref (al7 92), .ref (al8 93), .ref (al9 94), .ref (al12 96), .ref (al13 97), .ref (al16 101), .null, .null, .null, .null, .null, .null]) := (q19 0 (by omega)).trans c18
  have D19 : ∀ k, 1 ≤ k → k < 105 → k ≠ 92 → k ≠ 96 → E19 k = cb_E (kg g al19) mz k := fun k a b h1 h2 => by
    rw [q19 k (by omega), D18 k a b h1 h2]
    exact (kz_st (n := 105) (rmx_105 k b a h1 h2) (fun x hx => o19 x (by omega))).symm
  have x19_92 : E19 92 = .inl (g.2.1.2.2.2, 2, .inr (.inr (.inr (.inr (fun _ => none))))) := (q19 92 (by omega)).trans x18_92
  have x19_96 : E19 96 = .inl (g.2.1.1, 4, .inl (fun _ => 0)) := (q19 96 (by omega)).trans x18_96
  refine lv_dup X.1 X.2.1 d_CB_init_85 rfl ?_
  refine lv_aload_n X.1 X.2.1 d_CB_init_86 rfl (lv_at hl 0 rfl) ?_
  refine kf_get X hZ19 (ci := 10) (c0 := 0) (fs := [.ref (al1 1), .ref (al4 9), .ref (al7 92), .ref (al8 93), .ref (al9 94), .ref (al12 96), .ref (al13 97), .ref (al16 101), .null, .null, .null, .null, .null, .null]) (v := .ref (al1 1)) cb_c10 0 cw_370 (by omega) hc19_0 c19 (by decide) rfl d_CB_init_87 ?_
  refine lv_aload_n X.1 X.2.1 d_CB_init_90 rfl (lv_at hl 0 rfl) ?_
  refine kf_get X hZ19 (ci := 10) (c0 := 0) (fs := [.ref (al1 1), .ref (al4 9), .ref (al7 92), .ref (al8 93), .ref (al9 94), .ref (al12 96), .ref (al13 97), .ref (al16 101), .null, .null, .null, .null, .null, .null]) (v := .ref (al13 97)) cb_c10 6 cw_376 (by omega) hc19_0 c19 (by decide) rfl d_CB_init_91 ?_
  refine kb_callN X hZ19 (As := [.ref (al1 1), .ref (al13 97)]) (st := [.ref (al19 105), .ref (al 0)]) (k_Sp) K_Sp_init (by show [Value.ref (al19 105), .ref (al19 1), .ref (al19 97)] = _; rw [hc19_1, hc19_97]) cw_170 (by show 1 + 1 ≤ R.frames; omega) (by show 8 + (3 + 11) + 12 ≤ R.locals; omega) (Nat.le_trans (Nat.le_of_ble_eq_true rfl) hce) (Nat.le_trans (Nat.le_of_ble_eq_true rfl) hsl) hl.1 (Nat.le_of_ble_eq_true rfl) d_CB_init_94 z19 ?_
  intro al20 E20 H20 locs20 o20 w20 hZ20
  obtain ⟨q20, w20⟩ := w20
  have hc20_0 : al20 0 = al 0 := (o20 0 (by omega)).trans hc19_0
  have hc20_1 : al20 1 = al1 1 := (o20 1 (by omega)).trans hc19_1
  have hc20_9 : al20 9 = al4 9 := (o20 9 (by omega)).trans hc19_9
  have hc20_92 : al20 92 = al7 92 := (o20 92 (by omega)).trans hc19_92
  have hc20_93 : al20 93 = al8 93 := (o20 93 (by omega)).trans hc19_93
  have hc20_94 : al20 94 = al9 94 := (o20 94 (by omega)).trans hc19_94
  have hc20_96 : al20 96 = al12 96 := (o20 96 (by omega)).trans hc19_96
  have hc20_97 : al20 97 = al13 97 := (o20 97 (by omega)).trans hc19_97
  have hc20_101 : al20 101 = al16 101 := (o20 101 (by omega)).trans hc19_101
  have hc20_105 : al20 105 = al19 105 := o20 105 (by omega)
  have c20 : E20 0 = .inr (10, [.ref (al1 1), .ref (al4 9), .ref (al7 92), .ref (al8 93), .ref (al9 94), .ref (al12 96), .ref (al13 97), .ref (al16 101), .null, .null, .null, .null, .null, .null]) := (q20 0 (by omega)).trans c19
  have D20 : ∀ k, 1 ≤ k → k < 105 → k ≠ 92 → k ≠ 96 → E20 k = cb_E (kg g al20) mz k := fun k a b h1 h2 => by
    rw [q20 k (by omega), D19 k a b h1 h2]
    exact (kz_st (n := 105) (rmx_105 k b a h1 h2) (fun x hx => o20 x (by omega))).symm
  have x20_92 : E20 92 = .inl (g.2.1.2.2.2, 2, .inr (.inr (.inr (.inr (fun _ => none))))) := (q20 92 (by omega)).trans x19_92
  have x20_96 : E20 96 = .inl (g.2.1.1, 4, .inl (fun _ => 0)) := (q20 96 (by omega)).trans x19_96
  have D20x : ∀ k, 1 ≤ k → k < 111 → k ≠ 92 → k ≠ 96 → E20 k = cb_E (kg g al20) mz k := fun k a b h1 h2 => by
    by_cases e0 : k < 105
    · exact D20 k a e0 h1 h2
    · exact w20 k (by omega) (by omega)
  refine kf_R X hZ20 (ci := 10) (c0 := 0) (t := .object "CauseBook$Spreader") (fs := [.ref (al1 1), .ref (al4 9), .ref (al7 92), .ref (al8 93), .ref (al9 94), .ref (al12 96), .ref (al13 97), .ref (al16 101), .null, .null, .null, .null, .null, .null]) cb_c10 8 cw_378 (by omega) hc20_0 c20 (by decide) rfl rfl (by decide +kernel) rfl rfl (Nat.le_of_ble_eq_true rfl) d_CB_init_97 ?_
  intro E21 H21 locs21 q21 c21 hZ21
  have D21 : ∀ k, 1 ≤ k → k < 111 → k ≠ 92 → k ≠ 96 → E21 k = cb_E (kg g al20) mz k := fun k a b h1 h2 => by rw [q21 k (by omega)]; exact D20x k a b h1 h2
  have x21_92 : E21 92 = .inl (g.2.1.2.2.2, 2, .inr (.inr (.inr (.inr (fun _ => none))))) := (q21 92 (by omega)).trans x20_92
  have x21_96 : E21 96 = .inl (g.2.1.1, 4, .inl (fun _ => 0)) := (q21 96 (by omega)).trans x20_96
  refine lv_aload_n X.1 X.2.1 d_CB_init_100 rfl (lv_at hl 0 rfl) ?_
  refine kf_new X hZ21 cb_c2 cw_202 cw_203 cw_7 [.null, .null, .null, .null, .null, .null, .null, .null, .null, .int 0, .int 0, .int 0, .int 0, .int 0, .int 0] (fun j hj => by rcases (show j = 0 ∨ j = 1 ∨ j = 2 ∨ j = 3 ∨ j = 4 ∨ j = 5 ∨ j = 6 ∨ j = 7 ∨ j = 8 ∨ j = 9 ∨ j = 10 ∨ j = 11 ∨ j = 12 ∨ j = 13 ∨ j = 14 by omega) with rfl | rfl | rfl | rfl | rfl | rfl | rfl | rfl | rfl | rfl | rfl | rfl | rfl | rfl | rfl <;> rfl) (Nat.le_trans (Nat.le_of_ble_eq_true rfl) hce) (Nat.le_trans (Nat.le_of_ble_eq_true rfl) hsl) d_CB_init_101 ?_
  intro al22 E22 H22 o22 q22 z22 hZ22
  have hc22_0 : al22 0 = al 0 := (o22 0 (by omega)).trans hc20_0
  have hc22_1 : al22 1 = al1 1 := (o22 1 (by omega)).trans hc20_1
  have hc22_9 : al22 9 = al4 9 := (o22 9 (by omega)).trans hc20_9
  have hc22_92 : al22 92 = al7 92 := (o22 92 (by omega)).trans hc20_92
  have hc22_93 : al22 93 = al8 93 := (o22 93 (by omega)).trans hc20_93
  have hc22_94 : al22 94 = al9 94 := (o22 94 (by omega)).trans hc20_94
  have hc22_96 : al22 96 = al12 96 := (o22 96 (by omega)).trans hc20_96
  have hc22_97 : al22 97 = al13 97 := (o22 97 (by omega)).trans hc20_97
  have hc22_101 : al22 101 = al16 101 := (o22 101 (by omega)).trans hc20_101
  have hc22_105 : al22 105 = al19 105 := (o22 105 (by omega)).trans hc20_105
  have c22 : E22 0 = .inr (10, [.ref (al1 1), .ref (al4 9), .ref (al7 92), .ref (al8 93), .ref (al9 94), .ref (al12 96), .ref (al13 97), .ref (al16 101), .ref (al19 105), .null, .null, .null, .null, .null]) := (q22 0 (by omega)).trans c21
  have D22 : ∀ k, 1 ≤ k → k < 111 → k ≠ 92 → k ≠ 96 → E22 k = cb_E (kg g al22) mz k := fun k a b h1 h2 => by
    rw [q22 k (by omega), D21 k a b h1 h2]
    exact (kz_st (n := 111) (rmx_111 k b a h1 h2) (fun x hx => o22 x (by omega))).symm
  have x22_92 : E22 92 = .inl (g.2.1.2.2.2, 2, .inr (.inr (.inr (.inr (fun _ => none))))) := (q22 92 (by omega)).trans x21_92
  have x22_96 : E22 96 = .inl (g.2.1.1, 4, .inl (fun _ => 0)) := (q22 96 (by omega)).trans x21_96
  refine lv_dup X.1 X.2.1 d_CB_init_104 rfl ?_
  refine lv_aload_n X.1 X.2.1 d_CB_init_105 rfl (lv_at hl 0 rfl) ?_
  refine kf_get X hZ22 (ci := 10) (c0 := 0) (fs := [.ref (al1 1), .ref (al4 9), .ref (al7 92), .ref (al8 93), .ref (al9 94), .ref (al12 96), .ref (al13 97), .ref (al16 101), .ref (al19 105), .null, .null, .null, .null, .null]) (v := .ref (al1 1)) cb_c10 0 cw_370 (by omega) hc22_0 c22 (by decide) rfl d_CB_init_106 ?_
  refine lv_aload_n X.1 X.2.1 d_CB_init_109 rfl (lv_at hl 0 rfl) ?_
  refine kf_get X hZ22 (ci := 10) (c0 := 0) (fs := [.ref (al1 1), .ref (al4 9), .ref (al7 92), .ref (al8 93), .ref (al9 94), .ref (al12 96), .ref (al13 97), .ref (al16 101), .ref (al19 105), .null, .null, .null, .null, .null]) (v := .ref (al19 105)) cb_c10 8 cw_378 (by omega) hc22_0 c22 (by decide) rfl d_CB_init_110 ?_
  refine lv_aload_n X.1 X.2.1 d_CB_init_113 rfl (lv_at hl 0 rfl) ?_
  refine kf_get X hZ22 (ci := 10) (c0 := 0) (fs := [.ref (al1 1), .ref (al4 9), .ref (al7 92), .ref (al8 93), .ref (al9 94), .ref (al12 96), .ref (al13 97), .ref (al16 101), .ref (al19 105), .null, .null, .null, .null, .null]) (v := .ref (al13 97)) cb_c10 6 cw_376 (by omega) hc22_0 c22 (by decide) rfl d_CB_init_114 ?_
  refine lv_aload_n X.1 X.2.1 d_CB_init_117 rfl (lv_at hl 0 rfl) ?_
  refine kf_get X hZ22 (ci := 10) (c0 := 0) (fs := [.ref (al1 1), .ref (al4 9), .ref (al7 92), .ref (al8 93), .ref (al9 94), .ref (al12 96), .ref (al13 97), .ref (al16 101), .ref (al19 105), .null, .null, .null, .null, .null]) (v := .ref (al16 101)) cb_c10 7 cw_377 (by omega) hc22_0 c22 (by decide) rfl d_CB_init_118 ?_
  refine kb_callN X hZ22 (As := [.ref (al1 1), .ref (al19 105), .ref (al13 97), .ref (al16 101)]) (st := [.ref (al22 111), .ref (al 0)]) (k_Co) K_Co_init (by show [Value.ref (al22 111), .ref (al22 1), .ref (al22 105), .ref (al22 97), .ref (al22 101)] = _; rw [hc22_1, hc22_105, hc22_97, hc22_101]) cw_204 (by show 1 + 1 ≤ R.frames; omega) (by show 8 + (5 + 11) + 12 ≤ R.locals; omega) (Nat.le_trans (Nat.le_of_ble_eq_true rfl) hce) (Nat.le_trans (Nat.le_of_ble_eq_true rfl) hsl) hl.1 (Nat.le_of_ble_eq_true rfl) d_CB_init_121 z22 ?_
  intro al23 E23 H23 locs23 o23 w23 hZ23
  obtain ⟨q23, w23⟩ := w23
  have hc23_0 : al23 0 = al 0 := (o23 0 (by omega)).trans hc22_0
  have hc23_1 : al23 1 = al1 1 := (o23 1 (by omega)).trans hc22_1
  have hc23_9 : al23 9 = al4 9 := (o23 9 (by omega)).trans hc22_9
  have hc23_92 : al23 92 = al7 92 := (o23 92 (by omega)).trans hc22_92
  have hc23_93 : al23 93 = al8 93 := (o23 93 (by omega)).trans hc22_93
  have hc23_94 : al23 94 = al9 94 := (o23 94 (by omega)).trans hc22_94
  have hc23_96 : al23 96 = al12 96 := (o23 96 (by omega)).trans hc22_96
  have hc23_97 : al23 97 = al13 97 := (o23 97 (by omega)).trans hc22_97
  have hc23_101 : al23 101 = al16 101 := (o23 101 (by omega)).trans hc22_101
  have hc23_105 : al23 105 = al19 105 := (o23 105 (by omega)).trans hc22_105
  have hc23_111 : al23 111 = al22 111 := o23 111 (by omega)
  have c23 : E23 0 = .inr (10, [.ref (al1 1), .ref (al4 9), .ref (al7 92), .ref (al8 93), .ref (al9 94), .ref (al12 96), .ref (al13 97), .ref (al16 101), .ref (al19 105), .null, .null, .null, .null, .null]) := (q23 0 (by omega)).trans c22
  have D23 : ∀ k, 1 ≤ k → k < 111 → k ≠ 92 → k ≠ 96 → E23 k = cb_E (kg g al23) mz k := fun k a b h1 h2 => by
    rw [q23 k (by omega), D22 k a b h1 h2]
    exact (kz_st (n := 111) (rmx_111 k b a h1 h2) (fun x hx => o23 x (by omega))).symm
  have x23_92 : E23 92 = .inl (g.2.1.2.2.2, 2, .inr (.inr (.inr (.inr (fun _ => none))))) := (q23 92 (by omega)).trans x22_92
  have x23_96 : E23 96 = .inl (g.2.1.1, 4, .inl (fun _ => 0)) := (q23 96 (by omega)).trans x22_96
  have D23x : ∀ k, 1 ≤ k → k < 117 → k ≠ 92 → k ≠ 96 → E23 k = cb_E (kg g al23) mz k := fun k a b h1 h2 => by
    by_cases e0 : k < 111
    · exact D23 k a e0 h1 h2
    · exact w23 k (by omega) (by omega)
  refine kf_R X hZ23 (ci := 10) (c0 := 0) (t := .object "CauseBook$Codes") (fs := [.ref (al1 1), .ref (al4 9), .ref (al7 92), .ref (al8 93), .ref (al9 94), .ref (al12 96), .ref (al13 97), .ref (al16 101), .ref (al19 105), .null, .null, .null, .null, .null]) cb_c10 9 cw_379 (by omega) hc23_0 c23 (by decide) rfl rfl (by decide +kernel) rfl rfl (Nat.le_of_ble_eq_true rfl) d_CB_init_124 ?_
  intro E24 H24 locs24 q24 c24 hZ24
  have D24 : ∀ k, 1 ≤ k → k < 117 → k ≠ 92 → k ≠ 96 → E24 k = cb_E (kg g al23) mz k := fun k a b h1 h2 => by rw [q24 k (by omega)]; exact D23x k a b h1 h2
  have x24_92 : E24 92 = .inl (g.2.1.2.2.2, 2, .inr (.inr (.inr (.inr (fun _ => none))))) := (q24 92 (by omega)).trans x23_92
  have x24_96 : E24 96 = .inl (g.2.1.1, 4, .inl (fun _ => 0)) := (q24 96 (by omega)).trans x23_96
  refine lv_aload_n X.1 X.2.1 d_CB_init_127 rfl (lv_at hl 0 rfl) ?_
  refine kf_new X hZ24 cb_c3 cw_271 cw_272 cw_8 [.null, .null, .int 0, .int 0] (fun j hj => by rcases (show j = 0 ∨ j = 1 ∨ j = 2 ∨ j = 3 by omega) with rfl | rfl | rfl | rfl <;> rfl) (Nat.le_trans (Nat.le_of_ble_eq_true rfl) hce) (Nat.le_trans (Nat.le_of_ble_eq_true rfl) hsl) d_CB_init_128 ?_
  intro al25 E25 H25 o25 q25 z25 hZ25
  have hc25_0 : al25 0 = al 0 := (o25 0 (by omega)).trans hc23_0
  have hc25_1 : al25 1 = al1 1 := (o25 1 (by omega)).trans hc23_1
  have hc25_9 : al25 9 = al4 9 := (o25 9 (by omega)).trans hc23_9
  have hc25_92 : al25 92 = al7 92 := (o25 92 (by omega)).trans hc23_92
  have hc25_93 : al25 93 = al8 93 := (o25 93 (by omega)).trans hc23_93
  have hc25_94 : al25 94 = al9 94 := (o25 94 (by omega)).trans hc23_94
  have hc25_96 : al25 96 = al12 96 := (o25 96 (by omega)).trans hc23_96
  have hc25_97 : al25 97 = al13 97 := (o25 97 (by omega)).trans hc23_97
  have hc25_101 : al25 101 = al16 101 := (o25 101 (by omega)).trans hc23_101
  have hc25_105 : al25 105 = al19 105 := (o25 105 (by omega)).trans hc23_105
  have hc25_111 : al25 111 = al22 111 := (o25 111 (by omega)).trans hc23_111
  have c25 : E25 0 = .inr (10, [.ref (al1 1), .ref (al4 9), .ref (al7 92), .ref (al8 93), .ref (al9 94), .ref (al12 96), .ref (al13 97), .ref (al16 101), .ref (al19 105), .ref (al22 111), .null, .null, .null, .null]) := (q25 0 (by omega)).trans c24
  have D25 : ∀ k, 1 ≤ k → k < 117 → k ≠ 92 → k ≠ 96 → E25 k = cb_E (kg g al25) mz k := fun k a b h1 h2 => by
    rw [q25 k (by omega), D24 k a b h1 h2]
    exact (kz_st (n := 117) (rmx_117 k b a h1 h2) (fun x hx => o25 x (by omega))).symm
  have x25_92 : E25 92 = .inl (g.2.1.2.2.2, 2, .inr (.inr (.inr (.inr (fun _ => none))))) := (q25 92 (by omega)).trans x24_92
  have x25_96 : E25 96 = .inl (g.2.1.1, 4, .inl (fun _ => 0)) := (q25 96 (by omega)).trans x24_96
  refine lv_dup X.1 X.2.1 d_CB_init_131 rfl ?_
  refine lv_aload_n X.1 X.2.1 d_CB_init_132 rfl (lv_at hl 0 rfl) ?_
  refine kf_get X hZ25 (ci := 10) (c0 := 0) (fs := [.ref (al1 1), .ref (al4 9), .ref (al7 92), .ref (al8 93), .ref (al9 94), .ref (al12 96), .ref (al13 97), .ref (al16 101), .ref (al19 105), .ref (al22 111), .null, .null, .null, .null]) (v := .ref (al1 1)) cb_c10 0 cw_370 (by omega) hc25_0 c25 (by decide) rfl d_CB_init_133 ?_
  refine lv_aload_n X.1 X.2.1 d_CB_init_136 rfl (lv_at hl 0 rfl) ?_
  refine kf_get X hZ25 (ci := 10) (c0 := 0) (fs := [.ref (al1 1), .ref (al4 9), .ref (al7 92), .ref (al8 93), .ref (al9 94), .ref (al12 96), .ref (al13 97), .ref (al16 101), .ref (al19 105), .ref (al22 111), .null, .null, .null, .null]) (v := .ref (al22 111)) cb_c10 9 cw_379 (by omega) hc25_0 c25 (by decide) rfl d_CB_init_137 ?_
  refine kb_callN X hZ25 (As := [.ref (al1 1), .ref (al22 111)]) (st := [.ref (al25 117), .ref (al 0)]) (k_De) K_De_init (by show [Value.ref (al25 117), .ref (al25 1), .ref (al25 111)] = _; rw [hc25_1, hc25_111]) cw_273 (by show 1 + 1 ≤ R.frames; omega) (by show 8 + (3 + 11) + 12 ≤ R.locals; omega) (Nat.le_trans (Nat.le_of_ble_eq_true rfl) hce) (Nat.le_trans (Nat.le_of_ble_eq_true rfl) hsl) hl.1 (Nat.le_of_ble_eq_true rfl) d_CB_init_140 z25 ?_
  intro al26 E26 H26 locs26 o26 w26 hZ26
  obtain ⟨q26, w26⟩ := w26
  have hc26_0 : al26 0 = al 0 := (o26 0 (by omega)).trans hc25_0
  have hc26_1 : al26 1 = al1 1 := (o26 1 (by omega)).trans hc25_1
  have hc26_9 : al26 9 = al4 9 := (o26 9 (by omega)).trans hc25_9
  have hc26_92 : al26 92 = al7 92 := (o26 92 (by omega)).trans hc25_92
  have hc26_93 : al26 93 = al8 93 := (o26 93 (by omega)).trans hc25_93
  have hc26_94 : al26 94 = al9 94 := (o26 94 (by omega)).trans hc25_94
  have hc26_96 : al26 96 = al12 96 := (o26 96 (by omega)).trans hc25_96
  have hc26_97 : al26 97 = al13 97 := (o26 97 (by omega)).trans hc25_97
  have hc26_101 : al26 101 = al16 101 := (o26 101 (by omega)).trans hc25_101
  have hc26_105 : al26 105 = al19 105 := (o26 105 (by omega)).trans hc25_105
  have hc26_111 : al26 111 = al22 111 := (o26 111 (by omega)).trans hc25_111
  have hc26_117 : al26 117 = al25 117 := o26 117 (by omega)
  have c26 : E26 0 = .inr (10, [.ref (al1 1), .ref (al4 9), .ref (al7 92), .ref (al8 93), .ref (al9 94), .ref (al12 96), .ref (al13 97), .ref (al16 101), .ref (al19 105), .ref (al22 111), .null, .null, .null, .null]) := (q26 0 (by omega)).trans c25
  have D26 : ∀ k, 1 ≤ k → k < 117 → k ≠ 92 → k ≠ 96 → E26 k = cb_E (kg g al26) mz k := fun k a b h1 h2 => by
    rw [q26 k (by omega), D25 k a b h1 h2]
    exact (kz_st (n := 117) (rmx_117 k b a h1 h2) (fun x hx => o26 x (by omega))).symm
  have x26_92 : E26 92 = .inl (g.2.1.2.2.2, 2, .inr (.inr (.inr (.inr (fun _ => none))))) := (q26 92 (by omega)).trans x25_92
  have x26_96 : E26 96 = .inl (g.2.1.1, 4, .inl (fun _ => 0)) := (q26 96 (by omega)).trans x25_96
  have D26x : ∀ k, 1 ≤ k → k < 118 → k ≠ 92 → k ≠ 96 → E26 k = cb_E (kg g al26) mz k := fun k a b h1 h2 => by
    by_cases e0 : k < 117
    · exact D26 k a e0 h1 h2
    · exact w26 k (by omega) (by omega)
  refine kf_R X hZ26 (ci := 10) (c0 := 0) (t := .object "CauseBook$Decoder") (fs := [.ref (al1 1), .ref (al4 9), .ref (al7 92), .ref (al8 93), .ref (al9 94), .ref (al12 96), .ref (al13 97), .ref (al16 101), .ref (al19 105), .ref (al22 111), .null, .null, .null, .null]) cb_c10 10 cw_380 (by omega) hc26_0 c26 (by decide) rfl rfl (by decide +kernel) rfl rfl (Nat.le_of_ble_eq_true rfl) d_CB_init_143 ?_
  intro E27 H27 locs27 q27 c27 hZ27
  have D27 : ∀ k, 1 ≤ k → k < 118 → k ≠ 92 → k ≠ 96 → E27 k = cb_E (kg g al26) mz k := fun k a b h1 h2 => by rw [q27 k (by omega)]; exact D26x k a b h1 h2
  have x27_92 : E27 92 = .inl (g.2.1.2.2.2, 2, .inr (.inr (.inr (.inr (fun _ => none))))) := (q27 92 (by omega)).trans x26_92
  have x27_96 : E27 96 = .inl (g.2.1.1, 4, .inl (fun _ => 0)) := (q27 96 (by omega)).trans x26_96
  refine lv_aload_n X.1 X.2.1 d_CB_init_146 rfl (lv_at hl 0 rfl) ?_
  refine kf_new X hZ27 cb_c0 cw_292 cw_293 cw_9 [.null, .null, .null, .null, .long 0, .long 0] (fun j hj => by rcases (show j = 0 ∨ j = 1 ∨ j = 2 ∨ j = 3 ∨ j = 4 ∨ j = 5 by omega) with rfl | rfl | rfl | rfl | rfl | rfl <;> rfl) (Nat.le_trans (Nat.le_of_ble_eq_true rfl) hce) (Nat.le_trans (Nat.le_of_ble_eq_true rfl) hsl) d_CB_init_147 ?_
  intro al28 E28 H28 o28 q28 z28 hZ28
  have hc28_0 : al28 0 = al 0 := (o28 0 (by omega)).trans hc26_0
  have hc28_1 : al28 1 = al1 1 := (o28 1 (by omega)).trans hc26_1
  have hc28_9 : al28 9 = al4 9 := (o28 9 (by omega)).trans hc26_9
  have hc28_92 : al28 92 = al7 92 := (o28 92 (by omega)).trans hc26_92
  have hc28_93 : al28 93 = al8 93 := (o28 93 (by omega)).trans hc26_93
  have hc28_94 : al28 94 = al9 94 := (o28 94 (by omega)).trans hc26_94
  have hc28_96 : al28 96 = al12 96 := (o28 96 (by omega)).trans hc26_96
  have hc28_97 : al28 97 = al13 97 := (o28 97 (by omega)).trans hc26_97
  have hc28_101 : al28 101 = al16 101 := (o28 101 (by omega)).trans hc26_101
  have hc28_105 : al28 105 = al19 105 := (o28 105 (by omega)).trans hc26_105
  have hc28_111 : al28 111 = al22 111 := (o28 111 (by omega)).trans hc26_111
  have hc28_117 : al28 117 = al25 117 := (o28 117 (by omega)).trans hc26_117
  have c28 : E28 0 = .inr (10, [.ref (al1 1), .ref (al4 9), .ref (al7 92), .ref (al8 93), .ref (al9 94), .ref (al12 96), .ref (al13 97), .ref (al16 101), .ref (al19 105), .ref (al22 111), .ref (al25 117), .null, .null, .null]) := (q28 0 (by omega)).trans c27
  have D28 : ∀ k, 1 ≤ k → k < 118 → k ≠ 92 → k ≠ 96 → E28 k = cb_E (kg g al28) mz k := fun k a b h1 h2 => by
    rw [q28 k (by omega), D27 k a b h1 h2]
    exact (kz_st (n := 118) (rmx_118 k b a h1 h2) (fun x hx => o28 x (by omega))).symm
  have x28_92 : E28 92 = .inl (g.2.1.2.2.2, 2, .inr (.inr (.inr (.inr (fun _ => none))))) := (q28 92 (by omega)).trans x27_92
  have x28_96 : E28 96 = .inl (g.2.1.1, 4, .inl (fun _ => 0)) := (q28 96 (by omega)).trans x27_96
  refine lv_dup X.1 X.2.1 d_CB_init_150 rfl ?_
  refine lv_aload_n X.1 X.2.1 d_CB_init_151 rfl (lv_at hl 0 rfl) ?_
  refine kf_get X hZ28 (ci := 10) (c0 := 0) (fs := [.ref (al1 1), .ref (al4 9), .ref (al7 92), .ref (al8 93), .ref (al9 94), .ref (al12 96), .ref (al13 97), .ref (al16 101), .ref (al19 105), .ref (al22 111), .ref (al25 117), .null, .null, .null]) (v := .ref (al1 1)) cb_c10 0 cw_370 (by omega) hc28_0 c28 (by decide) rfl d_CB_init_152 ?_
  refine lv_aload_n X.1 X.2.1 d_CB_init_155 rfl (lv_at hl 0 rfl) ?_
  refine kf_get X hZ28 (ci := 10) (c0 := 0) (fs := [.ref (al1 1), .ref (al4 9), .ref (al7 92), .ref (al8 93), .ref (al9 94), .ref (al12 96), .ref (al13 97), .ref (al16 101), .ref (al19 105), .ref (al22 111), .ref (al25 117), .null, .null, .null]) (v := .ref (al22 111)) cb_c10 9 cw_379 (by omega) hc28_0 c28 (by decide) rfl d_CB_init_156 ?_
  refine lv_aload_n X.1 X.2.1 d_CB_init_159 rfl (lv_at hl 0 rfl) ?_
  refine kf_get X hZ28 (ci := 10) (c0 := 0) (fs := [.ref (al1 1), .ref (al4 9), .ref (al7 92), .ref (al8 93), .ref (al9 94), .ref (al12 96), .ref (al13 97), .ref (al16 101), .ref (al19 105), .ref (al22 111), .ref (al25 117), .null, .null, .null]) (v := .ref (al12 96)) cb_c10 5 cw_375 (by omega) hc28_0 c28 (by decide) rfl d_CB_init_160 ?_
  refine kb_callN X hZ28 (As := [.ref (al1 1), .ref (al22 111), .ref (al12 96)]) (st := [.ref (al28 118), .ref (al 0)]) (k_Ch) K_Ch_init (by show [Value.ref (al28 118), .ref (al28 1), .ref (al28 111), .ref (al28 96)] = _; rw [hc28_1, hc28_111, hc28_96]) cw_294 (by show 1 + 1 ≤ R.frames; omega) (by show 8 + (4 + 11) + 12 ≤ R.locals; omega) (Nat.le_trans (Nat.le_of_ble_eq_true rfl) hce) (Nat.le_trans (Nat.le_of_ble_eq_true rfl) hsl) hl.1 (Nat.le_of_ble_eq_true rfl) d_CB_init_163 z28 ?_
  intro al29 E29 H29 locs29 o29 w29 hZ29
  obtain ⟨q29, w29⟩ := w29
  have hc29_0 : al29 0 = al 0 := (o29 0 (by omega)).trans hc28_0
  have hc29_1 : al29 1 = al1 1 := (o29 1 (by omega)).trans hc28_1
  have hc29_9 : al29 9 = al4 9 := (o29 9 (by omega)).trans hc28_9
  have hc29_92 : al29 92 = al7 92 := (o29 92 (by omega)).trans hc28_92
  have hc29_93 : al29 93 = al8 93 := (o29 93 (by omega)).trans hc28_93
  have hc29_94 : al29 94 = al9 94 := (o29 94 (by omega)).trans hc28_94
  have hc29_96 : al29 96 = al12 96 := (o29 96 (by omega)).trans hc28_96
  have hc29_97 : al29 97 = al13 97 := (o29 97 (by omega)).trans hc28_97
  have hc29_101 : al29 101 = al16 101 := (o29 101 (by omega)).trans hc28_101
  have hc29_105 : al29 105 = al19 105 := (o29 105 (by omega)).trans hc28_105
  have hc29_111 : al29 111 = al22 111 := (o29 111 (by omega)).trans hc28_111
  have hc29_117 : al29 117 = al25 117 := (o29 117 (by omega)).trans hc28_117
  have hc29_118 : al29 118 = al28 118 := o29 118 (by omega)
  have c29 : E29 0 = .inr (10, [.ref (al1 1), .ref (al4 9), .ref (al7 92), .ref (al8 93), .ref (al9 94), .ref (al12 96), .ref (al13 97), .ref (al16 101), .ref (al19 105), .ref (al22 111), .ref (al25 117), .null, .null, .null]) := (q29 0 (by omega)).trans c28
  have D29 : ∀ k, 1 ≤ k → k < 118 → k ≠ 92 → k ≠ 96 → E29 k = cb_E (kg g al29) mz k := fun k a b h1 h2 => by
    rw [q29 k (by omega), D28 k a b h1 h2]
    exact (kz_st (n := 118) (rmx_118 k b a h1 h2) (fun x hx => o29 x (by omega))).symm
  have x29_92 : E29 92 = .inl (g.2.1.2.2.2, 2, .inr (.inr (.inr (.inr (fun _ => none))))) := (q29 92 (by omega)).trans x28_92
  have x29_96 : E29 96 = .inl (g.2.1.1, 4, .inl (fun _ => 0)) := (q29 96 (by omega)).trans x28_96
  have D29x : ∀ k, 1 ≤ k → k < 120 → k ≠ 92 → k ≠ 96 → E29 k = cb_E (kg g al29) mz k := fun k a b h1 h2 => by
    by_cases e0 : k < 118
    · exact D29 k a e0 h1 h2
    · exact w29 k (by omega) (by omega)
  refine kf_R X hZ29 (ci := 10) (c0 := 0) (t := .object "CauseBook$Chances") (fs := [.ref (al1 1), .ref (al4 9), .ref (al7 92), .ref (al8 93), .ref (al9 94), .ref (al12 96), .ref (al13 97), .ref (al16 101), .ref (al19 105), .ref (al22 111), .ref (al25 117), .null, .null, .null]) cb_c10 11 cw_381 (by omega) hc29_0 c29 (by decide) rfl rfl (by decide +kernel) rfl rfl (Nat.le_of_ble_eq_true rfl) d_CB_init_166 ?_
  intro E30 H30 locs30 q30 c30 hZ30
  have D30 : ∀ k, 1 ≤ k → k < 120 → k ≠ 92 → k ≠ 96 → E30 k = cb_E (kg g al29) mz k := fun k a b h1 h2 => by rw [q30 k (by omega)]; exact D29x k a b h1 h2
  have x30_92 : E30 92 = .inl (g.2.1.2.2.2, 2, .inr (.inr (.inr (.inr (fun _ => none))))) := (q30 92 (by omega)).trans x29_92
  have x30_96 : E30 96 = .inl (g.2.1.1, 4, .inl (fun _ => 0)) := (q30 96 (by omega)).trans x29_96
  refine lv_aload_n X.1 X.2.1 d_CB_init_169 rfl (lv_at hl 0 rfl) ?_
  refine kf_new X hZ30 cb_c6 cw_321 cw_322 cw_10 [.null, .null, .null, .int 0, .int 0] (fun j hj => by rcases (show j = 0 ∨ j = 1 ∨ j = 2 ∨ j = 3 ∨ j = 4 by omega) with rfl | rfl | rfl | rfl | rfl <;> rfl) (Nat.le_trans (Nat.le_of_ble_eq_true rfl) hce) (Nat.le_trans (Nat.le_of_ble_eq_true rfl) hsl) d_CB_init_170 ?_
  intro al31 E31 H31 o31 q31 z31 hZ31
  have hc31_0 : al31 0 = al 0 := (o31 0 (by omega)).trans hc29_0
  have hc31_1 : al31 1 = al1 1 := (o31 1 (by omega)).trans hc29_1
  have hc31_9 : al31 9 = al4 9 := (o31 9 (by omega)).trans hc29_9
  have hc31_92 : al31 92 = al7 92 := (o31 92 (by omega)).trans hc29_92
  have hc31_93 : al31 93 = al8 93 := (o31 93 (by omega)).trans hc29_93
  have hc31_94 : al31 94 = al9 94 := (o31 94 (by omega)).trans hc29_94
  have hc31_96 : al31 96 = al12 96 := (o31 96 (by omega)).trans hc29_96
  have hc31_97 : al31 97 = al13 97 := (o31 97 (by omega)).trans hc29_97
  have hc31_101 : al31 101 = al16 101 := (o31 101 (by omega)).trans hc29_101
  have hc31_105 : al31 105 = al19 105 := (o31 105 (by omega)).trans hc29_105
  have hc31_111 : al31 111 = al22 111 := (o31 111 (by omega)).trans hc29_111
  have hc31_117 : al31 117 = al25 117 := (o31 117 (by omega)).trans hc29_117
  have hc31_118 : al31 118 = al28 118 := (o31 118 (by omega)).trans hc29_118
  have c31 : E31 0 = .inr (10, [.ref (al1 1), .ref (al4 9), .ref (al7 92), .ref (al8 93), .ref (al9 94), .ref (al12 96), .ref (al13 97), .ref (al16 101), .ref (al19 105), .ref (al22 111), .ref (al25 117), .ref (al28 118), .null, .null]) := (q31 0 (by omega)).trans c30
  have D31 : ∀ k, 1 ≤ k → k < 120 → k ≠ 92 → k ≠ 96 → E31 k = cb_E (kg g al31) mz k := fun k a b h1 h2 => by
    rw [q31 k (by omega), D30 k a b h1 h2]
    exact (kz_st (n := 120) (rmx_120 k b a h1 h2) (fun x hx => o31 x (by omega))).symm
  have x31_92 : E31 92 = .inl (g.2.1.2.2.2, 2, .inr (.inr (.inr (.inr (fun _ => none))))) := (q31 92 (by omega)).trans x30_92
  have x31_96 : E31 96 = .inl (g.2.1.1, 4, .inl (fun _ => 0)) := (q31 96 (by omega)).trans x30_96
  refine lv_dup X.1 X.2.1 d_CB_init_173 rfl ?_
  refine lv_aload_n X.1 X.2.1 d_CB_init_174 rfl (lv_at hl 0 rfl) ?_
  refine kf_get X hZ31 (ci := 10) (c0 := 0) (fs := [.ref (al1 1), .ref (al4 9), .ref (al7 92), .ref (al8 93), .ref (al9 94), .ref (al12 96), .ref (al13 97), .ref (al16 101), .ref (al19 105), .ref (al22 111), .ref (al25 117), .ref (al28 118), .null, .null]) (v := .ref (al22 111)) cb_c10 9 cw_379 (by omega) hc31_0 c31 (by decide) rfl d_CB_init_175 ?_
  refine kb_callN X hZ31 (As := [.ref (al22 111)]) (st := [.ref (al31 120), .ref (al 0)]) (k_Re) K_Re_init (by show [Value.ref (al31 120), .ref (al31 111)] = _; rw [hc31_111]) cw_323 (by show 1 + 1 ≤ R.frames; omega) (by show 8 + (2 + 11) + 12 ≤ R.locals; omega) (Nat.le_trans (Nat.le_of_ble_eq_true rfl) hce) (Nat.le_trans (Nat.le_of_ble_eq_true rfl) hsl) hl.1 (Nat.le_of_ble_eq_true rfl) d_CB_init_178 z31 ?_
  intro al32 E32 H32 locs32 o32 w32 hZ32
  obtain ⟨q32, w32⟩ := w32
  have hc32_0 : al32 0 = al 0 := (o32 0 (by omega)).trans hc31_0
  have hc32_1 : al32 1 = al1 1 := (o32 1 (by omega)).trans hc31_1
  have hc32_9 : al32 9 = al4 9 := (o32 9 (by omega)).trans hc31_9
  have hc32_92 : al32 92 = al7 92 := (o32 92 (by omega)).trans hc31_92
  have hc32_93 : al32 93 = al8 93 := (o32 93 (by omega)).trans hc31_93
  have hc32_94 : al32 94 = al9 94 := (o32 94 (by omega)).trans hc31_94
  have hc32_96 : al32 96 = al12 96 := (o32 96 (by omega)).trans hc31_96
  have hc32_97 : al32 97 = al13 97 := (o32 97 (by omega)).trans hc31_97
  have hc32_101 : al32 101 = al16 101 := (o32 101 (by omega)).trans hc31_101
  have hc32_105 : al32 105 = al19 105 := (o32 105 (by omega)).trans hc31_105
  have hc32_111 : al32 111 = al22 111 := (o32 111 (by omega)).trans hc31_111
  have hc32_117 : al32 117 = al25 117 := (o32 117 (by omega)).trans hc31_117
  have hc32_118 : al32 118 = al28 118 := (o32 118 (by omega)).trans hc31_118
  have hc32_120 : al32 120 = al31 120 := o32 120 (by omega)
  have c32 : E32 0 = .inr (10, [.ref (al1 1), .ref (al4 9), .ref (al7 92), .ref (al8 93), .ref (al9 94), .ref (al12 96), .ref (al13 97), .ref (al16 101), .ref (al19 105), .ref (al22 111), .ref (al25 117), .ref (al28 118), .null, .null]) := (q32 0 (by omega)).trans c31
  have D32 : ∀ k, 1 ≤ k → k < 120 → k ≠ 92 → k ≠ 96 → E32 k = cb_E (kg g al32) mz k := fun k a b h1 h2 => by
    rw [q32 k (by omega), D31 k a b h1 h2]
    exact (kz_st (n := 120) (rmx_120 k b a h1 h2) (fun x hx => o32 x (by omega))).symm
  have x32_92 : E32 92 = .inl (g.2.1.2.2.2, 2, .inr (.inr (.inr (.inr (fun _ => none))))) := (q32 92 (by omega)).trans x31_92
  have x32_96 : E32 96 = .inl (g.2.1.1, 4, .inl (fun _ => 0)) := (q32 96 (by omega)).trans x31_96
  have D32x : ∀ k, 1 ≤ k → k < 123 → k ≠ 92 → k ≠ 96 → E32 k = cb_E (kg g al32) mz k := fun k a b h1 h2 => by
    by_cases e0 : k < 120
    · exact D32 k a e0 h1 h2
    · exact w32 k (by omega) (by omega)
  refine kf_R X hZ32 (ci := 10) (c0 := 0) (t := .object "CauseBook$Reducer") (fs := [.ref (al1 1), .ref (al4 9), .ref (al7 92), .ref (al8 93), .ref (al9 94), .ref (al12 96), .ref (al13 97), .ref (al16 101), .ref (al19 105), .ref (al22 111), .ref (al25 117), .ref (al28 118), .null, .null]) cb_c10 12 cw_382 (by omega) hc32_0 c32 (by decide) rfl rfl (by decide +kernel) rfl rfl (Nat.le_of_ble_eq_true rfl) d_CB_init_181 ?_
  intro E33 H33 locs33 q33 c33 hZ33
  have D33 : ∀ k, 1 ≤ k → k < 123 → k ≠ 92 → k ≠ 96 → E33 k = cb_E (kg g al32) mz k := fun k a b h1 h2 => by rw [q33 k (by omega)]; exact D32x k a b h1 h2
  have x33_92 : E33 92 = .inl (g.2.1.2.2.2, 2, .inr (.inr (.inr (.inr (fun _ => none))))) := (q33 92 (by omega)).trans x32_92
  have x33_96 : E33 96 = .inl (g.2.1.1, 4, .inl (fun _ => 0)) := (q33 96 (by omega)).trans x32_96
  refine lv_aload_n X.1 X.2.1 d_CB_init_184 rfl (lv_at hl 0 rfl) ?_
  refine kf_new X hZ33 cb_c1 cw_343 cw_344 cw_11 [.null, .null, .null, .null, .int 0] (fun j hj => by rcases (show j = 0 ∨ j = 1 ∨ j = 2 ∨ j = 3 ∨ j = 4 by omega) with rfl | rfl | rfl | rfl | rfl <;> rfl) (Nat.le_trans (Nat.le_of_ble_eq_true rfl) hce) (Nat.le_trans (Nat.le_of_ble_eq_true rfl) hsl) d_CB_init_185 ?_
  intro al34 E34 H34 o34 q34 z34 hZ34
  have hc34_0 : al34 0 = al 0 := (o34 0 (by omega)).trans hc32_0
  have hc34_1 : al34 1 = al1 1 := (o34 1 (by omega)).trans hc32_1
  have hc34_9 : al34 9 = al4 9 := (o34 9 (by omega)).trans hc32_9
  have hc34_92 : al34 92 = al7 92 := (o34 92 (by omega)).trans hc32_92
  have hc34_93 : al34 93 = al8 93 := (o34 93 (by omega)).trans hc32_93
  have hc34_94 : al34 94 = al9 94 := (o34 94 (by omega)).trans hc32_94
  have hc34_96 : al34 96 = al12 96 := (o34 96 (by omega)).trans hc32_96
  have hc34_97 : al34 97 = al13 97 := (o34 97 (by omega)).trans hc32_97
  have hc34_101 : al34 101 = al16 101 := (o34 101 (by omega)).trans hc32_101
  have hc34_105 : al34 105 = al19 105 := (o34 105 (by omega)).trans hc32_105
  have hc34_111 : al34 111 = al22 111 := (o34 111 (by omega)).trans hc32_111
  have hc34_117 : al34 117 = al25 117 := (o34 117 (by omega)).trans hc32_117
  have hc34_118 : al34 118 = al28 118 := (o34 118 (by omega)).trans hc32_118
  have hc34_120 : al34 120 = al31 120 := (o34 120 (by omega)).trans hc32_120
  have c34 : E34 0 = .inr (10, [.ref (al1 1), .ref (al4 9), .ref (al7 92), .ref (al8 93), .ref (al9 94), .ref (al12 96), .ref (al13 97), .ref (al16 101), .ref (al19 105), .ref (al22 111), .ref (al25 117), .ref (al28 118), .ref (al31 120), .null]) := (q34 0 (by omega)).trans c33
  have D34 : ∀ k, 1 ≤ k → k < 123 → k ≠ 92 → k ≠ 96 → E34 k = cb_E (kg g al34) mz k := fun k a b h1 h2 => by
    rw [q34 k (by omega), D33 k a b h1 h2]
    exact (kz_st (n := 123) (rmx_123 k b a h1 h2) (fun x hx => o34 x (by omega))).symm
  have x34_92 : E34 92 = .inl (g.2.1.2.2.2, 2, .inr (.inr (.inr (.inr (fun _ => none))))) := (q34 92 (by omega)).trans x33_92
  have x34_96 : E34 96 = .inl (g.2.1.1, 4, .inl (fun _ => 0)) := (q34 96 (by omega)).trans x33_96
  refine lv_dup X.1 X.2.1 d_CB_init_188 rfl ?_
  refine lv_aload_n X.1 X.2.1 d_CB_init_189 rfl (lv_at hl 0 rfl) ?_
  refine kf_get X hZ34 (ci := 10) (c0 := 0) (fs := [.ref (al1 1), .ref (al4 9), .ref (al7 92), .ref (al8 93), .ref (al9 94), .ref (al12 96), .ref (al13 97), .ref (al16 101), .ref (al19 105), .ref (al22 111), .ref (al25 117), .ref (al28 118), .ref (al31 120), .null]) (v := .ref (al1 1)) cb_c10 0 cw_370 (by omega) hc34_0 c34 (by decide) rfl d_CB_init_190 ?_
  refine lv_aload_n X.1 X.2.1 d_CB_init_193 rfl (lv_at hl 0 rfl) ?_
  refine kf_get X hZ34 (ci := 10) (c0 := 0) (fs := [.ref (al1 1), .ref (al4 9), .ref (al7 92), .ref (al8 93), .ref (al9 94), .ref (al12 96), .ref (al13 97), .ref (al16 101), .ref (al19 105), .ref (al22 111), .ref (al25 117), .ref (al28 118), .ref (al31 120), .null]) (v := .ref (al22 111)) cb_c10 9 cw_379 (by omega) hc34_0 c34 (by decide) rfl d_CB_init_194 ?_
  refine lv_aload_n X.1 X.2.1 d_CB_init_197 rfl (lv_at hl 0 rfl) ?_
  refine kf_get X hZ34 (ci := 10) (c0 := 0) (fs := [.ref (al1 1), .ref (al4 9), .ref (al7 92), .ref (al8 93), .ref (al9 94), .ref (al12 96), .ref (al13 97), .ref (al16 101), .ref (al19 105), .ref (al22 111), .ref (al25 117), .ref (al28 118), .ref (al31 120), .null]) (v := .ref (al12 96)) cb_c10 5 cw_375 (by omega) hc34_0 c34 (by decide) rfl d_CB_init_198 ?_
  refine kb_callN X hZ34 (As := [.ref (al1 1), .ref (al22 111), .ref (al12 96)]) (st := [.ref (al34 123), .ref (al 0)]) (k_Cr) K_Cr_init (by show [Value.ref (al34 123), .ref (al34 1), .ref (al34 111), .ref (al34 96)] = _; rw [hc34_1, hc34_111, hc34_96]) cw_345 (by show 1 + 1 ≤ R.frames; omega) (by show 8 + (4 + 11) + 12 ≤ R.locals; omega) (Nat.le_trans (Nat.le_of_ble_eq_true rfl) hce) (Nat.le_trans (Nat.le_of_ble_eq_true rfl) hsl) hl.1 (Nat.le_of_ble_eq_true rfl) d_CB_init_201 z34 ?_
  intro al35 E35 H35 locs35 o35 w35 hZ35
  obtain ⟨q35, w35⟩ := w35
  have hc35_0 : al35 0 = al 0 := (o35 0 (by omega)).trans hc34_0
  have hc35_1 : al35 1 = al1 1 := (o35 1 (by omega)).trans hc34_1
  have hc35_9 : al35 9 = al4 9 := (o35 9 (by omega)).trans hc34_9
  have hc35_92 : al35 92 = al7 92 := (o35 92 (by omega)).trans hc34_92
  have hc35_93 : al35 93 = al8 93 := (o35 93 (by omega)).trans hc34_93
  have hc35_94 : al35 94 = al9 94 := (o35 94 (by omega)).trans hc34_94
  have hc35_96 : al35 96 = al12 96 := (o35 96 (by omega)).trans hc34_96
  have hc35_97 : al35 97 = al13 97 := (o35 97 (by omega)).trans hc34_97
  have hc35_101 : al35 101 = al16 101 := (o35 101 (by omega)).trans hc34_101
  have hc35_105 : al35 105 = al19 105 := (o35 105 (by omega)).trans hc34_105
  have hc35_111 : al35 111 = al22 111 := (o35 111 (by omega)).trans hc34_111
  have hc35_117 : al35 117 = al25 117 := (o35 117 (by omega)).trans hc34_117
  have hc35_118 : al35 118 = al28 118 := (o35 118 (by omega)).trans hc34_118
  have hc35_120 : al35 120 = al31 120 := (o35 120 (by omega)).trans hc34_120
  have hc35_123 : al35 123 = al34 123 := o35 123 (by omega)
  have c35 : E35 0 = .inr (10, [.ref (al1 1), .ref (al4 9), .ref (al7 92), .ref (al8 93), .ref (al9 94), .ref (al12 96), .ref (al13 97), .ref (al16 101), .ref (al19 105), .ref (al22 111), .ref (al25 117), .ref (al28 118), .ref (al31 120), .null]) := (q35 0 (by omega)).trans c34
  have D35 : ∀ k, 1 ≤ k → k < 123 → k ≠ 92 → k ≠ 96 → E35 k = cb_E (kg g al35) mz k := fun k a b h1 h2 => by
    rw [q35 k (by omega), D34 k a b h1 h2]
    exact (kz_st (n := 123) (rmx_123 k b a h1 h2) (fun x hx => o35 x (by omega))).symm
  have x35_92 : E35 92 = .inl (g.2.1.2.2.2, 2, .inr (.inr (.inr (.inr (fun _ => none))))) := (q35 92 (by omega)).trans x34_92
  have x35_96 : E35 96 = .inl (g.2.1.1, 4, .inl (fun _ => 0)) := (q35 96 (by omega)).trans x34_96
  have D35x : ∀ k, 1 ≤ k → k < 125 → k ≠ 92 → k ≠ 96 → E35 k = cb_E (kg g al35) mz k := fun k a b h1 h2 => by
    by_cases e0 : k < 123
    · exact D35 k a e0 h1 h2
    · exact w35 k (by omega) (by omega)
  refine kf_R X hZ35 (ci := 10) (c0 := 0) (t := .object "CauseBook$Chronicle") (fs := [.ref (al1 1), .ref (al4 9), .ref (al7 92), .ref (al8 93), .ref (al9 94), .ref (al12 96), .ref (al13 97), .ref (al16 101), .ref (al19 105), .ref (al22 111), .ref (al25 117), .ref (al28 118), .ref (al31 120), .null]) cb_c10 13 cw_383 (by omega) hc35_0 c35 (by decide) rfl rfl (by decide +kernel) rfl rfl (Nat.le_of_ble_eq_true rfl) d_CB_init_204 ?_
  intro E36 H36 locs36 q36 c36 hZ36
  have D36 : ∀ k, 1 ≤ k → k < 125 → k ≠ 92 → k ≠ 96 → E36 k = cb_E (kg g al35) mz k := fun k a b h1 h2 => by rw [q36 k (by omega)]; exact D35x k a b h1 h2
  have x36_92 : E36 92 = .inl (g.2.1.2.2.2, 2, .inr (.inr (.inr (.inr (fun _ => none))))) := (q36 92 (by omega)).trans x35_92
  have x36_96 : E36 96 = .inl (g.2.1.1, 4, .inl (fun _ => 0)) := (q36 96 (by omega)).trans x35_96
  refine lv_iconst (v := 0) X.1 X.2.1 d_CB_init_207 (by decide) ?_
  refine lv_istore_n (lv' := [(1, .int 0), (0, .ref (al 0))]) X.1 X.2.1 d_CB_init_208 rfl hl (by decide) rfl (fun ls hl => ?_)
  refine lv_iload_n X.1 X.2.1 d_CB_init_209 rfl (lv_at hl 0 rfl) ?_
  refine lv_iconst (v := 2) X.1 X.2.1 d_CB_init_210 (by decide) ?_
  refine lv_icmp_ge (tgt := 233) X.1 X.2.1 d_CB_init_211 (by decide) (fun q => absurd q (by decide)) (fun _ => ?_)
  refine lv_aload_n X.1 X.2.1 d_CB_init_214 rfl (lv_at hl 1 rfl) ?_
  refine kf_get X hZ36 (ci := 10) (c0 := 0) (fs := [.ref (al1 1), .ref (al4 9), .ref (al7 92), .ref (al8 93), .ref (al9 94), .ref (al12 96), .ref (al13 97), .ref (al16 101), .ref (al19 105), .ref (al22 111), .ref (al25 117), .ref (al28 118), .ref (al31 120), .ref (al34 123)]) (v := .ref (al7 92)) cb_c10 2 cw_372 (by omega) hc35_0 c36 (by decide) rfl d_CB_init_215 ?_
  refine lv_iload_n X.1 X.2.1 d_CB_init_218 rfl (lv_at hl 0 rfl) ?_
  refine kf_new X hZ36 cb_c5 cw_25 cw_26 cw_2 [.int 0, .int 0, .int 0, .int 0, .int 0, .int 0, .null, .null, .null, .null, .null, .null, .null] (fun j hj => by rcases (show j = 0 ∨ j = 1 ∨ j = 2 ∨ j = 3 ∨ j = 4 ∨ j = 5 ∨ j = 6 ∨ j = 7 ∨ j = 8 ∨ j = 9 ∨ j = 10 ∨ j = 11 ∨ j = 12 by omega) with rfl | rfl | rfl | rfl | rfl | rfl | rfl | rfl | rfl | rfl | rfl | rfl | rfl <;> rfl) (Nat.le_trans (Nat.le_of_ble_eq_true rfl) hce) (Nat.le_trans (Nat.le_of_ble_eq_true rfl) hsl) d_CB_init_219 ?_
  intro al37 E37 H37 o37 q37 z37 hZ37
  have hc37_0 : al37 0 = al 0 := (o37 0 (by omega)).trans hc35_0
  have hc37_1 : al37 1 = al1 1 := (o37 1 (by omega)).trans hc35_1
  have hc37_9 : al37 9 = al4 9 := (o37 9 (by omega)).trans hc35_9
  have hc37_92 : al37 92 = al7 92 := (o37 92 (by omega)).trans hc35_92
  have hc37_93 : al37 93 = al8 93 := (o37 93 (by omega)).trans hc35_93
  have hc37_94 : al37 94 = al9 94 := (o37 94 (by omega)).trans hc35_94
  have hc37_96 : al37 96 = al12 96 := (o37 96 (by omega)).trans hc35_96
  have hc37_97 : al37 97 = al13 97 := (o37 97 (by omega)).trans hc35_97
  have hc37_101 : al37 101 = al16 101 := (o37 101 (by omega)).trans hc35_101
  have hc37_105 : al37 105 = al19 105 := (o37 105 (by omega)).trans hc35_105
  have hc37_111 : al37 111 = al22 111 := (o37 111 (by omega)).trans hc35_111
  have hc37_117 : al37 117 = al25 117 := (o37 117 (by omega)).trans hc35_117
  have hc37_118 : al37 118 = al28 118 := (o37 118 (by omega)).trans hc35_118
  have hc37_120 : al37 120 = al31 120 := (o37 120 (by omega)).trans hc35_120
  have hc37_123 : al37 123 = al34 123 := (o37 123 (by omega)).trans hc35_123
  have c37 : E37 0 = .inr (10, [.ref (al1 1), .ref (al4 9), .ref (al7 92), .ref (al8 93), .ref (al9 94), .ref (al12 96), .ref (al13 97), .ref (al16 101), .ref (al19 105), .ref (al22 111), .ref (al25 117), .ref (al28 118), .ref (al31 120), .ref (al34 123)]) := (q37 0 (by omega)).trans c36
  have D37 : ∀ k, 1 ≤ k → k < 125 → k ≠ 92 → k ≠ 96 → E37 k = cb_E (kg g al37) mz k := fun k a b h1 h2 => by
    rw [q37 k (by omega), D36 k a b h1 h2]
    exact (kz_st (n := 125) (rmx_125 k b a h1 h2) (fun x hx => o37 x (by omega))).symm
  have x37_92 : E37 92 = .inl (g.2.1.2.2.2, 2, .inr (.inr (.inr (.inr (fun _ => none))))) := (q37 92 (by omega)).trans x36_92
  have x37_96 : E37 96 = .inl (g.2.1.1, 4, .inl (fun _ => 0)) := (q37 96 (by omega)).trans x36_96
  refine lv_dup X.1 X.2.1 d_CB_init_222 rfl ?_
  refine kb_callN X hZ37 (As := []) (st := [.ref (al37 125), .int 0, .ref (al7 92)]) (k_Mo (mb_i 0 (by decide))) K_Mo_init rfl cw_27 (by show 1 + 1 ≤ R.frames; omega) (by show 8 + (1 + 11) + 12 ≤ R.locals; omega) (Nat.le_trans (Nat.le_of_ble_eq_true rfl) hce) (Nat.le_trans (Nat.le_of_ble_eq_true rfl) hsl) hl.1 (Nat.le_of_ble_eq_true rfl) d_CB_init_223 z37 ?_
  intro al38 E38 H38 locs38 o38 w38 hZ38
  obtain ⟨q38, w38⟩ := w38
  have hc38_0 : al38 0 = al 0 := (o38 0 (by omega)).trans hc37_0
  have hc38_1 : al38 1 = al1 1 := (o38 1 (by omega)).trans hc37_1
  have hc38_9 : al38 9 = al4 9 := (o38 9 (by omega)).trans hc37_9
  have hc38_92 : al38 92 = al7 92 := (o38 92 (by omega)).trans hc37_92
  have hc38_93 : al38 93 = al8 93 := (o38 93 (by omega)).trans hc37_93
  have hc38_94 : al38 94 = al9 94 := (o38 94 (by omega)).trans hc37_94
  have hc38_96 : al38 96 = al12 96 := (o38 96 (by omega)).trans hc37_96
  have hc38_97 : al38 97 = al13 97 := (o38 97 (by omega)).trans hc37_97
  have hc38_101 : al38 101 = al16 101 := (o38 101 (by omega)).trans hc37_101
  have hc38_105 : al38 105 = al19 105 := (o38 105 (by omega)).trans hc37_105
  have hc38_111 : al38 111 = al22 111 := (o38 111 (by omega)).trans hc37_111
  have hc38_117 : al38 117 = al25 117 := (o38 117 (by omega)).trans hc37_117
  have hc38_118 : al38 118 = al28 118 := (o38 118 (by omega)).trans hc37_118
  have hc38_120 : al38 120 = al31 120 := (o38 120 (by omega)).trans hc37_120
  have hc38_123 : al38 123 = al34 123 := (o38 123 (by omega)).trans hc37_123
  have hc38_125 : al38 125 = al37 125 := o38 125 (by omega)
  have c38 : E38 0 = .inr (10, [.ref (al1 1), .ref (al4 9), .ref (al7 92), .ref (al8 93), .ref (al9 94), .ref (al12 96), .ref (al13 97), .ref (al16 101), .ref (al19 105), .ref (al22 111), .ref (al25 117), .ref (al28 118), .ref (al31 120), .ref (al34 123)]) := (q38 0 (by omega)).trans c37
  have D38 : ∀ k, 1 ≤ k → k < 125 → k ≠ 92 → k ≠ 96 → E38 k = cb_E (kg g al38) mz k := fun k a b h1 h2 => by
    rw [q38 k (by omega), D37 k a b h1 h2]
    exact (kz_st (n := 125) (rmx_125 k b a h1 h2) (fun x hx => o38 x (by omega))).symm
  have x38_92 : E38 92 = .inl (g.2.1.2.2.2, 2, .inr (.inr (.inr (.inr (fun _ => none))))) := (q38 92 (by omega)).trans x37_92
  have x38_96 : E38 96 = .inl (g.2.1.1, 4, .inl (fun _ => 0)) := (q38 96 (by omega)).trans x37_96
  have D38x : ∀ k, 1 ≤ k → k < 133 → k ≠ 92 → k ≠ 96 → E38 k = cb_E (kg g al38) mz k := fun k a b h1 h2 => by
    by_cases e0 : k < 125
    · exact D38 k a e0 h1 h2
    · exact w38 k (by omega) (by omega)
  rw [show al37 125 = al38 125 from hc38_125.symm]
  refine kf_aast X hZ38 (c0 := 92) (c1 := 125) (N := 2) (f := (fun _ => none)) (by omega) (by omega) hc38_92 x38_92 ((w38 125 (by omega) (by omega)).trans (kz_Mo (mb_i 0 (by decide)))) (by rw [vp_in_iff]; decide) d_CB_init_226 ?_
  intro E39 H39 locs39 q39 t39 hZ39
  have c39 : E39 0 = .inr (10, [.ref (al1 1), .ref (al4 9), .ref (al7 92), .ref (al8 93), .ref (al9 94), .ref (al12 96), .ref (al13 97), .ref (al16 101), .ref (al19 105), .ref (al22 111), .ref (al25 117), .ref (al28 118), .ref (al31 120), .ref (al34 123)]) := (q39 0 (by omega)).trans c38
  have D39 : ∀ k, 1 ≤ k → k < 133 → k ≠ 92 → k ≠ 96 → E39 k = cb_E (kg g al38) mz k := fun k a b h1 h2 => by rw [q39 k h1]; exact D38x k a b h1 h2
  have x39_96 : E39 96 = .inl (g.2.1.1, 4, .inl (fun _ => 0)) := (q39 96 (by omega)).trans x38_96
  refine lv_iinc (v := 1) (lv' := [(1, .int 1), (0, .ref (al 0))]) X.1 X.2.1 d_CB_init_227 hl (k := 0) rfl (by decide) (by decide) rfl (fun ls hl => ?_)
  refine lv_goto (tgt := 209) X.1 X.2.1 d_CB_init_230 (by decide) ?_
  refine lv_iload_n X.1 X.2.1 d_CB_init_209 rfl (lv_at hl 0 rfl) ?_
  refine lv_iconst (v := 2) X.1 X.2.1 d_CB_init_210 (by decide) ?_
  refine lv_icmp_ge (tgt := 233) X.1 X.2.1 d_CB_init_211 (by decide) (fun q => absurd q (by decide)) (fun _ => ?_)
  refine lv_aload_n X.1 X.2.1 d_CB_init_214 rfl (lv_at hl 1 rfl) ?_
  refine kf_get X hZ39 (ci := 10) (c0 := 0) (fs := [.ref (al1 1), .ref (al4 9), .ref (al7 92), .ref (al8 93), .ref (al9 94), .ref (al12 96), .ref (al13 97), .ref (al16 101), .ref (al19 105), .ref (al22 111), .ref (al25 117), .ref (al28 118), .ref (al31 120), .ref (al34 123)]) (v := .ref (al7 92)) cb_c10 2 cw_372 (by omega) hc38_0 c39 (by decide) rfl d_CB_init_215 ?_
  refine lv_iload_n X.1 X.2.1 d_CB_init_218 rfl (lv_at hl 0 rfl) ?_
  refine kf_new X hZ39 cb_c5 cw_25 cw_26 cw_2 [.int 0, .int 0, .int 0, .int 0, .int 0, .int 0, .null, .null, .null, .null, .null, .null, .null] (fun j hj => by rcases (show j = 0 ∨ j = 1 ∨ j = 2 ∨ j = 3 ∨ j = 4 ∨ j = 5 ∨ j = 6 ∨ j = 7 ∨ j = 8 ∨ j = 9 ∨ j = 10 ∨ j = 11 ∨ j = 12 by omega) with rfl | rfl | rfl | rfl | rfl | rfl | rfl | rfl | rfl | rfl | rfl | rfl | rfl <;> rfl) (Nat.le_trans (Nat.le_of_ble_eq_true rfl) hce) (Nat.le_trans (Nat.le_of_ble_eq_true rfl) hsl) d_CB_init_219 ?_
  intro al40 E40 H40 o40 q40 z40 hZ40
  have hc40_0 : al40 0 = al 0 := (o40 0 (by omega)).trans hc38_0
  have hc40_1 : al40 1 = al1 1 := (o40 1 (by omega)).trans hc38_1
  have hc40_9 : al40 9 = al4 9 := (o40 9 (by omega)).trans hc38_9
  have hc40_92 : al40 92 = al7 92 := (o40 92 (by omega)).trans hc38_92
  have hc40_93 : al40 93 = al8 93 := (o40 93 (by omega)).trans hc38_93
  have hc40_94 : al40 94 = al9 94 := (o40 94 (by omega)).trans hc38_94
  have hc40_96 : al40 96 = al12 96 := (o40 96 (by omega)).trans hc38_96
  have hc40_97 : al40 97 = al13 97 := (o40 97 (by omega)).trans hc38_97
  have hc40_101 : al40 101 = al16 101 := (o40 101 (by omega)).trans hc38_101
  have hc40_105 : al40 105 = al19 105 := (o40 105 (by omega)).trans hc38_105
  have hc40_111 : al40 111 = al22 111 := (o40 111 (by omega)).trans hc38_111
  have hc40_117 : al40 117 = al25 117 := (o40 117 (by omega)).trans hc38_117
  have hc40_118 : al40 118 = al28 118 := (o40 118 (by omega)).trans hc38_118
  have hc40_120 : al40 120 = al31 120 := (o40 120 (by omega)).trans hc38_120
  have hc40_123 : al40 123 = al34 123 := (o40 123 (by omega)).trans hc38_123
  have hc40_125 : al40 125 = al37 125 := (o40 125 (by omega)).trans hc38_125
  have c40 : E40 0 = .inr (10, [.ref (al1 1), .ref (al4 9), .ref (al7 92), .ref (al8 93), .ref (al9 94), .ref (al12 96), .ref (al13 97), .ref (al16 101), .ref (al19 105), .ref (al22 111), .ref (al25 117), .ref (al28 118), .ref (al31 120), .ref (al34 123)]) := (q40 0 (by omega)).trans c39
  have D40 : ∀ k, 1 ≤ k → k < 133 → k ≠ 92 → k ≠ 96 → E40 k = cb_E (kg g al40) mz k := fun k a b h1 h2 => by
    rw [q40 k (by omega), D39 k a b h1 h2]
    exact (kz_st (n := 133) (rmx_133 k b a h1 h2) (fun x hx => o40 x (by omega))).symm
  have x40_92 : E40 92 = .inl (g.2.1.2.2.2, 2, .inr (.inr (.inr (.inr (va_up (fun _ => none) (0 : Int32).toNatClampNeg (some (al38 125))))))) := (q40 92 (by omega)).trans t39
  have x40_96 : E40 96 = .inl (g.2.1.1, 4, .inl (fun _ => 0)) := (q40 96 (by omega)).trans x39_96
  refine lv_dup X.1 X.2.1 d_CB_init_222 rfl ?_
  refine kb_callN X hZ40 (As := []) (st := [.ref (al40 133), .int 1, .ref (al7 92)]) (k_Mo (mb_i 1 (by decide))) K_Mo_init rfl cw_27 (by show 1 + 1 ≤ R.frames; omega) (by show 8 + (1 + 11) + 12 ≤ R.locals; omega) (Nat.le_trans (Nat.le_of_ble_eq_true rfl) hce) (Nat.le_trans (Nat.le_of_ble_eq_true rfl) hsl) hl.1 (Nat.le_of_ble_eq_true rfl) d_CB_init_223 z40 ?_
  intro al41 E41 H41 locs41 o41 w41 hZ41
  obtain ⟨q41, w41⟩ := w41
  have hc41_0 : al41 0 = al 0 := (o41 0 (by omega)).trans hc40_0
  have hc41_1 : al41 1 = al1 1 := (o41 1 (by omega)).trans hc40_1
  have hc41_9 : al41 9 = al4 9 := (o41 9 (by omega)).trans hc40_9
  have hc41_92 : al41 92 = al7 92 := (o41 92 (by omega)).trans hc40_92
  have hc41_93 : al41 93 = al8 93 := (o41 93 (by omega)).trans hc40_93
  have hc41_94 : al41 94 = al9 94 := (o41 94 (by omega)).trans hc40_94
  have hc41_96 : al41 96 = al12 96 := (o41 96 (by omega)).trans hc40_96
  have hc41_97 : al41 97 = al13 97 := (o41 97 (by omega)).trans hc40_97
  have hc41_101 : al41 101 = al16 101 := (o41 101 (by omega)).trans hc40_101
  have hc41_105 : al41 105 = al19 105 := (o41 105 (by omega)).trans hc40_105
  have hc41_111 : al41 111 = al22 111 := (o41 111 (by omega)).trans hc40_111
  have hc41_117 : al41 117 = al25 117 := (o41 117 (by omega)).trans hc40_117
  have hc41_118 : al41 118 = al28 118 := (o41 118 (by omega)).trans hc40_118
  have hc41_120 : al41 120 = al31 120 := (o41 120 (by omega)).trans hc40_120
  have hc41_123 : al41 123 = al34 123 := (o41 123 (by omega)).trans hc40_123
  have hc41_125 : al41 125 = al37 125 := (o41 125 (by omega)).trans hc40_125
  have hc41_133 : al41 133 = al40 133 := o41 133 (by omega)
  have c41 : E41 0 = .inr (10, [.ref (al1 1), .ref (al4 9), .ref (al7 92), .ref (al8 93), .ref (al9 94), .ref (al12 96), .ref (al13 97), .ref (al16 101), .ref (al19 105), .ref (al22 111), .ref (al25 117), .ref (al28 118), .ref (al31 120), .ref (al34 123)]) := (q41 0 (by omega)).trans c40
  have D41 : ∀ k, 1 ≤ k → k < 133 → k ≠ 92 → k ≠ 96 → E41 k = cb_E (kg g al41) mz k := fun k a b h1 h2 => by
    rw [q41 k (by omega), D40 k a b h1 h2]
    exact (kz_st (n := 133) (rmx_133 k b a h1 h2) (fun x hx => o41 x (by omega))).symm
  have x41_92 : E41 92 = .inl (g.2.1.2.2.2, 2, .inr (.inr (.inr (.inr (va_up (fun _ => none) (0 : Int32).toNatClampNeg (some (al38 125))))))) := (q41 92 (by omega)).trans x40_92
  have x41_96 : E41 96 = .inl (g.2.1.1, 4, .inl (fun _ => 0)) := (q41 96 (by omega)).trans x40_96
  have D41x : ∀ k, 1 ≤ k → k < 141 → k ≠ 92 → k ≠ 96 → E41 k = cb_E (kg g al41) mz k := fun k a b h1 h2 => by
    by_cases e0 : k < 133
    · exact D41 k a e0 h1 h2
    · exact w41 k (by omega) (by omega)
  rw [show al40 133 = al41 133 from hc41_133.symm]
  refine kf_aast X hZ41 (c0 := 92) (c1 := 133) (N := 2) (f := (va_up (fun _ => none) (0 : Int32).toNatClampNeg (some (al38 125)))) (by omega) (by omega) hc41_92 x41_92 ((w41 133 (by omega) (by omega)).trans (kz_Mo (mb_i 1 (by decide)))) (by rw [vp_in_iff]; decide) d_CB_init_226 ?_
  intro E42 H42 locs42 q42 t42 hZ42
  have c42 : E42 0 = .inr (10, [.ref (al1 1), .ref (al4 9), .ref (al7 92), .ref (al8 93), .ref (al9 94), .ref (al12 96), .ref (al13 97), .ref (al16 101), .ref (al19 105), .ref (al22 111), .ref (al25 117), .ref (al28 118), .ref (al31 120), .ref (al34 123)]) := (q42 0 (by omega)).trans c41
  have D42 : ∀ k, 1 ≤ k → k < 141 → k ≠ 92 → k ≠ 96 → E42 k = cb_E (kg g al41) mz k := fun k a b h1 h2 => by rw [q42 k h1]; exact D41x k a b h1 h2
  have x42_96 : E42 96 = .inl (g.2.1.1, 4, .inl (fun _ => 0)) := (q42 96 (by omega)).trans x41_96
  refine lv_iinc (v := 2) (lv' := [(1, .int 2), (0, .ref (al 0))]) X.1 X.2.1 d_CB_init_227 hl (k := 0) rfl (by decide) (by decide) rfl (fun ls hl => ?_)
  refine lv_goto (tgt := 209) X.1 X.2.1 d_CB_init_230 (by decide) ?_
  refine lv_iload_n X.1 X.2.1 d_CB_init_209 rfl (lv_at hl 0 rfl) ?_
  refine lv_iconst (v := 2) X.1 X.2.1 d_CB_init_210 (by decide) ?_
  refine lv_icmp_ge (tgt := 233) X.1 X.2.1 d_CB_init_211 (by decide) (fun _ => ?_) (fun q => absurd (by decide) q)
  refine va_gets X.1 X.2.1 X.2.2.2.2.2.2.2.2.2.1 hZ42.2.2 X.2.2.2.1 (X.2.2.2.2.1 _ cw_365 args) (fun _ h9 => h9) d_CB_init_233 ?_
  refine lv_iconst (v := 0) X.1 X.2.1 d_CB_init_236 (by decide) ?_
  refine lv_aload_n X.1 X.2.1 d_CB_init_237 rfl (lv_at hl 1 rfl) ?_
  refine kf_get X hZ42 (ci := 10) (c0 := 0) (fs := [.ref (al1 1), .ref (al4 9), .ref (al7 92), .ref (al8 93), .ref (al9 94), .ref (al12 96), .ref (al13 97), .ref (al16 101), .ref (al19 105), .ref (al22 111), .ref (al25 117), .ref (al28 118), .ref (al31 120), .ref (al34 123)]) (v := .ref (al12 96)) cb_c10 5 cw_375 (by omega) hc41_0 c42 (by decide) rfl d_CB_init_238 ?_
  refine lv_iconst (v := 0) X.1 X.2.1 d_CB_init_241 (by decide) ?_
  refine lv_iconst (v := 4) X.1 X.2.1 d_CB_init_242 (by decide) ?_
  refine kb_copy X hZ42 (c1 := 96) (f0 := fun _ => 0) cw_367 (by omega) hc41_96 x42_96 hl.1 (by omega) (Nat.le_trans (Nat.le_of_ble_eq_true rfl) hlo) d_CB_init_243 ?_
  intro E43 H43 locs43 q43 t43 hZ43
  have hcB : al38 125 = al37 125 := hc38_125
  refine fin al41 (va_up E43 92 (cb_E (kg g al41) mz 92)) H43 locs43 ls 246 d_CB_init_246 (fun k hk => ?_) (fun k hk => ?_) (hZ43.eq (fun k hk => ?_))
  · obtain rfl : k = 0 := by omega
    exact hc41_0
  · by_cases e92 : k = 92
    · rw [e92, up_eq]
    · rw [up_ne e92]
      by_cases e96 : k = 96
      · rw [e96, t43, cb_E0 (show cb_kd 96 = (0, 4) from rfl), tz_copy]
        have em : (fun j : Nat => Int32.ofInt (mz.1 96 j)) = fun j : Nat => Int32.ofInt (tz j) := funext fun j => congrArg Int32.ofInt (if_pos (Or.inl rfl) : (if (96 : Nat) = 96 ∨ (96 : Nat) = 143 then tz (j : Int) else 0) = tz j)
        rw [em]
        try rfl
      · rw [q43 k e96]
        by_cases e0 : k = 0
        · rw [e0, c42, kzo_0, hc41_1, hc41_9, hc41_92, hc41_93, hc41_94, hc41_96, hc41_97, hc41_101, hc41_105, hc41_111, hc41_117, hc41_118, hc41_120, hc41_123]
          try rfl
        · exact D42 k (by omega) (by omega) e92 e96
  · by_cases e92 : k = 92
    · refine Or.inr ⟨g.2.1.2.2.2, (2, .inr (.inr (.inr (.inr (va_up (va_up (fun _ => none) (0 : Int32).toNatClampNeg (some (al38 125))) (1 : Int32).toNatClampNeg (some (al41 133))))))), (2, .inr (.inr (.inr (.inr (fun j => some (cb_al (kg g al41) (cb_rt 92 j))))))), by rw [e92, q43 92 (by decide)]; exact t42, by rw [e92, up_eq, cb_E3 (show cb_kd 92 = (3, 2) from rfl)]; rfl, ?_⟩
      rw [vp_cell_q, vp_cell_q]
      refine arrV_cong (fun j hj => ?_)
      rcases (show j = 0 ∨ j = 1 by omega) with ej | ej
      · rw [ej, (img_up _ _).1, show cb_rt 92 0 = 125 from rfl, kg_al (by decide)]
        rw [hc41_125, ← hcB]
      · rw [ej, (img_up _ _).2, show cb_rt 92 1 = 133 from rfl, kg_al (by decide)]
    · exact Or.inl (up_ne e92)
