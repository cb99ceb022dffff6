/-! the small constructors (printed by wip/gen/g99l.py) -/
set_option maxRecDepth 8000 in
set_option maxHeartbeats 1000000 in
theorem k_Mo {b : Nat} (hB : MB b) : Kon Y_Mo_init 7 234 (b + 1) (b + 8) (fun al => [.ref (al (b))]) (fun g al E => E (b) = .inr (5, [.int 0, .int 0, .int 0, .int 0, .int 0, .int 0, .null, .null, .null, .null, .null, .null, .null])) (fun g al E al1 E1 => (∀ k, k < b → E1 k = E k) ∧ ∀ k, b ≤ k → k < b + 8 → E1 k = cb_E (kg g al1) mz k) := by
  refine Kon.of (by decide) rfl rfl (fun al => Nat.le_of_ble_eq_true rfl) ?_
  intro p l e R s m args below meth c Q g A al E X hfr hlo hce hsl hE fin H ls hZ hl
  have X : kb_X "CauseBook$Model" prog_7_method_1_code 1 p s m meth c g A := X
  have hfr : 1 ≤ R.frames := hfr
  have hlo : 12 ≤ R.locals := hlo
  have hl : lv_has ls 1 [(0, .ref (al (b)))] := hl
  refine lv_aload_n X.1 X.2.1 d_Mo_init_0 rfl (lv_at hl 0 rfl) ?_
  refine kb_obj X cw_30 hl.1 hfr hlo d_Mo_init_1 ?_
  refine lv_aload_n X.1 X.2.1 d_Mo_init_4 rfl (lv_at hl 0 rfl) ?_
  refine lv_bipush (v := 10) X.1 X.2.1 d_Mo_init_5 (by decide) ?_
  refine kf_I X hZ (ci := 5) (c0 := b) (fs := [.int 0, .int 0, .int 0, .int 0, .int 0, .int 0, .null, .null, .null, .null, .null, .null, .null]) cb_c5 6 10 cw_53 (by omega) rfl hE (by decide) rfl rfl (by decide +kernel) (Nat.le_of_ble_eq_true rfl) (by decide) (by decide) (Nat.le_of_ble_eq_true rfl) (Nat.le_trans (Nat.le_of_ble_eq_true rfl) hce) (Nat.le_trans (Nat.le_of_ble_eq_true rfl) hsl) d_Mo_init_7 d_Mo_init_9 ?_
  intro al1 E1 H1 locs1 o1 p1 z1 c1 hZ1
  have ha1 : al1 (b) = al (b) := (o1 _ (by omega)).trans rfl
  refine lv_aload_n X.1 X.2.1 d_Mo_init_12 rfl (lv_at hl 0 rfl) ?_
  refine lv_bipush (v := 60) X.1 X.2.1 d_Mo_init_13 (by decide) ?_
  refine kf_I X hZ1 (ci := 5) (c0 := b) (fs := [.int 0, .int 0, .int 0, .int 0, .int 0, .int 0, .ref (al1 (b + 1)), .null, .null, .null, .null, .null, .null]) cb_c5 7 60 cw_57 (by omega) ha1 c1 (by decide) rfl rfl (by decide +kernel) (Nat.le_of_ble_eq_true rfl) (by decide) (by decide) (Nat.le_of_ble_eq_true rfl) (Nat.le_trans (Nat.le_of_ble_eq_true rfl) hce) (Nat.le_trans (Nat.le_of_ble_eq_true rfl) hsl) d_Mo_init_15 d_Mo_init_17 ?_
  intro al2 E2 H2 locs2 o2 p2 z2 c2 hZ2
  have ha2 : al2 (b) = al (b) := (o2 _ (by omega)).trans ha1
  refine lv_aload_n X.1 X.2.1 d_Mo_init_20 rfl (lv_at hl 0 rfl) ?_
  refine lv_bipush (v := 60) X.1 X.2.1 d_Mo_init_21 (by decide) ?_
  refine kf_I X hZ2 (ci := 5) (c0 := b) (fs := [.int 0, .int 0, .int 0, .int 0, .int 0, .int 0, .ref (al1 (b + 1)), .ref (al2 (b + 2)), .null, .null, .null, .null, .null]) cb_c5 8 60 cw_58 (by omega) ha2 c2 (by decide) rfl rfl (by decide +kernel) (Nat.le_of_ble_eq_true rfl) (by decide) (by decide) (Nat.le_of_ble_eq_true rfl) (Nat.le_trans (Nat.le_of_ble_eq_true rfl) hce) (Nat.le_trans (Nat.le_of_ble_eq_true rfl) hsl) d_Mo_init_23 d_Mo_init_25 ?_
  intro al3 E3 H3 locs3 o3 p3 z3 c3 hZ3
  have ha3 : al3 (b) = al (b) := (o3 _ (by omega)).trans ha2
  refine lv_aload_n X.1 X.2.1 d_Mo_init_28 rfl (lv_at hl 0 rfl) ?_
  refine lv_bipush (v := 32) X.1 X.2.1 d_Mo_init_29 (by decide) ?_
  refine kf_I X hZ3 (ci := 5) (c0 := b) (fs := [.int 0, .int 0, .int 0, .int 0, .int 0, .int 0, .ref (al1 (b + 1)), .ref (al2 (b + 2)), .ref (al3 (b + 3)), .null, .null, .null, .null]) cb_c5 9 32 cw_59 (by omega) ha3 c3 (by decide) rfl rfl (by decide +kernel) (Nat.le_of_ble_eq_true rfl) (by decide) (by decide) (Nat.le_of_ble_eq_true rfl) (Nat.le_trans (Nat.le_of_ble_eq_true rfl) hce) (Nat.le_trans (Nat.le_of_ble_eq_true rfl) hsl) d_Mo_init_31 d_Mo_init_33 ?_
  intro al4 E4 H4 locs4 o4 p4 z4 c4 hZ4
  have ha4 : al4 (b) = al (b) := (o4 _ (by omega)).trans ha3
  refine lv_aload_n X.1 X.2.1 d_Mo_init_36 rfl (lv_at hl 0 rfl) ?_
  refine lv_bipush (v := 32) X.1 X.2.1 d_Mo_init_37 (by decide) ?_
  refine kf_I X hZ4 (ci := 5) (c0 := b) (fs := [.int 0, .int 0, .int 0, .int 0, .int 0, .int 0, .ref (al1 (b + 1)), .ref (al2 (b + 2)), .ref (al3 (b + 3)), .ref (al4 (b + 4)), .null, .null, .null]) cb_c5 10 32 cw_61 (by omega) ha4 c4 (by decide) rfl rfl (by decide +kernel) (Nat.le_of_ble_eq_true rfl) (by decide) (by decide) (Nat.le_of_ble_eq_true rfl) (Nat.le_trans (Nat.le_of_ble_eq_true rfl) hce) (Nat.le_trans (Nat.le_of_ble_eq_true rfl) hsl) d_Mo_init_39 d_Mo_init_41 ?_
  intro al5 E5 H5 locs5 o5 p5 z5 c5 hZ5
  have ha5 : al5 (b) = al (b) := (o5 _ (by omega)).trans ha4
  refine lv_aload_n X.1 X.2.1 d_Mo_init_44 rfl (lv_at hl 0 rfl) ?_
  refine lv_bipush (v := 20) X.1 X.2.1 d_Mo_init_45 (by decide) ?_
  refine kf_I X hZ5 (ci := 5) (c0 := b) (fs := [.int 0, .int 0, .int 0, .int 0, .int 0, .int 0, .ref (al1 (b + 1)), .ref (al2 (b + 2)), .ref (al3 (b + 3)), .ref (al4 (b + 4)), .ref (al5 (b + 5)), .null, .null]) cb_c5 11 20 cw_63 (by omega) ha5 c5 (by decide) rfl rfl (by decide +kernel) (Nat.le_of_ble_eq_true rfl) (by decide) (by decide) (Nat.le_of_ble_eq_true rfl) (Nat.le_trans (Nat.le_of_ble_eq_true rfl) hce) (Nat.le_trans (Nat.le_of_ble_eq_true rfl) hsl) d_Mo_init_47 d_Mo_init_49 ?_
  intro al6 E6 H6 locs6 o6 p6 z6 c6 hZ6
  have ha6 : al6 (b) = al (b) := (o6 _ (by omega)).trans ha5
  refine lv_aload_n X.1 X.2.1 d_Mo_init_52 rfl (lv_at hl 0 rfl) ?_
  refine lv_bipush (v := 20) X.1 X.2.1 d_Mo_init_53 (by decide) ?_
  refine kf_I X hZ6 (ci := 5) (c0 := b) (fs := [.int 0, .int 0, .int 0, .int 0, .int 0, .int 0, .ref (al1 (b + 1)), .ref (al2 (b + 2)), .ref (al3 (b + 3)), .ref (al4 (b + 4)), .ref (al5 (b + 5)), .ref (al6 (b + 6)), .null]) cb_c5 12 20 cw_65 (by omega) ha6 c6 (by decide) rfl rfl (by decide +kernel) (Nat.le_of_ble_eq_true rfl) (by decide) (by decide) (Nat.le_of_ble_eq_true rfl) (Nat.le_trans (Nat.le_of_ble_eq_true rfl) hce) (Nat.le_trans (Nat.le_of_ble_eq_true rfl) hsl) d_Mo_init_55 d_Mo_init_57 ?_
  intro al7 E7 H7 locs7 o7 p7 z7 c7 hZ7
  have ha7 : al7 (b) = al (b) := (o7 _ (by omega)).trans ha6
  refine fin al7 E7 H7 locs7 ls 60 d_Mo_init_60 (fun k hk => ?_) ⟨fun k hk => ?_, fun k hk1 hk2 => ?_⟩ hZ7
  · rw [o7 _ (by omega), o6 _ (by omega), o5 _ (by omega), o4 _ (by omega), o3 _ (by omega), o2 _ (by omega), o1 _ (by omega)]
  · rw [p7 _ (by omega) (by omega), p6 _ (by omega) (by omega), p5 _ (by omega) (by omega), p4 _ (by omega) (by omega), p3 _ (by omega) (by omega), p2 _ (by omega) (by omega), p1 _ (by omega) (by omega)]
  · rcases (show k = b ∨ k = b + 1 ∨ k = b + 2 ∨ k = b + 3 ∨ k = b + 4 ∨ k = b + 5 ∨ k = b + 6 ∨ k = b + 7 by omega) with e0 | e0 | e0 | e0 | e0 | e0 | e0 | e0
    · have r1 : al7 (b + 1) = al1 (b + 1) := by rw [o7 _ (by omega), o6 _ (by omega), o5 _ (by omega), o4 _ (by omega), o3 _ (by omega), o2 _ (by omega)]
      have r2 : al7 (b + 2) = al2 (b + 2) := by rw [o7 _ (by omega), o6 _ (by omega), o5 _ (by omega), o4 _ (by omega), o3 _ (by omega)]
      have r3 : al7 (b + 3) = al3 (b + 3) := by rw [o7 _ (by omega), o6 _ (by omega), o5 _ (by omega), o4 _ (by omega)]
      have r4 : al7 (b + 4) = al4 (b + 4) := by rw [o7 _ (by omega), o6 _ (by omega), o5 _ (by omega)]
      have r5 : al7 (b + 5) = al5 (b + 5) := by rw [o7 _ (by omega), o6 _ (by omega)]
      have r6 : al7 (b + 6) = al6 (b + 6) := by rw [o7 _ (by omega)]
      rw [e0, c7, kz_Mo hB, r1, r2, r3, r4, r5, r6]
      try rfl
    · have hs := hB.2.2.2.2.2.2.2.2.2.2.2.2.2.2.2; rw [e0, p7 _ (by omega) (by omega), p6 _ (by omega) (by omega), p5 _ (by omega) (by omega), p4 _ (by omega) (by omega), p3 _ (by omega) (by omega), p2 _ (by omega) (by omega), z1, kz0 hB.2.1 (by omega) (by omega)]
    · have hs := hB.2.2.2.2.2.2.2.2.2.2.2.2.2.2.2; rw [e0, p7 _ (by omega) (by omega), p6 _ (by omega) (by omega), p5 _ (by omega) (by omega), p4 _ (by omega) (by omega), p3 _ (by omega) (by omega), z2, kz0 hB.2.2.1 (by omega) (by omega)]
    · have hs := hB.2.2.2.2.2.2.2.2.2.2.2.2.2.2.2; rw [e0, p7 _ (by omega) (by omega), p6 _ (by omega) (by omega), p5 _ (by omega) (by omega), p4 _ (by omega) (by omega), z3, kz0 hB.2.2.2.1 (by omega) (by omega)]
    · have hs := hB.2.2.2.2.2.2.2.2.2.2.2.2.2.2.2; rw [e0, p7 _ (by omega) (by omega), p6 _ (by omega) (by omega), p5 _ (by omega) (by omega), z4, kz0 hB.2.2.2.2.1 (by omega) (by omega)]
    · have hs := hB.2.2.2.2.2.2.2.2.2.2.2.2.2.2.2; rw [e0, p7 _ (by omega) (by omega), p6 _ (by omega) (by omega), z5, kz0 hB.2.2.2.2.2.1 (by omega) (by omega)]
    · have hs := hB.2.2.2.2.2.2.2.2.2.2.2.2.2.2.2; rw [e0, p7 _ (by omega) (by omega), z6, kz0 hB.2.2.2.2.2.2.1 (by omega) (by omega)]
    · have hs := hB.2.2.2.2.2.2.2.2.2.2.2.2.2.2.2; rw [e0, z7, kz0 hB.2.2.2.2.2.2.2.1 (by omega) (by omega)]
set_option maxRecDepth 8000 in
set_option maxHeartbeats 1000000 in
theorem k_Rf : Kon Y_Rf_init 1 4 (95) (96) (fun al => [.ref (al (94))]) (fun g al E => E (94) = .inr (7, [.null, .int 0])) (fun g al E al1 E1 => (∀ k, k < 94 → E1 k = E k) ∧ ∀ k, 94 ≤ k → k < 96 → E1 k = cb_E (kg g al1) mz k) := by
  refine Kon.of (by decide) rfl rfl (fun al => Nat.le_of_ble_eq_true rfl) ?_
  intro p l e R s m args below meth c Q g A al E X hfr hlo hce hsl hE fin H ls hZ hl
  have X : kb_X "CauseBook$Refusals" prog_9_method_1_code 1 p s m meth c g A := X
  have hfr : 1 ≤ R.frames := hfr
  have hlo : 12 ≤ R.locals := hlo
  have hl : lv_has ls 1 [(0, .ref (al (94)))] := hl
  refine lv_aload_n X.1 X.2.1 d_Rf_init_0 rfl (lv_at hl 0 rfl) ?_
  refine kb_obj X cw_123 hl.1 hfr hlo d_Rf_init_1 ?_
  refine lv_aload_n X.1 X.2.1 d_Rf_init_4 rfl (lv_at hl 0 rfl) ?_
  refine lv_iconst (v := 4) X.1 X.2.1 d_Rf_init_5 (by decide) ?_
  refine kf_I X hZ (ci := 7) (c0 := 94) (fs := [.null, .int 0]) cb_c7 0 4 cw_124 (by omega) rfl hE (by decide) rfl rfl (by decide +kernel) (Nat.le_of_ble_eq_true rfl) (by decide) (by decide) (Nat.le_of_ble_eq_true rfl) (Nat.le_trans (Nat.le_of_ble_eq_true rfl) hce) (Nat.le_trans (Nat.le_of_ble_eq_true rfl) hsl) d_Rf_init_6 d_Rf_init_8 ?_
  intro al1 E1 H1 locs1 o1 p1 z1 c1 hZ1
  have ha1 : al1 (94) = al (94) := (o1 _ (by omega)).trans rfl
  refine fin al1 E1 H1 locs1 ls 11 d_Rf_init_11 (fun k hk => ?_) ⟨fun k hk => ?_, fun k hk1 hk2 => ?_⟩ hZ1
  · rw [o1 _ (by omega)]
  · rw [p1 _ (by omega) (by omega)]
  · rcases (show k = 94 ∨ k = 95 by omega) with e0 | e0
    · rw [e0, c1, kzo_94]
      try rfl
    · rw [e0, z1, kz0 (show cb_kd 95 = (0, 4) from rfl) (by omega) (by omega)]
set_option maxRecDepth 8000 in
set_option maxHeartbeats 1000000 in
theorem k_Ro_97 : Kon Y_Ro_init 3 36 (98) (101) (fun al => [.ref (al (97))]) (fun g al E => E (97) = .inr (8, [.int 0, .null, .null, .null])) (fun g al E al1 E1 => (∀ k, k < 97 → E1 k = E k) ∧ ∀ k, 97 ≤ k → k < 101 → E1 k = cb_E (kg g al1) mz k) := by
  refine Kon.of (by decide) rfl rfl (fun al => Nat.le_of_ble_eq_true rfl) ?_
  intro p l e R s m args below meth c Q g A al E X hfr hlo hce hsl hE fin H ls hZ hl
  have X : kb_X "CauseBook$Roll" prog_10_method_1_code 1 p s m meth c g A := X
  have hfr : 1 ≤ R.frames := hfr
  have hlo : 12 ≤ R.locals := hlo
  have hl : lv_has ls 1 [(0, .ref (al (97)))] := hl
  refine lv_aload_n X.1 X.2.1 d_Ro_init_0 rfl (lv_at hl 0 rfl) ?_
  refine kb_obj X cw_139 hl.1 hfr hlo d_Ro_init_1 ?_
  refine lv_aload_n X.1 X.2.1 d_Ro_init_4 rfl (lv_at hl 0 rfl) ?_
  refine lv_bipush (v := 12) X.1 X.2.1 d_Ro_init_5 (by decide) ?_
  refine kf_I X hZ (ci := 8) (c0 := 97) (fs := [.int 0, .null, .null, .null]) cb_c8 1 12 cw_148 (by omega) rfl hE (by decide) rfl rfl (by decide +kernel) (Nat.le_of_ble_eq_true rfl) (by decide) (by decide) (Nat.le_of_ble_eq_true rfl) (Nat.le_trans (Nat.le_of_ble_eq_true rfl) hce) (Nat.le_trans (Nat.le_of_ble_eq_true rfl) hsl) d_Ro_init_7 d_Ro_init_9 ?_
  intro al1 E1 H1 locs1 o1 p1 z1 c1 hZ1
  have ha1 : al1 (97) = al (97) := (o1 _ (by omega)).trans rfl
  refine lv_aload_n X.1 X.2.1 d_Ro_init_12 rfl (lv_at hl 0 rfl) ?_
  refine lv_bipush (v := 12) X.1 X.2.1 d_Ro_init_13 (by decide) ?_
  refine kf_I X hZ1 (ci := 8) (c0 := 97) (fs := [.int 0, .ref (al1 (98)), .null, .null]) cb_c8 2 12 cw_152 (by omega) ha1 c1 (by decide) rfl rfl (by decide +kernel) (Nat.le_of_ble_eq_true rfl) (by decide) (by decide) (Nat.le_of_ble_eq_true rfl) (Nat.le_trans (Nat.le_of_ble_eq_true rfl) hce) (Nat.le_trans (Nat.le_of_ble_eq_true rfl) hsl) d_Ro_init_15 d_Ro_init_17 ?_
  intro al2 E2 H2 locs2 o2 p2 z2 c2 hZ2
  have ha2 : al2 (97) = al (97) := (o2 _ (by omega)).trans ha1
  refine lv_aload_n X.1 X.2.1 d_Ro_init_20 rfl (lv_at hl 0 rfl) ?_
  refine lv_bipush (v := 12) X.1 X.2.1 d_Ro_init_21 (by decide) ?_
  refine kf_I X hZ2 (ci := 8) (c0 := 97) (fs := [.int 0, .ref (al1 (98)), .ref (al2 (99)), .null]) cb_c8 3 12 cw_156 (by omega) ha2 c2 (by decide) rfl rfl (by decide +kernel) (Nat.le_of_ble_eq_true rfl) (by decide) (by decide) (Nat.le_of_ble_eq_true rfl) (Nat.le_trans (Nat.le_of_ble_eq_true rfl) hce) (Nat.le_trans (Nat.le_of_ble_eq_true rfl) hsl) d_Ro_init_23 d_Ro_init_25 ?_
  intro al3 E3 H3 locs3 o3 p3 z3 c3 hZ3
  have ha3 : al3 (97) = al (97) := (o3 _ (by omega)).trans ha2
  refine fin al3 E3 H3 locs3 ls 28 d_Ro_init_28 (fun k hk => ?_) ⟨fun k hk => ?_, fun k hk1 hk2 => ?_⟩ hZ3
  · rw [o3 _ (by omega), o2 _ (by omega), o1 _ (by omega)]
  · rw [p3 _ (by omega) (by omega), p2 _ (by omega) (by omega), p1 _ (by omega) (by omega)]
  · rcases (show k = 97 ∨ k = 98 ∨ k = 99 ∨ k = 100 by omega) with e0 | e0 | e0 | e0
    · have r1 : al3 (98) = al1 (98) := by rw [o3 _ (by omega), o2 _ (by omega)]
      have r2 : al3 (99) = al2 (99) := by rw [o3 _ (by omega)]
      rw [e0, c3, kzo_97, r1, r2]
      try rfl
    · rw [e0, p3 _ (by omega) (by omega), p2 _ (by omega) (by omega), z1, kz0 (show cb_kd 98 = (0, 12) from rfl) (by omega) (by omega)]
    · rw [e0, p3 _ (by omega) (by omega), z2, kz0 (show cb_kd 99 = (0, 12) from rfl) (by omega) (by omega)]
    · rw [e0, z3, kz0 (show cb_kd 100 = (0, 12) from rfl) (by omega) (by omega)]
set_option maxRecDepth 8000 in
set_option maxHeartbeats 1000000 in
theorem k_Ro_101 : Kon Y_Ro_init 3 36 (102) (105) (fun al => [.ref (al (101))]) (fun g al E => E (101) = .inr (8, [.int 0, .null, .null, .null])) (fun g al E al1 E1 => (∀ k, k < 101 → E1 k = E k) ∧ ∀ k, 101 ≤ k → k < 105 → E1 k = cb_E (kg g al1) mz k) := by
  refine Kon.of (by decide) rfl rfl (fun al => Nat.le_of_ble_eq_true rfl) ?_
  intro p l e R s m args below meth c Q g A al E X hfr hlo hce hsl hE fin H ls hZ hl
  have X : kb_X "CauseBook$Roll" prog_10_method_1_code 1 p s m meth c g A := X
  have hfr : 1 ≤ R.frames := hfr
  have hlo : 12 ≤ R.locals := hlo
  have hl : lv_has ls 1 [(0, .ref (al (101)))] := hl
  refine lv_aload_n X.1 X.2.1 d_Ro_init_0 rfl (lv_at hl 0 rfl) ?_
  refine kb_obj X cw_139 hl.1 hfr hlo d_Ro_init_1 ?_
  refine lv_aload_n X.1 X.2.1 d_Ro_init_4 rfl (lv_at hl 0 rfl) ?_
  refine lv_bipush (v := 12) X.1 X.2.1 d_Ro_init_5 (by decide) ?_
  refine kf_I X hZ (ci := 8) (c0 := 101) (fs := [.int 0, .null, .null, .null]) cb_c8 1 12 cw_148 (by omega) rfl hE (by decide) rfl rfl (by decide +kernel) (Nat.le_of_ble_eq_true rfl) (by decide) (by decide) (Nat.le_of_ble_eq_true rfl) (Nat.le_trans (Nat.le_of_ble_eq_true rfl) hce) (Nat.le_trans (Nat.le_of_ble_eq_true rfl) hsl) d_Ro_init_7 d_Ro_init_9 ?_
  intro al1 E1 H1 locs1 o1 p1 z1 c1 hZ1
  have ha1 : al1 (101) = al (101) := (o1 _ (by omega)).trans rfl
  refine lv_aload_n X.1 X.2.1 d_Ro_init_12 rfl (lv_at hl 0 rfl) ?_
  refine lv_bipush (v := 12) X.1 X.2.1 d_Ro_init_13 (by decide) ?_
  refine kf_I X hZ1 (ci := 8) (c0 := 101) (fs := [.int 0, .ref (al1 (102)), .null, .null]) cb_c8 2 12 cw_152 (by omega) ha1 c1 (by decide) rfl rfl (by decide +kernel) (Nat.le_of_ble_eq_true rfl) (by decide) (by decide) (Nat.le_of_ble_eq_true rfl) (Nat.le_trans (Nat.le_of_ble_eq_true rfl) hce) (Nat.le_trans (Nat.le_of_ble_eq_true rfl) hsl) d_Ro_init_15 d_Ro_init_17 ?_
  intro al2 E2 H2 locs2 o2 p2 z2 c2 hZ2
  have ha2 : al2 (101) = al (101) := (o2 _ (by omega)).trans ha1
  refine lv_aload_n X.1 X.2.1 d_Ro_init_20 rfl (lv_at hl 0 rfl) ?_
  refine lv_bipush (v := 12) X.1 X.2.1 d_Ro_init_21 (by decide) ?_
  refine kf_I X hZ2 (ci := 8) (c0 := 101) (fs := [.int 0, .ref (al1 (102)), .ref (al2 (103)), .null]) cb_c8 3 12 cw_156 (by omega) ha2 c2 (by decide) rfl rfl (by decide +kernel) (Nat.le_of_ble_eq_true rfl) (by decide) (by decide) (Nat.le_of_ble_eq_true rfl) (Nat.le_trans (Nat.le_of_ble_eq_true rfl) hce) (Nat.le_trans (Nat.le_of_ble_eq_true rfl) hsl) d_Ro_init_23 d_Ro_init_25 ?_
  intro al3 E3 H3 locs3 o3 p3 z3 c3 hZ3
  have ha3 : al3 (101) = al (101) := (o3 _ (by omega)).trans ha2
  refine fin al3 E3 H3 locs3 ls 28 d_Ro_init_28 (fun k hk => ?_) ⟨fun k hk => ?_, fun k hk1 hk2 => ?_⟩ hZ3
  · rw [o3 _ (by omega), o2 _ (by omega), o1 _ (by omega)]
  · rw [p3 _ (by omega) (by omega), p2 _ (by omega) (by omega), p1 _ (by omega) (by omega)]
  · rcases (show k = 101 ∨ k = 102 ∨ k = 103 ∨ k = 104 by omega) with e0 | e0 | e0 | e0
    · have r1 : al3 (102) = al1 (102) := by rw [o3 _ (by omega), o2 _ (by omega)]
      have r2 : al3 (103) = al2 (103) := by rw [o3 _ (by omega)]
      rw [e0, c3, kzo_101, r1, r2]
      try rfl
    · rw [e0, p3 _ (by omega) (by omega), p2 _ (by omega) (by omega), z1, kz0 (show cb_kd 102 = (0, 12) from rfl) (by omega) (by omega)]
    · rw [e0, p3 _ (by omega) (by omega), z2, kz0 (show cb_kd 103 = (0, 12) from rfl) (by omega) (by omega)]
    · rw [e0, z3, kz0 (show cb_kd 104 = (0, 12) from rfl) (by omega) (by omega)]
set_option maxRecDepth 8000 in
set_option maxHeartbeats 1000000 in
theorem k_Sp : Kon Y_Sp_init 5 152 (106) (111) (fun al => [.ref (al (105)), .ref (al 1), .ref (al 97)]) (fun g al E => E (105) = .inr (9, [.null, .null, .null, .null, .null, .null, .null, .int 0, .int 0])) (fun g al E al1 E1 => (∀ k, k < 105 → E1 k = E k) ∧ ∀ k, 105 ≤ k → k < 111 → E1 k = cb_E (kg g al1) mz k) := by
  refine Kon.of (by decide) rfl rfl (fun al => Nat.le_of_ble_eq_true rfl) ?_
  intro p l e R s m args below meth c Q g A al E X hfr hlo hce hsl hE fin H ls hZ hl
  have X : kb_X "CauseBook$Spreader" prog_11_method_1_code 3 p s m meth c g A := X
  have hfr : 1 ≤ R.frames := hfr
  have hlo : 12 ≤ R.locals := hlo
  have hl : lv_has ls 3 [(0, .ref (al (105))), (1, .ref (al 1)), (2, .ref (al 97))] := hl
  refine lv_aload_n X.1 X.2.1 d_Sp_init_0 rfl (lv_at hl 0 rfl) ?_
  refine kb_obj X cw_173 hl.1 hfr hlo d_Sp_init_1 ?_
  refine lv_aload_n X.1 X.2.1 d_Sp_init_4 rfl (lv_at hl 0 rfl) ?_
  refine lv_bipush (v := 80) X.1 X.2.1 d_Sp_init_5 (by decide) ?_
  refine kf_I X hZ (ci := 9) (c0 := 105) (fs := [.null, .null, .null, .null, .null, .null, .null, .int 0, .int 0]) cb_c9 2 80 cw_176 (by omega) rfl hE (by decide) rfl rfl (by decide +kernel) (Nat.le_of_ble_eq_true rfl) (by decide) (by decide) (Nat.le_of_ble_eq_true rfl) (Nat.le_trans (Nat.le_of_ble_eq_true rfl) hce) (Nat.le_trans (Nat.le_of_ble_eq_true rfl) hsl) d_Sp_init_7 d_Sp_init_9 ?_
  intro al1 E1 H1 locs1 o1 p1 z1 c1 hZ1
  have ha1 : al1 (105) = al (105) := (o1 _ (by omega)).trans rfl
  refine lv_aload_n X.1 X.2.1 d_Sp_init_12 rfl (lv_at hl 0 rfl) ?_
  refine lv_bipush (v := 8) X.1 X.2.1 d_Sp_init_13 (by decide) ?_
  refine kf_I X hZ1 (ci := 9) (c0 := 105) (fs := [.null, .null, .ref (al1 (106)), .null, .null, .null, .null, .int 0, .int 0]) cb_c9 3 8 cw_177 (by omega) ha1 c1 (by decide) rfl rfl (by decide +kernel) (Nat.le_of_ble_eq_true rfl) (by decide) (by decide) (Nat.le_of_ble_eq_true rfl) (Nat.le_trans (Nat.le_of_ble_eq_true rfl) hce) (Nat.le_trans (Nat.le_of_ble_eq_true rfl) hsl) d_Sp_init_15 d_Sp_init_17 ?_
  intro al2 E2 H2 locs2 o2 p2 z2 c2 hZ2
  have ha2 : al2 (105) = al (105) := (o2 _ (by omega)).trans ha1
  refine lv_aload_n X.1 X.2.1 d_Sp_init_20 rfl (lv_at hl 0 rfl) ?_
  refine lv_bipush (v := 30) X.1 X.2.1 d_Sp_init_21 (by decide) ?_
  refine kf_I X hZ2 (ci := 9) (c0 := 105) (fs := [.null, .null, .ref (al1 (106)), .ref (al2 (107)), .null, .null, .null, .int 0, .int 0]) cb_c9 4 30 cw_178 (by omega) ha2 c2 (by decide) rfl rfl (by decide +kernel) (Nat.le_of_ble_eq_true rfl) (by decide) (by decide) (Nat.le_of_ble_eq_true rfl) (Nat.le_trans (Nat.le_of_ble_eq_true rfl) hce) (Nat.le_trans (Nat.le_of_ble_eq_true rfl) hsl) d_Sp_init_23 d_Sp_init_25 ?_
  intro al3 E3 H3 locs3 o3 p3 z3 c3 hZ3
  have ha3 : al3 (105) = al (105) := (o3 _ (by omega)).trans ha2
  refine lv_aload_n X.1 X.2.1 d_Sp_init_28 rfl (lv_at hl 0 rfl) ?_
  refine lv_bipush (v := 30) X.1 X.2.1 d_Sp_init_29 (by decide) ?_
  refine kf_I X hZ3 (ci := 9) (c0 := 105) (fs := [.null, .null, .ref (al1 (106)), .ref (al2 (107)), .ref (al3 (108)), .null, .null, .int 0, .int 0]) cb_c9 5 30 cw_179 (by omega) ha3 c3 (by decide) rfl rfl (by decide +kernel) (Nat.le_of_ble_eq_true rfl) (by decide) (by decide) (Nat.le_of_ble_eq_true rfl) (Nat.le_trans (Nat.le_of_ble_eq_true rfl) hce) (Nat.le_trans (Nat.le_of_ble_eq_true rfl) hsl) d_Sp_init_31 d_Sp_init_33 ?_
  intro al4 E4 H4 locs4 o4 p4 z4 c4 hZ4
  have ha4 : al4 (105) = al (105) := (o4 _ (by omega)).trans ha3
  refine lv_aload_n X.1 X.2.1 d_Sp_init_36 rfl (lv_at hl 0 rfl) ?_
  refine lv_iconst (v := 4) X.1 X.2.1 d_Sp_init_37 (by decide) ?_
  refine kf_I X hZ4 (ci := 9) (c0 := 105) (fs := [.null, .null, .ref (al1 (106)), .ref (al2 (107)), .ref (al3 (108)), .ref (al4 (109)), .null, .int 0, .int 0]) cb_c9 6 4 cw_180 (by omega) ha4 c4 (by decide) rfl rfl (by decide +kernel) (Nat.le_of_ble_eq_true rfl) (by decide) (by decide) (Nat.le_of_ble_eq_true rfl) (Nat.le_trans (Nat.le_of_ble_eq_true rfl) hce) (Nat.le_trans (Nat.le_of_ble_eq_true rfl) hsl) d_Sp_init_38 d_Sp_init_40 ?_
  intro al5 E5 H5 locs5 o5 p5 z5 c5 hZ5
  have ha5 : al5 (105) = al (105) := (o5 _ (by omega)).trans ha4
  refine lv_aload_n X.1 X.2.1 d_Sp_init_43 rfl (lv_at hl 0 rfl) ?_
  refine lv_aload_n X.1 X.2.1 d_Sp_init_44 rfl (lv_at hl 1 rfl) ?_
  refine kf_R X hZ5 (ci := 9) (c0 := 105) (t := .object "CauseBook$Model") (fs := [.null, .null, .ref (al1 (106)), .ref (al2 (107)), .ref (al3 (108)), .ref (al4 (109)), .ref (al5 (110)), .int 0, .int 0]) cb_c9 0 cw_174 (by omega) ha5 c5 (by decide) rfl rfl (by decide +kernel) rfl rfl (Nat.le_of_ble_eq_true rfl) d_Sp_init_45 ?_
  intro E6 H6 locs6 p6 c6 hZ6
  refine lv_aload_n X.1 X.2.1 d_Sp_init_48 rfl (lv_at hl 0 rfl) ?_
  refine lv_aload_n X.1 X.2.1 d_Sp_init_49 rfl (lv_at hl 2 rfl) ?_
  refine kf_R X hZ6 (ci := 9) (c0 := 105) (t := .object "CauseBook$Roll") (fs := [.ref (al 1), .null, .ref (al1 (106)), .ref (al2 (107)), .ref (al3 (108)), .ref (al4 (109)), .ref (al5 (110)), .int 0, .int 0]) cb_c9 1 cw_175 (by omega) ha5 c6 (by decide) rfl rfl (by decide +kernel) rfl rfl (Nat.le_of_ble_eq_true rfl) d_Sp_init_50 ?_
  intro E7 H7 locs7 p7 c7 hZ7
  refine fin al5 E7 H7 locs7 ls 53 d_Sp_init_53 (fun k hk => ?_) ⟨fun k hk => ?_, fun k hk1 hk2 => ?_⟩ hZ7
  · rw [o5 _ (by omega), o4 _ (by omega), o3 _ (by omega), o2 _ (by omega), o1 _ (by omega)]
  · rw [p7 _ (by omega), p6 _ (by omega), p5 _ (by omega) (by omega), p4 _ (by omega) (by omega), p3 _ (by omega) (by omega), p2 _ (by omega) (by omega), p1 _ (by omega) (by omega)]
  · rcases (show k = 105 ∨ k = 106 ∨ k = 107 ∨ k = 108 ∨ k = 109 ∨ k = 110 by omega) with e0 | e0 | e0 | e0 | e0 | e0
    · have r1 : al5 (106) = al1 (106) := by rw [o5 _ (by omega), o4 _ (by omega), o3 _ (by omega), o2 _ (by omega)]
      have r2 : al5 (107) = al2 (107) := by rw [o5 _ (by omega), o4 _ (by omega), o3 _ (by omega)]
      have r3 : al5 (108) = al3 (108) := by rw [o5 _ (by omega), o4 _ (by omega)]
      have r4 : al5 (109) = al4 (109) := by rw [o5 _ (by omega)]
      have r5 : al5 1 = al 1 := by rw [o5 _ (by omega), o4 _ (by omega), o3 _ (by omega), o2 _ (by omega), o1 _ (by omega)]
      have r6 : al5 97 = al 97 := by rw [o5 _ (by omega), o4 _ (by omega), o3 _ (by omega), o2 _ (by omega), o1 _ (by omega)]
      rw [e0, c7, kzo_105, r1, r2, r3, r4, r5, r6]
      try rfl
    · rw [e0, p7 _ (by omega), p6 _ (by omega), p5 _ (by omega) (by omega), p4 _ (by omega) (by omega), p3 _ (by omega) (by omega), p2 _ (by omega) (by omega), z1, kz0 (show cb_kd 106 = (0, 80) from rfl) (by omega) (by omega)]
    · rw [e0, p7 _ (by omega), p6 _ (by omega), p5 _ (by omega) (by omega), p4 _ (by omega) (by omega), p3 _ (by omega) (by omega), z2, kz0 (show cb_kd 107 = (0, 8) from rfl) (by omega) (by omega)]
    · rw [e0, p7 _ (by omega), p6 _ (by omega), p5 _ (by omega) (by omega), p4 _ (by omega) (by omega), z3, kz0 (show cb_kd 108 = (0, 30) from rfl) (by omega) (by omega)]
    · rw [e0, p7 _ (by omega), p6 _ (by omega), p5 _ (by omega) (by omega), z4, kz0 (show cb_kd 109 = (0, 30) from rfl) (by omega) (by omega)]
    · rw [e0, p7 _ (by omega), p6 _ (by omega), z5, kz0 (show cb_kd 110 = (0, 4) from rfl) (by omega) (by omega)]
set_option maxRecDepth 8000 in
set_option maxHeartbeats 1000000 in
theorem k_Co : Kon Y_Co_init 5 1050 (112) (117) (fun al => [.ref (al (111)), .ref (al 1), .ref (al 105), .ref (al 97), .ref (al 101)]) (fun g al E => E (111) = .inr (2, [.null, .null, .null, .null, .null, .null, .null, .null, .null, .int 0, .int 0, .int 0, .int 0, .int 0, .int 0])) (fun g al E al1 E1 => (∀ k, k < 111 → E1 k = E k) ∧ ∀ k, 111 ≤ k → k < 117 → E1 k = cb_E (kg g al1) mz k) := by
  refine Kon.of (by decide) rfl rfl (fun al => Nat.le_of_ble_eq_true rfl) ?_
  intro p l e R s m args below meth c Q g A al E X hfr hlo hce hsl hE fin H ls hZ hl
  have X : kb_X "CauseBook$Codes" prog_4_method_1_code 5 p s m meth c g A := X
  have hfr : 1 ≤ R.frames := hfr
  have hlo : 12 ≤ R.locals := hlo
  have hl : lv_has ls 5 [(0, .ref (al (111))), (1, .ref (al 1)), (2, .ref (al 105)), (3, .ref (al 97)), (4, .ref (al 101))] := hl
  refine lv_aload_n X.1 X.2.1 d_Co_init_0 rfl (lv_at hl 0 rfl) ?_
  refine kb_obj X cw_207 hl.1 hfr hlo d_Co_init_1 ?_
  refine lv_aload_n X.1 X.2.1 d_Co_init_4 rfl (lv_at hl 0 rfl) ?_
  refine lv_bipush (v := 12) X.1 X.2.1 d_Co_init_5 (by decide) ?_
  refine kf_I X hZ (ci := 2) (c0 := 111) (fs := [.null, .null, .null, .null, .null, .null, .null, .null, .null, .int 0, .int 0, .int 0, .int 0, .int 0, .int 0]) cb_c2 4 12 cw_219 (by omega) rfl hE (by decide) rfl rfl (by decide +kernel) (Nat.le_of_ble_eq_true rfl) (by decide) (by decide) (Nat.le_of_ble_eq_true rfl) (Nat.le_trans (Nat.le_of_ble_eq_true rfl) hce) (Nat.le_trans (Nat.le_of_ble_eq_true rfl) hsl) d_Co_init_7 d_Co_init_9 ?_
  intro al1 E1 H1 locs1 o1 p1 z1 c1 hZ1
  have ha1 : al1 (111) = al (111) := (o1 _ (by omega)).trans rfl
  refine lv_aload_n X.1 X.2.1 d_Co_init_12 rfl (lv_at hl 0 rfl) ?_
  refine lv_sipush (v := 144) X.1 X.2.1 d_Co_init_13 (by decide) ?_
  refine kf_I X hZ1 (ci := 2) (c0 := 111) (fs := [.null, .null, .null, .null, .ref (al1 (112)), .null, .null, .null, .null, .int 0, .int 0, .int 0, .int 0, .int 0, .int 0]) cb_c2 5 144 cw_224 (by omega) ha1 c1 (by decide) rfl rfl (by decide +kernel) (Nat.le_of_ble_eq_true rfl) (by decide) (by decide) (Nat.le_of_ble_eq_true rfl) (Nat.le_trans (Nat.le_of_ble_eq_true rfl) hce) (Nat.le_trans (Nat.le_of_ble_eq_true rfl) hsl) d_Co_init_16 d_Co_init_18 ?_
  intro al2 E2 H2 locs2 o2 p2 z2 c2 hZ2
  have ha2 : al2 (111) = al (111) := (o2 _ (by omega)).trans ha1
  refine lv_aload_n X.1 X.2.1 d_Co_init_21 rfl (lv_at hl 0 rfl) ?_
  refine lv_sipush (v := 298) X.1 X.2.1 d_Co_init_22 (by decide) ?_
  refine kf_I X hZ2 (ci := 2) (c0 := 111) (fs := [.null, .null, .null, .null, .ref (al1 (112)), .ref (al2 (113)), .null, .null, .null, .int 0, .int 0, .int 0, .int 0, .int 0, .int 0]) cb_c2 6 298 cw_225 (by omega) ha2 c2 (by decide) rfl rfl (by decide +kernel) (Nat.le_of_ble_eq_true rfl) (by decide) (by decide) (Nat.le_of_ble_eq_true rfl) (Nat.le_trans (Nat.le_of_ble_eq_true rfl) hce) (Nat.le_trans (Nat.le_of_ble_eq_true rfl) hsl) d_Co_init_25 d_Co_init_27 ?_
  intro al3 E3 H3 locs3 o3 p3 z3 c3 hZ3
  have ha3 : al3 (111) = al (111) := (o3 _ (by omega)).trans ha2
  refine lv_aload_n X.1 X.2.1 d_Co_init_30 rfl (lv_at hl 0 rfl) ?_
  refine lv_sipush (v := 298) X.1 X.2.1 d_Co_init_31 (by decide) ?_
  refine kf_I X hZ3 (ci := 2) (c0 := 111) (fs := [.null, .null, .null, .null, .ref (al1 (112)), .ref (al2 (113)), .ref (al3 (114)), .null, .null, .int 0, .int 0, .int 0, .int 0, .int 0, .int 0]) cb_c2 7 298 cw_227 (by omega) ha3 c3 (by decide) rfl rfl (by decide +kernel) (Nat.le_of_ble_eq_true rfl) (by decide) (by decide) (Nat.le_of_ble_eq_true rfl) (Nat.le_trans (Nat.le_of_ble_eq_true rfl) hce) (Nat.le_trans (Nat.le_of_ble_eq_true rfl) hsl) d_Co_init_34 d_Co_init_36 ?_
  intro al4 E4 H4 locs4 o4 p4 z4 c4 hZ4
  have ha4 : al4 (111) = al (111) := (o4 _ (by omega)).trans ha3
  refine lv_aload_n X.1 X.2.1 d_Co_init_39 rfl (lv_at hl 0 rfl) ?_
  refine lv_sipush (v := 298) X.1 X.2.1 d_Co_init_40 (by decide) ?_
  refine kf_I X hZ4 (ci := 2) (c0 := 111) (fs := [.null, .null, .null, .null, .ref (al1 (112)), .ref (al2 (113)), .ref (al3 (114)), .ref (al4 (115)), .null, .int 0, .int 0, .int 0, .int 0, .int 0, .int 0]) cb_c2 8 298 cw_229 (by omega) ha4 c4 (by decide) rfl rfl (by decide +kernel) (Nat.le_of_ble_eq_true rfl) (by decide) (by decide) (Nat.le_of_ble_eq_true rfl) (Nat.le_trans (Nat.le_of_ble_eq_true rfl) hce) (Nat.le_trans (Nat.le_of_ble_eq_true rfl) hsl) d_Co_init_43 d_Co_init_45 ?_
  intro al5 E5 H5 locs5 o5 p5 z5 c5 hZ5
  have ha5 : al5 (111) = al (111) := (o5 _ (by omega)).trans ha4
  refine lv_aload_n X.1 X.2.1 d_Co_init_48 rfl (lv_at hl 0 rfl) ?_
  refine lv_aload_n X.1 X.2.1 d_Co_init_49 rfl (lv_at hl 1 rfl) ?_
  refine kf_R X hZ5 (ci := 2) (c0 := 111) (t := .object "CauseBook$Model") (fs := [.null, .null, .null, .null, .ref (al1 (112)), .ref (al2 (113)), .ref (al3 (114)), .ref (al4 (115)), .ref (al5 (116)), .int 0, .int 0, .int 0, .int 0, .int 0, .int 0]) cb_c2 0 cw_208 (by omega) ha5 c5 (by decide) rfl rfl (by decide +kernel) rfl rfl (Nat.le_of_ble_eq_true rfl) d_Co_init_50 ?_
  intro E6 H6 locs6 p6 c6 hZ6
  refine lv_aload_n X.1 X.2.1 d_Co_init_53 rfl (lv_at hl 0 rfl) ?_
  refine lv_aload_n X.1 X.2.1 d_Co_init_54 rfl (lv_at hl 2 rfl) ?_
  refine kf_R X hZ6 (ci := 2) (c0 := 111) (t := .object "CauseBook$Spreader") (fs := [.ref (al 1), .null, .null, .null, .ref (al1 (112)), .ref (al2 (113)), .ref (al3 (114)), .ref (al4 (115)), .ref (al5 (116)), .int 0, .int 0, .int 0, .int 0, .int 0, .int 0]) cb_c2 1 cw_209 (by omega) ha5 c6 (by decide) rfl rfl (by decide +kernel) rfl rfl (Nat.le_of_ble_eq_true rfl) d_Co_init_55 ?_
  intro E7 H7 locs7 p7 c7 hZ7
  refine lv_aload_n X.1 X.2.1 d_Co_init_58 rfl (lv_at hl 0 rfl) ?_
  refine lv_aload_n X.1 X.2.1 d_Co_init_59 rfl (lv_at hl 3 rfl) ?_
  refine kf_R X hZ7 (ci := 2) (c0 := 111) (t := .object "CauseBook$Roll") (fs := [.ref (al 1), .ref (al 105), .null, .null, .ref (al1 (112)), .ref (al2 (113)), .ref (al3 (114)), .ref (al4 (115)), .ref (al5 (116)), .int 0, .int 0, .int 0, .int 0, .int 0, .int 0]) cb_c2 2 cw_210 (by omega) ha5 c7 (by decide) rfl rfl (by decide +kernel) rfl rfl (Nat.le_of_ble_eq_true rfl) d_Co_init_60 ?_
  intro E8 H8 locs8 p8 c8 hZ8
  refine lv_aload_n X.1 X.2.1 d_Co_init_63 rfl (lv_at hl 0 rfl) ?_
  refine lv_aload X.1 X.2.1 d_Co_init_64 (lv_at hl 4 rfl) ?_
  refine kf_R X hZ8 (ci := 2) (c0 := 111) (t := .object "CauseBook$Roll") (fs := [.ref (al 1), .ref (al 105), .ref (al 97), .null, .ref (al1 (112)), .ref (al2 (113)), .ref (al3 (114)), .ref (al4 (115)), .ref (al5 (116)), .int 0, .int 0, .int 0, .int 0, .int 0, .int 0]) cb_c2 3 cw_215 (by omega) ha5 c8 (by decide) rfl rfl (by decide +kernel) rfl rfl (Nat.le_of_ble_eq_true rfl) d_Co_init_66 ?_
  intro E9 H9 locs9 p9 c9 hZ9
  refine fin al5 E9 H9 locs9 ls 69 d_Co_init_69 (fun k hk => ?_) ⟨fun k hk => ?_, fun k hk1 hk2 => ?_⟩ hZ9
  · rw [o5 _ (by omega), o4 _ (by omega), o3 _ (by omega), o2 _ (by omega), o1 _ (by omega)]
  · rw [p9 _ (by omega), p8 _ (by omega), p7 _ (by omega), p6 _ (by omega), p5 _ (by omega) (by omega), p4 _ (by omega) (by omega), p3 _ (by omega) (by omega), p2 _ (by omega) (by omega), p1 _ (by omega) (by omega)]
  · rcases (show k = 111 ∨ k = 112 ∨ k = 113 ∨ k = 114 ∨ k = 115 ∨ k = 116 by omega) with e0 | e0 | e0 | e0 | e0 | e0
    · have r1 : al5 (112) = al1 (112) := by rw [o5 _ (by omega), o4 _ (by omega), o3 _ (by omega), o2 _ (by omega)]
      have r2 : al5 (113) = al2 (113) := by rw [o5 _ (by omega), o4 _ (by omega), o3 _ (by omega)]
      have r3 : al5 (114) = al3 (114) := by rw [o5 _ (by omega), o4 _ (by omega)]
      have r4 : al5 (115) = al4 (115) := by rw [o5 _ (by omega)]
      have r5 : al5 1 = al 1 := by rw [o5 _ (by omega), o4 _ (by omega), o3 _ (by omega), o2 _ (by omega), o1 _ (by omega)]
      have r6 : al5 105 = al 105 := by rw [o5 _ (by omega), o4 _ (by omega), o3 _ (by omega), o2 _ (by omega), o1 _ (by omega)]
      have r7 : al5 97 = al 97 := by rw [o5 _ (by omega), o4 _ (by omega), o3 _ (by omega), o2 _ (by omega), o1 _ (by omega)]
      have r8 : al5 101 = al 101 := by rw [o5 _ (by omega), o4 _ (by omega), o3 _ (by omega), o2 _ (by omega), o1 _ (by omega)]
      rw [e0, c9, kzo_111, r1, r2, r3, r4, r5, r6, r7, r8]
      try rfl
    · rw [e0, p9 _ (by omega), p8 _ (by omega), p7 _ (by omega), p6 _ (by omega), p5 _ (by omega) (by omega), p4 _ (by omega) (by omega), p3 _ (by omega) (by omega), p2 _ (by omega) (by omega), z1, kz0 (show cb_kd 112 = (0, 12) from rfl) (by omega) (by omega)]
    · rw [e0, p9 _ (by omega), p8 _ (by omega), p7 _ (by omega), p6 _ (by omega), p5 _ (by omega) (by omega), p4 _ (by omega) (by omega), p3 _ (by omega) (by omega), z2, kz0 (show cb_kd 113 = (0, 144) from rfl) (by omega) (by omega)]
    · rw [e0, p9 _ (by omega), p8 _ (by omega), p7 _ (by omega), p6 _ (by omega), p5 _ (by omega) (by omega), p4 _ (by omega) (by omega), z3, kz0 (show cb_kd 114 = (0, 298) from rfl) (by omega) (by omega)]
    · rw [e0, p9 _ (by omega), p8 _ (by omega), p7 _ (by omega), p6 _ (by omega), p5 _ (by omega) (by omega), z4, kz0 (show cb_kd 115 = (0, 298) from rfl) (by omega) (by omega)]
    · rw [e0, p9 _ (by omega), p8 _ (by omega), p7 _ (by omega), p6 _ (by omega), z5, kz0 (show cb_kd 116 = (0, 298) from rfl) (by omega) (by omega)]
set_option maxRecDepth 8000 in
set_option maxHeartbeats 1000000 in
theorem k_De : Kon Y_De_init 0 0 (118) (118) (fun al => [.ref (al (117)), .ref (al 1), .ref (al 111)]) (fun g al E => E (117) = .inr (3, [.null, .null, .int 0, .int 0])) (fun g al E al1 E1 => (∀ k, k < 117 → E1 k = E k) ∧ ∀ k, 117 ≤ k → k < 118 → E1 k = cb_E (kg g al1) mz k) := by
  refine Kon.of (by decide) rfl rfl (fun al => Nat.le_of_ble_eq_true rfl) ?_
  intro p l e R s m args below meth c Q g A al E X hfr hlo hce hsl hE fin H ls hZ hl
  have X : kb_X "CauseBook$Decoder" prog_5_method_1_code 3 p s m meth c g A := X
  have hfr : 1 ≤ R.frames := hfr
  have hlo : 12 ≤ R.locals := hlo
  have hl : lv_has ls 3 [(0, .ref (al (117))), (1, .ref (al 1)), (2, .ref (al 111))] := hl
  refine lv_aload_n X.1 X.2.1 d_De_init_0 rfl (lv_at hl 0 rfl) ?_
  refine kb_obj X cw_276 hl.1 hfr hlo d_De_init_1 ?_
  refine lv_aload_n X.1 X.2.1 d_De_init_4 rfl (lv_at hl 0 rfl) ?_
  refine lv_aload_n X.1 X.2.1 d_De_init_5 rfl (lv_at hl 1 rfl) ?_
  refine kf_R X hZ (ci := 3) (c0 := 117) (t := .object "CauseBook$Model") (fs := [.null, .null, .int 0, .int 0]) cb_c3 0 cw_277 (by omega) rfl hE (by decide) rfl rfl (by decide +kernel) rfl rfl (Nat.le_of_ble_eq_true rfl) d_De_init_6 ?_
  intro E1 H1 locs1 p1 c1 hZ1
  refine lv_aload_n X.1 X.2.1 d_De_init_9 rfl (lv_at hl 0 rfl) ?_
  refine lv_aload_n X.1 X.2.1 d_De_init_10 rfl (lv_at hl 2 rfl) ?_
  refine kf_R X hZ1 (ci := 3) (c0 := 117) (t := .object "CauseBook$Codes") (fs := [.ref (al 1), .null, .int 0, .int 0]) cb_c3 1 cw_278 (by omega) rfl c1 (by decide) rfl rfl (by decide +kernel) rfl rfl (Nat.le_of_ble_eq_true rfl) d_De_init_11 ?_
  intro E2 H2 locs2 p2 c2 hZ2
  refine fin al E2 H2 locs2 ls 14 d_De_init_14 (fun k hk => ?_) ⟨fun k hk => ?_, fun k hk1 hk2 => ?_⟩ hZ2
  · rfl
  · rw [p2 _ (by omega), p1 _ (by omega)]
  · have e0 : k = 117 := by omega
    rw [e0, c2, kzo_117]
    try rfl
set_option maxRecDepth 8000 in
set_option maxHeartbeats 1000000 in
theorem k_Ch : Kon Y_Ch_init 1 12 (119) (120) (fun al => [.ref (al (118)), .ref (al 1), .ref (al 111), .ref (al 96)]) (fun g al E => E (118) = .inr (0, [.null, .null, .null, .null, .long 0, .long 0])) (fun g al E al1 E1 => (∀ k, k < 118 → E1 k = E k) ∧ ∀ k, 118 ≤ k → k < 120 → E1 k = cb_E (kg g al1) mz k) := by
  refine Kon.of (by decide) rfl rfl (fun al => Nat.le_of_ble_eq_true rfl) ?_
  intro p l e R s m args below meth c Q g A al E X hfr hlo hce hsl hE fin H ls hZ hl
  have X : kb_X "CauseBook$Chances" prog_2_method_1_code 4 p s m meth c g A := X
  have hfr : 1 ≤ R.frames := hfr
  have hlo : 12 ≤ R.locals := hlo
  have hl : lv_has ls 4 [(0, .ref (al (118))), (1, .ref (al 1)), (2, .ref (al 111)), (3, .ref (al 96))] := hl
  refine lv_aload_n X.1 X.2.1 d_Ch_init_0 rfl (lv_at hl 0 rfl) ?_
  refine kb_obj X cw_297 hl.1 hfr hlo d_Ch_init_1 ?_
  refine lv_aload_n X.1 X.2.1 d_Ch_init_4 rfl (lv_at hl 0 rfl) ?_
  refine lv_bipush (v := 12) X.1 X.2.1 d_Ch_init_5 (by decide) ?_
  refine kf_L X hZ (ci := 0) (c0 := 118) (fs := [.null, .null, .null, .null, .long 0, .long 0]) cb_c0 3 12 cw_301 (by omega) rfl hE (by decide) rfl rfl (by decide +kernel) (Nat.le_of_ble_eq_true rfl) (by decide) (by decide) (Nat.le_of_ble_eq_true rfl) (Nat.le_trans (Nat.le_of_ble_eq_true rfl) hce) (Nat.le_trans (Nat.le_of_ble_eq_true rfl) hsl) d_Ch_init_7 d_Ch_init_9 ?_
  intro al1 E1 H1 locs1 o1 p1 z1 c1 hZ1
  have ha1 : al1 (118) = al (118) := (o1 _ (by omega)).trans rfl
  refine lv_aload_n X.1 X.2.1 d_Ch_init_12 rfl (lv_at hl 0 rfl) ?_
  refine lv_aload_n X.1 X.2.1 d_Ch_init_13 rfl (lv_at hl 1 rfl) ?_
  refine kf_R X hZ1 (ci := 0) (c0 := 118) (t := .object "CauseBook$Model") (fs := [.null, .null, .null, .ref (al1 (119)), .long 0, .long 0]) cb_c0 0 cw_298 (by omega) ha1 c1 (by decide) rfl rfl (by decide +kernel) rfl rfl (Nat.le_of_ble_eq_true rfl) d_Ch_init_14 ?_
  intro E2 H2 locs2 p2 c2 hZ2
  refine lv_aload_n X.1 X.2.1 d_Ch_init_17 rfl (lv_at hl 0 rfl) ?_
  refine lv_aload_n X.1 X.2.1 d_Ch_init_18 rfl (lv_at hl 2 rfl) ?_
  refine kf_R X hZ2 (ci := 0) (c0 := 118) (t := .object "CauseBook$Codes") (fs := [.ref (al 1), .null, .null, .ref (al1 (119)), .long 0, .long 0]) cb_c0 1 cw_299 (by omega) ha1 c2 (by decide) rfl rfl (by decide +kernel) rfl rfl (Nat.le_of_ble_eq_true rfl) d_Ch_init_19 ?_
  intro E3 H3 locs3 p3 c3 hZ3
  refine lv_aload_n X.1 X.2.1 d_Ch_init_22 rfl (lv_at hl 0 rfl) ?_
  refine lv_aload_n X.1 X.2.1 d_Ch_init_23 rfl (lv_at hl 3 rfl) ?_
  refine kf_R X hZ3 (ci := 0) (c0 := 118) (t := .array (.int)) (fs := [.ref (al 1), .ref (al 111), .null, .ref (al1 (119)), .long 0, .long 0]) cb_c0 2 cw_300 (by omega) ha1 c3 (by decide) rfl rfl (by decide +kernel) rfl rfl (Nat.le_of_ble_eq_true rfl) d_Ch_init_24 ?_
  intro E4 H4 locs4 p4 c4 hZ4
  refine fin al1 E4 H4 locs4 ls 27 d_Ch_init_27 (fun k hk => ?_) ⟨fun k hk => ?_, fun k hk1 hk2 => ?_⟩ hZ4
  · rw [o1 _ (by omega)]
  · rw [p4 _ (by omega), p3 _ (by omega), p2 _ (by omega), p1 _ (by omega) (by omega)]
  · rcases (show k = 118 ∨ k = 119 by omega) with e0 | e0
    · have r1 : al1 1 = al 1 := by rw [o1 _ (by omega)]
      have r2 : al1 111 = al 111 := by rw [o1 _ (by omega)]
      have r3 : al1 96 = al 96 := by rw [o1 _ (by omega)]
      rw [e0, c4, kzo_118, r1, r2, r3]
      try rfl
    · rw [e0, p4 _ (by omega), p3 _ (by omega), p2 _ (by omega), z1, kz2 (show cb_kd 119 = (2, 12) from rfl)]
set_option maxRecDepth 8000 in
set_option maxHeartbeats 1000000 in
theorem k_Re : Kon Y_Re_init 2 156 (121) (123) (fun al => [.ref (al (120)), .ref (al 111)]) (fun g al E => E (120) = .inr (6, [.null, .null, .null, .int 0, .int 0])) (fun g al E al1 E1 => (∀ k, k < 120 → E1 k = E k) ∧ ∀ k, 120 ≤ k → k < 123 → E1 k = cb_E (kg g al1) mz k) := by
  refine Kon.of (by decide) rfl rfl (fun al => Nat.le_of_ble_eq_true rfl) ?_
  intro p l e R s m args below meth c Q g A al E X hfr hlo hce hsl hE fin H ls hZ hl
  have X : kb_X "CauseBook$Reducer" prog_8_method_1_code 2 p s m meth c g A := X
  have hfr : 1 ≤ R.frames := hfr
  have hlo : 12 ≤ R.locals := hlo
  have hl : lv_has ls 2 [(0, .ref (al (120))), (1, .ref (al 111))] := hl
  refine lv_aload_n X.1 X.2.1 d_Re_init_0 rfl (lv_at hl 0 rfl) ?_
  refine kb_obj X cw_326 hl.1 hfr hlo d_Re_init_1 ?_
  refine lv_aload_n X.1 X.2.1 d_Re_init_4 rfl (lv_at hl 0 rfl) ?_
  refine lv_bipush (v := 78) X.1 X.2.1 d_Re_init_5 (by decide) ?_
  refine kf_I X hZ (ci := 6) (c0 := 120) (fs := [.null, .null, .null, .int 0, .int 0]) cb_c6 1 78 cw_328 (by omega) rfl hE (by decide) rfl rfl (by decide +kernel) (Nat.le_of_ble_eq_true rfl) (by decide) (by decide) (Nat.le_of_ble_eq_true rfl) (Nat.le_trans (Nat.le_of_ble_eq_true rfl) hce) (Nat.le_trans (Nat.le_of_ble_eq_true rfl) hsl) d_Re_init_7 d_Re_init_9 ?_
  intro al1 E1 H1 locs1 o1 p1 z1 c1 hZ1
  have ha1 : al1 (120) = al (120) := (o1 _ (by omega)).trans rfl
  refine lv_aload_n X.1 X.2.1 d_Re_init_12 rfl (lv_at hl 0 rfl) ?_
  refine lv_bipush (v := 78) X.1 X.2.1 d_Re_init_13 (by decide) ?_
  refine kf_I X hZ1 (ci := 6) (c0 := 120) (fs := [.null, .ref (al1 (121)), .null, .int 0, .int 0]) cb_c6 2 78 cw_329 (by omega) ha1 c1 (by decide) rfl rfl (by decide +kernel) (Nat.le_of_ble_eq_true rfl) (by decide) (by decide) (Nat.le_of_ble_eq_true rfl) (Nat.le_trans (Nat.le_of_ble_eq_true rfl) hce) (Nat.le_trans (Nat.le_of_ble_eq_true rfl) hsl) d_Re_init_15 d_Re_init_17 ?_
  intro al2 E2 H2 locs2 o2 p2 z2 c2 hZ2
  have ha2 : al2 (120) = al (120) := (o2 _ (by omega)).trans ha1
  refine lv_aload_n X.1 X.2.1 d_Re_init_20 rfl (lv_at hl 0 rfl) ?_
  refine lv_aload_n X.1 X.2.1 d_Re_init_21 rfl (lv_at hl 1 rfl) ?_
  refine kf_R X hZ2 (ci := 6) (c0 := 120) (t := .object "CauseBook$Codes") (fs := [.null, .ref (al1 (121)), .ref (al2 (122)), .int 0, .int 0]) cb_c6 0 cw_327 (by omega) ha2 c2 (by decide) rfl rfl (by decide +kernel) rfl rfl (Nat.le_of_ble_eq_true rfl) d_Re_init_22 ?_
  intro E3 H3 locs3 p3 c3 hZ3
  refine fin al2 E3 H3 locs3 ls 25 d_Re_init_25 (fun k hk => ?_) ⟨fun k hk => ?_, fun k hk1 hk2 => ?_⟩ hZ3
  · rw [o2 _ (by omega), o1 _ (by omega)]
  · rw [p3 _ (by omega), p2 _ (by omega) (by omega), p1 _ (by omega) (by omega)]
  · rcases (show k = 120 ∨ k = 121 ∨ k = 122 by omega) with e0 | e0 | e0
    · have r1 : al2 (121) = al1 (121) := by rw [o2 _ (by omega)]
      have r2 : al2 111 = al 111 := by rw [o2 _ (by omega), o1 _ (by omega)]
      rw [e0, c3, kzo_120, r1, r2]
      try rfl
    · rw [e0, p3 _ (by omega), p2 _ (by omega) (by omega), z1, kz0 (show cb_kd 121 = (0, 78) from rfl) (by omega) (by omega)]
    · rw [e0, p3 _ (by omega), z2, kz0 (show cb_kd 122 = (0, 78) from rfl) (by omega) (by omega)]
set_option maxRecDepth 8000 in
set_option maxHeartbeats 1000000 in
theorem k_Cr : Kon Y_Cr_init 1 240 (124) (125) (fun al => [.ref (al (123)), .ref (al 1), .ref (al 111), .ref (al 96)]) (fun g al E => E (123) = .inr (1, [.null, .null, .null, .null, .int 0])) (fun g al E al1 E1 => (∀ k, k < 123 → E1 k = E k) ∧ ∀ k, 123 ≤ k → k < 125 → E1 k = cb_E (kg g al1) mz k) := by
  refine Kon.of (by decide) rfl rfl (fun al => Nat.le_of_ble_eq_true rfl) ?_
  intro p l e R s m args below meth c Q g A al E X hfr hlo hce hsl hE fin H ls hZ hl
  have X : kb_X "CauseBook$Chronicle" prog_3_method_1_code 4 p s m meth c g A := X
  have hfr : 1 ≤ R.frames := hfr
  have hlo : 12 ≤ R.locals := hlo
  have hl : lv_has ls 4 [(0, .ref (al (123))), (1, .ref (al 1)), (2, .ref (al 111)), (3, .ref (al 96))] := hl
  refine lv_aload_n X.1 X.2.1 d_Cr_init_0 rfl (lv_at hl 0 rfl) ?_
  refine kb_obj X cw_348 hl.1 hfr hlo d_Cr_init_1 ?_
  refine lv_aload_n X.1 X.2.1 d_Cr_init_4 rfl (lv_at hl 0 rfl) ?_
  refine lv_sipush (v := 240) X.1 X.2.1 d_Cr_init_5 (by decide) ?_
  refine kf_I X hZ (ci := 1) (c0 := 123) (fs := [.null, .null, .null, .null, .int 0]) cb_c1 3 240 cw_352 (by omega) rfl hE (by decide) rfl rfl (by decide +kernel) (Nat.le_of_ble_eq_true rfl) (by decide) (by decide) (Nat.le_of_ble_eq_true rfl) (Nat.le_trans (Nat.le_of_ble_eq_true rfl) hce) (Nat.le_trans (Nat.le_of_ble_eq_true rfl) hsl) d_Cr_init_8 d_Cr_init_10 ?_
  intro al1 E1 H1 locs1 o1 p1 z1 c1 hZ1
  have ha1 : al1 (123) = al (123) := (o1 _ (by omega)).trans rfl
  refine lv_aload_n X.1 X.2.1 d_Cr_init_13 rfl (lv_at hl 0 rfl) ?_
  refine lv_aload_n X.1 X.2.1 d_Cr_init_14 rfl (lv_at hl 1 rfl) ?_
  refine kf_R X hZ1 (ci := 1) (c0 := 123) (t := .object "CauseBook$Model") (fs := [.null, .null, .null, .ref (al1 (124)), .int 0]) cb_c1 0 cw_349 (by omega) ha1 c1 (by decide) rfl rfl (by decide +kernel) rfl rfl (Nat.le_of_ble_eq_true rfl) d_Cr_init_15 ?_
  intro E2 H2 locs2 p2 c2 hZ2
  refine lv_aload_n X.1 X.2.1 d_Cr_init_18 rfl (lv_at hl 0 rfl) ?_
  refine lv_aload_n X.1 X.2.1 d_Cr_init_19 rfl (lv_at hl 2 rfl) ?_
  refine kf_R X hZ2 (ci := 1) (c0 := 123) (t := .object "CauseBook$Codes") (fs := [.ref (al 1), .null, .null, .ref (al1 (124)), .int 0]) cb_c1 1 cw_350 (by omega) ha1 c2 (by decide) rfl rfl (by decide +kernel) rfl rfl (Nat.le_of_ble_eq_true rfl) d_Cr_init_20 ?_
  intro E3 H3 locs3 p3 c3 hZ3
  refine lv_aload_n X.1 X.2.1 d_Cr_init_23 rfl (lv_at hl 0 rfl) ?_
  refine lv_aload_n X.1 X.2.1 d_Cr_init_24 rfl (lv_at hl 3 rfl) ?_
  refine kf_R X hZ3 (ci := 1) (c0 := 123) (t := .array (.int)) (fs := [.ref (al 1), .ref (al 111), .null, .ref (al1 (124)), .int 0]) cb_c1 2 cw_351 (by omega) ha1 c3 (by decide) rfl rfl (by decide +kernel) rfl rfl (Nat.le_of_ble_eq_true rfl) d_Cr_init_25 ?_
  intro E4 H4 locs4 p4 c4 hZ4
  refine fin al1 E4 H4 locs4 ls 28 d_Cr_init_28 (fun k hk => ?_) ⟨fun k hk => ?_, fun k hk1 hk2 => ?_⟩ hZ4
  · rw [o1 _ (by omega)]
  · rw [p4 _ (by omega), p3 _ (by omega), p2 _ (by omega), p1 _ (by omega) (by omega)]
  · rcases (show k = 123 ∨ k = 124 by omega) with e0 | e0
    · have r1 : al1 1 = al 1 := by rw [o1 _ (by omega)]
      have r2 : al1 111 = al 111 := by rw [o1 _ (by omega)]
      have r3 : al1 96 = al 96 := by rw [o1 _ (by omega)]
      rw [e0, c4, kzo_123, r1, r2, r3]
      try rfl
    · rw [e0, p4 _ (by omega), p3 _ (by omega), p2 _ (by omega), z1, kz0 (show cb_kd 124 = (0, 240) from rfl) (by omega) (by omega)]
