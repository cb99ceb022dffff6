/-! the reference's constructor (printed by wip/gen/g99l.py) -/
theorem tz_cell (j : Nat) : (if j = (3 : Int32).toNatClampNeg then (1 : Int32) else if j = (2 : Int32).toNatClampNeg then 1 else if j = (1 : Int32).toNatClampNeg then 1 else if j = (0 : Int32).toNatClampNeg then 2 else 0) = Int32.ofInt (tz j) := by
  rw [show (3 : Int32).toNatClampNeg = 3 from rfl, show (2 : Int32).toNatClampNeg = 2 from rfl, show (1 : Int32).toNatClampNeg = 1 from rfl, show (0 : Int32).toNatClampNeg = 0 from rfl]
  by_cases h3 : j = 3
  · rw [h3]; rfl
  · by_cases h2 : j = 2
    · rw [h2]; rfl
    · by_cases h1 : j = 1
      · rw [h1]; rfl
      · by_cases h0 : j = 0
        · rw [h0]; rfl
        · rw [if_neg h3, if_neg h2, if_neg h1, if_neg h0]
          unfold tz
          rw [if_neg (by omega), if_neg (by omega)]
          rfl
set_option maxRecDepth 8000 in
set_option maxHeartbeats 1000000 in
theorem k_RM : Kon Y_RM_init 16 4954 (142) (158) (fun al => [.ref (al (141))]) (fun g al E => E (141) = .inr (11, [.int 0, .int 0, .null, .null, .null, .null, .null, .int 0, .null, .null, .null, .null, .int 0, .null, .null, .int 0, .null, .null, .int 0, .int 0, .int 0, .null, .null, .null, .int 0])) (fun g al E al1 E1 => (∀ k, k < 141 → E1 k = E k) ∧ ∀ k, 141 ≤ k → k < 158 → E1 k = cb_E (kg g al1) mz k) := by
  refine Kon.of (by decide) rfl rfl (fun al => Nat.le_of_ble_eq_true rfl) ?_
  intro p l e R s m args below meth c Q g A al E X hfr hlo hce hsl hE fin H ls hZ hl
  have X : kb_X "CauseBookModel" prog_13_method_1_code 1 p s m meth c g A := X
  have hfr : 1 ≤ R.frames := hfr
  have hlo : 12 ≤ R.locals := hlo
  have hl : lv_has ls 1 [(0, .ref (al (141)))] := hl
  refine lv_aload_n X.1 X.2.1 d_RM_init_0 rfl (lv_at hl 0 rfl) ?_
  refine kb_obj X cw_1055 hl.1 hfr hlo d_RM_init_1 ?_
  refine lv_aload_n X.1 X.2.1 d_RM_init_4 rfl (lv_at hl 0 rfl) ?_
  refine lv_bipush (v := 6) X.1 X.2.1 d_RM_init_5 (by decide) ?_
  refine kf_I X hZ (ci := 11) (c0 := 141) (fs := [.int 0, .int 0, .null, .null, .null, .null, .null, .int 0, .null, .null, .null, .null, .int 0, .null, .null, .int 0, .null, .null, .int 0, .int 0, .int 0, .null, .null, .null, .int 0]) cb_c11 2 6 cw_1058 (by omega) rfl hE (by decide) rfl rfl (by decide +kernel) (Nat.le_of_ble_eq_true rfl) (by decide) (by decide) (Nat.le_of_ble_eq_true rfl) (Nat.le_trans (Nat.le_of_ble_eq_true rfl) hce) (Nat.le_trans (Nat.le_of_ble_eq_true rfl) hsl) d_RM_init_7 d_RM_init_9 ?_
  intro al1 E1 H1 locs1 o1 p1 z1 c1 hZ1
  have ha1 : al1 (141) = al (141) := (o1 _ (by omega)).trans rfl
  refine lv_aload_n X.1 X.2.1 d_RM_init_12 rfl (lv_at hl 0 rfl) ?_
  refine lv_iconst (v := 4) X.1 X.2.1 d_RM_init_13 (by decide) ?_
  refine kf_I X hZ1 (ci := 11) (c0 := 141) (fs := [.int 0, .int 0, .ref (al1 (142)), .null, .null, .null, .null, .int 0, .null, .null, .null, .null, .int 0, .null, .null, .int 0, .null, .null, .int 0, .int 0, .int 0, .null, .null, .null, .int 0]) cb_c11 3 4 cw_1059 (by omega) ha1 c1 (by decide) rfl rfl (by decide +kernel) (Nat.le_of_ble_eq_true rfl) (by decide) (by decide) (Nat.le_of_ble_eq_true rfl) (Nat.le_trans (Nat.le_of_ble_eq_true rfl) hce) (Nat.le_trans (Nat.le_of_ble_eq_true rfl) hsl) d_RM_init_14 d_RM_init_16 ?_
  intro al2 E2 H2 locs2 o2 p2 z2 c2 hZ2
  have ha2 : al2 (141) = al (141) := (o2 _ (by omega)).trans ha1
  refine lv_aload_n X.1 X.2.1 d_RM_init_19 rfl (lv_at hl 0 rfl) ?_
  refine lv_sipush (v := 240) X.1 X.2.1 d_RM_init_20 (by decide) ?_
  refine kf_I X hZ2 (ci := 11) (c0 := 141) (fs := [.int 0, .int 0, .ref (al1 (142)), .ref (al2 (143)), .null, .null, .null, .int 0, .null, .null, .null, .null, .int 0, .null, .null, .int 0, .null, .null, .int 0, .int 0, .int 0, .null, .null, .null, .int 0]) cb_c11 4 240 cw_1060 (by omega) ha2 c2 (by decide) rfl rfl (by decide +kernel) (Nat.le_of_ble_eq_true rfl) (by decide) (by decide) (Nat.le_of_ble_eq_true rfl) (Nat.le_trans (Nat.le_of_ble_eq_true rfl) hce) (Nat.le_trans (Nat.le_of_ble_eq_true rfl) hsl) d_RM_init_23 d_RM_init_25 ?_
  intro al3 E3 H3 locs3 o3 p3 z3 c3 hZ3
  have ha3 : al3 (141) = al (141) := (o3 _ (by omega)).trans ha2
  refine lv_aload_n X.1 X.2.1 d_RM_init_28 rfl (lv_at hl 0 rfl) ?_
  refine lv_sipush (v := 2400) X.1 X.2.1 d_RM_init_29 (by decide) ?_
  refine kf_I X hZ3 (ci := 11) (c0 := 141) (fs := [.int 0, .int 0, .ref (al1 (142)), .ref (al2 (143)), .ref (al3 (144)), .null, .null, .int 0, .null, .null, .null, .null, .int 0, .null, .null, .int 0, .null, .null, .int 0, .int 0, .int 0, .null, .null, .null, .int 0]) cb_c11 5 2400 cw_1061 (by omega) ha3 c3 (by decide) rfl rfl (by decide +kernel) (Nat.le_of_ble_eq_true rfl) (by decide) (by decide) (Nat.le_of_ble_eq_true rfl) (Nat.le_trans (Nat.le_of_ble_eq_true rfl) hce) (Nat.le_trans (Nat.le_of_ble_eq_true rfl) hsl) d_RM_init_32 d_RM_init_34 ?_
  intro al4 E4 H4 locs4 o4 p4 z4 c4 hZ4
  have ha4 : al4 (141) = al (141) := (o4 _ (by omega)).trans ha3
  refine lv_aload_n X.1 X.2.1 d_RM_init_37 rfl (lv_at hl 0 rfl) ?_
  refine lv_bipush (v := 10) X.1 X.2.1 d_RM_init_38 (by decide) ?_
  refine kf_I X hZ4 (ci := 11) (c0 := 141) (fs := [.int 0, .int 0, .ref (al1 (142)), .ref (al2 (143)), .ref (al3 (144)), .ref (al4 (145)), .null, .int 0, .null, .null, .null, .null, .int 0, .null, .null, .int 0, .null, .null, .int 0, .int 0, .int 0, .null, .null, .null, .int 0]) cb_c11 6 10 cw_1062 (by omega) ha4 c4 (by decide) rfl rfl (by decide +kernel) (Nat.le_of_ble_eq_true rfl) (by decide) (by decide) (Nat.le_of_ble_eq_true rfl) (Nat.le_trans (Nat.le_of_ble_eq_true rfl) hce) (Nat.le_trans (Nat.le_of_ble_eq_true rfl) hsl) d_RM_init_40 d_RM_init_42 ?_
  intro al5 E5 H5 locs5 o5 p5 z5 c5 hZ5
  have ha5 : al5 (141) = al (141) := (o5 _ (by omega)).trans ha4
  refine lv_aload_n X.1 X.2.1 d_RM_init_45 rfl (lv_at hl 0 rfl) ?_
  refine lv_sipush (v := 480) X.1 X.2.1 d_RM_init_46 (by decide) ?_
  refine kf_I X hZ5 (ci := 11) (c0 := 141) (fs := [.int 0, .int 0, .ref (al1 (142)), .ref (al2 (143)), .ref (al3 (144)), .ref (al4 (145)), .ref (al5 (146)), .int 0, .null, .null, .null, .null, .int 0, .null, .null, .int 0, .null, .null, .int 0, .int 0, .int 0, .null, .null, .null, .int 0]) cb_c11 8 480 cw_1064 (by omega) ha5 c5 (by decide) rfl rfl (by decide +kernel) (Nat.le_of_ble_eq_true rfl) (by decide) (by decide) (Nat.le_of_ble_eq_true rfl) (Nat.le_trans (Nat.le_of_ble_eq_true rfl) hce) (Nat.le_trans (Nat.le_of_ble_eq_true rfl) hsl) d_RM_init_49 d_RM_init_51 ?_
  intro al6 E6 H6 locs6 o6 p6 z6 c6 hZ6
  have ha6 : al6 (141) = al (141) := (o6 _ (by omega)).trans ha5
  refine lv_aload_n X.1 X.2.1 d_RM_init_54 rfl (lv_at hl 0 rfl) ?_
  refine lv_iconst (v := 2) X.1 X.2.1 d_RM_init_55 (by decide) ?_
  refine kf_Z X hZ6 (ci := 11) (c0 := 141) (fs := [.int 0, .int 0, .ref (al1 (142)), .ref (al2 (143)), .ref (al3 (144)), .ref (al4 (145)), .ref (al5 (146)), .int 0, .ref (al6 (147)), .null, .null, .null, .int 0, .null, .null, .int 0, .null, .null, .int 0, .int 0, .int 0, .null, .null, .null, .int 0]) cb_c11 9 2 cw_1065 (by omega) ha6 c6 (by decide) rfl rfl (by decide +kernel) (Nat.le_of_ble_eq_true rfl) (by decide) (by decide) (Nat.le_of_ble_eq_true rfl) (Nat.le_trans (Nat.le_of_ble_eq_true rfl) hce) (Nat.le_trans (Nat.le_of_ble_eq_true rfl) hsl) d_RM_init_56 d_RM_init_58 ?_
  intro al7 E7 H7 locs7 o7 p7 z7 c7 hZ7
  have ha7 : al7 (141) = al (141) := (o7 _ (by omega)).trans ha6
  refine lv_aload_n X.1 X.2.1 d_RM_init_61 rfl (lv_at hl 0 rfl) ?_
  refine lv_bipush (v := 12) X.1 X.2.1 d_RM_init_62 (by decide) ?_
  refine kf_I X hZ7 (ci := 11) (c0 := 141) (fs := [.int 0, .int 0, .ref (al1 (142)), .ref (al2 (143)), .ref (al3 (144)), .ref (al4 (145)), .ref (al5 (146)), .int 0, .ref (al6 (147)), .ref (al7 (148)), .null, .null, .int 0, .null, .null, .int 0, .null, .null, .int 0, .int 0, .int 0, .null, .null, .null, .int 0]) cb_c11 10 12 cw_1066 (by omega) ha7 c7 (by decide) rfl rfl (by decide +kernel) (Nat.le_of_ble_eq_true rfl) (by decide) (by decide) (Nat.le_of_ble_eq_true rfl) (Nat.le_trans (Nat.le_of_ble_eq_true rfl) hce) (Nat.le_trans (Nat.le_of_ble_eq_true rfl) hsl) d_RM_init_64 d_RM_init_66 ?_
  intro al8 E8 H8 locs8 o8 p8 z8 c8 hZ8
  have ha8 : al8 (141) = al (141) := (o8 _ (by omega)).trans ha7
  refine lv_aload_n X.1 X.2.1 d_RM_init_69 rfl (lv_at hl 0 rfl) ?_
  refine lv_bipush (v := 12) X.1 X.2.1 d_RM_init_70 (by decide) ?_
  refine kf_I X hZ8 (ci := 11) (c0 := 141) (fs := [.int 0, .int 0, .ref (al1 (142)), .ref (al2 (143)), .ref (al3 (144)), .ref (al4 (145)), .ref (al5 (146)), .int 0, .ref (al6 (147)), .ref (al7 (148)), .ref (al8 (149)), .null, .int 0, .null, .null, .int 0, .null, .null, .int 0, .int 0, .int 0, .null, .null, .null, .int 0]) cb_c11 11 12 cw_1067 (by omega) ha8 c8 (by decide) rfl rfl (by decide +kernel) (Nat.le_of_ble_eq_true rfl) (by decide) (by decide) (Nat.le_of_ble_eq_true rfl) (Nat.le_trans (Nat.le_of_ble_eq_true rfl) hce) (Nat.le_trans (Nat.le_of_ble_eq_true rfl) hsl) d_RM_init_72 d_RM_init_74 ?_
  intro al9 E9 H9 locs9 o9 p9 z9 c9 hZ9
  have ha9 : al9 (141) = al (141) := (o9 _ (by omega)).trans ha8
  refine lv_aload_n X.1 X.2.1 d_RM_init_77 rfl (lv_at hl 0 rfl) ?_
  refine lv_bipush (v := 12) X.1 X.2.1 d_RM_init_78 (by decide) ?_
  refine kf_I X hZ9 (ci := 11) (c0 := 141) (fs := [.int 0, .int 0, .ref (al1 (142)), .ref (al2 (143)), .ref (al3 (144)), .ref (al4 (145)), .ref (al5 (146)), .int 0, .ref (al6 (147)), .ref (al7 (148)), .ref (al8 (149)), .ref (al9 (150)), .int 0, .null, .null, .int 0, .null, .null, .int 0, .int 0, .int 0, .null, .null, .null, .int 0]) cb_c11 13 12 cw_1069 (by omega) ha9 c9 (by decide) rfl rfl (by decide +kernel) (Nat.le_of_ble_eq_true rfl) (by decide) (by decide) (Nat.le_of_ble_eq_true rfl) (Nat.le_trans (Nat.le_of_ble_eq_true rfl) hce) (Nat.le_trans (Nat.le_of_ble_eq_true rfl) hsl) d_RM_init_80 d_RM_init_82 ?_
  intro al10 E10 H10 locs10 o10 p10 z10 c10 hZ10
  have ha10 : al10 (141) = al (141) := (o10 _ (by omega)).trans ha9
  refine lv_aload_n X.1 X.2.1 d_RM_init_85 rfl (lv_at hl 0 rfl) ?_
  refine lv_bipush (v := 12) X.1 X.2.1 d_RM_init_86 (by decide) ?_
  refine kf_I X hZ10 (ci := 11) (c0 := 141) (fs := [.int 0, .int 0, .ref (al1 (142)), .ref (al2 (143)), .ref (al3 (144)), .ref (al4 (145)), .ref (al5 (146)), .int 0, .ref (al6 (147)), .ref (al7 (148)), .ref (al8 (149)), .ref (al9 (150)), .int 0, .ref (al10 (151)), .null, .int 0, .null, .null, .int 0, .int 0, .int 0, .null, .null, .null, .int 0]) cb_c11 14 12 cw_1070 (by omega) ha10 c10 (by decide) rfl rfl (by decide +kernel) (Nat.le_of_ble_eq_true rfl) (by decide) (by decide) (Nat.le_of_ble_eq_true rfl) (Nat.le_trans (Nat.le_of_ble_eq_true rfl) hce) (Nat.le_trans (Nat.le_of_ble_eq_true rfl) hsl) d_RM_init_88 d_RM_init_90 ?_
  intro al11 E11 H11 locs11 o11 p11 z11 c11 hZ11
  have ha11 : al11 (141) = al (141) := (o11 _ (by omega)).trans ha10
  refine lv_aload_n X.1 X.2.1 d_RM_init_93 rfl (lv_at hl 0 rfl) ?_
  refine lv_bipush (v := 80) X.1 X.2.1 d_RM_init_94 (by decide) ?_
  refine kf_I X hZ11 (ci := 11) (c0 := 141) (fs := [.int 0, .int 0, .ref (al1 (142)), .ref (al2 (143)), .ref (al3 (144)), .ref (al4 (145)), .ref (al5 (146)), .int 0, .ref (al6 (147)), .ref (al7 (148)), .ref (al8 (149)), .ref (al9 (150)), .int 0, .ref (al10 (151)), .ref (al11 (152)), .int 0, .null, .null, .int 0, .int 0, .int 0, .null, .null, .null, .int 0]) cb_c11 16 80 cw_1072 (by omega) ha11 c11 (by decide) rfl rfl (by decide +kernel) (Nat.le_of_ble_eq_true rfl) (by decide) (by decide) (Nat.le_of_ble_eq_true rfl) (Nat.le_trans (Nat.le_of_ble_eq_true rfl) hce) (Nat.le_trans (Nat.le_of_ble_eq_true rfl) hsl) d_RM_init_96 d_RM_init_98 ?_
  intro al12 E12 H12 locs12 o12 p12 z12 c12 hZ12
  have ha12 : al12 (141) = al (141) := (o12 _ (by omega)).trans ha11
  refine lv_aload_n X.1 X.2.1 d_RM_init_101 rfl (lv_at hl 0 rfl) ?_
  refine lv_bipush (v := 12) X.1 X.2.1 d_RM_init_102 (by decide) ?_
  refine kf_I X hZ12 (ci := 11) (c0 := 141) (fs := [.int 0, .int 0, .ref (al1 (142)), .ref (al2 (143)), .ref (al3 (144)), .ref (al4 (145)), .ref (al5 (146)), .int 0, .ref (al6 (147)), .ref (al7 (148)), .ref (al8 (149)), .ref (al9 (150)), .int 0, .ref (al10 (151)), .ref (al11 (152)), .int 0, .ref (al12 (153)), .null, .int 0, .int 0, .int 0, .null, .null, .null, .int 0]) cb_c11 17 12 cw_1073 (by omega) ha12 c12 (by decide) rfl rfl (by decide +kernel) (Nat.le_of_ble_eq_true rfl) (by decide) (by decide) (Nat.le_of_ble_eq_true rfl) (Nat.le_trans (Nat.le_of_ble_eq_true rfl) hce) (Nat.le_trans (Nat.le_of_ble_eq_true rfl) hsl) d_RM_init_104 d_RM_init_106 ?_
  intro al13 E13 H13 locs13 o13 p13 z13 c13 hZ13
  have ha13 : al13 (141) = al (141) := (o13 _ (by omega)).trans ha12
  refine lv_aload_n X.1 X.2.1 d_RM_init_109 rfl (lv_at hl 0 rfl) ?_
  refine lv_bipush (v := 12) X.1 X.2.1 d_RM_init_110 (by decide) ?_
  refine kf_I X hZ13 (ci := 11) (c0 := 141) (fs := [.int 0, .int 0, .ref (al1 (142)), .ref (al2 (143)), .ref (al3 (144)), .ref (al4 (145)), .ref (al5 (146)), .int 0, .ref (al6 (147)), .ref (al7 (148)), .ref (al8 (149)), .ref (al9 (150)), .int 0, .ref (al10 (151)), .ref (al11 (152)), .int 0, .ref (al12 (153)), .ref (al13 (154)), .int 0, .int 0, .int 0, .null, .null, .null, .int 0]) cb_c11 21 12 cw_1077 (by omega) ha13 c13 (by decide) rfl rfl (by decide +kernel) (Nat.le_of_ble_eq_true rfl) (by decide) (by decide) (Nat.le_of_ble_eq_true rfl) (Nat.le_trans (Nat.le_of_ble_eq_true rfl) hce) (Nat.le_trans (Nat.le_of_ble_eq_true rfl) hsl) d_RM_init_112 d_RM_init_114 ?_
  intro al14 E14 H14 locs14 o14 p14 z14 c14 hZ14
  have ha14 : al14 (141) = al (141) := (o14 _ (by omega)).trans ha13
  refine lv_aload_n X.1 X.2.1 d_RM_init_117 rfl (lv_at hl 0 rfl) ?_
  refine lv_bipush (v := 60) X.1 X.2.1 d_RM_init_118 (by decide) ?_
  refine kf_I X hZ14 (ci := 11) (c0 := 141) (fs := [.int 0, .int 0, .ref (al1 (142)), .ref (al2 (143)), .ref (al3 (144)), .ref (al4 (145)), .ref (al5 (146)), .int 0, .ref (al6 (147)), .ref (al7 (148)), .ref (al8 (149)), .ref (al9 (150)), .int 0, .ref (al10 (151)), .ref (al11 (152)), .int 0, .ref (al12 (153)), .ref (al13 (154)), .int 0, .int 0, .int 0, .ref (al14 (155)), .null, .null, .int 0]) cb_c11 22 60 cw_1078 (by omega) ha14 c14 (by decide) rfl rfl (by decide +kernel) (Nat.le_of_ble_eq_true rfl) (by decide) (by decide) (Nat.le_of_ble_eq_true rfl) (Nat.le_trans (Nat.le_of_ble_eq_true rfl) hce) (Nat.le_trans (Nat.le_of_ble_eq_true rfl) hsl) d_RM_init_120 d_RM_init_122 ?_
  intro al15 E15 H15 locs15 o15 p15 z15 c15 hZ15
  have ha15 : al15 (141) = al (141) := (o15 _ (by omega)).trans ha14
  refine lv_aload_n X.1 X.2.1 d_RM_init_125 rfl (lv_at hl 0 rfl) ?_
  refine lv_sipush (v := 1600) X.1 X.2.1 d_RM_init_126 (by decide) ?_
  refine kf_I X hZ15 (ci := 11) (c0 := 141) (fs := [.int 0, .int 0, .ref (al1 (142)), .ref (al2 (143)), .ref (al3 (144)), .ref (al4 (145)), .ref (al5 (146)), .int 0, .ref (al6 (147)), .ref (al7 (148)), .ref (al8 (149)), .ref (al9 (150)), .int 0, .ref (al10 (151)), .ref (al11 (152)), .int 0, .ref (al12 (153)), .ref (al13 (154)), .int 0, .int 0, .int 0, .ref (al14 (155)), .ref (al15 (156)), .null, .int 0]) cb_c11 23 1600 cw_1079 (by omega) ha15 c15 (by decide) rfl rfl (by decide +kernel) (Nat.le_of_ble_eq_true rfl) (by decide) (by decide) (Nat.le_of_ble_eq_true rfl) (Nat.le_trans (Nat.le_of_ble_eq_true rfl) hce) (Nat.le_trans (Nat.le_of_ble_eq_true rfl) hsl) d_RM_init_129 d_RM_init_131 ?_
  intro al16 E16 H16 locs16 o16 p16 z16 c16 hZ16
  have ha16 : al16 (141) = al (141) := (o16 _ (by omega)).trans ha15
  refine lv_aload_n X.1 X.2.1 d_RM_init_134 rfl (lv_at hl 0 rfl) ?_
  refine kf_get X hZ16 (ci := 11) (c0 := 141) (fs := [.int 0, .int 0, .ref (al1 (142)), .ref (al2 (143)), .ref (al3 (144)), .ref (al4 (145)), .ref (al5 (146)), .int 0, .ref (al6 (147)), .ref (al7 (148)), .ref (al8 (149)), .ref (al9 (150)), .int 0, .ref (al10 (151)), .ref (al11 (152)), .int 0, .ref (al12 (153)), .ref (al13 (154)), .int 0, .int 0, .int 0, .ref (al14 (155)), .ref (al15 (156)), .ref (al16 (157)), .int 0]) (v := .ref (al2 (143))) cb_c11 3 cw_1059 (by omega) ha16 c16 (by decide) rfl d_RM_init_135 ?_
  refine lv_iconst (v := 0) X.1 X.2.1 d_RM_init_138 (by decide) ?_
  refine lv_iconst (v := 2) X.1 X.2.1 d_RM_init_139 (by decide) ?_
  have t0 : E16 143 = .inl (g.2.1.1, 4, .inl (fun _ => 0)) := by rw [p16 _ (by omega) (by omega), p15 _ (by omega) (by omega), p14 _ (by omega) (by omega), p13 _ (by omega) (by omega), p12 _ (by omega) (by omega), p11 _ (by omega) (by omega), p10 _ (by omega) (by omega), p9 _ (by omega) (by omega), p8 _ (by omega) (by omega), p7 _ (by omega) (by omega), p6 _ (by omega) (by omega), p5 _ (by omega) (by omega), p4 _ (by omega) (by omega), p3 _ (by omega) (by omega), z2]
  have r0 : al16 143 = al2 143 := by rw [o16 _ (by omega), o15 _ (by omega), o14 _ (by omega), o13 _ (by omega), o12 _ (by omega), o11 _ (by omega), o10 _ (by omega), o9 _ (by omega), o8 _ (by omega), o7 _ (by omega), o6 _ (by omega), o5 _ (by omega), o4 _ (by omega), o3 _ (by omega)]
  refine kf_iast X hZ16 (c0 := 143) (N := 4) (f := (fun _ => 0)) (by omega) r0 t0 (by rw [vp_in_iff]; decide) d_RM_init_140 ?_
  intro E17 H17 locs17 f17 p17 t17 g17 hZ17
  have c17 : E17 (141) = .inr (11, [.int 0, .int 0, .ref (al1 (142)), .ref (al2 (143)), .ref (al3 (144)), .ref (al4 (145)), .ref (al5 (146)), .int 0, .ref (al6 (147)), .ref (al7 (148)), .ref (al8 (149)), .ref (al9 (150)), .int 0, .ref (al10 (151)), .ref (al11 (152)), .int 0, .ref (al12 (153)), .ref (al13 (154)), .int 0, .int 0, .int 0, .ref (al14 (155)), .ref (al15 (156)), .ref (al16 (157)), .int 0]) := by rw [p17 _ (by omega)]; exact c16
  refine lv_aload_n X.1 X.2.1 d_RM_init_141 rfl (lv_at hl 0 rfl) ?_
  refine kf_get X hZ17 (ci := 11) (c0 := 141) (fs := [.int 0, .int 0, .ref (al1 (142)), .ref (al2 (143)), .ref (al3 (144)), .ref (al4 (145)), .ref (al5 (146)), .int 0, .ref (al6 (147)), .ref (al7 (148)), .ref (al8 (149)), .ref (al9 (150)), .int 0, .ref (al10 (151)), .ref (al11 (152)), .int 0, .ref (al12 (153)), .ref (al13 (154)), .int 0, .int 0, .int 0, .ref (al14 (155)), .ref (al15 (156)), .ref (al16 (157)), .int 0]) (v := .ref (al2 (143))) cb_c11 3 cw_1059 (by omega) ha16 c17 (by decide) rfl d_RM_init_142 ?_
  refine lv_iconst (v := 1) X.1 X.2.1 d_RM_init_145 (by decide) ?_
  refine lv_iconst (v := 1) X.1 X.2.1 d_RM_init_146 (by decide) ?_
  refine kf_iast X hZ17 (c0 := 143) (N := 4) (f := f17) (by omega) r0 t17 (by rw [vp_in_iff]; decide) d_RM_init_147 ?_
  intro E18 H18 locs18 f18 p18 t18 g18 hZ18
  have c18 : E18 (141) = .inr (11, [.int 0, .int 0, .ref (al1 (142)), .ref (al2 (143)), .ref (al3 (144)), .ref (al4 (145)), .ref (al5 (146)), .int 0, .ref (al6 (147)), .ref (al7 (148)), .ref (al8 (149)), .ref (al9 (150)), .int 0, .ref (al10 (151)), .ref (al11 (152)), .int 0, .ref (al12 (153)), .ref (al13 (154)), .int 0, .int 0, .int 0, .ref (al14 (155)), .ref (al15 (156)), .ref (al16 (157)), .int 0]) := by rw [p18 _ (by omega)]; exact c17
  refine lv_aload_n X.1 X.2.1 d_RM_init_148 rfl (lv_at hl 0 rfl) ?_
  refine kf_get X hZ18 (ci := 11) (c0 := 141) (fs := [.int 0, .int 0, .ref (al1 (142)), .ref (al2 (143)), .ref (al3 (144)), .ref (al4 (145)), .ref (al5 (146)), .int 0, .ref (al6 (147)), .ref (al7 (148)), .ref (al8 (149)), .ref (al9 (150)), .int 0, .ref (al10 (151)), .ref (al11 (152)), .int 0, .ref (al12 (153)), .ref (al13 (154)), .int 0, .int 0, .int 0, .ref (al14 (155)), .ref (al15 (156)), .ref (al16 (157)), .int 0]) (v := .ref (al2 (143))) cb_c11 3 cw_1059 (by omega) ha16 c18 (by decide) rfl d_RM_init_149 ?_
  refine lv_iconst (v := 2) X.1 X.2.1 d_RM_init_152 (by decide) ?_
  refine lv_iconst (v := 1) X.1 X.2.1 d_RM_init_153 (by decide) ?_
  refine kf_iast X hZ18 (c0 := 143) (N := 4) (f := f18) (by omega) r0 t18 (by rw [vp_in_iff]; decide) d_RM_init_154 ?_
  intro E19 H19 locs19 f19 p19 t19 g19 hZ19
  have c19 : E19 (141) = .inr (11, [.int 0, .int 0, .ref (al1 (142)), .ref (al2 (143)), .ref (al3 (144)), .ref (al4 (145)), .ref (al5 (146)), .int 0, .ref (al6 (147)), .ref (al7 (148)), .ref (al8 (149)), .ref (al9 (150)), .int 0, .ref (al10 (151)), .ref (al11 (152)), .int 0, .ref (al12 (153)), .ref (al13 (154)), .int 0, .int 0, .int 0, .ref (al14 (155)), .ref (al15 (156)), .ref (al16 (157)), .int 0]) := by rw [p19 _ (by omega)]; exact c18
  refine lv_aload_n X.1 X.2.1 d_RM_init_155 rfl (lv_at hl 0 rfl) ?_
  refine kf_get X hZ19 (ci := 11) (c0 := 141) (fs := [.int 0, .int 0, .ref (al1 (142)), .ref (al2 (143)), .ref (al3 (144)), .ref (al4 (145)), .ref (al5 (146)), .int 0, .ref (al6 (147)), .ref (al7 (148)), .ref (al8 (149)), .ref (al9 (150)), .int 0, .ref (al10 (151)), .ref (al11 (152)), .int 0, .ref (al12 (153)), .ref (al13 (154)), .int 0, .int 0, .int 0, .ref (al14 (155)), .ref (al15 (156)), .ref (al16 (157)), .int 0]) (v := .ref (al2 (143))) cb_c11 3 cw_1059 (by omega) ha16 c19 (by decide) rfl d_RM_init_156 ?_
  refine lv_iconst (v := 3) X.1 X.2.1 d_RM_init_159 (by decide) ?_
  refine lv_iconst (v := 1) X.1 X.2.1 d_RM_init_160 (by decide) ?_
  refine kf_iast X hZ19 (c0 := 143) (N := 4) (f := f19) (by omega) r0 t19 (by rw [vp_in_iff]; decide) d_RM_init_161 ?_
  intro E20 H20 locs20 f20 p20 t20 g20 hZ20
  have c20 : E20 (141) = .inr (11, [.int 0, .int 0, .ref (al1 (142)), .ref (al2 (143)), .ref (al3 (144)), .ref (al4 (145)), .ref (al5 (146)), .int 0, .ref (al6 (147)), .ref (al7 (148)), .ref (al8 (149)), .ref (al9 (150)), .int 0, .ref (al10 (151)), .ref (al11 (152)), .int 0, .ref (al12 (153)), .ref (al13 (154)), .int 0, .int 0, .int 0, .ref (al14 (155)), .ref (al15 (156)), .ref (al16 (157)), .int 0]) := by rw [p20 _ (by omega)]; exact c19
  refine fin al16 E20 H20 locs20 ls 162 d_RM_init_162 (fun k hk => ?_) ⟨fun k hk => ?_, fun k hk1 hk2 => ?_⟩ hZ20
  · rw [o16 _ (by omega), o15 _ (by omega), o14 _ (by omega), o13 _ (by omega), o12 _ (by omega), o11 _ (by omega), o10 _ (by omega), o9 _ (by omega), o8 _ (by omega), o7 _ (by omega), o6 _ (by omega), o5 _ (by omega), o4 _ (by omega), o3 _ (by omega), o2 _ (by omega), o1 _ (by omega)]
  · rw [p20 _ (by omega), p19 _ (by omega), p18 _ (by omega), p17 _ (by omega), p16 _ (by omega) (by omega), p15 _ (by omega) (by omega), p14 _ (by omega) (by omega), p13 _ (by omega) (by omega), p12 _ (by omega) (by omega), p11 _ (by omega) (by omega), p10 _ (by omega) (by omega), p9 _ (by omega) (by omega), p8 _ (by omega) (by omega), p7 _ (by omega) (by omega), p6 _ (by omega) (by omega), p5 _ (by omega) (by omega), p4 _ (by omega) (by omega), p3 _ (by omega) (by omega), p2 _ (by omega) (by omega), p1 _ (by omega) (by omega)]
  · rcases (show k = 141 ∨ k = 142 ∨ k = 143 ∨ k = 144 ∨ k = 145 ∨ k = 146 ∨ k = 147 ∨ k = 148 ∨ k = 149 ∨ k = 150 ∨ k = 151 ∨ k = 152 ∨ k = 153 ∨ k = 154 ∨ k = 155 ∨ k = 156 ∨ k = 157 by omega) with e0 | e0 | e0 | e0 | e0 | e0 | e0 | e0 | e0 | e0 | e0 | e0 | e0 | e0 | e0 | e0 | e0
    · have r1 : al16 (142) = al1 (142) := by rw [o16 _ (by omega), o15 _ (by omega), o14 _ (by omega), o13 _ (by omega), o12 _ (by omega), o11 _ (by omega), o10 _ (by omega), o9 _ (by omega), o8 _ (by omega), o7 _ (by omega), o6 _ (by omega), o5 _ (by omega), o4 _ (by omega), o3 _ (by omega), o2 _ (by omega)]
      have r2 : al16 (143) = al2 (143) := by rw [o16 _ (by omega), o15 _ (by omega), o14 _ (by omega), o13 _ (by omega), o12 _ (by omega), o11 _ (by omega), o10 _ (by omega), o9 _ (by omega), o8 _ (by omega), o7 _ (by omega), o6 _ (by omega), o5 _ (by omega), o4 _ (by omega), o3 _ (by omega)]
      have r3 : al16 (144) = al3 (144) := by rw [o16 _ (by omega), o15 _ (by omega), o14 _ (by omega), o13 _ (by omega), o12 _ (by omega), o11 _ (by omega), o10 _ (by omega), o9 _ (by omega), o8 _ (by omega), o7 _ (by omega), o6 _ (by omega), o5 _ (by omega), o4 _ (by omega)]
      have r4 : al16 (145) = al4 (145) := by rw [o16 _ (by omega), o15 _ (by omega), o14 _ (by omega), o13 _ (by omega), o12 _ (by omega), o11 _ (by omega), o10 _ (by omega), o9 _ (by omega), o8 _ (by omega), o7 _ (by omega), o6 _ (by omega), o5 _ (by omega)]
      have r5 : al16 (146) = al5 (146) := by rw [o16 _ (by omega), o15 _ (by omega), o14 _ (by omega), o13 _ (by omega), o12 _ (by omega), o11 _ (by omega), o10 _ (by omega), o9 _ (by omega), o8 _ (by omega), o7 _ (by omega), o6 _ (by omega)]
      have r6 : al16 (147) = al6 (147) := by rw [o16 _ (by omega), o15 _ (by omega), o14 _ (by omega), o13 _ (by omega), o12 _ (by omega), o11 _ (by omega), o10 _ (by omega), o9 _ (by omega), o8 _ (by omega), o7 _ (by omega)]
      have r7 : al16 (148) = al7 (148) := by rw [o16 _ (by omega), o15 _ (by omega), o14 _ (by omega), o13 _ (by omega), o12 _ (by omega), o11 _ (by omega), o10 _ (by omega), o9 _ (by omega), o8 _ (by omega)]
      have r8 : al16 (149) = al8 (149) := by rw [o16 _ (by omega), o15 _ (by omega), o14 _ (by omega), o13 _ (by omega), o12 _ (by omega), o11 _ (by omega), o10 _ (by omega), o9 _ (by omega)]
      have r9 : al16 (150) = al9 (150) := by rw [o16 _ (by omega), o15 _ (by omega), o14 _ (by omega), o13 _ (by omega), o12 _ (by omega), o11 _ (by omega), o10 _ (by omega)]
      have r10 : al16 (151) = al10 (151) := by rw [o16 _ (by omega), o15 _ (by omega), o14 _ (by omega), o13 _ (by omega), o12 _ (by omega), o11 _ (by omega)]
      have r11 : al16 (152) = al11 (152) := by rw [o16 _ (by omega), o15 _ (by omega), o14 _ (by omega), o13 _ (by omega), o12 _ (by omega)]
      have r12 : al16 (153) = al12 (153) := by rw [o16 _ (by omega), o15 _ (by omega), o14 _ (by omega), o13 _ (by omega)]
      have r13 : al16 (154) = al13 (154) := by rw [o16 _ (by omega), o15 _ (by omega), o14 _ (by omega)]
      have r14 : al16 (155) = al14 (155) := by rw [o16 _ (by omega), o15 _ (by omega)]
      have r15 : al16 (156) = al15 (156) := by rw [o16 _ (by omega)]
      rw [e0, c20, kzo_141, r1, r2, r3, r4, r5, r6, r7, r8, r9, r10, r11, r12, r13, r14, r15]
      try rfl
    · rw [e0, p20 _ (by omega), p19 _ (by omega), p18 _ (by omega), p17 _ (by omega), p16 _ (by omega) (by omega), p15 _ (by omega) (by omega), p14 _ (by omega) (by omega), p13 _ (by omega) (by omega), p12 _ (by omega) (by omega), p11 _ (by omega) (by omega), p10 _ (by omega) (by omega), p9 _ (by omega) (by omega), p8 _ (by omega) (by omega), p7 _ (by omega) (by omega), p6 _ (by omega) (by omega), p5 _ (by omega) (by omega), p4 _ (by omega) (by omega), p3 _ (by omega) (by omega), p2 _ (by omega) (by omega), z1, kz0 (show cb_kd 142 = (0, 6) from rfl) (by omega) (by omega)]
    · rw [e0, t20, cb_E0 (show cb_kd 143 = (0, 4) from rfl)]
      have e : f20 = fun j : Nat => Int32.ofInt (mz.1 143 j) := by
        funext j
        have em : mz.1 143 (j : Int) = tz j := (if_pos (Or.inr rfl) : (if (143 : Nat) = 96 ∨ (143 : Nat) = 143 then tz (j : Int) else 0) = tz j)
        rw [g20 j, g19 j, g18 j, g17 j, em]
        exact tz_cell j
      rw [e]
      try rfl
    · rw [e0, p20 _ (by omega), p19 _ (by omega), p18 _ (by omega), p17 _ (by omega), p16 _ (by omega) (by omega), p15 _ (by omega) (by omega), p14 _ (by omega) (by omega), p13 _ (by omega) (by omega), p12 _ (by omega) (by omega), p11 _ (by omega) (by omega), p10 _ (by omega) (by omega), p9 _ (by omega) (by omega), p8 _ (by omega) (by omega), p7 _ (by omega) (by omega), p6 _ (by omega) (by omega), p5 _ (by omega) (by omega), p4 _ (by omega) (by omega), z3, kz0 (show cb_kd 144 = (0, 240) from rfl) (by omega) (by omega)]
    · rw [e0, p20 _ (by omega), p19 _ (by omega), p18 _ (by omega), p17 _ (by omega), p16 _ (by omega) (by omega), p15 _ (by omega) (by omega), p14 _ (by omega) (by omega), p13 _ (by omega) (by omega), p12 _ (by omega) (by omega), p11 _ (by omega) (by omega), p10 _ (by omega) (by omega), p9 _ (by omega) (by omega), p8 _ (by omega) (by omega), p7 _ (by omega) (by omega), p6 _ (by omega) (by omega), p5 _ (by omega) (by omega), z4, kz0 (show cb_kd 145 = (0, 2400) from rfl) (by omega) (by omega)]
    · rw [e0, p20 _ (by omega), p19 _ (by omega), p18 _ (by omega), p17 _ (by omega), p16 _ (by omega) (by omega), p15 _ (by omega) (by omega), p14 _ (by omega) (by omega), p13 _ (by omega) (by omega), p12 _ (by omega) (by omega), p11 _ (by omega) (by omega), p10 _ (by omega) (by omega), p9 _ (by omega) (by omega), p8 _ (by omega) (by omega), p7 _ (by omega) (by omega), p6 _ (by omega) (by omega), z5, kz0 (show cb_kd 146 = (0, 10) from rfl) (by omega) (by omega)]
    · rw [e0, p20 _ (by omega), p19 _ (by omega), p18 _ (by omega), p17 _ (by omega), p16 _ (by omega) (by omega), p15 _ (by omega) (by omega), p14 _ (by omega) (by omega), p13 _ (by omega) (by omega), p12 _ (by omega) (by omega), p11 _ (by omega) (by omega), p10 _ (by omega) (by omega), p9 _ (by omega) (by omega), p8 _ (by omega) (by omega), p7 _ (by omega) (by omega), z6, kz0 (show cb_kd 147 = (0, 480) from rfl) (by omega) (by omega)]
    · rw [e0, p20 _ (by omega), p19 _ (by omega), p18 _ (by omega), p17 _ (by omega), p16 _ (by omega) (by omega), p15 _ (by omega) (by omega), p14 _ (by omega) (by omega), p13 _ (by omega) (by omega), p12 _ (by omega) (by omega), p11 _ (by omega) (by omega), p10 _ (by omega) (by omega), p9 _ (by omega) (by omega), p8 _ (by omega) (by omega), z7, kz1 (show cb_kd 148 = (1, 2) from rfl) (by omega) (by omega)]
    · rw [e0, p20 _ (by omega), p19 _ (by omega), p18 _ (by omega), p17 _ (by omega), p16 _ (by omega) (by omega), p15 _ (by omega) (by omega), p14 _ (by omega) (by omega), p13 _ (by omega) (by omega), p12 _ (by omega) (by omega), p11 _ (by omega) (by omega), p10 _ (by omega) (by omega), p9 _ (by omega) (by omega), z8, kz0 (show cb_kd 149 = (0, 12) from rfl) (by omega) (by omega)]
    · rw [e0, p20 _ (by omega), p19 _ (by omega), p18 _ (by omega), p17 _ (by omega), p16 _ (by omega) (by omega), p15 _ (by omega) (by omega), p14 _ (by omega) (by omega), p13 _ (by omega) (by omega), p12 _ (by omega) (by omega), p11 _ (by omega) (by omega), p10 _ (by omega) (by omega), z9, kz0 (show cb_kd 150 = (0, 12) from rfl) (by omega) (by omega)]
    · rw [e0, p20 _ (by omega), p19 _ (by omega), p18 _ (by omega), p17 _ (by omega), p16 _ (by omega) (by omega), p15 _ (by omega) (by omega), p14 _ (by omega) (by omega), p13 _ (by omega) (by omega), p12 _ (by omega) (by omega), p11 _ (by omega) (by omega), z10, kz0 (show cb_kd 151 = (0, 12) from rfl) (by omega) (by omega)]
    · rw [e0, p20 _ (by omega), p19 _ (by omega), p18 _ (by omega), p17 _ (by omega), p16 _ (by omega) (by omega), p15 _ (by omega) (by omega), p14 _ (by omega) (by omega), p13 _ (by omega) (by omega), p12 _ (by omega) (by omega), z11, kz0 (show cb_kd 152 = (0, 12) from rfl) (by omega) (by omega)]
    · rw [e0, p20 _ (by omega), p19 _ (by omega), p18 _ (by omega), p17 _ (by omega), p16 _ (by omega) (by omega), p15 _ (by omega) (by omega), p14 _ (by omega) (by omega), p13 _ (by omega) (by omega), z12, kz0 (show cb_kd 153 = (0, 80) from rfl) (by omega) (by omega)]
    · rw [e0, p20 _ (by omega), p19 _ (by omega), p18 _ (by omega), p17 _ (by omega), p16 _ (by omega) (by omega), p15 _ (by omega) (by omega), p14 _ (by omega) (by omega), z13, kz0 (show cb_kd 154 = (0, 12) from rfl) (by omega) (by omega)]
    · rw [e0, p20 _ (by omega), p19 _ (by omega), p18 _ (by omega), p17 _ (by omega), p16 _ (by omega) (by omega), p15 _ (by omega) (by omega), z14, kz0 (show cb_kd 155 = (0, 12) from rfl) (by omega) (by omega)]
    · rw [e0, p20 _ (by omega), p19 _ (by omega), p18 _ (by omega), p17 _ (by omega), p16 _ (by omega) (by omega), z15, kz0 (show cb_kd 156 = (0, 60) from rfl) (by omega) (by omega)]
    · rw [e0, p20 _ (by omega), p19 _ (by omega), p18 _ (by omega), p17 _ (by omega), z16, kz0 (show cb_kd 157 = (0, 1600) from rfl) (by omega) (by omega)]
