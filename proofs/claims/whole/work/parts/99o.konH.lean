/-! History(): a row of ten Models -/
theorem rmx_h : ∀ k, k < 92 → 12 ≤ k → cb_rmx k < 12 + 8 * ((k - 12) / 8 + 1) := by decide +kernel
set_option maxRecDepth 8000 in
set_option maxHeartbeats 1000000 in
theorem k_Hi : Kon Y_Hi_init 82 2490 10 92 (fun al => [.ref (al 9)]) (fun g al E => E 9 = .inr (4, [.null, .null, .int 0, .int 0])) (fun g al E al1 E1 => (∀ k, k < 9 → E1 k = E k) ∧ ∀ k, 9 ≤ k → k < 92 → E1 k = cb_E (kg g al1) mz k) := by
  refine Kon.of (by decide) rfl rfl (fun al => Nat.le_of_ble_eq_true rfl) ?_
  intro p l e R s m args below meth c Q g A al E X hfr hlo hce hsl hE fin H ls hZ hl
  have X : kb_X "CauseBook$History" prog_6_method_1_code 2 p s m meth c g A := X
  have hfr : 2 ≤ R.frames := hfr
  have hlo : 40 ≤ R.locals := hlo
  have hl : lv_has ls 2 [(0, .ref (al 9))] := hl
  refine lv_aload_n X.1 X.2.1 d_Hi_init_0 rfl (lv_at hl 0 rfl) ?_
  refine kb_obj X cw_100 hl.1 (by omega) (by omega) d_Hi_init_1 ?_
  refine lv_aload_n X.1 X.2.1 d_Hi_init_4 rfl (lv_at hl 0 rfl) ?_
  refine lv_bipush (v := 10) X.1 X.2.1 d_Hi_init_5 (by decide) ?_
  refine kf_Q X hZ (ci := 4) (c0 := 9) (fs := [.null, .null, .int 0, .int 0]) cb_c4 0 10 cw_101 cw_104 (by omega) rfl hE (by decide) rfl rfl (by decide +kernel) (Nat.le_of_ble_eq_true rfl) (by decide) (by decide) (Nat.le_of_ble_eq_true rfl) (by omega) (by omega) d_Hi_init_7 d_Hi_init_10 ?_
  intro al1 E1 H1 locs1 o1 p1 z1 c1 hZ1
  have ha1 : al1 9 = al 9 := o1 9 (by omega)
  refine lv_aload_n X.1 X.2.1 d_Hi_init_13 rfl (lv_at hl 0 rfl) ?_
  refine lv_bipush (v := 10) X.1 X.2.1 d_Hi_init_14 (by decide) ?_
  refine kf_I X hZ1 (ci := 4) (c0 := 9) (fs := [.ref (al1 10), .null, .int 0, .int 0]) cb_c4 1 10 cw_105 (by omega) ha1 c1 (by decide) rfl rfl (by decide +kernel) (Nat.le_of_ble_eq_true rfl) (by decide) (by decide) (Nat.le_of_ble_eq_true rfl) (by omega) (by omega) d_Hi_init_16 d_Hi_init_18 ?_
  intro al2 E2 H2 locs2 o2 p2' z2 c2 hZ2
  refine lv_iconst (v := Int32.ofInt ((0 : Nat) : Int)) X.1 X.2.1 d_Hi_init_21 (by decide) ?_
  refine lv_istore_n (lv' := [(1, .int (Int32.ofInt ((0 : Nat) : Int))), (0, .ref (al 9))]) X.1 X.2.1 d_Hi_init_22 rfl hl (by decide) rfl (fun ls1 hl1 => ?_)
  have loop : ∀ (r i : Nat), i + r = 10 → ∀ (al3 : Nat → Nat) (E3 : Nat → va_E) (H3 : Heap) (locs3 : List Loc) (ls3 : Array Slot) (f3 : Nat → Option Nat), (∀ k, k < 10 → al3 k = al k) → (∀ k, k < 9 → E3 k = E k) → E3 9 = .inr (4, [.ref (al3 10), .ref (al3 11), .int 0, .int 0]) → E3 10 = .inl (g.2.1.2.2.2, 10, .inr (.inr (.inr (.inr f3)))) → (∀ j, j < i → f3 j = some (al3 (12 + 8 * j))) → E3 11 = .inl (g.2.1.1, 10, .inl (fun _ => 0)) → (∀ k, 12 ≤ k → k < 12 + 8 * i → E3 k = cb_E (kg g al3) mz k) → kb_S g A s al3 E3 (12 + 8 * i) H3 locs3 → lv_has ls3 2 [(1, .int (Int32.ofInt (i : Int))), (0, .ref (al 9))] → W p l e R s m args below meth c H3 locs3 (2 + 8 * i) (20 + 247 * i) Q (F0 m 23 ls3 []) := by
    intro r
    induction r with
    | zero =>
      intro i hi al3 E3 H3 locs3 ls3 f3 h1 h2 h9 h10 hf h11 h12 hZ3 hl3
      have hi10 : i = 10 := by omega
      rw [hi10] at hf h12 hZ3 hl3 ⊢
      refine lv_iload_n X.1 X.2.1 d_Hi_init_23 rfl (lv_at hl3 0 rfl) ?_
      refine lv_bipush (v := Int32.ofInt 10) X.1 X.2.1 d_Hi_init_24 (by decide) ?_
      refine lv_icmp_ge (tgt := 48) X.1 X.2.1 d_Hi_init_26 (by decide) (fun _ => ?_) (fun q => absurd ((cb_le (x := 10) (y := ((10 : Nat) : Int)) ⟨by decide, by decide⟩ ⟨by decide, by decide⟩).mpr (by decide)) q)
      refine fin al3 (va_up E3 10 (cb_E (kg g al3) mz 10)) H3 locs3 ls3 48 d_Hi_init_48 h1 ⟨fun k hk => by rw [up_ne (by omega)]; exact h2 k hk, fun k a b => ?_⟩ (hZ3.eq (fun k hk => ?_))
      · by_cases e10 : k = 10
        · rw [e10, up_eq]
        · rw [up_ne e10]
          by_cases e9 : k = 9
          · rw [e9, h9, kzo_9]
          · by_cases e11 : k = 11
            · rw [e11, h11, kz0 (show cb_kd 11 = (0, 10) from rfl) (by decide) (by decide)]
            · exact h12 k (by omega) (by omega)
      · by_cases e10 : k = 10
        · refine Or.inr ⟨g.2.1.2.2.2, (10, .inr (.inr (.inr (.inr f3)))), (10, .inr (.inr (.inr (.inr (fun j => some (cb_al (kg g al3) (cb_rt 10 j))))))), by rw [e10]; exact h10, by rw [e10, up_eq, cb_E3 (show cb_kd 10 = (3, 10) from rfl)]; rfl, ?_⟩
          rw [vp_cell_q, vp_cell_q]
          refine arrV_cong (fun j hj => ?_)
          rw [hf j hj, (rt10 j hj).1, kg_al (by omega)]
        · exact Or.inl (up_ne e10)
    | succ r ih =>
      intro i hi al3 E3 H3 locs3 ls3 f3 h1 h2 h9 h10 hf h11 h12 hZ3 hl3
      have hi10 : i < 10 := by omega
      have hMB := mb_h i hi10
      refine lv_iload_n X.1 X.2.1 d_Hi_init_23 rfl (lv_at hl3 0 rfl) ?_
      refine lv_bipush (v := Int32.ofInt 10) X.1 X.2.1 d_Hi_init_24 (by decide) ?_
      refine lv_icmp_ge (tgt := 48) X.1 X.2.1 d_Hi_init_26 (by decide) (fun q => ?_) (fun _ => ?_)
      · have := (cb_le (x := 10) (y := (i : Int)) ⟨by decide, by decide⟩ ⟨by omega, by omega⟩).mp q
        omega
      refine lv_aload_n X.1 X.2.1 d_Hi_init_29 rfl (lv_at hl3 1 rfl) ?_
      refine kf_get X hZ3 (ci := 4) (c0 := 9) (fs := [.ref (al3 10), .ref (al3 11), .int 0, .int 0]) (v := .ref (al3 10)) cb_c4 0 cw_104 (by omega) (h1 9 (by omega)) h9 (by decide) rfl d_Hi_init_30 ?_
      refine lv_iload_n X.1 X.2.1 d_Hi_init_33 rfl (lv_at hl3 0 rfl) ?_
      refine kf_new X hZ3 cb_c5 cw_101 cw_26 cw_2 [.int 0, .int 0, .int 0, .int 0, .int 0, .int 0, .null, .null, .null, .null, .null, .null, .null] (fun j hj => by rcases (show j = 0 ∨ j = 1 ∨ j = 2 ∨ j = 3 ∨ j = 4 ∨ j = 5 ∨ j = 6 ∨ j = 7 ∨ j = 8 ∨ j = 9 ∨ j = 10 ∨ j = 11 ∨ j = 12 by omega) with rfl | rfl | rfl | rfl | rfl | rfl | rfl | rfl | rfl | rfl | rfl | rfl | rfl <;> rfl) (by omega) (by omega) d_Hi_init_34 ?_
      intro al4 E4 H4 o4 p4 z4 hZ4
      refine lv_dup X.1 X.2.1 d_Hi_init_37 rfl ?_
      refine kb_callN X hZ4 (As := []) (st := [.ref (al4 (12 + 8 * i)), .int (Int32.ofInt (i : Int)), .ref (al3 10)]) (k_Mo hMB) K_Mo_init rfl cw_103 (by show 1 + 1 ≤ R.frames; omega) (by show 8 + (1 + 11) + 12 ≤ R.locals; omega) (by omega) (by omega) hl3.1 (Nat.le_of_ble_eq_true rfl) d_Hi_init_38 z4 ?_
      intro al5 E5 H5 locs5 o5 w5 hZ5
      obtain ⟨q5, w5⟩ := w5
      have e5 : al4 (12 + 8 * i) = al5 (12 + 8 * i) := (o5 _ (by omega)).symm
      rw [e5]
      refine kf_aast X hZ5 (c0 := 10) (c1 := 12 + 8 * i) (N := 10) (f := f3) (by omega) (by omega) ((o5 10 (by omega)).trans (o4 10 (by omega))) ((q5 10 (by omega)).trans ((p4 10 (by omega)).trans h10)) ((w5 (12 + 8 * i) (by omega) (by omega)).trans (kz_Mo hMB)) (cb_vin (by omega) (by omega) (by omega)) d_Hi_init_41 ?_
      intro E6 H6 locs6 p6 c6 hZ6
      refine lv_iinc (v := Int32.ofInt ((i + 1 : Nat) : Int)) (lv' := [(1, .int (Int32.ofInt ((i + 1 : Nat) : Int))), (0, .ref (al 9))]) X.1 X.2.1 d_Hi_init_42 hl3 (k := 0) rfl (by rw [← Int32.ofInt_add]; rfl) (by decide) rfl (fun ls4 hl4 => ?_)
      refine lv_goto (tgt := 23) X.1 X.2.1 d_Hi_init_45 (by decide) ?_
      refine W.widen (k := 2 + 8 * (i + 1)) (n := 20 + 247 * (i + 1)) (by omega) (by omega) ?_
      have hZ7 : kb_S g A s al5 E6 (12 + 8 * (i + 1)) H6 locs6 := by
        rw [show 12 + 8 * (i + 1) = 12 + 8 * i + 8 by omega]; exact hZ6
      have ecl : (Int32.ofInt (i : Int)).toNatClampNeg = i := by rw [cb_clamp (by omega) (by omega), Int.toNat_natCast]
      rw [ecl] at c6
      refine ih (i + 1) (by omega) al5 E6 H6 locs6 ls4 (va_up f3 i (some (al5 (12 + 8 * i)))) (fun k hk => ?_) (fun k hk => ?_) ?_ c6 (fun j hj => ?_) ?_ (fun k a b => ?_) hZ7 hl4
      · rw [o5 k (by omega), o4 k (by omega)]; exact h1 k hk
      · rw [p6 k (by omega), q5 k (by omega), p4 k (by omega)]; exact h2 k hk
      · rw [p6 9 (by omega), q5 9 (by omega), p4 9 (by omega), h9, o5 10 (by omega), o4 10 (by omega), o5 11 (by omega), o4 11 (by omega)]
      · by_cases ej : j = i
        · rw [ej, up_eq]
        · rw [up_ne ej, hf j (by omega), o5 _ (by omega), o4 _ (by omega)]
      · rw [p6 11 (by omega), q5 11 (by omega), p4 11 (by omega)]; exact h11
      · by_cases ek : k < 12 + 8 * i
        · rw [p6 k (by omega), q5 k (by omega), p4 k (by omega), h12 k a ek]
          have hr := rmx_h k (by omega) a
          exact (kz_st (n := 12 + 8 * i) (by omega) (fun x hx => by rw [o5 x (by omega), o4 x (by omega)])).symm
        · rw [p6 k (by omega)]
          exact w5 k (by omega) (by omega)
  refine loop 10 0 rfl al2 E2 H2 locs2 ls1 (fun _ => none) (fun k hk => ?_) (fun k hk => ?_) ?_ ?_ (fun j hj => by omega) z2 (fun k a b => by omega) hZ2 hl1
  · rw [o2 k (by omega), o1 k hk]
  · rw [p2' k (by omega) (by omega), p1 k (by omega) (by omega)]
  · rw [c2, o2 10 (by omega)]; rfl
  · rw [p2' 10 (by omega) (by omega)]; exact z1
