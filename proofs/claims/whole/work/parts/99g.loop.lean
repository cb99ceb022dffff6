/-! the law's loop (printed by wip/gen/g99g.py) -/
def lw_offs : Array Int := #[199, 232, 255, 298, 321, 384, 407, 450, 483, 506, 529, 552, 585, 598, 631, 644, 667, 690, 733, 766, 789, 832, 855, 888, 922, 945, 968, 991, 1024, 1047, 1080, 1103, 1136, 1159, 1182, 1205, 1228, 1271, 1304, 1337, 1350, 1383, 1416, 1449, 1482, 1505]
set_option maxRecDepth 4000 in
theorem lw_tb {p : Program} {l : Launch} {e : Env} {s : State} {m : MethodId} {below : List Frame} {meth : Method} {c : Code} {b L : Nat} {xs : Nat → Int32} {g : cb_G} {cells slots : Nat} (C : lw_Cx p s m meth c b L xs g cells slots) {i : Nat} (hi : i + 6 ≤ L) (nx : lw_to p l e s m below meth c b g cells slots (lw_Z below #[Value.ref b] s) i 1551) : ∀ n : Nat, n < 46 → ∃ (off : Int) (t : Nat), lw_offs[n]? = some off ∧ (33 : Int) + off = (t : Int) ∧ lw_to p l e s m below meth c b g cells slots (lw_Z below #[Value.ref b] s) i t := by
  intro n hn
  match n, hn with
  | 0, _ => exact ⟨199, 232, rfl, by decide, lc_0 C hi nx⟩
  | 1, _ => exact ⟨232, 265, rfl, by decide, lc_1 C hi nx⟩
  | 2, _ => exact ⟨255, 288, rfl, by decide, lc_2 C hi nx⟩
  | 3, _ => exact ⟨298, 331, rfl, by decide, lc_3 C hi nx⟩
  | 4, _ => exact ⟨321, 354, rfl, by decide, lc_4 C hi nx⟩
  | 5, _ => exact ⟨384, 417, rfl, by decide, lc_5 C hi nx⟩
  | 6, _ => exact ⟨407, 440, rfl, by decide, lc_6 C hi nx⟩
  | 7, _ => exact ⟨450, 483, rfl, by decide, lc_7 C hi nx⟩
  | 8, _ => exact ⟨483, 516, rfl, by decide, lc_8 C hi nx⟩
  | 9, _ => exact ⟨506, 539, rfl, by decide, lc_9 C hi nx⟩
  | 10, _ => exact ⟨529, 562, rfl, by decide, lc_10 C hi nx⟩
  | 11, _ => exact ⟨552, 585, rfl, by decide, lc_11 C hi nx⟩
  | 12, _ => exact ⟨585, 618, rfl, by decide, lc_12 C hi nx⟩
  | 13, _ => exact ⟨598, 631, rfl, by decide, lc_13 C hi nx⟩
  | 14, _ => exact ⟨631, 664, rfl, by decide, lc_14 C hi nx⟩
  | 15, _ => exact ⟨644, 677, rfl, by decide, lc_15 C hi nx⟩
  | 16, _ => exact ⟨667, 700, rfl, by decide, lc_16 C hi nx⟩
  | 17, _ => exact ⟨690, 723, rfl, by decide, lc_17 C hi nx⟩
  | 18, _ => exact ⟨733, 766, rfl, by decide, lc_18 C hi nx⟩
  | 19, _ => exact ⟨766, 799, rfl, by decide, lc_19 C hi nx⟩
  | 20, _ => exact ⟨789, 822, rfl, by decide, lc_20 C hi nx⟩
  | 21, _ => exact ⟨832, 865, rfl, by decide, lc_21 C hi nx⟩
  | 22, _ => exact ⟨855, 888, rfl, by decide, lc_22 C hi nx⟩
  | 23, _ => exact ⟨888, 921, rfl, by decide, lc_23 C hi nx⟩
  | 24, _ => exact ⟨922, 955, rfl, by decide, lc_24 C hi nx⟩
  | 25, _ => exact ⟨945, 978, rfl, by decide, lc_25 C hi nx⟩
  | 26, _ => exact ⟨968, 1001, rfl, by decide, lc_26 C hi nx⟩
  | 27, _ => exact ⟨991, 1024, rfl, by decide, lc_27 C hi nx⟩
  | 28, _ => exact ⟨1024, 1057, rfl, by decide, lc_28 C hi nx⟩
  | 29, _ => exact ⟨1047, 1080, rfl, by decide, lc_29 C hi nx⟩
  | 30, _ => exact ⟨1080, 1113, rfl, by decide, lc_30 C hi nx⟩
  | 31, _ => exact ⟨1103, 1136, rfl, by decide, lc_31 C hi nx⟩
  | 32, _ => exact ⟨1136, 1169, rfl, by decide, lc_32 C hi nx⟩
  | 33, _ => exact ⟨1159, 1192, rfl, by decide, lc_33 C hi nx⟩
  | 34, _ => exact ⟨1182, 1215, rfl, by decide, lc_34 C hi nx⟩
  | 35, _ => exact ⟨1205, 1238, rfl, by decide, lc_35 C hi nx⟩
  | 36, _ => exact ⟨1228, 1261, rfl, by decide, lc_36 C hi nx⟩
  | 37, _ => exact ⟨1271, 1304, rfl, by decide, lc_37 C hi nx⟩
  | 38, _ => exact ⟨1304, 1337, rfl, by decide, lc_38 C hi nx⟩
  | 39, _ => exact ⟨1337, 1370, rfl, by decide, lc_39 C hi nx⟩
  | 40, _ => exact ⟨1350, 1383, rfl, by decide, lc_40 C hi nx⟩
  | 41, _ => exact ⟨1383, 1416, rfl, by decide, lc_41 C hi nx⟩
  | 42, _ => exact ⟨1416, 1449, rfl, by decide, lc_42 C hi nx⟩
  | 43, _ => exact ⟨1449, 1482, rfl, by decide, lc_43 C hi nx⟩
  | 44, _ => exact ⟨1482, 1515, rfl, by decide, lc_44 C hi nx⟩
  | 45, _ => exact ⟨1505, 1538, rfl, by decide, lc_45 C hi nx⟩
  | n + 46, h => omega
set_option maxRecDepth 4000 in
theorem lw_inc {p : Program} {l : Launch} {e : Env} {s : State} {m : MethodId} {below : List Frame} {meth : Method} {c : Code} {b L : Nat} {xs : Nat → Int32} {g : cb_G} {cells slots : Nat} (C : lw_Cx p s m meth c b L xs g cells slots) {i : Nat} (nx : lw_to p l e s m below meth c b g cells slots (lw_Z below #[Value.ref b] s) (i + 6) 18) : lw_to p l e s m below meth c b g cells slots (lw_Z below #[Value.ref b] s) i 1551 := by
  intro σ M H locs ls hI hP hS hl
  refine lv_iinc (v := Int32.ofInt ((i + 6 : Nat) : Int)) (lv' := [(3, .int (Int32.ofInt ((i + 6 : Nat) : Int))), (0, .ref b), (1, .ref (cb_al g 0)), (2, .ref (cb_al g 141))]) C.1.1 C.1.2.1 dl_1551 hl (k := 3) rfl (by rw [← Int32.ofInt_add]; rfl) (by decide) rfl (fun ls hl => ?_)
  refine lv_goto (tgt := 18) C.1.1 C.1.2.1 dl_1554 (by decide) ?_
  exact nx σ M H locs ls hI hP hS (lv_sub hl [1, 2, 3, 0] rfl)
set_option maxRecDepth 4000 in
theorem lw_step {p : Program} {l : Launch} {e : Env} {s : State} {m : MethodId} {below : List Frame} {meth : Method} {c : Code} {b L : Nat} {xs : Nat → Int32} {g : cb_G} {cells slots : Nat} (C : lw_Cx p s m meth c b L xs g cells slots) {i : Nat} (hi : i ≤ 3072) (nx : i + 6 ≤ L → lw_to p l e s m below meth c b g cells slots (lw_Z below #[Value.ref b] s) (i + 6) 18) : lw_to p l e s m below meth c b g cells slots (lw_Z below #[Value.ref b] s) i 18 := by
  intro σ M H locs ls hI hP hS hl
  have hL := C.2.1
  have hx := C.1.1
  have hb := C.1.2.1
  refine lv_iload_n hx hb dl_18 rfl (lv_at hl 3 rfl) ?_
  refine lv_aload_n hx hb dl_19 rfl (lv_at hl 0 rfl) ?_
  refine va_slen hx hb C.1.2.2.2.2.2.2.1 C.1.2.2.2.2.2.2.2.1 (Nat.not_le.mpr C.1.2.2.2.2.2.2.2.1) hS dl_20 ?_
  refine lv_bipush (v := Int32.ofInt 6) hx hb dl_21 (by decide) ?_
  refine lv_isub hx hb dl_23 ?_
  rw [← Int32.ofInt_eq_ofNat, ← Int32.ofInt_sub]
  refine lv_icmp_gt (tgt := 1557) hx hb dl_24 (by decide) (fun q => ?_) (fun q => ?_)
  · refine va_forget hS.2.2 ?_
    refine W.widen (k := 600000) (n := 7302250) C.2.2.2.2.2.2.2.1 C.2.2.2.2.2.2.2.2 ?_
    refine lv_iconst (v := 1) hx hb dl_1557 (by decide) ?_
    exact lw_ret hx hb C.1.2.2.1 C.1.2.2.2.2.2.2.2.2.1 dl_1558
  · have q1 : ¬ (L : Int) - 6 < (i : Int) := fun z => q ((cb_lt (x := (L : Int) - 6) (y := (i : Int)) ⟨by omega, by omega⟩ ⟨by omega, by omega⟩).mpr z)
    have hi6 : i + 6 ≤ L := by omega
    have nx1 := lw_inc C (nx hi6)
    refine lv_aload_n hx hb dl_27 rfl (lv_at hl 0 rfl) ?_
    refine lv_iload_n hx hb dl_28 rfl (lv_at hl 3 rfl) ?_
    refine va_sld hx hb C.1.2.2.2.2.2.2.1 C.1.2.2.2.2.2.2.2.1 (Nat.not_le.mpr C.1.2.2.2.2.2.2.2.1) hS (cb_vin (by omega) (by omega) (by omega)) dl_29 ?_
    refine lv_bipush (v := Int32.ofInt 63) hx hb dl_30 (by decide) ?_
    refine lv_iand hx hb dl_32 ?_
    generalize xs (Int32.ofInt (i : Int)).toNatClampNeg &&& Int32.ofInt 63 = v
    by_cases hv : v.toInt < 0 ∨ 45 < v.toInt
    · exact lv_tableOut (tgt := 1551) hx hb dl_33 hv (by decide) (nx1 σ M H locs ls hI hP hS hl)
    · obtain ⟨off, t, h1, h2, h3⟩ := lw_tb C hi6 nx1 v.toInt.toNat (by omega)
      exact lv_tableIn (off := off) (tgt := t) hx hb dl_33 (fun z => hv (Or.inl z)) (fun z => hv (Or.inr z)) (by rw [Int.sub_zero]; exact h1) h2 (h3 σ M H locs ls hI hP hS hl)
theorem lw_loop {p : Program} {l : Launch} {e : Env} {s : State} {m : MethodId} {below : List Frame} {meth : Method} {c : Code} {b L : Nat} {xs : Nat → Int32} {g : cb_G} {cells slots : Nat} (C : lw_Cx p s m meth c b L xs g cells slots) : ∀ n i : Nat, L - i ≤ n → i ≤ 3072 → lw_to p l e s m below meth c b g cells slots (lw_Z below #[Value.ref b] s) i 18 := by
  intro n
  induction n with
  | zero => exact fun i h hi => lw_step C hi (fun h6 => by omega)
  | succ n ih => exact fun i h hi => lw_step C hi (fun h6 => ih (i + 6) (by omega) (by have := C.2.1; omega))
