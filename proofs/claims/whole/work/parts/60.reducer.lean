/-! the class's Reducer; reduced, reduce of the class -/
theorem sub_iff {a b : Int} (a0 : 0 ≤ a) (a1 : a < 2147483648) (b0 : 0 ≤ b) : iand a (ixor b (-1)) = 0 ↔ ∀ i, 0 ≤ i → bit a i = true → bit b i = true := by
  have hb := iandn_bd (a := a) (b := b) a0 a1 b0
  constructor
  · intro h i hi q
    have e := bit_iandn (i := i) a0 a1 b0
    rw [h, bit_0, q, Bool.true_and] at e
    cases z : bit b i with
    | true => rfl
    | false => rw [z] at e; exact Bool.noConfusion e
  · intro h
    apply bit_ext hb.1 (Int.le_refl _)
    intro i hi
    rw [bit_iandn a0 a1 b0, bit_0]
    cases z : bit a i with
    | true => rw [h i hi z]; rfl
    | false => rfl
theorem pc_sub {a b : Int} (a0 : 0 ≤ a) (a1 : a < 2147483648) (b0 : 0 ≤ b) : pcI a ≤ pcI (iand a b) ↔ iand a (ixor b (-1)) = 0 := by
  have hb := iand_bd (a := a) (b := b) a0 a1 b0
  rw [sub_iff a0 a1 b0]
  constructor
  · intro h i hi q
    apply Classical.byContradiction
    intro hno
    by_cases z : i < 31
    · have := cntI_strict (p := fun i => bit (iand a b) i) (q := fun i => bit a i) 31 (by decide) (fun j x y w => by
        rw [bit_iand a0 a1 b0, Bool.and_eq_true] at w; exact w.1) ⟨i, hi, z, by
          rw [bit_iand a0 a1 b0, q, Bool.true_and]
          cases y : bit b i with
          | true => exact absurd y hno
          | false => rfl, q⟩
      unfold pcI at h
      omega
    · have : bit a i = false := bit_hi (n := 31) a0 (by have : p2 31 = 2147483648 := by decide
                                                        omega) (by omega)
      rw [this] at q; exact Bool.noConfusion q
  · intro h
    refine cntI_mono 31 (by decide) (fun i x y w => ?_)
    rw [bit_iand a0 a1 b0, w, Bool.true_and]; exact h i x w
/-- a set b has as many of the signs a as is told -/
def nd (a d b : Int) : Prop := (if pcI a ≤ d then pcI a else d) ≤ pcI (iand a b)
noncomputable def ap (ρ : Rw) (c o : Int) : Int := ixor (gC ρ c) (if o = -1 then 0 else gC ρ o)
theorem ap_bd {ρ : Rw} (hV : VR ρ) (c o : Int) : 0 ≤ ap ρ c o ∧ ap ρ c o < 4096 := by
  have h1 := gC_bd hV c
  have h2 := gC_bd hV o
  unfold ap
  split
  · exact x12 h1.1 h1.2.2 (by decide) (by decide)
  · exact x12 h1.1 h1.2.2 h2.1 h2.2.2
def enough (ρ : Rw) (d b : Int) : Prop := ∀ c o, 0 ≤ c → c < nC ρ → -1 ≤ o → o < c → nd (ap ρ c o) d b
def OKp (M : Mem) (d b : Int) : Prop := iand (M.1 120 4) (ixor b (-1)) = 0 ∧ ∀ i, 0 ≤ i → i < M.1 120 3 → d ≤ pcI (iand (M.1 121 i) b)
def WFp (M : Mem) (d n : Int) : Prop := (0 ≤ M.1 120 4 ∧ M.1 120 4 < 4096) ∧ (0 ≤ M.1 120 3 ∧ M.1 120 3 ≤ n) ∧ ∀ i, 0 ≤ i → i < M.1 120 3 → (0 ≤ M.1 121 i ∧ M.1 121 i < 4096) ∧ M.1 122 i = d
theorem addPair_s {M : Mem} {a d n : Int} (a0 : 0 ≤ a) (a1 : a < 4096) (d0 : 1 ≤ d) (d1 : d ≤ 6) (hW : WFp M d n) (hn : n < 78) : Cal Y_Re_addPair [vR 120, vI a, vI d] M (fun r M' => r = none ∧ WFp M' d (n + 1) ∧ (∀ b, 0 ≤ b → b < 4096 → (OKp M' d b ↔ OKp M d b ∧ nd a d b)) ∧ Kp (fun c => 120 ≤ c ∧ c ≤ 122) M M') := by
  have hp := pcI_bd a
  obtain ⟨w1, w2, w3⟩ := hW
  refine Cal.mk (y := Y_Re_addPair) (loc := [vR 120, vI a, vI d]) G_Re_addPair rfl (by decide) rfl rfl (Nat.le_of_ble_eq_true rfl) ?_
  simp only [r_Re_addPair_0, r_Re_addPair_1, true_and, and_true, or_true, true_or, or_false, false_or, false_and, and_false, not_true_eq_false, not_false_eq_true, implies_true, true_implies, false_implies]
  refine Cal.I (bitCount_s M a0 (by omega)) ?_
  simp only [r_Re_addPair_4, r_Re_addPair_5, r_Re_addPair_8, r_Re_addPair_9, r_Re_addPair_10, r_Re_addPair_13, r_Re_addPair_14, r_Re_addPair_15, r_Re_addPair_18, r_Re_addPair_21, r_Re_addPair_22, r_Re_addPair_25, r_Re_addPair_27, r_Re_addPair_30, r_Re_addPair_31, r_Re_addPair_34, r_Re_addPair_35, r_Re_addPair_38, r_Re_addPair_39, r_Re_addPair_40, r_Re_addPair_41, r_Re_addPair_44, r_Re_addPair_45, r_Re_addPair_48, r_Re_addPair_49, r_Re_addPair_50, r_Re_addPair_51, r_Re_addPair_52, r_Re_addPair_55, r_Re_addPair_56, r_Re_addPair_57, r_Re_addPair_60, true_and, and_true, or_true, true_or, or_false, false_or, false_and, and_false, not_true_eq_false, not_false_eq_true, implies_true, true_implies, false_implies]
  refine ⟨r32 (by omega) (by omega), r32 (by omega) (by omega), fun q => ⟨r32 (by omega) (by omega), r32 (by decide) (by decide), fun q2 => by omega, fun q2 => ⟨w2.1, by omega, ?_⟩⟩, fun q => ?_⟩
  · simp (disch := decide) only [wI_c]
    refine ⟨w2.1, by omega, ?_⟩
    generalize hM' : wI (wI (wI M 121 (M.1 120 3) a) 122 (M.1 120 3) d) 120 3 (M.1 120 3 + 1) = M'
    have e3 : M'.1 120 3 = M.1 120 3 + 1 := by rw [← hM']; exact wI_same _ _ _ _
    have e4 : M'.1 120 4 = M.1 120 4 := by rw [← hM', wI_oth (by decide), wI_c (by decide), wI_c (by decide)]
    have e1 : ∀ i, M'.1 121 i = if i = M.1 120 3 then a else M.1 121 i := fun i => by
      rw [← hM', wI_c (by decide), wI_c (by decide), wI_at]
      by_cases y : i = M.1 120 3
      · rw [if_pos ⟨rfl, y⟩, if_pos y]
      · rw [if_neg (fun x => y x.2), if_neg y]
    have e2 : ∀ i, M'.1 122 i = if i = M.1 120 3 then d else M.1 122 i := fun i => by
      rw [← hM', wI_c (by decide), wI_at]
      by_cases y : i = M.1 120 3
      · rw [if_pos ⟨rfl, y⟩, if_pos y]
      · rw [if_neg (fun x => y x.2), if_neg y, wI_c (by decide)]
    refine ⟨⟨by rw [e4]; exact w1, by rw [e3]; omega, fun i x y => ?_⟩, fun b b0 b1 => ?_, by rw [← hM']; exact Kp.w (Kp.w (Kp.w Kp.rf (by decide)) (by decide)) (by decide)⟩
    · rw [e1, e2]
      by_cases z : i = M.1 120 3
      · rw [if_pos z, if_pos z]; exact ⟨⟨a0, a1⟩, rfl⟩
      · rw [if_neg z, if_neg z]; exact w3 i x (by omega)
    · unfold OKp nd
      rw [e4, e3, if_neg (by omega)]
      constructor
      · rintro ⟨x, y⟩
        refine ⟨⟨x, fun i i0 i1 => ?_⟩, ?_⟩
        · have := y i i0 (by omega)
          rw [e1, if_neg (by omega)] at this; exact this
        · have := y (M.1 120 3) w2.1 (by omega)
          rw [e1, if_pos rfl] at this; exact this
      · rintro ⟨⟨x, y⟩, z⟩
        refine ⟨x, fun i i0 i1 => ?_⟩
        rw [e1]
        by_cases z2 : i = M.1 120 3
        · rw [if_pos z2]; exact z
        · rw [if_neg z2]; exact y i i0 (by omega)
  · have hb := ior_bd (n := 12) (by decide) w1.1 w1.2 a0 a1
    have k : Kp (fun c => c = 120) M (wI M 120 4 (ior (M.1 120 4) a)) := Kp.w Kp.rf rfl
    have e3 : (wI M 120 4 (ior (M.1 120 4) a)).1 120 3 = M.1 120 3 := wI_oth (by decide)
    have e1 := k.c (c := 121) (by decide)
    have e2 := k.c (c := 122) (by decide)
    refine ⟨⟨by rw [wI_same]; exact hb, by rw [e3]; omega, fun i x y => ?_⟩, fun b b0 b1 => ?_, k.sub (fun c z => by omega)⟩
    · rw [e3] at y
      rw [e1, e2]; exact w3 i x y
    · unfold OKp nd
      rw [wI_same, e3, e1, if_pos (by omega), pc_sub a0 (by omega) b0, sub_iff hb.1 (by have := hb.2; omega) b0, sub_iff w1.1 (by omega) b0, sub_iff a0 (by omega) b0]
      constructor
      · rintro ⟨x, y⟩
        refine ⟨⟨fun i i0 z => x i i0 ?_, y⟩, fun i i0 z => x i i0 ?_⟩
        · rw [bit_ior w1.1 (by omega) a0 (by omega), z]; rfl
        · rw [bit_ior w1.1 (by omega) a0 (by omega), z, Bool.or_true]
      · rintro ⟨⟨x, y⟩, z⟩
        refine ⟨fun i i0 z2 => ?_, y⟩
        rw [bit_ior w1.1 (by omega) a0 (by omega), Bool.or_eq_true] at z2
        rcases z2 with z2 | z2
        · exact x i i0 z2
        · exact z i i0 z2
theorem keepsApart_s {M : Mem} {d n b : Int} (d0 : 1 ≤ d) (d1 : d ≤ 6) (hW : WFp M d n) (hn : n ≤ 78) (b0 : 0 ≤ b) : Cal Y_Re_keepsApart [vR 120, vI b] M (fun r M' => r = some (vI (if dec (∀ i, 0 ≤ i → i < M.1 120 3 → d ≤ pcI (iand (M.1 121 i) b)) = true then 1 else 0)) ∧ M' = M) := by
  obtain ⟨w1, w2, w3⟩ := hW
  refine Cal.mk (y := Y_Re_keepsApart) (loc := [vR 120, vI b, vN]) G_Re_keepsApart rfl (by decide) rfl rfl (Nat.le_of_ble_eq_true rfl) ?_
  simp only [r_Re_keepsApart_0, r_Re_keepsApart_1, true_and, and_true, or_true, true_or, or_false, false_or, false_and, and_false, not_true_eq_false, not_false_eq_true, implies_true, true_implies, false_implies]
  refine up_loop (lo := 0) (hi := M.1 120 3) (P := fun k => (∀ i, 0 ≤ i → i < k → d ≤ pcI (iand (M.1 121 i) b)) → Run C_Re_keepsApart (fun r M' => r = some (vI (if dec (∀ i, 0 ≤ i → i < M.1 120 3 → d ≤ pcI (iand (M.1 121 i) b)) = true then 1 else 0)) ∧ M' = M) 2 [vR 120, vI b, vI k] [] M) (fun k k0 k1 ih hk => ?_) w2.1 (fun i x y => by omega)
  rw [r_Re_keepsApart_2]
  simp only [r_Re_keepsApart_3, r_Re_keepsApart_4, r_Re_keepsApart_7, r_Re_keepsApart_10, r_Re_keepsApart_11, r_Re_keepsApart_14, r_Re_keepsApart_15, r_Re_keepsApart_16, r_Re_keepsApart_17, r_Re_keepsApart_18, r_Re_keepsApart_21, r_Re_keepsApart_22, r_Re_keepsApart_25, r_Re_keepsApart_26, r_Re_keepsApart_27, r_Re_keepsApart_30, r_Re_keepsApart_31, r_Re_keepsApart_32, r_Re_keepsApart_35, r_Re_keepsApart_38, r_Re_keepsApart_39, true_and, and_true, or_true, true_or, or_false, false_or, false_and, and_false, not_true_eq_false, not_false_eq_true, implies_true, true_implies, false_implies]
  refine ⟨r32 (by omega) (by omega), r32 (by omega) (by omega), fun q => ?_, fun q => ⟨k0, by omega, ?_⟩⟩
  · rw [dec_t (fun i x y => hk i x (by omega))]
    rfl
  · have hw := w3 k k0 (by omega)
    have hb := iand_bd (a := M.1 121 k) (b := b) hw.1.1 (by omega) b0
    have hp := pcI_bd (iand (M.1 121 k) b)
    refine Cal.I (bitCount_s M hb.1 (by omega)) ⟨k0, by omega, ?_⟩
    rw [hw.2]
    refine ⟨r32 (by omega) (by omega), r32 (by omega) (by omega), fun q2 => ih (by omega) (fun i x y => ?_), fun q2 => ?_⟩
    · by_cases z : i = k
      · rw [z]; exact q2
      · exact hk i x (by omega)
    · rw [dec_f (fun z => q2 (z k k0 (by omega)))]
      exact ⟨rfl, rfl⟩
def tri (c : Int) : Int := sumI (fun k => k + 1) c
theorem tri_s {c : Int} (h : 0 ≤ c) : tri (c + 1) = tri c + (c + 1) := sumI_s _ h
theorem tri_bd {c : Int} (h0 : 0 ≤ c) (h1 : c ≤ 11) : 0 ≤ tri c ∧ tri c ≤ 66 := by
  rcases (show c = 0 ∨ c = 1 ∨ c = 2 ∨ c = 3 ∨ c = 4 ∨ c = 5 ∨ c = 6 ∨ c = 7 ∨ c = 8 ∨ c = 9 ∨ c = 10 ∨ c = 11 by omega) with rfl | rfl | rfl | rfl | rfl | rfl | rfl | rfl | rfl | rfl | rfl | rfl <;> decide
theorem tri_12 {c : Int} (h0 : 0 ≤ c) (h1 : c ≤ 12) : tri c ≤ 78 := by
  by_cases z : c = 12
  · rw [z]; decide
  · have := tri_bd h0 (by omega); omega
theorem listPairs_s {ρ : Rw} {M : Mem} (h : DX ρ M) {d : Int} (d0 : 1 ≤ d) (d1 : d ≤ 6) : Cal Y_Re_listPairs [vR 120, vI d] M (fun r M' => r = none ∧ WFp M' d 78 ∧ (∀ b, 0 ≤ b → b < 4096 → (OKp M' d b ↔ enough ρ d b)) ∧ Kp (fun c => 120 ≤ c ∧ c ≤ 122) M M') := by
  have hV := h.1
  have hc := nC_bd hV
  refine Cal.mk (y := Y_Re_listPairs) (loc := [vR 120, vI d, vN, vN]) G_Re_listPairs rfl (by decide) rfl rfl (Nat.le_of_ble_eq_true rfl) ?_
  simp only [r_Re_listPairs_0, r_Re_listPairs_1, r_Re_listPairs_2, r_Re_listPairs_5, r_Re_listPairs_6, r_Re_listPairs_7, r_Re_listPairs_10, r_Re_listPairs_11, true_and, and_true, or_true, true_or, or_false, false_or, false_and, and_false, not_true_eq_false, not_false_eq_true, implies_true, true_implies, false_implies]
  have k0 : Kp (fun c => 120 ≤ c ∧ c ≤ 122) M (wI (wI M 120 3 0) 120 4 0) := Kp.w (Kp.w Kp.rf (by decide)) (by decide)
  have e3 : (wI (wI M 120 3 0) 120 4 0).1 120 3 = 0 := by rw [wI_oth (by decide), wI_same]
  have e4 : (wI (wI M 120 3 0) 120 4 0).1 120 4 = 0 := wI_same _ _ _ _
  refine up_loop (lo := 0) (hi := nC ρ) (P := fun c => ∀ M1 l3, Kp (fun c => 120 ≤ c ∧ c ≤ 122) M M1 → WFp M1 d (tri c) → (∀ b, 0 ≤ b → b < 4096 → (OKp M1 d b ↔ ∀ c' o, 0 ≤ c' → c' < c → -1 ≤ o → o < c' → nd (ap ρ c' o) d b)) → Run C_Re_listPairs (fun r M' => r = none ∧ WFp M' d 78 ∧ (∀ b, 0 ≤ b → b < 4096 → (OKp M' d b ↔ enough ρ d b)) ∧ Kp (fun c => 120 ≤ c ∧ c ≤ 122) M M') 12 [vR 120, vI d, vI c, l3] [] M1) (fun c c0 c1 ih M1 l3 k1 w1 o1 => ?_) hc.1 _ _ k0 ⟨by rw [e4]; decide, by rw [e3]; exact ⟨by decide, by decide⟩, fun i x y => by rw [e3] at y; omega⟩ (fun b b0 b1 => ⟨fun _ c' o x y => by omega, fun _ => ⟨by rw [e4]; exact (sub_iff (by decide) (by decide) b0).2 (fun i _ z => by rw [bit_0] at z; exact Bool.noConfusion z), fun i x y => by rw [e3] at y; omega⟩⟩)
  have D1 := h.kp k1 (by decide) (by decide) (by decide) (by decide) (by decide)
  rw [r_Re_listPairs_12]
  simp only [r_Re_listPairs_13, r_Re_listPairs_14, r_Re_listPairs_17, r_Re_listPairs_20, r_Re_listPairs_23, r_Re_listPairs_26, r_Re_listPairs_27, r_Re_listPairs_28, r_Re_listPairs_31, r_Re_listPairs_34, r_Re_listPairs_35, r_Re_listPairs_36, r_Re_listPairs_37, true_and, and_true, or_true, true_or, or_false, false_or, false_and, and_false, not_true_eq_false, not_false_eq_true, implies_true, true_implies, false_implies, D1.2.1]
  refine ⟨r32 (by omega) (by omega), r32 (by omega) (by omega), fun q => ?_, fun q => ⟨c0, by omega, ?_⟩⟩
  · simp only [r_Re_listPairs_83, true_and, and_true, or_true, true_or, or_false, false_or, false_and, and_false, not_true_eq_false, not_false_eq_true, implies_true, true_implies, false_implies]
    have ec : c = nC ρ := by omega
    rw [ec] at w1 o1
    have := tri_12 hc.1 hc.2
    exact ⟨⟨w1.1, ⟨w1.2.1.1, by have := w1.2.1.2; omega⟩, w1.2.2⟩, o1, k1⟩
  · rw [D1.2.2.2.2.2.1 c c0 (by omega)]
    have hb := gC_bd hV c
    have ht := tri_bd c0 (by omega)
    have ea : ap ρ c (-1) = gC ρ c := by
      unfold ap
      rw [if_pos rfl]
      have hx := x12 hb.1 hb.2.2 (show (0 : Int) ≤ 0 by decide) (by decide)
      apply bit_ext hx.1 hb.1
      intro i hi
      rw [bit_ixor hb.1 (by omega) (by decide) (by decide), bit_0, Bool.xor_false]
    refine (addPair_s hb.1 hb.2.2 d0 d1 w1 (by omega)).mono ?_
    rintro _ M2 ⟨rfl, w2, o2, k2⟩
    simp only [r_Re_listPairs_40, r_Re_listPairs_41, true_and, and_true, or_true, true_or, or_false, false_or, false_and, and_false, not_true_eq_false, not_false_eq_true, implies_true, true_implies, false_implies]
    have kk2 := k1.trans k2
    refine up_loop (lo := 0) (hi := c) (P := fun o => ∀ M3, Kp (fun c => 120 ≤ c ∧ c ≤ 122) M M3 → WFp M3 d (tri c + 1 + o) → (∀ b, 0 ≤ b → b < 4096 → (OKp M3 d b ↔ (∀ c' o, 0 ≤ c' → c' < c → -1 ≤ o → o < c' → nd (ap ρ c' o) d b) ∧ ∀ o', -1 ≤ o' → o' < o → nd (ap ρ c o') d b)) → Run C_Re_listPairs (fun r M' => r = none ∧ WFp M' d 78 ∧ (∀ b, 0 ≤ b → b < 4096 → (OKp M' d b ↔ enough ρ d b)) ∧ Kp (fun c => 120 ≤ c ∧ c ≤ 122) M M') 42 [vR 120, vI d, vI c, vI o] [] M3) (fun o o0 o1 ih2 M3 k3 w3 o3 => ?_) c0 M2 kk2 (by rw [Int.add_zero]; exact w2) (fun b b0 b1 => ?_)
    · have D3 := h.kp k3 (by decide) (by decide) (by decide) (by decide) (by decide)
      rw [r_Re_listPairs_42]
      simp only [r_Re_listPairs_43, r_Re_listPairs_44, r_Re_listPairs_47, r_Re_listPairs_48, r_Re_listPairs_49, r_Re_listPairs_52, r_Re_listPairs_55, r_Re_listPairs_56, r_Re_listPairs_57, r_Re_listPairs_58, r_Re_listPairs_61, r_Re_listPairs_64, r_Re_listPairs_65, r_Re_listPairs_66, r_Re_listPairs_67, r_Re_listPairs_68, r_Re_listPairs_71, r_Re_listPairs_74, r_Re_listPairs_77, r_Re_listPairs_80, true_and, and_true, or_true, true_or, or_false, false_or, false_and, and_false, not_true_eq_false, not_false_eq_true, implies_true, true_implies, false_implies]
      refine ⟨r32 (by omega) (by omega), r32 (by omega) (by omega), fun q2 => ?_, fun q2 => ⟨c0, by omega, o0, by omega, ?_⟩⟩
      · rw [show o = c by omega] at w3 o3
        refine ih (by omega) M3 _ k3 (by rw [tri_s c0, show tri c + (c + 1) = tri c + 1 + c by omega]; exact w3) (fun b b0 b1 => ?_)
        rw [o3 b b0 b1]
        constructor
        · rintro ⟨x, y⟩ c' o' p1 p2 p3 p4
          by_cases z : c' = c
          · rw [z] at p4 ⊢; exact y o' p3 p4
          · exact x c' o' p1 (by omega) p3 p4
        · intro x
          exact ⟨fun c' o' p1 p2 p3 p4 => x c' o' p1 (by omega) p3 p4, fun o' p3 p4 => x c o' c0 (by omega) p3 p4⟩
      · rw [D3.2.2.2.2.2.1 c c0 (by omega), D3.2.2.2.2.2.1 o o0 (by omega)]
        have hab := ap_bd hV c o
        have ea2 : ixor (gC ρ c) (gC ρ o) = ap ρ c o := by unfold ap; rw [if_neg (by omega)]
        rw [ea2]
        refine (addPair_s hab.1 hab.2 d0 d1 w3 (by omega)).mono ?_
        rintro _ M4 ⟨rfl, w4, o4, k4⟩
        refine ⟨rfl, ih2 (by omega) M4 (k3.trans k4) (by rw [show tri c + 1 + (o + 1) = tri c + 1 + o + 1 by omega]; exact w4) (fun b b0 b1 => ?_)⟩
        rw [o4 b b0 b1, o3 b b0 b1, and_assoc]
        refine and_congr Iff.rfl ⟨?_, ?_⟩
        · rintro ⟨x, y⟩ o' p1 p2
          by_cases z : o' = o
          · rw [z]; exact y
          · exact x o' p1 (by omega)
        · intro x
          exact ⟨fun o' p1 p2 => x o' p1 (by omega), x o (by omega) (by omega)⟩
    · rw [o2 b b0 b1, o1 b b0 b1]
      refine and_congr Iff.rfl ⟨?_, ?_⟩
      · intro x o' p1 p2
        rw [show o' = -1 by omega, ea]; exact x
      · intro x
        rw [← ea]; exact x (-1) (by decide) (by decide)
/-- the fewest signs that keep codes apart as far as told: of like many the least set -/
def isRed (ρ : Rw) (d v : Int) : Prop := 0 ≤ v ∧ v < p2 (nS ρ) ∧ enough ρ d v ∧ (∀ k, 0 ≤ k → k < p2 (nS ρ) → enough ρ d k → pcI v ≤ pcI k) ∧ ∀ k, 0 ≤ k → k < v → enough ρ d k → pcI v < pcI k
noncomputable def red (ρ : Rw) (d : Int) : Int := Classical.epsilon (isRed ρ d)
theorem isRed_u {ρ : Rw} {d v : Int} (h : isRed ρ d v) : red ρ d = v := by
  have h2 : isRed ρ d (red ρ d) := Classical.epsilon_spec ⟨v, h⟩
  rcases Int.lt_trichotomy (red ρ d) v with q | q | q
  · have := h.2.2.2.2 _ h2.1 q h2.2.2.1
    have := h2.2.2.2.1 v h.1 h.2.1 h.2.2.1
    omega
  · exact q
  · have := h2.2.2.2.2 _ h.1 q h.2.2.1
    have := h.2.2.2.1 _ h2.1 h2.2.1 h2.2.2.1
    omega
theorem enough_all {ρ : Rw} (hV : VR ρ) (d : Int) : enough ρ d (p2 (nS ρ) - 1) := by
  intro c o c0 c1 o0 o1
  have hb := ap_bd hV c o
  have hp := p2_pos (nS ρ)
  have h1 : pcI (ap ρ c o) ≤ pcI (iand (ap ρ c o) (p2 (nS ρ) - 1)) := by
    rw [pc_sub hb.1 (by omega) (by omega), sub_iff hb.1 (by omega) (by omega)]
    intro i hi q
    rw [bit_ones (nS_bd hV).1 hi, decide_eq_true_eq]
    apply Classical.byContradiction
    intro z
    have h1 := gC_bd hV c
    have h2 := gC_bd hV o
    unfold ap at q
    split at q
    · rw [bit_ixor h1.1 (by omega) (by decide) (by decide), bit_0, Bool.xor_false, bit_hi h1.1 h1.2.1 (by omega)] at q
      exact Bool.noConfusion q
    · rw [bit_ixor h1.1 (by omega) h2.1 (by omega), bit_hi h1.1 h1.2.1 (by omega), bit_hi h2.1 h2.2.1 (by omega)] at q
      exact Bool.noConfusion q
  unfold nd
  split <;> omega
theorem fewestSigns_s {ρ : Rw} {M : Mem} (h : DX ρ M) {d : Int} (d0 : 1 ≤ d) (d1 : d ≤ 6) : Cal Y_Re_fewestSigns [vR 120, vI d] M (fun r M' => r = some (vI (red ρ d)) ∧ Kp (fun c => 120 ≤ c ∧ c ≤ 122) M M') := by
  have hV := h.1
  have hs := nS_bd hV
  have h1 := p2_12 hs.2
  have h2 := p2_pos (nS ρ)
  refine Cal.mk (y := Y_Re_fewestSigns) (loc := [vR 120, vI d, vN, vN, vN, vN]) G_Re_fewestSigns rfl (by decide) rfl rfl (Nat.le_of_ble_eq_true rfl) ?_
  simp only [r_Re_fewestSigns_0, r_Re_fewestSigns_1, r_Re_fewestSigns_2, true_and, and_true, or_true, true_or, or_false, false_or, false_and, and_false, not_true_eq_false, not_false_eq_true, implies_true, true_implies, false_implies]
  refine (listPairs_s h d0 d1).mono ?_
  rintro _ M1 ⟨rfl, w1, o1, k1⟩
  have D1 := h.kp k1 (by decide) (by decide) (by decide) (by decide) (by decide)
  simp only [r_Re_fewestSigns_5, r_Re_fewestSigns_6, r_Re_fewestSigns_7, r_Re_fewestSigns_10, r_Re_fewestSigns_13, r_Re_fewestSigns_16, r_Re_fewestSigns_17, r_Re_fewestSigns_18, r_Re_fewestSigns_19, r_Re_fewestSigns_20, r_Re_fewestSigns_21, r_Re_fewestSigns_22, r_Re_fewestSigns_23, r_Re_fewestSigns_26, r_Re_fewestSigns_29, r_Re_fewestSigns_32, r_Re_fewestSigns_33, r_Re_fewestSigns_34, r_Re_fewestSigns_36, r_Re_fewestSigns_37, true_and, and_true, or_true, true_or, or_false, false_or, false_and, and_false, not_true_eq_false, not_false_eq_true, implies_true, true_implies, false_implies, D1.2.2.1, p2_def]
  refine ⟨⟨hs.1, by omega⟩, ?_⟩
  refine up_loop (lo := 0) (hi := p2 (nS ρ)) (P := fun k => ∀ v m, ((v = p2 (nS ρ) - 1 ∧ m = nS ρ + 1 ∧ ∀ j, 0 ≤ j → j < k → ¬ enough ρ d j) ∨ (0 ≤ v ∧ v < k ∧ m = pcI v ∧ enough ρ d v ∧ (∀ j, 0 ≤ j → j < k → enough ρ d j → pcI v ≤ pcI j) ∧ ∀ j, 0 ≤ j → j < v → enough ρ d j → pcI v < pcI j)) → Run C_Re_fewestSigns (fun r M' => r = some (vI (red ρ d)) ∧ Kp (fun c => 120 ≤ c ∧ c ≤ 122) M M') 39 [vR 120, vI d, vI (p2 (nS ρ) - 1), vI v, vI m, vI k] [] M1) (fun k k0 kn ih v m hI => ?_) (by omega) _ _ (Or.inl ⟨rfl, rfl, fun j x y => by omega⟩)
  rw [r_Re_fewestSigns_39]
  simp only [r_Re_fewestSigns_41, r_Re_fewestSigns_42, r_Re_fewestSigns_45, r_Re_fewestSigns_46, r_Re_fewestSigns_49, r_Re_fewestSigns_51, r_Re_fewestSigns_52, r_Re_fewestSigns_53, r_Re_fewestSigns_54, r_Re_fewestSigns_57, r_Re_fewestSigns_59, r_Re_fewestSigns_62, r_Re_fewestSigns_64, r_Re_fewestSigns_67, r_Re_fewestSigns_68, r_Re_fewestSigns_70, r_Re_fewestSigns_73, r_Re_fewestSigns_76, r_Re_fewestSigns_78, r_Re_fewestSigns_79, r_Re_fewestSigns_81, r_Re_fewestSigns_84, r_Re_fewestSigns_86, r_Re_fewestSigns_89, true_and, and_true, or_true, true_or, or_false, false_or, false_and, and_false, not_true_eq_false, not_false_eq_true, implies_true, true_implies, false_implies]
  refine ⟨r32 (by omega) (by omega), r32 (by omega) (by omega), fun q => ?_, fun q => ?_⟩
  · simp only [r_Re_fewestSigns_92, r_Re_fewestSigns_93, true_and, and_true, or_true, true_or, or_false, false_or, false_and, and_false, not_true_eq_false, not_false_eq_true, implies_true, true_implies, false_implies]
    have ek : k = p2 (nS ρ) := by omega
    rw [ek] at hI
    rcases hI with ⟨-, -, hno⟩ | ⟨a1, a2, a3, a4, a5, a6⟩
    · exact absurd (enough_all hV d) (hno _ (by omega) (by omega))
    · rw [isRed_u ⟨a1, a2, a4, a5, a6⟩]
      exact ⟨rfl, k1⟩
  · have hm := iandn_bd (a := M1.1 120 4) (b := k) w1.1.1 (by have := w1.1.2; omega) k0
    have hm2 := w1.1
    have hpk := pcI_bd k
    have hpn : pcI k ≤ nS ρ := by
      rw [pcI_n (n := nS ρ) k0 hs.1 (by omega) (by omega)]
      exact (cntI_bd _ hs.1).2
    have hpv := pcI_bd v
    have hmr : 0 ≤ m ∧ m ≤ 31 := by
      rcases hI with z | z
      · omega
      · omega
    have skip : ¬ enough ρ d k ∨ m ≤ pcI k → Run C_Re_fewestSigns (fun r M' => r = some (vI (red ρ d)) ∧ Kp (fun c => 120 ≤ c ∧ c ≤ 122) M M') 39 [vR 120, vI d, vI (p2 (nS ρ) - 1), vI v, vI m, vI (k + 1)] [] M1 := fun z => by
      refine ih (by omega) v m ?_
      rcases hI with ⟨a1, a2, a3⟩ | ⟨a1, a2, a3, a4, a5, a6⟩
      · refine Or.inl ⟨a1, a2, fun j x y => ?_⟩
        by_cases z2 : j = k
        · rw [z2]; exact z.resolve_right (by omega)
        · exact a3 j x (by omega)
      · refine Or.inr ⟨a1, by omega, a3, a4, fun j x y w => ?_, a6⟩
        by_cases z2 : j = k
        · rw [z2] at w ⊢; have := z.resolve_left (fun y => y w); omega
        · exact a5 j x (by omega) w
    refine ⟨r32 (by omega) (by omega), fun q2 => skip (Or.inl (fun y => q2 ((o1 k k0 (by omega)).2 y).1)), fun q2 => ?_⟩
    refine Cal.I (bitCount_s M1 k0 (by omega)) ⟨r32 (by omega) (by omega), r32 (by omega) (by omega), fun q3 => skip (Or.inr q3), fun q3 => ?_⟩
    refine (keepsApart_s d0 d1 w1 (by decide) k0).Be (fun q4 => ?_) (fun q4 => skip (Or.inl (fun y => q4 (dec_t ((o1 k k0 (by omega)).2 y).2))))
    have he : enough ρ d k := (o1 k k0 (by omega)).1 ⟨Classical.not_not.1 q2, dec_iff.1 q4⟩
    refine Cal.I (bitCount_s M1 k0 (by omega)) (ih (by omega) k (pcI k) (Or.inr ⟨k0, by omega, rfl, he, fun j x y w => ?_, fun j x y w => ?_⟩))
    · rcases hI with ⟨a1, a2, a3⟩ | ⟨a1, a2, a3, a4, a5, a6⟩
      · by_cases z2 : j = k
        · rw [z2]; exact Int.le_refl _
        · exact absurd w (a3 j x (by omega))
      · by_cases z2 : j = k
        · rw [z2]; exact Int.le_refl _
        · have := a5 j x (by omega) w; omega
    · rcases hI with ⟨a1, a2, a3⟩ | ⟨a1, a2, a3, a4, a5, a6⟩
      · exact absurd w (a3 j x (by omega))
      · have := a5 j x (by omega) w; omega
