/-! the class's Codes: its list of small sets, and their codes -/
def LI (nc : Int) (M : Mem) (n K : Int) : Prop := M.1 111 9 = n ∧ (∀ i, 0 ≤ i → i < n → 0 < M.1 114 i ∧ M.1 114 i < p2 nc ∧ pcI (M.1 114 i) ≤ 3 ∧ skey (M.1 114 i) < K) ∧ ∀ i j, 0 ≤ i → i < j → j < n → skey (M.1 114 i) < skey (M.1 114 j)
def IN (M : Mem) (n s : Int) : Prop := ∃ i, 0 ≤ i ∧ i < n ∧ M.1 114 i = s
theorem LI.le {nc : Int} {M : Mem} {n K K' : Int} (h : LI nc M n K) (hK : K ≤ K') : LI nc M n K' := ⟨h.1, fun i a b => by have := h.2.1 i a b; exact ⟨this.1, this.2.1, this.2.2.1, by omega⟩, h.2.2⟩
theorem addSet_s {nc : Int} {M : Mem} {n K s : Int} (h : LI nc M n K) (n0 : 0 ≤ n) (n1 : n < 298) (s0 : 0 < s) (s1 : s < p2 nc) (s2 : pcI s ≤ 3) (hK : K ≤ skey s) : Cal Y_Co_addSet [vR 111, vI s] M (fun r M' => r = none ∧ LI nc M' (n + 1) (skey s + 1) ∧ IN M' (n + 1) s ∧ (∀ s', IN M n s' → IN M' (n + 1) s') ∧ (∀ i, ¬ i = 9 → M'.1 111 i = M.1 111 i) ∧ Kp (fun c => c = 111 ∨ c = 114) M M') := by
  obtain ⟨h1, h2, h3⟩ := h
  refine Cal.mk (y := Y_Co_addSet) (loc := [vR 111, vI s]) G_Co_addSet rfl (by decide) rfl rfl (Nat.le_of_ble_eq_true rfl) ?_
  simp only [r_Co_addSet_0, r_Co_addSet_1, r_Co_addSet_4, r_Co_addSet_7, r_Co_addSet_10, r_Co_addSet_11, r_Co_addSet_14, r_Co_addSet_15, r_Co_addSet_18, r_Co_addSet_19, r_Co_addSet_20, r_Co_addSet_21, r_Co_addSet_22, r_Co_addSet_25, r_Co_addSet_26, r_Co_addSet_27, r_Co_addSet_30, true_and, and_true, or_true, true_or, or_false, false_or, false_and, and_false, not_true_eq_false, not_false_eq_true, implies_true, true_implies, false_implies, h1]
  refine ⟨r32 (by omega) (by omega), r32 (by decide) (by decide), fun q => by omega, fun q => ⟨n0, by omega, ?_⟩⟩
  rw [wI_c (by decide), h1]
  generalize hM' : wI (wI M 114 n s) 111 9 (n + 1) = M'
  have e9 : M'.1 111 9 = n + 1 := by rw [← hM', wI_same]
  have e1 : ∀ i, ¬ i = 9 → M'.1 111 i = M.1 111 i := fun i z => by rw [← hM', wI_oth z, wI_c (by decide)]
  have e4 : ∀ i, M'.1 114 i = if i = n then s else M.1 114 i := fun i => by
    rw [← hM', wI_c (by decide), wI_at]
    by_cases y : i = n
    · rw [if_pos ⟨rfl, y⟩, if_pos y]
    · rw [if_neg (fun x => y x.2), if_neg y]
  refine ⟨⟨e9, fun i a b => ?_, fun i j a b c => ?_⟩, ⟨n, n0, by omega, by rw [e4, if_pos rfl]⟩, fun s' ⟨i, a, b, c⟩ => ⟨i, a, by omega, by rw [e4, if_neg (by omega)]; exact c⟩, e1, by rw [← hM']; exact Kp.w (Kp.w Kp.rf (Or.inr rfl)) (Or.inl rfl)⟩
  · rw [e4]
    by_cases z : i = n
    · rw [if_pos z]; exact ⟨s0, s1, s2, by omega⟩
    · rw [if_neg z]; have := h2 i a (by omega); exact ⟨this.1, this.2.1, this.2.2.1, by omega⟩
  · rw [e4, e4, if_neg (by omega)]
    by_cases z : j = n
    · rw [if_pos z]; have := h2 i a (by omega); omega
    · rw [if_neg z]; exact h3 i j a b (by omega)
theorem sum_mono {f : Int → Int} (hf : ∀ k, 0 ≤ k → 0 ≤ f k) {a b : Int} (a0 : 0 ≤ a) (h : a ≤ b) : sumI f a ≤ sumI f b := by
  have key : ∀ j : Int, 0 ≤ j → sumI f a ≤ sumI f (a + j) := by
    refine int_ind (by rw [Int.add_zero]; exact Int.le_refl _) (fun j hj ih => ?_)
    rw [show a + (j + 1) = a + j + 1 by omega, sumI_s f (by omega)]
    have := hf (a + j) (by omega)
    omega
  have := key (b - a) (by omega)
  rw [show a + (b - a) = b by omega] at this
  exact this
def ch2 (h : Int) : Int := sumI (fun k => k) h
def ch3 (h : Int) : Int := sumI ch2 h
theorem ch2_s {h : Int} (h0 : 0 ≤ h) : ch2 (h + 1) = ch2 h + h := sumI_s _ h0
theorem ch3_s {h : Int} (h0 : 0 ≤ h) : ch3 (h + 1) = ch3 h + ch2 h := sumI_s _ h0
theorem ch2_m {a b : Int} (a0 : 0 ≤ a) (h : a ≤ b) : ch2 a ≤ ch2 b := sum_mono (fun _ z => z) a0 h
theorem ch2_nn {a : Int} (a0 : 0 ≤ a) : 0 ≤ ch2 a := ch2_m (Int.le_refl 0) a0
theorem ch3_m {a b : Int} (a0 : 0 ≤ a) (h : a ≤ b) : ch3 a ≤ ch3 b := sum_mono (fun _ z => ch2_nn z) a0 h
theorem ch3_nn {a : Int} (a0 : 0 ≤ a) : 0 ≤ ch3 a := ch3_m (Int.le_refl 0) a0
theorem ch2_12 {n : Int} (a0 : 0 ≤ n) (h : n ≤ 12) : ch2 n ≤ 66 := by
  have := ch2_m a0 h
  have e : ch2 12 = 66 := by decide
  omega
theorem ch3_12 {n : Int} (a0 : 0 ≤ n) (h : n ≤ 12) : ch3 n ≤ 220 := by
  have := ch3_m a0 h
  have e : ch3 12 = 220 := by decide
  omega
theorem p2_0 : p2 0 = 1 := rfl
theorem listSets_s {nc : Int} {M : Mem} (n0 : 0 ≤ nc) (n1 : nc ≤ 12) (hn : M.1 97 0 = nc) : Cal Y_Co_listSets [vR 111] M (fun r M' => r = none ∧ (∃ n, 0 ≤ n ∧ n ≤ 298 ∧ LI nc M' n 16384 ∧ ∀ s, 0 < s → s < p2 nc → pcI s ≤ 3 → IN M' n s) ∧ (∀ i, ¬ i = 9 → M'.1 111 i = M.1 111 i) ∧ Kp (fun c => c = 111 ∨ c = 114) M M') := by
  have hp12 := p2_12 n1
  have c2 := ch2_12 n0 n1
  have c3 := ch3_12 n0 n1
  have c2n := ch2_nn n0
  have c3n := ch3_nn n0
  generalize hQ : (fun (r : Option Vl) (M' : Mem) => r = none ∧ (∃ n, 0 ≤ n ∧ n ≤ 298 ∧ LI nc M' n 16384 ∧ ∀ s, 0 < s → s < p2 nc → pcI s ≤ 3 → IN M' n s) ∧ (∀ i, ¬ i = 9 → M'.1 111 i = M.1 111 i) ∧ Kp (fun c => c = 111 ∨ c = 114) M M') = Q
  -- sets of three
  have L3 : ∀ M1 l2 l3, Kp (fun c => c = 111 ∨ c = 114) M M1 → (∀ i, ¬ i = 9 → M1.1 111 i = M.1 111 i) → LI nc M1 (nc + ch2 nc) (12288 + p2 0) → (∀ x, 0 ≤ x → x < nc → IN M1 (nc + ch2 nc) (p2 x)) → (∀ x y, 0 ≤ y → y < x → x < nc → IN M1 (nc + ch2 nc) (ior (p2 x) (p2 y))) → Run C_Co_listSets Q 76 [vR 111, vI 0, l2, l3] [] M1 := by
    intro M1 l2 l3 k1 f1 li1 a1 b1
    refine up_loop (lo := 0) (hi := nc) (P := fun h => ∀ M1 l2 l3, Kp (fun c => c = 111 ∨ c = 114) M M1 → (∀ i, ¬ i = 9 → M1.1 111 i = M.1 111 i) → LI nc M1 (nc + ch2 nc + ch3 h) (12288 + p2 h) → (∀ x, 0 ≤ x → x < nc → IN M1 (nc + ch2 nc + ch3 h) (p2 x)) → (∀ x y, 0 ≤ y → y < x → x < nc → IN M1 (nc + ch2 nc + ch3 h) (ior (p2 x) (p2 y))) → (∀ x y z, 0 ≤ z → z < y → y < x → x < h → IN M1 (nc + ch2 nc + ch3 h) (ior (ior (p2 x) (p2 y)) (p2 z))) → Run C_Co_listSets Q 76 [vR 111, vI h, l2, l3] [] M1) (fun h h0 hn' ih M1 l2 l3 k1 f1 li1 a1 b1 d1 => ?_) n0 M1 l2 l3 k1 f1 (by rw [show ch3 0 = 0 from rfl, Int.add_zero]; exact li1) (by rw [show ch3 0 = 0 from rfl, Int.add_zero]; exact a1) (by rw [show ch3 0 = 0 from rfl, Int.add_zero]; exact b1) (fun x y z p1 p2 p3 p4 => by omega)
    have e7 : M1.1 97 0 = nc := by rw [k1.at (by decide)]; exact hn
    rw [r_Co_listSets_76]
    simp only [r_Co_listSets_77, r_Co_listSets_78, r_Co_listSets_81, r_Co_listSets_84, r_Co_listSets_87, r_Co_listSets_88, true_and, and_true, or_true, true_or, or_false, false_or, false_and, and_false, not_true_eq_false, not_false_eq_true, implies_true, true_implies, false_implies, e7]
    refine ⟨r32 (by omega) (by omega), r32 (by omega) (by omega), fun q => ?_, fun q => ?_⟩
    · simp only [r_Co_listSets_134, true_and, and_true, or_true, true_or, or_false, false_or, false_and, and_false, not_true_eq_false, not_false_eq_true, implies_true, true_implies, false_implies]
      rw [← hQ]
      have eh : h = nc := by omega
      rw [eh] at li1 a1 b1 d1
      refine ⟨rfl, ⟨_, by omega, by omega, li1.le (by omega), fun s s0 s1 s2 => ?_⟩, f1, k1⟩
      obtain ⟨x, t, x0, x1, t0, t1, e⟩ := top_ex nc n0 (by omega) s s0 s1
      have hpt := pcI_bd t
      have hps : pcI s = 1 + pcI t := by rw [e, pcI_top x0 (by omega) t0 t1]
      rcases (show pcI s = 1 ∨ pcI s = 2 ∨ pcI s = 3 by omega) with z | z | z
      · obtain ⟨x, p1, p2, p3⟩ := form1 n0 (by omega) (by omega) s1 z
        rw [p3]; exact a1 x p1 p2
      · obtain ⟨x, y, p1, p2, p3, p4⟩ := form2 n0 (by omega) (by omega) s1 z
        rw [p4]; exact b1 x y p1 p2 p3
      · obtain ⟨x, y, w, p1, p2, p3, p4, p5⟩ := form3 n0 (by omega) (by omega) s1 z
        rw [p5, ← (three_v p1 p2 p3 (by omega)).2.2]; exact d1 x y w p1 p2 p3 p4
    · have m3 := ch3_m (a := h + 1) (b := nc) (by omega) (by omega)
      rw [ch3_s h0] at m3
      have m3n := ch3_nn h0
      refine up_loop (lo := 0) (hi := h) (P := fun m => ∀ M2 l3, Kp (fun c => c = 111 ∨ c = 114) M M2 → (∀ i, ¬ i = 9 → M2.1 111 i = M.1 111 i) → LI nc M2 (nc + ch2 nc + ch3 h + ch2 m) (12288 + p2 h + p2 m) → (∀ x, 0 ≤ x → x < nc → IN M2 (nc + ch2 nc + ch3 h + ch2 m) (p2 x)) → (∀ x y, 0 ≤ y → y < x → x < nc → IN M2 (nc + ch2 nc + ch3 h + ch2 m) (ior (p2 x) (p2 y))) → (∀ x y z, 0 ≤ z → z < y → y < x → (x < h ∨ (x = h ∧ y < m)) → IN M2 (nc + ch2 nc + ch3 h + ch2 m) (ior (ior (p2 x) (p2 y)) (p2 z))) → Run C_Co_listSets Q 89 [vR 111, vI h, vI m, l3] [] M2) (fun m m0 mn ih2 M2 l3 k2 f2 li2 a2 b2 d2 => ?_) h0 M1 l3 k1 f1 (by rw [show ch2 0 = 0 from rfl, Int.add_zero]; exact li1.le (by have := p2_pos 0; omega)) (by rw [show ch2 0 = 0 from rfl, Int.add_zero]; exact a1) (by rw [show ch2 0 = 0 from rfl, Int.add_zero]; exact b1) (by rw [show ch2 0 = 0 from rfl, Int.add_zero]; exact fun x y z p1 p2 p3 p4 => d1 x y z p1 p2 p3 (by omega))
      rw [r_Co_listSets_89]
      simp only [r_Co_listSets_90, r_Co_listSets_91, r_Co_listSets_94, r_Co_listSets_95, true_and, and_true, or_true, true_or, or_false, false_or, false_and, and_false, not_true_eq_false, not_false_eq_true, implies_true, true_implies, false_implies]
      refine ⟨r32 (by omega) (by omega), r32 (by omega) (by omega), fun q2 => ?_, fun q2 => ?_⟩
      · simp only [r_Co_listSets_128, r_Co_listSets_131, true_and, and_true, or_true, true_or, or_false, false_or, false_and, and_false, not_true_eq_false, not_false_eq_true, implies_true, true_implies, false_implies]
        have em : m = h := by omega
        rw [em] at li2 a2 b2 d2
        have es : nc + ch2 nc + ch3 (h + 1) = nc + ch2 nc + ch3 h + ch2 h := by rw [ch3_s h0]; omega
        refine ih (by omega) M2 _ _ k2 f2 ?_ ?_ ?_ ?_
        · rw [es]; exact li2.le (by rw [p2_s h0]; omega)
        · rw [es]; exact a2
        · rw [es]; exact b2
        · rw [es]; exact fun x y z p1 p2 p3 p4 => d2 x y z p1 p2 p3 (by omega)
      · have m2 := ch2_m (a := m + 1) (b := h) (by omega) (by omega)
        rw [ch2_s m0] at m2
        have m2n := ch2_nn m0
        refine up_loop (lo := 0) (hi := m) (P := fun l => ∀ M3, Kp (fun c => c = 111 ∨ c = 114) M M3 → (∀ i, ¬ i = 9 → M3.1 111 i = M.1 111 i) → LI nc M3 (nc + ch2 nc + ch3 h + ch2 m + l) (12288 + p2 h + p2 m + p2 l) → (∀ x, 0 ≤ x → x < nc → IN M3 (nc + ch2 nc + ch3 h + ch2 m + l) (p2 x)) → (∀ x y, 0 ≤ y → y < x → x < nc → IN M3 (nc + ch2 nc + ch3 h + ch2 m + l) (ior (p2 x) (p2 y))) → (∀ x y z, 0 ≤ z → z < y → y < x → (x < h ∨ (x = h ∧ y < m) ∨ (x = h ∧ y = m ∧ z < l)) → IN M3 (nc + ch2 nc + ch3 h + ch2 m + l) (ior (ior (p2 x) (p2 y)) (p2 z))) → Run C_Co_listSets Q 96 [vR 111, vI h, vI m, vI l] [] M3) (fun l l0 ln ih3 M3 k3 f3 li3 a3 b3 d3 => ?_) m0 M2 k2 f2 (by rw [Int.add_zero]; exact li2.le (by have := p2_pos 0; omega)) (by rw [Int.add_zero]; exact a2) (by rw [Int.add_zero]; exact b2) (by rw [Int.add_zero]; exact fun x y z p1 p2 p3 p4 => d2 x y z p1 p2 p3 (by omega))
        rw [r_Co_listSets_96]
        simp only [r_Co_listSets_97, r_Co_listSets_98, r_Co_listSets_101, r_Co_listSets_102, r_Co_listSets_103, r_Co_listSets_104, r_Co_listSets_105, r_Co_listSets_106, r_Co_listSets_107, r_Co_listSets_108, r_Co_listSets_109, r_Co_listSets_110, r_Co_listSets_111, r_Co_listSets_112, r_Co_listSets_113, r_Co_listSets_116, r_Co_listSets_119, true_and, and_true, or_true, true_or, or_false, false_or, false_and, and_false, not_true_eq_false, not_false_eq_true, implies_true, true_implies, false_implies, p2_def]
        refine ⟨r32 (by omega) (by omega), r32 (by omega) (by omega), fun q3 => ?_, fun q3 => ⟨⟨h0, by omega⟩, ⟨m0, by omega⟩, ⟨l0, by omega⟩, ?_⟩⟩
        · simp only [r_Co_listSets_122, r_Co_listSets_125, true_and, and_true, or_true, true_or, or_false, false_or, false_and, and_false, not_true_eq_false, not_false_eq_true, implies_true, true_implies, false_implies]
          have el : l = m := by omega
          rw [el] at li3 a3 b3 d3
          have es : nc + ch2 nc + ch3 h + ch2 (m + 1) = nc + ch2 nc + ch3 h + ch2 m + m := by rw [ch2_s m0]; omega
          refine ih2 (by omega) M3 _ k3 f3 ?_ ?_ ?_ ?_
          · rw [es]; exact li3.le (by rw [p2_s m0]; omega)
          · rw [es]; exact a3
          · rw [es]; exact b3
          · rw [es]; exact fun x y z p1 p2 p3 p4 => d3 x y z p1 p2 p3 (by omega)
        · have tv := three_v (h := h) (m := m) (l := l) l0 (by omega) (by omega) (by omega)
          have pl := p2_pos l
          have pm := p2_lt l0 (show l < m by omega)
          have ph := p2_mono (show m + 1 ≤ h by omega)
          rw [p2_s m0] at ph
          have pn := p2_mono (show h + 1 ≤ nc by omega)
          rw [p2_s h0] at pn
          have sk : skey (ior (ior (p2 h) (p2 m)) (p2 l)) = 12288 + p2 h + p2 m + p2 l := by unfold skey; rw [tv.2.1, tv.1]; omega
          refine (addSet_s li3 (by omega) (by omega) (s := ior (ior (p2 h) (p2 m)) (p2 l)) (by omega) (by omega) (by omega) (by omega)).mono ?_
          rintro _ M4 ⟨rfl, li4, i4, j4, f4, k4⟩
          refine ⟨rfl, ih3 (by omega) M4 (k3.trans k4) (fun i z => by rw [f4 i z]; exact f3 i z) ?_ ?_ ?_ ?_⟩
          · rw [show nc + ch2 nc + ch3 h + ch2 m + (l + 1) = nc + ch2 nc + ch3 h + ch2 m + l + 1 by omega]
            exact li4.le (by rw [sk, p2_s l0]; omega)
          · rw [show nc + ch2 nc + ch3 h + ch2 m + (l + 1) = nc + ch2 nc + ch3 h + ch2 m + l + 1 by omega]
            exact fun x p1 p2 => j4 _ (a3 x p1 p2)
          · rw [show nc + ch2 nc + ch3 h + ch2 m + (l + 1) = nc + ch2 nc + ch3 h + ch2 m + l + 1 by omega]
            exact fun x y p1 p2 p3 => j4 _ (b3 x y p1 p2 p3)
          · rw [show nc + ch2 nc + ch3 h + ch2 m + (l + 1) = nc + ch2 nc + ch3 h + ch2 m + l + 1 by omega]
            intro x y z p1 p2 p3 p4
            by_cases w : x = h ∧ y = m ∧ z = l
            · rw [w.1, w.2.1, w.2.2]; exact i4
            · exact j4 _ (d3 x y z p1 p2 p3 (by omega))
  -- sets of two
  have L2 : ∀ M1 l2 l3, Kp (fun c => c = 111 ∨ c = 114) M M1 → (∀ i, ¬ i = 9 → M1.1 111 i = M.1 111 i) → LI nc M1 nc (8192 + p2 0) → (∀ x, 0 ≤ x → x < nc → IN M1 nc (p2 x)) → Run C_Co_listSets Q 33 [vR 111, vI 0, l2, l3] [] M1 := by
    intro M1 l2 l3 k1 f1 li1 a1
    refine up_loop (lo := 0) (hi := nc) (P := fun h => ∀ M1 l2, Kp (fun c => c = 111 ∨ c = 114) M M1 → (∀ i, ¬ i = 9 → M1.1 111 i = M.1 111 i) → LI nc M1 (nc + ch2 h) (8192 + p2 h) → (∀ x, 0 ≤ x → x < nc → IN M1 (nc + ch2 h) (p2 x)) → (∀ x y, 0 ≤ y → y < x → x < h → IN M1 (nc + ch2 h) (ior (p2 x) (p2 y))) → Run C_Co_listSets Q 33 [vR 111, vI h, l2, l3] [] M1) (fun h h0 hn' ih M1 l2 k1 f1 li1 a1 b1 => ?_) n0 M1 l2 k1 f1 (by rw [show ch2 0 = 0 from rfl, Int.add_zero]; exact li1) (by rw [show ch2 0 = 0 from rfl, Int.add_zero]; exact a1) (fun x y p1 p2 p3 => by omega)
    have e7 : M1.1 97 0 = nc := by rw [k1.at (by decide)]; exact hn
    rw [r_Co_listSets_33]
    simp only [r_Co_listSets_34, r_Co_listSets_35, r_Co_listSets_38, r_Co_listSets_41, r_Co_listSets_44, r_Co_listSets_45, true_and, and_true, or_true, true_or, or_false, false_or, false_and, and_false, not_true_eq_false, not_false_eq_true, implies_true, true_implies, false_implies, e7]
    refine ⟨r32 (by omega) (by omega), r32 (by omega) (by omega), fun q => ?_, fun q => ?_⟩
    · simp only [r_Co_listSets_74, r_Co_listSets_75, true_and, and_true, or_true, true_or, or_false, false_or, false_and, and_false, not_true_eq_false, not_false_eq_true, implies_true, true_implies, false_implies]
      have eh : h = nc := by omega
      rw [eh] at li1 a1 b1
      exact L3 M1 _ _ k1 f1 (li1.le (by have := p2_pos 0; omega)) a1 b1
    · have m2 := ch2_m (a := h + 1) (b := nc) (by omega) (by omega)
      rw [ch2_s h0] at m2
      have m2n := ch2_nn h0
      refine up_loop (lo := 0) (hi := h) (P := fun l => ∀ M3, Kp (fun c => c = 111 ∨ c = 114) M M3 → (∀ i, ¬ i = 9 → M3.1 111 i = M.1 111 i) → LI nc M3 (nc + ch2 h + l) (8192 + p2 h + p2 l) → (∀ x, 0 ≤ x → x < nc → IN M3 (nc + ch2 h + l) (p2 x)) → (∀ x y, 0 ≤ y → y < x → (x < h ∨ (x = h ∧ y < l)) → IN M3 (nc + ch2 h + l) (ior (p2 x) (p2 y))) → Run C_Co_listSets Q 46 [vR 111, vI h, vI l, l3] [] M3) (fun l l0 ln ih3 M3 k3 f3 li3 a3 b3 => ?_) h0 M1 k1 f1 (by rw [Int.add_zero]; exact li1.le (by have := p2_pos 0; omega)) (by rw [Int.add_zero]; exact a1) (by rw [Int.add_zero]; exact fun x y p1 p2 p3 => b1 x y p1 p2 (by omega))
      rw [r_Co_listSets_46]
      simp only [r_Co_listSets_47, r_Co_listSets_48, r_Co_listSets_51, r_Co_listSets_52, r_Co_listSets_53, r_Co_listSets_54, r_Co_listSets_55, r_Co_listSets_56, r_Co_listSets_57, r_Co_listSets_58, r_Co_listSets_59, r_Co_listSets_62, r_Co_listSets_65, true_and, and_true, or_true, true_or, or_false, false_or, false_and, and_false, not_true_eq_false, not_false_eq_true, implies_true, true_implies, false_implies, p2_def]
      refine ⟨r32 (by omega) (by omega), r32 (by omega) (by omega), fun q3 => ?_, fun q3 => ⟨⟨h0, by omega⟩, ⟨l0, by omega⟩, ?_⟩⟩
      · simp only [r_Co_listSets_68, r_Co_listSets_71, true_and, and_true, or_true, true_or, or_false, false_or, false_and, and_false, not_true_eq_false, not_false_eq_true, implies_true, true_implies, false_implies]
        have el : l = h := by omega
        rw [el] at li3 a3 b3
        have es : nc + ch2 (h + 1) = nc + ch2 h + h := by rw [ch2_s h0]; omega
        refine ih (by omega) M3 _ k3 f3 ?_ ?_ ?_
        · rw [es]; exact li3.le (by rw [p2_s h0]; omega)
        · rw [es]; exact a3
        · rw [es]; exact fun x y p1 p2 p3 => b3 x y p1 p2 (by omega)
      · have tv := two_v (h := h) (l := l) l0 (by omega) (by omega)
        have pl := p2_pos l
        have pm := p2_lt l0 (show l < h by omega)
        have pn := p2_mono (show h + 1 ≤ nc by omega)
        rw [p2_s h0] at pn
        have sk : skey (ior (p2 h) (p2 l)) = 8192 + p2 h + p2 l := by unfold skey; rw [tv.2, tv.1]; omega
        refine (addSet_s li3 (by omega) (by omega) (s := ior (p2 h) (p2 l)) (by omega) (by omega) (by omega) (by omega)).mono ?_
        rintro _ M4 ⟨rfl, li4, i4, j4, f4, k4⟩
        refine ⟨rfl, ih3 (by omega) M4 (k3.trans k4) (fun i z => by rw [f4 i z]; exact f3 i z) ?_ ?_ ?_⟩
        · rw [show nc + ch2 h + (l + 1) = nc + ch2 h + l + 1 by omega]
          exact li4.le (by rw [sk, p2_s l0]; omega)
        · rw [show nc + ch2 h + (l + 1) = nc + ch2 h + l + 1 by omega]
          exact fun x p1 p2 => j4 _ (a3 x p1 p2)
        · rw [show nc + ch2 h + (l + 1) = nc + ch2 h + l + 1 by omega]
          intro x y p1 p2 p3
          by_cases w : x = h ∧ y = l
          · rw [w.1, w.2]; exact i4
          · exact j4 _ (b3 x y p1 p2 (by omega))
  refine Cal.mk (y := Y_Co_listSets) (loc := [vR 111, vN, vN, vN]) G_Co_listSets rfl (by decide) rfl rfl (Nat.le_of_ble_eq_true rfl) ?_
  simp only [r_Co_listSets_0, r_Co_listSets_1, r_Co_listSets_2, r_Co_listSets_5, r_Co_listSets_6, true_and, and_true, or_true, true_or, or_false, false_or, false_and, and_false, not_true_eq_false, not_false_eq_true, implies_true, true_implies, false_implies]
  refine up_loop (lo := 0) (hi := nc) (P := fun h => ∀ M1, Kp (fun c => c = 111 ∨ c = 114) M M1 → (∀ i, ¬ i = 9 → M1.1 111 i = M.1 111 i) → LI nc M1 h (4096 + p2 h) → (∀ x, 0 ≤ x → x < h → IN M1 h (p2 x)) → Run C_Co_listSets Q 7 [vR 111, vI h, vN, vN] [] M1) (fun h h0 hn' ih M1 k1 f1 li1 a1 => ?_) n0 _ (Kp.w Kp.rf (Or.inl rfl)) (fun i z => wI_oth z) ⟨wI_same _ _ _ _, fun i a b => by omega, fun i j a b c => by omega⟩ (fun x a b => by omega)
  have e7 : M1.1 97 0 = nc := by rw [k1.at (by decide)]; exact hn
  rw [r_Co_listSets_7]
  simp only [r_Co_listSets_8, r_Co_listSets_9, r_Co_listSets_12, r_Co_listSets_15, r_Co_listSets_18, r_Co_listSets_19, r_Co_listSets_20, r_Co_listSets_21, r_Co_listSets_22, r_Co_listSets_25, r_Co_listSets_28, true_and, and_true, or_true, true_or, or_false, false_or, false_and, and_false, not_true_eq_false, not_false_eq_true, implies_true, true_implies, false_implies, e7, p2_def]
  refine ⟨r32 (by omega) (by omega), r32 (by omega) (by omega), fun q => ?_, fun q => ⟨⟨h0, by omega⟩, ?_⟩⟩
  · simp only [r_Co_listSets_31, r_Co_listSets_32, true_and, and_true, or_true, true_or, or_false, false_or, false_and, and_false, not_true_eq_false, not_false_eq_true, implies_true, true_implies, false_implies]
    have eh : h = nc := by omega
    rw [eh] at li1 a1
    exact L2 M1 _ _ k1 f1 (li1.le (by have := p2_pos 0; omega)) a1
  · have ph := p2_pos h
    have pn := p2_lt h0 (show h < nc by omega)
    have pc := pcI_p2 h0 (by omega)
    have sk : skey (p2 h) = 4096 + p2 h := by unfold skey; rw [pc]; omega
    refine (addSet_s li1 h0 (by omega) (s := p2 h) ph pn (by omega) (by omega)).mono ?_
    rintro _ M4 ⟨rfl, li4, i4, j4, f4, k4⟩
    refine ⟨rfl, ih (by omega) M4 (k1.trans k4) (fun i z => by rw [f4 i z]; exact f1 i z) (li4.le (by rw [sk, p2_s h0]; omega)) (fun x p1 p2 => ?_)⟩
    by_cases w : x = h
    · rw [w]; exact i4
    · exact j4 _ (a1 x p1 (by omega))
