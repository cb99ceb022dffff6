/-! sets of few causes, as mathematics -/
theorem ior_add {h s : Int} (h0 : 0 ≤ h) (h1 : h ≤ 29) (s0 : 0 ≤ s) (s1 : s < p2 h) : ior (p2 h) s = p2 h + s := by
  have hp := p2_31 (n := h) (by omega)
  obtain ⟨k, rfl⟩ := Int.eq_ofNat_of_zero_le h0
  obtain ⟨x, rfl⟩ := Int.eq_ofNat_of_zero_le s0
  rw [p2_cast, Int.toNat_natCast] at s1 hp ⊢
  have e := Nat.two_pow_add_eq_or_of_lt (i := k) (b := x) (by omega) 1
  rw [Nat.mul_one] at e
  rw [iorN (by omega) (by omega), ← e]
  omega
theorem cnt_one : ∀ n : Int, 0 ≤ n → cntI (fun i => decide (i = 0)) (1 + n) = 1 := by
  refine int_ind rfl (fun n hn ih => ?_)
  rw [show 1 + (n + 1) = 1 + n + 1 by omega, cntI_s _ (by omega), ih, decide_eq_false (by omega)]
  rfl
theorem pcI_top {h s : Int} (h0 : 0 ≤ h) (h1 : h ≤ 29) (s0 : 0 ≤ s) (s1 : s < p2 h) : pcI (ior (p2 h) s) = 1 + pcI s := by
  have hp := p2_31 (n := h) (by omega)
  have hq := p2_pos h
  rw [pcI_n (v := s) (n := h) s0 h0 (by omega) s1]
  unfold pcI
  have e := cntI_split (fun i => bit (ior (p2 h) s) i) (a := h) (b := 1 + (30 - h)) h0 (by omega)
  rw [show h + (1 + (30 - h)) = 31 by omega] at e
  rw [e, cntI_cong (q := fun i => bit s i) h0 (fun i a b => ?_), cntI_cong (p := fun i => bit (ior (p2 h) s) (h + i)) (q := fun i => decide (i = 0)) (by omega) (fun i a b => ?_), cnt_one _ (by omega)]
  · omega
  · rw [bit_ior (by omega) hp s0 (by omega), bit_p2 h0 (by omega), bit_hi s0 s1 (by omega), Bool.or_false]
    congr 1
    exact propext ⟨fun z => by omega, fun z => by omega⟩
  · rw [bit_ior (by omega) hp s0 (by omega), bit_p2 h0 a, decide_eq_false (by omega), Bool.false_or]
theorem top_ex : ∀ n : Int, 0 ≤ n → n ≤ 29 → ∀ s, 0 < s → s < p2 n → ∃ h t, 0 ≤ h ∧ h < n ∧ 0 ≤ t ∧ t < p2 h ∧ s = ior (p2 h) t := by
  refine int_ind (fun _ s s0 s1 => ?_) (fun n hn ih h s s0 s1 => ?_)
  · rw [show p2 0 = 1 from rfl] at s1; omega
  · rw [p2_s hn] at s1
    rcases Int.lt_or_le s (p2 n) with q | q
    · obtain ⟨k, t, a, b, c⟩ := ih (by omega) s s0 q
      exact ⟨k, t, a, by omega, c⟩
    · exact ⟨n, s - p2 n, hn, by omega, by omega, by omega, by rw [ior_add hn (by omega) (by omega) (by omega)]; omega⟩
theorem pcI_z : pcI 0 = 0 := by decide
theorem ior_0 {a : Int} (h0 : 0 ≤ a) (h1 : a < 2147483648) : ior a 0 = a := by
  have hb := ior_bd (n := 31) (by decide) h0 (by omega) (show (0 : Int) ≤ 0 by decide) (by decide)
  apply bit_ext hb.1 h0
  intro i hi
  rw [bit_ior h0 h1 (by decide) (by decide), bit_0, Bool.or_false]
theorem ior_as {a b c : Int} (a0 : 0 ≤ a) (a1 : a < 1073741824) (b0 : 0 ≤ b) (b1 : b < 1073741824) (c0 : 0 ≤ c) (c1 : c < 1073741824) : ior (ior a b) c = ior a (ior b c) := by
  have h1 := ior_bd (n := 30) (by decide) a0 (by omega) b0 (by omega)
  have h2 := ior_bd (n := 30) (by decide) b0 (by omega) c0 (by omega)
  have e30 : (2 : Int) ^ 30 = 1073741824 := by decide
  rw [e30] at h1 h2
  have h3 := ior_bd (n := 30) (by decide) h1.1 (by omega) c0 (by omega)
  have h4 := ior_bd (n := 30) (by decide) a0 (by omega) h2.1 (by omega)
  apply bit_ext h3.1 h4.1
  intro i hi
  rw [bit_ior h1.1 (by omega) c0 (by omega), bit_ior a0 (by omega) b0 (by omega), bit_ior a0 (by omega) h2.1 (by omega), bit_ior b0 (by omega) c0 (by omega), Bool.or_assoc]
theorem form1 {n s : Int} (n0 : 0 ≤ n) (n1 : n ≤ 29) (s0 : 0 ≤ s) (s1 : s < p2 n) (hp : pcI s = 1) : ∃ h, 0 ≤ h ∧ h < n ∧ s = p2 h := by
  by_cases z : s = 0
  · rw [z, pcI_z] at hp; omega
  · obtain ⟨h, t, a, b, c, d, e⟩ := top_ex n n0 n1 s (by omega) s1
    rw [e, pcI_top a (by omega) c d] at hp
    by_cases y : t = 0
    · rw [y, ior_0 (by have := p2_pos h; omega) (p2_31 (by omega))] at e
      exact ⟨h, a, b, e⟩
    · obtain ⟨h2, t2, a2, b2, c2, d2, e2⟩ := top_ex h a (by omega) t (by omega) d
      have := pcI_bd t2
      rw [e2, pcI_top a2 (by omega) c2 d2] at hp
      omega
theorem form2 {n s : Int} (n0 : 0 ≤ n) (n1 : n ≤ 29) (s0 : 0 ≤ s) (s1 : s < p2 n) (hp : pcI s = 2) : ∃ h l, 0 ≤ l ∧ l < h ∧ h < n ∧ s = ior (p2 h) (p2 l) := by
  by_cases z : s = 0
  · rw [z, pcI_z] at hp; omega
  · obtain ⟨h, t, a, b, c, d, e⟩ := top_ex n n0 n1 s (by omega) s1
    rw [e, pcI_top a (by omega) c d] at hp
    obtain ⟨l, x, y, w⟩ := form1 a (by omega) c d (by omega)
    exact ⟨h, l, x, y, b, by rw [e, w]⟩
theorem form3 {n s : Int} (n0 : 0 ≤ n) (n1 : n ≤ 29) (s0 : 0 ≤ s) (s1 : s < p2 n) (hp : pcI s = 3) : ∃ h m l, 0 ≤ l ∧ l < m ∧ m < h ∧ h < n ∧ s = ior (p2 h) (ior (p2 m) (p2 l)) := by
  by_cases z : s = 0
  · rw [z, pcI_z] at hp; omega
  · obtain ⟨h, t, a, b, c, d, e⟩ := top_ex n n0 n1 s (by omega) s1
    rw [e, pcI_top a (by omega) c d] at hp
    obtain ⟨m, l, x, y, w, v⟩ := form2 a (by omega) c d (by omega)
    exact ⟨h, m, l, x, y, w, b, by rw [e, v]⟩
theorem pcI_p2 {h : Int} (h0 : 0 ≤ h) (h1 : h ≤ 29) : pcI (p2 h) = 1 := by
  have := pcI_top h0 h1 (s := 0) (by decide) (p2_pos h)
  rw [ior_0 (by have := p2_pos h; omega) (p2_31 (by omega)), pcI_z] at this
  exact this
/-- two, three bits: value and number -/
theorem two_v {h l : Int} (l0 : 0 ≤ l) (l1 : l < h) (h1 : h ≤ 29) : ior (p2 h) (p2 l) = p2 h + p2 l ∧ pcI (ior (p2 h) (p2 l)) = 2 := by
  have := p2_pos l
  have := p2_lt l0 l1
  exact ⟨ior_add (by omega) h1 (by omega) (by omega), by rw [pcI_top (by omega) h1 (by omega) (by omega), pcI_p2 l0 (by omega)]; rfl⟩
theorem three_v {h m l : Int} (l0 : 0 ≤ l) (l1 : l < m) (m1 : m < h) (h1 : h ≤ 29) : ior (ior (p2 h) (p2 m)) (p2 l) = p2 h + (p2 m + p2 l) ∧ pcI (ior (ior (p2 h) (p2 m)) (p2 l)) = 3 ∧ ior (ior (p2 h) (p2 m)) (p2 l) = ior (p2 h) (ior (p2 m) (p2 l)) := by
  have a1 := p2_pos l
  have a2 := p2_lt l0 l1
  have a3 := p2_lt (show 0 ≤ m by omega) m1
  have a4 := p2_mono h1
  have a5 : p2 29 = 536870912 := by decide
  have a6 := p2_mono (show m + 1 ≤ h by omega)
  rw [p2_s (by omega)] at a6
  have t := two_v l0 l1 (by omega)
  have e := ior_as (a := p2 h) (b := p2 m) (c := p2 l) (by omega) (by omega) (by omega) (by omega) (by omega) (by omega)
  refine ⟨?_, ?_, e⟩
  · rw [e, t.1, ior_add (by omega) h1 (by omega) (by omega)]
  · rw [e, pcI_top (by omega) h1 (by rw [t.1]; omega) (by rw [t.1]; omega), t.2]; rfl
/-! no rule of several: the spread of a set is that of its causes -/
theorem sp_anti {τ : Rw} (hV : VR τ) {w S S' : Int} (h : ∀ c, 0 ≤ c → bit S' c = true → bit S c = true) {f : Int} (f0 : 0 ≤ f) (f1 : f < 80) : sp τ w S f ≤ sp τ w S' f := by
  refine (sp_max hV w S' f0 f1).2 _ ⟨(sp_clo hV w S).1, fun g a b c => (sp_clo hV w S).2.1 g a b ⟨c.1, c.2.1, h _ (cntI_bd _ a).1 c.2.2⟩, (sp_clo hV w S).2.2⟩
noncomputable def spU (τ : Rw) (w S f : Int) : Int := mn (fun c => if bit S c = true then sp τ w (p2 c) f else 1000000) 1000000 (nC τ)
theorem Br_one {τ : Rw} {w r o t : Int} {T : Int → Int} (hs : τ (76 + 5 * r) < 3) (hs0 : 0 ≤ τ (76 + 5 * r)) (hV : VR τ) (ho : 0 ≤ o) (ho2 : o < τ 0) (hB : Br τ w T r o t) : ∃ x, 0 ≤ x ∧ x < τ 0 ∧ T (8 * x + τ (77 + 5 * r) % 8) + τ (80 + 5 * r) ≤ t ∧ ∀ T' : Int → Int, T' (8 * x + τ (77 + 5 * r) % 8) + τ (80 + 5 * r) ≤ t → Br τ w T' r o t := by
  unfold Br at hB
  split at hB
  · rename_i q
    exact ⟨o, ho, ho2, hB.2, fun T' z => by unfold Br; rw [if_pos q]; exact ⟨hB.1, z⟩⟩
  · rename_i q
    have hB2 := hB.2
    rw [if_neg (by omega), if_neg (by omega)] at hB2
    obtain ⟨x, a, b⟩ := hB2
    refine ⟨x, (src_bd hV a).1, (src_bd hV a).2, b, fun T' z => ?_⟩
    unfold Br
    rw [if_neg q, if_neg (by omega), if_neg (by omega)]
    exact ⟨hB.1, x, a, z⟩
theorem sp_union {τ : Rw} (hV : VR τ) {w S : Int} (hr : ∀ r, 0 ≤ r → r < τ 2 → τ (76 + 5 * r) < 3) {f : Int} (f0 : 0 ≤ f) (f1 : f < 80) : (sp τ w S f < 1000000 ↔ ∃ c, 0 ≤ c ∧ c < nC τ ∧ bit S c = true ∧ sp τ w (p2 c) f < 1000000) := by
  have hc := nC_bd hV
  have hn := hV.1
  constructor
  · intro h
    have hC : Clo τ w S (spU τ w S) := by
      refine ⟨fun g a b => (mn_sp _ _ _ hc.1).1, fun g a b d => ?_, fun r o t r0 r1 o0 o1 ht hB => ?_⟩
      · have hk := cntI_bd (isC τ) a
        have hl := cntI_lt a d.1 d.2.1
        have h1 := (mn_sp (fun c => if bit S c = true then sp τ w (p2 c) g else 1000000) 1000000 (nC τ) hc.1).2.1 (cntI (isC τ) g) hk.1 hl
        rw [if_pos d.2.2] at h1
        have h2 := (sp_clo hV w (p2 (cntI (isC τ) g))).2.1 g a b ⟨d.1, d.2.1, by rw [bit_p2 hk.1 hk.1, decide_eq_true rfl]⟩
        unfold spU
        omega
      · have hv := hV.2.2.2.2.2.2.2.1 r r0 r1
        obtain ⟨x, x0, x1, x2, x3⟩ := Br_one (hr r r0 r1) hv.1.1 hV o0 o1 hB
        rcases (mn_sp (fun c => if bit S c = true then sp τ w (p2 c) (8 * x + τ (77 + 5 * r) % 8) else 1000000) 1000000 (nC τ) hc.1).2.2 with z | ⟨c, a, b, z⟩
        · unfold spU at x2; omega
        · by_cases y : bit S c = true
          · rw [if_pos y] at z
            have hB2 := x3 (sp τ w (p2 c)) (by rw [z]; exact x2)
            have h2 := (sp_clo hV w (p2 c)).2.2 r o t r0 r1 o0 o1 ht hB2
            have h1 := (mn_sp (fun c => if bit S c = true then sp τ w (p2 c) (8 * o + τ (79 + 5 * r) % 8) else 1000000) 1000000 (nC τ) hc.1).2.1 c a b
            rw [if_pos y] at h1
            unfold spU
            omega
          · rw [if_neg y] at z
            unfold spU at x2
            omega
    have h1 := (sp_max hV w S f0 f1).2 _ hC
    rcases (mn_sp (fun c => if bit S c = true then sp τ w (p2 c) f else 1000000) 1000000 (nC τ) hc.1).2.2 with z | ⟨c, a, b, z⟩
    · unfold spU at h1; omega
    · by_cases y : bit S c = true
      · rw [if_pos y] at z
        exact ⟨c, a, b, y, by unfold spU at h1; omega⟩
      · rw [if_neg y] at z
        unfold spU at h1
        omega
  · rintro ⟨c, a, b, y, z⟩
    have := sp_anti hV (w := w) (S := S) (S' := p2 c) (fun i i0 q => by
      rw [bit_p2 a i0, decide_eq_true_eq] at q
      rw [q]; exact y) f0 f1
    omega
theorem un_bit {ρ : Rw} (hV : VR ρ) (S : Int) {i : Int} (hi : 0 ≤ i) : ∀ n : Int, 0 ≤ n → (bit (foI (unS ρ S) 0 n) i = true ↔ ∃ c, 0 ≤ c ∧ c < n ∧ bit S c = true ∧ bit (gC ρ c) i = true) := by
  refine int_ind ?_ (fun n hn ih => ?_)
  · rw [foI_0, bit_0]
    exact ⟨fun z => Bool.noConfusion z, fun ⟨c, a, b, _⟩ => by omega⟩
  · have hu := un_bd hV S n hn
    have hg := gC_bd hV n
    rw [foI_s _ _ hn]
    by_cases y : bit S n = true
    · rw [show unS ρ S n (foI (unS ρ S) 0 n) = ior (foI (unS ρ S) 0 n) (gC ρ n) from if_pos y, bit_ior hu.1 (by omega) hg.1 (by omega), Bool.or_eq_true, ih]
      constructor
      · rintro (⟨c, a, b, d⟩ | z)
        · exact ⟨c, a, by omega, d⟩
        · exact ⟨n, hn, by omega, y, z⟩
      · rintro ⟨c, a, b, d, e⟩
        by_cases z : c = n
        · rw [z] at e; exact Or.inr e
        · exact Or.inl ⟨c, a, by omega, d, e⟩
    · rw [show unS ρ S n (foI (unS ρ S) 0 n) = foI (unS ρ S) 0 n from if_neg y, ih]
      constructor
      · rintro ⟨c, a, b, d⟩; exact ⟨c, a, by omega, d⟩
      · rintro ⟨c, a, b, d, e⟩
        by_cases z : c = n
        · rw [z] at d; exact absurd d y
        · exact ⟨c, a, by omega, d, e⟩
theorem un_cod {ρ : Rw} (hV : VR ρ) (hr : ∀ r, 0 ≤ r → r < ρ 2 → ρ (76 + 5 * r) < 3) (S : Int) : un ρ S = cod (tau ρ) (-1) S := by
  have hT := VR_tau hV
  have hc := nC_bd hV
  have hs := nS_bd hV
  have hu := un_bd hV S (nC ρ) hc.1
  have hb := cod_bd hV (-1) S
  have hr' : ∀ r, 0 ≤ r → r < tau ρ 2 → tau ρ (76 + 5 * r) < 3 := fun r a b => by
    have h2 := hV.2.2.1
    rw [tau_lo (by decide) (by decide)] at b
    rw [tau_hi (by omega) (by omega)]
    exact hr r a b
  apply bit_ext hu.1 hb.1
  intro i hi
  by_cases z : i < nS ρ
  · have hf := sf_bd hT hi (by rw [nS_tau hV]; exact z)
    have e1 : (bit (cod (tau ρ) (-1) S) i = true ↔ sp (tau ρ) (-1) S (sf (tau ρ) i) < 1000000) := by
      unfold cod
      rw [bsI_bit _ hi, nS_tau hV, decide_eq_true z, Bool.true_and, decide_eq_true_eq]
    have e2 := un_bit hV S hi (nC ρ) hc.1
    have e3 := sp_union hT (w := -1) (S := S) hr' hf.1 hf.2
    rw [nC_tau hV] at e3
    have : (bit (un ρ S) i = true ↔ bit (cod (tau ρ) (-1) S) i = true) := by
      rw [e1, e3]
      unfold un
      rw [e2]
      constructor
      · rintro ⟨c, a, b, d, e⟩; exact ⟨c, a, b, d, (gC_bit hV hi z).1 e⟩
      · rintro ⟨c, a, b, d, e⟩; exact ⟨c, a, b, d, (gC_bit hV hi z).2 e⟩
    exact Bool.eq_iff_iff.2 this
  · rw [bit_hi hb.1 hb.2.1 (by omega)]
    cases y : bit (un ρ S) i with
    | false => exact y
    | true =>
      obtain ⟨c, a, b, d, e⟩ := (un_bit hV S hi (nC ρ) hc.1).1 y
      have hg := gC_bd hV c
      rw [bit_hi hg.1 hg.2.1 (by omega)] at e
      exact Bool.noConfusion e
