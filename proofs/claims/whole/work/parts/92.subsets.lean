/-! the next lower part of a set, as (part - 1) & set gives it -/
theorem lt_bit {a b i : Int} (a0 : 0 ≤ a) (a1 : a < 4096) (b0 : 0 ≤ b) (b1 : b < 4096) (i0 : 0 ≤ i) (h1 : bit a i = false) (h2 : bit b i = true) (h3 : ∀ j, i < j → bit a j = bit b j) : a < b := by
  have e12 : p2 12 = 4096 := by decide
  have i1 : i < 12 := by
    rcases Int.lt_or_le i 12 with q | q
    · exact q
    · rw [bit_hi (n := 12) b0 (by omega) q] at h2; exact Bool.noConfusion h2
  have hB := bsI_bd (fun j => decide (i ≤ j) && bit b j) 12
  have bb : ∀ j, 0 ≤ j → bit (bsI (fun j => decide (i ≤ j) && bit b j) 12) j = (decide (j < 12) && (decide (i ≤ j) && bit b j)) := fun j hj => bsI_bit _ hj
  generalize bsI (fun j => decide (i ≤ j) && bit b j) 12 = B at hB bb
  have hl : lowb B i := by
    refine ⟨i0, ?_, fun j j0 j1 => ?_⟩
    · rw [bb i i0, h2, decide_eq_true i1, decide_eq_true (Int.le_refl i)]; rfl
    · rw [bb j j0, decide_eq_false (show ¬ i ≤ j by omega), Bool.false_and, Bool.and_false]
  have hBp : 0 < B := by
    rcases Int.lt_or_le 0 B with q | q
    · exact q
    · have := hl.2.1
      rw [show B = 0 by omega, bit_0] at this; exact Bool.noConfusion this
  have s1 : B ≤ b := by
    refine sub_le hB.1 (by omega) b0 ((sub_iff hB.1 (by omega) b0).2 (fun j j0 z => ?_))
    rw [bb j j0, Bool.and_eq_true, Bool.and_eq_true] at z
    exact z.2.2
  have s2 : a ≤ B - 1 := by
    refine sub_le a0 (by omega) (by omega) ((sub_iff a0 (by omega) (by omega)).2 (fun j j0 z => ?_))
    rw [pm1_bit hB.1 hl j0]
    rcases Int.lt_trichotomy j i with q | q | q
    · rw [if_pos q]
    · rw [q, h1] at z; exact Bool.noConfusion z
    · have j12 : j < 12 := by
        rcases Int.lt_or_le j 12 with y | y
        · exact y
        · rw [bit_hi (n := 12) a0 (by omega) y] at z; exact Bool.noConfusion z
      rw [if_neg (by omega), if_neg (by omega), bb j j0, ← h3 j q, z, decide_eq_true j12, decide_eq_true (show i ≤ j by omega)]; rfl
  omega
theorem top_dif {a b : Int} (a0 : 0 ≤ a) (a1 : a < 4096) (b0 : 0 ≤ b) (b1 : b < 4096) (h : ¬ a = b) : ∃ i, 0 ≤ i ∧ ¬ bit a i = bit b i ∧ ∀ j, i < j → bit a j = bit b j := by
  have e12 : p2 12 = 4096 := by decide
  have hx : ∃ i, 0 ≤ i ∧ ¬ bit a i = bit b i := by
    apply Classical.byContradiction
    intro z
    refine h (bit_ext a0 b0 (fun i hi => ?_))
    apply Classical.byContradiction
    intro y
    exact z ⟨i, hi, y⟩
  obtain ⟨i, i0, i1⟩ := hx
  obtain ⟨m, ⟨m0, m1⟩, hm⟩ := int_max (P := fun i => 0 ≤ i ∧ ¬ bit a i = bit b i) (a := i) (b := 11) ⟨i0, i1⟩ (fun t ⟨t0, t1⟩ => by
    rcases Int.lt_or_le 11 t with q | q
    · exfalso
      apply t1
      rw [bit_hi (n := 12) a0 (by omega) (by omega), bit_hi (n := 12) b0 (by omega) (by omega)]
    · exact q)
  refine ⟨m, m0, m1, fun j hj => ?_⟩
  apply Classical.byContradiction
  intro y
  have := hm j ⟨by omega, y⟩
  omega
theorem next_sub {s p t : Int} (s0 : 0 ≤ s) (s1 : s < 4096) (p0 : 0 < p) (hp : iand p (ixor s (-1)) = 0) (hps : p < 4096) (t0 : 0 ≤ t) (ht : iand t (ixor s (-1)) = 0) (htp : t < p) : t ≤ iand (p - 1) s := by
  have hm := iand_bd (a := p - 1) (b := s) (by omega) (by omega) s0
  rw [sub_iff (by omega) (by omega) s0] at hp ht
  obtain ⟨h, hl⟩ := lowb_ex (a := p) (by omega) (by omega)
  apply Classical.byContradiction
  intro z
  obtain ⟨i, i0, i1, i2⟩ := top_dif (a := t) (b := iand (p - 1) s) t0 (by omega) hm.1 (by omega) (by omega)
  have mb : ∀ j, 0 ≤ j → bit (iand (p - 1) s) j = (bit (p - 1) j && bit s j) := fun j hj => bit_iand (by omega) (by omega) s0
  cases hti : bit t i with
  | false =>
    have hmi : bit (iand (p - 1) s) i = true := by
      cases y : bit (iand (p - 1) s) i with
      | true => rfl
      | false => rw [hti, y] at i1; exact absurd rfl i1
    have := lt_bit t0 (by omega) hm.1 (by omega) i0 hti hmi i2
    omega
  | true =>
    have hmi : bit (iand (p - 1) s) i = false := by
      cases y : bit (iand (p - 1) s) i with
      | false => rfl
      | true => rw [hti, y] at i1; exact absurd rfl i1
    have hpi : bit (p - 1) i = false := by
      rw [mb i i0, ht i i0 hti, Bool.and_true] at hmi; exact hmi
    have hih : h ≤ i := by
      rcases Int.lt_or_le i h with q | q
      · rw [pm1_bit (by omega) hl i0, if_pos q] at hpi; exact Bool.noConfusion hpi
      · exact q
    have agree : ∀ j, i < j → bit p j = bit t j := fun j hj => by
      rw [i2 j hj, mb j (by omega), pm1_bit (by omega) hl (by omega), if_neg (by omega), if_neg (by omega)]
      cases y : bit p j with
      | false => rfl
      | true => rw [hp j (by omega) y]; rfl
    by_cases e : i = h
    · have hsub : iand p (ixor t (-1)) = 0 := by
        rw [sub_iff (by omega) (by omega) t0]
        intro j hj y
        rcases Int.lt_trichotomy j h with q | q | q
        · rw [hl.2.2 j hj q] at y; exact Bool.noConfusion y
        · rw [q, ← e]; exact hti
        · rw [← agree j (by omega)]; exact y
      have := sub_le (a := p) (b := t) (by omega) (by omega) t0 hsub
      omega
    · have hpi2 : bit p i = false := by
        rw [pm1_bit (by omega) hl i0, if_neg (by omega), if_neg e] at hpi; exact hpi
      have := lt_bit (a := p) (b := t) (by omega) hps t0 (by omega) i0 hpi2 hti agree
      omega
theorem sub_and {a s : Int} (a0 : 0 ≤ a) (a1 : a < 2147483648) (s0 : 0 ≤ s) : iand (iand a s) (ixor s (-1)) = 0 := by
  have hb := iand_bd (a := a) (b := s) a0 a1 s0
  rw [sub_iff hb.1 (by omega) s0]
  intro i hi z
  rw [bit_iand a0 a1 s0, Bool.and_eq_true] at z
  exact z.2
theorem brings_s {ρ : Rw} (hV : VR ρ) {M : Mem} (hR : RR ρ M) (hN : NU ρ M) {s g : Int} (s0 : 0 < s) (s1 : s < 4096) (g0 : 0 ≤ g) (g1 : g < nS ρ) : Cal Y_RM_brings [vR 141, vI s, vI g] M (fun r M' => r = some (vI (if bit (cod (tau ρ) (-1) s) g = true then 1 else 0)) ∧ Kp (fun c => c = 153) M M') := by
  have hs := nS_bd hV
  have hcb := cod_bd hV (-1) s
  refine Cal.mk (y := Y_RM_brings) (loc := [vR 141, vI s, vI g]) G_RM_brings rfl (by decide) rfl rfl (Nat.le_of_ble_eq_true rfl) ?_
  simp only [r_RM_brings_0, r_RM_brings_1, r_RM_brings_4, r_RM_brings_5, r_RM_brings_6, r_RM_brings_9, r_RM_brings_10, r_RM_brings_13, r_RM_brings_16, r_RM_brings_17, r_RM_brings_20, r_RM_brings_21, true_and, and_true, or_true, true_or, or_false, false_or, false_and, and_false, not_true_eq_false, not_false_eq_true, implies_true, true_implies, false_implies]
  refine ⟨r32 (by omega) (by omega), fun q => by omega, fun q => ?_⟩
  refine (codeOf_s (VR_tau hV) (S := s) (by omega) s1 hR.t (hN.t hV)).mono ?_
  rintro _ M1 ⟨rfl, -, k1⟩
  refine ⟨_, rfl, rhas_if hcb.1 (by omega) g0 (by omega) (fun q2 => ?_) (fun q2 => ?_)⟩
  · rw [if_pos q2]; exact ⟨rfl, k1⟩
  · rw [if_neg q2]; exact ⟨rfl, k1⟩
