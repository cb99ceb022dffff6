/-! how late a fact can come; facts of no object never come; sums by objects and events -/
noncomputable def dec (p : Prop) : Bool := @decide p (Classical.propDecidable p)
theorem dec_iff {p : Prop} : dec p = true ↔ p := by unfold dec; exact @decide_eq_true_iff p (Classical.propDecidable p)
theorem dec_t {p : Prop} (h : p) : dec p = true := dec_iff.2 h
theorem dec_f {p : Prop} (h : ¬ p) : dec p = false := by
  cases q : dec p with
  | true => exact absurd (dec_iff.1 q) h
  | false => rfl
theorem dec_cong {p q : Prop} (h : p ↔ q) : dec p = dec q := by rw [propext h]
theorem dec_eq {p : Prop} (i : Decidable p) : dec p = @decide p i := by
  by_cases h : p
  · rw [dec_t h]; exact (@decide_eq_true p i h).symm
  · rw [dec_f h]; exact (@decide_eq_false p i h).symm
theorem Br.gen {ρ : Rw} (hV : VR ρ) {w r o t t' : Int} (ho : 0 ≤ o) (ho2 : o < ρ 0) {T T' : Int → Int} (key : ∀ x, 0 ≤ x → x < ρ 0 → T (8 * x + ρ (77 + 5 * r) % 8) + ρ (80 + 5 * r) ≤ t → T' (8 * x + ρ (77 + 5 * r) % 8) + ρ (80 + 5 * r) ≤ t') (hB : Br ρ w T r o t) : Br ρ w T' r o t' := by
  unfold Br at hB ⊢
  split at hB
  · rename_i q
    rw [if_pos q]
    exact ⟨hB.1, key o ho ho2 hB.2⟩
  · rename_i q
    rw [if_neg q]
    refine ⟨hB.1, ?_⟩
    have hB := hB.2
    split at hB
    · rename_i q3
      rw [if_pos q3]
      exact ⟨hB.1, fun x hx => key x (src_bd hV hx).1 (src_bd hV hx).2 (hB.2 x hx)⟩
    · rename_i q3
      rw [if_neg q3]
      split at hB
      · rename_i q4
        rw [if_pos q4]
        obtain ⟨x, y, h1, h2, h3, h4, h5⟩ := hB
        exact ⟨x, y, h1, h2, h3, key x (src_bd hV h2).1 (src_bd hV h2).2 h4, key y (src_bd hV h3).1 (src_bd hV h3).2 h5⟩
      · rename_i q4
        rw [if_neg q4]
        obtain ⟨x, h2, h4⟩ := hB
        exact ⟨x, h2, key x (src_bd hV h2).1 (src_bd hV h2).2 h4⟩
theorem sp_prev {ρ : Rw} (hV : VR ρ) {w S m : Int} (h0 : 0 < m) (h1 : m < 1000000) {f : Int} (f0 : 0 ≤ f) (f1 : f < 80) (hf : sp ρ w S f = m) : ∃ g, 0 ≤ g ∧ g < 80 ∧ m - 9 ≤ sp ρ w S g ∧ sp ρ w S g < m := by
  apply Classical.byContradiction
  intro hno
  have hno' : ∀ g, 0 ≤ g → g < 80 → sp ρ w S g < m → sp ρ w S g < m - 9 := fun g a b c => by
    rcases Int.lt_or_le (sp ρ w S g) (m - 9) with q | q
    · exact q
    · exact absurd ⟨g, a, b, q, c⟩ hno
  have hC : Clo ρ w S (fun g => if sp ρ w S g = m then m + 1 else sp ρ w S g) := by
    refine ⟨fun g a b => ?_, fun g a b c => ?_, fun r o t r0 r1 o0 o1 ht hB => ?_⟩
    · dsimp only
      split
      · omega
      · exact (sp_nn hV w S a b).2
    · have := (sp_clo hV w S).2.1 g a b c
      dsimp only
      rw [if_neg (by omega)]; exact this
    · have hv := hV.2.2.2.2.2.2.2.1 r r0 r1
      have hn := hV.1
      have hB1 : Br ρ w (sp ρ w S) r o t := hB.gen hV o0 o1 (fun x a b c => by
        split at c
        · rename_i q; omega
        · exact c)
      have h2 := (sp_clo hV w S).2.2 r o t r0 r1 o0 o1 ht hB1
      dsimp only
      split
      · rename_i q
        rcases Int.lt_or_le t (m + 1) with q2 | q2
        · exfalso
          have et : t = m := by omega
          have hB2 : Br ρ w (sp ρ w S) r o (m - 1) := hB.gen hV o0 o1 (fun x a b c => by
            split at c
            · rename_i q3; omega
            · rename_i q3
              have := hno' (8 * x + ρ (77 + 5 * r) % 8) (by omega) (by omega) (by omega)
              omega)
          have := (sp_clo hV w S).2.2 r o (m - 1) r0 r1 o0 o1 (by omega) hB2
          omega
        · exact q2
      · exact h2
  have := (sp_max hV w S f0 f1).2 _ hC
  rw [if_pos hf] at this
  omega
theorem sp_cnt {ρ : Rw} (hV : VR ρ) {w S : Int} : ∀ (n : Nat) (f : Int), 0 ≤ f → f < 80 → sp ρ w S f ≤ n → sp ρ w S f < 1000000 → sp ρ w S f ≤ 9 * cntI (fun g => decide (sp ρ w S g < sp ρ w S f)) 80 := by
  intro n
  induction n with
  | zero =>
    intro f f0 f1 h1 h2
    have := (cntI_bd (fun g => decide (sp ρ w S g < sp ρ w S f)) (n := 80) (by decide)).1
    omega
  | succ n ih =>
    intro f f0 f1 h1 h2
    have hb := (cntI_bd (fun g => decide (sp ρ w S g < sp ρ w S f)) (n := 80) (by decide)).1
    by_cases h3 : sp ρ w S f ≤ 0
    · omega
    · obtain ⟨g, g0, g1, g2, g3⟩ := sp_prev hV (m := sp ρ w S f) (by omega) h2 f0 f1 rfl
      have h4 := ih g g0 g1 (by omega) (by omega)
      have h5 := cntI_strict (p := fun x => decide (sp ρ w S x < sp ρ w S g)) (q := fun x => decide (sp ρ w S x < sp ρ w S f)) 80 (by decide) (fun i a b c => by simp only [decide_eq_true_eq] at c ⊢; omega) ⟨g, g0, g1, by simp, by simp only [decide_eq_true_eq]; omega⟩
      omega
theorem sp_bd {ρ : Rw} (hV : VR ρ) (w S : Int) {f : Int} (f0 : 0 ≤ f) (f1 : f < 80) (h : sp ρ w S f < 1000000) : sp ρ w S f ≤ 711 := by
  have h1 := sp_cnt hV (w := w) (S := S) (sp ρ w S f).toNat f f0 f1 (by omega) h
  have h2 := cntI_strict (p := fun x => decide (sp ρ w S x < sp ρ w S f)) (q := fun _ => true) 80 (by decide) (fun i a b c => rfl) ⟨f, f0, f1, by simp, rfl⟩
  have h3 := (cntI_bd (fun _ => true) (n := 80) (by decide)).2
  omega
theorem sp_out {ρ : Rw} (hV : VR ρ) (w S : Int) {f : Int} (f0 : 8 * ρ 0 ≤ f) (f1 : f < 80) : sp ρ w S f = 1000000 := by
  have hn := hV.1
  have hC : Clo ρ w S (fun g => if 8 * ρ 0 ≤ g then 1000000 else sp ρ w S g) := by
    refine ⟨fun g a b => ?_, fun g a b c => ?_, fun r o t r0 r1 o0 o1 ht hB => ?_⟩
    · dsimp only
      split
      · omega
      · exact (sp_nn hV w S a b).2
    · dsimp only
      have := c.1
      rw [if_neg (by omega)]; exact (sp_clo hV w S).2.1 g a b c
    · have hv := hV.2.2.2.2.2.2.2.1 r r0 r1
      dsimp only
      rw [if_neg (by omega)]
      refine (sp_clo hV w S).2.2 r o t r0 r1 o0 o1 ht (hB.gen hV o0 o1 (fun x a b c => ?_))
      rw [if_neg (by omega)] at c; exact c
  have h1 := (sp_max hV w S (f := f) (by omega) f1).2 _ hC
  rw [if_pos f0] at h1
  have := (sp_nn hV w S (f := f) (by omega) f1).2
  omega
theorem sum8 (f : Int → Int) : sumI f 8 = f 0 + f 1 + f 2 + f 3 + f 4 + f 5 + f 6 + f 7 := by
  show 0 + f 0 + f 1 + f 2 + f 3 + f 4 + f 5 + f 6 + f 7 = _
  omega
theorem cnt_oe (p : Int → Bool) : ∀ n : Int, 0 ≤ n → cntI p (8 * n) = sumI (fun e => cntI (fun o => p (8 * o + e)) n) 8 := by
  refine int_ind (P := fun n => cntI p (8 * n) = sumI (fun e => cntI (fun o => p (8 * o + e)) n) 8) ?_ (fun n hn ih => ?_)
  · rw [sum8]; rfl
  · rw [sum8] at ih ⊢
    simp only [cntI_s _ hn]
    rw [show 8 * (n + 1) = 8 * n + 7 + 1 by omega, cntI_s p (by omega), show 8 * n + 7 = 8 * n + 6 + 1 by omega, cntI_s p (by omega), show 8 * n + 6 = 8 * n + 5 + 1 by omega, cntI_s p (by omega), show 8 * n + 5 = 8 * n + 4 + 1 by omega, cntI_s p (by omega), show 8 * n + 4 = 8 * n + 3 + 1 by omega, cntI_s p (by omega), show 8 * n + 3 = 8 * n + 2 + 1 by omega, cntI_s p (by omega), show 8 * n + 2 = 8 * n + 1 + 1 by omega, cntI_s p (by omega), cntI_s p (by omega), ih]
    rw [show 8 * n + 1 + 1 = 8 * n + 2 by omega, show 8 * n + 2 + 1 = 8 * n + 3 by omega, show 8 * n + 3 + 1 = 8 * n + 4 by omega, show 8 * n + 4 + 1 = 8 * n + 5 by omega, show 8 * n + 5 + 1 = 8 * n + 6 by omega, show 8 * n + 6 + 1 = 8 * n + 7 by omega, show 8 * n + 0 = 8 * n by omega]
    omega
theorem foI_ext {f g : Int → Int → Int} {z : Int} : ∀ n : Int, 0 ≤ n → (∀ k a, 0 ≤ k → k < n → f k a = g k a) → foI f z n = foI g z n := by
  intro n hn
  refine int_ind (P := fun n => (∀ k a, 0 ≤ k → k < n → f k a = g k a) → foI f z n = foI g z n) (fun _ => rfl) (fun n hn ih h => ?_) n hn
  rw [foI_s f z hn, foI_s g z hn, ih (fun k a b c => h k a b (by omega)), h n _ hn (by omega)]
theorem foI_stop {f : Int → Int → Int} {z : Int} {m : Int} (hm : 0 ≤ m) : ∀ n : Int, m ≤ n → (∀ k a, m ≤ k → k < n → f k a = a) → foI f z n = foI f z m := by
  have key : ∀ j : Int, 0 ≤ j → (∀ k a, m ≤ k → k < m + j → f k a = a) → foI f z (m + j) = foI f z m := by
    refine int_ind (fun _ => by rw [Int.add_zero]) (fun j hj ih h => ?_)
    rw [show m + (j + 1) = m + j + 1 by omega, foI_s f z (by omega), h (m + j) _ (by omega) (by omega)]
    exact ih (fun k a b c => h k a b (by omega))
  intro n hn h
  have := key (n - m) (by omega) (fun k a b c => h k a b (by omega))
  rw [show m + (n - m) = n by omega] at this
  exact this
/-- how many bits, of a number below 2 to the n-th -/
theorem pcI_n {v n : Int} (h0 : 0 ≤ v) (hn : 0 ≤ n) (hn2 : n ≤ 31) (h : v < p2 n) : pcI v = cntI (fun i => bit v i) n := by
  unfold pcI
  rw [show (31 : Int) = n + (31 - n) by omega, cntI_split _ hn (by omega), cntI_no (p := fun i => bit v (n + i)) (by omega) (fun i a b => bit_hi h0 h (by omega))]
  omega
