/-! SPREAD, as mathematics: the greatest assignment of times that is closed under the rules -/
def wC (ρ : Rw) (f : Int) : Int := ρ (136 + (ρ (6 + f / 8) * 8 + f % 8))
def wS (ρ : Rw) (f : Int) : Int := ρ (168 + (ρ (6 + f / 8) * 8 + f % 8))
def isC (ρ : Rw) (f : Int) : Bool := decide (¬ wC ρ f = 0)
def isS (ρ : Rw) (f : Int) : Bool := decide (¬ wS ρ f = 0)
def nC (ρ : Rw) : Int := cntI (isC ρ) (8 * ρ 0)
def nS (ρ : Rw) : Int := cntI (isS ρ) (8 * ρ 0)
/-- what a row may be -/
def VR (ρ : Rw) : Prop :=
  (0 ≤ ρ 0 ∧ ρ 0 ≤ 10) ∧ (0 ≤ ρ 1 ∧ ρ 1 ≤ 20) ∧ (0 ≤ ρ 2 ∧ ρ 2 ≤ 12) ∧ (0 ≤ ρ 3 ∧ ρ 3 ≤ 20) ∧
  (∀ o, 0 ≤ o → o < ρ 0 → 0 ≤ ρ (6 + o) ∧ ρ (6 + o) ≤ 3) ∧
  (∀ l, 0 ≤ l → l < ρ 1 → 0 ≤ ρ (16 + 3 * l) ∧ ρ (16 + 3 * l) ≤ 2 ∧ 0 ≤ ρ (17 + 3 * l) ∧ ρ (17 + 3 * l) < ρ 0 ∧ 0 ≤ ρ (18 + 3 * l) ∧ ρ (18 + 3 * l) < ρ 0) ∧
  (∀ l m, 0 ≤ l → l < m → m < ρ 1 → ¬ (ρ (16 + 3 * l) = ρ (16 + 3 * m) ∧ ρ (17 + 3 * l) = ρ (17 + 3 * m) ∧ ρ (18 + 3 * l) = ρ (18 + 3 * m))) ∧
  (∀ r, 0 ≤ r → r < ρ 2 → (0 ≤ ρ (76 + 5 * r) ∧ ρ (76 + 5 * r) ≤ 4) ∧ (0 ≤ ρ (77 + 5 * r) ∧ ρ (77 + 5 * r) ≤ 31) ∧ (0 ≤ ρ (78 + 5 * r) ∧ ρ (78 + 5 * r) ≤ 2) ∧ (0 ≤ ρ (79 + 5 * r) ∧ ρ (79 + 5 * r) ≤ 31) ∧ (0 ≤ ρ (80 + 5 * r) ∧ ρ (80 + 5 * r) ≤ 9)) ∧
  (∀ k, 0 ≤ k → k < 32 → (0 ≤ ρ (136 + k) ∧ ρ (136 + k) ≤ 9) ∧ (0 ≤ ρ (168 + k) ∧ ρ (168 + k) ≤ 1)) ∧
  (∀ k, 0 ≤ k → k < ρ 3 → 0 ≤ ρ (200 + 2 * k) ∧ ρ (200 + 2 * k) < nS ρ ∧ 0 ≤ ρ (201 + 2 * k) ∧ ρ (201 + 2 * k) ≤ 999) ∧
  nC ρ ≤ 12 ∧ nS ρ ≤ 12 ∧ (0 ≤ ρ 4 ∧ ρ 4 < p2 (nS ρ)) ∧ (0 ≤ ρ 5 ∧ ρ 5 < p2 (nS ρ))
/-- a link of relation r leads from a to b, and is not the w-th -/
def lk (ρ : Rw) (w r a b : Int) : Prop := ∃ l, 0 ≤ l ∧ l < ρ 1 ∧ ¬ l = w ∧ ρ (16 + 3 * l) = r ∧ ρ (17 + 3 * l) = a ∧ ρ (18 + 3 * l) = b
/-- x is one of those that a rule r looks at for what it brings at o -/
def src (ρ : Rw) (w r o x : Int) : Prop := (if ρ (76 + 5 * r) = 2 then lk ρ w (ρ (78 + 5 * r)) o x else lk ρ w (ρ (78 + 5 * r)) x o) ∧ ρ (6 + x) = ρ (77 + 5 * r) / 8
/-- rule r brings its fact at o by time t, as times T are -/
def Br (ρ : Rw) (w : Int) (T : Int → Int) (r o t : Int) : Prop :=
  if ρ (76 + 5 * r) = 0 then ρ (6 + o) = ρ (77 + 5 * r) / 8 ∧ T (8 * o + ρ (77 + 5 * r) % 8) + ρ (80 + 5 * r) ≤ t
  else ρ (6 + o) = ρ (79 + 5 * r) / 8 ∧
    (if ρ (76 + 5 * r) = 3 then (∃ x, src ρ w r o x) ∧ ∀ x, src ρ w r o x → T (8 * x + ρ (77 + 5 * r) % 8) + ρ (80 + 5 * r) ≤ t
     else if ρ (76 + 5 * r) = 4 then ∃ x y, ¬ x = y ∧ src ρ w r o x ∧ src ρ w r o y ∧ T (8 * x + ρ (77 + 5 * r) % 8) + ρ (80 + 5 * r) ≤ t ∧ T (8 * y + ρ (77 + 5 * r) % 8) + ρ (80 + 5 * r) ≤ t
     else ∃ x, src ρ w r o x ∧ T (8 * x + ρ (77 + 5 * r) % 8) + ρ (80 + 5 * r) ≤ t)
theorem src_bd {ρ : Rw} (hV : VR ρ) {w r o x : Int} (h : src ρ w r o x) : 0 ≤ x ∧ x < ρ 0 := by
  obtain ⟨h1, -⟩ := h
  split at h1
  · obtain ⟨l, a, b, -, -, -, c⟩ := h1
    have := hV.2.2.2.2.2.1 l a b
    omega
  · obtain ⟨l, a, b, -, -, c, -⟩ := h1
    have := hV.2.2.2.2.2.1 l a b
    omega
/-- only what has come by t counts -/
theorem Br.loc {ρ : Rw} (hV : VR ρ) {w r o t : Int} (hr0 : 0 ≤ r) (hr : r < ρ 2) (ho : 0 ≤ o) (ho2 : o < ρ 0) {T T' : Int → Int} (h : ∀ f, 0 ≤ f → f < 80 → T f ≤ t → T' f ≤ T f) (hB : Br ρ w T r o t) : Br ρ w T' r o t := by
  obtain ⟨-, ⟨a0, a1⟩, -, -, d0, d1⟩ := hV.2.2.2.2.2.2.2.1 r hr0 hr
  have hn := hV.1
  have key : ∀ x, 0 ≤ x → x < ρ 0 → T (8 * x + ρ (77 + 5 * r) % 8) + ρ (80 + 5 * r) ≤ t → T' (8 * x + ρ (77 + 5 * r) % 8) + ρ (80 + 5 * r) ≤ t := by
    intro x h1 h2 h3
    have := h (8 * x + ρ (77 + 5 * r) % 8) (by omega) (by omega) (by omega)
    omega
  unfold Br at hB ⊢
  split at hB
  · rename_i q
    rw [if_pos q]
    exact ⟨hB.1, key o ho ho2 hB.2⟩
  · rename_i q
    rw [if_neg q]
    refine ⟨hB.1, ?_⟩
    have hB := hB.2
    split at hB
    · rename_i q3
      rw [if_pos q3]
      exact ⟨hB.1, fun x hx => key x (src_bd hV hx).1 (src_bd hV hx).2 (hB.2 x hx)⟩
    · rename_i q3
      rw [if_neg q3]
      split at hB
      · rename_i q4
        rw [if_pos q4]
        obtain ⟨x, y, h1, h2, h3, h4, h5⟩ := hB
        exact ⟨x, y, h1, h2, h3, key x (src_bd hV h2).1 (src_bd hV h2).2 h4, key y (src_bd hV h3).1 (src_bd hV h3).2 h5⟩
      · rename_i q4
        rw [if_neg q4]
        obtain ⟨x, h2, h4⟩ := hB
        exact ⟨x, h2, key x (src_bd hV h2).1 (src_bd hV h2).2 h4⟩
/-- the fact f is one of the causes of the set S -/
def inC (ρ : Rw) (S f : Int) : Prop := f < 8 * ρ 0 ∧ isC ρ f = true ∧ bit S (cntI (isC ρ) f) = true
/-- closed times: no later than 1000000 (never), 0 for the causes, and every rule is kept -/
def Clo (ρ : Rw) (w S : Int) (T : Int → Int) : Prop := (∀ f, 0 ≤ f → f < 80 → T f ≤ 1000000) ∧ (∀ f, 0 ≤ f → f < 80 → inC ρ S f → T f ≤ 0) ∧ ∀ r o t, 0 ≤ r → r < ρ 2 → 0 ≤ o → o < ρ 0 → t < 1000000 → Br ρ w T r o t → T (8 * o + ρ (79 + 5 * r) % 8) ≤ t
theorem Clo.zero {ρ : Rw} (hV : VR ρ) (w S : Int) : Clo ρ w S (fun _ => 0) := by
  refine ⟨fun _ _ _ => show (0 : Int) ≤ 1000000 by decide, fun _ _ _ _ => Int.le_refl 0, fun r o t h1 h2 h3 h4 h5 hB => ?_⟩
  have hd := (hV.2.2.2.2.2.2.2.1 r h1 h2).2.2.2.2
  show (0 : Int) ≤ t
  unfold Br at hB
  dsimp only at hB
  split at hB
  · have := hB.2; omega
  · have hB := hB.2
    split at hB
    · obtain ⟨⟨x, hx⟩, h⟩ := hB
      have := h x hx; omega
    · split at hB
      · obtain ⟨x, y, -, -, -, h, -⟩ := hB
        omega
      · obtain ⟨x, -, h⟩ := hB
        omega
theorem int_max {P : Int → Prop} {a b : Int} (ha : P a) (hb : ∀ t, P t → t ≤ b) : ∃ t, P t ∧ ∀ s, P s → s ≤ t := by
  have key : ∀ (n : Nat) (a : Int), P a → b - a ≤ n → ∃ t, P t ∧ ∀ s, P s → s ≤ t := by
    intro n
    induction n with
    | zero => intro a ha h; exact ⟨a, ha, fun s hs => by have := hb s hs; have := hb a ha; omega⟩
    | succ n ih =>
      intro a ha h
      by_cases hx : ∃ s, P s ∧ a < s
      · obtain ⟨s, hs, h1⟩ := hx
        exact ih s hs (by omega)
      · exact ⟨a, ha, fun s hs => by
          rcases Int.lt_or_le a s with q | q
          · exact absurd ⟨s, hs, q⟩ hx
          · exact q⟩
  exact key (b - a).toNat a ha (by omega)
/-- TIMES of the SPREAD of a set of causes, without the w-th link -/
noncomputable def sp (ρ : Rw) (w S f : Int) : Int := Classical.epsilon (fun t => (∃ H, Clo ρ w S H ∧ H f = t) ∧ ∀ H, Clo ρ w S H → H f ≤ t)
theorem sp_max {ρ : Rw} (hV : VR ρ) (w S : Int) {f : Int} (h0 : 0 ≤ f) (h1 : f < 80) : (∃ H, Clo ρ w S H ∧ H f = sp ρ w S f) ∧ ∀ H, Clo ρ w S H → H f ≤ sp ρ w S f := by
  have : ∃ t, (∃ H, Clo ρ w S H ∧ H f = t) ∧ ∀ H, Clo ρ w S H → H f ≤ t := by
    obtain ⟨t, ht, hm⟩ := int_max (P := fun t => ∃ H, Clo ρ w S H ∧ H f = t) (a := 0) (b := 1000000) ⟨_, Clo.zero hV w S, rfl⟩ (fun t ⟨H, hH, e⟩ => by rw [← e]; exact hH.1 f h0 h1)
    exact ⟨t, ht, fun H hH => hm _ ⟨H, hH, rfl⟩⟩
  exact Classical.epsilon_spec this
theorem sp_clo {ρ : Rw} (hV : VR ρ) (w S : Int) : Clo ρ w S (sp ρ w S) := by
  refine ⟨fun f h0 h1 => ?_, fun f h0 h1 hc => ?_, fun r o t h1 h2 h3 h4 h5 hB => ?_⟩
  · obtain ⟨⟨H, hH, e⟩, -⟩ := sp_max hV w S h0 h1
    rw [← e]; exact hH.1 f h0 h1
  · obtain ⟨⟨H, hH, e⟩, -⟩ := sp_max hV w S h0 h1
    rw [← e]; exact hH.2.1 f h0 h1 hc
  · have hn := hV.1
    have hb := (hV.2.2.2.2.2.2.2.1 r h1 h2).2.2.2.1
    obtain ⟨⟨H, hH, e⟩, -⟩ := sp_max hV w S (f := 8 * o + ρ (79 + 5 * r) % 8) (by omega) (by omega)
    rw [← e]
    refine hH.2.2 r o t h1 h2 h3 h4 h5 (hB.loc hV h1 h2 h3 h4 (fun f a b _ => ?_))
    exact (sp_max hV w S a b).2 H hH
/-- the closed times that are above all closed ones are the spread's -/
theorem sp_eq9 {ρ : Rw} (hV : VR ρ) {w S : Int} {T : Int → Int} (hT : Clo ρ w S T) (hm : ∀ H, Clo ρ w S H → ∀ f, 0 ≤ f → f < 80 → H f ≤ T f) {f : Int} (h0 : 0 ≤ f) (h1 : f < 80) : sp ρ w S f = T f := by
  have a := (sp_max hV w S h0 h1).2 T hT
  have b := hm _ (sp_clo hV w S) f h0 h1
  omega
theorem sp_nn {ρ : Rw} (hV : VR ρ) (w S : Int) {f : Int} (h0 : 0 ≤ f) (h1 : f < 80) : 0 ≤ sp ρ w S f ∧ sp ρ w S f ≤ 1000000 :=
  ⟨(sp_max hV w S h0 h1).2 _ (Clo.zero hV w S), (sp_clo hV w S).1 f h0 h1⟩
/-- a round brings at least one more fact to its time -/
theorem sp_round {ρ : Rw} (hV : VR ρ) {w S : Int} {T T' : Int → Int} (h1 : ∀ f, 0 ≤ f → f < 80 → sp ρ w S f ≤ T' f ∧ T' f ≤ T f) (hI : ∀ f, 0 ≤ f → f < 80 → T f ≤ 1000000 ∧ (inC ρ S f → T f ≤ 0))
    (h2 : ∀ r o t, 0 ≤ r → r < ρ 2 → 0 ≤ o → o < ρ 0 → t < 1000000 → Br ρ w T r o t → T' (8 * o + ρ (79 + 5 * r) % 8) ≤ t) (hx : ∃ f, 0 ≤ f ∧ f < 80 ∧ ¬ T f = sp ρ w S f) :
    cntI (fun f => decide (T f = sp ρ w S f)) 80 < cntI (fun f => decide (T' f = sp ρ w S f)) 80 := by
  refine cntI_strict 80 (by decide) (fun f a b c => ?_) ?_
  · have := h1 f a b
    simp only [decide_eq_true_eq] at c ⊢
    omega
  · obtain ⟨f0, a0, b0, c0⟩ := hx
    -- the least time of those that are not yet right
    obtain ⟨g, ⟨u, u0, u1, u2, u3⟩, hg⟩ := int_max (P := fun t => ∃ u, 0 ≤ u ∧ u < 80 ∧ ¬ T u = sp ρ w S u ∧ sp ρ w S u = -t) (a := - sp ρ w S f0) (b := 0) ⟨f0, a0, b0, c0, by omega⟩ (fun t ⟨u, q0, q1, q2, q3⟩ => by have := (sp_nn hV w S q0 q1).1; omega)
    have hmin : ∀ f, 0 ≤ f → f < 80 → ¬ T f = sp ρ w S f → -g ≤ sp ρ w S f := fun f q0 q1 q2 => by
      have := hg (- sp ρ w S f) ⟨f, q0, q1, q2, by omega⟩
      omega
    apply Classical.byContradiction
    intro hno
    -- were none of them right now, these times, one later, would be closed
    have hno' : ∀ f, 0 ≤ f → f < 80 → ¬ T f = sp ρ w S f → ¬ T' f = sp ρ w S f := fun f q0 q1 q2 q3 => hno ⟨f, q0, q1, by simp [q2], by simp [q3]⟩
    have hlt : ∀ f, 0 ≤ f → f < 80 → ¬ T f = sp ρ w S f → sp ρ w S f < T f := fun f q0 q1 q2 => by have := h1 f q0 q1; omega
    have hC : Clo ρ w S (fun f => if ¬ T f = sp ρ w S f ∧ sp ρ w S f = -g then -g + 1 else sp ρ w S f) := by
      refine ⟨fun f q0 q1 => ?_, fun f q0 q1 qc => ?_, fun r o t r0 r1 o0 o1 ht hB => ?_⟩
      · dsimp only
        split
        · rename_i q; have := hlt f q0 q1 q.1; have := (hI f q0 q1).1; omega
        · exact (sp_nn hV w S q0 q1).2
      · dsimp only
        split
        · rename_i q; have := hlt f q0 q1 q.1; have := (hI f q0 q1).2 qc; have := (sp_nn hV w S q0 q1).1; omega
        · exact (sp_clo hV w S).2.1 f q0 q1 qc
      · have hn := hV.1
        have hb := (hV.2.2.2.2.2.2.2.1 r r0 r1).2.2.2.1
        have f0' : 0 ≤ 8 * o + ρ (79 + 5 * r) % 8 := by omega
        have f1' : 8 * o + ρ (79 + 5 * r) % 8 < 80 := by omega
        dsimp only
        split
        · rename_i q
          rcases Int.lt_or_le t (-g + 1) with q9 | q9
          · exfalso
            have hB2 : Br ρ w T r o t := hB.loc hV r0 r1 o0 o1 (fun f q0 q1 q2 => by
              split at q2
              · omega
              · rename_i q5
                rw [if_neg q5]
                by_cases q6 : T f = sp ρ w S f
                · omega
                · exfalso
                  have := hmin f q0 q1 q6
                  exact q5 ⟨q6, by omega⟩)
            have h3 := h2 r o t r0 r1 o0 o1 ht hB2
            have h4 := hno' _ f0' f1' q.1
            have h5 := h1 _ f0' f1'
            omega
          · exact q9
        · refine (sp_clo hV w S).2.2 r o t r0 r1 o0 o1 ht (hB.loc hV r0 r1 o0 o1 (fun f q0 q1 q2 => ?_))
          split
          · rename_i q; omega
          · exact Int.le_refl _
    have := (sp_max hV w S u0 u1).2 _ hC
    rw [if_pos ⟨u2, u3⟩] at this
    omega
