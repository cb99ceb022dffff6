/-! the state that both sides hold -/
/-- the c-th of those below n of which p holds -/
noncomputable def kth (p : Int → Bool) (n c : Int) : Int := Classical.epsilon (fun f => 0 ≤ f ∧ f < n ∧ p f = true ∧ cntI p f = c)
theorem kth_ex {p : Int → Bool} : ∀ n : Int, 0 ≤ n → ∀ c, 0 ≤ c → c < cntI p n → ∃ f, 0 ≤ f ∧ f < n ∧ p f = true ∧ cntI p f = c := by
  intro n hn
  refine int_ind (P := fun n => ∀ c, 0 ≤ c → c < cntI p n → ∃ f, 0 ≤ f ∧ f < n ∧ p f = true ∧ cntI p f = c) (fun c h0 h1 => ?_) (fun n hn ih c h0 h1 => ?_) n hn
  · rw [cntI_0] at h1; omega
  · rw [cntI_s p hn] at h1
    by_cases hc : c < cntI p n
    · obtain ⟨f, a, b, d, e⟩ := ih c h0 hc
      exact ⟨f, a, by omega, d, e⟩
    · cases hp : p n with
      | true => exact ⟨n, hn, by omega, hp, by rw [hp] at h1; simp at h1; omega⟩
      | false => rw [hp] at h1; simp at h1; omega
theorem kth_sp {p : Int → Bool} {n c : Int} (hn : 0 ≤ n) (h0 : 0 ≤ c) (h1 : c < cntI p n) : 0 ≤ kth p n c ∧ kth p n c < n ∧ p (kth p n c) = true ∧ cntI p (kth p n c) = c := Classical.epsilon_spec (kth_ex n hn c h0 h1)
theorem cntI_inj {p : Int → Bool} {a b : Int} (ha : 0 ≤ a) (hb : 0 ≤ b) (pa : p a = true) (pb : p b = true) (h : cntI p a = cntI p b) : a = b := by
  rcases Int.lt_trichotomy a b with q | q | q
  · have := cntI_lt ha q pa; omega
  · exact q
  · have := cntI_lt hb q pb; omega
theorem kth_eq {p : Int → Bool} {n f : Int} (hf : 0 ≤ f) (hn : f < n) (hp : p f = true) : kth p n (cntI p f) = f := by
  have h := kth_sp (p := p) (n := n) (c := cntI p f) (by omega) (cntI_bd p hf).1 (cntI_lt hf hn hp)
  exact cntI_inj h.1 hf h.2.2.1 hp h.2.2.2
/-- what a row says but for the book, what is seen, and the log -/
def tau (ρ : Rw) : Rw := fun i => if (0 ≤ i ∧ i < 3) ∨ (6 ≤ i ∧ i < 200) then ρ i else 0
theorem tau_lo {ρ : Rw} {i : Int} (h : 0 ≤ i) (h2 : i < 3) : tau ρ i = ρ i := if_pos (Or.inl ⟨h, h2⟩)
theorem tau_hi {ρ : Rw} {i : Int} (h : 6 ≤ i) (h2 : i < 200) : tau ρ i = ρ i := if_pos (Or.inr ⟨h, h2⟩)
theorem tau_cong {ρ ρ' : Rw} (h : ∀ i, (0 ≤ i ∧ i < 3) ∨ (6 ≤ i ∧ i < 200) → ρ i = ρ' i) : tau ρ = tau ρ' := by
  funext i
  unfold tau
  split
  · rename_i q; exact h i q
  · rfl
def VR.obj {ρ : Rw} (h : VR ρ) := h.1
theorem wC_tau {ρ : Rw} (hV : VR ρ) {f : Int} (h0 : 0 ≤ f) (h1 : f < 8 * ρ 0) : wC (tau ρ) f = wC ρ f := by
  have hn := hV.1
  have hk := hV.2.2.2.2.1 (f / 8) (by omega) (by omega)
  unfold wC
  rw [tau_hi (i := 6 + f / 8) (by omega) (by omega), tau_hi (by omega) (by omega)]
theorem wS_tau {ρ : Rw} (hV : VR ρ) {f : Int} (h0 : 0 ≤ f) (h1 : f < 8 * ρ 0) : wS (tau ρ) f = wS ρ f := by
  have hn := hV.1
  have hk := hV.2.2.2.2.1 (f / 8) (by omega) (by omega)
  unfold wS
  rw [tau_hi (i := 6 + f / 8) (by omega) (by omega), tau_hi (by omega) (by omega)]
theorem nC_tau {ρ : Rw} (hV : VR ρ) : nC (tau ρ) = nC ρ := by
  have hn := hV.1
  unfold nC
  rw [tau_lo (by decide) (by decide)]
  exact cntI_cong (by omega) (fun f a b => by unfold isC; rw [wC_tau hV a b])
theorem nS_tau {ρ : Rw} (hV : VR ρ) : nS (tau ρ) = nS ρ := by
  have hn := hV.1
  unfold nS
  rw [tau_lo (by decide) (by decide)]
  exact cntI_cong (by omega) (fun f a b => by unfold isS; rw [wS_tau hV a b])
theorem nS_nn {ρ : Rw} (h : 0 ≤ ρ 0) : 0 ≤ nS ρ := (cntI_bd _ (by omega)).1
theorem nC_nn {ρ : Rw} (h : 0 ≤ ρ 0) : 0 ≤ nC ρ := (cntI_bd _ (by omega)).1
theorem VR_tau {ρ : Rw} (hV : VR ρ) : VR (tau ρ) := by
  have hS := nS_tau hV
  have hC := nC_tau hV
  have hnn := nS_nn hV.1.1
  obtain ⟨h0, h1, h2, h3, h4, h5, h6, h7, h8, h9, h10, h11, h12, h13⟩ := hV
  have t0 : tau ρ 0 = ρ 0 := tau_lo (by decide) (by decide)
  have t1 : tau ρ 1 = ρ 1 := tau_lo (by decide) (by decide)
  have t2 : tau ρ 2 = ρ 2 := tau_lo (by decide) (by decide)
  have t3 : tau ρ 3 = 0 := rfl
  have t4 : tau ρ 4 = 0 := rfl
  have t5 : tau ρ 5 = 0 := rfl
  have hp := p2_pos (nS ρ)
  refine ⟨by rw [t0]; exact h0, by rw [t1]; exact h1, by rw [t2]; exact h2, by rw [t3]; decide, fun o a b => ?_, fun l a b => ?_, fun l m a b c => ?_, fun r a b => ?_, fun k a b => ?_, fun k a b => ?_, by rw [hC]; exact h10, by rw [hS]; exact h11, by rw [t4, hS]; omega, by rw [t5, hS]; omega⟩
  · rw [t0] at b
    rw [tau_hi (by omega) (by omega)]; exact h4 o a b
  · rw [t1] at b
    rw [t0, tau_hi (by omega) (by omega), tau_hi (by omega) (by omega), tau_hi (by omega) (by omega)]; exact h5 l a b
  · rw [t1] at c
    rw [tau_hi (by omega) (by omega), tau_hi (by omega) (by omega), tau_hi (by omega) (by omega), tau_hi (by omega) (by omega), tau_hi (by omega) (by omega), tau_hi (by omega) (by omega)]; exact h6 l m a b c
  · rw [t2] at b
    rw [tau_hi (by omega) (by omega), tau_hi (by omega) (by omega), tau_hi (by omega) (by omega), tau_hi (by omega) (by omega), tau_hi (by omega) (by omega)]; exact h7 r a b
  · rw [tau_hi (by omega) (by omega), tau_hi (by omega) (by omega)]; exact h8 k a b
  · rw [t3] at b; omega
/-- CODE of a set of causes without the w-th link, of a row without book, seen, log -/
noncomputable def sf (τ : Rw) (s : Int) : Int := kth (isS τ) (8 * τ 0) s
noncomputable def cf (τ : Rw) (c : Int) : Int := kth (isC τ) (8 * τ 0) c
noncomputable def cod (τ : Rw) (w S : Int) : Int := bsI (fun s => decide (sp τ w S (sf τ s) < 1000000)) (nS τ)
/-- the class's codes are right -/
def CK (τ : Rw) (M : Mem) : Prop := ∀ c, 0 ≤ c → c < nC τ → M.1 112 c = cod τ (-1) (p2 c) ∧ ∀ s, 0 ≤ s → s < nS τ → M.1 113 (c * 12 + s) = sp τ (-1) (p2 c) (sf τ s)
def skey (s : Int) : Int := pcI s * 4096 + s
/-- the class's sets of one to three causes, by how many they have, then by their bits, and their codes -/
def SK (τ : Rw) (M : Mem) : Prop := 0 ≤ M.1 111 9 ∧ M.1 111 9 ≤ 298 ∧ (∀ i, 0 ≤ i → i < M.1 111 9 → 0 < M.1 114 i ∧ M.1 114 i < p2 (nC τ) ∧ pcI (M.1 114 i) ≤ 3 ∧ M.1 115 i = cod τ (-1) (M.1 114 i)) ∧ (∀ i j, 0 ≤ i → i < j → j < M.1 111 9 → skey (M.1 114 i) < skey (M.1 114 j)) ∧ (∀ s, 0 < s → s < p2 (nC τ) → pcI s ≤ 3 → ∃ i, 0 ≤ i ∧ i < M.1 111 9 ∧ M.1 114 i = s)
/-- how many causes have another code without the l-th link -/
noncomputable def chg (τ : Rw) (l : Int) : Int := cntI (fun c => decide (¬ cod τ l (p2 c) = cod τ (-1) (p2 c))) (nC τ)
def WK (τ : Rw) (M : Mem) : Prop := (τ 1 = 0 → M.1 111 10 = -1 ∧ M.1 111 11 = -1) ∧ (0 < τ 1 → 0 ≤ M.1 111 10 ∧ M.1 111 10 < τ 1 ∧ M.1 111 11 = chg τ (M.1 111 10) ∧ (∀ l, 0 ≤ l → l < τ 1 → chg τ l ≤ M.1 111 11) ∧ ∀ l, 0 ≤ l → l < M.1 111 10 → chg τ l < M.1 111 11)
def CX (τ : Rw) (M : Mem) : Prop := (M.1 111 12 = 0 ∨ (M.1 111 12 = 1 ∧ CK τ M)) ∧ (M.1 111 13 = 0 ∨ (M.1 111 13 = 1 ∧ SK τ M)) ∧ (M.1 111 14 = 0 ∨ (M.1 111 14 = 1 ∧ WK τ M))
theorem CX.kp {P : Nat → Prop} {τ : Rw} {M M' : Mem} (h : CX τ M) (hk : Kp P M M') (hP : ∀ c, 111 ≤ c → c ≤ 115 → ¬ P c) : CX τ M' := by
  have e1 := hk.at (hP 111 (by decide) (by decide))
  have e2 := hk.at (hP 112 (by decide) (by decide))
  have e3 := hk.at (hP 113 (by decide) (by decide))
  have e4 := hk.at (hP 114 (by decide) (by decide))
  have e5 := hk.at (hP 115 (by decide) (by decide))
  unfold CX CK SK WK at *
  simp only [e1, e2, e3, e4, e5]
  exact h
/-- row; what can be undone, the latest first; images; terms; refused by -1, -2, -4, -5; status -/
abbrev St : Type := Rw × List (Int × Rw) × (Int → Option Rw) × Rw × Rw × Int
def IX (im : Int → Option Rw) (M : Mem) : Prop := ∀ k : Nat, k < 2 → (M.1 93 k = 0 ∧ im k = none) ∨ (∃ r, M.1 93 k = 1 ∧ im k = some r ∧ XR M (125 + 8 * k) r)
theorem IX.kp {P : Nat → Prop} {im : Int → Option Rw} {M M' : Mem} (h : IX im M) (hk : Kp P M M') (hP : ¬ P 93) (hP2 : ∀ c, 125 ≤ c → c ≤ 140 → ¬ P c) : IX im M' := by
  have e1 := hk.at hP
  intro k hk2
  rw [e1]
  rcases h k hk2 with q | ⟨r, a, b, c⟩
  · exact Or.inl q
  · exact Or.inr ⟨r, a, b, c.kp hk (fun d p1 p2 => hP2 d (by omega) (by omega))⟩
def VS (σ : St) : Prop := VR σ.1 ∧ (∀ u ∈ σ.2.1, VR u.2) ∧ (∀ k r, σ.2.2.1 k = some r → VR r) ∧ (∀ i, 0 ≤ i → i < 4 → 0 ≤ σ.2.2.2.1 i ∧ σ.2.2.2.1 i ≤ cb_mt i.toNat)
/-- the class holds the state -/
def XI (σ : St) (M : Mem) : Prop := XR M 1 σ.1 ∧ RO M 97 (isC (tau σ.1)) (wC (tau σ.1)) (8 * σ.1 0) ∧ RO M 101 (isS (tau σ.1)) (wS (tau σ.1)) (8 * σ.1 0) ∧ UX σ.2.1 M ∧ IX σ.2.2.1 M ∧ (∀ i, 0 ≤ i → i < 4 → M.1 96 i = σ.2.2.2.1 i) ∧ (∀ i, 0 ≤ i → i < 4 → M.1 95 i = σ.2.2.2.2.1 i) ∧ M.1 94 1 = σ.2.2.2.2.2 ∧ CX (tau σ.1) M
theorem RO.kp {P : Nat → Prop} {M M' : Mem} {b : Nat} {p : Int → Bool} {wt : Int → Int} {n : Int} (h : RO M b p wt n) (hk : Kp P M M') (hP : ∀ c, b ≤ c → c ≤ b + 3 → ¬ P c) : RO M' b p wt n := by
  have e0 := hk.at (hP b (by omega) (by omega))
  have e1 := hk.at (hP (b + 1) (by omega) (by omega))
  have e2 := hk.at (hP (b + 2) (by omega) (by omega))
  have e3 := hk.at (hP (b + 3) (by omega) (by omega))
  unfold RO at *
  simp only [e0, e1, e2, e3]
  exact h
theorem RO.cong {M : Mem} {b : Nat} {p p' : Int → Bool} {wt wt' : Int → Int} {n : Int} (hn : 0 ≤ n) (h : RO M b p wt n) (h1 : ∀ f, 0 ≤ f → f < n → p f = p' f) (h2 : ∀ f, 0 ≤ f → f < n → wt f = wt' f) : RO M b p' wt' n := by
  have hc : ∀ m, 0 ≤ m → m ≤ n → cntI p m = cntI p' m := fun m a b => cntI_cong a (fun i c d => h1 i c (by omega))
  refine ⟨by rw [h.1]; exact hc n hn (Int.le_refl _), fun f a b c => ?_⟩
  rw [← hc f a (by omega), ← h2 f a b]
  exact h.2 f a b (by rw [h1 f a b]; exact c)
def KX (c : Nat) : Prop := c < 141
def KM (c : Nat) : Prop := 141 ≤ c
