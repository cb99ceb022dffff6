/-! what joint's walk over the keys comes to -/
theorem J_sp (ρ : Rw) : ∀ K, 0 ≤ K → (JL ρ K = 1000000 ∧ JA ρ K = -1 ∧ JC ρ K = 0 ∧ ∀ k, 0 ≤ k → k < K → ¬ kv (nC ρ) k) ∨ (∃ k0, 0 ≤ k0 ∧ k0 < K ∧ kv (nC ρ) k0 ∧ jd ρ (k0 % 4096) = JL ρ K ∧ JA ρ K = k0 % 4096 ∧ (∀ k, 0 ≤ k → k < K → kv (nC ρ) k → JL ρ K ≤ jd ρ (k % 4096)) ∧ (∀ k, 0 ≤ k → k < k0 → kv (nC ρ) k → JL ρ K < jd ρ (k % 4096)) ∧ JC ρ K = cntI (fun k => dec (kv (nC ρ) k ∧ jd ρ (k % 4096) = JL ρ K)) K) := by
  have hd : ∀ s, 0 ≤ jd ρ s ∧ jd ρ s ≤ 31 := fun s => gp_bd ρ _ _
  refine int_ind (Or.inl ⟨rfl, rfl, rfl, fun k a b => by omega⟩) (fun n hn ih => ?_)
  have eL : JL ρ (n + 1) = jlS ρ n (JL ρ n) := by unfold JL; rw [foI_s _ _ hn]
  have eA : JA ρ (n + 1) = jaS ρ n (JA ρ n) := by unfold JA; rw [foI_s _ _ hn]
  have eC : JC ρ (n + 1) = jcS ρ n (JC ρ n) := by unfold JC; rw [foI_s _ _ hn]
  by_cases q : kv (nC ρ) n
  · have hdn := hd (n % 4096)
    by_cases q2 : jd ρ (n % 4096) < JL ρ n
    · have fL : JL ρ (n + 1) = jd ρ (n % 4096) := eL.trans (if_pos ⟨dec_t q, q2⟩)
      have fA : JA ρ (n + 1) = n % 4096 := eA.trans (if_pos ⟨dec_t q, q2⟩)
      have fC : JC ρ (n + 1) = 1 := by rw [eC]; unfold jcS; rw [if_pos (dec_t q), if_pos q2]
      have low : ∀ k, 0 ≤ k → k < n → kv (nC ρ) k → jd ρ (n % 4096) < jd ρ (k % 4096) := fun k a b c => by
        rcases ih with ⟨-, -, -, z⟩ | ⟨k0, -, -, -, -, -, z, -, -⟩
        · exact absurd c (z k a b)
        · have := z k a b c; omega
      refine Or.inr ⟨n, hn, by omega, q, fL.symm, fA, fun k a b c => ?_, fun k a b c => by rw [fL]; exact low k a b c, ?_⟩
      · rw [fL]
        by_cases y : k = n
        · rw [y]; exact Int.le_refl _
        · have := low k a (by omega) c; omega
      · rw [fC, fL, cntI_s _ hn, if_pos (dec_t ⟨q, rfl⟩), cntI_no hn (fun k a b => dec_f (fun z => by have := low k a b z.1; omega))]; rfl
    · have fL : JL ρ (n + 1) = JL ρ n := eL.trans (if_neg (fun z => q2 z.2))
      have fA : JA ρ (n + 1) = JA ρ n := eA.trans (if_neg (fun z => q2 z.2))
      rcases ih with ⟨z, -⟩ | ⟨k0, a0, a1, a2, a3, a4, a5, a6, a7⟩
      · omega
      · refine Or.inr ⟨k0, a0, by omega, a2, by rw [fL]; exact a3, by rw [fA]; exact a4, fun k x y w => ?_, fun k x y w => by rw [fL]; exact a6 k x y w, ?_⟩
        · rw [fL]
          by_cases e : k = n
          · rw [e]; omega
          · exact a5 k x (by omega) w
        · rw [fL, cntI_s _ hn, ← a7, eC]
          unfold jcS
          rw [if_pos (dec_t q), if_neg q2]
          by_cases e : jd ρ (n % 4096) = JL ρ n
          · rw [if_pos e, if_pos (dec_t ⟨q, e⟩)]
          · rw [if_neg e, if_neg (by rw [dec_f (fun z => e z.2)]; decide), Int.add_zero]
  · have fL : JL ρ (n + 1) = JL ρ n := eL.trans (jl_no ρ n _ q)
    have fA : JA ρ (n + 1) = JA ρ n := eA.trans (ja_no ρ n _ q)
    have fC : JC ρ (n + 1) = JC ρ n := eC.trans (jc_no ρ n _ q)
    rw [fL, fA, fC]
    rcases ih with ⟨z1, z2, z3, z4⟩ | ⟨k0, a0, a1, a2, a3, a4, a5, a6, a7⟩
    · refine Or.inl ⟨z1, z2, z3, fun k a b => ?_⟩
      by_cases e : k = n
      · rw [e]; exact q
      · exact z4 k a (by omega)
    · refine Or.inr ⟨k0, a0, by omega, a2, a3, a4, fun k x y w => ?_, a6, ?_⟩
      · by_cases e : k = n
        · rw [e] at w; exact absurd w q
        · exact a5 k x (by omega) w
      · rw [cntI_s _ hn, ← a7, if_neg (by rw [dec_f (fun z => q z.1)]; decide), Int.add_zero]
