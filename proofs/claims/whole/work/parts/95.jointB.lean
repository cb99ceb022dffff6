/-! counting keys is counting sets -/
theorem cnt_sum2 {p q r : Int → Bool} : ∀ n : Int, 0 ≤ n → (∀ i, 0 ≤ i → i < n → (if p i = true then (1 : Int) else 0) + (if q i = true then 1 else 0) = if r i = true then 1 else 0) → cntI p n + cntI q n = cntI r n := by
  refine int_ind (fun _ => rfl) (fun n hn ih h => ?_)
  have h1 := ih (fun i a b => h i a (by omega))
  have h2 := h n hn (by omega)
  rw [cntI_s _ hn, cntI_s _ hn, cntI_s _ hn]
  omega
theorem cnt_key {nc : Int} (n1 : nc ≤ 12) (Q : Int → Prop) : ∀ b, 0 ≤ b → b ≤ 4 → cntI (fun k => dec (kv nc k ∧ Q (k % 4096))) (b * 4096) = cntI (fun s => dec (0 < s ∧ s < p2 nc ∧ pcI s < b ∧ Q s)) 4096 := by
  have hp := p2_12 n1
  refine int_ind (fun _ => ?_) (fun b hb ih hb4 => ?_)
  · rw [show (0 : Int) * 4096 = 0 from rfl]
    exact (cntI_no (by decide) (fun s a c => dec_f (fun z => by have := pcI_bd s; omega))).symm
  · rw [show (b + 1) * 4096 = b * 4096 + 4096 by omega, cntI_split _ (a := b * 4096) (b := 4096) (by omega) (by decide), ih (by omega)]
    refine cnt_sum2 4096 (by decide) (fun s s0 s1 => ?_)
    have em : (b * 4096 + s) % 4096 = s := by omega
    have hpc := pcI_bd s
    have ek : (kv nc (b * 4096 + s) ∧ Q ((b * 4096 + s) % 4096)) ↔ (0 < s ∧ s < p2 nc ∧ pcI s = b ∧ Q s) := by
      unfold kv
      rw [em]
      unfold skey
      refine ⟨fun ⟨⟨a, c, d, e⟩, f⟩ => ⟨a, c, by omega, f⟩, fun ⟨a, c, d, f⟩ => ⟨⟨a, c, by omega, by omega⟩, f⟩⟩
    rw [dec_cong ek]
    by_cases y : 0 < s ∧ s < p2 nc ∧ Q s
    · rcases Int.lt_trichotomy (pcI s) b with z | z | z
      · rw [dec_t ⟨y.1, y.2.1, z, y.2.2⟩, dec_f (fun w => by have := w.2.2.1; omega), dec_t ⟨y.1, y.2.1, by omega, y.2.2⟩]; rfl
      · rw [dec_f (fun w => by have := w.2.2.1; omega), dec_t ⟨y.1, y.2.1, z, y.2.2⟩, dec_t ⟨y.1, y.2.1, by omega, y.2.2⟩]; rfl
      · rw [dec_f (fun w => by have := w.2.2.1; omega), dec_f (fun w => by have := w.2.2.1; omega), dec_f (fun w => by have := w.2.2.1; omega)]; rfl
    · rw [dec_f (fun w => y ⟨w.1, w.2.1, w.2.2.2⟩), dec_f (fun w => y ⟨w.1, w.2.1, w.2.2.2⟩), dec_f (fun w => y ⟨w.1, w.2.1, w.2.2.2⟩)]; rfl
