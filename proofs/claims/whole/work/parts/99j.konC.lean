/-! what the cells hold once they are made -/
def mz : Mem := (fun c i => if c = 96 ∨ c = 143 then tz i else 0, fun _ _ => 0)
theorem mz0 {c : Nat} (h : c ≠ 96) (h2 : c ≠ 143) (i : Int) : mz.1 c i = 0 := if_neg (fun q => q.elim h h2)
/-- the addresses of the cells that were made; the rest as told -/
def kg (g : cb_G) (al : Nat → Nat) : cb_G := (g.1, g.2.1, fun k => if k < 158 then al k else g.2.2 k)
theorem kg_al {g : cb_G} {al : Nat → Nat} {k : Nat} (h : k < 158) : cb_al (kg g al) k = al k := if_pos h
section KZ
variable {g : cb_G} {al : Nat → Nat} {k n ci : Nat}
theorem kz0 (h : cb_kd k = (0, n)) (h1 : k ≠ 96) (h2 : k ≠ 143) : cb_E (kg g al) mz k = .inl (g.2.1.1, n, .inl (fun _ => 0)) := by
  rw [cb_E0 h]
  have e : (fun j : Nat => Int32.ofInt (mz.1 k j)) = fun _ => 0 := funext fun j => by rw [mz0 h1 h2]; rfl
  rw [e]; rfl
theorem kz1 (h : cb_kd k = (1, n)) (h1 : k ≠ 96) (h2 : k ≠ 143) : cb_E (kg g al) mz k = .inl (g.2.1.2.1, n, .inl (fun _ => 0)) := by
  rw [cb_E1 h]
  have e : (fun j : Nat => Int32.ofInt (mz.1 k j)) = fun _ => 0 := funext fun j => by rw [mz0 h1 h2]; rfl
  rw [e]; rfl
theorem kz2 (h : cb_kd k = (2, n)) : cb_E (kg g al) mz k = .inl (g.2.1.2.2.1, n, .inr (.inl (fun _ => 0))) := by
  rw [cb_E2 h]; rfl
theorem kz_ref {j : Nat} (h : cb_ft ci j = 3) (hr : cb_rt k j < 158) : cv (cb_al (kg g al)) (cb_fv mz k ci j) = .ref (al (cb_rt k j)) := by
  unfold cb_fv
  rw [h]
  show Value.ref (cb_al (kg g al) (cb_rt k j)) = _
  rw [kg_al hr]
theorem kz_int {j : Nat} (h : cb_ft ci j = 0 ∨ cb_ft ci j = 1) (h1 : k ≠ 96) (h2 : k ≠ 143) : cv (cb_al (kg g al)) (cb_fv mz k ci j) = .int 0 := by
  unfold cb_fv
  rcases h with h | h
  · rw [h]
    show Value.int (Int32.ofInt (mz.1 k j)) = _
    rw [mz0 h1 h2]; rfl
  · rw [h]
    show Value.int (Int32.ofInt (mz.1 k j)) = _
    rw [mz0 h1 h2]; rfl
theorem kz_long {j : Nat} (h : cb_ft ci j = 2) : cv (cb_al (kg g al)) (cb_fv mz k ci j) = .long 0 := by
  unfold cb_fv
  rw [h]; rfl
/-- a Model's block -/
def MB (b : Nat) : Prop := cb_kd b = (4, 5) ∧ cb_kd (b + 1) = (0, 10) ∧ cb_kd (b + 2) = (0, 60) ∧ cb_kd (b + 3) = (0, 60) ∧ cb_kd (b + 4) = (0, 32) ∧ cb_kd (b + 5) = (0, 32) ∧ cb_kd (b + 6) = (0, 20) ∧ cb_kd (b + 7) = (0, 20) ∧ cb_rt b 6 = b + 1 ∧ cb_rt b 7 = b + 2 ∧ cb_rt b 8 = b + 3 ∧ cb_rt b 9 = b + 4 ∧ cb_rt b 10 = b + 5 ∧ cb_rt b 11 = b + 6 ∧ cb_rt b 12 = b + 7 ∧ (b + 8 ≤ 96 ∨ 97 ≤ b) ∧ b + 8 ≤ 143
theorem mb1 : MB 1 := by unfold MB; decide +kernel
theorem mb_h : ∀ i, i < 10 → MB (12 + 8 * i) := by unfold MB; decide +kernel
theorem mb_i : ∀ i, i < 2 → MB (125 + 8 * i) := by unfold MB; decide +kernel
theorem kz_Mo (h : MB k) : cb_E (kg g al) mz k = .inr (5, [.int 0, .int 0, .int 0, .int 0, .int 0, .int 0, .ref (al (k + 1)), .ref (al (k + 2)), .ref (al (k + 3)), .ref (al (k + 4)), .ref (al (k + 5)), .ref (al (k + 6)), .ref (al (k + 7))]) := by
  obtain ⟨h0, -, -, -, -, -, -, -, r1, r2, r3, r4, r5, r6, r7, hs, hs2⟩ := h
  rw [cb_E4 h0]
  have e : (List.range (cb_nf 5)).map (fun j => cv (cb_al (kg g al)) (cb_fv mz k 5 j)) = [cv (cb_al (kg g al)) (cb_fv mz k 5 0), cv (cb_al (kg g al)) (cb_fv mz k 5 1), cv (cb_al (kg g al)) (cb_fv mz k 5 2), cv (cb_al (kg g al)) (cb_fv mz k 5 3), cv (cb_al (kg g al)) (cb_fv mz k 5 4), cv (cb_al (kg g al)) (cb_fv mz k 5 5), cv (cb_al (kg g al)) (cb_fv mz k 5 6), cv (cb_al (kg g al)) (cb_fv mz k 5 7), cv (cb_al (kg g al)) (cb_fv mz k 5 8), cv (cb_al (kg g al)) (cb_fv mz k 5 9), cv (cb_al (kg g al)) (cb_fv mz k 5 10), cv (cb_al (kg g al)) (cb_fv mz k 5 11), cv (cb_al (kg g al)) (cb_fv mz k 5 12)] := rfl
  have z : ∀ j, cb_ft 5 j = 0 ∨ cb_ft 5 j = 1 → cv (cb_al (kg g al)) (cb_fv mz k 5 j) = .int 0 := fun j hj => kz_int hj (by omega) (by omega)
  rw [e, z 0 (Or.inl rfl), z 1 (Or.inl rfl), z 2 (Or.inl rfl), z 3 (Or.inl rfl), z 4 (Or.inl rfl), z 5 (Or.inl rfl), kz_ref (j := 6) rfl (by omega), kz_ref (j := 7) rfl (by omega), kz_ref (j := 8) rfl (by omega), kz_ref (j := 9) rfl (by omega), kz_ref (j := 10) rfl (by omega), kz_ref (j := 11) rfl (by omega), kz_ref (j := 12) rfl (by omega), r1, r2, r3, r4, r5, r6, r7]
end KZ
