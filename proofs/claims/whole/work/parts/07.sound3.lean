theorem cb_kd_lt {c t n : Nat} (h : cb_kd c = (t, n)) (ht : t < 5) : c < 158 := by
  rcases Nat.lt_or_ge c 158 with q | q
  · exact q
  · exfalso
    rcases Nat.eq_or_lt_of_le q with q | q
    · subst q
      have h9 : cb_kd 158 = (5, 4) := rfl
      rw [h9] at h
      cases h
      omega
    · have h9 : cb_kd c = (9, 0) := by
        unfold cb_kd
        rw [List.getD_eq_getElem?_getD, List.getElem?_eq_none q]
        rfl
      rw [h9] at h
      cases h
      omega
theorem cb_kd_le {c t n : Nat} (h : cb_kd c = (t, n)) : n ≤ 2400 := by
  have hall : ∀ q ∈ cb_kdL, q.2 ≤ 2400 := by decide +kernel
  unfold cb_kd at h
  rcases Nat.lt_or_ge c cb_kdL.length with q | q
  · rw [List.getD_eq_getElem?_getD, List.getElem?_eq_getElem q, Option.getD_some] at h
    have := hall _ (List.getElem_mem q)
    rw [h] at this
    exact this
  · rw [List.getD_eq_getElem?_getD, List.getElem?_eq_none q] at h
    cases h
    omega
theorem cb_E_ne {g : cb_G} {M M' : Mem} {k : Nat} (h1 : ∀ i, M'.1 k i = M.1 k i) (h2 : ∀ i, M'.2 k i = M.2 k i) : cb_E g M' k = cb_E g M k := by
  unfold cb_E cb_fv
  simp only [h1, h2]
theorem cb_E0 {g : cb_G} {M : Mem} {k n : Nat} (h : cb_kd k = (0, n)) : cb_E g M k = .inl (g.2.1.1, n, .inl (fun j => Int32.ofInt (M.1 k j))) := by
  unfold cb_E; rw [h]; rfl
theorem cb_E1 {g : cb_G} {M : Mem} {k n : Nat} (h : cb_kd k = (1, n)) : cb_E g M k = .inl (g.2.1.2.1, n, .inl (fun j => Int32.ofInt (M.1 k j))) := by
  unfold cb_E; rw [h]; rfl
theorem cb_E2 {g : cb_G} {M : Mem} {k n : Nat} (h : cb_kd k = (2, n)) : cb_E g M k = .inl (g.2.1.2.2.1, n, .inr (.inl (fun j => Int64.ofInt (M.2 k j)))) := by
  unfold cb_E; rw [h]; rfl
theorem cb_E3 {g : cb_G} {M : Mem} {k n : Nat} (h : cb_kd k = (3, n)) : cb_E g M k = .inl (g.2.1.2.2.2, n, .inr (.inr (.inr (.inr (fun j => some (cb_al g (cb_rt k j))))))) := by
  unfold cb_E; rw [h]; rfl
theorem cb_E4 {g : cb_G} {M : Mem} {k ci : Nat} (h : cb_kd k = (4, ci)) : cb_E g M k = .inr (ci, (List.range (cb_nf ci)).map (fun j => cv (cb_al g) (cb_fv M k ci j))) := by
  unfold cb_E; rw [h]; rfl
theorem cb_w0 {g : cb_G} {M : Mem} {k n : Nat} (h : cb_kd k = (0, n)) : (cb_w g M)[k]? = some (cb_al g k, .inl (g.2.1.1, n, .inl (fun j => Int32.ofInt (M.1 k j)))) := by
  rw [cb_w_at g M (cb_kd_lt h (by decide)), cb_E0 h]
theorem cb_w1 {g : cb_G} {M : Mem} {k n : Nat} (h : cb_kd k = (1, n)) : (cb_w g M)[k]? = some (cb_al g k, .inl (g.2.1.2.1, n, .inl (fun j => Int32.ofInt (M.1 k j)))) := by
  rw [cb_w_at g M (cb_kd_lt h (by decide)), cb_E1 h]
theorem cb_w2 {g : cb_G} {M : Mem} {k n : Nat} (h : cb_kd k = (2, n)) : (cb_w g M)[k]? = some (cb_al g k, .inl (g.2.1.2.2.1, n, .inr (.inl (fun j => Int64.ofInt (M.2 k j))))) := by
  rw [cb_w_at g M (cb_kd_lt h (by decide)), cb_E2 h]
theorem cb_w3 {g : cb_G} {M : Mem} {k n : Nat} (h : cb_kd k = (3, n)) : (cb_w g M)[k]? = some (cb_al g k, .inl (g.2.1.2.2.2, n, .inr (.inr (.inr (.inr (fun j => some (cb_al g (cb_rt k j)))))))) := by
  rw [cb_w_at g M (cb_kd_lt h (by decide)), cb_E3 h]
theorem cb_w4 {g : cb_G} {M : Mem} {k ci : Nat} (h : cb_kd k = (4, ci)) : (cb_w g M)[k]? = some (cb_al g k, .inr (ci, (List.range (cb_nf ci)).map (fun j => cv (cb_al g) (cb_fv M k ci j)))) := by
  rw [cb_w_at g M (cb_kd_lt h (by decide)), cb_E4 h]
theorem cb_fs_at {g : cb_G} {M : Mem} {c ci k : Nat} (hk : k < cb_nf ci) : ((List.range (cb_nf ci)).map (fun j => cv (cb_al g) (cb_fv M c ci j)))[k]? = some (cv (cb_al g) (cb_fv M c ci k)) := by
  simp [hk]
theorem cb_E_put {g : cb_G} {M M' : Mem} {c ci k : Nat} {v : Value} (h4 : cb_kd c = (4, ci)) (hk : k < cb_nf ci) (hs : cv (cb_al g) (cb_fv M' c ci k) = v) (ho : ∀ j, j ≠ k → cb_fv M' c ci j = cb_fv M c ci j) : cb_E g M' c = .inr (ci, ((List.range (cb_nf ci)).map (fun j => cv (cb_al g) (cb_fv M c ci j))).set k v) := by
  rw [cb_E4 h4]
  congr 2
  apply List.ext_getElem?
  intro i
  by_cases hi : i < cb_nf ci
  · by_cases hik : i = k
    · subst hik
      rw [cb_fs_at hi, hs, List.getElem?_set_self (by simp [hi])]
    · rw [cb_fs_at hi, List.getElem?_set_ne (Ne.symm hik), cb_fs_at hi, ho i hik]
  · rw [List.getElem?_eq_none (by simp; omega), List.getElem?_eq_none (by simp; omega)]
theorem wI_ne {M : Mem} {c k : Nat} {i z j : Int} (h : k ≠ c) : (wI M c i z).1 k j = M.1 k j := by
  simp [wI, h]
theorem wI_2 {M : Mem} {c k : Nat} {i z j : Int} : (wI M c i z).2 k j = M.2 k j := rfl
theorem wL_ne {M : Mem} {c k : Nat} {i z j : Int} (h : k ≠ c) : (wL M c i z).2 k j = M.2 k j := by
  simp [wL, h]
theorem wL_1 {M : Mem} {c k : Nat} {i z j : Int} : (wL M c i z).1 k j = M.1 k j := rfl
theorem cb_wI {g : cb_G} {M : Mem} {c : Nat} {i z : Int} {e : va_E} (hc : c < 158) (he : cb_E g (wI M c i z) c = e) : (cb_w g M).set c (cb_al g c, e) = cb_w g (wI M c i z) :=
  cb_w_set hc he (fun k hk => cb_E_ne (fun j => wI_ne hk) (fun j => wI_2))
theorem cb_wL {g : cb_G} {M : Mem} {c : Nat} {i z : Int} {e : va_E} (hc : c < 158) (he : cb_E g (wL M c i z) c = e) : (cb_w g M).set c (cb_al g c, e) = cb_w g (wL M c i z) :=
  cb_w_set hc he (fun k hk => cb_E_ne (fun j => wL_1) (fun j => wL_ne hk))
theorem cb_fv_I {M : Mem} {c ci k : Nat} (h : cb_ft ci k = 0 ∨ cb_ft ci k = 1) : cb_fv M c ci k = vI (M.1 c k) := by
  unfold cb_fv; rcases h with h | h <;> rw [h] <;> rfl
theorem cb_fv_L {M : Mem} {c ci k : Nat} (h : cb_ft ci k = 2) : cb_fv M c ci k = vL (M.2 c k) := by
  unfold cb_fv; rw [h]; rfl
theorem cb_fv_R {M : Mem} {c ci k : Nat} (h : cb_ft ci k = 3) : cb_fv M c ci k = vR (cb_rt c k) := by
  unfold cb_fv; rw [h]; rfl
theorem cb_putI {g : cb_G} {M : Mem} {c ci k : Nat} {z : Int} (h4 : cb_kd c = (4, ci)) (hk : k < cb_nf ci) (h : cb_ft ci k = 0 ∨ cb_ft ci k = 1) : (cb_w g M).set c (cb_al g c, .inr (ci, ((List.range (cb_nf ci)).map (fun j => cv (cb_al g) (cb_fv M c ci j))).set k (.int (Int32.ofInt z)))) = cb_w g (wI M c k z) := by
  refine cb_wI (cb_kd_lt h4 (by decide)) (cb_E_put h4 hk ?_ ?_)
  · rw [cb_fv_I h]; simp [wI, cv, vI]
  · intro j hj
    unfold cb_fv
    have : ((j : Nat) : Int) ≠ (k : Int) := by omega
    simp [wI, this]
theorem cb_putL {g : cb_G} {M : Mem} {c ci k : Nat} {z : Int} (h4 : cb_kd c = (4, ci)) (hk : k < cb_nf ci) (h : cb_ft ci k = 2) : (cb_w g M).set c (cb_al g c, .inr (ci, ((List.range (cb_nf ci)).map (fun j => cv (cb_al g) (cb_fv M c ci j))).set k (.long (Int64.ofInt z)))) = cb_w g (wL M c k z) := by
  refine cb_wL (cb_kd_lt h4 (by decide)) (cb_E_put h4 hk ?_ ?_)
  · rw [cb_fv_L h]; simp [wL, cv, vL]
  · intro j hj
    unfold cb_fv
    have : ((j : Nat) : Int) ≠ (k : Int) := by omega
    simp [wL, this]
theorem cb_upd {M : Mem} {c : Nat} {i z : Int} (h0 : 0 ≤ i) (h1 : i < 2147483648) : (fun j : Nat => Int32.ofInt ((wI M c i z).1 c j)) = upd (fun j : Nat => Int32.ofInt (M.1 c j)) (Int32.ofInt i).toNatClampNeg (Int32.ofInt z) := by
  funext j
  rw [cb_clamp h0 h1]
  by_cases hj : j = i.toNat
  · subst hj
    have : ((i.toNat : Nat) : Int) = i := by omega
    simp [wI, upd, this]
  · have : ¬ ((j : Nat) : Int) = i := by omega
    simp [wI, upd, hj, this]
theorem cb_updL {M : Mem} {c : Nat} {i z : Int} (h0 : 0 ≤ i) (h1 : i < 2147483648) : (fun j : Nat => Int64.ofInt ((wL M c i z).2 c j)) = vp_updL (fun j : Nat => Int64.ofInt (M.2 c j)) (Int32.ofInt i).toNatClampNeg (Int64.ofInt z) := by
  funext j
  rw [cb_clamp h0 h1]
  by_cases hj : j = i.toNat
  · subst hj
    have : ((i.toNat : Nat) : Int) = i := by omega
    simp [wL, vp_updL, this]
  · have : ¬ ((j : Nat) : Int) = i := by omega
    simp [wL, vp_updL, hj, this]
theorem cb_cpy {M : Mem} {c0 c1 : Nat} {sp dp n : Int} (h0 : 0 ≤ sp) (h1 : sp < 2147483648) (h2 : 0 ≤ dp) (h3 : dp < 2147483648) (h4 : 0 ≤ n) (h5 : n < 2147483648) : (fun j : Nat => Int32.ofInt ((cpI M c0 sp c1 dp n).1 c1 j)) = va_cpy (fun j : Nat => Int32.ofInt (M.1 c0 j)) (fun j : Nat => Int32.ofInt (M.1 c1 j)) (Int32.ofInt sp).toNatClampNeg (Int32.ofInt dp).toNatClampNeg (Int32.ofInt n).toNatClampNeg := by
  funext j
  rw [cb_clamp h0 h1, cb_clamp h2 h3, cb_clamp h4 h5]
  unfold va_cpy cpI
  by_cases hj : dp.toNat ≤ j ∧ j < dp.toNat + n.toNat
  · rw [if_pos hj]
    have hj2 : dp ≤ ((j : Nat) : Int) ∧ ((j : Nat) : Int) < dp + n := by omega
    simp only [true_and, hj2, if_true, and_self]
    rw [show ((sp.toNat + (j - dp.toNat) : Nat) : Int) = sp + (↑j - dp) by omega]
  · rw [if_neg hj]
    have hj2 : ¬ (dp ≤ ((j : Nat) : Int) ∧ ((j : Nat) : Int) < dp + n) := by omega
    simp only [true_and, hj2, if_false]
theorem cb_U.blind (g : cb_G) (M : Mem) (as : List Value) : FrameBlind (va_Pc as (cb_U g M)) := by
  intro a U gf mk h
  obtain ⟨q0, q1, q2, q3, q4, q5⟩ := h
  refine ⟨q0, q1, va_K.moved (u := U) (U := U.calling gf mk a) (Vm.Alike.refl U.vm) q2, q3, fun w hw a' => ?_, va_Z.moved (u := U) (U := U.calling gf mk a) (Vm.Alike.refl U.vm) q5.1, va_T.moved (u := U) (U := U.calling gf mk a) (Vm.Alike.refl U.vm) q5.2⟩
  have h1 := q4 w hw #[]
  obtain ⟨-, hk⟩ := List.mem_filter.mp hw
  by_cases hg : w.onTables = true
  · exact va_tabs (u := U) (U := U.calling gf mk a) hg rfl h1
  · cases w <;> first | exact h1 | exact absurd rfl hg | (simp [cb_ok, goodWord, hg] at hk)
theorem cb_U.at {g : cb_G} {M : Mem} {A : Nat → Prop} {s U : State} {H : Heap} {locs : List Loc} (hP : cb_P g M H) (hK : cb_K g s) (hJ : cb_J g) (hW : cb_Ws s) (hA : ∀ k, k < 158 → A (cb_al g k)) (hZ : cb_Z g A s s.heap) (hS : va_S A s.heap H locs) (hU : U.heap = H) (hw : s.WarmedH U.vm) : cb_U g M U := by
  subst hU
  have hsub : ∀ q, cb_A g q → A q := fun q ⟨k, hk, e⟩ => e ▸ hA k hk
  exact ⟨hP, va_K.moved hw.alike hK, hJ, hW.moved hw, va_Z.narrow (va_Z.moved hw.alike (hZ.1.kept hS.2.1)) hsub, va_T.narrow (va_T.moved hw.alike (hZ.2.kept hS.2.1)) hsub⟩
section SND
variable {own : String} {cc : ByteArray} {nL rk fr lo pc : Nat}
theorem so_get {ci k ix : Nat} {C : String} {T : u_T} {N : Nat} {ty : Nat → FieldType} (hC : cb_C ci C T N ty) (hk : k < N) (hw : Cond.fieldLink own ix (T k).1 (T k).2.1 (T k).2.2.1 ∈ cb_TB) (d : decode cc pc = .ok (.getfield ix, 3)) : SO (own, cc, nL, rk, fr, lo) pc (opGet ci k (pc + 3)) := by
  intro E loc st M h0 p l e R s m args below meth c Qs A g cells slots X H locs ls hP hS hL
  obtain ⟨x, r, rfl, q1, h⟩ := h0
  have hk' : k < cb_nf ci := by rw [hC.2.2.2.2]; exact hk
  exact va_get X.1 X.2.1 (fun w hw => X.2.2.2.2.1 w hw args) hC.2.1 X.2.2.2.1 X.2.2.2.2.2.2.2.2.2.1 hP x (cb_w4 q1) hC.1 k hk (X.2.2.2.2.1 _ hw args) (fun _ h9 => h9) (cb_fs_at hk') d (h p l e R s m args below meth c Qs A g cells slots X H locs ls hP hS hL)
theorem so_putI {ci k ix : Nat} {C : String} {T : u_T} {N : Nat} {ty : Nat → FieldType} (hC : cb_C ci C T N ty) (hk : k < N) (hw : Cond.fieldLink own ix (T k).1 (T k).2.1 (T k).2.2.1 ∈ cb_TB) (hfin : (T k).2.2.2 = false) (hty : ty k = .int) (hf : cb_ft ci k = 0) (d : decode cc pc = .ok (.putfield ix, 3)) : SO (own, cc, nL, rk, fr, lo) pc (opPutI ci k (pc + 3)) := by
  intro E loc st M h0 p l e R s m args below meth c Qs A g cells slots X H locs ls hP hS hL
  obtain ⟨x, z, r, rfl, q1, h⟩ := h0
  have hk' : k < cb_nf ci := by rw [hC.2.2.2.2]; exact hk
  refine va_put (v := .int (Int32.ofInt z)) (ty := .int) X.1 X.2.1 (fun w hw => X.2.2.2.2.1 w hw args) hC.2.1 ty hC.2.2.1 hC.2.2.2.1 X.2.2.2.1 X.2.2.2.2.2.2.2.2.2.1 hP (cb_D X.2.2.2.2.2.2.2.2.2.2.1 X.2.2.2.2.2.2.2.2.2.2.2.1 M) hS x (cb_w4 q1) hC.1 k hk (X.2.2.2.2.1 _ hw args) (fun _ h9 => h9) hfin (by rw [hC.2.2.1 k hk, hty]) rfl rfl (by simp [hk']) d (fun H1 locs1 hP1 _ hS1 => ?_)
  rw [cb_putI q1 hk' (Or.inl hf)] at hP1
  exact h p l e R s m args below meth c Qs A g cells slots X H1 locs1 ls hP1 hS1 hL
theorem so_putZ {ci k ix : Nat} {C : String} {T : u_T} {N : Nat} {ty : Nat → FieldType} (hC : cb_C ci C T N ty) (hk : k < N) (hw : Cond.fieldLink own ix (T k).1 (T k).2.1 (T k).2.2.1 ∈ cb_TB) (hfin : (T k).2.2.2 = false) (hty : ty k = .boolean) (hf : cb_ft ci k = 1) (d : decode cc pc = .ok (.putfield ix, 3)) : SO (own, cc, nL, rk, fr, lo) pc (opPutZ ci k (pc + 3)) := by
  intro E loc st M h0 p l e R s m args below meth c Qs A g cells slots X H locs ls hP hS hL
  obtain ⟨x, z, r, rfl, q1, q2, h⟩ := h0
  have hk' : k < cb_nf ci := by rw [hC.2.2.2.2]; exact hk
  refine va_put (v := .int (Int32.ofInt z)) (ty := .boolean) X.1 X.2.1 (fun w hw => X.2.2.2.2.1 w hw args) hC.2.1 ty hC.2.2.1 hC.2.2.2.1 X.2.2.2.1 X.2.2.2.2.2.2.2.2.2.1 hP (cb_D X.2.2.2.2.2.2.2.2.2.2.1 X.2.2.2.2.2.2.2.2.2.2.2.1 M) hS x (cb_w4 q1) hC.1 k hk (X.2.2.2.2.1 _ hw args) (fun _ h9 => h9) hfin (by rw [hC.2.2.1 k hk, hty]) (by rcases q2 with rfl | rfl <;> rfl) (by rcases q2 with rfl | rfl <;> rfl) (by simp [hk']) d (fun H1 locs1 hP1 _ hS1 => ?_)
  rw [cb_putI q1 hk' (Or.inr hf)] at hP1
  exact h p l e R s m args below meth c Qs A g cells slots X H1 locs1 ls hP1 hS1 hL
theorem so_putL {ci k ix : Nat} {C : String} {T : u_T} {N : Nat} {ty : Nat → FieldType} (hC : cb_C ci C T N ty) (hk : k < N) (hw : Cond.fieldLink own ix (T k).1 (T k).2.1 (T k).2.2.1 ∈ cb_TB) (hfin : (T k).2.2.2 = false) (hty : ty k = .long) (hf : cb_ft ci k = 2) (d : decode cc pc = .ok (.putfield ix, 3)) : SO (own, cc, nL, rk, fr, lo) pc (opPutL ci k (pc + 3)) := by
  intro E loc st M h0 p l e R s m args below meth c Qs A g cells slots X H locs ls hP hS hL
  obtain ⟨x, z, r, rfl, q1, h⟩ := h0
  have hk' : k < cb_nf ci := by rw [hC.2.2.2.2]; exact hk
  refine va_put (v := .long (Int64.ofInt z)) (ty := .long) X.1 X.2.1 (fun w hw => X.2.2.2.2.1 w hw args) hC.2.1 ty hC.2.2.1 hC.2.2.2.1 X.2.2.2.1 X.2.2.2.2.2.2.2.2.2.1 hP (cb_D X.2.2.2.2.2.2.2.2.2.2.1 X.2.2.2.2.2.2.2.2.2.2.2.1 M) hS x (cb_w4 q1) hC.1 k hk (X.2.2.2.2.1 _ hw args) (fun _ h9 => h9) hfin (by rw [hC.2.2.1 k hk, hty]) rfl rfl (by simp [hk']) d (fun H1 locs1 hP1 _ hS1 => ?_)
  rw [cb_putL q1 hk' hf] at hP1
  exact h p l e R s m args below meth c Qs A g cells slots X H1 locs1 ls hP1 hS1 hL
theorem so_getN {ci k ix : Nat} {host : String} {C : String} {T : u_T} {N : Nat} {ty : Nat → FieldType} (hC : cb_C ci C T N ty) (hk : k < N) (hw : Cond.fieldLinkNest own ix (T k).1 (T k).2.1 (T k).2.2.1 host ∈ cb_TB) (d : decode cc pc = .ok (.getfield ix, 3)) : SO (own, cc, nL, rk, fr, lo) pc (opGet ci k (pc + 3)) := by
  intro E loc st M h0 p l e R s m args below meth c Qs A g cells slots X H locs ls hP hS hL
  obtain ⟨x, r, rfl, q1, h⟩ := h0
  have hk' : k < cb_nf ci := by rw [hC.2.2.2.2]; exact hk
  exact va_getN X.1 X.2.1 (fun w hw => X.2.2.2.2.1 w hw args) hC.2.1 X.2.2.2.1 X.2.2.2.2.2.2.2.2.2.1 hP x (cb_w4 q1) hC.1 k hk (X.2.2.2.2.1 _ hw args) (fun _ h9 => h9) (cb_fs_at hk') d (h p l e R s m args below meth c Qs A g cells slots X H locs ls hP hS hL)
theorem so_putIN {ci k ix : Nat} {host : String} {C : String} {T : u_T} {N : Nat} {ty : Nat → FieldType} (hC : cb_C ci C T N ty) (hk : k < N) (hw : Cond.fieldLinkNest own ix (T k).1 (T k).2.1 (T k).2.2.1 host ∈ cb_TB) (hfin : (T k).2.2.2 = false) (hty : ty k = .int) (hf : cb_ft ci k = 0) (d : decode cc pc = .ok (.putfield ix, 3)) : SO (own, cc, nL, rk, fr, lo) pc (opPutI ci k (pc + 3)) := by
  intro E loc st M h0 p l e R s m args below meth c Qs A g cells slots X H locs ls hP hS hL
  obtain ⟨x, z, r, rfl, q1, h⟩ := h0
  have hk' : k < cb_nf ci := by rw [hC.2.2.2.2]; exact hk
  refine va_putN (v := .int (Int32.ofInt z)) (ty := .int) X.1 X.2.1 (fun w hw => X.2.2.2.2.1 w hw args) hC.2.1 ty hC.2.2.1 hC.2.2.2.1 X.2.2.2.1 X.2.2.2.2.2.2.2.2.2.1 hP (cb_D X.2.2.2.2.2.2.2.2.2.2.1 X.2.2.2.2.2.2.2.2.2.2.2.1 M) hS x (cb_w4 q1) hC.1 k hk (X.2.2.2.2.1 _ hw args) (fun _ h9 => h9) hfin (by rw [hC.2.2.1 k hk, hty]) rfl rfl (by simp [hk']) d (fun H1 locs1 hP1 _ hS1 => ?_)
  rw [cb_putI q1 hk' (Or.inl hf)] at hP1
  exact h p l e R s m args below meth c Qs A g cells slots X H1 locs1 ls hP1 hS1 hL
theorem so_putZN {ci k ix : Nat} {host : String} {C : String} {T : u_T} {N : Nat} {ty : Nat → FieldType} (hC : cb_C ci C T N ty) (hk : k < N) (hw : Cond.fieldLinkNest own ix (T k).1 (T k).2.1 (T k).2.2.1 host ∈ cb_TB) (hfin : (T k).2.2.2 = false) (hty : ty k = .boolean) (hf : cb_ft ci k = 1) (d : decode cc pc = .ok (.putfield ix, 3)) : SO (own, cc, nL, rk, fr, lo) pc (opPutZ ci k (pc + 3)) := by
  intro E loc st M h0 p l e R s m args below meth c Qs A g cells slots X H locs ls hP hS hL
  obtain ⟨x, z, r, rfl, q1, q2, h⟩ := h0
  have hk' : k < cb_nf ci := by rw [hC.2.2.2.2]; exact hk
  refine va_putN (v := .int (Int32.ofInt z)) (ty := .boolean) X.1 X.2.1 (fun w hw => X.2.2.2.2.1 w hw args) hC.2.1 ty hC.2.2.1 hC.2.2.2.1 X.2.2.2.1 X.2.2.2.2.2.2.2.2.2.1 hP (cb_D X.2.2.2.2.2.2.2.2.2.2.1 X.2.2.2.2.2.2.2.2.2.2.2.1 M) hS x (cb_w4 q1) hC.1 k hk (X.2.2.2.2.1 _ hw args) (fun _ h9 => h9) hfin (by rw [hC.2.2.1 k hk, hty]) (by rcases q2 with rfl | rfl <;> rfl) (by rcases q2 with rfl | rfl <;> rfl) (by simp [hk']) d (fun H1 locs1 hP1 _ hS1 => ?_)
  rw [cb_putI q1 hk' (Or.inr hf)] at hP1
  exact h p l e R s m args below meth c Qs A g cells slots X H1 locs1 ls hP1 hS1 hL
theorem so_putLN {ci k ix : Nat} {host : String} {C : String} {T : u_T} {N : Nat} {ty : Nat → FieldType} (hC : cb_C ci C T N ty) (hk : k < N) (hw : Cond.fieldLinkNest own ix (T k).1 (T k).2.1 (T k).2.2.1 host ∈ cb_TB) (hfin : (T k).2.2.2 = false) (hty : ty k = .long) (hf : cb_ft ci k = 2) (d : decode cc pc = .ok (.putfield ix, 3)) : SO (own, cc, nL, rk, fr, lo) pc (opPutL ci k (pc + 3)) := by
  intro E loc st M h0 p l e R s m args below meth c Qs A g cells slots X H locs ls hP hS hL
  obtain ⟨x, z, r, rfl, q1, h⟩ := h0
  have hk' : k < cb_nf ci := by rw [hC.2.2.2.2]; exact hk
  refine va_putN (v := .long (Int64.ofInt z)) (ty := .long) X.1 X.2.1 (fun w hw => X.2.2.2.2.1 w hw args) hC.2.1 ty hC.2.2.1 hC.2.2.2.1 X.2.2.2.1 X.2.2.2.2.2.2.2.2.2.1 hP (cb_D X.2.2.2.2.2.2.2.2.2.2.1 X.2.2.2.2.2.2.2.2.2.2.2.1 M) hS x (cb_w4 q1) hC.1 k hk (X.2.2.2.2.1 _ hw args) (fun _ h9 => h9) hfin (by rw [hC.2.2.1 k hk, hty]) rfl rfl (by simp [hk']) d (fun H1 locs1 hP1 _ hS1 => ?_)
  rw [cb_putL q1 hk' hf] at hP1
  exact h p l e R s m args below meth c Qs A g cells slots X H1 locs1 ls hP1 hS1 hL
theorem cb_ix {i : Int} (h0 : 0 ≤ i) (h1 : i < 2147483648) : (((Int32.ofInt i).toNatClampNeg : Nat) : Int) = i := by
  rw [cb_clamp h0 h1]; omega
theorem so_iald (d : decode cc pc = .ok (.iaload, 1)) : SO (own, cc, nL, rk, fr, lo) pc (opAld 0 (pc + 1)) := by
  intro E loc st M h0 p l e R s m args below meth c Qs A g cells slots X H locs ls hP hS hL
  obtain ⟨x, i, r, N, rfl, q1, q2, q3, h⟩ := h0
  have hN := cb_kd_le q1
  refine va_iald X.1 X.2.1 X.2.2.2.2.2.2.2.2.2.1 hP x 0 (cb_w0 q1) rfl (cb_vin q2 q3 (by omega)) d ?_
  rw [cb_ix q2 (by omega)]
  exact (h p l e R s m args below meth c Qs A g cells slots X H locs ls hP hS hL)
theorem so_zald (d : decode cc pc = .ok (.baload, 1)) : SO (own, cc, nL, rk, fr, lo) pc (opAld 1 (pc + 1)) := by
  intro E loc st M h0 p l e R s m args below meth c Qs A g cells slots X H locs ls hP hS hL
  obtain ⟨x, i, r, N, rfl, q1, q2, q3, h⟩ := h0
  have hN := cb_kd_le q1
  refine va_zald X.1 X.2.1 X.2.2.2.2.2.2.2.2.2.1 hP x 1 (cb_w1 q1) rfl (cb_vin q2 q3 (by omega)) d ?_
  rw [cb_ix q2 (by omega)]
  exact (h p l e R s m args below meth c Qs A g cells slots X H locs ls hP hS hL)
theorem so_lald (d : decode cc pc = .ok (.laload, 1)) : SO (own, cc, nL, rk, fr, lo) pc (opLld (pc + 1)) := by
  intro E loc st M h0 p l e R s m args below meth c Qs A g cells slots X H locs ls hP hS hL
  obtain ⟨x, i, r, N, rfl, q1, q2, q3, h⟩ := h0
  have hN := cb_kd_le q1
  refine va_lald X.1 X.2.1 X.2.2.2.2.2.2.2.2.2.1 hP x 2 (cb_w2 q1) rfl (cb_vin q2 q3 (by omega)) d ?_
  rw [cb_ix q2 (by omega)]
  exact (h p l e R s m args below meth c Qs A g cells slots X H locs ls hP hS hL)
theorem so_aald (d : decode cc pc = .ok (.aaload, 1)) : SO (own, cc, nL, rk, fr, lo) pc (opRld (pc + 1)) := by
  intro E loc st M h0 p l e R s m args below meth c Qs A g cells slots X H locs ls hP hS hL
  obtain ⟨x, i, r, N, rfl, q1, q2, q3, h⟩ := h0
  have hN := cb_kd_le q1
  refine va_aldq X.1 X.2.1 X.2.2.2.2.2.2.2.2.2.1 hP x 3 (cb_w3 q1) rfl (cb_vin q2 q3 (by omega)) d ?_
  rw [cb_clamp q2 (by omega)]
  exact (h p l e R s m args below meth c Qs A g cells slots X H locs ls hP hS hL)
theorem so_tald (d : decode cc pc = .ok (.iaload, 1)) : SO (own, cc, nL, rk, fr, lo) pc (opTld (pc + 1)) := by
  intro E loc st M h0 p l e R s m args below meth c Qs A g cells slots X H locs ls hP hS hL
  obtain ⟨i, r, rfl, q2, q3, h⟩ := h0
  refine va_ti X.1 X.2.1 X.2.2.2.2.2.2.2.2.2.2.2.2.1.2 hS (cb_vin q2 q3 (by decide)) (v := .int (Int32.ofInt (cb_mt i.toNat))) ?_ d (h p l e R s m args below meth c Qs A g cells slots X H locs ls hP hS hL)
  rw [cb_clamp q2 (by omega)]
theorem so_iast (d : decode cc pc = .ok (.iastore, 1)) : SO (own, cc, nL, rk, fr, lo) pc (opAst (pc + 1)) := by
  intro E loc st M h0 p l e R s m args below meth c Qs A g cells slots X H locs ls hP hS hL
  obtain ⟨x, i, z, r, N, rfl, q1, q2, q3, h⟩ := h0
  have hN := cb_kd_le q1
  refine va_iast X.1 X.2.1 X.2.2.2.2.2.2.2.2.2.1 hP (cb_D X.2.2.2.2.2.2.2.2.2.2.1 X.2.2.2.2.2.2.2.2.2.2.2.1 M) hS x 0 (cb_w0 q1) rfl (cb_vin q2 q3 (by omega)) d (fun H1 locs1 hP1 _ hS1 => ?_)
  rw [cb_wI (cb_kd_lt q1 (by decide)) (i := i) (z := z) (by rw [cb_E0 q1, cb_upd q2 (by omega)])] at hP1
  exact h p l e R s m args below meth c Qs A g cells slots X H1 locs1 ls hP1 hS1 hL
theorem so_zast (d : decode cc pc = .ok (.bastore, 1)) : SO (own, cc, nL, rk, fr, lo) pc (opZst (pc + 1)) := by
  intro E loc st M h0 p l e R s m args below meth c Qs A g cells slots X H locs ls hP hS hL
  obtain ⟨x, i, z, r, N, rfl, q1, q2, q3, q4, h⟩ := h0
  have hN := cb_kd_le q1
  refine va_zast X.1 X.2.1 X.2.2.2.2.2.2.2.2.2.1 hP (cb_D X.2.2.2.2.2.2.2.2.2.2.1 X.2.2.2.2.2.2.2.2.2.2.2.1 M) hS x 1 (cb_w1 q1) rfl (cb_vin q2 q3 (by omega)) d (fun H1 locs1 hP1 _ hS1 => ?_)
  have e9 : vp_nar .boolean (Int32.ofInt z) = Int32.ofInt z := by rcases q4 with rfl | rfl <;> rfl
  rw [e9] at hP1
  rw [cb_wI (cb_kd_lt q1 (by decide)) (i := i) (z := z) (by rw [cb_E1 q1, cb_upd q2 (by omega)])] at hP1
  exact h p l e R s m args below meth c Qs A g cells slots X H1 locs1 ls hP1 hS1 hL
theorem so_last (d : decode cc pc = .ok (.lastore, 1)) : SO (own, cc, nL, rk, fr, lo) pc (opLst (pc + 1)) := by
  intro E loc st M h0 p l e R s m args below meth c Qs A g cells slots X H locs ls hP hS hL
  obtain ⟨x, i, z, r, N, rfl, q1, q2, q3, h⟩ := h0
  have hN := cb_kd_le q1
  refine va_last X.1 X.2.1 X.2.2.2.2.2.2.2.2.2.1 hP (cb_D X.2.2.2.2.2.2.2.2.2.2.1 X.2.2.2.2.2.2.2.2.2.2.2.1 M) hS x 2 (cb_w2 q1) rfl (cb_vin q2 q3 (by omega)) d (fun H1 locs1 hP1 _ hS1 => ?_)
  rw [cb_wL (cb_kd_lt q1 (by decide)) (i := i) (z := z) (by rw [cb_E2 q1, cb_updL q2 (by omega)])] at hP1
  exact h p l e R s m args below meth c Qs A g cells slots X H1 locs1 ls hP1 hS1 hL
theorem so_alen (d : decode cc pc = .ok (.arraylength, 1)) : SO (own, cc, nL, rk, fr, lo) pc (opLen (pc + 1)) := by
  intro E loc st M h0 p l e R s m args below meth c Qs A g cells slots X H locs ls hP hS hL
  obtain ⟨x, r, N, rfl, q1, h⟩ := h0
  exact va_alen X.1 X.2.1 X.2.2.2.2.2.2.2.2.2.1 hP x 0 (cb_w0 q1) (ty := .int) rfl (show Int32.ofNat N = Int32.ofInt (N : Int) from Int32.ofInt_eq_ofNat.symm) d (h p l e R s m args below meth c Qs A g cells slots X H locs ls hP hS hL)
theorem so_gets {ix : Nat} (hw : Cond.fieldLink own ix "CauseBook" "MOST_OF_TERMS" "[I" ∈ cb_TB) (d : decode cc pc = .ok (.getstatic ix, 3)) : SO (own, cc, nL, rk, fr, lo) pc (opStat (pc + 3)) := by
  intro E loc st M h0 p l e R s m args below meth c Qs A g cells slots X H locs ls hP hS hL
  have h := h0
  exact va_gets X.1 X.2.1 X.2.2.2.2.2.2.2.2.2.2.2.2.1.1 hS X.2.2.2.1 (X.2.2.2.2.1 _ hw args) (fun _ h9 => h9) d (h p l e R s m args below meth c Qs A g cells slots X H locs ls hP hS hL)
end SND
