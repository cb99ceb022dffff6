/-! every instruction of the small machine is right -/
theorem vL_inj {a b : Int} (h : vL a = vL b) : a = b := by cases h; rfl
theorem vR_inj {a b : Nat} (h : vR a = vR b) : a = b := by cases h; rfl
def lvOf (g : cb_G) (loc : List Vl) : List (Nat × Value) := (List.range loc.length).filterMap (fun i => (loc[i]?).bind (fun v => if v = vN then none else some (i, cv (cb_al g) v)))
theorem lvOf_has {g : cb_G} {nL : Nat} {ls : Array Slot} {loc : List Vl} (h : cb_Lo g nL ls loc) : lv_has ls nL (lvOf g loc) := by
  obtain ⟨h1, h2, h3, h4⟩ := h
  refine ⟨h2, h3, fun q hq => ?_⟩
  obtain ⟨i, hi, hq⟩ := List.mem_filterMap.mp hq
  cases hv : loc[i]? with
  | none => rw [hv] at hq; cases hq
  | some v =>
    rw [hv, Option.bind_some] at hq
    by_cases hn : v = vN
    · rw [if_pos hn] at hq; cases hq
    · rw [if_neg hn] at hq
      cases hq
      exact h4 i v hv hn
theorem lvOf_mem {g : cb_G} {loc : List Vl} {i : Nat} {v : Vl} (h : loc[i]? = some v) (hn : v ≠ vN) : (i, cv (cb_al g) v) ∈ lvOf g loc := by
  refine List.mem_filterMap.mpr ⟨i, List.mem_range.mpr (List.getElem?_eq_some_iff.mp h).1, ?_⟩
  rw [h, Option.bind_some, if_neg hn]
theorem stl_len (loc : List Vl) (i : Nat) (v : Vl) : (stl loc i v).length = loc.length := by
  unfold stl
  split
  · simp
  · split <;> simp
theorem stl_at {loc : List Vl} {i j : Nat} {v u : Vl} (h : (stl loc i v)[j]? = some u) (hu : u ≠ vN) : (j = i ∧ u = v) ∨ (j ≠ i ∧ loc[j]? = some u ∧ ¬ (j + 1 = i ∧ cb_cat u = 2)) := by
  unfold stl at h
  by_cases hj : j = i
  · subst hj
    left
    refine ⟨rfl, ?_⟩
    have hl := (List.getElem?_eq_some_iff.mp h).1
    rw [List.length_set] at hl
    rw [List.getElem?_set_self hl] at h
    exact (Option.some.inj h).symm
  · right
    rw [List.getElem?_set_ne (Ne.symm hj)] at h
    refine ⟨hj, ?_⟩
    cases i with
    | zero => exact ⟨h, fun q => by omega⟩
    | succ k =>
      dsimp only at h
      split at h
      · rename_i z hz
        by_cases hk : j = k
        · subst hk
          rw [List.getElem?_set_self (List.getElem?_eq_some_iff.mp hz).1] at h
          exact absurd (Option.some.inj h).symm hu
        · rw [List.getElem?_set_ne (Ne.symm hk)] at h
          exact ⟨h, fun q => by omega⟩
      · rename_i hz
        refine ⟨h, fun q => ?_⟩
        have hk : j = k := by omega
        subst hk
        rcases u with z | z | z
        · cases q.2
        · exact hz z h
        · cases q.2
theorem cb_Lo.st {g : cb_G} {nL : Nat} {ls ls' : Array Slot} {loc : List Vl} {i : Nat} {v : Vl} (hL : cb_Lo g nL ls loc) (h : lv_has ls' nL ((i, cv (cb_al g) v) :: (lvOf g loc).filter (fun q => !(q.1 == i) && !(q.1 + 1 == i && q.2.category == 2)))) : cb_Lo g nL ls' (stl loc i v) := by
  obtain ⟨h1, h2, h3⟩ := h
  refine ⟨by rw [stl_len]; exact hL.1, h1, h2, fun j u hj hu => ?_⟩
  rcases stl_at hj hu with ⟨rfl, rfl⟩ | ⟨a, b, c⟩
  · exact h3 (j, _) List.mem_cons_self
  · refine h3 (j, cv (cb_al g) u) (List.mem_cons_of_mem _ (List.mem_filter.mpr ⟨lvOf_mem b hu, ?_⟩))
    simp only [Bool.and_eq_true, Bool.not_eq_true', beq_eq_false_iff_ne, Bool.and_eq_false_imp, beq_iff_eq, cb_cat_cv]
    exact ⟨a, fun e q => c ⟨e, q⟩⟩
theorem cb_Lo.st2 {g : cb_G} {nL : Nat} {ls ls' : Array Slot} {loc : List Vl} {i : Nat} {v : Vl} (hL : cb_Lo g nL ls loc) (hi : i + 1 < nL) (h : lv_has ls' nL ((i, cv (cb_al g) v) :: (lvOf g loc).filter (fun q => !(q.1 == i) && (!(q.1 == i + 1) && !(q.1 + 1 == i && q.2.category == 2))))) : cb_Lo g nL ls' ((stl loc i v).set (i + 1) vN) := by
  obtain ⟨h1, h2, h3⟩ := h
  refine ⟨by rw [List.length_set, stl_len]; exact hL.1, h1, h2, fun j u hj hu => ?_⟩
  by_cases hji : j = i + 1
  · subst hji
    rw [List.getElem?_set_self (by rw [stl_len, hL.1]; exact hi)] at hj
    exact absurd (Option.some.inj hj).symm hu
  · rw [List.getElem?_set_ne (Ne.symm hji)] at hj
    rcases stl_at hj hu with ⟨rfl, rfl⟩ | ⟨a, b, c⟩
    · exact h3 (j, _) List.mem_cons_self
    · refine h3 (j, cv (cb_al g) u) (List.mem_cons_of_mem _ (List.mem_filter.mpr ⟨lvOf_mem b hu, ?_⟩))
      simp only [Bool.and_eq_true, Bool.not_eq_true', beq_eq_false_iff_ne, Bool.and_eq_false_imp, beq_iff_eq, cb_cat_cv]
      exact ⟨a, hji, fun e q => c ⟨e, q⟩⟩
section SND
variable {own : String} {cc : ByteArray} {nL rk fr lo pc : Nat}
theorem so_X : SO (own, cc, nL, rk, fr, lo) pc opX := fun _ _ _ _ h => h.elim
theorem so_iconst {z : Int} (d : decode cc pc = .ok (.iconst z, 1)) : SO (own, cc, nL, rk, fr, lo) pc (opC (vI z) (pc + 1)) := by
  intro E loc st M h p l e R s m args below meth c Qs A g cells slots X H locs ls hP hS hL
  exact lv_iconst X.1 X.2.1 d rfl (h p l e R s m args below meth c Qs A g cells slots X H locs ls hP hS hL)
theorem so_bipush {z : Int} (hz : (Int8.ofInt z).toInt32 = Int32.ofInt z) (d : decode cc pc = .ok (.bipush z, 2)) : SO (own, cc, nL, rk, fr, lo) pc (opC (vI z) (pc + 2)) := by
  intro E loc st M h p l e R s m args below meth c Qs A g cells slots X H locs ls hP hS hL
  exact lv_bipush X.1 X.2.1 d hz (h p l e R s m args below meth c Qs A g cells slots X H locs ls hP hS hL)
theorem so_sipush {z : Int} (hz : (Int16.ofInt z).toInt32 = Int32.ofInt z) (d : decode cc pc = .ok (.sipush z, 3)) : SO (own, cc, nL, rk, fr, lo) pc (opC (vI z) (pc + 3)) := by
  intro E loc st M h p l e R s m args below meth c Qs A g cells slots X H locs ls hP hS hL
  exact lv_sipush X.1 X.2.1 d hz (h p l e R s m args below meth c Qs A g cells slots X H locs ls hP hS hL)
theorem so_lconst {k : Fin 2} {z : Int} (hz : Int64.ofNat (k : Nat) = Int64.ofInt z) (d : decode cc pc = .ok (.lconst k, 1)) : SO (own, cc, nL, rk, fr, lo) pc (opC (vL z) (pc + 1)) := by
  intro E loc st M h p l e R s m args below meth c Qs A g cells slots X H locs ls hP hS hL
  exact lv_lconst X.1 X.2.1 d hz (h p l e R s m args below meth c Qs A g cells slots X H locs ls hP hS hL)
theorem so_ldc {z : Int} {ix : Nat} (hw : Cond.constant own ix (Int32.ofInt z) ∈ cb_TB) (d : decode cc pc = .ok (.ldc ix, 2)) : SO (own, cc, nL, rk, fr, lo) pc (opC (vI z) (pc + 2)) := by
  intro E loc st M h p l e R s m args below meth c Qs A g cells slots X H locs ls hP hS hL
  exact lv_ldc X.1 X.2.1 X.2.2.2.1 (X.2.2.2.2.1 _ hw args) d (h p l e R s m args below meth c Qs A g cells slots X H locs ls hP hS hL)
theorem so_ldcw {z : Int} {ix : Nat} (hw : Cond.constant own ix (Int32.ofInt z) ∈ cb_TB) (d : decode cc pc = .ok (.ldc_w ix, 3)) : SO (own, cc, nL, rk, fr, lo) pc (opC (vI z) (pc + 3)) := by
  intro E loc st M h p l e R s m args below meth c Qs A g cells slots X H locs ls hP hS hL
  exact lv_ldcw X.1 X.2.1 X.2.2.2.1 (X.2.2.2.2.1 _ hw args) d (h p l e R s m args below meth c Qs A g cells slots X H locs ls hP hS hL)
theorem so_ldc2 {z : Int} {ix : Nat} (hw : Cond.constantLong own ix (Int64.ofInt z) ∈ cb_TB) (d : decode cc pc = .ok (.ldc2_w ix, 3)) : SO (own, cc, nL, rk, fr, lo) pc (opC (vL z) (pc + 3)) := by
  intro E loc st M h p l e R s m args below meth c Qs A g cells slots X H locs ls hP hS hL
  exact lv_ldc2 X.1 X.2.1 X.2.2.2.1 (X.2.2.2.2.1 _ hw args) d (h p l e R s m args below meth c Qs A g cells slots X H locs ls hP hS hL)
theorem so_iload_n {k : Fin 4} {i : Nat} (hi : (k : Nat) = i) (d : decode cc pc = .ok (.iload_n k, 1)) : SO (own, cc, nL, rk, fr, lo) pc (opLdI i (pc + 1)) := by
  intro E loc st M h0 p l e R s m args below meth c Qs A g cells slots X H locs ls hP hS hL
  obtain ⟨x, hv, h⟩ := h0
  exact lv_iload_n X.1 X.2.1 d hi (hL.2.2.2 i _ hv (vI_ne _)) (h p l e R s m args below meth c Qs A g cells slots X H locs ls hP hS hL)
theorem so_iload {i : Nat} (d : decode cc pc = .ok (.iload i, 2)) : SO (own, cc, nL, rk, fr, lo) pc (opLdI i (pc + 2)) := by
  intro E loc st M h0 p l e R s m args below meth c Qs A g cells slots X H locs ls hP hS hL
  obtain ⟨x, hv, h⟩ := h0
  exact lv_iload X.1 X.2.1 d (hL.2.2.2 i _ hv (vI_ne _)) (h p l e R s m args below meth c Qs A g cells slots X H locs ls hP hS hL)
theorem so_lload_n {k : Fin 4} {i : Nat} (hi : (k : Nat) = i) (d : decode cc pc = .ok (.lload_n k, 1)) : SO (own, cc, nL, rk, fr, lo) pc (opLdL i (pc + 1)) := by
  intro E loc st M h0 p l e R s m args below meth c Qs A g cells slots X H locs ls hP hS hL
  obtain ⟨x, hv, h⟩ := h0
  exact lv_lload_n X.1 X.2.1 d hi (hL.2.2.2 i _ hv (vL_ne _)) (h p l e R s m args below meth c Qs A g cells slots X H locs ls hP hS hL)
theorem so_lload {i : Nat} (d : decode cc pc = .ok (.lload i, 2)) : SO (own, cc, nL, rk, fr, lo) pc (opLdL i (pc + 2)) := by
  intro E loc st M h0 p l e R s m args below meth c Qs A g cells slots X H locs ls hP hS hL
  obtain ⟨x, hv, h⟩ := h0
  exact lv_lload X.1 X.2.1 d (hL.2.2.2 i _ hv (vL_ne _)) (h p l e R s m args below meth c Qs A g cells slots X H locs ls hP hS hL)
theorem so_aload_n {k : Fin 4} {i : Nat} (hi : (k : Nat) = i) (d : decode cc pc = .ok (.aload_n k, 1)) : SO (own, cc, nL, rk, fr, lo) pc (opLdR i (pc + 1)) := by
  intro E loc st M h0 p l e R s m args below meth c Qs A g cells slots X H locs ls hP hS hL
  obtain ⟨x, hv, h⟩ := h0
  exact lv_aload_n X.1 X.2.1 d hi (hL.2.2.2 i _ hv (vR_ne _)) (h p l e R s m args below meth c Qs A g cells slots X H locs ls hP hS hL)
theorem so_aload {i : Nat} (d : decode cc pc = .ok (.aload i, 2)) : SO (own, cc, nL, rk, fr, lo) pc (opLdR i (pc + 2)) := by
  intro E loc st M h0 p l e R s m args below meth c Qs A g cells slots X H locs ls hP hS hL
  obtain ⟨x, hv, h⟩ := h0
  exact lv_aload X.1 X.2.1 d (hL.2.2.2 i _ hv (vR_ne _)) (h p l e R s m args below meth c Qs A g cells slots X H locs ls hP hS hL)
theorem so_istore_n {k : Fin 4} {i : Nat} (hi : (k : Nat) = i) (d : decode cc pc = .ok (.istore_n k, 1)) : SO (own, cc, nL, rk, fr, lo) pc (opStI i (pc + 1)) := by
  intro E loc st M h0 p l e R s m args below meth c Qs A g cells slots X H locs ls hP hS hL
  obtain ⟨x, r, rfl, hl, h⟩ := h0
  refine lv_istore_n X.1 X.2.1 d hi (lvOf_has hL) (Nat.lt_of_lt_of_eq hl hL.1) rfl (fun ls' hl' => ?_)
  exact (h p l e R s m args below meth c Qs A g cells slots X H locs ls' hP hS (hL.st hl'))
theorem so_istore {i : Nat} (d : decode cc pc = .ok (.istore i, 2)) : SO (own, cc, nL, rk, fr, lo) pc (opStI i (pc + 2)) := by
  intro E loc st M h0 p l e R s m args below meth c Qs A g cells slots X H locs ls hP hS hL
  obtain ⟨x, r, rfl, hl, h⟩ := h0
  refine lv_istore X.1 X.2.1 d (lvOf_has hL) (Nat.lt_of_lt_of_eq hl hL.1) rfl (fun ls' hl' => ?_)
  exact (h p l e R s m args below meth c Qs A g cells slots X H locs ls' hP hS (hL.st hl'))
theorem so_astore_n {k : Fin 4} {i : Nat} (hi : (k : Nat) = i) (d : decode cc pc = .ok (.astore_n k, 1)) : SO (own, cc, nL, rk, fr, lo) pc (opStR i (pc + 1)) := by
  intro E loc st M h0 p l e R s m args below meth c Qs A g cells slots X H locs ls hP hS hL
  obtain ⟨x, r, rfl, hl, h⟩ := h0
  refine lv_astore_n X.1 X.2.1 d hi (lvOf_has hL) (Nat.lt_of_lt_of_eq hl hL.1) rfl (fun ls' hl' => ?_)
  exact (h p l e R s m args below meth c Qs A g cells slots X H locs ls' hP hS (hL.st hl'))
theorem so_astore {i : Nat} (d : decode cc pc = .ok (.astore i, 2)) : SO (own, cc, nL, rk, fr, lo) pc (opStR i (pc + 2)) := by
  intro E loc st M h0 p l e R s m args below meth c Qs A g cells slots X H locs ls hP hS hL
  obtain ⟨x, r, rfl, hl, h⟩ := h0
  refine lv_astore X.1 X.2.1 d (lvOf_has hL) (Nat.lt_of_lt_of_eq hl hL.1) rfl (fun ls' hl' => ?_)
  exact (h p l e R s m args below meth c Qs A g cells slots X H locs ls' hP hS (hL.st hl'))
theorem so_lstore_n {k : Fin 4} {i : Nat} (hi : (k : Nat) = i) (d : decode cc pc = .ok (.lstore_n k, 1)) : SO (own, cc, nL, rk, fr, lo) pc (opStL i (pc + 1)) := by
  intro E loc st M h0 p l e R s m args below meth c Qs A g cells slots X H locs ls hP hS hL
  obtain ⟨x, r, rfl, hl, h⟩ := h0
  have hl : i + 1 < nL := Nat.lt_of_lt_of_eq hl hL.1
  refine lv_lstore_n X.1 X.2.1 d hi (lvOf_has hL) hl rfl (fun ls' hl' => ?_)
  exact (h p l e R s m args below meth c Qs A g cells slots X H locs ls' hP hS (hL.st2 hl hl'))
theorem so_lstore {i : Nat} (d : decode cc pc = .ok (.lstore i, 2)) : SO (own, cc, nL, rk, fr, lo) pc (opStL i (pc + 2)) := by
  intro E loc st M h0 p l e R s m args below meth c Qs A g cells slots X H locs ls hP hS hL
  obtain ⟨x, r, rfl, hl, h⟩ := h0
  have hl : i + 1 < nL := Nat.lt_of_lt_of_eq hl hL.1
  refine lv_lstore X.1 X.2.1 d (lvOf_has hL) hl rfl (fun ls' hl' => ?_)
  exact (h p l e R s m args below meth c Qs A g cells slots X H locs ls' hP hS (hL.st2 hl hl'))
theorem so_iinc {i : Nat} {z : Int} (d : decode cc pc = .ok (.iinc i z, 3)) : SO (own, cc, nL, rk, fr, lo) pc (opInc i z (pc + 3)) := by
  intro E loc st M h0 p l e R s m args below meth c Qs A g cells slots X H locs ls hP hS hL
  obtain ⟨x, hv, h⟩ := h0
  have hm := lvOf_mem (g := g) hv (vI_ne x)
  obtain ⟨k, hk⟩ := List.getElem?_of_mem hm
  have hi : i < nL := Nat.lt_of_lt_of_eq (List.getElem?_eq_some_iff.mp hv).1 hL.1
  refine lv_iinc X.1 X.2.1 d (lvOf_has hL) hk (v := Int32.ofInt (x + z)) (by rw [Int32.ofInt_add]) hi rfl (fun ls' hl' => ?_)
  exact (h p l e R s m args below meth c Qs A g cells slots X H locs ls' hP hS (hL.st (v := vI (x + z)) hl'))
theorem so_iadd (d : decode cc pc = .ok (.iadd, 1)) : SO (own, cc, nL, rk, fr, lo) pc (opI2 (fun _ _ => True) (fun x y => x + y) (pc + 1)) := by
  intro E loc st M h0 p l e R s m args below meth c Qs A g cells slots X H locs ls hP hS hL
  obtain ⟨x, y, r, rfl, -, h⟩ := h0
  refine lv_iadd X.1 X.2.1 d ?_
  have e9 : cv (cb_al g) (vI ((fun x y => x + y) x y)) = .int (_) := congrArg Value.int (show Int32.ofInt ((fun x y => x + y) x y) = Int32.ofInt x + Int32.ofInt y by dsimp only; rw [Int32.ofInt_add])
  have h9 := (h p l e R s m args below meth c Qs A g cells slots X H locs ls hP hS hL)
  rw [List.map_cons, e9] at h9
  exact h9
theorem so_isub (d : decode cc pc = .ok (.isub, 1)) : SO (own, cc, nL, rk, fr, lo) pc (opI2 (fun _ _ => True) (fun x y => x - y) (pc + 1)) := by
  intro E loc st M h0 p l e R s m args below meth c Qs A g cells slots X H locs ls hP hS hL
  obtain ⟨x, y, r, rfl, -, h⟩ := h0
  refine lv_isub X.1 X.2.1 d ?_
  have e9 : cv (cb_al g) (vI ((fun x y => x - y) x y)) = .int (_) := congrArg Value.int (show Int32.ofInt ((fun x y => x - y) x y) = Int32.ofInt x - Int32.ofInt y by dsimp only; rw [Int32.ofInt_sub])
  have h9 := (h p l e R s m args below meth c Qs A g cells slots X H locs ls hP hS hL)
  rw [List.map_cons, e9] at h9
  exact h9
theorem so_imul (d : decode cc pc = .ok (.imul, 1)) : SO (own, cc, nL, rk, fr, lo) pc (opI2 (fun _ _ => True) (fun x y => x * y) (pc + 1)) := by
  intro E loc st M h0 p l e R s m args below meth c Qs A g cells slots X H locs ls hP hS hL
  obtain ⟨x, y, r, rfl, -, h⟩ := h0
  refine lv_imul X.1 X.2.1 d ?_
  have e9 : cv (cb_al g) (vI ((fun x y => x * y) x y)) = .int (_) := congrArg Value.int (show Int32.ofInt ((fun x y => x * y) x y) = Int32.ofInt x * Int32.ofInt y by dsimp only; rw [Int32.ofInt_mul])
  have h9 := (h p l e R s m args below meth c Qs A g cells slots X H locs ls hP hS hL)
  rw [List.map_cons, e9] at h9
  exact h9
theorem so_iand (d : decode cc pc = .ok (.iand, 1)) : SO (own, cc, nL, rk, fr, lo) pc (opI2 (fun _ _ => True) (iand) (pc + 1)) := by
  intro E loc st M h0 p l e R s m args below meth c Qs A g cells slots X H locs ls hP hS hL
  obtain ⟨x, y, r, rfl, -, h⟩ := h0
  refine lv_iand X.1 X.2.1 d ?_
  have e9 : cv (cb_al g) (vI ((iand) x y)) = .int (_) := congrArg Value.int (show Int32.ofInt ((iand) x y) = Int32.ofInt x &&& Int32.ofInt y by rw [iand, Int32.ofInt_toInt])
  have h9 := (h p l e R s m args below meth c Qs A g cells slots X H locs ls hP hS hL)
  rw [List.map_cons, e9] at h9
  exact h9
theorem so_ior (d : decode cc pc = .ok (.ior, 1)) : SO (own, cc, nL, rk, fr, lo) pc (opI2 (fun _ _ => True) (ior) (pc + 1)) := by
  intro E loc st M h0 p l e R s m args below meth c Qs A g cells slots X H locs ls hP hS hL
  obtain ⟨x, y, r, rfl, -, h⟩ := h0
  refine lv_ior X.1 X.2.1 d ?_
  have e9 : cv (cb_al g) (vI ((ior) x y)) = .int (_) := congrArg Value.int (show Int32.ofInt ((ior) x y) = Int32.ofInt x ||| Int32.ofInt y by rw [ior, Int32.ofInt_toInt])
  have h9 := (h p l e R s m args below meth c Qs A g cells slots X H locs ls hP hS hL)
  rw [List.map_cons, e9] at h9
  exact h9
theorem so_ixor (d : decode cc pc = .ok (.ixor, 1)) : SO (own, cc, nL, rk, fr, lo) pc (opI2 (fun _ _ => True) (ixor) (pc + 1)) := by
  intro E loc st M h0 p l e R s m args below meth c Qs A g cells slots X H locs ls hP hS hL
  obtain ⟨x, y, r, rfl, -, h⟩ := h0
  refine lv_ixor X.1 X.2.1 d ?_
  have e9 : cv (cb_al g) (vI ((ixor) x y)) = .int (_) := congrArg Value.int (show Int32.ofInt ((ixor) x y) = Int32.ofInt x ^^^ Int32.ofInt y by rw [ixor, Int32.ofInt_toInt])
  have h9 := (h p l e R s m args below meth c Qs A g cells slots X H locs ls hP hS hL)
  rw [List.map_cons, e9] at h9
  exact h9
theorem so_ineg (d : decode cc pc = .ok (.ineg, 1)) : SO (own, cc, nL, rk, fr, lo) pc (opNeg (pc + 1)) := by
  intro E loc st M h0 p l e R s m args below meth c Qs A g cells slots X H locs ls hP hS hL
  obtain ⟨x, r, rfl, h⟩ := h0
  refine lv_ineg X.1 X.2.1 d ?_
  have h9 := (h p l e R s m args below meth c Qs A g cells slots X H locs ls hP hS hL)
  have e9 : cv (cb_al g) (vI (-x)) = .int (-Int32.ofInt x) := congrArg Value.int (Int32.ofInt_neg x)
  rw [List.map_cons, e9] at h9
  exact h9
theorem so_ladd (d : decode cc pc = .ok (.ladd, 1)) : SO (own, cc, nL, rk, fr, lo) pc (opL2 (fun _ _ => True) (fun x y => x + y) (pc + 1)) := by
  intro E loc st M h0 p l e R s m args below meth c Qs A g cells slots X H locs ls hP hS hL
  obtain ⟨x, y, r, rfl, -, h⟩ := h0
  refine lv_ladd X.1 X.2.1 d ?_
  have e9 : cv (cb_al g) (vL ((fun x y => x + y) x y)) = .long (_) := congrArg Value.long (show Int64.ofInt ((fun x y => x + y) x y) = Int64.ofInt x + Int64.ofInt y by dsimp only; rw [Int64.ofInt_add])
  have h9 := (h p l e R s m args below meth c Qs A g cells slots X H locs ls hP hS hL)
  rw [List.map_cons, e9] at h9
  exact h9
theorem so_lsub (d : decode cc pc = .ok (.lsub, 1)) : SO (own, cc, nL, rk, fr, lo) pc (opL2 (fun _ _ => True) (fun x y => x - y) (pc + 1)) := by
  intro E loc st M h0 p l e R s m args below meth c Qs A g cells slots X H locs ls hP hS hL
  obtain ⟨x, y, r, rfl, -, h⟩ := h0
  refine lv_lsub X.1 X.2.1 d ?_
  have e9 : cv (cb_al g) (vL ((fun x y => x - y) x y)) = .long (_) := congrArg Value.long (show Int64.ofInt ((fun x y => x - y) x y) = Int64.ofInt x - Int64.ofInt y by dsimp only; rw [Int64.ofInt_sub])
  have h9 := (h p l e R s m args below meth c Qs A g cells slots X H locs ls hP hS hL)
  rw [List.map_cons, e9] at h9
  exact h9
theorem so_lmul (d : decode cc pc = .ok (.lmul, 1)) : SO (own, cc, nL, rk, fr, lo) pc (opL2 (fun _ _ => True) (fun x y => x * y) (pc + 1)) := by
  intro E loc st M h0 p l e R s m args below meth c Qs A g cells slots X H locs ls hP hS hL
  obtain ⟨x, y, r, rfl, -, h⟩ := h0
  refine lv_lmul X.1 X.2.1 d ?_
  have e9 : cv (cb_al g) (vL ((fun x y => x * y) x y)) = .long (_) := congrArg Value.long (show Int64.ofInt ((fun x y => x * y) x y) = Int64.ofInt x * Int64.ofInt y by dsimp only; rw [Int64.ofInt_mul])
  have h9 := (h p l e R s m args below meth c Qs A g cells slots X H locs ls hP hS hL)
  rw [List.map_cons, e9] at h9
  exact h9
end SND
