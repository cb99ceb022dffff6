/-! a step of a run, by what stands at its place -/
def Good (f : cb_F) (pc : Nat) (op : Op) : Prop := SO f pc op ∧ Mono op
theorem gd_X {f : cb_F} {pc : Nat} : Good f pc opX := ⟨by obtain ⟨a, b, c, d, e, g⟩ := f; exact so_X, mo_X⟩
theorem sp_lt {f : cb_F} {pc n : Nat} {A B : Op} (a : Good f pc A) (b : Good f pc B) : Good f pc (bif Nat.blt pc n then A else B) := by
  cases Nat.blt pc n <;> assumption
theorem sp_eq {f : cb_F} {pc k : Nat} {A : Op} (a : Good f k A) : Good f pc (bif Nat.beq pc k then A else opX) := by
  cases h : Nat.beq pc k with
  | true => rw [Nat.eq_of_beq_eq_true h]; exact a
  | false => exact gd_X
section STP
variable {C : Nat → Op} {f : cb_F} {E : Option Vl → Mem → Prop} {pc n : Nat} {loc st : List Vl} {M : Mem}
theorem st_C {v : Vl} (G : ∀ pc, Good f pc (C pc)) (h : C pc = opC v n) : Run C E pc loc st M = Run C E n loc (v :: st) M := Run.eq h (fun pc => (G pc).2) loc st M
theorem st_LdI {i : Nat} {x : Int} (G : ∀ pc, Good f pc (C pc)) (h : C pc = opLdI i n) (hl : loc[i]? = some (vI x)) : Run C E pc loc st M = Run C E n loc (vI x :: st) M := by
  rw [Run.eq h (fun pc => (G pc).2)]
  refine propext ⟨fun ⟨y, a, b⟩ => ?_, fun b => ⟨x, hl, b⟩⟩
  rw [vI_inj (Option.some.inj (hl.symm.trans a))]; exact b
theorem st_LdL {i : Nat} {x : Int} (G : ∀ pc, Good f pc (C pc)) (h : C pc = opLdL i n) (hl : loc[i]? = some (vL x)) : Run C E pc loc st M = Run C E n loc (vL x :: st) M := by
  rw [Run.eq h (fun pc => (G pc).2)]
  refine propext ⟨fun ⟨y, a, b⟩ => ?_, fun b => ⟨x, hl, b⟩⟩
  rw [vL_inj (Option.some.inj (hl.symm.trans a))]; exact b
theorem st_LdR {i : Nat} {x : Nat} (G : ∀ pc, Good f pc (C pc)) (h : C pc = opLdR i n) (hl : loc[i]? = some (vR x)) : Run C E pc loc st M = Run C E n loc (vR x :: st) M := by
  rw [Run.eq h (fun pc => (G pc).2)]
  refine propext ⟨fun ⟨y, a, b⟩ => ?_, fun b => ⟨x, hl, b⟩⟩
  rw [vR_inj (Option.some.inj (hl.symm.trans a))]; exact b
theorem st_StI {i : Nat} {x : Int} {loc' : List Vl} (G : ∀ pc, Good f pc (C pc)) (h : C pc = opStI i n) (hi : i < loc.length) (hl : stl loc i (vI x) = loc') : Run C E pc loc (vI x :: st) M = Run C E n loc' st M := by
  subst hl
  rw [Run.eq h (fun pc => (G pc).2)]
  refine propext ⟨fun ⟨y, r, a, _, b⟩ => ?_, fun b => ⟨x, st, rfl, hi, b⟩⟩
  obtain ⟨a1, a2⟩ := List.cons.inj a
  rw [vI_inj a1, a2]; exact b
theorem st_StL {i : Nat} {x : Int} {loc' : List Vl} (G : ∀ pc, Good f pc (C pc)) (h : C pc = opStL i n) (hi : i + 1 < loc.length) (hl : (stl loc i (vL x)).set (i + 1) vN = loc') : Run C E pc loc (vL x :: st) M = Run C E n loc' st M := by
  subst hl
  rw [Run.eq h (fun pc => (G pc).2)]
  refine propext ⟨fun ⟨y, r, a, _, b⟩ => ?_, fun b => ⟨x, st, rfl, hi, b⟩⟩
  obtain ⟨a1, a2⟩ := List.cons.inj a
  rw [vL_inj a1, a2]; exact b
theorem st_Inc {i : Nat} {x d : Int} {loc' : List Vl} (G : ∀ pc, Good f pc (C pc)) (h : C pc = opInc i d n) (hi : loc[i]? = some (vI x)) (hl : stl loc i (vI (x + d)) = loc') : Run C E pc loc st M = Run C E n loc' st M := by
  subst hl
  rw [Run.eq h (fun pc => (G pc).2)]
  refine propext ⟨fun ⟨y, a, b⟩ => ?_, fun b => ⟨x, hi, b⟩⟩
  rw [vI_inj (Option.some.inj (hi.symm.trans a))]; exact b
theorem st_I2 {P : Int → Int → Prop} {F : Int → Int → Int} {x y : Int} (G : ∀ pc, Good f pc (C pc)) (h : C pc = opI2 P F n) : Run C E pc loc (vI y :: vI x :: st) M = (P x y ∧ Run C E n loc (vI (F x y) :: st) M) := by
  rw [Run.eq h (fun pc => (G pc).2)]
  refine propext ⟨fun ⟨x', y', r, a, b, c⟩ => ?_, fun b => ⟨x, y, st, rfl, b⟩⟩
  obtain ⟨a1, a2⟩ := List.cons.inj a
  obtain ⟨a2, a3⟩ := List.cons.inj a2
  rw [vI_inj a1, vI_inj a2, a3]; exact ⟨b, c⟩
theorem st_I2t {F : Int → Int → Int} {x y : Int} (G : ∀ pc, Good f pc (C pc)) (h : C pc = opI2 (fun _ _ => True) F n) : Run C E pc loc (vI y :: vI x :: st) M = Run C E n loc (vI (F x y) :: st) M := by
  rw [st_I2 G h]; exact true_and _
theorem st_L2 {P : Int → Int → Prop} {F : Int → Int → Int} {x y : Int} (G : ∀ pc, Good f pc (C pc)) (h : C pc = opL2 P F n) : Run C E pc loc (vL y :: vL x :: st) M = (P x y ∧ Run C E n loc (vL (F x y) :: st) M) := by
  rw [Run.eq h (fun pc => (G pc).2)]
  refine propext ⟨fun ⟨x', y', r, a, b, c⟩ => ?_, fun b => ⟨x, y, st, rfl, b⟩⟩
  obtain ⟨a1, a2⟩ := List.cons.inj a
  obtain ⟨a2, a3⟩ := List.cons.inj a2
  rw [vL_inj a1, vL_inj a2, a3]; exact ⟨b, c⟩
theorem st_L2t {F : Int → Int → Int} {x y : Int} (G : ∀ pc, Good f pc (C pc)) (h : C pc = opL2 (fun _ _ => True) F n) : Run C E pc loc (vL y :: vL x :: st) M = Run C E n loc (vL (F x y) :: st) M := by
  rw [st_L2 G h]; exact true_and _
theorem st_Neg {x : Int} (G : ∀ pc, Good f pc (C pc)) (h : C pc = opNeg n) : Run C E pc loc (vI x :: st) M = Run C E n loc (vI (-x) :: st) M := by
  rw [Run.eq h (fun pc => (G pc).2)]
  refine propext ⟨fun ⟨x', r, a, c⟩ => ?_, fun b => ⟨x, st, rfl, b⟩⟩
  obtain ⟨a1, a2⟩ := List.cons.inj a
  rw [vI_inj a1, a2]; exact c
theorem st_I2l {x : Int} (G : ∀ pc, Good f pc (C pc)) (h : C pc = opI2l n) : Run C E pc loc (vI x :: st) M = (R32 x ∧ Run C E n loc (vL x :: st) M) := by
  rw [Run.eq h (fun pc => (G pc).2)]
  refine propext ⟨fun ⟨x', r, a, b, c⟩ => ?_, fun b => ⟨x, st, rfl, b⟩⟩
  obtain ⟨a1, a2⟩ := List.cons.inj a
  rw [vI_inj a1, a2]; exact ⟨b, c⟩
theorem st_ShlL {x y : Int} (G : ∀ pc, Good f pc (C pc)) (h : C pc = opShlL n) : Run C E pc loc (vI y :: vL x :: st) M = ((0 ≤ y ∧ y < 64) ∧ Run C E n loc (vL (x * 2 ^ y.toNat) :: st) M) := by
  rw [Run.eq h (fun pc => (G pc).2)]
  refine propext ⟨fun ⟨x', y', r, a, b, c⟩ => ?_, fun b => ⟨x, y, st, rfl, b⟩⟩
  obtain ⟨a1, a2⟩ := List.cons.inj a
  obtain ⟨a2, a3⟩ := List.cons.inj a2
  rw [vI_inj a1, vL_inj a2, a3]; exact ⟨b, c⟩
theorem st_Lcmp {x y : Int} (G : ∀ pc, Good f pc (C pc)) (h : C pc = opLcmp n) : Run C E pc loc (vL y :: vL x :: st) M = (R64 x ∧ R64 y ∧ Run C E n loc (vI (cmp3 x y) :: st) M) := by
  rw [Run.eq h (fun pc => (G pc).2)]
  refine propext ⟨fun ⟨x', y', r, a, b, b', c⟩ => ?_, fun b => ⟨x, y, st, rfl, b⟩⟩
  obtain ⟨a1, a2⟩ := List.cons.inj a
  obtain ⟨a2, a3⟩ := List.cons.inj a2
  rw [vL_inj a1, vL_inj a2, a3]; exact ⟨b, b', c⟩
theorem st_Dup {v : Vl} (G : ∀ pc, Good f pc (C pc)) (h : C pc = opDup n) (hc : cb_cat v = 1) : Run C E pc loc (v :: st) M = Run C E n loc (v :: v :: st) M := by
  rw [Run.eq h (fun pc => (G pc).2)]
  refine propext ⟨fun ⟨x', r, a, b, c⟩ => ?_, fun b => ⟨v, st, rfl, hc, b⟩⟩
  obtain ⟨a1, a2⟩ := List.cons.inj a
  rw [a1, a2]; exact c
theorem st_Dup2 {v w : Vl} (G : ∀ pc, Good f pc (C pc)) (h : C pc = opDup2 n) (hc : cb_cat v = 1) (hd : cb_cat w = 1) : Run C E pc loc (v :: w :: st) M = Run C E n loc (v :: w :: v :: w :: st) M := by
  rw [Run.eq h (fun pc => (G pc).2)]
  refine propext ⟨fun ⟨x', y', r, a, b, b', c⟩ => ?_, fun b => ⟨v, w, st, rfl, hc, hd, b⟩⟩
  obtain ⟨a1, a2⟩ := List.cons.inj a
  obtain ⟨a2, a3⟩ := List.cons.inj a2
  rw [a1, a2, a3]; exact c
theorem st_If {P : Int → Prop} {t : Nat} {x : Int} (G : ∀ pc, Good f pc (C pc)) (h : C pc = opIf P t n) : Run C E pc loc (vI x :: st) M = (R32 x ∧ (P x → Run C E t loc st M) ∧ (¬ P x → Run C E n loc st M)) := by
  rw [Run.eq h (fun pc => (G pc).2)]
  refine propext ⟨fun ⟨x', r, a, b⟩ => ?_, fun b => ⟨x, st, rfl, b⟩⟩
  obtain ⟨a1, a2⟩ := List.cons.inj a
  rw [vI_inj a1, a2]; exact b
theorem st_Ic {P : Int → Int → Prop} {t : Nat} {x y : Int} (G : ∀ pc, Good f pc (C pc)) (h : C pc = opIc P t n) : Run C E pc loc (vI y :: vI x :: st) M = (R32 x ∧ R32 y ∧ (P x y → Run C E t loc st M) ∧ (¬ P x y → Run C E n loc st M)) := by
  rw [Run.eq h (fun pc => (G pc).2)]
  refine propext ⟨fun ⟨x', y', r, a, b⟩ => ?_, fun b => ⟨x, y, st, rfl, b⟩⟩
  obtain ⟨a1, a2⟩ := List.cons.inj a
  obtain ⟨a2, a3⟩ := List.cons.inj a2
  rw [vI_inj a1, vI_inj a2, a3]; exact b
theorem st_Go {t : Nat} (G : ∀ pc, Good f pc (C pc)) (h : C pc = opGo t) : Run C E pc loc st M = Run C E t loc st M := Run.eq h (fun pc => (G pc).2) loc st M
theorem st_Sw {ts : List (Int × Nat)} {d : Nat} {x : Int} (G : ∀ pc, Good f pc (C pc)) (h : C pc = opSw ts d) : Run C E pc loc (vI x :: st) M = (R32 x ∧ (∀ q ∈ ts, x = q.1 → Run C E q.2 loc st M) ∧ ((∀ q ∈ ts, x ≠ q.1) → Run C E d loc st M)) := by
  rw [Run.eq h (fun pc => (G pc).2)]
  refine propext ⟨fun ⟨x', r, a, b⟩ => ?_, fun b => ⟨x, st, rfl, b⟩⟩
  obtain ⟨a1, a2⟩ := List.cons.inj a
  rw [vI_inj a1, a2]; exact b
theorem st_Get {ci k c : Nat} {v : Vl} (G : ∀ pc, Good f pc (C pc)) (h : C pc = opGet ci k n) (hk : cb_kd c = (4, ci)) (hv : cb_fv M c ci k = v) : Run C E pc loc (vR c :: st) M = Run C E n loc (v :: st) M := by
  subst hv
  rw [Run.eq h (fun pc => (G pc).2)]
  refine propext ⟨fun ⟨x', r, a, _, b⟩ => ?_, fun b => ⟨c, st, rfl, hk, b⟩⟩
  obtain ⟨a1, a2⟩ := List.cons.inj a
  rw [vR_inj a1, a2]; exact b
theorem st_PutI {ci k c : Nat} {z : Int} (G : ∀ pc, Good f pc (C pc)) (h : C pc = opPutI ci k n) (hk : cb_kd c = (4, ci)) : Run C E pc loc (vI z :: vR c :: st) M = Run C E n loc st (wI M c k z) := by
  rw [Run.eq h (fun pc => (G pc).2)]
  refine propext ⟨fun ⟨x', z', r, a, _, b⟩ => ?_, fun b => ⟨c, z, st, rfl, hk, b⟩⟩
  obtain ⟨a1, a2⟩ := List.cons.inj a
  obtain ⟨a2, a3⟩ := List.cons.inj a2
  rw [vI_inj a1, vR_inj a2, a3]; exact b
theorem st_PutZ {ci k c : Nat} {z : Int} (G : ∀ pc, Good f pc (C pc)) (h : C pc = opPutZ ci k n) (hk : cb_kd c = (4, ci)) : Run C E pc loc (vI z :: vR c :: st) M = ((z = 0 ∨ z = 1) ∧ Run C E n loc st (wI M c k z)) := by
  rw [Run.eq h (fun pc => (G pc).2)]
  refine propext ⟨fun ⟨x', z', r, a, _, b⟩ => ?_, fun b => ⟨c, z, st, rfl, hk, b⟩⟩
  obtain ⟨a1, a2⟩ := List.cons.inj a
  obtain ⟨a2, a3⟩ := List.cons.inj a2
  rw [vI_inj a1, vR_inj a2, a3]; exact b
theorem st_PutL {ci k c : Nat} {z : Int} (G : ∀ pc, Good f pc (C pc)) (h : C pc = opPutL ci k n) (hk : cb_kd c = (4, ci)) : Run C E pc loc (vL z :: vR c :: st) M = Run C E n loc st (wL M c k z) := by
  rw [Run.eq h (fun pc => (G pc).2)]
  refine propext ⟨fun ⟨x', z', r, a, _, b⟩ => ?_, fun b => ⟨c, z, st, rfl, hk, b⟩⟩
  obtain ⟨a1, a2⟩ := List.cons.inj a
  obtain ⟨a2, a3⟩ := List.cons.inj a2
  rw [vL_inj a1, vR_inj a2, a3]; exact b
theorem st_Ald {t c N : Nat} {i : Int} (G : ∀ pc, Good f pc (C pc)) (h : C pc = opAld t n) (hk : cb_kd c = (t, N)) : Run C E pc loc (vI i :: vR c :: st) M = (0 ≤ i ∧ i < (N : Int) ∧ Run C E n loc (vI (M.1 c i) :: st) M) := by
  rw [Run.eq h (fun pc => (G pc).2)]
  refine propext ⟨fun ⟨c', i', r, N', a, k', b⟩ => ?_, fun b => ⟨c, i, st, N, rfl, hk, b⟩⟩
  obtain ⟨a1, a2⟩ := List.cons.inj a
  obtain ⟨a2, a3⟩ := List.cons.inj a2
  have e1 := vI_inj a1
  have e2 := vR_inj a2
  subst e1; subst e2; subst a3
  cases hk.symm.trans k'
  exact b
theorem st_Lld {c N : Nat} {i : Int} (G : ∀ pc, Good f pc (C pc)) (h : C pc = opLld n) (hk : cb_kd c = (2, N)) : Run C E pc loc (vI i :: vR c :: st) M = (0 ≤ i ∧ i < (N : Int) ∧ Run C E n loc (vL (M.2 c i) :: st) M) := by
  rw [Run.eq h (fun pc => (G pc).2)]
  refine propext ⟨fun ⟨c', i', r, N', a, k', b⟩ => ?_, fun b => ⟨c, i, st, N, rfl, hk, b⟩⟩
  obtain ⟨a1, a2⟩ := List.cons.inj a
  obtain ⟨a2, a3⟩ := List.cons.inj a2
  have e1 := vI_inj a1
  have e2 := vR_inj a2
  subst e1; subst e2; subst a3
  cases hk.symm.trans k'
  exact b
theorem st_Rld {c N : Nat} {i : Int} (G : ∀ pc, Good f pc (C pc)) (h : C pc = opRld n) (hk : cb_kd c = (3, N)) : Run C E pc loc (vI i :: vR c :: st) M = (0 ≤ i ∧ i < (N : Int) ∧ Run C E n loc (vR (cb_rt c i.toNat) :: st) M) := by
  rw [Run.eq h (fun pc => (G pc).2)]
  refine propext ⟨fun ⟨c', i', r, N', a, k', b⟩ => ?_, fun b => ⟨c, i, st, N, rfl, hk, b⟩⟩
  obtain ⟨a1, a2⟩ := List.cons.inj a
  obtain ⟨a2, a3⟩ := List.cons.inj a2
  have e1 := vI_inj a1
  have e2 := vR_inj a2
  subst e1; subst e2; subst a3
  cases hk.symm.trans k'
  exact b
theorem st_Tld {i : Int} (G : ∀ pc, Good f pc (C pc)) (h : C pc = opTld n) : Run C E pc loc (vI i :: vR 158 :: st) M = (0 ≤ i ∧ i < 4 ∧ Run C E n loc (vI (cb_mt i.toNat) :: st) M) := by
  rw [Run.eq h (fun pc => (G pc).2)]
  refine propext ⟨fun ⟨i', r, a, b⟩ => ?_, fun b => ⟨i, st, rfl, b⟩⟩
  obtain ⟨a1, a2⟩ := List.cons.inj a
  obtain ⟨a2, a3⟩ := List.cons.inj a2
  rw [vI_inj a1, a3]; exact b
theorem st_Ast {c N : Nat} {i z : Int} (G : ∀ pc, Good f pc (C pc)) (h : C pc = opAst n) (hk : cb_kd c = (0, N)) : Run C E pc loc (vI z :: vI i :: vR c :: st) M = (0 ≤ i ∧ i < (N : Int) ∧ Run C E n loc st (wI M c i z)) := by
  rw [Run.eq h (fun pc => (G pc).2)]
  refine propext ⟨fun ⟨c', i', z', r, N', a, k', b⟩ => ?_, fun b => ⟨c, i, z, st, N, rfl, hk, b⟩⟩
  obtain ⟨a1, a2⟩ := List.cons.inj a
  obtain ⟨a2, a3⟩ := List.cons.inj a2
  obtain ⟨a3, a4⟩ := List.cons.inj a3
  have e1 := vI_inj a1
  have e2 := vI_inj a2
  have e3 := vR_inj a3
  subst e1; subst e2; subst e3; subst a4
  cases hk.symm.trans k'
  exact b
theorem st_Zst {c N : Nat} {i z : Int} (G : ∀ pc, Good f pc (C pc)) (h : C pc = opZst n) (hk : cb_kd c = (1, N)) : Run C E pc loc (vI z :: vI i :: vR c :: st) M = (0 ≤ i ∧ i < (N : Int) ∧ (z = 0 ∨ z = 1) ∧ Run C E n loc st (wI M c i z)) := by
  rw [Run.eq h (fun pc => (G pc).2)]
  refine propext ⟨fun ⟨c', i', z', r, N', a, k', b⟩ => ?_, fun b => ⟨c, i, z, st, N, rfl, hk, b⟩⟩
  obtain ⟨a1, a2⟩ := List.cons.inj a
  obtain ⟨a2, a3⟩ := List.cons.inj a2
  obtain ⟨a3, a4⟩ := List.cons.inj a3
  have e1 := vI_inj a1
  have e2 := vI_inj a2
  have e3 := vR_inj a3
  subst e1; subst e2; subst e3; subst a4
  cases hk.symm.trans k'
  exact b
theorem st_Lst {c N : Nat} {i z : Int} (G : ∀ pc, Good f pc (C pc)) (h : C pc = opLst n) (hk : cb_kd c = (2, N)) : Run C E pc loc (vL z :: vI i :: vR c :: st) M = (0 ≤ i ∧ i < (N : Int) ∧ Run C E n loc st (wL M c i z)) := by
  rw [Run.eq h (fun pc => (G pc).2)]
  refine propext ⟨fun ⟨c', i', z', r, N', a, k', b⟩ => ?_, fun b => ⟨c, i, z, st, N, rfl, hk, b⟩⟩
  obtain ⟨a1, a2⟩ := List.cons.inj a
  obtain ⟨a2, a3⟩ := List.cons.inj a2
  obtain ⟨a3, a4⟩ := List.cons.inj a3
  have e1 := vL_inj a1
  have e2 := vI_inj a2
  have e3 := vR_inj a3
  subst e1; subst e2; subst e3; subst a4
  cases hk.symm.trans k'
  exact b
theorem st_Len {c N : Nat} (G : ∀ pc, Good f pc (C pc)) (h : C pc = opLen n) (hk : cb_kd c = (0, N)) : Run C E pc loc (vR c :: st) M = Run C E n loc (vI (N : Int) :: st) M := by
  rw [Run.eq h (fun pc => (G pc).2)]
  refine propext ⟨fun ⟨c', r, N', a, k', b⟩ => ?_, fun b => ⟨c, st, N, rfl, hk, b⟩⟩
  obtain ⟨a1, a2⟩ := List.cons.inj a
  have e1 := vR_inj a1
  subst e1; subst a2
  cases hk.symm.trans k'
  exact b
theorem st_Stat (G : ∀ pc, Good f pc (C pc)) (h : C pc = opStat n) : Run C E pc loc st M = Run C E n loc (vR 158 :: st) M := Run.eq h (fun pc => (G pc).2) loc st M
theorem st_Max {x y : Int} (G : ∀ pc, Good f pc (C pc)) (h : C pc = opMax n) (hw : cb_wd st ≤ 8) : Run C E pc loc (vI y :: vI x :: st) M = (R32 x ∧ R32 y ∧ Run C E n loc (vI (if x < y then y else x) :: st) M) := by
  rw [Run.eq h (fun pc => (G pc).2)]
  refine propext ⟨fun ⟨x', y', r, a, b, b', _, c⟩ => ?_, fun ⟨b, b', c⟩ => ⟨x, y, st, rfl, b, b', hw, c⟩⟩
  obtain ⟨a1, a2⟩ := List.cons.inj a
  obtain ⟨a2, a3⟩ := List.cons.inj a2
  rw [vI_inj a1, vI_inj a2, a3]; exact ⟨b, b', c⟩
theorem st_Min {x y : Int} (G : ∀ pc, Good f pc (C pc)) (h : C pc = opMin n) (hw : cb_wd st ≤ 8) : Run C E pc loc (vI y :: vI x :: st) M = (R32 x ∧ R32 y ∧ Run C E n loc (vI (if y < x then y else x) :: st) M) := by
  rw [Run.eq h (fun pc => (G pc).2)]
  refine propext ⟨fun ⟨x', y', r, a, b, b', _, c⟩ => ?_, fun ⟨b, b', c⟩ => ⟨x, y, st, rfl, b, b', hw, c⟩⟩
  obtain ⟨a1, a2⟩ := List.cons.inj a
  obtain ⟨a2, a3⟩ := List.cons.inj a2
  rw [vI_inj a1, vI_inj a2, a3]; exact ⟨b, b', c⟩
theorem st_Abs {x : Int} (G : ∀ pc, Good f pc (C pc)) (h : C pc = opAbs n) (hw : cb_wd st ≤ 8) : Run C E pc loc (vI x :: st) M = (R32 x ∧ Run C E n loc (vI (if 0 ≤ x then x else 0 - x) :: st) M) := by
  rw [Run.eq h (fun pc => (G pc).2)]
  refine propext ⟨fun ⟨x', r, a, b, _, c⟩ => ?_, fun ⟨b, c⟩ => ⟨x, st, rfl, b, hw, c⟩⟩
  obtain ⟨a1, a2⟩ := List.cons.inj a
  rw [vI_inj a1, a2]; exact ⟨b, c⟩
theorem st_Cpy {c0 c1 N0 N1 : Nat} {sp dp k : Int} (G : ∀ pc, Good f pc (C pc)) (h : C pc = opCpy n) (h0 : cb_kd c0 = (0, N0)) (h1 : cb_kd c1 = (0, N1)) (hw : cb_wd st ≤ 8) : Run C E pc loc (vI k :: vI dp :: vR c1 :: vI sp :: vR c0 :: st) M = (0 ≤ sp ∧ 0 ≤ dp ∧ 0 ≤ k ∧ sp + k ≤ (N0 : Int) ∧ dp + k ≤ (N1 : Int) ∧ Run C E n loc st (cpI M c0 sp c1 dp k)) := by
  rw [Run.eq h (fun pc => (G pc).2)]
  refine propext ⟨fun ⟨c0', c1', sp', dp', k', r, N0', N1', a, q0, q1, b1, b2, b3, b4, b5, _, b6⟩ => ?_, fun ⟨b1, b2, b3, b4, b5, b6⟩ => ⟨c0, c1, sp, dp, k, st, N0, N1, rfl, h0, h1, b1, b2, b3, b4, b5, hw, b6⟩⟩
  obtain ⟨a1, a2⟩ := List.cons.inj a
  obtain ⟨a2, a3⟩ := List.cons.inj a2
  obtain ⟨a3, a4⟩ := List.cons.inj a3
  obtain ⟨a4, a5⟩ := List.cons.inj a4
  obtain ⟨a5, a6⟩ := List.cons.inj a5
  have e1 := vI_inj a1
  have e2 := vI_inj a2
  have e3 := vR_inj a3
  have e4 := vI_inj a4
  have e5 := vR_inj a5
  subst e1; subst e2; subst e3; subst e4; subst e5; subst a6
  cases h0.symm.trans q0
  cases h1.symm.trans q1
  exact ⟨b1, b2, b3, b4, b5, b6⟩
theorem st_VI {y : Mi} {ci a b : Nat} {as : List Vl} (G : ∀ pc, Good f pc (C pc)) (h : C pc = opVI y ci n a) (hl : as.length = a) (hk : cb_kd b = (4, ci)) (hw : cb_wd st ≤ 8) : Run C E pc loc (as.reverse ++ vR b :: st) M = Cal y (vR b :: as) M (fun v M' => ∃ z, v = some (vI z) ∧ Run C E n loc (vI z :: st) M') := by
  rw [Run.eq h (fun pc => (G pc).2)]
  refine propext ⟨fun ⟨b', as', r, e, q1, _, _, q2⟩ => ?_, fun q2 => ⟨b, as, st, rfl, hl, hk, hw, q2⟩⟩
  obtain ⟨e1, e2⟩ := List.append_inj e (by simp [hl, q1])
  obtain ⟨e2, e3⟩ := List.cons.inj e2
  rw [List.reverse_inj.mp e1, vR_inj e2, e3]
  exact q2
theorem st_VL {y : Mi} {ci a b : Nat} {as : List Vl} (G : ∀ pc, Good f pc (C pc)) (h : C pc = opVL y ci n a) (hl : as.length = a) (hk : cb_kd b = (4, ci)) (hw : cb_wd st ≤ 8) : Run C E pc loc (as.reverse ++ vR b :: st) M = Cal y (vR b :: as) M (fun v M' => ∃ z, v = some (vL z) ∧ Run C E n loc (vL z :: st) M') := by
  rw [Run.eq h (fun pc => (G pc).2)]
  refine propext ⟨fun ⟨b', as', r, e, q1, _, _, q2⟩ => ?_, fun q2 => ⟨b, as, st, rfl, hl, hk, hw, q2⟩⟩
  obtain ⟨e1, e2⟩ := List.append_inj e (by simp [hl, q1])
  obtain ⟨e2, e3⟩ := List.cons.inj e2
  rw [List.reverse_inj.mp e1, vR_inj e2, e3]
  exact q2
theorem st_VV {y : Mi} {ci a b : Nat} {as : List Vl} (G : ∀ pc, Good f pc (C pc)) (h : C pc = opVV y ci n a) (hl : as.length = a) (hk : cb_kd b = (4, ci)) (hw : cb_wd st ≤ 8) : Run C E pc loc (as.reverse ++ vR b :: st) M = Cal y (vR b :: as) M (fun v M' => v = none ∧ Run C E n loc st M') := by
  rw [Run.eq h (fun pc => (G pc).2)]
  refine propext ⟨fun ⟨b', as', r, e, q1, _, _, q2⟩ => ?_, fun q2 => ⟨b, as, st, rfl, hl, hk, hw, q2⟩⟩
  obtain ⟨e1, e2⟩ := List.append_inj e (by simp [hl, q1])
  obtain ⟨e2, e3⟩ := List.cons.inj e2
  rw [List.reverse_inj.mp e1, vR_inj e2, e3]
  exact q2
theorem st_SI {y : Mi} {a : Nat} {as : List Vl} (G : ∀ pc, Good f pc (C pc)) (h : C pc = opSI y n a) (hl : as.length = a) (hw : cb_wd st ≤ 8) : Run C E pc loc (as.reverse ++ st) M = Cal y as M (fun v M' => ∃ z, v = some (vI z) ∧ Run C E n loc (vI z :: st) M') := by
  rw [Run.eq h (fun pc => (G pc).2)]
  refine propext ⟨fun ⟨as', r, e, q1, _, q2⟩ => ?_, fun q2 => ⟨as, st, rfl, hl, hw, q2⟩⟩
  obtain ⟨e1, e3⟩ := List.append_inj e (by simp [hl, q1])
  rw [List.reverse_inj.mp e1, e3]
  exact q2
theorem st_SL {y : Mi} {a : Nat} {as : List Vl} (G : ∀ pc, Good f pc (C pc)) (h : C pc = opSL y n a) (hl : as.length = a) (hw : cb_wd st ≤ 8) : Run C E pc loc (as.reverse ++ st) M = Cal y as M (fun v M' => ∃ z, v = some (vL z) ∧ Run C E n loc (vL z :: st) M') := by
  rw [Run.eq h (fun pc => (G pc).2)]
  refine propext ⟨fun ⟨as', r, e, q1, _, q2⟩ => ?_, fun q2 => ⟨as, st, rfl, hl, hw, q2⟩⟩
  obtain ⟨e1, e3⟩ := List.append_inj e (by simp [hl, q1])
  rw [List.reverse_inj.mp e1, e3]
  exact q2
theorem st_SV {y : Mi} {a : Nat} {as : List Vl} (G : ∀ pc, Good f pc (C pc)) (h : C pc = opSV y n a) (hl : as.length = a) (hw : cb_wd st ≤ 8) : Run C E pc loc (as.reverse ++ st) M = Cal y as M (fun v M' => v = none ∧ Run C E n loc st M') := by
  rw [Run.eq h (fun pc => (G pc).2)]
  refine propext ⟨fun ⟨as', r, e, q1, _, q2⟩ => ?_, fun q2 => ⟨as, st, rfl, hl, hw, q2⟩⟩
  obtain ⟨e1, e3⟩ := List.append_inj e (by simp [hl, q1])
  rw [List.reverse_inj.mp e1, e3]
  exact q2
theorem st_RI {z : Int} (G : ∀ pc, Good f pc (C pc)) (h : C pc = opRI) : Run C E pc loc [vI z] M = E (some (vI z)) M := by
  rw [Run.eq h (fun pc => (G pc).2)]
  refine propext ⟨fun ⟨x, e, b⟩ => ?_, fun b => ⟨z, rfl, b⟩⟩
  rw [vI_inj (List.cons.inj e).1]; exact b
theorem st_RZ {z : Int} (G : ∀ pc, Good f pc (C pc)) (h : C pc = opRZ) : Run C E pc loc [vI z] M = ((z = 0 ∨ z = 1) ∧ E (some (vI z)) M) := by
  rw [Run.eq h (fun pc => (G pc).2)]
  refine propext ⟨fun ⟨x, e, b⟩ => ?_, fun b => ⟨z, rfl, b⟩⟩
  rw [vI_inj (List.cons.inj e).1]; exact b
theorem st_RL {z : Int} (G : ∀ pc, Good f pc (C pc)) (h : C pc = opRL) : Run C E pc loc [vL z] M = E (some (vL z)) M := by
  rw [Run.eq h (fun pc => (G pc).2)]
  refine propext ⟨fun ⟨x, e, b⟩ => ?_, fun b => ⟨z, rfl, b⟩⟩
  rw [vL_inj (List.cons.inj e).1]; exact b
theorem st_RV (G : ∀ pc, Good f pc (C pc)) (h : C pc = opRV) : Run C E pc loc [] M = E none M := by
  rw [Run.eq h (fun pc => (G pc).2)]
  exact propext ⟨fun ⟨_, b⟩ => b, fun b => ⟨rfl, b⟩⟩
end STP
