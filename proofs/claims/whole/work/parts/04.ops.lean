/-! the small machine's instructions, and that they are right -/
theorem cb_oI {z : Int} (h1 : -2147483648 ≤ z) (h2 : z < 2147483648) : (Int32.ofInt z).toInt = z := Int32.toInt_ofInt_of_le h1 h2
theorem cb_oL {z : Int} (h1 : -9223372036854775808 ≤ z) (h2 : z < 9223372036854775808) : (Int64.ofInt z).toInt = z := Int64.toInt_ofInt_of_le h1 h2
def R32 (z : Int) : Prop := -2147483648 ≤ z ∧ z < 2147483648
def R64 (z : Int) : Prop := -9223372036854775808 ≤ z ∧ z < 9223372036854775808
theorem cb_lt {x y : Int} (hx : R32 x) (hy : R32 y) : Int32.ofInt x < Int32.ofInt y ↔ x < y := by
  rw [Int32.lt_iff_toInt_lt, cb_oI hx.1 hx.2, cb_oI hy.1 hy.2]
theorem cb_le {x y : Int} (hx : R32 x) (hy : R32 y) : Int32.ofInt x ≤ Int32.ofInt y ↔ x ≤ y := by
  rw [Int32.le_iff_toInt_le, cb_oI hx.1 hx.2, cb_oI hy.1 hy.2]
theorem cb_eq {x y : Int} (hx : R32 x) (hy : R32 y) : Int32.ofInt x = Int32.ofInt y ↔ x = y := by
  rw [← Int32.toInt_inj, cb_oI hx.1 hx.2, cb_oI hy.1 hy.2]
theorem R32_0 : R32 0 := ⟨by decide, by decide⟩
theorem cb_lt64 {x y : Int} (hx : R64 x) (hy : R64 y) : Int64.ofInt x < Int64.ofInt y ↔ x < y := by
  rw [Int64.lt_iff_toInt_lt, cb_oL hx.1 hx.2, cb_oL hy.1 hy.2]
theorem cb_clamp {z : Int} (h1 : 0 ≤ z) (h2 : z < 2147483648) : (Int32.ofInt z).toNatClampNeg = z.toNat := by
  rw [Int32.toNatClampNeg, cb_oI (by omega) h2]
theorem cb_vin {z : Int} {n : Nat} (h1 : 0 ≤ z) (h2 : z < n) (hn : n < 2147483648) : vp_in (Int32.ofInt z) n := by
  rw [vp_in_iff, cb_oI (by omega) (by omega)]
  exact ⟨h1, h2⟩
theorem cb_ne0 {y : Int} (h1 : 0 < y) (h2 : y < 2147483648) : ¬ Int32.ofInt y = 0 := by
  rw [← Int32.toInt_inj, cb_oI (by omega) h2]
  show ¬ y = 0
  omega
def iand (x y : Int) : Int := (Int32.ofInt x &&& Int32.ofInt y).toInt
def ior (x y : Int) : Int := (Int32.ofInt x ||| Int32.ofInt y).toInt
def ixor (x y : Int) : Int := (Int32.ofInt x ^^^ Int32.ofInt y).toInt
def cmp3 (x y : Int) : Int := if x < y then -1 else if x = y then 0 else 1
def wI (M : Mem) (c : Nat) (i z : Int) : Mem := (fun c' i' => if c' = c ∧ i' = i then z else M.1 c' i', M.2)
def wL (M : Mem) (c : Nat) (i z : Int) : Mem := (M.1, fun c' i' => if c' = c ∧ i' = i then z else M.2 c' i')
def cpI (M : Mem) (c0 : Nat) (sp : Int) (c1 : Nat) (dp n : Int) : Mem := (fun c' i' => if c' = c1 ∧ dp ≤ i' ∧ i' < dp + n then M.1 c0 (sp + (i' - dp)) else M.1 c' i', M.2)
def stl (loc : List Vl) (i : Nat) (v : Vl) : List Vl := (match i with
  | 0 => loc
  | j + 1 => match loc[j]? with
    | some (.inr (.inl _)) => loc.set j vN
    | _ => loc).set i v
def opX : Op := fun _ _ _ _ _ => False
def opC (v : Vl) (n : Nat) : Op := fun loc st M _ K => K n loc (v :: st) M
def opLdI (i n : Nat) : Op := fun loc st M _ K => ∃ x, loc[i]? = some (vI x) ∧ K n loc (vI x :: st) M
def opLdL (i n : Nat) : Op := fun loc st M _ K => ∃ x, loc[i]? = some (vL x) ∧ K n loc (vL x :: st) M
def opLdR (i n : Nat) : Op := fun loc st M _ K => ∃ x, loc[i]? = some (vR x) ∧ K n loc (vR x :: st) M
def opStI (i n : Nat) : Op := fun loc st M _ K => ∃ x r, st = vI x :: r ∧ i < loc.length ∧ K n (stl loc i (vI x)) r M
def opStR (i n : Nat) : Op := fun loc st M _ K => ∃ x r, st = vR x :: r ∧ i < loc.length ∧ K n (stl loc i (vR x)) r M
def opStL (i n : Nat) : Op := fun loc st M _ K => ∃ z r, st = vL z :: r ∧ i + 1 < loc.length ∧ K n ((stl loc i (vL z)).set (i + 1) vN) r M
def opInc (i : Nat) (d : Int) (n : Nat) : Op := fun loc st M _ K => ∃ x, loc[i]? = some (vI x) ∧ K n (stl loc i (vI (x + d))) st M
def opI2 (P : Int → Int → Prop) (F : Int → Int → Int) (n : Nat) : Op := fun loc st M _ K => ∃ x y r, st = vI y :: vI x :: r ∧ P x y ∧ K n loc (vI (F x y) :: r) M
def opL2 (P : Int → Int → Prop) (F : Int → Int → Int) (n : Nat) : Op := fun loc st M _ K => ∃ x y r, st = vL y :: vL x :: r ∧ P x y ∧ K n loc (vL (F x y) :: r) M
def opNeg (n : Nat) : Op := fun loc st M _ K => ∃ x r, st = vI x :: r ∧ K n loc (vI (-x) :: r) M
def opI2l (n : Nat) : Op := fun loc st M _ K => ∃ x r, st = vI x :: r ∧ R32 x ∧ K n loc (vL x :: r) M
def opShlL (n : Nat) : Op := fun loc st M _ K => ∃ x y r, st = vI y :: vL x :: r ∧ (0 ≤ y ∧ y < 64) ∧ K n loc (vL (x * 2 ^ y.toNat) :: r) M
def opLcmp (n : Nat) : Op := fun loc st M _ K => ∃ x y r, st = vL y :: vL x :: r ∧ R64 x ∧ R64 y ∧ K n loc (vI (cmp3 x y) :: r) M
def opDup (n : Nat) : Op := fun loc st M _ K => ∃ v r, st = v :: r ∧ cb_cat v = 1 ∧ K n loc (v :: v :: r) M
def opDup2 (n : Nat) : Op := fun loc st M _ K => ∃ v w r, st = v :: w :: r ∧ cb_cat v = 1 ∧ cb_cat w = 1 ∧ K n loc (v :: w :: v :: w :: r) M
def opIf (P : Int → Prop) (t n : Nat) : Op := fun loc st M _ K => ∃ x r, st = vI x :: r ∧ R32 x ∧ (P x → K t loc r M) ∧ (¬ P x → K n loc r M)
def opIc (P : Int → Int → Prop) (t n : Nat) : Op := fun loc st M _ K => ∃ x y r, st = vI y :: vI x :: r ∧ R32 x ∧ R32 y ∧ (P x y → K t loc r M) ∧ (¬ P x y → K n loc r M)
def opGo (t : Nat) : Op := fun loc st M _ K => K t loc st M
def opSw (ts : List (Int × Nat)) (d : Nat) : Op := fun loc st M _ K => ∃ x r, st = vI x :: r ∧ R32 x ∧ (∀ q ∈ ts, x = q.1 → K q.2 loc r M) ∧ ((∀ q ∈ ts, x ≠ q.1) → K d loc r M)
def opGet (ci k n : Nat) : Op := fun loc st M _ K => ∃ c r, st = vR c :: r ∧ cb_kd c = (4, ci) ∧ K n loc (cb_fv M c ci k :: r) M
def opPutI (ci k n : Nat) : Op := fun loc st M _ K => ∃ c z r, st = vI z :: vR c :: r ∧ cb_kd c = (4, ci) ∧ K n loc r (wI M c k z)
def opPutZ (ci k n : Nat) : Op := fun loc st M _ K => ∃ c z r, st = vI z :: vR c :: r ∧ cb_kd c = (4, ci) ∧ (z = 0 ∨ z = 1) ∧ K n loc r (wI M c k z)
def opPutL (ci k n : Nat) : Op := fun loc st M _ K => ∃ c z r, st = vL z :: vR c :: r ∧ cb_kd c = (4, ci) ∧ K n loc r (wL M c k z)
def opAld (t n : Nat) : Op := fun loc st M _ K => ∃ c i r N, st = vI i :: vR c :: r ∧ cb_kd c = (t, N) ∧ 0 ≤ i ∧ i < (N : Int) ∧ K n loc (vI (M.1 c i) :: r) M
def opLld (n : Nat) : Op := fun loc st M _ K => ∃ c i r N, st = vI i :: vR c :: r ∧ cb_kd c = (2, N) ∧ 0 ≤ i ∧ i < (N : Int) ∧ K n loc (vL (M.2 c i) :: r) M
def opRld (n : Nat) : Op := fun loc st M _ K => ∃ c i r N, st = vI i :: vR c :: r ∧ cb_kd c = (3, N) ∧ 0 ≤ i ∧ i < (N : Int) ∧ K n loc (vR (cb_rt c i.toNat) :: r) M
def opTld (n : Nat) : Op := fun loc st M _ K => ∃ i r, st = vI i :: vR 158 :: r ∧ 0 ≤ i ∧ i < 4 ∧ K n loc (vI (cb_mt i.toNat) :: r) M
def opAst (n : Nat) : Op := fun loc st M _ K => ∃ c i z r N, st = vI z :: vI i :: vR c :: r ∧ cb_kd c = (0, N) ∧ 0 ≤ i ∧ i < (N : Int) ∧ K n loc r (wI M c i z)
def opZst (n : Nat) : Op := fun loc st M _ K => ∃ c i z r N, st = vI z :: vI i :: vR c :: r ∧ cb_kd c = (1, N) ∧ 0 ≤ i ∧ i < (N : Int) ∧ (z = 0 ∨ z = 1) ∧ K n loc r (wI M c i z)
def opLst (n : Nat) : Op := fun loc st M _ K => ∃ c i z r N, st = vL z :: vI i :: vR c :: r ∧ cb_kd c = (2, N) ∧ 0 ≤ i ∧ i < (N : Int) ∧ K n loc r (wL M c i z)
def opLen (n : Nat) : Op := fun loc st M _ K => ∃ c r N, st = vR c :: r ∧ cb_kd c = (0, N) ∧ K n loc (vI (N : Int) :: r) M
def opStat (n : Nat) : Op := fun loc st M _ K => K n loc (vR 158 :: st) M
def opMax (n : Nat) : Op := fun loc st M _ K => ∃ x y r, st = vI y :: vI x :: r ∧ R32 x ∧ R32 y ∧ cb_wd r ≤ 8 ∧ K n loc (vI (if x < y then y else x) :: r) M
def opMin (n : Nat) : Op := fun loc st M _ K => ∃ x y r, st = vI y :: vI x :: r ∧ R32 x ∧ R32 y ∧ cb_wd r ≤ 8 ∧ K n loc (vI (if y < x then y else x) :: r) M
def opAbs (n : Nat) : Op := fun loc st M _ K => ∃ x r, st = vI x :: r ∧ R32 x ∧ cb_wd r ≤ 8 ∧ K n loc (vI (if 0 ≤ x then x else 0 - x) :: r) M
def opCpy (n : Nat) : Op := fun loc st M _ K => ∃ c0 c1 sp dp k r N0 N1, st = vI k :: vI dp :: vR c1 :: vI sp :: vR c0 :: r ∧ cb_kd c0 = (0, N0) ∧ cb_kd c1 = (0, N1) ∧ 0 ≤ sp ∧ 0 ≤ dp ∧ 0 ≤ k ∧ sp + k ≤ (N0 : Int) ∧ dp + k ≤ (N1 : Int) ∧ cb_wd r ≤ 8 ∧ K n loc r (cpI M c0 sp c1 dp k)
def opVI (y : Mi) (ci n a : Nat) : Op := fun loc st M _ K => ∃ b as r, st = as.reverse ++ vR b :: r ∧ as.length = a ∧ cb_kd b = (4, ci) ∧ cb_wd r ≤ 8 ∧ Cal y (vR b :: as) M (fun v M' => ∃ z, v = some (vI z) ∧ K n loc (vI z :: r) M')
def opVL (y : Mi) (ci n a : Nat) : Op := fun loc st M _ K => ∃ b as r, st = as.reverse ++ vR b :: r ∧ as.length = a ∧ cb_kd b = (4, ci) ∧ cb_wd r ≤ 8 ∧ Cal y (vR b :: as) M (fun v M' => ∃ z, v = some (vL z) ∧ K n loc (vL z :: r) M')
def opVV (y : Mi) (ci n a : Nat) : Op := fun loc st M _ K => ∃ b as r, st = as.reverse ++ vR b :: r ∧ as.length = a ∧ cb_kd b = (4, ci) ∧ cb_wd r ≤ 8 ∧ Cal y (vR b :: as) M (fun v M' => v = none ∧ K n loc r M')
def opSI (y : Mi) (n a : Nat) : Op := fun loc st M _ K => ∃ as r, st = as.reverse ++ r ∧ as.length = a ∧ cb_wd r ≤ 8 ∧ Cal y as M (fun v M' => ∃ z, v = some (vI z) ∧ K n loc (vI z :: r) M')
def opSL (y : Mi) (n a : Nat) : Op := fun loc st M _ K => ∃ as r, st = as.reverse ++ r ∧ as.length = a ∧ cb_wd r ≤ 8 ∧ Cal y as M (fun v M' => ∃ z, v = some (vL z) ∧ K n loc (vL z :: r) M')
def opSV (y : Mi) (n a : Nat) : Op := fun loc st M _ K => ∃ as r, st = as.reverse ++ r ∧ as.length = a ∧ cb_wd r ≤ 8 ∧ Cal y as M (fun v M' => v = none ∧ K n loc r M')
def opRI : Op := fun _ st M E _ => ∃ z, st = [vI z] ∧ E (some (vI z)) M
def opRZ : Op := fun _ st M E _ => ∃ z, st = [vI z] ∧ (z = 0 ∨ z = 1) ∧ E (some (vI z)) M
def opRL : Op := fun _ st M E _ => ∃ z, st = [vL z] ∧ E (some (vL z)) M
def opRV : Op := fun _ st M E _ => st = [] ∧ E none M
/-! they only ask more where more is asked -/
theorem mo_X : Mono opX := fun _ _ _ _ _ _ _ h => h
theorem mo_C (v n) : Mono (opC v n) := fun _ _ _ _ _ _ k h => k _ _ _ _ h
theorem mo_LdI (i n) : Mono (opLdI i n) := fun _ _ _ _ _ _ k ⟨v, a, h⟩ => ⟨v, a, k _ _ _ _ h⟩
theorem mo_LdL (i n) : Mono (opLdL i n) := fun _ _ _ _ _ _ k ⟨v, a, h⟩ => ⟨v, a, k _ _ _ _ h⟩
theorem mo_LdR (i n) : Mono (opLdR i n) := fun _ _ _ _ _ _ k ⟨v, a, h⟩ => ⟨v, a, k _ _ _ _ h⟩
theorem mo_StI (i n) : Mono (opStI i n) := fun _ _ _ _ _ _ k ⟨v, r, a, c, h⟩ => ⟨v, r, a, c, k _ _ _ _ h⟩
theorem mo_StR (i n) : Mono (opStR i n) := fun _ _ _ _ _ _ k ⟨v, r, a, c, h⟩ => ⟨v, r, a, c, k _ _ _ _ h⟩
theorem mo_StL (i n) : Mono (opStL i n) := fun _ _ _ _ _ _ k ⟨v, r, a, c, h⟩ => ⟨v, r, a, c, k _ _ _ _ h⟩
theorem mo_Inc (i d n) : Mono (opInc i d n) := fun _ _ _ _ _ _ k ⟨v, a, h⟩ => ⟨v, a, k _ _ _ _ h⟩
theorem mo_I2 (P F n) : Mono (opI2 P F n) := fun _ _ _ _ _ _ k ⟨x, y, r, a, b, h⟩ => ⟨x, y, r, a, b, k _ _ _ _ h⟩
theorem mo_L2 (P F n) : Mono (opL2 P F n) := fun _ _ _ _ _ _ k ⟨x, y, r, a, b, h⟩ => ⟨x, y, r, a, b, k _ _ _ _ h⟩
theorem mo_Neg (n) : Mono (opNeg n) := fun _ _ _ _ _ _ k ⟨x, r, a, h⟩ => ⟨x, r, a, k _ _ _ _ h⟩
theorem mo_I2l (n) : Mono (opI2l n) := fun _ _ _ _ _ _ k ⟨x, r, a, b, h⟩ => ⟨x, r, a, b, k _ _ _ _ h⟩
theorem mo_ShlL (n) : Mono (opShlL n) := fun _ _ _ _ _ _ k ⟨x, y, r, a, b, h⟩ => ⟨x, y, r, a, b, k _ _ _ _ h⟩
theorem mo_Lcmp (n) : Mono (opLcmp n) := fun _ _ _ _ _ _ k ⟨x, y, r, a, b, c, h⟩ => ⟨x, y, r, a, b, c, k _ _ _ _ h⟩
theorem mo_Dup (n) : Mono (opDup n) := fun _ _ _ _ _ _ k ⟨x, r, a, b, h⟩ => ⟨x, r, a, b, k _ _ _ _ h⟩
theorem mo_Dup2 (n) : Mono (opDup2 n) := fun _ _ _ _ _ _ k ⟨x, y, r, a, b, c, h⟩ => ⟨x, y, r, a, b, c, k _ _ _ _ h⟩
theorem mo_If (P t n) : Mono (opIf P t n) := fun _ _ _ _ _ _ k ⟨x, r, a, b, h, h'⟩ => ⟨x, r, a, b, fun q => k _ _ _ _ (h q), fun q => k _ _ _ _ (h' q)⟩
theorem mo_Ic (P t n) : Mono (opIc P t n) := fun _ _ _ _ _ _ k ⟨x, y, r, a, b, c, h, h'⟩ => ⟨x, y, r, a, b, c, fun q => k _ _ _ _ (h q), fun q => k _ _ _ _ (h' q)⟩
theorem mo_Go (t) : Mono (opGo t) := fun _ _ _ _ _ _ k h => k _ _ _ _ h
theorem mo_Sw (ts d) : Mono (opSw ts d) := fun _ _ _ _ _ _ k ⟨x, r, a, b, h, h'⟩ => ⟨x, r, a, b, fun q hq e => k _ _ _ _ (h q hq e), fun q => k _ _ _ _ (h' q)⟩
theorem mo_Get (ci j n) : Mono (opGet ci j n) := fun _ _ _ _ _ _ k ⟨x, r, a, b, h⟩ => ⟨x, r, a, b, k _ _ _ _ h⟩
theorem mo_PutI (ci j n) : Mono (opPutI ci j n) := fun _ _ _ _ _ _ k ⟨x, z, r, a, b, h⟩ => ⟨x, z, r, a, b, k _ _ _ _ h⟩
theorem mo_PutZ (ci j n) : Mono (opPutZ ci j n) := fun _ _ _ _ _ _ k ⟨x, z, r, a, b, c, h⟩ => ⟨x, z, r, a, b, c, k _ _ _ _ h⟩
theorem mo_PutL (ci j n) : Mono (opPutL ci j n) := fun _ _ _ _ _ _ k ⟨x, z, r, a, b, h⟩ => ⟨x, z, r, a, b, k _ _ _ _ h⟩
theorem mo_Ald (t n) : Mono (opAld t n) := fun _ _ _ _ _ _ k ⟨c, i, r, N, a, b, d, e, h⟩ => ⟨c, i, r, N, a, b, d, e, k _ _ _ _ h⟩
theorem mo_Lld (n) : Mono (opLld n) := fun _ _ _ _ _ _ k ⟨c, i, r, N, a, b, d, e, h⟩ => ⟨c, i, r, N, a, b, d, e, k _ _ _ _ h⟩
theorem mo_Rld (n) : Mono (opRld n) := fun _ _ _ _ _ _ k ⟨c, i, r, N, a, b, d, e, h⟩ => ⟨c, i, r, N, a, b, d, e, k _ _ _ _ h⟩
theorem mo_Tld (n) : Mono (opTld n) := fun _ _ _ _ _ _ k ⟨i, r, a, d, e, h⟩ => ⟨i, r, a, d, e, k _ _ _ _ h⟩
theorem mo_Ast (n) : Mono (opAst n) := fun _ _ _ _ _ _ k ⟨c, i, z, r, N, a, b, d, e, h⟩ => ⟨c, i, z, r, N, a, b, d, e, k _ _ _ _ h⟩
theorem mo_Zst (n) : Mono (opZst n) := fun _ _ _ _ _ _ k ⟨c, i, z, r, N, a, b, d, e, f, h⟩ => ⟨c, i, z, r, N, a, b, d, e, f, k _ _ _ _ h⟩
theorem mo_Lst (n) : Mono (opLst n) := fun _ _ _ _ _ _ k ⟨c, i, z, r, N, a, b, d, e, h⟩ => ⟨c, i, z, r, N, a, b, d, e, k _ _ _ _ h⟩
theorem mo_Len (n) : Mono (opLen n) := fun _ _ _ _ _ _ k ⟨c, r, N, a, b, h⟩ => ⟨c, r, N, a, b, k _ _ _ _ h⟩
theorem mo_Stat (n) : Mono (opStat n) := fun _ _ _ _ _ _ k h => k _ _ _ _ h
theorem mo_Max (n) : Mono (opMax n) := fun _ _ _ _ _ _ k ⟨x, y, r, a, b, c, d, h⟩ => ⟨x, y, r, a, b, c, d, k _ _ _ _ h⟩
theorem mo_Min (n) : Mono (opMin n) := fun _ _ _ _ _ _ k ⟨x, y, r, a, b, c, d, h⟩ => ⟨x, y, r, a, b, c, d, k _ _ _ _ h⟩
theorem mo_Abs (n) : Mono (opAbs n) := fun _ _ _ _ _ _ k ⟨x, r, a, b, c, h⟩ => ⟨x, r, a, b, c, k _ _ _ _ h⟩
theorem mo_Cpy (n) : Mono (opCpy n) := fun _ _ _ _ _ _ k ⟨a, b, c, d, e, f, g, i, a1, a2, a3, a4, a5, a6, a7, a8, a9, h⟩ => ⟨a, b, c, d, e, f, g, i, a1, a2, a3, a4, a5, a6, a7, a8, a9, k _ _ _ _ h⟩
theorem mo_VI (y ci n a) : Mono (opVI y ci n a) := fun _ _ _ _ _ _ k ⟨b, as, r, q1, q2, q3, q4, q⟩ => ⟨b, as, r, q1, q2, q3, q4, q.mono (fun v M' h => by obtain ⟨z, e, h⟩ := h; exact ⟨z, e, k _ _ _ _ h⟩)⟩
theorem mo_VL (y ci n a) : Mono (opVL y ci n a) := fun _ _ _ _ _ _ k ⟨b, as, r, q1, q2, q3, q4, q⟩ => ⟨b, as, r, q1, q2, q3, q4, q.mono (fun v M' h => by obtain ⟨z, e, h⟩ := h; exact ⟨z, e, k _ _ _ _ h⟩)⟩
theorem mo_VV (y ci n a) : Mono (opVV y ci n a) := fun _ _ _ _ _ _ k ⟨b, as, r, q1, q2, q3, q4, q⟩ => ⟨b, as, r, q1, q2, q3, q4, q.mono (fun v M' h => ⟨h.1, k _ _ _ _ h.2⟩)⟩
theorem mo_SI (y n a) : Mono (opSI y n a) := fun _ _ _ _ _ _ k ⟨as, r, q1, q2, q3, q⟩ => ⟨as, r, q1, q2, q3, q.mono (fun v M' h => by obtain ⟨z, e, h⟩ := h; exact ⟨z, e, k _ _ _ _ h⟩)⟩
theorem mo_SL (y n a) : Mono (opSL y n a) := fun _ _ _ _ _ _ k ⟨as, r, q1, q2, q3, q⟩ => ⟨as, r, q1, q2, q3, q.mono (fun v M' h => by obtain ⟨z, e, h⟩ := h; exact ⟨z, e, k _ _ _ _ h⟩)⟩
theorem mo_SV (y n a) : Mono (opSV y n a) := fun _ _ _ _ _ _ k ⟨as, r, q1, q2, q3, q⟩ => ⟨as, r, q1, q2, q3, q.mono (fun v M' h => ⟨h.1, k _ _ _ _ h.2⟩)⟩
theorem mo_RI : Mono opRI := fun _ _ _ _ _ _ _ h => h
theorem mo_RZ : Mono opRZ := fun _ _ _ _ _ _ _ h => h
theorem mo_RL : Mono opRL := fun _ _ _ _ _ _ _ h => h
theorem mo_RV : Mono opRV := fun _ _ _ _ _ _ _ h => h
