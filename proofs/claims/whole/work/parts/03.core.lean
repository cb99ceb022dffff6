/-! THE SMALL MACHINE: numbers are integers, references are numbers of cells; what it says holds of the machine itself -/
abbrev Vl : Type := Int ⊕ (Int ⊕ Option Nat)
abbrev Mem : Type := (Nat → Int → Int) × (Nat → Int → Int)
def vI (z : Int) : Vl := .inl z
def vL (z : Int) : Vl := .inr (.inl z)
def vR (k : Nat) : Vl := .inr (.inr (some k))
def vN : Vl := .inr (.inr none)
theorem vI_ne (z : Int) : vI z ≠ vN := fun h => by cases h
theorem vL_ne (z : Int) : vL z ≠ vN := fun h => by cases h
theorem vR_ne (k : Nat) : vR k ≠ vN := fun h => by cases h
theorem vI_inj {a b : Int} (h : vI a = vI b) : a = b := by cases h; rfl
def cv (al : Nat → Nat) (v : Vl) : Value := match v with
  | .inl z => .int (Int32.ofInt z)
  | .inr (.inl z) => .long (Int64.ofInt z)
  | .inr (.inr (some k)) => .ref (al k)
  | .inr (.inr none) => .null
/-- which classes the arrays have, and where the cells lie -/
abbrev cb_G : Type := ((Nat → ClassId) × (Nat → Nat → Nat)) × (ClassId × ClassId × ClassId × ClassId) × (Nat → Nat)
def cb_al (g : cb_G) : Nat → Nat := g.2.2
def cb_fv (M : Mem) (k ci j : Nat) : Vl := match cb_ft ci j with
  | 2 => vL (M.2 k j)
  | 3 => vR (cb_rt k j)
  | _ => vI (M.1 k j)
def cb_E (g : cb_G) (M : Mem) (k : Nat) : va_E := match cb_kd k with
  | (0, n) => .inl (g.2.1.1, n, .inl (fun j => Int32.ofInt (M.1 k j)))
  | (1, n) => .inl (g.2.1.2.1, n, .inl (fun j => Int32.ofInt (M.1 k j)))
  | (2, n) => .inl (g.2.1.2.2.1, n, .inr (.inl (fun j => Int64.ofInt (M.2 k j))))
  | (3, n) => .inl (g.2.1.2.2.2, n, .inr (.inr (.inr (.inr (fun j => some (cb_al g (cb_rt k j)))))))
  | (_, ci) => .inr (ci, (List.range (cb_nf ci)).map (fun j => cv (cb_al g) (cb_fv M k ci j)))
def cb_w (g : cb_G) (M : Mem) : va_W := (List.range 158).map (fun k => (cb_al g k, cb_E g M k))
theorem cb_w_at (g : cb_G) (M : Mem) {k : Nat} (h : k < 158) : (cb_w g M)[k]? = some (cb_al g k, cb_E g M k) := by
  simp [cb_w, h]
theorem cb_w_set {g : cb_G} {M M' : Mem} {c : Nat} {e : va_E} (h : c < 158) (he : cb_E g M' c = e) (ho : ∀ k, k ≠ c → cb_E g M' k = cb_E g M k) : (cb_w g M).set c (cb_al g c, e) = cb_w g M' := by
  apply List.ext_getElem?
  intro i
  by_cases hi : i < 158
  · rw [cb_w_at g M' hi]
    by_cases hc : i = c
    · subst hc
      rw [List.getElem?_set_self (by simp [cb_w, hi]), he]
    · rw [List.getElem?_set_ne (Ne.symm hc), cb_w_at g M hi, ho i hc]
  · rw [List.getElem?_eq_none (by simp [cb_w]; omega), List.getElem?_eq_none (by simp [cb_w]; omega)]
def cb_ty (g : cb_G) : List (ClassId × FieldType) := [(g.2.1.1, .int), (g.2.1.2.1, .boolean), (g.2.1.2.2.1, .long), (g.2.1.2.2.2, .object "CauseBook$Model")]
def cb_P (g : cb_G) (M : Mem) (H : Heap) : Prop := va_P g.1 cb_cl (cb_w g M) H
def cb_K (g : cb_G) (U : State) : Prop := va_K g.1 cb_cl (cb_ty g) U
def cb_A (g : cb_G) : Nat → Prop := fun q => ∃ k, k < 158 ∧ cb_al g k = q
def cb_J (g : cb_G) : Prop := ∀ i j, i < 158 → j < 158 → cb_al g i = cb_al g j → i = j
theorem cb_D {g : cb_G} {A : Nat → Prop} (hJ : cb_J g) (hA : ∀ k, k < 158 → A (cb_al g k)) (M : Mem) : va_D A (cb_w g M) := by
  have key : ∀ (k : Nat) (q : Nat × va_E), (cb_w g M)[k]? = some q → k < 158 ∧ q.1 = cb_al g k := by
    intro k q h
    have hk : k < 158 := by
      have := (List.getElem?_eq_some_iff.mp h).1
      simpa [cb_w] using this
    rw [cb_w_at g M hk] at h
    cases h
    exact ⟨hk, rfl⟩
  refine ⟨fun i j x y hi hj h => ?_, fun k q h => ?_⟩
  · obtain ⟨a1, a2⟩ := key i x hi
    obtain ⟨b1, b2⟩ := key j y hj
    exact hJ i j a1 b1 (by rw [← a2, ← b2]; exact h)
  · obtain ⟨a1, a2⟩ := key k q h
    rw [a2]; exact hA k a1
def cb_Ws (U : State) : Prop := ∀ w ∈ cb_TB, ∀ a : Array Value, w.before a U = true
theorem cb_Ws.moved {s U : State} (hW : s.WarmedH U.vm) (h : cb_Ws s) : cb_Ws U := by
  intro w hw a
  have h1 := h w hw #[]
  obtain ⟨-, hk⟩ := List.mem_filter.mp hw
  by_cases hg : goodWord w = true
  · exact word_at hW (good_of_word hg) h1
  · have hg : goodWord w = false := by simpa using hg
    simp only [cb_ok, hg, Bool.false_or] at hk
    cases w <;> simp at hk
    · exact va_Nw.use rfl (va_Nw.warmM hW h1)
    · exact va_Nw.use rfl (va_Nw.warmF hW h1)
def cb_mt (j : Nat) : Int := match j with
  | 0 => 16
  | 1 => 16
  | 2 => 9
  | _ => 5
def cb_Z (g : cb_G) (A : Nat → Prop) (U : State) (H : Heap) : Prop := va_Z "CauseBook" "MOST_OF_TERMS" "[I" (.ref (cb_al g 158)) A U H ∧ va_T .int (cb_al g 158) 4 (fun j => .int (Int32.ofInt (cb_mt j))) A U H
def cb_U (g : cb_G) (M : Mem) (U : State) : Prop := cb_P g M U.heap ∧ cb_K g U ∧ cb_J g ∧ cb_Ws U ∧ cb_Z g (cb_A g) U U.heap
/-- the locals, by their places; vN is one of which nothing is known -/
def cb_Lo (g : cb_G) (nL : Nat) (ls : Array Slot) (loc : List Vl) : Prop := loc.length = nL ∧ ls.size = nL ∧ lv_wf ls ∧ ∀ (i : Nat) (v : Vl), loc[i]? = some v → v ≠ vN → ls[i]? = some (.val (cv (cb_al g) v))
/-- what is on the stack counts so many words -/
def cb_cat (v : Vl) : Nat := match v with
  | .inr (.inl _) => 2
  | _ => 1
theorem cb_cat_cv (al : Nat → Nat) (v : Vl) : (cv al v).category = cb_cat v := by
  rcases v with z | z | _ | k <;> rfl
def cb_wd (st : List Vl) : Nat := (st.map cb_cat).sum
theorem cb_wd_cv (al : Nat → Nat) (st : List Vl) : ((st.map (cv al)).map fun v => v.category).sum = cb_wd st := by
  unfold cb_wd
  rw [List.map_map]
  congr 1
  apply List.map_congr_left
  intro v _
  exact cb_cat_cv al v
def cb_rI (rk : Nat) : Instr := match rk with
  | 0 => .return_
  | 2 => .lreturn
  | _ => .ireturn
def cb_rO (rk : Nat) (v : Option Vl) : Prop := match rk with
  | 0 => v = none
  | 1 => ∃ z, v = some (vI z)
  | 2 => ∃ z, v = some (vL z)
  | _ => v = some (vI 0) ∨ v = some (vI 1)
/-- a method's fixed things: its class, code, number of locals, kind of answer, room -/
abbrev cb_F : Type := String × ByteArray × Nat × Nat × Nat × Nat
/-- where a walk stands: the machine, the tables' words, the room, and what the walk's end must give -/
def cb_X (f : cb_F) (E : Option Vl → Mem → Prop) (p : Program) (l : Launch) (e : Env) (R : Room) (s : State) (m : MethodId) (args : Array Value) (below : List Frame) (meth : Method) (c : Code) (Qs : State → Prop) (A : Nat → Prop) (g : cb_G) (cells slots : Nat) : Prop :=
  p.tables.exec = Jvm.exec ∧ c.code = f.2.1 ∧ c.maxLocals = f.2.2.1 ∧ s.vm.findClass f.1 = some m.cls ∧ cb_Ws s ∧ f.2.2.2.2.1 ≤ R.frames ∧ f.2.2.2.2.2 ≤ R.locals ∧ cells ≤ R.cells ∧ slots ≤ R.slots ∧ cb_K g s ∧ cb_J g ∧ (∀ k, k < 158 → A (cb_al g k)) ∧ cb_Z g A s s.heap ∧
  ∀ (v : Option Vl) (M : Mem) (H : Heap) (locs : List Loc) (ls : Array Slot) (pc : Nat), cb_rO f.2.2.2.1 v → decode f.2.1 pc = .ok (cb_rI f.2.2.2.1, 1) → E v M → cb_P g M H → va_S A s.heap H locs → W p l e R s m args below meth c H locs cells slots Qs (F0 m pc ls (v.toList.map (cv (cb_al g))))
def Tri (f : cb_F) (E : Option Vl → Mem → Prop) (pc : Nat) (loc st : List Vl) (M : Mem) : Prop :=
  ∀ (p : Program) (l : Launch) (e : Env) (R : Room) (s : State) (m : MethodId) (args : Array Value) (below : List Frame) (meth : Method) (c : Code) (Qs : State → Prop) (A : Nat → Prop) (g : cb_G) (cells slots : Nat), cb_X f E p l e R s m args below meth c Qs A g cells slots →
  ∀ (H : Heap) (locs : List Loc) (ls : Array Slot), cb_P g M H → va_S A s.heap H locs → cb_Lo g f.2.2.1 ls loc → W p l e R s m args below meth c H locs cells slots Qs (F0 m pc ls (st.map (cv (cb_al g))))
abbrev Kt : Type := Nat → List Vl → List Vl → Mem → Prop
abbrev Op : Type := List Vl → List Vl → Mem → (Option Vl → Mem → Prop) → Kt → Prop
/-- an instruction's description is right: what it asks makes the machine go on -/
def SO (f : cb_F) (pc : Nat) (op : Op) : Prop := ∀ (E : Option Vl → Mem → Prop) (loc st : List Vl) (M : Mem), op loc st M E (Tri f E) → Tri f E pc loc st M
def Mono (op : Op) : Prop := ∀ (loc st : List Vl) (M : Mem) (E : Option Vl → Mem → Prop) (K K' : Kt), (∀ pc loc st M, K pc loc st M → K' pc loc st M) → op loc st M E K → op loc st M E K'
/-- the least relation that is closed under the code's steps -/
def Run (C : Nat → Op) (E : Option Vl → Mem → Prop) (pc : Nat) (loc st : List Vl) (M : Mem) : Prop :=
  ∀ P : Kt, (∀ pc loc st M, C pc loc st M E P → P pc loc st M) → P pc loc st M
theorem Run.eq {C : Nat → Op} {E : Option Vl → Mem → Prop} {pc : Nat} {op : Op} (h : C pc = op) (hm : ∀ pc, Mono (C pc)) (loc st : List Vl) (M : Mem) : Run C E pc loc st M = op loc st M E (Run C E) := by
  subst h
  have fwd : ∀ pc loc st M, C pc loc st M E (Run C E) → Run C E pc loc st M := by
    intro pc loc st M h P hP
    exact hP pc loc st M (hm pc loc st M E (Run C E) P (fun pc loc st M h => h P hP) h)
  refine propext ⟨fun h => ?_, fwd pc loc st M⟩
  exact h (fun pc loc st M => C pc loc st M E (Run C E)) (fun pc loc st M h => hm pc loc st M E _ _ (fun pc loc st M h => fwd pc loc st M h) h)
theorem Run.tri {C : Nat → Op} {f : cb_F} (hS : ∀ pc, SO f pc (C pc)) {E : Option Vl → Mem → Prop} {pc : Nat} {loc st : List Vl} {M : Mem} (h : Run C E pc loc st M) : Tri f E pc loc st M :=
  h (Tri f E) (fun pc loc st M h => hS pc E loc st M h)
/-! a method's contract -/
abbrev Mi : Type := MethodName × ByteArray × Nat × Option FieldType × Nat × Nat
def cb_Q (g : cb_G) (ret : Option FieldType) (Q : Option Vl → Mem → Prop) : Array Value → State → Outcome → State → Prop := match ret with
  | none => va_Qv (fun u : Mem => Q none u) (fun u t => cb_P g u t.heap) (cb_A g)
  | some .long => va_Ql (fun r (u : Int × Mem) => r = Int64.ofInt u.1 ∧ Q (some (vL u.1)) u.2) (fun u t => cb_P g u.2 t.heap) (cb_A g)
  | some _ => va_Qi (fun r (u : Int × Mem) => r = Int32.ofInt u.1 ∧ Q (some (vI u.1)) u.2) (fun u t => cb_P g u.2 t.heap) (cb_A g)
def cb_rm (fr lo : Nat) : Room := { frames := fr, cells := 0, slots := 0, locals := lo }
/-- called so, in such a memory, the method returns, and what it answers and leaves has Q -/
def Cal (y : Mi) (as : List Vl) (M : Mem) (Q : Option Vl → Mem → Prop) : Prop :=
  ∀ (l : Launch) (g : cb_G), Met l y.1 [.code y.1 y.2.1 y.2.2.1 y.2.2.2.1] (cb_rm y.2.2.2.2.1 y.2.2.2.2.2) (va_Pc (as.map (cv (cb_al g))) (cb_U g M)) (cb_Q g y.2.2.2.1 Q) 0 0 (cb_A g)
theorem cb_Q.mono {g : cb_G} {ret : Option FieldType} {Q Q' : Option Vl → Mem → Prop} (h : ∀ v M, Q v M → Q' v M) {a : Array Value} {st : State} {o : Outcome} {t : State} (hq : cb_Q g ret Q a st o t) : cb_Q g ret Q' a st o t := by
  unfold cb_Q at hq ⊢
  split at hq
  · obtain ⟨⟨u, h1, h2, h3⟩, h4⟩ := hq
    exact ⟨⟨u, h1, h _ _ h2, h3⟩, h4⟩
  · obtain ⟨⟨r, u, h1, ⟨h2, h5⟩, h3⟩, h4⟩ := hq
    exact ⟨⟨r, u, h1, ⟨h2, h _ _ h5⟩, h3⟩, h4⟩
  · obtain ⟨⟨r, u, h1, ⟨h2, h5⟩, h3⟩, h4⟩ := hq
    exact ⟨⟨r, u, h1, ⟨h2, h _ _ h5⟩, h3⟩, h4⟩
theorem Cal.mono {y : Mi} {as : List Vl} {M : Mem} {Q Q' : Option Vl → Mem → Prop} (hc : Cal y as M Q) (h : ∀ v M', Q v M' → Q' v M') : Cal y as M Q' := by
  intro l g
  exact MetFree.mono (hc l g) (fun _ _ h => h) (fun _ _ _ _ _ h => h) (fun a s o s' _ hq => ⟨cb_Q.mono h hq.1, hq.2⟩)
/-- the locals at a method's entry -/
def cb_en : List Vl → List Vl
  | [] => []
  | .inr (.inl z) :: vs => vL z :: vN :: cb_en vs
  | v :: vs => v :: cb_en vs
theorem cb_en_args (al : Nat → Nat) : ∀ (as : List Vl) (d i : Nat) (v : Vl), (cb_en as)[i]? = some v → v ≠ vN → (d + i, cv al v) ∈ lv_args d (as.map (cv al))
  | [], d, i, v, h, _ => by simp [cb_en] at h
  | .inr (.inl z) :: as, d, i, v, h, hn => by
    match i with
    | 0 =>
      simp only [cb_en, List.getElem?_cons_zero, Option.some.injEq] at h
      subst h
      exact List.mem_cons_self
    | 1 =>
      simp only [cb_en, List.getElem?_cons_succ, List.getElem?_cons_zero, Option.some.injEq] at h
      exact absurd h.symm hn
    | i + 2 =>
      simp only [cb_en, List.getElem?_cons_succ] at h
      have := cb_en_args al as (d + 2) i v h hn
      refine List.mem_cons_of_mem _ ?_
      show _ ∈ lv_args (if (cv al (vL z)).category = 2 then d + 2 else d + 1) _
      rw [if_pos (show (cv al (vL z)).category = 2 from rfl), show d + (i + 2) = d + 2 + i by omega]
      exact this
  | .inl z :: as, d, i, v, h, hn => by
    match i with
    | 0 =>
      simp only [cb_en, List.getElem?_cons_zero, Option.some.injEq] at h
      subst h
      exact List.mem_cons_self
    | i + 1 =>
      simp only [cb_en, List.getElem?_cons_succ] at h
      have := cb_en_args al as (d + 1) i v h hn
      refine List.mem_cons_of_mem _ ?_
      show _ ∈ lv_args (if (cv al (vI z)).category = 2 then d + 2 else d + 1) _
      rw [if_neg (show ¬ (cv al (vI z)).category = 2 from fun h => by cases h), show d + (i + 1) = d + 1 + i by omega]
      exact this
  | .inr (.inr k) :: as, d, i, v, h, hn => by
    match i with
    | 0 =>
      simp only [cb_en, List.getElem?_cons_zero, Option.some.injEq] at h
      subst h
      exact List.mem_cons_self
    | i + 1 =>
      simp only [cb_en, List.getElem?_cons_succ] at h
      have := cb_en_args al as (d + 1) i v h hn
      refine List.mem_cons_of_mem _ ?_
      show _ ∈ lv_args (if (cv al (.inr (.inr k))).category = 2 then d + 2 else d + 1) _
      rw [if_neg (show ¬ (cv al (.inr (.inr k))).category = 2 from fun h => by cases k <;> cases h), show d + (i + 1) = d + 1 + i by omega]
      exact this
theorem cb_en_len (al : Nat → Nat) : ∀ as : List Vl, (lg_sl (as.map (cv al))).length = (cb_en as).length
  | [] => rfl
  | .inr (.inl z) :: as => by
    have := cb_en_len al as
    simp only [lg_sl, List.map_cons, List.flatMap_cons, cb_en, List.length_append, List.length_cons] at this ⊢
    rw [this]
    simp [cv, Value.category]
    omega
  | .inl z :: as => by
    have := cb_en_len al as
    simp only [lg_sl, List.map_cons, List.flatMap_cons, cb_en, List.length_append, List.length_cons] at this ⊢
    rw [this]
    simp [cv, Value.category]
    omega
  | .inr (.inr k) :: as => by
    have := cb_en_len al as
    simp only [lg_sl, List.map_cons, List.flatMap_cons, cb_en, List.length_append, List.length_cons] at this ⊢
    rw [this]
    cases k <;> simp [cv, Value.category] <;> omega
def cb_rt9 (rk : Nat) (ret : Option FieldType) : Prop := match rk with
  | 0 => ret = none
  | 1 => ret = some .int
  | 2 => ret = some .long
  | _ => ret = some .boolean
theorem cb_entry (g : cb_G) {as : List Vl} {nL : Nat} (h : (cb_en as).length ≤ nL) : cb_Lo g nL ((lg_sl (as.map (cv (cb_al g))) ++ List.replicate (nL - (lg_sl (as.map (cv (cb_al g)))).length) Slot.unset).toArray) (cb_en as ++ List.replicate (nL - (cb_en as).length) vN) := by
  obtain ⟨h1, h2, h3⟩ := lv_entry (as.map (cv (cb_al g))) (n := nL) (by rw [cb_en_len]; exact h)
  refine ⟨by simp; omega, h1, h2, fun i v hi hv => ?_⟩
  refine h3 (i, cv (cb_al g) v) ?_
  have hi2 : (cb_en as)[i]? = some v := by
    rcases Nat.lt_or_ge i (cb_en as).length with q | q
    · rwa [List.getElem?_append_left q] at hi
    · rw [List.getElem?_append_right q] at hi
      have := List.mem_of_getElem? hi
      exact absurd (List.eq_of_mem_replicate this) hv
  have := cb_en_args (cb_al g) as 0 i v hi2 hv
  rwa [Nat.zero_add] at this
theorem cb_A.of {g : cb_G} {k : Nat} (h : k < 158) : cb_A g (cb_al g k) := ⟨k, h, rfl⟩
/-- a contract out of a run of the small machine -/
theorem Cal.of {C : Nat → Op} {f : cb_F} {y : Mi} (hS : ∀ pc, SO f pc (C pc)) (hf : f = (y.1.cls, y.2.1, y.2.2.1, f.2.2.2.1, y.2.2.2.2.1, y.2.2.2.2.2)) (hp : plainName y.1.cls = true) (hr : cb_rt9 f.2.2.2.1 y.2.2.2.1) {as : List Vl} {M : Mem} {Q : Option Vl → Mem → Prop} (hn : (cb_en as).length ≤ y.2.2.1)
    (h : Run C Q 0 (cb_en as ++ List.replicate (y.2.2.1 - (cb_en as).length) vN) [] M) : Cal y as M Q := by
  obtain ⟨y, cc, nL, ret, fr, lo⟩ := y
  obtain ⟨own, cc', nL', rk, fr', lo'⟩ := f
  dsimp only at hf hp hr hn h
  simp only [Prod.mk.injEq] at hf
  obtain ⟨rfl, rfl, rfl, -, rfl, rfl⟩ := hf
  intro l g
  refine Met.ofW (cc := cc') (maxL := nL') (ret := ret) hp rfl ?_
  intro p e s m args below meth c s₁ B hml hv
  obtain ⟨rfl, hP, hK, hJ, hWs, hZ⟩ := hv
  have hown : s.vm.findClass y.cls = some m.cls := findClass_of_methodNamed B.named
  have hlocks := B.notSynchronized
  have hret := B.returns
  have hb := B.bytes
  have hx := B.exec
  rw [lg_entry_eq]
  refine (Run.tri hS h) p l e _ s m _ below meth c _ (cb_A g) g 0 0 ?_ s.heap [] _ hP va_S.rf (cb_entry g hn)
  refine ⟨hx, hb, hml, hown, hWs, Nat.le_refl _, Nat.le_refl _, Nat.le_refl _, Nat.le_refl _, hK, hJ, fun k hk => cb_A.of hk, hZ, ?_⟩
  intro v M2 H locs ls pc hrO hdg hE hP2 hS2
  dsimp only at hrO hdg hr
  match rk, hrO, hdg, hr with
  | 0, hrO, hdg, hr =>
    cases hrO
    cases hr
    exact W.vret hx hb hret (fun t ht hW => ⟨⟨M2, rfl, hE, by show cb_P g M2 t.heap; rw [ht]; exact hP2⟩, hS2.F ht⟩) hS2.2.2 hdg
  | 1, hrO, hdg, hr =>
    obtain ⟨z, rfl⟩ := hrO
    cases hr
    exact W.iret (v := Int32.ofInt z) hx hb hret (fun t ht hW => ⟨⟨Int32.ofInt z, (z, M2), rfl, ⟨rfl, hE⟩, by show cb_P g M2 t.heap; rw [ht]; exact hP2⟩, hS2.F ht⟩) hS2.2.2 hdg
  | 2, hrO, hdg, hr =>
    obtain ⟨z, rfl⟩ := hrO
    cases hr
    exact W.lret (v := Int64.ofInt z) hx hb hret (fun t ht hW => ⟨⟨Int64.ofInt z, (z, M2), rfl, ⟨rfl, hE⟩, by show cb_P g M2 t.heap; rw [ht]; exact hP2⟩, hS2.F ht⟩) hS2.2.2 hdg
  | k + 3, hrO, hdg, hr =>
    cases hr
    rcases hrO with rfl | rfl
    · exact W.zret (v := Int32.ofInt 0) hx hb hret rfl (fun t ht hW => ⟨⟨Int32.ofInt 0, (0, M2), rfl, ⟨rfl, hE⟩, by show cb_P g M2 t.heap; rw [ht]; exact hP2⟩, hS2.F ht⟩) hS2.2.2 hdg
    · exact W.zret (v := Int32.ofInt 1) hx hb hret rfl (fun t ht hW => ⟨⟨Int32.ofInt 1, (1, M2), rfl, ⟨rfl, hE⟩, by show cb_P g M2 t.heap; rw [ht]; exact hP2⟩, hS2.F ht⟩) hS2.2.2 hdg
