/-! the constructors: a world that grows, cell by cell -/
theorem up_eq {α : Type} (f : Nat → α) (k : Nat) (v : α) : va_up f k v k = v := if_pos rfl
theorem up_ne {α : Type} {f : Nat → α} {k j : Nat} {v : α} (h : j ≠ k) : va_up f k v j = f j := if_neg h
def kb_w (al : Nat → Nat) (E : Nat → va_E) (n : Nat) : va_W := (List.range n).map (fun k => (al k, E k))
theorem kb_w_at {al : Nat → Nat} {E : Nat → va_E} {n k : Nat} (h : k < n) : (kb_w al E n)[k]? = some (al k, E k) := by
  simp [kb_w, h]
theorem kb_w_push {al : Nat → Nat} {E : Nat → va_E} {n q : Nat} {x : va_E} : kb_w al E n ++ [(q, x)] = kb_w (va_up al n q) (va_up E n x) (n + 1) := by
  unfold kb_w
  rw [List.range_succ, List.map_append]
  congr 1
  · apply List.map_congr_left
    intro k hk
    have := List.mem_range.mp hk
    rw [up_ne (by omega), up_ne (by omega)]
  · rw [List.map_cons, List.map_nil, up_eq, up_eq]
theorem kb_w_set {al : Nat → Nat} {E : Nat → va_E} {n c : Nat} {x : va_E} (h : c < n) : (kb_w al E n).set c (al c, x) = kb_w al (va_up E c x) n := by
  apply List.ext_getElem?
  intro i
  by_cases hi : i < n
  · rw [kb_w_at hi]
    by_cases hc : i = c
    · subst hc
      rw [List.getElem?_set_self (by simp [kb_w, hi]), up_eq]
    · rw [List.getElem?_set_ne (Ne.symm hc), kb_w_at hi, up_ne hc]
  · rw [List.getElem?_eq_none (by simp [kb_w]; omega), List.getElem?_eq_none (by simp [kb_w]; omega)]
def tz (i : Int) : Int := if i = 0 then 2 else if 0 < i ∧ i < 4 then 1 else 0
def kb_Z (g : cb_G) (A : Nat → Prop) (U : State) (H : Heap) : Prop := va_Z "CauseBook" "TERMS_AT_FIRST" "[I" (.ref (cb_al g 159)) A U H ∧ va_T .int (cb_al g 159) 4 (fun j => .int (Int32.ofInt (tz j))) A U H
def kb_X (own : String) (cc : ByteArray) (nL : Nat) (p : Program) (s : State) (m : MethodId) (meth : Method) (c : Code) (g : cb_G) (A : Nat → Prop) : Prop := p.tables.exec = Jvm.exec ∧ c.code = cc ∧ c.maxLocals = nL ∧ s.vm.findClass own = some m.cls ∧ cb_Ws s ∧ cb_K g s ∧ va_AO "CauseBook$Model" s ∧ (∀ q, s.heap.size ≤ q → A q) ∧ meth.name = "<init>" ∧ kb_Z g A s s.heap
def kb_S (g : cb_G) (A : Nat → Prop) (s : State) (al : Nat → Nat) (E : Nat → va_E) (n : Nat) (H : Heap) (locs : List Loc) : Prop := va_P g.1 cb_cl (kb_w al E n) H ∧ va_D A (kb_w al E n) ∧ va_S A s.heap H locs
theorem kb_S.eq {g : cb_G} {A : Nat → Prop} {s : State} {al : Nat → Nat} {E E' : Nat → va_E} {n : Nat} {H : Heap} {locs : List Loc} (h : kb_S g A s al E n H locs) (he : ∀ k, k < n → E' k = E k ∨ ∃ cA a a', E k = .inl (cA, a) ∧ E' k = .inl (cA, a') ∧ vp_cell cA a' = vp_cell cA a) : kb_S g A s al E' n H locs := by
  have key : ∀ (k : Nat) (q : Nat × va_E), (kb_w al E' n)[k]? = some q → k < n ∧ q = (al k, E' k) := by
    intro k q hq
    have hk : k < n := by
      have := (List.getElem?_eq_some_iff.mp hq).1
      simpa [kb_w] using this
    rw [kb_w_at hk] at hq
    exact ⟨hk, (Option.some.inj hq).symm⟩
  refine ⟨fun k q hq => ?_, ⟨fun i j x y hi hj hxy => ?_, fun k q hq => ?_⟩, h.2.2⟩
  · obtain ⟨hk, rfl⟩ := key k q hq
    have h1 := h.1 k _ (kb_w_at hk)
    rcases he k hk with e | ⟨cA, a, a', e1, e2, e3⟩
    · rw [e]; exact h1
    · rw [e1] at h1
      rw [e2]
      have h1 : H[al k]? = some (vp_cell cA a) := h1
      show H[al k]? = some (vp_cell cA a')
      rw [e3]; exact h1
  · obtain ⟨h1, rfl⟩ := key i x hi
    obtain ⟨h2, rfl⟩ := key j y hj
    exact h.2.1.1 i j _ _ (kb_w_at h1) (kb_w_at h2) hxy
  · obtain ⟨h1, rfl⟩ := key k q hq
    exact h.2.1.2 k (al k, E k) (kb_w_at h1)
section KON
variable {p : Program} {l : Launch} {e : Env} {R : Room} {s : State} {m : MethodId} {args : Array Value} {below : List Frame} {meth : Method} {c : Code} {cells slots : Nat} {Q : State → Prop} {H : Heap} {locs : List Loc} {ls : Array Slot} {own : String} {cc : ByteArray} {nL : Nat} {g : cb_G} {A : Nat → Prop} {al : Nat → Nat} {E : Nat → va_E} {n pc : Nat} {st : List Value}
theorem kb_newi (X : kb_X own cc nL p s m meth c g A) (hZ : kb_S g A s al E n H locs) {v : Int32} (N : Nat) (hv : v.toNatClampNeg = N) (hv0 : ¬ v < 0) (hby : N * 4 ≤ 536870912) (hce : cells + 1 ≤ R.cells) (hsl : slots + N ≤ R.slots) (d : decode cc pc = .ok (.newarray .int, 2))
    (kk : ∀ (q : Nat) (H1 : Heap), kb_S g A s (va_up al n q) (va_up E n (.inl (g.2.1.1, N, .inl (fun _ => 0)))) (n + 1) H1 locs → W p l e R s m args below meth c H1 locs (cells + 1) (slots + N) Q (F0 m (pc + 2) ls (.ref q :: st))) : W p l e R s m args below meth c H locs cells slots Q (F0 m pc ls (.int v :: st)) := by
  obtain ⟨hx, hb, hml, hown, hWs, hK, hAO, hA, hin, hZs⟩ := X
  obtain ⟨hP, hD, hS⟩ := hZ
  refine va_newa (atype := .int) hx hb (hWs _ cw_94 args) rfl hK hP hD hS hA (a0 := (N, .inl (fun _ => 0))) (fun cA => rfl) hv0 hv hby hce hsl d (fun q cA H1 hK1 hP1 hD1 hS1 => ?_)
  have h1 : s.vm.findClass ("[" ++ FieldType.int.toString) = some cA := (hK1.2 4 (cA, .int) rfl).2
  have h2 : s.vm.findClass ("[" ++ FieldType.int.toString) = some g.2.1.1 := (hK.2 0 (g.2.1.1, .int) rfl).2
  cases Option.some.inj (h1.symm.trans h2)
  rw [kb_w_push] at hP1 hD1
  exact kk q H1 ⟨hP1, hD1, hS1⟩
theorem kb_newz (X : kb_X own cc nL p s m meth c g A) (hZ : kb_S g A s al E n H locs) {v : Int32} (N : Nat) (hv : v.toNatClampNeg = N) (hv0 : ¬ v < 0) (hby : N * 1 ≤ 536870912) (hce : cells + 1 ≤ R.cells) (hsl : slots + N ≤ R.slots) (d : decode cc pc = .ok (.newarray .boolean, 2))
    (kk : ∀ (q : Nat) (H1 : Heap), kb_S g A s (va_up al n q) (va_up E n (.inl (g.2.1.2.1, N, .inl (fun _ => 0)))) (n + 1) H1 locs → W p l e R s m args below meth c H1 locs (cells + 1) (slots + N) Q (F0 m (pc + 2) ls (.ref q :: st))) : W p l e R s m args below meth c H locs cells slots Q (F0 m pc ls (.int v :: st)) := by
  obtain ⟨hx, hb, hml, hown, hWs, hK, hAO, hA, hin, hZs⟩ := X
  obtain ⟨hP, hD, hS⟩ := hZ
  refine va_newa (atype := .boolean) hx hb (hWs _ cw_133 args) rfl hK hP hD hS hA (a0 := (N, .inl (fun _ => 0))) (fun cA => rfl) hv0 hv hby hce hsl d (fun q cA H1 hK1 hP1 hD1 hS1 => ?_)
  have h1 : s.vm.findClass ("[" ++ FieldType.boolean.toString) = some cA := (hK1.2 4 (cA, .boolean) rfl).2
  have h2 : s.vm.findClass ("[" ++ FieldType.boolean.toString) = some g.2.1.2.1 := (hK.2 1 (g.2.1.2.1, .boolean) rfl).2
  cases Option.some.inj (h1.symm.trans h2)
  rw [kb_w_push] at hP1 hD1
  exact kk q H1 ⟨hP1, hD1, hS1⟩
theorem kb_newl (X : kb_X own cc nL p s m meth c g A) (hZ : kb_S g A s al E n H locs) {v : Int32} (N : Nat) (hv : v.toNatClampNeg = N) (hv0 : ¬ v < 0) (hby : N * 8 ≤ 536870912) (hce : cells + 1 ≤ R.cells) (hsl : slots + N ≤ R.slots) (d : decode cc pc = .ok (.newarray .long, 2))
    (kk : ∀ (q : Nat) (H1 : Heap), kb_S g A s (va_up al n q) (va_up E n (.inl (g.2.1.2.2.1, N, .inr (.inl (fun _ => 0))))) (n + 1) H1 locs → W p l e R s m args below meth c H1 locs (cells + 1) (slots + N) Q (F0 m (pc + 2) ls (.ref q :: st))) : W p l e R s m args below meth c H locs cells slots Q (F0 m pc ls (.int v :: st)) := by
  obtain ⟨hx, hb, hml, hown, hWs, hK, hAO, hA, hin, hZs⟩ := X
  obtain ⟨hP, hD, hS⟩ := hZ
  refine va_newa (atype := .long) hx hb (hWs _ cw_320 args) rfl hK hP hD hS hA (a0 := (N, .inr (.inl (fun _ => 0)))) (fun cA => rfl) hv0 hv hby hce hsl d (fun q cA H1 hK1 hP1 hD1 hS1 => ?_)
  have h1 : s.vm.findClass ("[" ++ FieldType.long.toString) = some cA := (hK1.2 4 (cA, .long) rfl).2
  have h2 : s.vm.findClass ("[" ++ FieldType.long.toString) = some g.2.1.2.2.1 := (hK.2 2 (g.2.1.2.2.1, .long) rfl).2
  cases Option.some.inj (h1.symm.trans h2)
  rw [kb_w_push] at hP1 hD1
  exact kk q H1 ⟨hP1, hD1, hS1⟩
theorem kb_newq (X : kb_X own cc nL p s m meth c g A) (hZ : kb_S g A s al E n H locs) {v : Int32} {ix : Nat} (N : Nat) (hw : Cond.classLink own ix "CauseBook$Model" ∈ cb_TB) (hv : v.toNatClampNeg = N) (hv0 : ¬ v < 0) (hby : N * 4 ≤ 536870912) (hce : cells + 1 ≤ R.cells) (hsl : slots + N ≤ R.slots) (d : decode cc pc = .ok (.anewarray ix, 3))
    (kk : ∀ (q : Nat) (H1 : Heap), kb_S g A s (va_up al n q) (va_up E n (.inl (g.2.1.2.2.2, N, .inr (.inr (.inr (.inr (fun _ => none))))))) (n + 1) H1 locs → W p l e R s m args below meth c H1 locs (cells + 1) (slots + N) Q (F0 m (pc + 3) ls (.ref q :: st))) : W p l e R s m args below meth c H locs cells slots Q (F0 m pc ls (.int v :: st)) := by
  obtain ⟨hx, hb, hml, hown, hWs, hK, hAO, hA, hin, hZs⟩ := X
  obtain ⟨hP, hD, hS⟩ := hZ
  refine va_newq hx hb hown (hWs _ hw args) hAO hK hP hD hS hA hv0 hv hby hce hsl d (fun q cA H1 hK1 hP1 hD1 hS1 => ?_)
  obtain ⟨-, _, _, _, _, _, h1⟩ := hK1.2 4 (cA, .object "CauseBook$Model") rfl
  obtain ⟨-, _, _, _, _, _, h2⟩ := hK.2 3 (g.2.1.2.2.2, .object "CauseBook$Model") rfl
  cases Option.some.inj (h1.symm.trans h2)
  rw [kb_w_push] at hP1 hD1
  exact kk q H1 ⟨hP1, hD1, hS1⟩
theorem kb_new (X : kb_X own cc nL p s m meth c g A) (hZ : kb_S g A s al E n H locs) {ci ix : Nat} {C : String} {T : u_T} {N : Nat} {ty : Nat → FieldType} (hC : cb_C ci C T N ty) (hw : Cond.classLink own ix C ∈ cb_TB) (hw2 : Cond.instantiable C N ∈ cb_TB) (hw3 : Cond.initialized C ∈ cb_TB) {fs : List Value} (hfs : ∀ j, j < N → defaultValue (ty j) = vp_V fs j) (hce : cells + 1 ≤ R.cells) (hsl : slots + N ≤ R.slots) (d : decode cc pc = .ok (.new ix, 3))
    (kk : ∀ (q : Nat) (H1 : Heap), kb_S g A s (va_up al n q) (va_up E n (.inr (ci, fs))) (n + 1) H1 locs → W p l e R s m args below meth c H1 locs (cells + 1) (slots + N) Q (F0 m (pc + 3) ls (.ref q :: st))) : W p l e R s m args below meth c H locs cells slots Q (F0 m pc ls st) := by
  obtain ⟨hx, hb, hml, hown, hWs, hK, hAO, hA, hin, hZs⟩ := X
  obtain ⟨hP, hD, hS⟩ := hZ
  have hts : ∀ w ∈ cb_TB, w.before args s = true := fun w hw => hWs w hw args
  refine va_new hx hb hts hC.2.1 ty hC.2.2.1 hown (hts _ hw) (hts _ hw2) (hts _ hw3) hK hP hD hS hA hC.1 hfs hce hsl d (fun q H1 hP1 hD1 hS1 => ?_)
  rw [kb_w_push] at hP1 hD1
  exact kk q H1 ⟨hP1, hD1, hS1⟩
theorem kb_put (X : kb_X own cc nL p s m meth c g A) (hZ : kb_S g A s al E n H locs) {ci k ix c0 : Nat} {C : String} {T : u_T} {N : Nat} {ty : Nat → FieldType} {fs : List Value} {v : Value} {t : FieldType} (hC : cb_C ci C T N ty) (hk : k < N) (hw : Cond.fieldLink own ix (T k).1 (T k).2.1 (T k).2.2.1 ∈ cb_TB) (hc0 : c0 < n) (hE : E c0 = .inr (ci, fs)) (hfin : (T k).2.2.2 = true) (hdecl : (T k).1 = own) (hd : parseFieldDescriptor (T k).2.2.1 = some t) (hn : narrow t v = v) (hfit : fits t v = true) (hl : k < fs.length) (d : decode cc pc = .ok (.putfield ix, 3))
    (kk : ∀ (H1 : Heap) (locs1 : List Loc), kb_S g A s al (va_up E c0 (.inr (ci, fs.set k v))) n H1 locs1 → W p l e R s m args below meth c H1 locs1 cells slots Q (F0 m (pc + 3) ls st)) : W p l e R s m args below meth c H locs cells slots Q (F0 m pc ls (v :: .ref (al c0) :: st)) := by
  obtain ⟨hx, hb, hml, hown, hWs, hK, hAO, hA, hin, hZs⟩ := X
  obtain ⟨hP, hD, hS⟩ := hZ
  have hts : ∀ w ∈ cb_TB, w.before args s = true := fun w hw => hWs w hw args
  refine va_putF hx hb hts hC.2.1 ty hC.2.2.1 hC.2.2.2.1 hown hK hP hD hS c0 (by rw [kb_w_at hc0, hE]) hC.1 k hk (hts _ hw) (fun _ h9 => h9) hfin hin hdecl hd hn hfit hl d (fun H1 locs1 hP1 hD1 hS1 => ?_)
  rw [kb_w_set hc0] at hP1 hD1
  exact kk H1 locs1 ⟨hP1, hD1, hS1⟩
theorem kb_get (X : kb_X own cc nL p s m meth c g A) (hZ : kb_S g A s al E n H locs) {ci k ix c0 : Nat} {C : String} {T : u_T} {N : Nat} {ty : Nat → FieldType} {fs : List Value} {v : Value} (hC : cb_C ci C T N ty) (hk : k < N) (hw : Cond.fieldLink own ix (T k).1 (T k).2.1 (T k).2.2.1 ∈ cb_TB) (hc0 : c0 < n) (hE : E c0 = .inr (ci, fs)) (hv : fs[k]? = some v) (d : decode cc pc = .ok (.getfield ix, 3))
    (kk : W p l e R s m args below meth c H locs cells slots Q (F0 m (pc + 3) ls (v :: st))) : W p l e R s m args below meth c H locs cells slots Q (F0 m pc ls (.ref (al c0) :: st)) := by
  obtain ⟨hx, hb, hml, hown, hWs, hK, hAO, hA, hin, hZs⟩ := X
  obtain ⟨hP, hD, hS⟩ := hZ
  have hts : ∀ w ∈ cb_TB, w.before args s = true := fun w hw => hWs w hw args
  exact va_get hx hb hts hC.2.1 hown hK hP c0 (by rw [kb_w_at hc0, hE]) hC.1 k hk (hts _ hw) (fun _ h9 => h9) hv d kk
theorem kb_aast (X : kb_X own cc nL p s m meth c g A) (hZ : kb_S g A s al E n H locs) {c0 c1 N : Nat} {fs : List Value} {f : Nat → Option Nat} {i : Int32} (hc0 : c0 < n) (hc1 : c1 < n) (hE0 : E c0 = .inl (g.2.1.2.2.2, N, .inr (.inr (.inr (.inr f))))) (hE1 : E c1 = .inr (5, fs)) (hi : vp_in i N) (d : decode cc pc = .ok (.aastore, 1))
    (kk : ∀ (H1 : Heap) (locs1 : List Loc), kb_S g A s al (va_up E c0 (.inl (g.2.1.2.2.2, N, .inr (.inr (.inr (.inr (va_up f i.toNatClampNeg (some (al c1))))))))) n H1 locs1 → W p l e R s m args below meth c H1 locs1 cells slots Q (F0 m (pc + 1) ls st)) : W p l e R s m args below meth c H locs cells slots Q (F0 m pc ls (.ref (al c1) :: .int i :: .ref (al c0) :: st)) := by
  obtain ⟨hx, hb, hml, hown, hWs, hK, hAO, hA, hin, hZs⟩ := X
  obtain ⟨hP, hD, hS⟩ := hZ
  refine va_astq hx hb hK hP hD hS c0 3 c1 5 (by rw [kb_w_at hc0, hE0]) rfl (by rw [kb_w_at hc1, hE1]) (r := (cb_R5, cb_T5, 13)) rfl hi d (fun H1 locs1 hP1 hD1 hS1 => ?_)
  rw [kb_w_set hc0] at hP1 hD1
  exact kk H1 locs1 ⟨hP1, hD1, hS1⟩
theorem kb_iast (X : kb_X own cc nL p s m meth c g A) (hZ : kb_S g A s al E n H locs) {c0 N : Nat} {f : Nat → Int32} {i x : Int32} (hc0 : c0 < n) (hE0 : E c0 = .inl (g.2.1.1, N, .inl f)) (hi : vp_in i N) (d : decode cc pc = .ok (.iastore, 1))
    (kk : ∀ (H1 : Heap) (locs1 : List Loc) (f' : Nat → Int32), (∀ j, f' j = if j = i.toNatClampNeg then x else f j) → kb_S g A s al (va_up E c0 (.inl (g.2.1.1, N, .inl f'))) n H1 locs1 → W p l e R s m args below meth c H1 locs1 cells slots Q (F0 m (pc + 1) ls st)) : W p l e R s m args below meth c H locs cells slots Q (F0 m pc ls (.int x :: .int i :: .ref (al c0) :: st)) := by
  obtain ⟨hx, hb, hml, hown, hWs, hK, hAO, hA, hin, hZs⟩ := X
  obtain ⟨hP, hD, hS⟩ := hZ
  refine va_iast hx hb hK hP hD hS c0 0 (by rw [kb_w_at hc0, hE0]) rfl hi d (fun H1 locs1 hP1 hD1 hS1 => ?_)
  rw [kb_w_set hc0] at hP1 hD1
  exact kk H1 locs1 _ (fun j => rfl) ⟨hP1, hD1, hS1⟩
theorem kb_obj (X : kb_X own cc nL p s m meth c g A) {ix a : Nat} (hw : Cond.methodLink own ix Lib.objectInit ∈ cb_TB) (hls : ls.size = nL) (hf : 1 ≤ R.frames) (hlo : 12 ≤ R.locals) (d : decode cc pc = .ok (.invokespecial ix, 3))
    (kk : W p l e R s m args below meth c H locs cells slots Q (F0 m (pc + 3) ls [])) : W p l e R s m args below meth c H locs cells slots Q (F0 m pc ls [.ref a]) := by
  obtain ⟨hx, hb, hml, hown, hWs, hK, hAO, hA, hin, hZs⟩ := X
  refine W.objInit hx hb hown (hWs _ hw args) (hWs _ cw_23 args) (hWs _ cw_24 args) rfl (hls.trans hml.symm) rfl d hf (by show 2 * 0 + 0 + 12 ≤ R.locals; omega) ?_
  exact W.eq (g2 := F0 m (pc + 3) ls []) rfl kk
end KON
