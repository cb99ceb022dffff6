/-! the constructors' steps, with what is known of the cells behind them -/
section KON2
variable {p : Program} {l : Launch} {e : Env} {R : Room} {s : State} {m : MethodId} {args : Array Value} {below : List Frame} {meth : Method} {c : Code} {cells slots : Nat} {Q : State → Prop} {H : Heap} {locs : List Loc} {ls : Array Slot} {own : String} {cc : ByteArray} {nL : Nat} {g : cb_G} {A : Nat → Prop} {al : Nat → Nat} {E : Nat → va_E} {n pc : Nat} {st : List Value}
theorem kf_I (X : kb_X own cc nL p s m meth c g A) (hZ : kb_S g A s al E n H locs) {ci ix c0 a0 : Nat} {C : String} {T : u_T} {N : Nat} {ty : Nat → FieldType} {fs : List Value} (hC : cb_C ci C T N ty) (k : Nat) {v : Int32} (B : Nat) (hw : Cond.fieldLink own ix (T k).1 (T k).2.1 (T k).2.2.1 ∈ cb_TB) (hc0 : c0 < n) (ha : al c0 = a0) (hE : E c0 = .inr (ci, fs)) (hk : k < N) (hfin : (T k).2.2.2 = true) (hdecl : (T k).1 = own) (hd : parseFieldDescriptor (T k).2.2.1 = some (.array .int)) (hl : k < fs.length) (hv : v.toNatClampNeg = B) (hv0 : ¬ v < 0) (hby : B * 4 ≤ 536870912) (hce : cells + 1 ≤ R.cells) (hsl : slots + B ≤ R.slots) (d1 : decode cc pc = .ok (.newarray .int, 2)) (d2 : decode cc (pc + 2) = .ok (.putfield ix, 3))
    (kk : ∀ (al1 : Nat → Nat) (E1 : Nat → va_E) (H1 : Heap) (locs1 : List Loc), (∀ i, i < n → al1 i = al i) → (∀ i, i < n → i ≠ c0 → E1 i = E i) → E1 n = .inl (g.2.1.1, B, .inl (fun _ => 0)) → E1 c0 = .inr (ci, fs.set k (.ref (al1 n))) → kb_S g A s al1 E1 (n + 1) H1 locs1 → W p l e R s m args below meth c H1 locs1 (cells + 1) (slots + B) Q (F0 m (pc + 5) ls st)) : W p l e R s m args below meth c H locs cells slots Q (F0 m pc ls (.int v :: .ref a0 :: st)) := by
  subst ha
  refine kb_newi X hZ B hv hv0 hby hce hsl d1 (fun q H1 hZ1 => ?_)
  have e1 : al c0 = va_up al n q c0 := (up_ne (by omega)).symm
  rw [e1]
  refine kb_put X hZ1 (k := k) hC hk hw (by omega) (fs := fs) (by rw [up_ne (by omega)]; exact hE) hfin hdecl hd rfl rfl hl d2 (fun H2 locs2 hZ2 => ?_)
  refine kk _ _ H2 locs2 (fun i hi => up_ne (by omega)) (fun i hi hne => ?_) ?_ ?_ hZ2
  · rw [up_ne hne, up_ne (by omega)]
  · rw [up_ne (by omega), up_eq]
  · rw [up_eq, up_eq]
theorem kf_Z (X : kb_X own cc nL p s m meth c g A) (hZ : kb_S g A s al E n H locs) {ci ix c0 a0 : Nat} {C : String} {T : u_T} {N : Nat} {ty : Nat → FieldType} {fs : List Value} (hC : cb_C ci C T N ty) (k : Nat) {v : Int32} (B : Nat) (hw : Cond.fieldLink own ix (T k).1 (T k).2.1 (T k).2.2.1 ∈ cb_TB) (hc0 : c0 < n) (ha : al c0 = a0) (hE : E c0 = .inr (ci, fs)) (hk : k < N) (hfin : (T k).2.2.2 = true) (hdecl : (T k).1 = own) (hd : parseFieldDescriptor (T k).2.2.1 = some (.array .boolean)) (hl : k < fs.length) (hv : v.toNatClampNeg = B) (hv0 : ¬ v < 0) (hby : B * 1 ≤ 536870912) (hce : cells + 1 ≤ R.cells) (hsl : slots + B ≤ R.slots) (d1 : decode cc pc = .ok (.newarray .boolean, 2)) (d2 : decode cc (pc + 2) = .ok (.putfield ix, 3))
    (kk : ∀ (al1 : Nat → Nat) (E1 : Nat → va_E) (H1 : Heap) (locs1 : List Loc), (∀ i, i < n → al1 i = al i) → (∀ i, i < n → i ≠ c0 → E1 i = E i) → E1 n = .inl (g.2.1.2.1, B, .inl (fun _ => 0)) → E1 c0 = .inr (ci, fs.set k (.ref (al1 n))) → kb_S g A s al1 E1 (n + 1) H1 locs1 → W p l e R s m args below meth c H1 locs1 (cells + 1) (slots + B) Q (F0 m (pc + 5) ls st)) : W p l e R s m args below meth c H locs cells slots Q (F0 m pc ls (.int v :: .ref a0 :: st)) := by
  subst ha
  refine kb_newz X hZ B hv hv0 hby hce hsl d1 (fun q H1 hZ1 => ?_)
  have e1 : al c0 = va_up al n q c0 := (up_ne (by omega)).symm
  rw [e1]
  refine kb_put X hZ1 (k := k) hC hk hw (by omega) (fs := fs) (by rw [up_ne (by omega)]; exact hE) hfin hdecl hd rfl rfl hl d2 (fun H2 locs2 hZ2 => ?_)
  refine kk _ _ H2 locs2 (fun i hi => up_ne (by omega)) (fun i hi hne => ?_) ?_ ?_ hZ2
  · rw [up_ne hne, up_ne (by omega)]
  · rw [up_ne (by omega), up_eq]
  · rw [up_eq, up_eq]
theorem kf_L (X : kb_X own cc nL p s m meth c g A) (hZ : kb_S g A s al E n H locs) {ci ix c0 a0 : Nat} {C : String} {T : u_T} {N : Nat} {ty : Nat → FieldType} {fs : List Value} (hC : cb_C ci C T N ty) (k : Nat) {v : Int32} (B : Nat) (hw : Cond.fieldLink own ix (T k).1 (T k).2.1 (T k).2.2.1 ∈ cb_TB) (hc0 : c0 < n) (ha : al c0 = a0) (hE : E c0 = .inr (ci, fs)) (hk : k < N) (hfin : (T k).2.2.2 = true) (hdecl : (T k).1 = own) (hd : parseFieldDescriptor (T k).2.2.1 = some (.array .long)) (hl : k < fs.length) (hv : v.toNatClampNeg = B) (hv0 : ¬ v < 0) (hby : B * 8 ≤ 536870912) (hce : cells + 1 ≤ R.cells) (hsl : slots + B ≤ R.slots) (d1 : decode cc pc = .ok (.newarray .long, 2)) (d2 : decode cc (pc + 2) = .ok (.putfield ix, 3))
    (kk : ∀ (al1 : Nat → Nat) (E1 : Nat → va_E) (H1 : Heap) (locs1 : List Loc), (∀ i, i < n → al1 i = al i) → (∀ i, i < n → i ≠ c0 → E1 i = E i) → E1 n = .inl (g.2.1.2.2.1, B, .inr (.inl (fun _ => 0))) → E1 c0 = .inr (ci, fs.set k (.ref (al1 n))) → kb_S g A s al1 E1 (n + 1) H1 locs1 → W p l e R s m args below meth c H1 locs1 (cells + 1) (slots + B) Q (F0 m (pc + 5) ls st)) : W p l e R s m args below meth c H locs cells slots Q (F0 m pc ls (.int v :: .ref a0 :: st)) := by
  subst ha
  refine kb_newl X hZ B hv hv0 hby hce hsl d1 (fun q H1 hZ1 => ?_)
  have e1 : al c0 = va_up al n q c0 := (up_ne (by omega)).symm
  rw [e1]
  refine kb_put X hZ1 (k := k) hC hk hw (by omega) (fs := fs) (by rw [up_ne (by omega)]; exact hE) hfin hdecl hd rfl rfl hl d2 (fun H2 locs2 hZ2 => ?_)
  refine kk _ _ H2 locs2 (fun i hi => up_ne (by omega)) (fun i hi hne => ?_) ?_ ?_ hZ2
  · rw [up_ne hne, up_ne (by omega)]
  · rw [up_ne (by omega), up_eq]
  · rw [up_eq, up_eq]
theorem kf_R (X : kb_X own cc nL p s m meth c g A) (hZ : kb_S g A s al E n H locs) {ci ix c0 a0 : Nat} {C : String} {T : u_T} {N : Nat} {ty : Nat → FieldType} {fs : List Value} {q : Nat} {t : FieldType} (hC : cb_C ci C T N ty) (k : Nat) (hw : Cond.fieldLink own ix (T k).1 (T k).2.1 (T k).2.2.1 ∈ cb_TB) (hc0 : c0 < n) (ha : al c0 = a0) (hE : E c0 = .inr (ci, fs)) (hk : k < N) (hfin : (T k).2.2.2 = true) (hdecl : (T k).1 = own) (hd : parseFieldDescriptor (T k).2.2.1 = some t) (hn : narrow t (.ref q) = .ref q) (hfit : fits t (.ref q) = true) (hl : k < fs.length) (d : decode cc pc = .ok (.putfield ix, 3))
    (kk : ∀ (E1 : Nat → va_E) (H1 : Heap) (locs1 : List Loc), (∀ i, i ≠ c0 → E1 i = E i) → E1 c0 = .inr (ci, fs.set k (.ref q)) → kb_S g A s al E1 n H1 locs1 → W p l e R s m args below meth c H1 locs1 cells slots Q (F0 m (pc + 3) ls st)) : W p l e R s m args below meth c H locs cells slots Q (F0 m pc ls (.ref q :: .ref a0 :: st)) := by
  subst ha
  exact kb_put X hZ (k := k) hC hk hw hc0 hE hfin hdecl hd hn hfit hl d (fun H2 locs2 hZ2 => kk _ H2 locs2 (fun i hne => up_ne hne) (up_eq _ _ _) hZ2)
theorem kf_get (X : kb_X own cc nL p s m meth c g A) (hZ : kb_S g A s al E n H locs) {ci ix c0 a0 : Nat} {C : String} {T : u_T} {N : Nat} {ty : Nat → FieldType} {fs : List Value} {v : Value} (hC : cb_C ci C T N ty) (k : Nat) (hw : Cond.fieldLink own ix (T k).1 (T k).2.1 (T k).2.2.1 ∈ cb_TB) (hc0 : c0 < n) (ha : al c0 = a0) (hE : E c0 = .inr (ci, fs)) (hk : k < N) (hv : fs[k]? = some v) (d : decode cc pc = .ok (.getfield ix, 3))
    (kk : W p l e R s m args below meth c H locs cells slots Q (F0 m (pc + 3) ls (v :: st))) : W p l e R s m args below meth c H locs cells slots Q (F0 m pc ls (.ref a0 :: st)) := by
  subst ha
  exact kb_get X hZ hC hk hw hc0 hE hv d kk
theorem kf_new (X : kb_X own cc nL p s m meth c g A) (hZ : kb_S g A s al E n H locs) {ci ix : Nat} {C : String} {T : u_T} {N : Nat} {ty : Nat → FieldType} (hC : cb_C ci C T N ty) (hw : Cond.classLink own ix C ∈ cb_TB) (hw2 : Cond.instantiable C N ∈ cb_TB) (hw3 : Cond.initialized C ∈ cb_TB) (fs : List Value) (hfs : ∀ j, j < N → defaultValue (ty j) = vp_V fs j) (hce : cells + 1 ≤ R.cells) (hsl : slots + N ≤ R.slots) (d : decode cc pc = .ok (.new ix, 3))
    (kk : ∀ (al1 : Nat → Nat) (E1 : Nat → va_E) (H1 : Heap), (∀ i, i < n → al1 i = al i) → (∀ i, i < n → E1 i = E i) → E1 n = .inr (ci, fs) → kb_S g A s al1 E1 (n + 1) H1 locs → W p l e R s m args below meth c H1 locs (cells + 1) (slots + N) Q (F0 m (pc + 3) ls (.ref (al1 n) :: st))) : W p l e R s m args below meth c H locs cells slots Q (F0 m pc ls st) := by
  refine kb_new X hZ hC hw hw2 hw3 hfs hce hsl d (fun q H1 hZ1 => ?_)
  have := kk _ _ H1 (fun i hi => up_ne (by omega)) (fun i hi => up_ne (by omega)) (up_eq _ _ _) hZ1
  rw [up_eq] at this
  exact this
theorem kf_Q (X : kb_X own cc nL p s m meth c g A) (hZ : kb_S g A s al E n H locs) {ci ix c0 a0 : Nat} {C : String} {T : u_T} {N : Nat} {ty : Nat → FieldType} {fs : List Value} (hC : cb_C ci C T N ty) (k : Nat) {v : Int32} {iy : Nat} (B : Nat) (hcl : Cond.classLink own iy "CauseBook$Model" ∈ cb_TB) (hw : Cond.fieldLink own ix (T k).1 (T k).2.1 (T k).2.2.1 ∈ cb_TB) (hc0 : c0 < n) (ha : al c0 = a0) (hE : E c0 = .inr (ci, fs)) (hk : k < N) (hfin : (T k).2.2.2 = true) (hdecl : (T k).1 = own) (hd : parseFieldDescriptor (T k).2.2.1 = some (.array (.object "CauseBook$Model"))) (hl : k < fs.length) (hv : v.toNatClampNeg = B) (hv0 : ¬ v < 0) (hby : B * 4 ≤ 536870912) (hce : cells + 1 ≤ R.cells) (hsl : slots + B ≤ R.slots) (d1 : decode cc pc = .ok (.anewarray iy, 3)) (d2 : decode cc (pc + 3) = .ok (.putfield ix, 3))
    (kk : ∀ (al1 : Nat → Nat) (E1 : Nat → va_E) (H1 : Heap) (locs1 : List Loc), (∀ i, i < n → al1 i = al i) → (∀ i, i < n → i ≠ c0 → E1 i = E i) → E1 n = .inl (g.2.1.2.2.2, B, .inr (.inr (.inr (.inr (fun _ => none))))) → E1 c0 = .inr (ci, fs.set k (.ref (al1 n))) → kb_S g A s al1 E1 (n + 1) H1 locs1 → W p l e R s m args below meth c H1 locs1 (cells + 1) (slots + B) Q (F0 m (pc + 6) ls st)) : W p l e R s m args below meth c H locs cells slots Q (F0 m pc ls (.int v :: .ref a0 :: st)) := by
  subst ha
  refine kb_newq X hZ B hcl hv hv0 hby hce hsl d1 (fun q H1 hZ1 => ?_)
  have e1 : al c0 = va_up al n q c0 := (up_ne (by omega)).symm
  rw [e1]
  refine kb_put X hZ1 (k := k) hC hk hw (by omega) (fs := fs) (by rw [up_ne (by omega)]; exact hE) hfin hdecl hd rfl rfl hl d2 (fun H2 locs2 hZ2 => ?_)
  refine kk _ _ H2 locs2 (fun i hi => up_ne (by omega)) (fun i hi hne => ?_) ?_ ?_ hZ2
  · rw [up_ne hne, up_ne (by omega)]
  · rw [up_ne (by omega), up_eq]
  · rw [up_eq, up_eq]
theorem kf_aast (X : kb_X own cc nL p s m meth c g A) (hZ : kb_S g A s al E n H locs) {c0 c1 a0 N : Nat} {fs : List Value} {f : Nat → Option Nat} {i : Int32} (hc0 : c0 < n) (hc1 : c1 < n) (ha : al c0 = a0) (hE0 : E c0 = .inl (g.2.1.2.2.2, N, .inr (.inr (.inr (.inr f))))) (hE1 : E c1 = .inr (5, fs)) (hi : vp_in i N) (d : decode cc pc = .ok (.aastore, 1))
    (kk : ∀ (E1 : Nat → va_E) (H1 : Heap) (locs1 : List Loc), (∀ k, k ≠ c0 → E1 k = E k) → E1 c0 = .inl (g.2.1.2.2.2, N, .inr (.inr (.inr (.inr (va_up f i.toNatClampNeg (some (al c1))))))) → kb_S g A s al E1 n H1 locs1 → W p l e R s m args below meth c H1 locs1 cells slots Q (F0 m (pc + 1) ls st)) : W p l e R s m args below meth c H locs cells slots Q (F0 m pc ls (.ref (al c1) :: .int i :: .ref a0 :: st)) := by
  subst ha
  exact kb_aast X hZ hc0 hc1 hE0 hE1 hi d (fun H2 locs2 hZ2 => kk _ H2 locs2 (fun i hne => up_ne hne) (up_eq _ _ _) hZ2)
theorem kf_iast (X : kb_X own cc nL p s m meth c g A) (hZ : kb_S g A s al E n H locs) {c0 a0 N : Nat} {f : Nat → Int32} {i x : Int32} (hc0 : c0 < n) (ha : al c0 = a0) (hE0 : E c0 = .inl (g.2.1.1, N, .inl f)) (hi : vp_in i N) (d : decode cc pc = .ok (.iastore, 1))
    (kk : ∀ (E1 : Nat → va_E) (H1 : Heap) (locs1 : List Loc) (f1 : Nat → Int32), (∀ k, k ≠ c0 → E1 k = E k) → E1 c0 = .inl (g.2.1.1, N, .inl f1) → (∀ j, f1 j = if j = i.toNatClampNeg then x else f j) → kb_S g A s al E1 n H1 locs1 → W p l e R s m args below meth c H1 locs1 cells slots Q (F0 m (pc + 1) ls st)) : W p l e R s m args below meth c H locs cells slots Q (F0 m pc ls (.int x :: .int i :: .ref a0 :: st)) := by
  subst ha
  exact kb_iast X hZ hc0 hE0 hi d (fun H2 locs2 f1 hf hZ2 => kk _ H2 locs2 f1 (fun i hne => up_ne hne) (up_eq _ _ _) hf hZ2)
end KON2
