/-! a constructor's contract, and how it is called -/
abbrev kb_V : Type := (Nat → Nat) × (Nat → va_E)
def kb_U (g : cb_G) (al : Nat → Nat) (E : Nat → va_E) (n sz : Nat) (U : State) : Prop := U.heap.size = sz ∧ va_P g.1 cb_cl (kb_w al E n) U.heap ∧ cb_K g U ∧ va_D (fun _ => True) (kb_w al E n) ∧ cb_Ws U ∧ va_AO "CauseBook$Model" U ∧ kb_Z g (va_A (kb_w al E n) sz) U U.heap
def Kon (y : Mi) (mc ms n n' : Nat) (as : (Nat → Nat) → List Value) (Pre : cb_G → (Nat → Nat) → (Nat → va_E) → Prop) (Post : cb_G → (Nat → Nat) → (Nat → va_E) → (Nat → Nat) → (Nat → va_E) → Prop) : Prop :=
  ∀ (l : Launch) (g : cb_G) (al : Nat → Nat) (E : Nat → va_E) (sz : Nat), Pre g al E → Met l y.1 [.code y.1 y.2.1 y.2.2.1 y.2.2.2.1] ({ frames := y.2.2.2.2.1, cells := mc, slots := ms, locals := y.2.2.2.2.2 } : Room) (va_Pc (as al) (kb_U g al E n sz)) (va_Qv (fun u : kb_V => (∀ k, k < n → u.1 k = al k) ∧ Post g al E u.1 u.2) (fun u t => va_P g.1 cb_cl (kb_w u.1 u.2 n') t.heap ∧ va_D (va_A (kb_w al E n) sz) (kb_w u.1 u.2 n')) (va_A (kb_w al E n) sz)) mc ms (va_A (kb_w al E n) sz)
theorem cb_Ws.call {U : State} (h : cb_Ws U) (gf : JFrame) (mk : MethodId) (a : Array Value) : cb_Ws (U.calling gf mk a) := by
  intro w hw a'
  have h1 := h w hw #[]
  obtain ⟨-, hk⟩ := List.mem_filter.mp hw
  by_cases hg : w.onTables = true
  · exact va_tabs (u := U) (U := U.calling gf mk a) hg rfl h1
  · cases w <;> first | exact h1 | exact absurd rfl hg | (simp [cb_ok, goodWord, hg] at hk)
theorem kb_U.blind (g : cb_G) (al : Nat → Nat) (E : Nat → va_E) (n sz : Nat) (as : List Value) : FrameBlind (va_Pc as (kb_U g al E n sz)) := by
  intro a U gf mk h
  obtain ⟨q0, q1, q2, q3, q4, q5, q6, q7⟩ := h
  exact ⟨q0, q1, q2, va_K.moved (u := U) (U := U.calling gf mk a) (Vm.Alike.refl U.vm) q3, q4, q5.call gf mk a, va_AO.moved (u := U) (U := U.calling gf mk a) (Vm.Alike.refl U.vm) q6, va_Z.moved (u := U) (U := U.calling gf mk a) (Vm.Alike.refl U.vm) q7.1, va_T.moved (u := U) (U := U.calling gf mk a) (Vm.Alike.refl U.vm) q7.2⟩
theorem kb_sub {A : Nat → Prop} {al : Nat → Nat} {E : Nat → va_E} {n : Nat} {H0 H : Heap} {locs : List Loc} (hD : va_D A (kb_w al E n)) (hS : va_S A H0 H locs) (hA : ∀ q, H0.size ≤ q → A q) : ∀ q, va_A (kb_w al E n) H.size q → A q := by
  intro q h
  rcases h with ⟨k, x, h⟩ | h
  · exact hD.2 k (q, x) h
  · exact hA q (Nat.le_trans hS.1 h)
theorem kb_U.at {own : String} {cc : ByteArray} {nL : Nat} {p : Program} {s U : State} {m : MethodId} {meth : Method} {c : Code} {g : cb_G} {A : Nat → Prop} {al : Nat → Nat} {E : Nat → va_E} {n : Nat} {H : Heap} {locs : List Loc} (X : kb_X own cc nL p s m meth c g A) (hZ : kb_S g A s al E n H locs) (hU : U.heap = H) (hw : s.WarmedH U.vm) : kb_U g al E n H.size U := by
  obtain ⟨hx, hb, hml, hown, hWs, hK, hAO, hA, hin, hZs⟩ := X
  obtain ⟨hP, hD, hS⟩ := hZ
  subst hU
  have hsub := kb_sub hD hS hA
  exact ⟨rfl, hP, va_K.moved hw.alike hK, hD.weaken (fun _ _ _ _ => trivial), hWs.moved hw, va_AO.moved hw.alike hAO, va_Z.narrow (va_Z.moved hw.alike (hZs.1.kept hS.2.1)) hsub, va_T.narrow (va_T.moved hw.alike (hZs.2.kept hS.2.1)) hsub⟩
section KCL
variable {p : Program} {l : Launch} {e : Env} {R : Room} {s : State} {m : MethodId} {args : Array Value} {below : List Frame} {meth : Method} {c : Code} {cells slots : Nat} {Q : State → Prop} {H : Heap} {locs : List Loc} {ls : Array Slot} {own : String} {cc : ByteArray} {nL : Nat} {g : cb_G} {A : Nat → Prop} {al : Nat → Nat} {E : Nat → va_E} {n n' pc : Nat} {st : List Value}
theorem kb_go {mc ms : Nat} {a : Array Value} {st0 : List Value} {Po : (Nat → Nat) → (Nat → va_E) → Prop} (hA : ∀ q, s.heap.size ≤ q → A q) (hZ : kb_S g A s al E n H locs) (hr : va_Run p l e R s m args below meth c H locs cells slots mc ms (F0 m pc ls st0) st (va_Qv (fun u : kb_V => (∀ k, k < n → u.1 k = al k) ∧ Po u.1 u.2) (fun u t => va_P g.1 cb_cl (kb_w u.1 u.2 n') t.heap ∧ va_D (va_A (kb_w al E n) H.size) (kb_w u.1 u.2 n')) (va_A (kb_w al E n) H.size) a) (va_A (kb_w al E n) H.size))
    (kk : ∀ (al' : Nat → Nat) (E' : Nat → va_E) (H1 : Heap) (locs1 : List Loc), (∀ k, k < n → al' k = al k) → Po al' E' → kb_S g A s al' E' n' H1 locs1 → W p l e R s m args below meth c H1 locs1 (cells + mc) (slots + ms) Q (F0 m (pc + 3) ls st)) : W p l e R s m args below meth c H locs cells slots Q (F0 m pc ls st0) := by
  have hsub := kb_sub hZ.2.1 hZ.2.2 hA
  refine va_callv hr hZ.2.2 (fun q _ h => hsub q h) (fun q h => hsub q h) (fun u t H1 locs1 ht hvm hp hB hz hk hS1 => ?_)
  rw [ht] at hB
  exact kk u.1 u.2 H1 locs1 hp.1 hp.2 ⟨hB.1, hB.2.weaken (fun _ q _ h => hsub q.1 h), hS1⟩
/-- what the tables say of a constructor -/
def kb_Y (y : Mi) (a : Nat) : Prop := Cond.instanceMethod y.1 ∈ cb_TB ∧ Cond.initialized y.1.cls ∈ cb_TB ∧ Cond.code y.1 y.2.1 y.2.2.1 none ∈ cb_TB ∧ (y.1.cls ≠ "java/lang/invoke/MethodHandle" ∧ y.1.cls ≠ "java/lang/invoke/VarHandle") ∧ (parseMethodDescriptor y.1.desc).map (fun d => d.parameters.length) = some a ∧ y.1.name = "<init>" ∧ y.2.2.2.1 = none
theorem kb_Y.len {y : Mi} {a : Nat} (h : kb_Y y a) : ∀ sig, parseMethodDescriptor y.1.desc = some sig → a = sig.parameters.length := by
  intro sig hs
  have := h.2.2.2.2.1
  rw [hs] at this
  exact (Option.some.inj this).symm
theorem kb_callN (X : kb_X own cc nL p s m meth c g A) (hZ : kb_S g A s al E n H locs) {y : Mi} {mc ms ix b0 : Nat} {host : String} {as : (Nat → Nat) → List Value} {As : List Value} {Pre : cb_G → (Nat → Nat) → (Nat → va_E) → Prop} {Post : cb_G → (Nat → Nat) → (Nat → va_E) → (Nat → Nat) → (Nat → va_E) → Prop} (hK : Kon y mc ms n n' as Pre Post) (hY : kb_Y y As.length) (has : as al = .ref b0 :: As) (hw : Cond.methodLinkNest own ix y.1 host ∈ cb_TB) (hfr : y.2.2.2.2.1 + 1 ≤ R.frames) (hlo : 8 + (y.2.2.1 + 11) + y.2.2.2.2.2 ≤ R.locals) (hce : cells + mc ≤ R.cells) (hsl : slots + ms ≤ R.slots) (hls : ls.size = nL) (hst : (st.map fun v => v.category).sum ≤ 8) (d : decode cc pc = .ok (.invokespecial ix, 3)) (hpre : Pre g al E)
    (kk : ∀ (al' : Nat → Nat) (E' : Nat → va_E) (H1 : Heap) (locs1 : List Loc), (∀ k, k < n → al' k = al k) → Post g al E al' E' → kb_S g A s al' E' n' H1 locs1 → W p l e R s m args below meth c H1 locs1 (cells + mc) (slots + ms) Q (F0 m (pc + 3) ls st)) : W p l e R s m args below meth c H locs cells slots Q (F0 m pc ls (As.reverse ++ .ref b0 :: st)) := by
  have X0 := X
  obtain ⟨hx, hb, hml, hown, hWs, hKn, hAO, hA, hin, hZs⟩ := X
  have hts : ∀ w ∈ cb_TB, w.before args s = true := fun w hw => hWs w hw args
  have hB : ∀ w ∈ [Cond.code y.1 y.2.1 y.2.2.1 none], ∀ (a' : Array Value) (U : State), s.WarmedH U.vm → w.before a' U = true := fun w hw9 a' U hW9 => (hWs.moved hW9) w (by rw [List.mem_singleton.mp hw9]; exact hY.2.2.1) a'
  have hM := hK l g al E H.size hpre
  rw [hY.2.2.2.2.2.2] at hM
  exact kb_go hA hZ (va_runIN (b := b0) (As := As) (rest := st) (rm := { frames := y.2.2.2.2.1, cells := mc, slots := ms, locals := y.2.2.2.2.2 }) ⟨hx, hb, hml, hown, hts⟩ hM ⟨⟨⟨rfl, rfl, hfr, hlo, hB, List.mem_cons_self⟩, hts _ hY.2.2.1, hts _ hY.2.1, hY.2.2.2.1, fun sig hs => hY.len sig hs, hts _ hw⟩, hY.2.2.2.2.2.1, hts _ hY.1⟩ ⟨kb_U.blind g al E n H.size _, fun U hU hW => ⟨by rw [has], kb_U.at X0 hZ hU hW⟩⟩ rfl rfl hls rfl (lv_room hst) d ⟨hce, hsl⟩) kk
theorem kb_callP (X : kb_X own cc nL p s m meth c g A) (hZ : kb_S g A s al E n H locs) {y : Mi} {mc ms ix b0 : Nat} {as : (Nat → Nat) → List Value} {As : List Value} {Pre : cb_G → (Nat → Nat) → (Nat → va_E) → Prop} {Post : cb_G → (Nat → Nat) → (Nat → va_E) → (Nat → Nat) → (Nat → va_E) → Prop} (hK : Kon y mc ms n n' as Pre Post) (hY : kb_Y y As.length) (has : as al = .ref b0 :: As) (hw : Cond.methodLink own ix y.1 ∈ cb_TB) (hfr : y.2.2.2.2.1 + 1 ≤ R.frames) (hlo : 8 + (y.2.2.1 + 11) + y.2.2.2.2.2 ≤ R.locals) (hce : cells + mc ≤ R.cells) (hsl : slots + ms ≤ R.slots) (hls : ls.size = nL) (hst : (st.map fun v => v.category).sum ≤ 8) (d : decode cc pc = .ok (.invokespecial ix, 3)) (hpre : Pre g al E)
    (kk : ∀ (al' : Nat → Nat) (E' : Nat → va_E) (H1 : Heap) (locs1 : List Loc), (∀ k, k < n → al' k = al k) → Post g al E al' E' → kb_S g A s al' E' n' H1 locs1 → W p l e R s m args below meth c H1 locs1 (cells + mc) (slots + ms) Q (F0 m (pc + 3) ls st)) : W p l e R s m args below meth c H locs cells slots Q (F0 m pc ls (As.reverse ++ .ref b0 :: st)) := by
  have X0 := X
  obtain ⟨hx, hb, hml, hown, hWs, hKn, hAO, hA, hin, hZs⟩ := X
  have hts : ∀ w ∈ cb_TB, w.before args s = true := fun w hw => hWs w hw args
  have hB : ∀ w ∈ [Cond.code y.1 y.2.1 y.2.2.1 none], ∀ (a' : Array Value) (U : State), s.WarmedH U.vm → w.before a' U = true := fun w hw9 a' U hW9 => (hWs.moved hW9) w (by rw [List.mem_singleton.mp hw9]; exact hY.2.2.1) a'
  have hM := hK l g al E H.size hpre
  rw [hY.2.2.2.2.2.2] at hM
  exact kb_go hA hZ (va_runI (b := b0) (As := As) (rest := st) (rm := { frames := y.2.2.2.2.1, cells := mc, slots := ms, locals := y.2.2.2.2.2 }) ⟨hx, hb, hml, hown, hts⟩ hM ⟨⟨rfl, rfl, hfr, hlo, hB, List.mem_cons_self, hts _ hY.2.2.1, hts _ hY.2.1, hY.2.2.2.1, fun sig hs => hY.len sig hs, hts _ hw⟩, hY.2.2.2.2.2.1, hts _ hY.1⟩ ⟨kb_U.blind g al E n H.size _, fun U hU hW => ⟨by rw [has], kb_U.at X0 hZ hU hW⟩⟩ rfl rfl hls rfl (lv_room hst) d ⟨hce, hsl⟩) kk
end KCL
/-- a contract out of a walk -/
theorem Kon.of {y : Mi} {mc ms n n' : Nat} {as : (Nat → Nat) → List Value} {Pre : cb_G → (Nat → Nat) → (Nat → va_E) → Prop} {Post : cb_G → (Nat → Nat) → (Nat → va_E) → (Nat → Nat) → (Nat → va_E) → Prop} (hp : plainName y.1.cls = true) (hr : y.2.2.2.1 = none) (hnm : y.1.name = "<init>") (hlen : ∀ al, (lg_sl (as al)).length ≤ y.2.2.1)
    (hb : ∀ (p : Program) (l : Launch) (e : Env) (R : Room) (s : State) (m : MethodId) (args : Array Value) (below : List Frame) (meth : Method) (c : Code) (Q : State → Prop) (g : cb_G) (A : Nat → Prop) (al : Nat → Nat) (E : Nat → va_E), kb_X y.1.cls y.2.1 y.2.2.1 p s m meth c g A → y.2.2.2.2.1 ≤ R.frames → y.2.2.2.2.2 ≤ R.locals → mc ≤ R.cells → ms ≤ R.slots → Pre g al E →
      (∀ (al' : Nat → Nat) (E' : Nat → va_E) (H : Heap) (locs : List Loc) (ls : Array Slot) (pc : Nat), decode y.2.1 pc = .ok (.return_, 1) → (∀ k, k < n → al' k = al k) → Post g al E al' E' → kb_S g A s al' E' n' H locs → W p l e R s m args below meth c H locs mc ms Q (F0 m pc ls [])) →
      ∀ (H : Heap) (ls : Array Slot), kb_S g A s al E n H [] → lv_has ls y.2.2.1 (lv_args 0 (as al)) → W p l e R s m args below meth c H [] 0 0 Q (F0 m 0 ls [])) : Kon y mc ms n n' as Pre Post := by
  intro l g al E sz hpre
  obtain ⟨y, cc, nL, ret, fr, lo⟩ := y
  dsimp only at hp hr hlen hb hnm ⊢
  subst hr
  refine Met.ofW (cc := cc) (maxL := nL) (ret := none) hp rfl ?_
  intro p e s m args below meth c s₁ B hml hv
  obtain ⟨rfl, hsz, hP, hK, hD0, hWs, hAO, hZs⟩ := hv
  have hown : s.vm.findClass y.cls = some m.cls := findClass_of_methodNamed B.named
  have hlocks := B.notSynchronized
  have hret := B.returns
  have hin : meth.name = "<init>" := ((name_of_methodNamed B.named B.method).1).trans hnm
  subst hsz
  have hl := lv_entry (as al) (n := nL) (hlen al)
  rw [lg_entry_eq]
  refine hb p l e _ s m _ below meth c _ g (va_A (kb_w al E n) s.heap.size) al E ⟨B.exec, B.bytes, hml, hown, hWs, hK, hAO, fun q h => Or.inr h, hin, hZs⟩ (Nat.le_refl _) (Nat.le_refl _) (Nat.le_refl _) (Nat.le_refl _) hpre ?_ s.heap _ ⟨hP, hD0.self, va_S.rf⟩ hl
  intro al' E' H locs ls pc hdg h1 h2 hZ
  exact W.vret B.exec B.bytes hret (fun t ht hW => ⟨⟨(al', E'), rfl, ⟨h1, h2⟩, by rw [ht]; exact hZ.1, hZ.2.1⟩, hZ.2.2.F ht⟩) hZ.2.2.2.2 hdg
