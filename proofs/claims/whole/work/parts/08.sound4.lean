/-- what the tables say of a method that is called -/
def cb_Y0 (y : Mi) (a : Nat) : Prop := Cond.initialized y.1.cls ∈ cb_TB ∧ Cond.code y.1 y.2.1 y.2.2.1 y.2.2.2.1 ∈ cb_TB ∧ (y.1.cls ≠ "java/lang/invoke/MethodHandle" ∧ y.1.cls ≠ "java/lang/invoke/VarHandle") ∧ (parseMethodDescriptor y.1.desc).map (fun d => d.parameters.length) = some a
def cb_YV (y : Mi) (C : String) (a : Nat) : Prop := Cond.instanceMethod y.1 ∈ cb_TB ∧ Cond.selects C y.1 y.1 ∈ cb_TB ∧ cb_Y0 y a
def cb_YS (y : Mi) (a : Nat) : Prop := Cond.static y.1 ∈ cb_TB ∧ cb_Y0 y a
theorem cb_Y0.len {y : Mi} {a : Nat} (h : cb_Y0 y a) : ∀ sig, parseMethodDescriptor y.1.desc = some sig → a = sig.parameters.length := by
  intro sig hs
  have := h.2.2.2
  rw [hs] at this
  exact (Option.some.inj this).symm
section CGO
variable {p : Program} {l : Launch} {e : Env} {R : Room} {s : State} {m : MethodId} {args : Array Value} {below : List Frame} {meth : Method} {c : Code} {H : Heap} {locs : List Loc} {cells slots : Nat} {Q : State → Prop} {pc : Nat} {ls : Array Slot} {rest st0 : List Value} {a : Array Value} {A : Nat → Prop} {g : cb_G} {M' : Mem}
theorem cb_sub (hA : ∀ k, k < 158 → A (cb_al g k)) : ∀ q, cb_A g q → A q := fun q ⟨k, hk, e⟩ => e ▸ hA k hk
theorem cb_goI {Q9 : Option Vl → Mem → Prop} (hr : va_Run p l e R s m args below meth c H locs cells slots 0 0 (F0 m pc ls st0) rest (va_Qi (fun r (u : Int × Mem) => r = Int32.ofInt u.1 ∧ Q9 (some (vI u.1)) u.2) (fun u t => cb_P g u.2 t.heap) (cb_A g) a) (cb_A g)) (hS : va_S A s.heap H locs) (hA : ∀ k, k < 158 → A (cb_al g k))
    (kk : ∀ (z : Int) (M' : Mem) (H1 : Heap) (locs1 : List Loc), Q9 (some (vI z)) M' → cb_P g M' H1 → va_S A s.heap H1 locs1 → W p l e R s m args below meth c H1 locs1 cells slots Q (F0 m (pc + 3) ls (.int (Int32.ofInt z) :: rest))) : W p l e R s m args below meth c H locs cells slots Q (F0 m pc ls st0) := by
  refine va_calli (a := a) (A1 := cb_A g) (A0 := A) hr hS (fun q _ h => cb_sub hA q h) (fun q h => cb_sub hA q h) (fun r u t H1 locs1 ht hvm hp hB hz hk hS1 => ?_)
  rw [hp.1]
  exact kk u.1 u.2 H1 locs1 hp.2 (by rw [← ht]; exact hB) hS1
theorem cb_goL {Q9 : Option Vl → Mem → Prop} (hr : va_Run p l e R s m args below meth c H locs cells slots 0 0 (F0 m pc ls st0) rest (va_Ql (fun r (u : Int × Mem) => r = Int64.ofInt u.1 ∧ Q9 (some (vL u.1)) u.2) (fun u t => cb_P g u.2 t.heap) (cb_A g) a) (cb_A g)) (hS : va_S A s.heap H locs) (hA : ∀ k, k < 158 → A (cb_al g k))
    (kk : ∀ (z : Int) (M' : Mem) (H1 : Heap) (locs1 : List Loc), Q9 (some (vL z)) M' → cb_P g M' H1 → va_S A s.heap H1 locs1 → W p l e R s m args below meth c H1 locs1 cells slots Q (F0 m (pc + 3) ls (.long (Int64.ofInt z) :: rest))) : W p l e R s m args below meth c H locs cells slots Q (F0 m pc ls st0) := by
  refine va_calll (a := a) (A1 := cb_A g) (A0 := A) hr hS (fun q _ h => cb_sub hA q h) (fun q h => cb_sub hA q h) (fun r u t H1 locs1 ht hvm hp hB hz hk hS1 => ?_)
  rw [hp.1]
  exact kk u.1 u.2 H1 locs1 hp.2 (by rw [← ht]; exact hB) hS1
theorem cb_goV {Q9 : Option Vl → Mem → Prop} (hr : va_Run p l e R s m args below meth c H locs cells slots 0 0 (F0 m pc ls st0) rest (va_Qv (fun u : Mem => Q9 none u) (fun u t => cb_P g u t.heap) (cb_A g) a) (cb_A g)) (hS : va_S A s.heap H locs) (hA : ∀ k, k < 158 → A (cb_al g k))
    (kk : ∀ (M' : Mem) (H1 : Heap) (locs1 : List Loc), Q9 none M' → cb_P g M' H1 → va_S A s.heap H1 locs1 → W p l e R s m args below meth c H1 locs1 cells slots Q (F0 m (pc + 3) ls rest)) : W p l e R s m args below meth c H locs cells slots Q (F0 m pc ls st0) := by
  refine va_callv (a := a) (A1 := cb_A g) (A0 := A) hr hS (fun q _ h => cb_sub hA q h) (fun q h => cb_sub hA q h) (fun u t H1 locs1 ht hvm hp hB hz hk hS1 => ?_)
  exact kk u H1 locs1 hp (by rw [← ht]; exact hB) hS1
end CGO
section SND
variable {own : String} {cc : ByteArray} {nL rk fr lo pc : Nat}
theorem so_vI {y : Mi} {ci ix a : Nat} {C : String} {T : u_T} {N : Nat} (hq : ∀ g Q9, cb_Q g y.2.2.2.1 Q9 = va_Qi (fun r (u : Int × Mem) => r = Int32.ofInt u.1 ∧ Q9 (some (vI u.1)) u.2) (fun u t => cb_P g u.2 t.heap) (cb_A g)) (hc : cb_cl[ci]? = some (C, T, N)) (hY : cb_YV y C a) (hw : Cond.methodLink own ix y.1 ∈ cb_TB) (hfr : y.2.2.2.2.1 + 1 ≤ fr) (hlo : 8 + (y.2.2.1 + 11) + y.2.2.2.2.2 ≤ lo) (d : decode cc pc = .ok (.invokevirtual ix, 3)) : SO (own, cc, nL, rk, fr, lo) pc (opVI y ci (pc + 3) a) := by
  intro E loc st M h0 p l e R s m args below meth c Qs A g cells slots X H locs ls hP hS hL
  obtain ⟨b, as, r, rfl, q1, q2, q3, q4⟩ := h0
  obtain ⟨hx, hb, hml, hown, hWs, hf, hl9, hce, hsl, hK, hJ, hA, hZ, hE⟩ := id X
  have hts : ∀ w ∈ cb_TB, w.before args s = true := fun w hw => hWs w hw args
  have hU : ∀ U : State, U.heap = H → s.WarmedH U.vm → va_Pc ((vR b :: as).map (cv (cb_al g))) (cb_U g M) (Value.ref (cb_al g b) :: as.map (cv (cb_al g))).toArray U := fun U hU hw9 => ⟨rfl, cb_U.at hP hK hJ hWs hA hZ hS hU hw9⟩
  have hB : ∀ w ∈ [Cond.code y.1 y.2.1 y.2.2.1 y.2.2.2.1], ∀ (a' : Array Value) (U : State), s.WarmedH U.vm → w.before a' U = true := fun w hw9 a' U hW9 => (hWs.moved hW9) w (by rw [List.mem_singleton.mp hw9]; exact hY.2.2.2.1) a'
  have hM := q4 l g
  rw [hq] at hM
  refine cb_goI (Q9 := fun v M' => ∃ z, v = some (vI z) ∧ Tri (own, cc, nL, rk, fr, lo) E (pc + 3) loc (vI z :: r) M') (va_runV (C := C) (b := cb_al g b) (rm := cb_rm y.2.2.2.2.1 y.2.2.2.2.2) (As := as.map (cv (cb_al g))) (rest := r.map (cv (cb_al g))) ⟨hx, hb, hml, hown, hts⟩ hM ⟨⟨rfl, rfl, Nat.le_trans hfr hf, Nat.le_trans hlo hl9, hB, List.mem_cons_self, hts _ hY.2.2.2.1, hts _ hY.2.2.1, hY.2.2.2.2.1, fun sig hs => q1.symm ▸ hY.2.2.len sig hs, hts _ hw⟩, hts _ hY.1, hts _ hY.2.1⟩ ⟨cb_U.blind g M _, va_recv hK hP hc (cb_w4 q2), hU⟩ rfl (List.length_map ..) hL.2.1 (by simp [F0, vR, cv]) (lv_room (by rw [cb_wd_cv]; exact q3)) d ⟨hce, hsl⟩) hS hA (fun z M' H1 locs1 h hP1 hS1 => ?_)
  obtain ⟨z', e9, h⟩ := h
  cases vI_inj (Option.some.inj e9)
  exact h p l e R s m args below meth c Qs A g cells slots X H1 locs1 ls hP1 hS1 hL
theorem so_sI {y : Mi} {ix a : Nat} (hq : ∀ g Q9, cb_Q g y.2.2.2.1 Q9 = va_Qi (fun r (u : Int × Mem) => r = Int32.ofInt u.1 ∧ Q9 (some (vI u.1)) u.2) (fun u t => cb_P g u.2 t.heap) (cb_A g)) (hY : cb_YS y a) (hw : Cond.methodLink own ix y.1 ∈ cb_TB) (hfr : y.2.2.2.2.1 + 1 ≤ fr) (hlo : 8 + (y.2.2.1 + 11) + y.2.2.2.2.2 ≤ lo) (d : decode cc pc = .ok (.invokestatic ix, 3)) : SO (own, cc, nL, rk, fr, lo) pc (opSI y (pc + 3) a) := by
  intro E loc st M h0 p l e R s m args below meth c Qs A g cells slots X H locs ls hP hS hL
  obtain ⟨as, r, rfl, q1, q3, q4⟩ := h0
  obtain ⟨hx, hb, hml, hown, hWs, hf, hl9, hce, hsl, hK, hJ, hA, hZ, hE⟩ := id X
  have hts : ∀ w ∈ cb_TB, w.before args s = true := fun w hw => hWs w hw args
  have hU : ∀ U : State, U.heap = H → s.WarmedH U.vm → va_Pc (as.map (cv (cb_al g))) (cb_U g M) (as.map (cv (cb_al g))).toArray U := fun U hU hw9 => ⟨rfl, cb_U.at hP hK hJ hWs hA hZ hS hU hw9⟩
  have hB : ∀ w ∈ [Cond.code y.1 y.2.1 y.2.2.1 y.2.2.2.1], ∀ (a' : Array Value) (U : State), s.WarmedH U.vm → w.before a' U = true := fun w hw9 a' U hW9 => (hWs.moved hW9) w (by rw [List.mem_singleton.mp hw9]; exact hY.2.2.1) a'
  have hM := q4 l g
  rw [hq] at hM
  refine cb_goI (Q9 := fun v M' => ∃ z, v = some (vI z) ∧ Tri (own, cc, nL, rk, fr, lo) E (pc + 3) loc (vI z :: r) M') (va_runS (rm := cb_rm y.2.2.2.2.1 y.2.2.2.2.2) (As := as.map (cv (cb_al g))) (rest := r.map (cv (cb_al g))) ⟨hx, hb, hml, hown, hts⟩ hM ⟨⟨rfl, rfl, Nat.le_trans hfr hf, Nat.le_trans hlo hl9, hB, List.mem_cons_self, hts _ hY.2.2.1, hts _ hY.2.1, hY.2.2.2.1, fun sig hs => q1.symm ▸ hY.2.len sig hs, hts _ hw⟩, hts _ hY.1⟩ ⟨cb_U.blind g M _, hU⟩ rfl (List.length_map ..) hL.2.1 (by simp [F0]) (lv_room (by rw [cb_wd_cv]; exact q3)) d ⟨hce, hsl⟩) hS hA (fun z M' H1 locs1 h hP1 hS1 => ?_)
  obtain ⟨z', e9, h⟩ := h
  cases vI_inj (Option.some.inj e9)
  exact h p l e R s m args below meth c Qs A g cells slots X H1 locs1 ls hP1 hS1 hL
theorem so_vL {y : Mi} {ci ix a : Nat} {C : String} {T : u_T} {N : Nat} (hq : ∀ g Q9, cb_Q g y.2.2.2.1 Q9 = va_Ql (fun r (u : Int × Mem) => r = Int64.ofInt u.1 ∧ Q9 (some (vL u.1)) u.2) (fun u t => cb_P g u.2 t.heap) (cb_A g)) (hc : cb_cl[ci]? = some (C, T, N)) (hY : cb_YV y C a) (hw : Cond.methodLink own ix y.1 ∈ cb_TB) (hfr : y.2.2.2.2.1 + 1 ≤ fr) (hlo : 8 + (y.2.2.1 + 11) + y.2.2.2.2.2 ≤ lo) (d : decode cc pc = .ok (.invokevirtual ix, 3)) : SO (own, cc, nL, rk, fr, lo) pc (opVL y ci (pc + 3) a) := by
  intro E loc st M h0 p l e R s m args below meth c Qs A g cells slots X H locs ls hP hS hL
  obtain ⟨b, as, r, rfl, q1, q2, q3, q4⟩ := h0
  obtain ⟨hx, hb, hml, hown, hWs, hf, hl9, hce, hsl, hK, hJ, hA, hZ, hE⟩ := id X
  have hts : ∀ w ∈ cb_TB, w.before args s = true := fun w hw => hWs w hw args
  have hU : ∀ U : State, U.heap = H → s.WarmedH U.vm → va_Pc ((vR b :: as).map (cv (cb_al g))) (cb_U g M) (Value.ref (cb_al g b) :: as.map (cv (cb_al g))).toArray U := fun U hU hw9 => ⟨rfl, cb_U.at hP hK hJ hWs hA hZ hS hU hw9⟩
  have hB : ∀ w ∈ [Cond.code y.1 y.2.1 y.2.2.1 y.2.2.2.1], ∀ (a' : Array Value) (U : State), s.WarmedH U.vm → w.before a' U = true := fun w hw9 a' U hW9 => (hWs.moved hW9) w (by rw [List.mem_singleton.mp hw9]; exact hY.2.2.2.1) a'
  have hM := q4 l g
  rw [hq] at hM
  refine cb_goL (Q9 := fun v M' => ∃ z, v = some (vL z) ∧ Tri (own, cc, nL, rk, fr, lo) E (pc + 3) loc (vL z :: r) M') (va_runV (C := C) (b := cb_al g b) (rm := cb_rm y.2.2.2.2.1 y.2.2.2.2.2) (As := as.map (cv (cb_al g))) (rest := r.map (cv (cb_al g))) ⟨hx, hb, hml, hown, hts⟩ hM ⟨⟨rfl, rfl, Nat.le_trans hfr hf, Nat.le_trans hlo hl9, hB, List.mem_cons_self, hts _ hY.2.2.2.1, hts _ hY.2.2.1, hY.2.2.2.2.1, fun sig hs => q1.symm ▸ hY.2.2.len sig hs, hts _ hw⟩, hts _ hY.1, hts _ hY.2.1⟩ ⟨cb_U.blind g M _, va_recv hK hP hc (cb_w4 q2), hU⟩ rfl (List.length_map ..) hL.2.1 (by simp [F0, vR, cv]) (lv_room (by rw [cb_wd_cv]; exact q3)) d ⟨hce, hsl⟩) hS hA (fun z M' H1 locs1 h hP1 hS1 => ?_)
  obtain ⟨z', e9, h⟩ := h
  cases vL_inj (Option.some.inj e9)
  exact h p l e R s m args below meth c Qs A g cells slots X H1 locs1 ls hP1 hS1 hL
theorem so_sL {y : Mi} {ix a : Nat} (hq : ∀ g Q9, cb_Q g y.2.2.2.1 Q9 = va_Ql (fun r (u : Int × Mem) => r = Int64.ofInt u.1 ∧ Q9 (some (vL u.1)) u.2) (fun u t => cb_P g u.2 t.heap) (cb_A g)) (hY : cb_YS y a) (hw : Cond.methodLink own ix y.1 ∈ cb_TB) (hfr : y.2.2.2.2.1 + 1 ≤ fr) (hlo : 8 + (y.2.2.1 + 11) + y.2.2.2.2.2 ≤ lo) (d : decode cc pc = .ok (.invokestatic ix, 3)) : SO (own, cc, nL, rk, fr, lo) pc (opSL y (pc + 3) a) := by
  intro E loc st M h0 p l e R s m args below meth c Qs A g cells slots X H locs ls hP hS hL
  obtain ⟨as, r, rfl, q1, q3, q4⟩ := h0
  obtain ⟨hx, hb, hml, hown, hWs, hf, hl9, hce, hsl, hK, hJ, hA, hZ, hE⟩ := id X
  have hts : ∀ w ∈ cb_TB, w.before args s = true := fun w hw => hWs w hw args
  have hU : ∀ U : State, U.heap = H → s.WarmedH U.vm → va_Pc (as.map (cv (cb_al g))) (cb_U g M) (as.map (cv (cb_al g))).toArray U := fun U hU hw9 => ⟨rfl, cb_U.at hP hK hJ hWs hA hZ hS hU hw9⟩
  have hB : ∀ w ∈ [Cond.code y.1 y.2.1 y.2.2.1 y.2.2.2.1], ∀ (a' : Array Value) (U : State), s.WarmedH U.vm → w.before a' U = true := fun w hw9 a' U hW9 => (hWs.moved hW9) w (by rw [List.mem_singleton.mp hw9]; exact hY.2.2.1) a'
  have hM := q4 l g
  rw [hq] at hM
  refine cb_goL (Q9 := fun v M' => ∃ z, v = some (vL z) ∧ Tri (own, cc, nL, rk, fr, lo) E (pc + 3) loc (vL z :: r) M') (va_runS (rm := cb_rm y.2.2.2.2.1 y.2.2.2.2.2) (As := as.map (cv (cb_al g))) (rest := r.map (cv (cb_al g))) ⟨hx, hb, hml, hown, hts⟩ hM ⟨⟨rfl, rfl, Nat.le_trans hfr hf, Nat.le_trans hlo hl9, hB, List.mem_cons_self, hts _ hY.2.2.1, hts _ hY.2.1, hY.2.2.2.1, fun sig hs => q1.symm ▸ hY.2.len sig hs, hts _ hw⟩, hts _ hY.1⟩ ⟨cb_U.blind g M _, hU⟩ rfl (List.length_map ..) hL.2.1 (by simp [F0]) (lv_room (by rw [cb_wd_cv]; exact q3)) d ⟨hce, hsl⟩) hS hA (fun z M' H1 locs1 h hP1 hS1 => ?_)
  obtain ⟨z', e9, h⟩ := h
  cases vL_inj (Option.some.inj e9)
  exact h p l e R s m args below meth c Qs A g cells slots X H1 locs1 ls hP1 hS1 hL
theorem so_vV {y : Mi} {ci ix a : Nat} {C : String} {T : u_T} {N : Nat} (hq : ∀ g Q9, cb_Q g y.2.2.2.1 Q9 = va_Qv (fun u : Mem => Q9 none u) (fun u t => cb_P g u t.heap) (cb_A g)) (hc : cb_cl[ci]? = some (C, T, N)) (hY : cb_YV y C a) (hw : Cond.methodLink own ix y.1 ∈ cb_TB) (hfr : y.2.2.2.2.1 + 1 ≤ fr) (hlo : 8 + (y.2.2.1 + 11) + y.2.2.2.2.2 ≤ lo) (d : decode cc pc = .ok (.invokevirtual ix, 3)) : SO (own, cc, nL, rk, fr, lo) pc (opVV y ci (pc + 3) a) := by
  intro E loc st M h0 p l e R s m args below meth c Qs A g cells slots X H locs ls hP hS hL
  obtain ⟨b, as, r, rfl, q1, q2, q3, q4⟩ := h0
  obtain ⟨hx, hb, hml, hown, hWs, hf, hl9, hce, hsl, hK, hJ, hA, hZ, hE⟩ := id X
  have hts : ∀ w ∈ cb_TB, w.before args s = true := fun w hw => hWs w hw args
  have hU : ∀ U : State, U.heap = H → s.WarmedH U.vm → va_Pc ((vR b :: as).map (cv (cb_al g))) (cb_U g M) (Value.ref (cb_al g b) :: as.map (cv (cb_al g))).toArray U := fun U hU hw9 => ⟨rfl, cb_U.at hP hK hJ hWs hA hZ hS hU hw9⟩
  have hB : ∀ w ∈ [Cond.code y.1 y.2.1 y.2.2.1 y.2.2.2.1], ∀ (a' : Array Value) (U : State), s.WarmedH U.vm → w.before a' U = true := fun w hw9 a' U hW9 => (hWs.moved hW9) w (by rw [List.mem_singleton.mp hw9]; exact hY.2.2.2.1) a'
  have hM := q4 l g
  rw [hq] at hM
  refine cb_goV (Q9 := fun v M' => v = none ∧ Tri (own, cc, nL, rk, fr, lo) E (pc + 3) loc r M') (va_runV (C := C) (b := cb_al g b) (rm := cb_rm y.2.2.2.2.1 y.2.2.2.2.2) (As := as.map (cv (cb_al g))) (rest := r.map (cv (cb_al g))) ⟨hx, hb, hml, hown, hts⟩ hM ⟨⟨rfl, rfl, Nat.le_trans hfr hf, Nat.le_trans hlo hl9, hB, List.mem_cons_self, hts _ hY.2.2.2.1, hts _ hY.2.2.1, hY.2.2.2.2.1, fun sig hs => q1.symm ▸ hY.2.2.len sig hs, hts _ hw⟩, hts _ hY.1, hts _ hY.2.1⟩ ⟨cb_U.blind g M _, va_recv hK hP hc (cb_w4 q2), hU⟩ rfl (List.length_map ..) hL.2.1 (by simp [F0, vR, cv]) (lv_room (by rw [cb_wd_cv]; exact q3)) d ⟨hce, hsl⟩) hS hA (fun M' H1 locs1 h hP1 hS1 => ?_)
  exact h.2 p l e R s m args below meth c Qs A g cells slots X H1 locs1 ls hP1 hS1 hL
theorem so_sV {y : Mi} {ix a : Nat} (hq : ∀ g Q9, cb_Q g y.2.2.2.1 Q9 = va_Qv (fun u : Mem => Q9 none u) (fun u t => cb_P g u t.heap) (cb_A g)) (hY : cb_YS y a) (hw : Cond.methodLink own ix y.1 ∈ cb_TB) (hfr : y.2.2.2.2.1 + 1 ≤ fr) (hlo : 8 + (y.2.2.1 + 11) + y.2.2.2.2.2 ≤ lo) (d : decode cc pc = .ok (.invokestatic ix, 3)) : SO (own, cc, nL, rk, fr, lo) pc (opSV y (pc + 3) a) := by
  intro E loc st M h0 p l e R s m args below meth c Qs A g cells slots X H locs ls hP hS hL
  obtain ⟨as, r, rfl, q1, q3, q4⟩ := h0
  obtain ⟨hx, hb, hml, hown, hWs, hf, hl9, hce, hsl, hK, hJ, hA, hZ, hE⟩ := id X
  have hts : ∀ w ∈ cb_TB, w.before args s = true := fun w hw => hWs w hw args
  have hU : ∀ U : State, U.heap = H → s.WarmedH U.vm → va_Pc (as.map (cv (cb_al g))) (cb_U g M) (as.map (cv (cb_al g))).toArray U := fun U hU hw9 => ⟨rfl, cb_U.at hP hK hJ hWs hA hZ hS hU hw9⟩
  have hB : ∀ w ∈ [Cond.code y.1 y.2.1 y.2.2.1 y.2.2.2.1], ∀ (a' : Array Value) (U : State), s.WarmedH U.vm → w.before a' U = true := fun w hw9 a' U hW9 => (hWs.moved hW9) w (by rw [List.mem_singleton.mp hw9]; exact hY.2.2.1) a'
  have hM := q4 l g
  rw [hq] at hM
  refine cb_goV (Q9 := fun v M' => v = none ∧ Tri (own, cc, nL, rk, fr, lo) E (pc + 3) loc r M') (va_runS (rm := cb_rm y.2.2.2.2.1 y.2.2.2.2.2) (As := as.map (cv (cb_al g))) (rest := r.map (cv (cb_al g))) ⟨hx, hb, hml, hown, hts⟩ hM ⟨⟨rfl, rfl, Nat.le_trans hfr hf, Nat.le_trans hlo hl9, hB, List.mem_cons_self, hts _ hY.2.2.1, hts _ hY.2.1, hY.2.2.2.1, fun sig hs => q1.symm ▸ hY.2.len sig hs, hts _ hw⟩, hts _ hY.1⟩ ⟨cb_U.blind g M _, hU⟩ rfl (List.length_map ..) hL.2.1 (by simp [F0]) (lv_room (by rw [cb_wd_cv]; exact q3)) d ⟨hce, hsl⟩) hS hA (fun M' H1 locs1 h hP1 hS1 => ?_)
  exact h.2 p l e R s m args below meth c Qs A g cells slots X H1 locs1 ls hP1 hS1 hL
theorem so_vIN {y : Mi} {ci ix a : Nat} {host : String} {C : String} {T : u_T} {N : Nat} (hq : ∀ g Q9, cb_Q g y.2.2.2.1 Q9 = va_Qi (fun r (u : Int × Mem) => r = Int32.ofInt u.1 ∧ Q9 (some (vI u.1)) u.2) (fun u t => cb_P g u.2 t.heap) (cb_A g)) (hc : cb_cl[ci]? = some (C, T, N)) (hY : cb_YV y C a) (hw : Cond.methodLinkNest own ix y.1 host ∈ cb_TB) (hfr : y.2.2.2.2.1 + 1 ≤ fr) (hlo : 8 + (y.2.2.1 + 11) + y.2.2.2.2.2 ≤ lo) (d : decode cc pc = .ok (.invokevirtual ix, 3)) : SO (own, cc, nL, rk, fr, lo) pc (opVI y ci (pc + 3) a) := by
  intro E loc st M h0 p l e R s m args below meth c Qs A g cells slots X H locs ls hP hS hL
  obtain ⟨b, as, r, rfl, q1, q2, q3, q4⟩ := h0
  obtain ⟨hx, hb, hml, hown, hWs, hf, hl9, hce, hsl, hK, hJ, hA, hZ, hE⟩ := id X
  have hts : ∀ w ∈ cb_TB, w.before args s = true := fun w hw => hWs w hw args
  have hU : ∀ U : State, U.heap = H → s.WarmedH U.vm → va_Pc ((vR b :: as).map (cv (cb_al g))) (cb_U g M) (Value.ref (cb_al g b) :: as.map (cv (cb_al g))).toArray U := fun U hU hw9 => ⟨rfl, cb_U.at hP hK hJ hWs hA hZ hS hU hw9⟩
  have hB : ∀ w ∈ [Cond.code y.1 y.2.1 y.2.2.1 y.2.2.2.1], ∀ (a' : Array Value) (U : State), s.WarmedH U.vm → w.before a' U = true := fun w hw9 a' U hW9 => (hWs.moved hW9) w (by rw [List.mem_singleton.mp hw9]; exact hY.2.2.2.1) a'
  have hM := q4 l g
  rw [hq] at hM
  refine cb_goI (Q9 := fun v M' => ∃ z, v = some (vI z) ∧ Tri (own, cc, nL, rk, fr, lo) E (pc + 3) loc (vI z :: r) M') (va_runVN (C := C) (b := cb_al g b) (rm := cb_rm y.2.2.2.2.1 y.2.2.2.2.2) (As := as.map (cv (cb_al g))) (rest := r.map (cv (cb_al g))) ⟨hx, hb, hml, hown, hts⟩ hM ⟨⟨⟨rfl, rfl, Nat.le_trans hfr hf, Nat.le_trans hlo hl9, hB, List.mem_cons_self⟩, hts _ hY.2.2.2.1, hts _ hY.2.2.1, hY.2.2.2.2.1, fun sig hs => q1.symm ▸ hY.2.2.len sig hs, hts _ hw⟩, hts _ hY.1, hts _ hY.2.1⟩ ⟨cb_U.blind g M _, va_recv hK hP hc (cb_w4 q2), hU⟩ rfl (List.length_map ..) hL.2.1 (by simp [F0, vR, cv]) (lv_room (by rw [cb_wd_cv]; exact q3)) d ⟨hce, hsl⟩) hS hA (fun z M' H1 locs1 h hP1 hS1 => ?_)
  obtain ⟨z', e9, h⟩ := h
  cases vI_inj (Option.some.inj e9)
  exact h p l e R s m args below meth c Qs A g cells slots X H1 locs1 ls hP1 hS1 hL
theorem so_sIN {y : Mi} {ix a : Nat} {host : String} (hq : ∀ g Q9, cb_Q g y.2.2.2.1 Q9 = va_Qi (fun r (u : Int × Mem) => r = Int32.ofInt u.1 ∧ Q9 (some (vI u.1)) u.2) (fun u t => cb_P g u.2 t.heap) (cb_A g)) (hY : cb_YS y a) (hw : Cond.methodLinkNest own ix y.1 host ∈ cb_TB) (hfr : y.2.2.2.2.1 + 1 ≤ fr) (hlo : 8 + (y.2.2.1 + 11) + y.2.2.2.2.2 ≤ lo) (d : decode cc pc = .ok (.invokestatic ix, 3)) : SO (own, cc, nL, rk, fr, lo) pc (opSI y (pc + 3) a) := by
  intro E loc st M h0 p l e R s m args below meth c Qs A g cells slots X H locs ls hP hS hL
  obtain ⟨as, r, rfl, q1, q3, q4⟩ := h0
  obtain ⟨hx, hb, hml, hown, hWs, hf, hl9, hce, hsl, hK, hJ, hA, hZ, hE⟩ := id X
  have hts : ∀ w ∈ cb_TB, w.before args s = true := fun w hw => hWs w hw args
  have hU : ∀ U : State, U.heap = H → s.WarmedH U.vm → va_Pc (as.map (cv (cb_al g))) (cb_U g M) (as.map (cv (cb_al g))).toArray U := fun U hU hw9 => ⟨rfl, cb_U.at hP hK hJ hWs hA hZ hS hU hw9⟩
  have hB : ∀ w ∈ [Cond.code y.1 y.2.1 y.2.2.1 y.2.2.2.1], ∀ (a' : Array Value) (U : State), s.WarmedH U.vm → w.before a' U = true := fun w hw9 a' U hW9 => (hWs.moved hW9) w (by rw [List.mem_singleton.mp hw9]; exact hY.2.2.1) a'
  have hM := q4 l g
  rw [hq] at hM
  refine cb_goI (Q9 := fun v M' => ∃ z, v = some (vI z) ∧ Tri (own, cc, nL, rk, fr, lo) E (pc + 3) loc (vI z :: r) M') (va_runSN (rm := cb_rm y.2.2.2.2.1 y.2.2.2.2.2) (As := as.map (cv (cb_al g))) (rest := r.map (cv (cb_al g))) ⟨hx, hb, hml, hown, hts⟩ hM ⟨⟨⟨rfl, rfl, Nat.le_trans hfr hf, Nat.le_trans hlo hl9, hB, List.mem_cons_self⟩, hts _ hY.2.2.1, hts _ hY.2.1, hY.2.2.2.1, fun sig hs => q1.symm ▸ hY.2.len sig hs, hts _ hw⟩, hts _ hY.1, trivial⟩ ⟨cb_U.blind g M _, hU⟩ rfl (List.length_map ..) hL.2.1 (by simp [F0]) (lv_room (by rw [cb_wd_cv]; exact q3)) d ⟨hce, hsl⟩) hS hA (fun z M' H1 locs1 h hP1 hS1 => ?_)
  obtain ⟨z', e9, h⟩ := h
  cases vI_inj (Option.some.inj e9)
  exact h p l e R s m args below meth c Qs A g cells slots X H1 locs1 ls hP1 hS1 hL
theorem so_vLN {y : Mi} {ci ix a : Nat} {host : String} {C : String} {T : u_T} {N : Nat} (hq : ∀ g Q9, cb_Q g y.2.2.2.1 Q9 = va_Ql (fun r (u : Int × Mem) => r = Int64.ofInt u.1 ∧ Q9 (some (vL u.1)) u.2) (fun u t => cb_P g u.2 t.heap) (cb_A g)) (hc : cb_cl[ci]? = some (C, T, N)) (hY : cb_YV y C a) (hw : Cond.methodLinkNest own ix y.1 host ∈ cb_TB) (hfr : y.2.2.2.2.1 + 1 ≤ fr) (hlo : 8 + (y.2.2.1 + 11) + y.2.2.2.2.2 ≤ lo) (d : decode cc pc = .ok (.invokevirtual ix, 3)) : SO (own, cc, nL, rk, fr, lo) pc (opVL y ci (pc + 3) a) := by
  intro E loc st M h0 p l e R s m args below meth c Qs A g cells slots X H locs ls hP hS hL
  obtain ⟨b, as, r, rfl, q1, q2, q3, q4⟩ := h0
  obtain ⟨hx, hb, hml, hown, hWs, hf, hl9, hce, hsl, hK, hJ, hA, hZ, hE⟩ := id X
  have hts : ∀ w ∈ cb_TB, w.before args s = true := fun w hw => hWs w hw args
  have hU : ∀ U : State, U.heap = H → s.WarmedH U.vm → va_Pc ((vR b :: as).map (cv (cb_al g))) (cb_U g M) (Value.ref (cb_al g b) :: as.map (cv (cb_al g))).toArray U := fun U hU hw9 => ⟨rfl, cb_U.at hP hK hJ hWs hA hZ hS hU hw9⟩
  have hB : ∀ w ∈ [Cond.code y.1 y.2.1 y.2.2.1 y.2.2.2.1], ∀ (a' : Array Value) (U : State), s.WarmedH U.vm → w.before a' U = true := fun w hw9 a' U hW9 => (hWs.moved hW9) w (by rw [List.mem_singleton.mp hw9]; exact hY.2.2.2.1) a'
  have hM := q4 l g
  rw [hq] at hM
  refine cb_goL (Q9 := fun v M' => ∃ z, v = some (vL z) ∧ Tri (own, cc, nL, rk, fr, lo) E (pc + 3) loc (vL z :: r) M') (va_runVN (C := C) (b := cb_al g b) (rm := cb_rm y.2.2.2.2.1 y.2.2.2.2.2) (As := as.map (cv (cb_al g))) (rest := r.map (cv (cb_al g))) ⟨hx, hb, hml, hown, hts⟩ hM ⟨⟨⟨rfl, rfl, Nat.le_trans hfr hf, Nat.le_trans hlo hl9, hB, List.mem_cons_self⟩, hts _ hY.2.2.2.1, hts _ hY.2.2.1, hY.2.2.2.2.1, fun sig hs => q1.symm ▸ hY.2.2.len sig hs, hts _ hw⟩, hts _ hY.1, hts _ hY.2.1⟩ ⟨cb_U.blind g M _, va_recv hK hP hc (cb_w4 q2), hU⟩ rfl (List.length_map ..) hL.2.1 (by simp [F0, vR, cv]) (lv_room (by rw [cb_wd_cv]; exact q3)) d ⟨hce, hsl⟩) hS hA (fun z M' H1 locs1 h hP1 hS1 => ?_)
  obtain ⟨z', e9, h⟩ := h
  cases vL_inj (Option.some.inj e9)
  exact h p l e R s m args below meth c Qs A g cells slots X H1 locs1 ls hP1 hS1 hL
theorem so_sLN {y : Mi} {ix a : Nat} {host : String} (hq : ∀ g Q9, cb_Q g y.2.2.2.1 Q9 = va_Ql (fun r (u : Int × Mem) => r = Int64.ofInt u.1 ∧ Q9 (some (vL u.1)) u.2) (fun u t => cb_P g u.2 t.heap) (cb_A g)) (hY : cb_YS y a) (hw : Cond.methodLinkNest own ix y.1 host ∈ cb_TB) (hfr : y.2.2.2.2.1 + 1 ≤ fr) (hlo : 8 + (y.2.2.1 + 11) + y.2.2.2.2.2 ≤ lo) (d : decode cc pc = .ok (.invokestatic ix, 3)) : SO (own, cc, nL, rk, fr, lo) pc (opSL y (pc + 3) a) := by
  intro E loc st M h0 p l e R s m args below meth c Qs A g cells slots X H locs ls hP hS hL
  obtain ⟨as, r, rfl, q1, q3, q4⟩ := h0
  obtain ⟨hx, hb, hml, hown, hWs, hf, hl9, hce, hsl, hK, hJ, hA, hZ, hE⟩ := id X
  have hts : ∀ w ∈ cb_TB, w.before args s = true := fun w hw => hWs w hw args
  have hU : ∀ U : State, U.heap = H → s.WarmedH U.vm → va_Pc (as.map (cv (cb_al g))) (cb_U g M) (as.map (cv (cb_al g))).toArray U := fun U hU hw9 => ⟨rfl, cb_U.at hP hK hJ hWs hA hZ hS hU hw9⟩
  have hB : ∀ w ∈ [Cond.code y.1 y.2.1 y.2.2.1 y.2.2.2.1], ∀ (a' : Array Value) (U : State), s.WarmedH U.vm → w.before a' U = true := fun w hw9 a' U hW9 => (hWs.moved hW9) w (by rw [List.mem_singleton.mp hw9]; exact hY.2.2.1) a'
  have hM := q4 l g
  rw [hq] at hM
  refine cb_goL (Q9 := fun v M' => ∃ z, v = some (vL z) ∧ Tri (own, cc, nL, rk, fr, lo) E (pc + 3) loc (vL z :: r) M') (va_runSN (rm := cb_rm y.2.2.2.2.1 y.2.2.2.2.2) (As := as.map (cv (cb_al g))) (rest := r.map (cv (cb_al g))) ⟨hx, hb, hml, hown, hts⟩ hM ⟨⟨⟨rfl, rfl, Nat.le_trans hfr hf, Nat.le_trans hlo hl9, hB, List.mem_cons_self⟩, hts _ hY.2.2.1, hts _ hY.2.1, hY.2.2.2.1, fun sig hs => q1.symm ▸ hY.2.len sig hs, hts _ hw⟩, hts _ hY.1, trivial⟩ ⟨cb_U.blind g M _, hU⟩ rfl (List.length_map ..) hL.2.1 (by simp [F0]) (lv_room (by rw [cb_wd_cv]; exact q3)) d ⟨hce, hsl⟩) hS hA (fun z M' H1 locs1 h hP1 hS1 => ?_)
  obtain ⟨z', e9, h⟩ := h
  cases vL_inj (Option.some.inj e9)
  exact h p l e R s m args below meth c Qs A g cells slots X H1 locs1 ls hP1 hS1 hL
theorem so_vVN {y : Mi} {ci ix a : Nat} {host : String} {C : String} {T : u_T} {N : Nat} (hq : ∀ g Q9, cb_Q g y.2.2.2.1 Q9 = va_Qv (fun u : Mem => Q9 none u) (fun u t => cb_P g u t.heap) (cb_A g)) (hc : cb_cl[ci]? = some (C, T, N)) (hY : cb_YV y C a) (hw : Cond.methodLinkNest own ix y.1 host ∈ cb_TB) (hfr : y.2.2.2.2.1 + 1 ≤ fr) (hlo : 8 + (y.2.2.1 + 11) + y.2.2.2.2.2 ≤ lo) (d : decode cc pc = .ok (.invokevirtual ix, 3)) : SO (own, cc, nL, rk, fr, lo) pc (opVV y ci (pc + 3) a) := by
  intro E loc st M h0 p l e R s m args below meth c Qs A g cells slots X H locs ls hP hS hL
  obtain ⟨b, as, r, rfl, q1, q2, q3, q4⟩ := h0
  obtain ⟨hx, hb, hml, hown, hWs, hf, hl9, hce, hsl, hK, hJ, hA, hZ, hE⟩ := id X
  have hts : ∀ w ∈ cb_TB, w.before args s = true := fun w hw => hWs w hw args
  have hU : ∀ U : State, U.heap = H → s.WarmedH U.vm → va_Pc ((vR b :: as).map (cv (cb_al g))) (cb_U g M) (Value.ref (cb_al g b) :: as.map (cv (cb_al g))).toArray U := fun U hU hw9 => ⟨rfl, cb_U.at hP hK hJ hWs hA hZ hS hU hw9⟩
  have hB : ∀ w ∈ [Cond.code y.1 y.2.1 y.2.2.1 y.2.2.2.1], ∀ (a' : Array Value) (U : State), s.WarmedH U.vm → w.before a' U = true := fun w hw9 a' U hW9 => (hWs.moved hW9) w (by rw [List.mem_singleton.mp hw9]; exact hY.2.2.2.1) a'
  have hM := q4 l g
  rw [hq] at hM
  refine cb_goV (Q9 := fun v M' => v = none ∧ Tri (own, cc, nL, rk, fr, lo) E (pc + 3) loc r M') (va_runVN (C := C) (b := cb_al g b) (rm := cb_rm y.2.2.2.2.1 y.2.2.2.2.2) (As := as.map (cv (cb_al g))) (rest := r.map (cv (cb_al g))) ⟨hx, hb, hml, hown, hts⟩ hM ⟨⟨⟨rfl, rfl, Nat.le_trans hfr hf, Nat.le_trans hlo hl9, hB, List.mem_cons_self⟩, hts _ hY.2.2.2.1, hts _ hY.2.2.1, hY.2.2.2.2.1, fun sig hs => q1.symm ▸ hY.2.2.len sig hs, hts _ hw⟩, hts _ hY.1, hts _ hY.2.1⟩ ⟨cb_U.blind g M _, va_recv hK hP hc (cb_w4 q2), hU⟩ rfl (List.length_map ..) hL.2.1 (by simp [F0, vR, cv]) (lv_room (by rw [cb_wd_cv]; exact q3)) d ⟨hce, hsl⟩) hS hA (fun M' H1 locs1 h hP1 hS1 => ?_)
  exact h.2 p l e R s m args below meth c Qs A g cells slots X H1 locs1 ls hP1 hS1 hL
theorem so_sVN {y : Mi} {ix a : Nat} {host : String} (hq : ∀ g Q9, cb_Q g y.2.2.2.1 Q9 = va_Qv (fun u : Mem => Q9 none u) (fun u t => cb_P g u t.heap) (cb_A g)) (hY : cb_YS y a) (hw : Cond.methodLinkNest own ix y.1 host ∈ cb_TB) (hfr : y.2.2.2.2.1 + 1 ≤ fr) (hlo : 8 + (y.2.2.1 + 11) + y.2.2.2.2.2 ≤ lo) (d : decode cc pc = .ok (.invokestatic ix, 3)) : SO (own, cc, nL, rk, fr, lo) pc (opSV y (pc + 3) a) := by
  intro E loc st M h0 p l e R s m args below meth c Qs A g cells slots X H locs ls hP hS hL
  obtain ⟨as, r, rfl, q1, q3, q4⟩ := h0
  obtain ⟨hx, hb, hml, hown, hWs, hf, hl9, hce, hsl, hK, hJ, hA, hZ, hE⟩ := id X
  have hts : ∀ w ∈ cb_TB, w.before args s = true := fun w hw => hWs w hw args
  have hU : ∀ U : State, U.heap = H → s.WarmedH U.vm → va_Pc (as.map (cv (cb_al g))) (cb_U g M) (as.map (cv (cb_al g))).toArray U := fun U hU hw9 => ⟨rfl, cb_U.at hP hK hJ hWs hA hZ hS hU hw9⟩
  have hB : ∀ w ∈ [Cond.code y.1 y.2.1 y.2.2.1 y.2.2.2.1], ∀ (a' : Array Value) (U : State), s.WarmedH U.vm → w.before a' U = true := fun w hw9 a' U hW9 => (hWs.moved hW9) w (by rw [List.mem_singleton.mp hw9]; exact hY.2.2.1) a'
  have hM := q4 l g
  rw [hq] at hM
  refine cb_goV (Q9 := fun v M' => v = none ∧ Tri (own, cc, nL, rk, fr, lo) E (pc + 3) loc r M') (va_runSN (rm := cb_rm y.2.2.2.2.1 y.2.2.2.2.2) (As := as.map (cv (cb_al g))) (rest := r.map (cv (cb_al g))) ⟨hx, hb, hml, hown, hts⟩ hM ⟨⟨⟨rfl, rfl, Nat.le_trans hfr hf, Nat.le_trans hlo hl9, hB, List.mem_cons_self⟩, hts _ hY.2.2.1, hts _ hY.2.1, hY.2.2.2.1, fun sig hs => q1.symm ▸ hY.2.len sig hs, hts _ hw⟩, hts _ hY.1, trivial⟩ ⟨cb_U.blind g M _, hU⟩ rfl (List.length_map ..) hL.2.1 (by simp [F0]) (lv_room (by rw [cb_wd_cv]; exact q3)) d ⟨hce, hsl⟩) hS hA (fun M' H1 locs1 h hP1 hS1 => ?_)
  exact h.2 p l e R s m args below meth c Qs A g cells slots X H1 locs1 ls hP1 hS1 hL
theorem so_mmax {ix : Nat} (hw : Cond.methodLink own ix Lib.Math.max.name ∈ cb_TB) (hw2 : Cond.static Lib.Math.max.name ∈ cb_TB) (hw3 : Cond.initialized "java/lang/Math" ∈ cb_TB) (hw4 : Cond.code Lib.Math.max.name Lib.Math.max.code 2 (some .int) ∈ cb_TB) (hfr : 1 ≤ fr) (hlo : 21 ≤ lo) (d : decode cc pc = .ok (.invokestatic ix, 3)) : SO (own, cc, nL, rk, fr, lo) pc (opMax (pc + 3)) := by
  intro E loc st M h0 p l e R s m args below meth c Qs A g cells slots X H locs ls hP hS hL
  obtain ⟨x, y, r, rfl, q1, q2, q3, h⟩ := h0
  obtain ⟨hx, hb, hml, hown, hWs, hf, hl9, hce, hsl, hK, hJ, hA, hZ, hE⟩ := id X
  dsimp only at hf hl9
  refine va_mmax hx hb (hml.trans hL.2.1.symm) hown (hWs _ hw args) (hWs _ hw2 args) (hWs _ hw3 args) (hWs _ hw4 args) (Nat.le_trans hfr hf) (by rw [cb_wd_cv]; omega) hce hsl d ?_
  have e9 : cv (cb_al g) (vI (if x < y then y else x)) = .int (if Int32.ofInt x < Int32.ofInt y then Int32.ofInt y else Int32.ofInt x) := by
    simp only [cb_lt q1 q2, cb_lt q2 q1]
    split <;> rfl
  have h9 := (h p l e R s m args below meth c Qs A g cells slots X H locs ls hP hS hL)
  rw [List.map_cons, e9] at h9
  exact h9
theorem so_mmin {ix : Nat} (hw : Cond.methodLink own ix Lib.Math.min.name ∈ cb_TB) (hw2 : Cond.static Lib.Math.min.name ∈ cb_TB) (hw3 : Cond.initialized "java/lang/Math" ∈ cb_TB) (hw4 : Cond.code Lib.Math.min.name Lib.Math.min.code 2 (some .int) ∈ cb_TB) (hfr : 1 ≤ fr) (hlo : 21 ≤ lo) (d : decode cc pc = .ok (.invokestatic ix, 3)) : SO (own, cc, nL, rk, fr, lo) pc (opMin (pc + 3)) := by
  intro E loc st M h0 p l e R s m args below meth c Qs A g cells slots X H locs ls hP hS hL
  obtain ⟨x, y, r, rfl, q1, q2, q3, h⟩ := h0
  obtain ⟨hx, hb, hml, hown, hWs, hf, hl9, hce, hsl, hK, hJ, hA, hZ, hE⟩ := id X
  dsimp only at hf hl9
  refine va_mmin hx hb (hml.trans hL.2.1.symm) hown (hWs _ hw args) (hWs _ hw2 args) (hWs _ hw3 args) (hWs _ hw4 args) (Nat.le_trans hfr hf) (by rw [cb_wd_cv]; omega) hce hsl d ?_
  have e9 : cv (cb_al g) (vI (if y < x then y else x)) = .int (if Int32.ofInt y < Int32.ofInt x then Int32.ofInt y else Int32.ofInt x) := by
    simp only [cb_lt q1 q2, cb_lt q2 q1]
    split <;> rfl
  have h9 := (h p l e R s m args below meth c Qs A g cells slots X H locs ls hP hS hL)
  rw [List.map_cons, e9] at h9
  exact h9
theorem so_mabs {ix : Nat} (hw : Cond.methodLink own ix Lib.Math.abs.name ∈ cb_TB) (hw2 : Cond.static Lib.Math.abs.name ∈ cb_TB) (hw3 : Cond.initialized "java/lang/Math" ∈ cb_TB) (hw4 : Cond.code Lib.Math.abs.name Lib.Math.abs.code 1 (some .int) ∈ cb_TB) (hfr : 1 ≤ fr) (hlo : 21 ≤ lo) (d : decode cc pc = .ok (.invokestatic ix, 3)) : SO (own, cc, nL, rk, fr, lo) pc (opAbs (pc + 3)) := by
  intro E loc st M h0 p l e R s m args below meth c Qs A g cells slots X H locs ls hP hS hL
  obtain ⟨x, r, rfl, q1, q3, h⟩ := h0
  obtain ⟨hx, hb, hml, hown, hWs, hf, hl9, hce, hsl, hK, hJ, hA, hZ, hE⟩ := id X
  dsimp only at hf hl9
  refine va_mabs hx hb (hml.trans hL.2.1.symm) hown (hWs _ hw args) (hWs _ hw2 args) (hWs _ hw3 args) (hWs _ hw4 args) (Nat.le_trans hfr hf) (by rw [cb_wd_cv]; omega) hce hsl d ?_
  have e9 : cv (cb_al g) (vI (if 0 ≤ x then x else 0 - x)) = .int (if 0 ≤ Int32.ofInt x then Int32.ofInt x else 0 - Int32.ofInt x) := by
    have e8 : (0 : Int32) ≤ Int32.ofInt x ↔ 0 ≤ x := cb_le R32_0 q1
    simp only [e8]
    split
    · rfl
    · exact congrArg Value.int (Int32.ofInt_sub 0 x)
  have h9 := (h p l e R s m args below meth c Qs A g cells slots X H locs ls hP hS hL)
  rw [List.map_cons, e9] at h9
  exact h9
theorem so_copy {ix : Nat} (hw : Cond.methodLink own ix arraycopyName ∈ cb_TB) (hw2 : Cond.native arraycopyName ∈ cb_TB) (hw3 : Cond.static arraycopyName ∈ cb_TB) (hw4 : Cond.initialized "java/lang/System" ∈ cb_TB) (hfr : 1 ≤ fr) (hlo : 8 + (nativeFrameWords "java/lang/System" "arraycopy" 5 + 11) ≤ lo) (d : decode cc pc = .ok (.invokestatic ix, 3)) : SO (own, cc, nL, rk, fr, lo) pc (opCpy (pc + 3)) := by
  intro E loc st M h0 p l e R s m args below meth c Qs A g cells slots X H locs ls hP hS hL
  obtain ⟨c0, c1, sp, dp, k, r, N0, N1, rfl, q1, q2, q3, q4, q5, q6, q7, q8, h⟩ := h0
  obtain ⟨hx, hb, hml, hown, hWs, hf, hl9, hce, hsl, hK, hJ, hA, hZ, hE⟩ := id X
  dsimp only at hf hl9
  have hn0 := cb_kd_le q1
  have hn1 := cb_kd_le q2
  have n9 : ∀ z : Int, 0 ≤ z → z < 2147483648 → ¬ Int32.ofInt z < 0 := fun z a b q => by
    have := (cb_lt (x := z) (y := 0) ⟨by omega, b⟩ R32_0).mp q
    omega
  refine va_copyi hx hb (hml.trans hL.2.1.symm) hown (hWs _ hw args) (hWs _ hw2 args) (hWs _ hw3 args) (hWs _ hw4 args) hK hP (cb_D hJ hA M) hS c0 c1 0 0 (cb_w0 q1) (cb_w0 q2) (ty := .int) rfl rfl rfl (n9 sp q3 (by omega)) (n9 dp q4 (by omega)) (n9 k q5 (by omega)) (by rw [cb_clamp q3 (by omega), cb_clamp q5 (by omega)]; omega) (by rw [cb_clamp q4 (by omega), cb_clamp q5 (by omega)]; omega) (fun _ _ => rfl) (Nat.le_trans hfr hf) (by rw [cb_wd_cv]; omega) d (fun H1 locs1 hP1 _ hS1 => ?_)
  rw [cb_w_set (g := g) (M := M) (M' := cpI M c0 sp c1 dp k) (cb_kd_lt q2 (by decide)) (by rw [cb_E0 q2, cb_cpy q3 (by omega) q4 (by omega) q5 (by omega)]) (fun j hj => cb_E_ne (fun i => by simp [cpI, hj]) (fun i => rfl))] at hP1
  exact h p l e R s m args below meth c Qs A g cells slots X H1 locs1 ls hP1 hS1 hL
theorem so_iret {own : String} {cc : ByteArray} {nL fr lo pc : Nat} (d : decode cc pc = .ok (.ireturn, 1)) : SO (own, cc, nL, 1, fr, lo) pc opRI := by
  intro E loc st M h0 p l e R s m args below meth c Qs A g cells slots X H locs ls hP hS hL
  obtain ⟨z, rfl, h⟩ := h0
  exact X.2.2.2.2.2.2.2.2.2.2.2.2.2 (some (vI z)) M H locs ls pc ⟨z, rfl⟩ d h hP hS
theorem so_lret {own : String} {cc : ByteArray} {nL fr lo pc : Nat} (d : decode cc pc = .ok (.lreturn, 1)) : SO (own, cc, nL, 2, fr, lo) pc opRL := by
  intro E loc st M h0 p l e R s m args below meth c Qs A g cells slots X H locs ls hP hS hL
  obtain ⟨z, rfl, h⟩ := h0
  exact X.2.2.2.2.2.2.2.2.2.2.2.2.2 (some (vL z)) M H locs ls pc ⟨z, rfl⟩ d h hP hS
theorem so_vret {own : String} {cc : ByteArray} {nL fr lo pc : Nat} (d : decode cc pc = .ok (.return_, 1)) : SO (own, cc, nL, 0, fr, lo) pc opRV := by
  intro E loc st M h0 p l e R s m args below meth c Qs A g cells slots X H locs ls hP hS hL
  obtain ⟨rfl, h⟩ := h0
  exact X.2.2.2.2.2.2.2.2.2.2.2.2.2 (none) M H locs ls pc rfl d h hP hS
theorem so_zret {own : String} {cc : ByteArray} {nL fr lo pc : Nat} (d : decode cc pc = .ok (.ireturn, 1)) : SO (own, cc, nL, 3, fr, lo) pc opRZ := by
  intro E loc st M h0 p l e R s m args below meth c Qs A g cells slots X H locs ls hP hS hL
  obtain ⟨z, rfl, q1, h⟩ := h0
  exact X.2.2.2.2.2.2.2.2.2.2.2.2.2 (some (vI z)) M H locs ls pc (q1.elim (fun e => e ▸ Or.inl rfl) (fun e => e ▸ Or.inr rfl)) d h hP hS
theorem so_tsw {dflt lo9 hi : Int} {offs : Array Int} {len t : Nat} {ts : List (Int × Nat)} (hd : (pc : Int) + dflt = (t : Int)) (hts : ∀ x : Int, ¬ x < lo9 → ¬ hi < x → ∃ (off : Int) (t2 : Nat), offs[(x - lo9).toNat]? = some off ∧ (pc : Int) + off = (t2 : Int) ∧ (x, t2) ∈ ts) (hto : ∀ q ∈ ts, ¬ q.1 < lo9 ∧ ¬ hi < q.1) (d : decode cc pc = .ok (.tableswitch dflt lo9 hi offs, len)) : SO (own, cc, nL, rk, fr, lo) pc (opSw ts t) := by
  intro E loc st M h0 p l e R s m args below meth c Qs A g cells slots X H locs ls hP hS hL
  obtain ⟨x, r, rfl, q1, h1, h2⟩ := h0
  by_cases q : x < lo9 ∨ hi < x
  · refine lv_tableOut X.1 X.2.1 d (by rw [cb_oI q1.1 q1.2]; exact q) hd ?_
    exact h2 (fun z hz e => by have := hto z hz; subst e; omega) p l e R s m args below meth c Qs A g cells slots X H locs ls hP hS hL
  · obtain ⟨off, t2, a1, a2, a3⟩ := hts x (fun z => q (Or.inl z)) (fun z => q (Or.inr z))
    refine lv_tableIn X.1 X.2.1 d (by rw [cb_oI q1.1 q1.2]; exact fun z => q (Or.inl z)) (by rw [cb_oI q1.1 q1.2]; exact fun z => q (Or.inr z)) (by rw [cb_oI q1.1 q1.2]; exact a1) a2 ?_
    exact h1 _ a3 rfl p l e R s m args below meth c Qs A g cells slots X H locs ls hP hS hL
end SND
