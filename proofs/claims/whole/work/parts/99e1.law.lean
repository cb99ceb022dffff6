/-! the law's own steps -/
def lw_Cx (p : Program) (s : State) (m : MethodId) (meth : Method) (c : Code) (b L : Nat) (xs : Nat → Int32) (g : cb_G) (cells slots : Nat) : Prop := lw_At p s m meth c b L xs ∧ L ≤ 3072 ∧ cb_K g s ∧ cb_J g ∧ cb_Ws s ∧ (∀ k, k < 158 → s.heap.size ≤ cb_al g k) ∧ cb_Z g (fun q => s.heap.size ≤ q) s s.heap ∧ cells ≤ 600000 ∧ slots ≤ 7302250
def lw_lv (g : cb_G) (b i : Nat) : List (Nat × Value) := [(0, .ref b), (1, .ref (cb_al g 0)), (2, .ref (cb_al g 141)), (3, .int (Int32.ofInt i))]
theorem t32 (x : Int32) : R32 x.toInt := ⟨Int32.le_toInt x, Int32.toInt_lt x⟩
theorem lg_same (x : Int64) : lg_cmp x x = 0 := by
  unfold lg_cmp
  rw [if_neg (Int64.lt_irrefl), if_pos rfl]
section LAW
variable {p : Program} {l : Launch} {e : Env} {s : State} {m : MethodId} {below : List Frame} {meth : Method} {c : Code} {b L : Nat} {xs : Nat → Int32} {g : cb_G} {cells slots : Nat} {Q : State → Prop} {H : Heap} {locs : List Loc} {ls : Array Slot}
theorem lw_arg (C : lw_Cx p s m meth c b L xs g cells slots) {pc i k : Nat} {st : List Value} (hS : va_S (fun q => s.heap.size ≤ q) s.heap H locs) (hl : lv_has ls 4 (lw_lv g b i)) (hk : i + k < L) (d0 : decode code pc = .ok (.aload_n 0, 1)) (d1 : decode code (pc + 1) = .ok (.iload_n 3, 1)) (d2 : decode code (pc + 2) = .ok (.iconst (k : Int), 1)) (d3 : decode code (pc + 3) = .ok (.iadd, 1)) (d4 : decode code (pc + 4) = .ok (.iaload, 1))
    (kk : W p l e room_1 s m #[Value.ref b] below meth c H locs cells slots Q (F0 m (pc + 5) ls (cv (cb_al g) (vI (xs (i + k)).toInt) :: st))) : W p l e room_1 s m #[Value.ref b] below meth c H locs cells slots Q (F0 m pc ls st) := by
  have hL := C.2.1
  have hx := C.1.1
  have hb := C.1.2.1
  refine lv_aload_n hx hb d0 rfl (lv_at hl 0 rfl) ?_
  refine lv_iload_n hx hb d1 rfl (lv_at hl 3 rfl) ?_
  refine lv_iconst (v := Int32.ofInt (k : Int)) hx hb d2 rfl ?_
  refine lv_iadd hx hb d3 ?_
  rw [← Int32.ofInt_add]
  have e1 : ((i : Int) + (k : Int)) = ((i + k : Nat) : Int) := by omega
  rw [e1]
  refine va_sld hx hb C.1.2.2.2.2.2.2.1 C.1.2.2.2.2.2.2.2.1 (Nat.not_le.mpr C.1.2.2.2.2.2.2.2.1) hS (cb_vin (by omega) (by omega) (by omega)) d4 ?_
  rw [cb_clamp (by omega) (by omega), Int.toNat_natCast]
  have e2 : Value.int (xs (i + k)) = cv (cb_al g) (vI (xs (i + k)).toInt) := congrArg Value.int (Int32.ofInt_toInt _).symm
  rw [e2]
  exact kk
theorem lw_callI (C : lw_Cx p s m meth c b L xs g cells slots) {y : Mi} {ci ix b0 pc : Nat} {Cn : String} {T : u_T} {N : Nat} {as : List Vl} {rest : List Value} {M : Mem} {Q9 : Option Vl → Mem → Prop} (hq : ∀ g Q9, cb_Q g y.2.2.2.1 Q9 = va_Qi (fun r (u : Int × Mem) => r = Int32.ofInt u.1 ∧ Q9 (some (vI u.1)) u.2) (fun u t => cb_P g u.2 t.heap) (cb_A g)) (hc : cb_cl[ci]? = some (Cn, T, N)) (hY : cb_YV y Cn as.length) (hw : Cond.methodLink R_law ix y.1 ∈ cb_TB) (hfr : y.2.2.2.2.1 + 1 ≤ 10) (hlo : 8 + (y.2.2.1 + 11) + y.2.2.2.2.2 ≤ 380) (d : decode code pc = .ok (.invokevirtual ix, 3)) (q2 : cb_kd b0 = (4, ci)) (q3 : (rest.map fun v => v.category).sum ≤ 8) (q4 : Cal y (vR b0 :: as) M Q9) (hP : cb_P g M H) (hS : va_S (fun q => s.heap.size ≤ q) s.heap H locs) (hls : ls.size = 4)
    (kk : ∀ (z : Int) (M' : Mem) (H1 : Heap) (locs1 : List Loc), Q9 (some (vI z)) M' → cb_P g M' H1 → va_S (fun q => s.heap.size ≤ q) s.heap H1 locs1 → W p l e room_1 s m #[Value.ref b] below meth c H1 locs1 cells slots Q (F0 m (pc + 3) ls (.int (Int32.ofInt z) :: rest))) : W p l e room_1 s m #[Value.ref b] below meth c H locs cells slots Q (F0 m pc ls ((as.map (cv (cb_al g))).reverse ++ .ref (cb_al g b0) :: rest)) := by
  obtain ⟨⟨hx, hb, hr, hml, hown, -, -, -, -, -⟩, hL, hK, hJ, hWs, hA, hZ, hce, hsl⟩ := C
  have hts : ∀ w ∈ cb_TB, w.before #[Value.ref b] s = true := fun w hw => hWs w hw _
  have hU : ∀ U : State, U.heap = H → s.WarmedH U.vm → va_Pc ((vR b0 :: as).map (cv (cb_al g))) (cb_U g M) (Value.ref (cb_al g b0) :: as.map (cv (cb_al g))).toArray U := fun U hU hw9 => ⟨rfl, cb_U.at hP hK hJ hWs hA hZ hS hU hw9⟩
  have hB : ∀ w ∈ [Cond.code y.1 y.2.1 y.2.2.1 y.2.2.2.1], ∀ (a' : Array Value) (U : State), s.WarmedH U.vm → w.before a' U = true := fun w hw9 a' U hW9 => (hWs.moved hW9) w (by rw [List.mem_singleton.mp hw9]; exact hY.2.2.2.1) a'
  have hM := q4 l g
  rw [hq] at hM
  exact cb_goI (va_runV (C := Cn) (b := cb_al g b0) (rm := cb_rm y.2.2.2.2.1 y.2.2.2.2.2) (As := as.map (cv (cb_al g))) (rest := rest) ⟨hx, hb, hml, hown, hts⟩ hM ⟨⟨rfl, rfl, hfr, hlo, hB, List.mem_cons_self, hts _ hY.2.2.2.1, hts _ hY.2.2.1, hY.2.2.2.2.1, fun sig hs => hY.2.2.len sig hs, hts _ hw⟩, hts _ hY.1, hts _ hY.2.1⟩ ⟨cb_U.blind g M _, va_recv hK hP hc (cb_w4 q2), hU⟩ rfl (List.length_map ..) hls rfl (lv_room q3) d ⟨hce, hsl⟩) hS hA kk
theorem lw_callL (C : lw_Cx p s m meth c b L xs g cells slots) {y : Mi} {ci ix b0 pc : Nat} {Cn : String} {T : u_T} {N : Nat} {as : List Vl} {rest : List Value} {M : Mem} {Q9 : Option Vl → Mem → Prop} (hq : ∀ g Q9, cb_Q g y.2.2.2.1 Q9 = va_Ql (fun r (u : Int × Mem) => r = Int64.ofInt u.1 ∧ Q9 (some (vL u.1)) u.2) (fun u t => cb_P g u.2 t.heap) (cb_A g)) (hc : cb_cl[ci]? = some (Cn, T, N)) (hY : cb_YV y Cn as.length) (hw : Cond.methodLink R_law ix y.1 ∈ cb_TB) (hfr : y.2.2.2.2.1 + 1 ≤ 10) (hlo : 8 + (y.2.2.1 + 11) + y.2.2.2.2.2 ≤ 380) (d : decode code pc = .ok (.invokevirtual ix, 3)) (q2 : cb_kd b0 = (4, ci)) (q3 : (rest.map fun v => v.category).sum ≤ 8) (q4 : Cal y (vR b0 :: as) M Q9) (hP : cb_P g M H) (hS : va_S (fun q => s.heap.size ≤ q) s.heap H locs) (hls : ls.size = 4)
    (kk : ∀ (z : Int) (M' : Mem) (H1 : Heap) (locs1 : List Loc), Q9 (some (vL z)) M' → cb_P g M' H1 → va_S (fun q => s.heap.size ≤ q) s.heap H1 locs1 → W p l e room_1 s m #[Value.ref b] below meth c H1 locs1 cells slots Q (F0 m (pc + 3) ls (.long (Int64.ofInt z) :: rest))) : W p l e room_1 s m #[Value.ref b] below meth c H locs cells slots Q (F0 m pc ls ((as.map (cv (cb_al g))).reverse ++ .ref (cb_al g b0) :: rest)) := by
  obtain ⟨⟨hx, hb, hr, hml, hown, -, -, -, -, -⟩, hL, hK, hJ, hWs, hA, hZ, hce, hsl⟩ := C
  have hts : ∀ w ∈ cb_TB, w.before #[Value.ref b] s = true := fun w hw => hWs w hw _
  have hU : ∀ U : State, U.heap = H → s.WarmedH U.vm → va_Pc ((vR b0 :: as).map (cv (cb_al g))) (cb_U g M) (Value.ref (cb_al g b0) :: as.map (cv (cb_al g))).toArray U := fun U hU hw9 => ⟨rfl, cb_U.at hP hK hJ hWs hA hZ hS hU hw9⟩
  have hB : ∀ w ∈ [Cond.code y.1 y.2.1 y.2.2.1 y.2.2.2.1], ∀ (a' : Array Value) (U : State), s.WarmedH U.vm → w.before a' U = true := fun w hw9 a' U hW9 => (hWs.moved hW9) w (by rw [List.mem_singleton.mp hw9]; exact hY.2.2.2.1) a'
  have hM := q4 l g
  rw [hq] at hM
  exact cb_goL (va_runV (C := Cn) (b := cb_al g b0) (rm := cb_rm y.2.2.2.2.1 y.2.2.2.2.2) (As := as.map (cv (cb_al g))) (rest := rest) ⟨hx, hb, hml, hown, hts⟩ hM ⟨⟨rfl, rfl, hfr, hlo, hB, List.mem_cons_self, hts _ hY.2.2.2.1, hts _ hY.2.2.1, hY.2.2.2.2.1, fun sig hs => hY.2.2.len sig hs, hts _ hw⟩, hts _ hY.1, hts _ hY.2.1⟩ ⟨cb_U.blind g M _, va_recv hK hP hc (cb_w4 q2), hU⟩ rfl (List.length_map ..) hls rfl (lv_room q3) d ⟨hce, hsl⟩) hS hA kk
end LAW
/-- the law goes on from pc, whatever the state that both hold -/
def lw_to (p : Program) (l : Launch) (e : Env) (s : State) (m : MethodId) (below : List Frame) (meth : Method) (c : Code) (b : Nat) (g : cb_G) (cells slots : Nat) (Q : State → Prop) (i pc : Nat) : Prop := ∀ (σ : St) (M : Mem) (H : Heap) (locs : List Loc) (ls : Array Slot), LwI σ M → cb_P g M H → va_S (fun q => s.heap.size ≤ q) s.heap H locs → lv_has ls 4 (lw_lv g b i) → W p l e room_1 s m #[Value.ref b] below meth c H locs cells slots Q (F0 m pc ls [])
