/-! THE LAW, from its entry: two objects are made, then the loop -/
theorem rmx_141 : ∀ k, k < 141 → cb_rmx k < 141 := by decide +kernel
section LCK
variable {p : Program} {l : Launch} {e : Env} {R : Room} {s : State} {m : MethodId} {args : Array Value} {below : List Frame} {meth : Method} {c : Code} {cells slots : Nat} {Q : State → Prop} {H : Heap} {locs : List Loc} {ls : Array Slot} {g : cb_G} {A : Nat → Prop} {al : Nat → Nat} {E : Nat → va_E} {n n' pc : Nat} {st : List Value}
theorem lw_callK (hx : p.tables.exec = Jvm.exec) (hb : c.code = code) (hml : c.maxLocals = 4) (hown : s.vm.findClass R_law = some m.cls) (hWs : cb_Ws s) (hKn : cb_K g s) (hAO : va_AO "CauseBook$Model" s) (hA : ∀ q, s.heap.size ≤ q → A q) (hZs : kb_Z g A s s.heap) (hZ : kb_S g A s al E n H locs) {y : Mi} {mc ms ix b0 : Nat} {as : (Nat → Nat) → List Value} {As : List Value} {Pre : cb_G → (Nat → Nat) → (Nat → va_E) → Prop} {Post : cb_G → (Nat → Nat) → (Nat → va_E) → (Nat → Nat) → (Nat → va_E) → Prop} (hK : Kon y mc ms n n' as Pre Post) (hY : kb_Y y As.length) (has : as al = .ref b0 :: As) (hw : Cond.methodLink R_law ix y.1 ∈ cb_TB) (hfr : y.2.2.2.2.1 + 1 ≤ R.frames) (hlo : 8 + (y.2.2.1 + 11) + y.2.2.2.2.2 ≤ R.locals) (hce : cells + mc ≤ R.cells) (hsl : slots + ms ≤ R.slots) (hls : ls.size = 4) (hst : (st.map fun v => v.category).sum ≤ 8) (d : decode code pc = .ok (.invokespecial ix, 3)) (hpre : Pre g al E)
    (kk : ∀ (al' : Nat → Nat) (E' : Nat → va_E) (H1 : Heap) (locs1 : List Loc), (∀ k, k < n → al' k = al k) → Post g al E al' E' → kb_S g A s al' E' n' H1 locs1 → W p l e R s m args below meth c H1 locs1 (cells + mc) (slots + ms) Q (F0 m (pc + 3) ls st)) : W p l e R s m args below meth c H locs cells slots Q (F0 m pc ls (As.reverse ++ .ref b0 :: st)) := by
  have X0 : kb_X R_law code 4 p s m { meth with name := "<init>" } c g A := ⟨hx, hb, hml, hown, hWs, hKn, hAO, hA, rfl, hZs⟩
  have hts : ∀ w ∈ cb_TB, w.before args s = true := fun w hw => hWs w hw args
  have hB : ∀ w ∈ [Cond.code y.1 y.2.1 y.2.2.1 none], ∀ (a' : Array Value) (U : State), s.WarmedH U.vm → w.before a' U = true := fun w hw9 a' U hW9 => (hWs.moved hW9) w (by rw [List.mem_singleton.mp hw9]; exact hY.2.2.1) a'
  have hM := hK l g al E H.size hpre
  rw [hY.2.2.2.2.2.2] at hM
  exact kb_go hA hZ (va_runI (b := b0) (As := As) (rest := st) (rm := { frames := y.2.2.2.2.1, cells := mc, slots := ms, locals := y.2.2.2.2.2 }) ⟨hx, hb, hml, hown, hts⟩ hM ⟨⟨rfl, rfl, hfr, hlo, hB, List.mem_cons_self, hts _ hY.2.2.1, hts _ hY.2.1, hY.2.2.2.1, fun sig hs => hY.len sig hs, hts _ hw⟩, hY.2.2.2.2.2.1, hts _ hY.1⟩ ⟨kb_U.blind g al E n H.size _, fun U hU hW => ⟨by rw [has], kb_U.at X0 hZ hU hW⟩⟩ rfl rfl hls rfl (lv_room hst) d ⟨hce, hsl⟩) kk
end LCK
set_option maxRecDepth 10000 in
set_option maxHeartbeats 4000000 in
/-- from the entry, for every script of at most 3072 ints, the law comes to its end with true -/
theorem whole_start {p : Program} {e : Env} {s : State} {m : MethodId} {below : List Frame} {meth : Method} {c : Code} (l : Launch) (hflags : l.flags = flags0) {b L : Nat} {xs : Nat → Int32} (hL : L ≤ 3072) (C0 : lw_At p s m meth c b L xs) : W p l e room_1 s m #[Value.ref b] below meth c s.heap [] 0 0 (lw_Z below #[Value.ref b] s) (entryFrame m ([Value.ref b] : List Value).toArray 4) := by
  obtain ⟨hx, hb, hr, hml, hown, hts, hX, hbl, hlocks, hgv⟩ := id C0
  have hA : ∀ q : Nat, s.heap.size ≤ q → (fun q : Nat => s.heap.size ≤ q) q := fun _ h => h
  have hWs : cb_Ws s := cb_Ws.of hts
  have hAO : va_AO "CauseBook$Model" s := va_AO.of (hts _ (List.mem_append_right _ (List.mem_append_left _ (List.mem_of_getElem? (i := 102) rfl))))
  obtain ⟨tM, tT, hZM, hZT⟩ := kb_St hts hgv
  obtain ⟨D, T, hKa⟩ := kb_K hWs hAO
  obtain ⟨g, hg⟩ : ∃ g : cb_G, g = (D, T, fun k => if k = 158 then tM else tT) := ⟨_, rfl⟩
  have hK : cb_K g s := by rw [hg]; exact hKa _
  have hZs : kb_Z g (fun q => s.heap.size ≤ q) s s.heap := by rw [hg]; exact hZT
  have hZm : ∀ al : Nat → Nat, cb_Z (kg g al) (fun q => s.heap.size ≤ q) s s.heap := fun al => by rw [hg]; exact hZM
  have htb : ∀ w ∈ cb_TB, w.before #[Value.ref b] s = true := fun w hw => hWs w hw _
  have hl := lv_entry ([.ref b]) (n := 4) (Nat.le_of_ble_eq_true rfl)
  rw [lg_entry_eq]
  generalize (lg_sl ([.ref b]) ++ List.replicate (4 - (lg_sl ([.ref b])).length) Slot.unset).toArray = ls at hl ⊢
  have hl : lv_has ls 4 [(0, .ref b)] := hl
  have hP0 : va_P g.1 cb_cl (kb_w (fun _ => 0) (fun _ => .inr (0, [])) 0) s.heap := fun k q h => by simp [kb_w] at h
  have hD0 : va_D (fun q : Nat => s.heap.size ≤ q) (kb_w (fun _ => 0) (fun _ => .inr (0, [])) 0) := ⟨fun i j p q h => by simp [kb_w] at h, fun k q h => by simp [kb_w] at h⟩
  have hS0 : va_S (fun q : Nat => s.heap.size ≤ q) s.heap s.heap [] := va_S.rf
  refine va_new hx hb htb cb_c10.2.1 cb_t10 cb_c10.2.2.1 hown (htb _ cw_17) (htb _ cw_18) (htb _ cw_1) hK hP0 hD0 hS0 hA cb_c10.1 (fs := [.null, .null, .null, .null, .null, .null, .null, .null, .null, .null, .null, .null, .null, .null]) (fun j hj => by rcases (show j = 0 ∨ j = 1 ∨ j = 2 ∨ j = 3 ∨ j = 4 ∨ j = 5 ∨ j = 6 ∨ j = 7 ∨ j = 8 ∨ j = 9 ∨ j = 10 ∨ j = 11 ∨ j = 12 ∨ j = 13 by omega) with rfl | rfl | rfl | rfl | rfl | rfl | rfl | rfl | rfl | rfl | rfl | rfl | rfl | rfl <;> rfl) (Nat.le_of_ble_eq_true rfl) (Nat.le_of_ble_eq_true rfl) dl_0 (fun q0 H1 hP1 hD1 hS1 => ?_)
  rw [kb_w_push] at hP1 hD1
  refine lv_dup hx hb dl_3 rfl ?_
  refine lw_callK hx hb hml hown hWs hK hAO hA hZs ⟨hP1, hD1, hS1⟩ (As := []) (b0 := q0) (st := [.ref q0]) k_CB K_CB_init (by show [Value.ref (va_up (fun _ => 0) 0 q0 0)] = _; rw [up_eq]) cw_19 (Nat.le_of_ble_eq_true rfl) (Nat.le_of_ble_eq_true rfl) (Nat.le_of_ble_eq_true rfl) (Nat.le_of_ble_eq_true rfl) hl.1 (Nat.le_of_ble_eq_true rfl) dl_4 (up_eq _ _ _) ?_
  intro al2 E2 H2 locs2 o2 w2 hZ2
  have a0 : al2 0 = q0 := (o2 0 (by decide)).trans (up_eq _ _ _)
  refine lv_astore_n (lv' := [(1, .ref q0), (0, .ref b)]) hx hb dl_7 rfl hl (by decide) rfl (fun ls hl => ?_)
  refine va_new hx hb htb cb_c11.2.1 cb_t11 cb_c11.2.2.1 hown (htb _ cw_1050) (htb _ cw_1051) (htb _ cw_13) hK hZ2.1 hZ2.2.1 hZ2.2.2 hA cb_c11.1 (fs := [.int 0, .int 0, .null, .null, .null, .null, .null, .int 0, .null, .null, .null, .null, .int 0, .null, .null, .int 0, .null, .null, .int 0, .int 0, .int 0, .null, .null, .null, .int 0]) (fun j hj => by rcases (show j = 0 ∨ j = 1 ∨ j = 2 ∨ j = 3 ∨ j = 4 ∨ j = 5 ∨ j = 6 ∨ j = 7 ∨ j = 8 ∨ j = 9 ∨ j = 10 ∨ j = 11 ∨ j = 12 ∨ j = 13 ∨ j = 14 ∨ j = 15 ∨ j = 16 ∨ j = 17 ∨ j = 18 ∨ j = 19 ∨ j = 20 ∨ j = 21 ∨ j = 22 ∨ j = 23 ∨ j = 24 by omega) with rfl | rfl | rfl | rfl | rfl | rfl | rfl | rfl | rfl | rfl | rfl | rfl | rfl | rfl | rfl | rfl | rfl | rfl | rfl | rfl | rfl | rfl | rfl | rfl | rfl <;> rfl) (Nat.le_of_ble_eq_true rfl) (Nat.le_of_ble_eq_true rfl) dl_8 (fun q1 H3 hP3 hD3 hS3 => ?_)
  rw [kb_w_push] at hP3 hD3
  refine lv_dup hx hb dl_11 rfl ?_
  refine lw_callK hx hb hml hown hWs hK hAO hA hZs ⟨hP3, hD3, hS3⟩ (As := []) (b0 := q1) (st := [.ref q1]) k_RM K_RM_init (by show [Value.ref (va_up al2 141 q1 141)] = _; rw [up_eq]) cw_1052 (Nat.le_of_ble_eq_true rfl) (Nat.le_of_ble_eq_true rfl) (Nat.le_of_ble_eq_true rfl) (Nat.le_of_ble_eq_true rfl) hl.1 (Nat.le_of_ble_eq_true rfl) dl_12 (up_eq _ _ _) ?_
  intro al4 E4 H4 locs4 o4 w4 hZ4
  obtain ⟨q4, w4⟩ := w4
  have o42 : ∀ k, k < 141 → al4 k = al2 k := fun k hk => (o4 k (by omega)).trans (up_ne (by omega))
  have a4 : al4 0 = q0 := (o42 0 (by decide)).trans a0
  have b4 : al4 141 = q1 := (o4 141 (by decide)).trans (up_eq _ _ _)
  refine lv_astore_n (lv' := [(2, .ref q1), (1, .ref q0), (0, .ref b)]) hx hb dl_15 rfl hl (by decide) rfl (fun ls hl => ?_)
  refine lv_iconst (v := Int32.ofInt ((0 : Nat) : Int)) hx hb dl_16 (by decide) ?_
  refine lv_istore_n (lv' := [(3, .int (Int32.ofInt ((0 : Nat) : Int))), (2, .ref q1), (1, .ref q0), (0, .ref b)]) hx hb dl_17 rfl hl (by decide) rfl (fun ls hl => ?_)
  have hE4 : ∀ k, k < 158 → E4 k = cb_E (kg g al4) mz k := fun k hk => by
    by_cases e0 : k < 141
    · rw [q4 k e0, up_ne (by omega), w2 k e0]
      exact (kz_st (n := 141) (rmx_141 k e0) o42).symm
    · exact w4 k (by omega) hk
  have hw4 : kb_w al4 E4 158 = cb_w (kg g al4) mz := by
    unfold kb_w cb_w
    apply List.map_congr_left
    intro k hk
    have hk := List.mem_range.mp hk
    rw [kg_al hk, hE4 k hk]
  obtain ⟨hP4, hD4, hS4⟩ := hZ4
  have hJ : cb_J (kg g al4) := fun i j hi hj hij => by
    rw [kg_al hi, kg_al hj] at hij
    exact hD4.1 i j _ _ (kb_w_at hi) (kb_w_at hj) hij
  have hA4 : ∀ k, k < 158 → s.heap.size ≤ cb_al (kg g al4) k := fun k hk => by
    rw [kg_al hk]
    exact hD4.2 k _ (kb_w_at hk)
  rw [hw4] at hP4
  have hl4 : lv_has ls 4 (lw_lv (kg g al4) b 0) := by
    unfold lw_lv
    rw [kg_al (by decide), kg_al (by decide), a4, b4]
    exact lv_sub hl [3, 2, 1, 0] rfl
  have hK4 : cb_K (kg g al4) s := hK
  exact lw_loop ⟨C0, hL, hK4, hJ, hWs, hA4, hZm al4, Nat.le_of_ble_eq_true rfl, Nat.le_of_ble_eq_true rfl⟩ L 0 (by omega) (by decide) sg0 mz H4 locs4 ls lw0 hP4 hS4 hl4
