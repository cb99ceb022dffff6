/-! what stays of a cell as others are made; a table's copy -/
def cb_rmx (k : Nat) : Nat := (cb_rtL.getD k []).foldr Nat.max 0
theorem rmx_le : ∀ (L : List Nat) (j : Nat), L.getD j 0 ≤ L.foldr Nat.max 0
  | [], j => Nat.le_refl _
  | x :: L, 0 => Nat.le_max_left _ _
  | x :: L, j + 1 => Nat.le_trans (rmx_le L j) (Nat.le_max_right _ _)
theorem rt_le (k j : Nat) : cb_rt k j ≤ cb_rmx k := rmx_le _ _
theorem kz_st {g : cb_G} {al al1 : Nat → Nat} {k n : Nat} (hk : cb_rmx k < n) (h : ∀ i, i < n → al1 i = al i) : cb_E (kg g al1) mz k = cb_E (kg g al) mz k := by
  have hh : ∀ j, cb_al (kg g al1) (cb_rt k j) = cb_al (kg g al) (cb_rt k j) := fun j => by
    have := rt_le k j
    show (if cb_rt k j < 158 then al1 (cb_rt k j) else g.2.2 (cb_rt k j)) = (if cb_rt k j < 158 then al (cb_rt k j) else g.2.2 (cb_rt k j))
    rw [h _ (by omega)]
  have cvs : ∀ ci j, cv (cb_al (kg g al1)) (cb_fv mz k ci j) = cv (cb_al (kg g al)) (cb_fv mz k ci j) := fun ci j => by
    unfold cb_fv
    split
    · rfl
    · exact congrArg Value.ref (hh j)
    · rfl
  unfold cb_E
  simp only [hh, cvs]
  rfl
theorem arrV_cong {cI : ClassId} {N : Nat} {f f1 : Nat → Value} (h : ∀ j, j < N → f j = f1 j) : arrV cI N f = arrV cI N f1 := by
  unfold arrV
  have e : (fun j : Fin N => f j.val) = fun j : Fin N => f1 j.val := funext fun j => h j.val j.isLt
  rw [e]
section KCP
variable {p : Program} {l : Launch} {e : Env} {R : Room} {s : State} {m : MethodId} {args : Array Value} {below : List Frame} {meth : Method} {c : Code} {cells slots : Nat} {Q : State → Prop} {H : Heap} {locs : List Loc} {ls : Array Slot} {own : String} {cc : ByteArray} {nL : Nat} {g : cb_G} {A : Nat → Prop} {al : Nat → Nat} {E : Nat → va_E} {n pc : Nat}
theorem kb_copy (X : kb_X own cc nL p s m meth c g A) (hZ : kb_S g A s al E n H locs) {ix c1 a0 : Nat} {f0 : Nat → Int32} (hw : Cond.methodLink own ix arraycopyName ∈ cb_TB) (hc1 : c1 < n) (ha : al c1 = a0) (hE : E c1 = .inl (g.2.1.1, 4, .inl f0)) (hls : ls.size = nL) (hf : 1 ≤ R.frames) (hlo : nativeFrameWords "java/lang/System" "arraycopy" 5 + 11 ≤ R.locals) (d : decode cc pc = .ok (.invokestatic ix, 3))
    (kk : ∀ (E1 : Nat → va_E) (H1 : Heap) (locs1 : List Loc), (∀ k, k ≠ c1 → E1 k = E k) → E1 c1 = .inl (g.2.1.1, 4, .inl (va_cpy (fun j => Int32.ofInt (tz j)) f0 0 0 4)) → kb_S g A s al E1 n H1 locs1 → W p l e R s m args below meth c H1 locs1 cells slots Q (F0 m (pc + 3) ls [])) : W p l e R s m args below meth c H locs cells slots Q (F0 m pc ls [.int 4, .int 0, .ref a0, .int 0, .ref (cb_al g 159)]) := by
  subst ha
  obtain ⟨hx, hb, hml, hown, hWs, hK, hAO, hA, hin, hZs⟩ := X
  obtain ⟨hP, hD, hS⟩ := hZ
  have hat : (kb_w al E n)[c1]? = some (al c1, .inl (g.2.1.1, 4, .inl f0)) := by rw [kb_w_at hc1, hE]
  intro T hT Y
  obtain ⟨scr, hs1, hs2, hs3, hs4, -, hs5, hs7⟩ := hZs.2
  have hc0 : H[cb_al g 159]? = some scr := by rw [hS.2.1 _ (Array.getElem?_eq_some_iff.mp hs1).1 hs7]; exact hs1
  have hcd : H[al c1]? = some (vp_cell g.2.1.1 (4, .inl f0)) := hP c1 _ hat
  obtain ⟨hs6, k0, hk0, cm0, hkk0⟩ := hs2
  obtain ⟨-, k1, hk1, cm1, hkk1⟩ := (hK.2 0 (g.2.1.1, .int) rfl).1 4 (fun j => .int (f0 j))
  obtain ⟨vm', X', step⟩ := Y.arraycopy hx hown (hWs _ hw args) (hWs _ cw_369 args) (hWs _ cw_368 args) (hWs _ cw_12 args) (src := cb_al g 159) (dst := al c1) (cs := scr) (cd := vp_cell g.2.1.1 (4, .inl f0)) (srcPos := 0) (destPos := 0) (n := 4) (by rw [hT]; exact hc0) (by rw [hT]; exact hcd)
    hs6 (fun _ h => by cases h) hs3 (fun h => by cases h) hk0 hk1 hkk0 hkk1 (by simp [refKind]) (by decide) (by decide) (by decide)
    (by show ¬ ((0 : Int32).toInt + (4 : Int32).toInt > (scr.slots.size : Int)); have e1 : (0 : Int32).toInt + (4 : Int32).toInt = 4 := by decide
        rw [e1]; omega)
    (by show ¬ ((0 : Int32).toInt + (4 : Int32).toInt > ((arrV g.2.1.1 4 (fun j => .int (f0 j))).slots.size : Int)); rw [arrV_size]; decide)
    (fun vm₁ _ i hi => by
      have hi : i < 4 := hi
      have e1 : scr.slots.getD (0 + i) .null = .int (Int32.ofInt (tz ((0 + i : Nat) : Int))) := by
        rw [Array.getD_eq_getD_getElem?, hs5 _ (by omega)]
        rfl
      refine ⟨?_, ?_⟩
      · show fits .int (scr.slots.getD (0 + i) .null) = true
        rw [e1]; rfl
      · show _
        first
          | (rw [show scr.slots.getD ((0 : Int32).toNatClampNeg + i) .null = .int (Int32.ofInt (tz ((0 + i : Nat) : Int))) from e1]; exact trivial)
          | trivial)
    (g := F0 m pc ls [.int 4, .int 0, .ref (al c1), .int 0, .ref (cb_al g 159)]) rfl (by rw [hml]; exact hls) (rest := []) rfl (by rw [hb]; exact d) hf (by show 2 * 0 + 0 + _ ≤ _; omega)
  have e1 : copied scr (vp_cell g.2.1.1 (4, .inl f0)) 0 0 4 = vp_cell g.2.1.1 (4, .inl (va_cpy (fun j => Int32.ofInt (tz j)) f0 0 0 4)) := va_copiedX (fun z => .int z) scr g.2.1.1 (n0 := 4) (fun j => Int32.ofInt (tz j)) f0 hs5 (by decide)
  rw [e1] at X' step
  have hlt : al c1 < H.size := (Array.getElem?_eq_some_iff.mp hcd).1
  have hheap : ((T.setVm vm').setCell (al c1) (vp_cell g.2.1.1 (4, .inl (va_cpy (fun j => Int32.ofInt (tz j)) f0 0 0 4)))).heap = H.setIfInBounds (al c1) (vp_cell g.2.1.1 (4, .inl (va_cpy (fun j => Int32.ofInt (tz j)) f0 0 0 4))) := by rw [← hT]; rfl
  have oq : ∀ q : Nat, q ≠ al c1 → (H.setIfInBounds (al c1) (vp_cell g.2.1.1 (4, .inl (va_cpy (fun j => Int32.ofInt (tz j)) f0 0 0 4))))[q]? = H[q]? := fun q hq => by simp [Array.getElem?_setIfInBounds, Ne.symm hq]
  have hP1 : va_P g.1 cb_cl ((kb_w al E n).set c1 (al c1, (.inl (g.2.1.1, 4, .inl (va_cpy (fun j => Int32.ofInt (tz j)) f0 0 0 4))))) (H.setIfInBounds (al c1) (vp_cell g.2.1.1 (4, .inl (va_cpy (fun j => Int32.ofInt (tz j)) f0 0 0 4)))) := hP.set hD hat (show (H.setIfInBounds (al c1) (vp_cell g.2.1.1 (4, .inl (va_cpy (fun j => Int32.ofInt (tz j)) f0 0 0 4))))[al c1]? = some (vp_cell g.2.1.1 (4, .inl (va_cpy (fun j => Int32.ofInt (tz j)) f0 0 0 4))) by simp [Array.getElem?_setIfInBounds, hlt]) oq
  have hD1 : va_D A ((kb_w al E n).set c1 (al c1, (.inl (g.2.1.1, 4, .inl (va_cpy (fun j => Int32.ofInt (tz j)) f0 0 0 4))))) := hD.set hat
  rw [kb_w_set hc1] at hP1 hD1
  obtain ⟨t, a1, b1⟩ := kk (va_up E c1 (.inl (g.2.1.1, 4, .inl (va_cpy (fun j => Int32.ofInt (tz j)) f0 0 0 4)))) _ _ (fun k hne => up_ne hne) (up_eq _ _ _) ⟨hP1, hD1, ⟨by simp; exact hS.1, fun q g1 g2 => by
      rw [oq q (fun e => g2 (by rw [e]; exact hD.2 c1 _ hat))]
      exact hS.2.1 q g1 g2, fun q hq => by
      rcases List.mem_append.mp hq with h | h
      · exact hS.2.2 q h
      · obtain ⟨z, -, hz⟩ := List.mem_map.mp h
        rw [← hz]
        exact hD.2 c1 _ hat⟩⟩ _ hheap X'
  exact ⟨t, step t a1, b1⟩
end KCP
/-! the first state -/
def sg0 : St := (fun _ => 0, [], fun _ => none, tz, fun _ => 0, 0)
theorem lw0 : LwI sg0 mz := by
  have z : ∀ c i, c ≠ 96 → c ≠ 143 → mz.1 c i = 0 := fun c i h1 h2 => mz0 h1 h2 i
  have xr : ∀ b, (b + 7 < 96 ∨ 96 < b) → b + 7 < 143 → XR mz b (fun _ => 0) := fun b h1 h2 => ⟨fun i _ _ => z _ _ (by omega) (by omega), fun i _ _ => z _ _ (by omega) (by omega), fun i _ _ => z _ _ (by omega) (by omega), fun i _ _ => z _ _ (by omega) (by omega), fun i _ _ => z _ _ (by omega) (by omega), fun i _ _ => z _ _ (by omega) (by omega), fun i _ _ => z _ _ (by omega) (by omega), fun i _ _ => z _ _ (by omega) (by omega)⟩
  have ro : ∀ b p wt, b ≠ 96 → b ≠ 143 → RO mz b p wt (8 * (sg0.1 0)) := fun b p wt h1 h2 => ⟨by rw [z _ _ h1 h2]; rfl, fun f a c => by have : f < 8 * 0 := c; omega⟩
  have hcn : ∀ p : Int → Bool, cntI p (8 * 0) = 0 := fun p => rfl
  refine ⟨⟨xr 1 (by decide) (by decide), ro 97 _ _ (by decide) (by decide), ro 101 _ _ (by decide) (by decide), ⟨z _ _ (by decide) (by decide), by rw [z _ _ (by decide) (by decide)]; decide, by rw [z _ _ (by decide) (by decide)]; decide, by decide, fun j u hu => (by cases hu)⟩, fun k hk => Or.inl ⟨z _ _ (by decide) (by decide), rfl⟩, fun i _ _ => (if_pos (Or.inl rfl) : (if (96 : Nat) = 96 ∨ (96 : Nat) = 143 then tz i else 0) = tz i), fun i _ _ => z _ _ (by decide) (by decide), z _ _ (by decide) (by decide), ⟨Or.inl (z _ _ (by decide) (by decide)), Or.inl (z _ _ (by decide) (by decide)), Or.inl (z _ _ (by decide) (by decide))⟩⟩, ⟨fun i _ _ => z _ _ (by decide) (by decide), ⟨z _ _ (by decide) (by decide), by decide, fun j u hu => (by cases hu)⟩, fun k _ _ => Or.inl ⟨z _ _ (by decide) (by decide), rfl⟩, fun i _ _ => (if_pos (Or.inr rfl) : (if (143 : Nat) = 96 ∨ (143 : Nat) = 143 then tz i else 0) = tz i), ⟨z _ _ (by decide) (by decide), z _ _ (by decide) (by decide), z _ _ (by decide) (by decide), z _ _ (by decide) (by decide)⟩, z _ _ (by decide) (by decide)⟩, ?_⟩
  refine ⟨?_, fun u hu => absurd hu List.not_mem_nil, fun k r hr => (by cases hr), fun i a b => ?_⟩
  · have e1 : nC (fun _ => (0 : Int)) = 0 := cntI_0 _
    have e2 : nS (fun _ => (0 : Int)) = 0 := cntI_0 _
    have e3 := p2_pos 0
    show VR (fun _ => (0 : Int))
    unfold VR
    rw [e1, e2]
    exact ⟨⟨by decide, by decide⟩, ⟨by decide, by decide⟩, ⟨by decide, by decide⟩, ⟨by decide, by decide⟩, fun o a b => by have b : o < 0 := b; omega, fun l a b => by have b : l < 0 := b; omega, fun l m a b c => by have c : m < 0 := c; omega, fun r a b => by have b : r < 0 := b; omega, fun k a b => ⟨⟨Int.le_refl 0, (show (0 : Int) ≤ 9 by decide)⟩, Int.le_refl 0, (show (0 : Int) ≤ 1 by decide)⟩, fun k a b => by have b : k < 0 := b; omega, by decide, by decide, ⟨by decide, e3⟩, ⟨by decide, e3⟩⟩
  · show 0 ≤ tz i ∧ tz i ≤ cb_mt i.toNat
    rcases (show i = 0 ∨ i = 1 ∨ i = 2 ∨ i = 3 by omega) with e | e | e | e <;> rw [e] <;> decide
