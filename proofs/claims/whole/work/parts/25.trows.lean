theorem lac_native : Cond.native arraycopyName ∈ lw_tbl := (mt_3 _ (List.mem_of_getElem? (i := 123) (by decide +kernel)))
theorem lac_static : Cond.static arraycopyName ∈ lw_tbl := (mt_3 _ (List.mem_of_getElem? (i := 122) (by decide +kernel)))
theorem lac_init : Cond.initialized "java/lang/System" ∈ lw_tbl := (mt_1 _ (List.mem_of_getElem? (i := 14) (by decide +kernel)))
theorem lac_X0_61 : Cond.methodLink RX0 61 arraycopyName ∈ lw_tbl := (mt_3 _ (List.mem_of_getElem? (i := 121) (by decide +kernel)))
theorem lac_J7_150 : Cond.methodLink RJ7 150 arraycopyName ∈ lw_tbl := (mt_4 _ (List.mem_of_getElem? (i := 155) (by decide +kernel)))
theorem lac_X8_305 : Cond.methodLink RX8 305 arraycopyName ∈ lw_tbl := (mt_4 _ (List.mem_of_getElem? (i := 224) (by decide +kernel)))
theorem lac_X3_28 : Cond.methodLink RX3 28 arraycopyName ∈ lw_tbl := (mt_4 _ (List.mem_of_getElem? (i := 237) (by decide +kernel)))
/-! texts in their rows, copies of stretches, new cells -/
theorem txr_neg {X : CX} {x : Int32} (h : x < 0) : va_rf (txr X x) = .null := by simp [txr, h, va_rf]
theorem txr_pos {X : CX} {x : Int32} (h : ¬ x < 0) : va_rf (txr X x) = .ref (cx_n X + (106 + 3 * x.toNatClampNeg)) := by simp [txr, h, va_rf]
theorem txr_nI {X : CX} {j : Nat} (h : j < 2 ^ 31) : txr X (nI j) = some (cx_n X + (106 + 3 * j)) := by
  have h1 : ¬ nI j < 0 := nI_pos h
  simp [txr, h1, nI_clamp h]
theorem nTx_lt (mem : Mm) : nTx mem < 2 ^ 31 := by
  unfold nTx
  have := Int32.toInt_lt (mem 0 1000)
  have h2 : (mem 0 1000).toNatClampNeg = (mem 0 1000).toInt.toNat := rfl
  omega
abbrev CallsT (X : CX) (d : Nat) (M : MT) (av : List Value) (mem : Mm) (K : Int32 → Mm → Prop) : Prop := Calls X d 0 0 M av mem (fun r m => ∃ x : Int32, r = some (va_rf (txr X x)) ∧ K x m)
def muC (mem : Mm) (k1 k2 a b c : Nat) : Mm := fun q => if q = k2 then va_cpy (mem k1) (mem k2) a b c else mem q
section GX
variable {X : CX} {d mc ms : Nat} {M : MT} {pc : Nat} {lc : List (Option Value)} {st : List Value} {cn sn : Nat} {mem : Mm} {Q : Option Value → (Nat → va_E) → Nat → Prop} {ce : Nat → va_E} {N : Nat}
theorem gc_astoreN_n {q : Fin 4} (hd : decode M.2.1 pc = .ok (.astore_n q, 1)) (hi : (q : Nat) < M.2.2.1) (k : GoC X d mc ms M (pc + 1) (lc.set (q : Nat) (some .null)) st cn sn ce N Q) : GoC X d mc ms M pc lc (.null :: st) cn sn ce N Q := by
  intro p e s m args below meth c H locs ls F hS hH hl
  obtain ⟨ls', e1, h1⟩ := hl.store (v := .null) hi rfl
  have kk := k p e s m args below meth c H locs ls' F hS hH h1
  intro T hT Y
  obtain ⟨t, a, b⟩ := kk T hT Y
  refine ⟨t, ?_, b⟩
  have hex := F.2.1
  have hb := F.2.2.1
  jvm_step Y.here [Y.here.top, ↓top_set Y.here.top, hex, hb, hd, e1, Value.isRef]
  exact a
theorem gc_astoreN {i : Nat} (hd : decode M.2.1 pc = .ok (.astore i, 2)) (hi : i < M.2.2.1) (k : GoC X d mc ms M (pc + 2) (lc.set i (some .null)) st cn sn ce N Q) : GoC X d mc ms M pc lc (.null :: st) cn sn ce N Q := by
  intro p e s m args below meth c H locs ls F hS hH hl
  obtain ⟨ls', e1, h1⟩ := hl.store (v := .null) hi rfl
  have kk := k p e s m args below meth c H locs ls' F hS hH h1
  intro T hT Y
  obtain ⟨t, a, b⟩ := kk T hT Y
  refine ⟨t, ?_, b⟩
  have hex := F.2.1
  have hb := F.2.2.1
  jvm_step Y.here [Y.here.top, ↓top_set Y.here.top, hex, hb, hd, e1, Value.isRef]
  exact a
theorem go_texts {x : Int32} {a : Nat} (i : Nat) (ha : isAl a) (hd : decode M.2.1 pc = .ok (.aaload, 1)) (hx : x = nI i) (hi : i < 14) (k1 : mem (a + 2) i < 0 → GoC X d mc ms M (pc + 1) lc (.null :: st) cn sn (cellAt X mem) (sz mem) Q) (k2 : ¬ mem (a + 2) i < 0 → GoC X d mc ms M (pc + 1) lc (.ref (cx_n X + (106 + 3 * (mem (a + 2) i).toNatClampNeg)) :: st) cn sn (cellAt X mem) (sz mem) Q) : GoC X d mc ms M pc lc (.int x :: .ref (cx_n X + (a + 2)) :: st) cn sn (cellAt X mem) (sz mem) Q := by
  refine go_aaldT i hd (sz_lt (by rcases ha with rfl | rfl | rfl <;> decide)) (al_tx ha) hx hi (by decide) ?_
  by_cases h : mem (a + 2) i < 0
  · rw [txr_neg h]; exact k1 h
  · rw [txr_pos h]; exact k2 h
theorem gc_aastN {x : Int32} {k n t : Nat} {f : Nat → Option Nat} {C : String} (i : Nat) (ht : t < 8) (hty : cx_ty t = .object C) (hd : decode M.2.1 pc = .ok (.aastore, 1)) (hN : k < N) (he : ce k = .inl (cx_a X t, n, .inr (.inr (.inr (.inr f))))) (hx : x = nI i) (hi : i < n) (hn : n ≤ 100000) (kt : GoC X d mc ms M (pc + 1) lc st cn sn (ceU ce k (.inl (cx_a X t, n, .inr (.inr (.inr (.inr (va_up f i none))))))) N Q) : GoC X d mc ms M pc lc (.null :: .int x :: .ref (cx_n X + k) :: st) cn sn ce N Q := by
  intro p e s m args below meth c H locs ls F hS hH hl
  have hat := hH.2 k hN
  rw [he] at hat
  obtain ⟨h1, h2⟩ := ix_in hx hi hn
  have hA := (cx_arr F.K (t := t) ht).1
  rw [hty] at hA
  refine va_WaastN (C := C) F.2.1 F.2.2.1 hat (hA n (fun j => va_rf (f j))) (fun h => by cases h) (by show ¬ (x < 0 ∨ (arrV _ _ _).slots.size ≤ _); rw [arrV_size]; exact h1) rfl rfl hd fun H1 e1 z oq => ?_
  rw [h2] at e1
  have hcell : va_at (cx_D X) vwCl (cx_n X + k, .inl (cx_a X t, n, .inr (.inr (.inr (.inr (va_up f i none)))))) H1 := by
    show H1[cx_n X + k]? = some (vp_cell _ _)
    rw [e1]
    rw [vp_cell_q, vp_cell_q, arrV_store]
    congr 2
    funext q
    by_cases hq : q = i
    · subst hq
      simp [updV, va_up, va_rf]
    · simp [updV, va_up, hq]
  exact kt p e s m args below meth c H1 _ ls F (hS.put z oq (Nat.le_add_right _ _)) (hH.set hcell z oq) hl
theorem cell_txu {k i n t : Nat} {v : Int32} (hkd : kd k = (3, t, n)) : cellR X (upd (mem k) i v) k = .inl (cx_a X t, n, .inr (.inr (.inr (.inr (va_up (fun i => txr X (mem k i)) i (txr X v)))))) := by
  simp only [cellR, hkd]
  have e : (fun j => txr X (upd (mem k) i v j)) = va_up (fun i => txr X (mem k i)) i (txr X v) := by
    funext q
    by_cases hq : q = i
    · subst hq; simp [upd, va_up]
    · simp [upd, va_up, hq]
  rw [e]
theorem go_texN {x v : Int32} {a : Nat} (i : Nat) (ha : isAl a) (hd : decode M.2.1 pc = .ok (.aastore, 1)) (hx : x = nI i) (hi : i < 14) (hv : v < 0) (kt : ∀ m1 : Mm, m1 = mu mem (a + 2) i v → GoC X d mc ms M (pc + 1) lc st cn sn (cellAt X m1) (sz m1) Q) : GoC X d mc ms M pc lc (.null :: .int x :: .ref (cx_n X + (a + 2)) :: st) cn sn (cellAt X mem) (sz mem) Q := by
  refine gc_aastN (t := 5) i (by decide) rfl hd (sz_lt (by rcases ha with rfl | rfl | rfl <;> decide)) (cell_tx (al_tx ha)) hx hi (by decide) ?_
  have kt := kt _ rfl
  rw [sz_mu _ _ _ (by omega), cell_mu, cell_txu (al_tx ha)] at kt
  have e : txr X v = none := by simp [txr, hv]
  rw [e] at kt
  exact kt
theorem go_texR {x v : Int32} {a : Nat} (i : Nat) (ha : isAl a) (hd : decode M.2.1 pc = .ok (.aastore, 1)) (hx : x = nI i) (hi : i < 14) (hv : ¬ v < 0) (hj : v.toNatClampNeg < nTx mem) (kt : ∀ m1 : Mm, m1 = mu mem (a + 2) i v → GoC X d mc ms M (pc + 1) lc st cn sn (cellAt X m1) (sz m1) Q) : GoC X d mc ms M pc lc (.ref (cx_n X + (106 + 3 * v.toNatClampNeg)) :: .int x :: .ref (cx_n X + (a + 2)) :: st) cn sn (cellAt X mem) (sz mem) Q := by
  refine gc_aast (t := 5) (ci := 6) (r := (RX6, TX6, 4)) i (by decide) rfl hd (sz_lt (by rcases ha with rfl | rfl | rfl <;> decide)) (cell_tx (al_tx ha)) (by have := tx_lt hj; omega) (cell_ob (kd_tx _)) rfl hx hi (by decide) ?_
  have kt := kt _ rfl
  rw [sz_mu _ _ _ (by omega), cell_mu, cell_txu (al_tx ha)] at kt
  have e : txr X v = some (cx_n X + (106 + 3 * v.toNatClampNeg)) := by simp [txr, hv]
  rw [e] at kt
  exact kt
theorem go_texJ {x : Int32} {a j : Nat} (i : Nat) (ha : isAl a) (hd : decode M.2.1 pc = .ok (.aastore, 1)) (hx : x = nI i) (hi : i < 14) (hj : j < nTx mem) (kt : ∀ m1 : Mm, m1 = mu mem (a + 2) i (nI j) → GoC X d mc ms M (pc + 1) lc st cn sn (cellAt X m1) (sz m1) Q) : GoC X d mc ms M pc lc (.ref (cx_n X + (106 + 3 * j)) :: .int x :: .ref (cx_n X + (a + 2)) :: st) cn sn (cellAt X mem) (sz mem) Q := by
  have hlt := nTx_lt mem
  have e : (nI j).toNatClampNeg = j := nI_clamp (by omega)
  have := go_texR (X := X) (d := d) (mc := mc) (ms := ms) (M := M) (pc := pc) (lc := lc) (st := st) (cn := cn) (sn := sn) (mem := mem) (Q := Q) (v := nI j) i ha hd hx hi (nI_pos (by omega)) (by rw [e]; exact hj) kt
  rw [e] at this
  exact this
theorem go_tretN {x : Int32} {K : Int32 → Mm → Prop} (hd : decode M.2.1 pc = .ok (.areturn, 1)) (hr : M.2.2.2 = some (.object "SkittleMen$Text")) (h1 : cn ≤ mc) (h2 : sn ≤ ms) (hx : x < 0) (hq : K x mem) : GoC X d mc ms M pc lc [.null] cn sn (cellAt X mem) (sz mem) (qm X (fun r m => ∃ x : Int32, r = some (va_rf (txr X x)) ∧ K x m)) := gc_aret hd hr (Or.inl ⟨_, rfl⟩) (Or.inl rfl) h1 h2 ⟨mem, rfl, rfl, x, by rw [txr_neg hx], hq⟩
theorem go_tretR {x : Int32} {K : Int32 → Mm → Prop} (hd : decode M.2.1 pc = .ok (.areturn, 1)) (hr : M.2.2.2 = some (.object "SkittleMen$Text")) (h1 : cn ≤ mc) (h2 : sn ≤ ms) (hx : ¬ x < 0) (hq : K x mem) : GoC X d mc ms M pc lc [.ref (cx_n X + (106 + 3 * x.toNatClampNeg))] cn sn (cellAt X mem) (sz mem) (qm X (fun r m => ∃ x : Int32, r = some (va_rf (txr X x)) ∧ K x m)) := gc_aret hd hr (Or.inl ⟨_, rfl⟩) (Or.inr ⟨_, rfl⟩) h1 h2 ⟨mem, rfl, rfl, x, by rw [txr_pos hx], hq⟩
theorem go_cVT {index d' k c z : Nat} {y : MT} {As rest : List Value} {r0 : vw_C} {K : Int32 → Mm → Prop} (hd : decode M.2.1 pc = .ok (.invokevirtual index, 3)) (hlk : LkM M.1.cls index y.1) (hok : OkV y As.length) (hdd : d' + 1 ≤ d) (hk : k < sz mem) (hkd : kd k = (0, c, z)) (hcl : vwCl[c]? = some r0) (hr0 : r0.1 = y.1.cls) (hc : CallsT X d' y (.ref (cx_n X + k) :: As) mem K) (hst : st = As.reverse ++ .ref (cx_n X + k) :: rest) (hcat : (rest.map fun v => v.category).sum ≤ 8)
    (k1 : ∀ (v : Int32) (m1 : Mm), v < 0 → K v m1 → GoC X d 0 0 M (pc + 3) lc (.null :: rest) 0 0 (cellAt X m1) (sz m1) Q) (k2 : ∀ (v : Int32) (m1 : Mm), ¬ v < 0 → K v m1 → GoC X d 0 0 M (pc + 3) lc (.ref (cx_n X + (106 + 3 * v.toNatClampNeg)) :: rest) 0 0 (cellAt X m1) (sz m1) Q) : GoC X d 0 0 M pc lc st 0 0 (cellAt X mem) (sz mem) Q := by
  refine go_callV hd hlk hok hdd (Nat.le_refl 0) (Nat.le_refl 0) hk hkd hcl hr0 hst hcat hc (fun r m1 hq => ?_)
  obtain ⟨v, rfl, h⟩ := hq
  by_cases hv : v < 0
  · have := k1 v m1 hv h
    rw [← txr_neg (X := X) hv] at this
    exact this
  · have := k2 v m1 hv h
    rw [← txr_pos (X := X) hv] at this
    exact this
/-- a stretch of numbers is copied -/
theorem gc_acopy {index k1 k2 n1 n2 : Nat} {f g : Nat → Int32} {x y z : Int32} (a b c0 : Nat) (hd : decode M.2.1 pc = .ok (.invokestatic index, 3)) (hlk : Cond.methodLink M.1.cls index arraycopyName ∈ lw_tbl) (hnat : Cond.native arraycopyName ∈ lw_tbl) (hstat : Cond.static arraycopyName ∈ lw_tbl) (hini : Cond.initialized "java/lang/System" ∈ lw_tbl) (hdd : 1 ≤ d) (hN1 : k1 < N) (he1 : ce k1 = .inl (cx_a X 0, n1, .inl f)) (hN2 : k2 < N) (he2 : ce k2 = .inl (cx_a X 0, n2, .inl g)) (hx : x = nI a) (hy : y = nI b) (hz : z = nI c0) (h1 : a + c0 ≤ n1) (h2 : b + c0 ≤ n2) (hn1 : n1 ≤ 100000) (hn2 : n2 ≤ 100000) (hcat : (st.map fun v => v.category).sum ≤ 8) (kt : GoC X d mc ms M (pc + 3) lc st cn sn (ceU ce k2 (.inl (cx_a X 0, n2, .inl (va_cpy f g a b c0)))) N Q) : GoC X d mc ms M pc lc (.int z :: .int y :: .ref (cx_n X + k2) :: .int x :: .ref (cx_n X + k1) :: st) cn sn ce N Q := by
  intro p e s m args below meth c H locs ls F hS hH hl
  have hW := F.2.2.2.2.2.2.2.1
  have hc0 := hH.2 k1 hN1
  rw [he1] at hc0
  have hc1 := hH.2 k2 hN2
  rw [he2] at hc1
  have hA := (cx_arr F.K (t := 0) (by decide)).1
  have nn : ∀ j : Nat, j ≤ 100000 → (nI j).toInt = (j : Int) ∧ ¬ nI j < 0 ∧ (nI j).toNatClampNeg = j := fun j hj => ⟨nI_toInt (by omega), nI_pos (by omega), nI_clamp (by omega)⟩
  obtain ⟨a1, a2, a3⟩ := nn a (by omega)
  obtain ⟨b1, b2, b3⟩ := nn b (by omega)
  obtain ⟨c1, c2, c3⟩ := nn c0 (by omega)
  intro T hT Y
  obtain ⟨-, kc0, hk0, cm0, hkk0⟩ := hA n1 (fun j => .int (f j))
  obtain ⟨-, kc1, hk1, cm1, hkk1⟩ := hA n2 (fun j => .int (g j))
  obtain ⟨vm', Y', step⟩ := Y.arraycopy F.2.1 F.2.2.2.2.2.2.1 (cx_w F.1 hW hlk rfl) (cx_w F.1 hW hnat rfl) (cx_w F.1 hW hstat rfl) (cx_w F.1 hW hini rfl) (src := cx_n X + k1) (dst := cx_n X + k2) (cs := vp_cell (cx_a X 0) (n1, .inl f)) (cd := vp_cell (cx_a X 0) (n2, .inl g)) (srcPos := x) (destPos := y) (n := z) (by rw [hT]; exact hc0) (by rw [hT]; exact hc1)
    (fun _ h => by cases h) (fun _ h => by cases h) (fun h => by cases h) (fun h => by cases h) hk0 hk1 hkk0 hkk1 (by simp [refKind, cx_ty]) (by rw [hx]; exact a2) (by rw [hy]; exact b2) (by rw [hz]; exact c2)
    (by rw [hx, hz, a1, c1]; show ¬ _ > ((arrV _ n1 (fun j => .int (f j))).slots.size : Int); rw [arrV_size]; omega)
    (by rw [hy, hz, b1, c1]; show ¬ _ > ((arrV _ n2 (fun j => .int (g j))).slots.size : Int); rw [arrV_size]; omega)
    (fun vm₁ _ i hi => by
      rw [hz, c3] at hi
      have e9 : (vp_cell (cx_a X 0) (n1, .inl f)).slots.getD (x.toNatClampNeg + i) .null = .int (f (x.toNatClampNeg + i)) := by
        show (arrV _ n1 (fun j => .int (f j))).slots.getD _ _ = _
        rw [hx, a3, Array.getD_eq_getD_getElem?, arrV_read _ _ (by omega)]
        rfl
      refine ⟨?_, ?_⟩
      · rw [e9]
        rfl
      · rw [e9]
        exact trivial)
    (g := F0 m pc ls (.int z :: .int y :: .ref (cx_n X + k2) :: .int x :: .ref (cx_n X + k1) :: st)) rfl (by show ls.size = _; rw [hl.1, F.2.2.2.2.2.1]) (rest := st) rfl (by rw [F.2.2.1]; exact hd) (by show 1 ≤ d; omega) (by
      have h9 : nativeFrameWords "java/lang/System" "arraycopy" 5 + 11 ≤ 32 := by decide +kernel
      show 2 * 0 + _ + _ ≤ 41 * d + 32
      omega)
  have e1 : copied (vp_cell (cx_a X 0) (n1, .inl f)) (vp_cell (cx_a X 0) (n2, .inl g)) x y z = vp_cell (cx_a X 0) (n2, .inl (va_cpy f g a b c0)) := by
    have := va_copied (fun z => Value.int z) (cx_a X 0) (cx_a X 0) (n0 := n1) (n1 := n2) (sp := a) (dp := b) (n := c0) f g h1
    rw [vp_cell_i, vp_cell_i, vp_cell_i, ← this, hx, hy, hz]
    unfold copied
    rw [a3, b3, c3]
  rw [e1] at Y' step
  have hl9 : cx_n X + k2 < H.size := (Array.getElem?_eq_some_iff.mp hc1).1
  have hheap : ((T.setVm vm').setCell (cx_n X + k2) (vp_cell (cx_a X 0) (n2, .inl (va_cpy f g a b c0)))).heap = H.setIfInBounds (cx_n X + k2) (vp_cell (cx_a X 0) (n2, .inl (va_cpy f g a b c0))) := by rw [← hT]; rfl
  have oq : ∀ q : Nat, q ≠ cx_n X + k2 → (H.setIfInBounds (cx_n X + k2) (vp_cell (cx_a X 0) (n2, .inl (va_cpy f g a b c0))))[q]? = H[q]? := fun q hq => by simp [Array.getElem?_setIfInBounds, Ne.symm hq]
  have hcell : va_at (cx_D X) vwCl (cx_n X + k2, .inl (cx_a X 0, n2, .inl (va_cpy f g a b c0))) (H.setIfInBounds (cx_n X + k2) (vp_cell (cx_a X 0) (n2, .inl (va_cpy f g a b c0)))) := by
    show (H.setIfInBounds (cx_n X + k2) _)[cx_n X + k2]? = some _
    simp [Array.getElem?_setIfInBounds, hl9]
  have kk := kt p e s m args below meth c (H.setIfInBounds (cx_n X + k2) (vp_cell (cx_a X 0) (n2, .inl (va_cpy f g a b c0)))) (locs ++ ((vp_cell (cx_a X 0) (n1, .inl f)).stretch x.toNatClampNeg z.toNatClampNeg).zipIdx.map fun q => ⟨cx_n X + k2, y.toNatClampNeg + q.2⟩) ls F ⟨by simp; exact hS.1, fun q g1 g2 => by
      rw [oq q (fun e => g2 (by rw [e]; exact Nat.le_add_right _ _))]
      exact hS.2.1 q g1 g2, fun q hq => by
      rcases List.mem_append.mp hq with h | h
      · exact hS.2.2 q h
      · obtain ⟨z9, -, hz9⟩ := List.mem_map.mp h
        rw [← hz9]
        exact Nat.le_add_right (cx_n X) k2⟩ (hH.set hcell (by simp) oq) hl
  obtain ⟨t, a9, b9⟩ := kk _ hheap Y'
  exact ⟨t, step t a9, b9⟩
theorem go_acopy {index k1 k2 n1 n2 : Nat} {x y z : Int32} (a b c0 : Nat) (hd : decode M.2.1 pc = .ok (.invokestatic index, 3)) (hlk : Cond.methodLink M.1.cls index arraycopyName ∈ lw_tbl) (hdd : 1 ≤ d) (hk1 : kd k1 = (1, 0, n1)) (hk2 : kd k2 = (1, 0, n2)) (hx : x = nI a) (hy : y = nI b) (hz : z = nI c0) (h1 : a + c0 ≤ n1) (h2 : b + c0 ≤ n2) (hne : k2 ≠ 0) (hcat : (st.map fun v => v.category).sum ≤ 8) (kt : ∀ m1 : Mm, m1 = muC mem k1 k2 a b c0 → GoC X d mc ms M (pc + 3) lc st cn sn (cellAt X m1) (sz m1) Q) : GoC X d mc ms M pc lc (.int z :: .int y :: .ref (cx_n X + k2) :: .int x :: .ref (cx_n X + k1) :: st) cn sn (cellAt X mem) (sz mem) Q := by
  have l1 := kd_len hk1
  have l2 := kd_len hk2
  refine gc_acopy a b c0 hd hlk lac_native lac_static lac_init hdd (sz_lt l1.2) (cell_ar hk1) (sz_lt l2.2) (cell_ar hk2) hx hy hz h1 h2 (by omega) (by omega) hcat ?_
  have kt := kt _ rfl
  have e1 : sz (muC mem k1 k2 a b c0) = sz mem := by simp [sz, nTx, muC, Ne.symm hne]
  have e2 : cellAt X (muC mem k1 k2 a b c0) = ceU (cellAt X mem) k2 (.inl (cx_a X 0, n2, .inl (va_cpy (mem k1) (mem k2) a b c0))) := by
    funext q
    by_cases h : q = k2
    · subst h
      rw [ceU_s]
      simp [cellAt, cellR, hk2, muC]
    · rw [ceU_n _ _ _ h]
      simp [cellAt, muC, h]
  rw [e1, e2] at kt
  exact kt
end GX
