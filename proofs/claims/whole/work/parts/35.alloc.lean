theorem lc_L_7 : Cond.classLink RL 7 RX8 ∈ lw_tbl := (mt_1 _ (List.mem_of_getElem? (i := 20) (by decide +kernel)))
theorem lc_X8_7 : Cond.classLink RX8 7 RX0 ∈ lw_tbl := (mt_1 _ (List.mem_of_getElem? (i := 28) (by decide +kernel)))
theorem lc_X0_9 : Cond.classLink RX0 9 RX1 ∈ lw_tbl := (mt_1 _ (List.mem_of_getElem? (i := 34) (by decide +kernel)))
theorem lc_X0_36 : Cond.classLink RX0 36 RX6 ∈ lw_tbl := (mt_1 _ (List.mem_of_getElem? (i := 36) (by decide +kernel)))
theorem lc_X8_26 : Cond.classLink RX8 26 RX2 ∈ lw_tbl := (mt_1 _ (List.mem_of_getElem? (i := 121) (by decide +kernel)))
theorem lc_X8_33 : Cond.classLink RX8 33 RX7 ∈ lw_tbl := (mt_1 _ (List.mem_of_getElem? (i := 165) (by decide +kernel)))
theorem lc_X7_9 : Cond.classLink RX7 9 RX5 ∈ lw_tbl := (mt_1 _ (List.mem_of_getElem? (i := 171) (by decide +kernel)))
theorem lc_X8_45 : Cond.classLink RX8 45 RX3 ∈ lw_tbl := (mt_1 _ (List.mem_of_getElem? (i := 232) (by decide +kernel)))
theorem lc_X8_51 : Cond.classLink RX8 51 RX4 ∈ lw_tbl := (mt_1 _ (List.mem_of_getElem? (i := 234) (by decide +kernel)))
theorem lc_X4_13 : Cond.classLink RX4 13 RX1 ∈ lw_tbl := (mt_2 _ (List.mem_of_getElem? (i := 19) (by decide +kernel)))
theorem lc_X4_20 : Cond.classLink RX4 20 RX3 ∈ lw_tbl := (mt_2 _ (List.mem_of_getElem? (i := 21) (by decide +kernel)))
theorem lc_X7_81 : Cond.classLink RX7 81 RX6 ∈ lw_tbl := (mt_4 _ (List.mem_of_getElem? (i := 143) (by decide +kernel)))
theorem lc_L_10 : Cond.classLink RL 10 RX9 ∈ lw_tbl := (mt_5 _ (List.mem_of_getElem? (i := 34) (by decide +kernel)))
theorem li_X8 : Cond.instantiable RX8 12 ∈ lw_tbl := (mt_1 _ (List.mem_of_getElem? (i := 21) (by decide +kernel)))
theorem lz_X8 : Cond.initialized RX8 ∈ lw_tbl := (mt_1 _ (List.mem_of_getElem? (i := 1) (by decide +kernel)))
theorem li_X0 : Cond.instantiable RX0 10 ∈ lw_tbl := (mt_1 _ (List.mem_of_getElem? (i := 29) (by decide +kernel)))
theorem lz_X0 : Cond.initialized RX0 ∈ lw_tbl := (mt_1 _ (List.mem_of_getElem? (i := 2) (by decide +kernel)))
theorem li_X1 : Cond.instantiable RX1 6 ∈ lw_tbl := (mt_1 _ (List.mem_of_getElem? (i := 38) (by decide +kernel)))
theorem lz_X1 : Cond.initialized RX1 ∈ lw_tbl := (mt_1 _ (List.mem_of_getElem? (i := 3) (by decide +kernel)))
theorem li_X2 : Cond.instantiable RX2 11 ∈ lw_tbl := (mt_1 _ (List.mem_of_getElem? (i := 122) (by decide +kernel)))
theorem lz_X2 : Cond.initialized RX2 ∈ lw_tbl := (mt_1 _ (List.mem_of_getElem? (i := 5) (by decide +kernel)))
theorem li_X7 : Cond.instantiable RX7 14 ∈ lw_tbl := (mt_1 _ (List.mem_of_getElem? (i := 166) (by decide +kernel)))
theorem lz_X7 : Cond.initialized RX7 ∈ lw_tbl := (mt_1 _ (List.mem_of_getElem? (i := 6) (by decide +kernel)))
theorem li_X5 : Cond.instantiable RX5 2 ∈ lw_tbl := (mt_1 _ (List.mem_of_getElem? (i := 172) (by decide +kernel)))
theorem lz_X5 : Cond.initialized RX5 ∈ lw_tbl := (mt_1 _ (List.mem_of_getElem? (i := 7) (by decide +kernel)))
theorem li_X3 : Cond.instantiable RX3 3 ∈ lw_tbl := (mt_1 _ (List.mem_of_getElem? (i := 236) (by decide +kernel)))
theorem lz_X3 : Cond.initialized RX3 ∈ lw_tbl := (mt_1 _ (List.mem_of_getElem? (i := 8) (by decide +kernel)))
theorem li_X4 : Cond.instantiable RX4 4 ∈ lw_tbl := (mt_2 _ (List.mem_of_getElem? (i := 14) (by decide +kernel)))
theorem lz_X4 : Cond.initialized RX4 ∈ lw_tbl := (mt_1 _ (List.mem_of_getElem? (i := 9) (by decide +kernel)))
theorem li_X6 : Cond.instantiable RX6 4 ∈ lw_tbl := (mt_2 _ (List.mem_of_getElem? (i := 141) (by decide +kernel)))
theorem lz_X6 : Cond.initialized RX6 ∈ lw_tbl := (mt_1 _ (List.mem_of_getElem? (i := 12) (by decide +kernel)))
theorem li_X9 : Cond.instantiable RX9 36 ∈ lw_tbl := (mt_5 _ (List.mem_of_getElem? (i := 35) (by decide +kernel)))
theorem lz_X9 : Cond.initialized RX9 ∈ lw_tbl := (mt_1 _ (List.mem_of_getElem? (i := 10) (by decide +kernel)))
theorem lo_X1 : Cond.arrayOver (.object RX1) ∈ lw_tbl := (mt_1 _ (List.mem_of_getElem? (i := 35) (by decide +kernel)))
theorem lo_X6 : Cond.arrayOver (.object RX6) ∈ lw_tbl := (mt_1 _ (List.mem_of_getElem? (i := 37) (by decide +kernel)))
theorem lo_X3 : Cond.arrayOver (.object RX3) ∈ lw_tbl := (mt_1 _ (List.mem_of_getElem? (i := 233) (by decide +kernel)))
theorem lo_X4 : Cond.arrayOver (.object RX4) ∈ lw_tbl := (mt_1 _ (List.mem_of_getElem? (i := 235) (by decide +kernel)))
theorem la_int : Cond.arrayClass .int ∈ lw_tbl := (mt_1 _ (List.mem_of_getElem? (i := 74) (by decide +kernel)))
theorem la_byte : Cond.arrayClass .byte ∈ lw_tbl := (mt_1 _ (List.mem_of_getElem? (i := 187) (by decide +kernel)))
theorem la_char : Cond.arrayClass .char ∈ lw_tbl := (mt_5 _ (List.mem_of_getElem? (i := 149) (by decide +kernel)))
theorem la_boolean : Cond.arrayClass .boolean ∈ lw_tbl := (mt_5 _ (List.mem_of_getElem? (i := 150) (by decide +kernel)))
theorem lob_i : Cond.instanceMethod Lib.objectInit ∈ lw_tbl := (mt_1 _ (List.mem_of_getElem? (i := 26) (by decide +kernel)))
theorem lob_c : Cond.code Lib.objectInit ⟨#[0xb1]⟩ 1 none ∈ lw_tbl := (mt_1 _ (List.mem_of_getElem? (i := 27) (by decide +kernel)))
theorem lob_X8_1 : Cond.methodLink RX8 1 Lib.objectInit ∈ lw_tbl := (mt_1 _ (List.mem_of_getElem? (i := 25) (by decide +kernel)))
theorem lob_X0_3 : Cond.methodLink RX0 3 Lib.objectInit ∈ lw_tbl := (mt_1 _ (List.mem_of_getElem? (i := 33) (by decide +kernel)))
theorem lob_X1_3 : Cond.methodLink RX1 3 Lib.objectInit ∈ lw_tbl := (mt_1 _ (List.mem_of_getElem? (i := 42) (by decide +kernel)))
theorem lob_X2_3 : Cond.methodLink RX2 3 Lib.objectInit ∈ lw_tbl := (mt_1 _ (List.mem_of_getElem? (i := 126) (by decide +kernel)))
theorem lob_X7_3 : Cond.methodLink RX7 3 Lib.objectInit ∈ lw_tbl := (mt_1 _ (List.mem_of_getElem? (i := 170) (by decide +kernel)))
theorem lob_X5_3 : Cond.methodLink RX5 3 Lib.objectInit ∈ lw_tbl := (mt_1 _ (List.mem_of_getElem? (i := 176) (by decide +kernel)))
theorem lob_X3_3 : Cond.methodLink RX3 3 Lib.objectInit ∈ lw_tbl := (mt_2 _ (List.mem_of_getElem? (i := 0) (by decide +kernel)))
theorem lob_X4_1 : Cond.methodLink RX4 1 Lib.objectInit ∈ lw_tbl := (mt_2 _ (List.mem_of_getElem? (i := 18) (by decide +kernel)))
theorem lob_X6_1 : Cond.methodLink RX6 1 Lib.objectInit ∈ lw_tbl := (mt_4 _ (List.mem_of_getElem? (i := 159) (by decide +kernel)))
theorem lob_X9_1 : Cond.methodLink RX9 1 Lib.objectInit ∈ lw_tbl := (mt_5 _ (List.mem_of_getElem? (i := 39) (by decide +kernel)))
section GA
variable {X : CX} {d mc ms : Nat} {M : MT} {pc : Nat} {lc : List (Option Value)} {st : List Value} {cn sn : Nat} {mem : Mm} {Q : Option Value → (Nat → va_E) → Nat → Prop} {ce : Nat → va_E} {N : Nat}
theorem gc_objInit {index a : Nat} (hd : decode M.2.1 pc = .ok (.invokespecial index, 3)) (hlk : Cond.methodLink M.1.cls index Lib.objectInit ∈ lw_tbl) (hdd : 1 ≤ d) (hcat : (st.map fun v => v.category).sum ≤ 8) (kt : GoC X d mc ms M (pc + 3) lc st cn sn ce N Q) : GoC X d mc ms M pc lc (.ref a :: st) cn sn ce N Q := by
  intro p e s m args below meth c H locs ls F hS hH hl
  have kk := kt p e s m args below meth c H locs ls F hS hH hl
  have hW := F.2.2.2.2.2.2.2.1
  exact W.objInit F.2.1 F.2.2.1 F.2.2.2.2.2.2.1 (cx_w F.1 hW hlk rfl) (cx_w F.1 hW lob_i rfl) (cx_w F.1 hW lob_c rfl) (g := F0 m pc ls (.ref a :: st)) rfl (by rw [F.2.2.2.2.2.1]; exact hl.1) rfl hd hdd (by show 2 * 0 + _ + 12 ≤ 41 * d + 32; omega) kk
theorem va_S.grow {A : Nat → Prop} {H0 H H1 : Heap} {locs : List Loc} (hS : va_S A H0 H locs) (hz : H1.size = H.size + 1) (ho : ∀ q : Nat, q < H.size → H1[q]? = H[q]?) : va_S A H0 H1 locs := ⟨Nat.le_trans hS.1 (by omega), fun q h1 h2 => (ho q (Nat.lt_of_lt_of_le h1 hS.1)).trans (hS.2.1 q h1 h2), hS.2.2⟩
theorem gc_new {index ci : Nat} {C : String} {T : u_T} {Nf : Nat} {fs : List Value} (ty : Nat → FieldType) (hty : ∀ k, k < Nf → parseFieldDescriptor (T k).2.2.1 = some (ty k)) (hd : decode M.2.1 pc = .ok (.new index, 3)) (hlk : Cond.classLink M.1.cls index C ∈ lw_tbl) (hi : Cond.instantiable C Nf ∈ lw_tbl) (hz : Cond.initialized C ∈ lw_tbl) (hc : vwCl[ci]? = some (C, T, Nf)) (hfs : ∀ j, j < Nf → defaultValue (ty j) = vp_V fs j) (h1 : cn + 1 ≤ mc) (h2 : sn + Nf ≤ ms) (kt : GoC X d mc ms M (pc + 3) lc (.ref (cx_n X + N) :: st) (cn + 1) (sn + Nf) (ceU ce N (.inr (ci, fs))) (N + 1) Q) : GoC X d mc ms M pc lc st cn sn ce N Q := by
  intro p e s m args below meth c H locs ls F hS hH hl
  have hW := F.2.2.2.2.2.2.2.1
  have hKn := F.K.1 ci _ hc
  refine W.newcK F.2.1 F.2.2.1 F.2.2.2.2.2.2.1 (cx_w F.1 hW hlk rfl) (cx_w F.1 hW hi rfl) (cx_w F.1 hW hz rfl) (g := F0 m pc ls st) rfl hd h1 h2 hKn.2.1 (h := cx_n X + N) hH.1 fun H1 kC hkC e1 z1 o1 => ?_
  have o2 : ∀ q : Nat, q < H.size → H1[q]? = H[q]? := fun q hq => o1 q (by rw [← hH.1]; exact hq)
  have z2 : H1.size = H.size + 1 := by rw [z1, hH.1]
  have hcell : va_at (cx_D X) vwCl (cx_n X + N, .inr (ci, fs)) H1 := ⟨_, hc, (u_born (ws := u_ws C T Nf) (args := args) ty (cx_flds F.1 hW hc) (fun _ h => h) hKn hkC e1 hty).to hfs⟩
  exact kt p e s m args below meth c H1 locs ls F (hS.grow z2 o2) (hH.push hcell z2 o2) hl
theorem gc_newa {n : Int32} {atype : ArrayType} {t : Nat} (L : Nat) (hd : decode M.2.1 pc = .ok (.newarray atype, 2)) (ht : t < 4) (hty : newarray.typeOf atype = cx_ty t) (hdf : defaultValue (cx_ty t) = .int 0) (hlk : Cond.arrayClass (cx_ty t) ∈ lw_tbl) (hcb : componentBytes (cx_ty t) ≤ 8) (hn : n = nI L) (hL : L ≤ 100000) (h1 : cn + 1 ≤ mc) (h2 : sn + L ≤ ms) (kt : GoC X d mc ms M (pc + 2) lc (.ref (cx_n X + N) :: st) (cn + 1) (sn + L) (ceU ce N (.inl (cx_a X t, L, .inl (fun _ => 0)))) (N + 1) Q) : GoC X d mc ms M pc lc (.int n :: st) cn sn ce N Q := by
  intro p e s m args below meth c H locs ls F hS hH hl
  have hW := F.2.2.2.2.2.2.2.1
  have hA := cx_arr F.K (t := t) (by omega)
  have hfit := Nat.mul_le_mul hL hcb
  refine va_newaK F.2.1 F.2.2.1 (atype := atype) (by rw [hty]; exact cx_w F.1 hW hlk rfl) (g := F0 m pc ls (.int n :: st)) rfl hd (N := L) rfl (by rw [hn]; exact nI_pos (by omega)) (by rw [hn]; exact nI_clamp (by omega)) (by rw [hty]; omega) h1 h2 (h := cx_n X + N) hH.1 fun H1 cA e1 z1 o1 hAr hNm => ?_
  have hcA : cA = cx_a X t := by
    have h9 : s.vm.findClass ("[" ++ (cx_ty t).toString) = some (cx_a X t) := by
      have := hA.2
      match t, ht with
      | 0, _ => exact this
      | 1, _ => exact this
      | 2, _ => exact this
      | 3, _ => exact this
    rw [hty] at hNm
    exact Option.some.inj (hNm.symm.trans h9)
  subst hcA
  have o2 : ∀ q : Nat, q < H.size → H1[q]? = H[q]? := fun q hq => o1 q (by rw [← hH.1]; exact hq)
  have z2 : H1.size = H.size + 1 := by rw [z1, hH.1]
  have hcell : va_at (cx_D X) vwCl (cx_n X + N, .inl (cx_a X t, L, .inl (fun _ => 0))) H1 := by
    show H1[cx_n X + N]? = some (vp_cell _ _)
    rw [e1, vp_cell_i, hty, hdf]
  exact kt p e s m args below meth c H1 locs ls F (hS.grow z2 o2) (hH.push hcell z2 o2) hl
theorem gc_anew {n : Int32} {index t : Nat} {C : String} (L : Nat) (hd : decode M.2.1 pc = .ok (.anewarray index, 3)) (ht : t < 8) (hty : cx_ty t = .object C) (hlk : Cond.classLink M.1.cls index C ∈ lw_tbl) (hov : Cond.arrayOver (.object C) ∈ lw_tbl) (hn : n = nI L) (hL : L ≤ 100000) (h1 : cn + 1 ≤ mc) (h2 : sn + L ≤ ms) (kt : GoC X d mc ms M (pc + 3) lc (.ref (cx_n X + N) :: st) (cn + 1) (sn + L) (ceU ce N (.inl (cx_a X t, L, .inr (.inr (.inr (.inr (fun _ => none))))))) (N + 1) Q) : GoC X d mc ms M pc lc (.int n :: st) cn sn ce N Q := by
  intro p e s m args below meth c H locs ls F hS hH hl
  have hW := F.2.2.2.2.2.2.2.1
  have hA := (cx_arr F.K (t := t) ht).2
  rw [hty] at hA
  obtain ⟨kA0, comp0, a1, a2, a3, a4⟩ := hA
  have hcl : n.toNatClampNeg = L := by rw [hn]; exact nI_clamp (by omega)
  have hov2 : (Cond.arrayOver (.object C)).before args s = true := by
    have h0 := F.1.1 _ hov
    exact va_AO.use (va_AO.moved hW.alike (va_AO.of h0))
  refine W.anew F.2.1 F.2.2.1 F.2.2.2.2.2.2.1 (cx_w F.1 hW hlk rfl) hov2 (g := F0 m pc ls (.int n :: st)) rfl hd rfl (by rw [hn]; exact nI_pos (by omega)) (by rw [hcl]; omega) h1 (by rw [hcl]; exact h2) fun cA kA comp f1 f2 f3 f4 => ?_
  have hcA : cA = cx_a X t := Option.some.inj (f1.symm.trans a4)
  subst hcA
  generalize hH1 : H.push ({ cls := cx_a X t, slots := Array.replicate n.toNatClampNeg .null, vm := .none } : Cell) = H1
  have z2 : H1.size = H.size + 1 := by rw [← hH1, Array.size_push]
  have e1 : H1[H.size]? = some (arrV (cx_a X t) L (fun _ => .null)) := by rw [← hH1, Array.getElem?_push_size, ← arrV_new, hcl]
  have o2 : ∀ q : Nat, q < H.size → H1[q]? = H[q]? := fun q hq => by rw [← hH1, Array.getElem?_push, if_neg (Nat.ne_of_lt hq)]
  have hcell : va_at (cx_D X) vwCl (cx_n X + N, .inl (cx_a X t, L, .inr (.inr (.inr (.inr (fun _ => none)))))) H1 := by
    show H1[cx_n X + N]? = some (vp_cell _ _)
    rw [← hH.1, e1, vp_cell_q]
    rfl
  have kk := kt p e s m args below meth c H1 locs ls F (hS.grow z2 o2) (hH.push hcell z2 o2) hl
  rw [hcl]
  show W _ _ _ _ _ _ _ _ _ _ H1 _ _ _ _ (F0 m (pc + 3) ls (.ref H.size :: st))
  rw [hH.1]
  exact kk
end GA
theorem ceU_u (ce : Nat → va_E) (k : Nat) (a b : va_E) : ceU (ceU ce k a) k b = ceU ce k b := by
  funext q
  by_cases h : q = k
  · subst h; rw [ceU_s, ceU_s]
  · rw [ceU_n _ _ _ h, ceU_n _ _ _ h, ceU_n _ _ _ h]
theorem gc_conv {X : CX} {d mc ms : Nat} {M : MT} {pc : Nat} {lc : List (Option Value)} {st : List Value} {cn sn : Nat} {Q : Option Value → (Nat → va_E) → Nat → Prop} {ce ce' : Nat → va_E} {N N' : Nat} (hc : ∀ H : Heap, HRc X ce N H → HRc X ce' N' H) (kt : GoC X d mc ms M pc lc st cn sn ce' N' Q) : GoC X d mc ms M pc lc st cn sn ce N Q := fun p e s m args below meth c H locs ls F hS hH hl => kt p e s m args below meth c H locs ls F hS (hc H hH) hl
theorem va_at_ext {D : va_G} {cl : List vw_C} {a n : Nat} {cA : ClassId} {f g : Nat → Int32} {H : Heap} (h : va_at D cl (a, .inl (cA, n, .inl f)) H) (he : ∀ j, j < n → f j = g j) : va_at D cl (a, .inl (cA, n, .inl g)) H := by
  have h1 : H[a]? = some (vp_cell cA (n, .inl f)) := h
  show H[a]? = some (vp_cell cA (n, .inl g))
  rw [h1, vp_cell_i, vp_cell_i]
  have h2 : (Array.ofFn (n := n) fun j => Value.int (f j.val)) = Array.ofFn (n := n) fun j => Value.int (g j.val) := by
    congr 1
    funext j
    rw [he j.val j.isLt]
  simp only [arrV, h2]
theorem mxI {p : Nat} (hp : p ≤ 100000) : (if (1 : Int32) < nI p then nI p else 1) = nI (max 1 p) := by
  have e1 : (1 : Int32) = nI 1 := rfl
  rw [e1]
  by_cases h : 1 < p
  · rw [if_pos ((nI_ltI (by omega) (by omega)).mpr h), Nat.max_eq_right (by omega)]
  · rw [if_neg (fun q => h ((nI_ltI (by omega) (by omega)).mp q)), Nat.max_eq_left (by omega)]
set_option maxRecDepth 100000 in
set_option maxHeartbeats 4000000 in
theorem a_copyOf (X : CX) (k : Nat) (f : Nat → Int32) (c : Nat) (ce : Nat → va_E) (N : Nat) (hk : k < N) (he : ce k = .inl (cx_a X 0, 96, .inl f)) (hc : c < 96) : CallsC X 1 1 c M_J7_copyOf_59c91 [.ref (cx_n X + k), .int (nI c)] ce N (fun r ce' N' => r = some (.ref (cx_n X + N)) ∧ ce' = ceU ce N (.inl (cx_a X 0, c, .inl (va_cpy f (fun _ => 0) 0 0 c))) ∧ N' = N + 1) := by
  have hne : k ≠ N := Nat.ne_of_lt hk
  refine CallsC.ofP 1 (by decide) rfl (Nat.le_of_ble_eq_true rfl) ?_
  refine gc_iload_n dJ7_copyOf_59c91_0 rfl ?_
  refine gc_aload_n dJ7_copyOf_59c91_1 rfl ?_
  refine gc_alen (t := 0) (by decide) dJ7_copyOf_59c91_2 hk he ?_
  refine gc_icmp_ne 14 dJ7_copyOf_59c91_3 (by decide) (fun hn => ?_) (fun hn => absurd ((nI_eq (by omega) (by omega)).mp hn) (by omega))
  refine gc_iload_n dJ7_copyOf_59c91_14 rfl ?_
  refine gc_newa (t := 0) c dJ7_copyOf_59c91_15 (by decide) rfl rfl la_int (by decide) rfl (by omega) (Nat.le_refl _) (Nat.le_of_eq (Nat.zero_add _)) ?_
  refine gc_astore_n dJ7_copyOf_59c91_17 (by decide) ?_
  refine gc_aload_n dJ7_copyOf_59c91_18 rfl ?_
  refine gc_iconst (v := 0) dJ7_copyOf_59c91_19 (by decide) ?_
  refine gc_aload_n dJ7_copyOf_59c91_20 rfl ?_
  refine gc_iconst (v := 0) dJ7_copyOf_59c91_21 (by decide) ?_
  refine gc_aload_n dJ7_copyOf_59c91_22 rfl ?_
  refine gc_alen (t := 0) (n := 96) (f := f) (by decide) dJ7_copyOf_59c91_23 (Nat.lt_succ_of_lt hk) (by rw [ceU_n _ _ _ hne]; exact he) ?_
  refine gc_iload_n dJ7_copyOf_59c91_24 rfl ?_
  refine gc_mmin dJ7_copyOf_59c91_25 lmm_J7_304 (by decide) (Nat.le_of_ble_eq_true rfl) (Nat.le_refl _) (Nat.le_of_eq (Nat.zero_add _)) ?_
  refine gc_acopy (n1 := 96) (n2 := c) (f := f) (g := fun _ => 0) 0 0 c dJ7_copyOf_59c91_28 lac_J7_150 lac_native lac_static lac_init (by decide) (Nat.lt_succ_of_lt hk) (by rw [ceU_n _ _ _ hne]; exact he) (Nat.lt_succ_self _) (ceU_s _ _ _) rfl rfl (if_pos ((nI_ltI (by omega) (by omega)).mpr hc)) (by omega) (by omega) (by omega) (by omega) (Nat.le_of_ble_eq_true rfl) ?_
  refine gc_aload_n dJ7_copyOf_59c91_31 rfl ?_
  exact gc_aret dJ7_copyOf_59c91_32 rfl (Or.inr ⟨_, rfl⟩) (Or.inr ⟨_, rfl⟩) (Nat.le_refl _) (Nat.le_of_eq (Nat.zero_add _)) ⟨rfl, ceU_u _ _ _ _, rfl⟩
set_option maxRecDepth 100000 in
set_option maxHeartbeats 4000000 in
theorem a_Text (X : CX) (k k1 : Nat) (key pcs : Int32) (p : Nat) (ce : Nat → va_E) (N : Nat) (hk : k < N) (he : ce k = .inr (6, [.int 0, .int 0, .null, .null])) (hp : pcs = nI p) (hp2 : p ≤ 100) : CallsC X 1 1 (max 1 p) M_X6_init [.ref (cx_n X + k), .int key, .int pcs, .ref (cx_n X + k1)] ce N (fun r ce' N' => r = none ∧ ce' k = .inr (6, [.int key, .int pcs, .ref (cx_n X + k1), .ref (cx_n X + N)]) ∧ ce' N = .inl (cx_a X 0, max 1 p, .inl (fun _ => 0)) ∧ (∀ q, q ≠ k → q ≠ N → ce' q = ce q) ∧ N' = N + 1) := by
  have hne : k ≠ N := Nat.ne_of_lt hk
  refine CallsC.ofP 0 (by decide) rfl (Nat.le_of_ble_eq_true rfl) ?_
  refine gc_aload_n dX6_init_0 rfl ?_
  refine gc_objInit dX6_init_1 lob_X6_1 (by decide) (Nat.le_of_ble_eq_true rfl) ?_
  refine gc_aload_n dX6_init_4 rfl ?_
  refine gc_iload_n dX6_init_5 rfl ?_
  refine gc_putF (ci := 6) (T := TX6) (Nf := 4) (C := RX6) (j := 0) (ty := .int) dX6_init_6 lf_X6_7 hk he rfl (by decide) rfl rfl rfl (by decide +kernel) rfl rfl (Nat.le_of_ble_eq_true rfl) ?_
  refine gc_aload_n dX6_init_9 rfl ?_
  refine gc_iload_n dX6_init_10 rfl ?_
  refine gc_putF (ci := 6) (T := TX6) (Nf := 4) (C := RX6) (j := 1) (ty := .int) dX6_init_11 lf_X6_13 hk (ceU_s _ _ _) rfl (by decide) rfl rfl rfl (by decide +kernel) rfl rfl (Nat.le_of_ble_eq_true rfl) ?_
  refine gc_aload_n dX6_init_14 rfl ?_
  refine gc_aload_n dX6_init_15 rfl ?_
  refine gc_putF (ci := 6) (T := TX6) (Nf := 4) (C := RX6) (j := 2) (ty := .array .int) dX6_init_16 lf_X6_16 hk (ceU_s _ _ _) rfl (by decide) rfl rfl rfl (by decide +kernel) rfl rfl (Nat.le_of_ble_eq_true rfl) ?_
  refine gc_aload_n dX6_init_19 rfl ?_
  refine gc_iconst (v := 1) dX6_init_20 (by decide) ?_
  refine gc_iload_n dX6_init_21 rfl ?_
  refine gc_mmax dX6_init_22 lmm_X6_20 (by decide) (Nat.le_of_ble_eq_true rfl) (Nat.zero_le _) (Nat.zero_le _) ?_
  refine gc_newa (t := 0) (max 1 p) dX6_init_25 (by decide) rfl rfl la_int (by decide) (by rw [hp]; exact mxI (by omega)) (by omega) (Nat.le_refl _) (Nat.le_of_eq (Nat.zero_add _)) ?_
  refine gc_putF (ci := 6) (T := TX6) (Nf := 4) (C := RX6) (j := 3) (ty := .array .int) dX6_init_27 lf_X6_26 (Nat.lt_succ_of_lt hk) (by rw [ceU_n _ _ _ hne]; exact ceU_s _ _ _) rfl (by decide) rfl rfl rfl (by decide +kernel) rfl rfl (Nat.le_of_ble_eq_true rfl) ?_
  refine gc_vret dX6_init_30 rfl (Nat.le_refl _) (Nat.le_of_eq (Nat.zero_add _)) ⟨rfl, ?_, ?_, ?_, rfl⟩
  · rw [ceU_s]; rfl
  · rw [ceU_n _ _ _ hne.symm, ceU_s]
  · intro q h1 h2
    rw [ceU_n _ _ _ h1, ceU_n _ _ _ h2, ceU_n _ _ _ h1, ceU_n _ _ _ h1, ceU_n _ _ _ h1]
