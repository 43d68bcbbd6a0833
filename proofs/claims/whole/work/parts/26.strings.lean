theorem lj_J0_38 : Cond.fieldLink RJ0 38 "java/lang/String" "COMPACT_STRINGS" "Z" ∈ lw_tbl := (mt_3 _ (List.mem_of_getElem? (i := 235) (by decide +kernel)))
theorem lj_J0_1053 : Cond.fieldLink RJ0 1053 "jdk/internal/util/Preconditions" "SIOOBE_FORMATTER" "Ljava/util/function/BiFunction;" ∈ lw_tbl := (mt_4 _ (List.mem_of_getElem? (i := 11) (by decide +kernel)))
theorem lj_J0_9 : Cond.fieldLink RJ0 9 "java/lang/String" "value" "[B" ∈ lw_tbl := (mt_7 _ (List.mem_of_getElem? (i := 34) (by decide +kernel)))
theorem lj_J0_15 : Cond.fieldLink RJ0 15 "java/lang/String" "coder" "B" ∈ lw_tbl := (mt_7 _ (List.mem_of_getElem? (i := 35) (by decide +kernel)))
/-! String constants, by their number j < 6 -/
abbrev CallsH (X : CX) (d : Nat) (M : MT) (av : List Value) (mem : Mm) (K : Int32 → Mm → Prop) : Prop := Calls X d 0 0 M av mem (fun r m => ∃ v : Int32, narrow .char (.int v) = .int v ∧ r = some (.int v) ∧ K v m)
abbrev CallsS (X : CX) (d : Nat) (M : MT) (av : List Value) (mem : Mm) (K : Nat → Mm → Prop) : Prop := Calls X d 0 0 M av mem (fun r m => ∃ j : Nat, j < 6 ∧ r = some (.ref (cx_k X (6 + j))) ∧ K j m)
theorem FX.str {X : CX} {M : MT} {p : Program} {s : State} {m : MethodId} {meth : Method} {c : Code} (F : FX X M p s m meth c) : vk_S 6 ss_L ss_B (fun i => cx_k X (6 + i)) (fun i => cx_k X (12 + i)) (cx_A X) s s.heap := vk_S.moved F.2.2.2.2.2.2.2.1.alike (vk_S.kept F.1.2.2.2.1 F.2.2.2.2.2.2.2.2.1.2.1)
section GS
variable {X : CX} {d mc ms : Nat} {M : MT} {pc : Nat} {lc : List (Option Value)} {st : List Value} {cn sn : Nat} {mem : Mm} {Q : Option Value → (Nat → va_E) → Nat → Prop} {ce : Nat → va_E} {N : Nat}
theorem gc_ldcS {index : Nat} (j : Nat) (hj : j < 6) (hx : index = ss_I j) (hown : M.1.cls = RX7) (hd : decode M.2.1 pc = .ok (.ldc index, 2)) (kt : GoC X d mc ms M (pc + 2) lc (.ref (cx_k X (6 + j)) :: st) cn sn ce N Q) : GoC X d mc ms M pc lc st cn sn ce N Q := by
  subst hx
  intro p e s m args below meth c H locs ls F hS hH hl
  have kk := kt p e s m args below meth c H locs ls F hS hH hl
  exact va_ldcS F.2.1 F.2.2.1 (own := RX7) (by rw [← hown]; exact F.2.2.2.2.2.2.1) (vk_R.warm F.2.2.2.2.2.2.2.1 (F.1.2.2.2.2.1 j hj)) hd kk
theorem gc_strv {index j : Nat} (hj : j < 6) (hd : decode M.2.1 pc = .ok (.getfield index, 3)) (hlk : Cond.fieldLink M.1.cls index "java/lang/String" "value" "[B" ∈ lw_tbl) (kt : GoC X d mc ms M (pc + 3) lc (.ref (cx_k X (12 + j)) :: st) cn sn ce N Q) : GoC X d mc ms M pc lc (.ref (cx_k X (6 + j)) :: st) cn sn ce N Q := by
  intro p e s m args below meth c H locs ls F hS hH hl
  have kk := kt p e s m args below meth c H locs ls F hS hH hl
  exact vk_getf F.2.1 F.2.2.1 (F.str.1 j hj).2.2.1 hS F.2.2.2.2.2.2.1 (cx_w F.1 F.2.2.2.2.2.2.2.1 hlk rfl) (fun _ h => h) hd kk
theorem gc_strc {index j : Nat} (hj : j < 6) (hd : decode M.2.1 pc = .ok (.getfield index, 3)) (hlk : Cond.fieldLink M.1.cls index "java/lang/String" "coder" "B" ∈ lw_tbl) (kt : GoC X d mc ms M (pc + 3) lc (.int 0 :: st) cn sn ce N Q) : GoC X d mc ms M pc lc (.ref (cx_k X (6 + j)) :: st) cn sn ce N Q := by
  intro p e s m args below meth c H locs ls F hS hH hl
  have kk := kt p e s m args below meth c H locs ls F hS hH hl
  exact vk_getf F.2.1 F.2.2.1 (F.str.1 j hj).2.1 hS F.2.2.2.2.2.2.1 (cx_w F.1 F.2.2.2.2.2.2.2.1 hlk rfl) (fun _ h => h) hd kk
theorem gc_sblen {j : Nat} (hj : j < 6) (hd : decode M.2.1 pc = .ok (.arraylength, 1)) (kt : GoC X d mc ms M (pc + 1) lc (.int (nI (ss_L.getD j 0)) :: st) cn sn ce N Q) : GoC X d mc ms M pc lc (.ref (cx_k X (12 + j)) :: st) cn sn ce N Q := by
  intro p e s m args below meth c H locs ls F hS hH hl
  have kk := kt p e s m args below meth c H locs ls F hS hH hl
  exact va_tlen F.2.1 F.2.2.1 (F.str.1 j hj).2.2.2 hS rfl hd kk
theorem gc_sbald {x : Int32} {j : Nat} (i : Nat) (hj : j < 6) (hd : decode M.2.1 pc = .ok (.baload, 1)) (hx : x = nI i) (hi : i < ss_L.getD j 0) (kt : GoC X d mc ms M (pc + 1) lc (.int ((ss_B.getD j []).getD i 0) :: st) cn sn ce N Q) : GoC X d mc ms M pc lc (.int x :: .ref (cx_k X (12 + j)) :: st) cn sn ce N Q := by
  intro p e s m args below meth c H locs ls F hS hH hl
  have kk := kt p e s m args below meth c H locs ls F hS hH hl
  have h9 : ss_L.getD j 0 ≤ 5 := by
    have : ∀ j, j < 6 → ss_L.getD j 0 ≤ 5 := by decide +kernel
    exact this j hj
  obtain ⟨h1, h2⟩ := ix_in hx hi (by omega)
  exact va_tb F.2.1 F.2.2.1 (F.str.1 j hj).2.2.2 hS h1 (by rw [h2]) hd kk
theorem gc_getsZ {index : Nat} (hd : decode M.2.1 pc = .ok (.getstatic index, 3)) (hlk : Cond.fieldLink M.1.cls index "java/lang/String" "COMPACT_STRINGS" "Z" ∈ lw_tbl) (kt : GoC X d mc ms M (pc + 3) lc (.int 1 :: st) cn sn ce N Q) : GoC X d mc ms M pc lc st cn sn ce N Q := by
  intro p e s m args below meth c H locs ls F hS hH hl
  have kk := kt p e s m args below meth c H locs ls F hS hH hl
  have hW := F.2.2.2.2.2.2.2.1
  exact va_gets F.2.1 F.2.2.1 (va_Z.moved hW.alike (F.1.2.2.2.2.2.1.kept F.2.2.2.2.2.2.2.2.1.2.1)) hS F.2.2.2.2.2.2.1 (cx_w F.1 hW hlk rfl) (fun _ h => h) hd kk
theorem gc_getsF {index : Nat} (hd : decode M.2.1 pc = .ok (.getstatic index, 3)) (hlk : Cond.fieldLink M.1.cls index "jdk/internal/util/Preconditions" "SIOOBE_FORMATTER" "Ljava/util/function/BiFunction;" ∈ lw_tbl) (kt : ∀ r : Option Nat, GoC X d mc ms M (pc + 3) lc (va_rf r :: st) cn sn ce N Q) : GoC X d mc ms M pc lc st cn sn ce N Q := by
  intro p e s m args below meth c H locs ls F hS hH hl
  have hW := F.2.2.2.2.2.2.2.1
  obtain ⟨r, hr⟩ := F.1.2.2.2.2.2.2
  have kk := kt r p e s m args below meth c H locs ls F hS hH hl
  exact va_gets F.2.1 F.2.2.1 (va_Z.moved hW.alike (hr.kept F.2.2.2.2.2.2.2.2.1.2.1)) hS F.2.2.2.2.2.2.1 (cx_w F.1 hW hlk rfl) (fun _ h => h) hd kk
/-- a String's own method is called -/
theorem gc_callStr {index d' j : Nat} {y : MT} {As rest : List Value} {Q' : Option Value → (Nat → va_E) → Nat → Prop} (hj : j < 6) (hy : y.1.cls = "java/lang/String") (hd : decode M.2.1 pc = .ok (.invokevirtual index, 3)) (hlk : LkM M.1.cls index y.1) (hok : OkV y As.length) (hdd : d' + 1 ≤ d) (hm : cn + 0 ≤ mc) (hs : sn + 0 ≤ ms) (hst : st = As.reverse ++ .ref (cx_k X (6 + j)) :: rest) (hcat : (rest.map fun v => v.category).sum ≤ 8) (hc : CallsC X d' 0 0 y (.ref (cx_k X (6 + j)) :: As) ce N Q')
    (kt : ∀ (r : Option Value) (ce' : Nat → va_E) (N' : Nat), Q' r ce' N' → GoC X d mc ms M (pc + 3) lc (r.toList ++ rest) (cn + 0) (sn + 0) ce' N' Q) : GoC X d mc ms M pc lc st cn sn ce N Q := by
  intro p e s m args below meth c H locs ls F hS hH hl
  have hW := F.2.2.2.2.2.2.2.1
  have hfix : CallFix p m c M.2.1 M.2.2.1 s args [] M.1.cls := ⟨F.2.1, F.2.2.1, F.2.2.2.2.2.1, F.2.2.2.2.2.2.1, fun w h => by cases h⟩
  have hpre : PreV s H y.1.cls (cx_k X (6 + j)) (PcX X (.ref (cx_k X (6 + j)) :: As) ce N) As := ⟨PcX.blind, by rw [hy]; exact vk_recv (i := j) F.str hj hS, PcX.pre hW F.2.2.2.2.2.2.2.2.1 hS hH⟩
  rcases hlk with hlk | ⟨h, hlk⟩
  · exact gc_run F hS hl (va_runV hfix (hc F.1) ⟨hok.1.cb F.1 hW hlk hdd, cx_w F.1 hW hok.2.1 rfl, cx_w F.1 hW hok.2.2 rfl⟩ hpre rfl rfl hl.1 hst (lv_room (ls := ls) (m := m) (pc := pc) (rest := st) hcat) hd ⟨hm, hs⟩) kt
  · exact gc_run F hS hl (va_runVN hfix (hc F.1) ⟨hok.1.nest F.1 hW hlk hdd, cx_w F.1 hW hok.2.1 rfl, cx_w F.1 hW hok.2.2 rfl⟩ hpre rfl rfl hl.1 hst (lv_room (ls := ls) (m := m) (pc := pc) (rest := st) hcat) hd ⟨hm, hs⟩) kt
theorem go_cRI {index d' j : Nat} {y : MT} {As rest : List Value} {K : Int32 → Mm → Prop} (hd : decode M.2.1 pc = .ok (.invokevirtual index, 3)) (hlk : LkM M.1.cls index y.1) (hok : OkV y As.length) (hdd : d' + 1 ≤ d) (hj : j < 6) (hy : y.1.cls = "java/lang/String") (hc : CallsI X d' y (.ref (cx_k X (6 + j)) :: As) mem K) (hst : st = As.reverse ++ .ref (cx_k X (6 + j)) :: rest) (hcat : (rest.map fun v => v.category).sum ≤ 8) (kt : ∀ (v : Int32) (m1 : Mm), K v m1 → GoC X d 0 0 M (pc + 3) lc (.int v :: rest) 0 0 (cellAt X m1) (sz m1) Q) : GoC X d 0 0 M pc lc st 0 0 (cellAt X mem) (sz mem) Q := by
  refine gc_callStr hj hy hd hlk hok hdd (Nat.le_refl 0) (Nat.le_refl 0) hst hcat hc (fun r ce' N' hq => ?_)
  obtain ⟨m1, e1, e2, v, rfl, h⟩ := hq
  rw [e1, e2]
  exact kt v m1 h
theorem go_cRZ {index d' j : Nat} {y : MT} {As rest : List Value} {K : Bool → Mm → Prop} (hd : decode M.2.1 pc = .ok (.invokevirtual index, 3)) (hlk : LkM M.1.cls index y.1) (hok : OkV y As.length) (hdd : d' + 1 ≤ d) (hj : j < 6) (hy : y.1.cls = "java/lang/String") (hc : CallsZ X d' y (.ref (cx_k X (6 + j)) :: As) mem K) (hst : st = As.reverse ++ .ref (cx_k X (6 + j)) :: rest) (hcat : (rest.map fun v => v.category).sum ≤ 8) (kt : ∀ (v : Bool) (m1 : Mm), K v m1 → GoC X d 0 0 M (pc + 3) lc (.int (bZ v) :: rest) 0 0 (cellAt X m1) (sz m1) Q) : GoC X d 0 0 M pc lc st 0 0 (cellAt X mem) (sz mem) Q := by
  refine gc_callStr hj hy hd hlk hok hdd (Nat.le_refl 0) (Nat.le_refl 0) hst hcat hc (fun r ce' N' hq => ?_)
  obtain ⟨m1, e1, e2, v, rfl, h⟩ := hq
  rw [e1, e2]
  exact kt v m1 h
theorem go_cRH {index d' j : Nat} {y : MT} {As rest : List Value} {K : Int32 → Mm → Prop} (hd : decode M.2.1 pc = .ok (.invokevirtual index, 3)) (hlk : LkM M.1.cls index y.1) (hok : OkV y As.length) (hdd : d' + 1 ≤ d) (hj : j < 6) (hy : y.1.cls = "java/lang/String") (hc : CallsH X d' y (.ref (cx_k X (6 + j)) :: As) mem K) (hst : st = As.reverse ++ .ref (cx_k X (6 + j)) :: rest) (hcat : (rest.map fun v => v.category).sum ≤ 8) (kt : ∀ (v : Int32) (m1 : Mm), narrow .char (.int v) = .int v → K v m1 → GoC X d 0 0 M (pc + 3) lc (.int v :: rest) 0 0 (cellAt X m1) (sz m1) Q) : GoC X d 0 0 M pc lc st 0 0 (cellAt X mem) (sz mem) Q := by
  refine gc_callStr hj hy hd hlk hok hdd (Nat.le_refl 0) (Nat.le_refl 0) hst hcat hc (fun r ce' N' hq => ?_)
  obtain ⟨m1, e1, e2, v, hn, rfl, h⟩ := hq
  rw [e1, e2]
  exact kt v m1 hn h
theorem go_cSH {index d' : Nat} {y : MT} {As rest : List Value} {K : Int32 → Mm → Prop} (hd : decode M.2.1 pc = .ok (.invokestatic index, 3)) (hlk : LkM M.1.cls index y.1) (hok : OkS y As.length) (hdd : d' + 1 ≤ d) (hc : CallsH X d' y As mem K) (hst : st = As.reverse ++ rest) (hcat : (rest.map fun v => v.category).sum ≤ 8) (kt : ∀ (v : Int32) (m1 : Mm), narrow .char (.int v) = .int v → K v m1 → GoC X d 0 0 M (pc + 3) lc (.int v :: rest) 0 0 (cellAt X m1) (sz m1) Q) : GoC X d 0 0 M pc lc st 0 0 (cellAt X mem) (sz mem) Q := by
  refine go_callS hd hlk hok hdd (Nat.le_refl 0) (Nat.le_refl 0) hst hcat hc (fun r m1 hq => ?_)
  obtain ⟨v, hn, rfl, h⟩ := hq
  exact kt v m1 hn h
theorem go_cSS {index d' : Nat} {y : MT} {As rest : List Value} {K : Nat → Mm → Prop} (hd : decode M.2.1 pc = .ok (.invokestatic index, 3)) (hlk : LkM M.1.cls index y.1) (hok : OkS y As.length) (hdd : d' + 1 ≤ d) (hc : CallsS X d' y As mem K) (hst : st = As.reverse ++ rest) (hcat : (rest.map fun v => v.category).sum ≤ 8) (kt : ∀ (j : Nat) (m1 : Mm), j < 6 → K j m1 → GoC X d 0 0 M (pc + 3) lc (.ref (cx_k X (6 + j)) :: rest) 0 0 (cellAt X m1) (sz m1) Q) : GoC X d 0 0 M pc lc st 0 0 (cellAt X mem) (sz mem) Q := by
  refine go_callS hd hlk hok hdd (Nat.le_refl 0) (Nat.le_refl 0) hst hcat hc (fun r m1 hq => ?_)
  obtain ⟨j, hj, rfl, h⟩ := hq
  exact kt j m1 hj h
theorem go_hret {v : Int32} {K : Int32 → Mm → Prop} (hd : decode M.2.1 pc = .ok (.ireturn, 1)) (hr : M.2.2.2 = some .char) (hn : narrow .char (.int v) = .int v) (h1 : cn ≤ mc) (h2 : sn ≤ ms) (hq : K v mem) : GoC X d mc ms M pc lc [.int v] cn sn (cellAt X mem) (sz mem) (qm X (fun r m => ∃ v : Int32, narrow .char (.int v) = .int v ∧ r = some (.int v) ∧ K v m)) := gc_zret hd hr hn h1 h2 ⟨mem, rfl, rfl, v, hn, rfl, hq⟩
theorem go_bret {v : Int32} {K : Int32 → Mm → Prop} (hd : decode M.2.1 pc = .ok (.ireturn, 1)) (hr : M.2.2.2 = some .byte) (hn : narrow .byte (.int v) = .int v) (h1 : cn ≤ mc) (h2 : sn ≤ ms) (hq : K v mem) : GoC X d mc ms M pc lc [.int v] cn sn (cellAt X mem) (sz mem) (qm X (fun r m => ∃ v : Int32, r = some (.int v) ∧ K v m)) := gc_zret hd hr hn h1 h2 ⟨mem, rfl, rfl, v, rfl, hq⟩
theorem go_sret {j : Nat} {K : Nat → Mm → Prop} (hd : decode M.2.1 pc = .ok (.areturn, 1)) (hr : M.2.2.2 = some (.object "java/lang/String")) (hj : j < 6) (h1 : cn ≤ mc) (h2 : sn ≤ ms) (hq : K j mem) : GoC X d mc ms M pc lc [.ref (cx_k X (6 + j))] cn sn (cellAt X mem) (sz mem) (qm X (fun r m => ∃ j : Nat, j < 6 ∧ r = some (.ref (cx_k X (6 + j))) ∧ K j m)) := gc_aret hd hr (Or.inl ⟨_, rfl⟩) (Or.inr ⟨_, rfl⟩) h1 h2 ⟨mem, rfl, rfl, j, hj, rfl, hq⟩
end GS
