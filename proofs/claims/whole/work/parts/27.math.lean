theorem mm_max_c : Cond.code Lib.Math.max.name Lib.Math.max.code 2 (some .int) ∈ lw_tbl := (mt_2 _ (List.mem_of_getElem? (i := 157) (by decide +kernel)))
theorem mm_max_s : Cond.static Lib.Math.max.name ∈ lw_tbl := (mt_2 _ (List.mem_of_getElem? (i := 156) (by decide +kernel)))
theorem lmm_X8_336 : Cond.methodLink RX8 336 Lib.Math.max.name ∈ lw_tbl := (mt_2 _ (List.mem_of_getElem? (i := 155) (by decide +kernel)))
theorem lmm_X1_39 : Cond.methodLink RX1 39 Lib.Math.max.name ∈ lw_tbl := (mt_2 _ (List.mem_of_getElem? (i := 162) (by decide +kernel)))
theorem lmm_J1_92 : Cond.methodLink RJ1 92 Lib.Math.max.name ∈ lw_tbl := (mt_4 _ (List.mem_of_getElem? (i := 80) (by decide +kernel)))
theorem lmm_J2_224 : Cond.methodLink RJ2 224 Lib.Math.max.name ∈ lw_tbl := (mt_4 _ (List.mem_of_getElem? (i := 88) (by decide +kernel)))
theorem lmm_X6_20 : Cond.methodLink RX6 20 Lib.Math.max.name ∈ lw_tbl := (mt_4 _ (List.mem_of_getElem? (i := 160) (by decide +kernel)))
theorem mm_min_c : Cond.code Lib.Math.min.name Lib.Math.min.code 2 (some .int) ∈ lw_tbl := (mt_2 _ (List.mem_of_getElem? (i := 154) (by decide +kernel)))
theorem mm_min_s : Cond.static Lib.Math.min.name ∈ lw_tbl := (mt_2 _ (List.mem_of_getElem? (i := 153) (by decide +kernel)))
theorem lmm_X8_150 : Cond.methodLink RX8 150 Lib.Math.min.name ∈ lw_tbl := (mt_2 _ (List.mem_of_getElem? (i := 152) (by decide +kernel)))
theorem lmm_X0_142 : Cond.methodLink RX0 142 Lib.Math.min.name ∈ lw_tbl := (mt_2 _ (List.mem_of_getElem? (i := 203) (by decide +kernel)))
theorem lmm_X2_115 : Cond.methodLink RX2 115 Lib.Math.min.name ∈ lw_tbl := (mt_3 _ (List.mem_of_getElem? (i := 95) (by decide +kernel)))
theorem lmm_J1_38 : Cond.methodLink RJ1 38 Lib.Math.min.name ∈ lw_tbl := (mt_4 _ (List.mem_of_getElem? (i := 81) (by decide +kernel)))
theorem lmm_J2_183 : Cond.methodLink RJ2 183 Lib.Math.min.name ∈ lw_tbl := (mt_4 _ (List.mem_of_getElem? (i := 89) (by decide +kernel)))
theorem lmm_J7_304 : Cond.methodLink RJ7 304 Lib.Math.min.name ∈ lw_tbl := (mt_4 _ (List.mem_of_getElem? (i := 154) (by decide +kernel)))
theorem mm_abs_c : Cond.code Lib.Math.abs.name Lib.Math.abs.code 1 (some .int) ∈ lw_tbl := (mt_3 _ (List.mem_of_getElem? (i := 161) (by decide +kernel)))
theorem mm_abs_s : Cond.static Lib.Math.abs.name ∈ lw_tbl := (mt_3 _ (List.mem_of_getElem? (i := 160) (by decide +kernel)))
theorem lmm_X8_241 : Cond.methodLink RX8 241 Lib.Math.abs.name ∈ lw_tbl := (mt_3 _ (List.mem_of_getElem? (i := 159) (by decide +kernel)))
theorem mm_i : Cond.initialized "java/lang/Math" ∈ lw_tbl := (mt_1 _ (List.mem_of_getElem? (i := 13) (by decide +kernel)))
section GMA
variable {X : CX} {d mc ms : Nat} {M : MT} {pc : Nat} {lc : List (Option Value)} {st : List Value} {cn sn : Nat} {mem : Mm} {Q : Option Value → (Nat → va_E) → Nat → Prop} {ce : Nat → va_E} {N : Nat}
theorem gc_aloadN {i : Nat} (hd : decode M.2.1 pc = .ok (.aload i, 2)) (hv : lc[i]? = some (some .null)) (k : GoC X d mc ms M (pc + 2) lc (.null :: st) cn sn ce N Q) : GoC X d mc ms M pc lc st cn sn ce N Q := fun p e s m args below meth c H locs ls F hS hH hl => lv_aloadN F.2.1 F.2.2.1 hd (hl.2.2 _ _ hv).1 (k p e s m args below meth c H locs ls F hS hH hl)
theorem gc_mmax {index : Nat} {x y : Int32} (hd : decode M.2.1 pc = .ok (.invokestatic index, 3)) (hlk : Cond.methodLink M.1.cls index Lib.Math.max.name ∈ lw_tbl) (hdd : 1 ≤ d) (hcat : (st.map fun v => v.category).sum ≤ 8) (h1 : cn ≤ mc) (h2 : sn ≤ ms) (k : GoC X d mc ms M (pc + 3) lc (.int (if x < y then y else x) :: st) cn sn ce N Q) : GoC X d mc ms M pc lc (.int y :: .int x :: st) cn sn ce N Q := by
  intro p e s m args below meth c H locs ls F hS hH hl
  have hW := F.2.2.2.2.2.2.2.1
  exact va_mmax F.2.1 F.2.2.1 (by rw [F.2.2.2.2.2.1]; exact hl.1.symm) F.2.2.2.2.2.2.1 (cx_w F.1 hW hlk rfl) (cx_w F.1 hW mm_max_s rfl) (cx_w F.1 hW mm_i rfl) (cx_w F.1 hW mm_max_c rfl) hdd (by show _ ≤ 41 * d + 32; omega) h1 h2 hd (k p e s m args below meth c H locs ls F hS hH hl)
theorem gc_mmin {index : Nat} {x y : Int32} (hd : decode M.2.1 pc = .ok (.invokestatic index, 3)) (hlk : Cond.methodLink M.1.cls index Lib.Math.min.name ∈ lw_tbl) (hdd : 1 ≤ d) (hcat : (st.map fun v => v.category).sum ≤ 8) (h1 : cn ≤ mc) (h2 : sn ≤ ms) (k : GoC X d mc ms M (pc + 3) lc (.int (if y < x then y else x) :: st) cn sn ce N Q) : GoC X d mc ms M pc lc (.int y :: .int x :: st) cn sn ce N Q := by
  intro p e s m args below meth c H locs ls F hS hH hl
  have hW := F.2.2.2.2.2.2.2.1
  exact va_mmin F.2.1 F.2.2.1 (by rw [F.2.2.2.2.2.1]; exact hl.1.symm) F.2.2.2.2.2.2.1 (cx_w F.1 hW hlk rfl) (cx_w F.1 hW mm_min_s rfl) (cx_w F.1 hW mm_i rfl) (cx_w F.1 hW mm_min_c rfl) hdd (by show _ ≤ 41 * d + 32; omega) h1 h2 hd (k p e s m args below meth c H locs ls F hS hH hl)
theorem gc_mabs {index : Nat} {x : Int32} (hd : decode M.2.1 pc = .ok (.invokestatic index, 3)) (hlk : Cond.methodLink M.1.cls index Lib.Math.abs.name ∈ lw_tbl) (hdd : 1 ≤ d) (hcat : (st.map fun v => v.category).sum ≤ 8) (h1 : cn ≤ mc) (h2 : sn ≤ ms) (k : GoC X d mc ms M (pc + 3) lc (.int (if 0 ≤ x then x else 0 - x) :: st) cn sn ce N Q) : GoC X d mc ms M pc lc (.int x :: st) cn sn ce N Q := by
  intro p e s m args below meth c H locs ls F hS hH hl
  have hW := F.2.2.2.2.2.2.2.1
  exact va_mabs F.2.1 F.2.2.1 (by rw [F.2.2.2.2.2.1]; exact hl.1.symm) F.2.2.2.2.2.2.1 (cx_w F.1 hW hlk rfl) (cx_w F.1 hW mm_abs_s rfl) (cx_w F.1 hW mm_i rfl) (cx_w F.1 hW mm_abs_c rfl) hdd (by show _ ≤ 41 * d + 32; omega) h1 h2 hd (k p e s m args below meth c H locs ls F hS hH hl)
end GMA
