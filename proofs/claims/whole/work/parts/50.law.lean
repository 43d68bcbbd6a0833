/-! the law's cases, one by one -/
abbrev M_L_law : MT := (x, code, 4, ret)
section GL
variable {X : CX} {d mc ms : Nat} {M : MT} {pc : Nat} {lc : List (Option Value)} {st : List Value} {cn sn : Nat} {mem : Mm} {Q : Option Value → (Nat → va_E) → Nat → Prop} {ce : Nat → va_E} {N : Nat}
theorem gc_scr {L : Nat} {xs : Nat → Int32} {w : Int32} (j : Nat) (hX : va_X (cx_b X) L xs (cx_s X) (cx_s X).heap) (hb9 : cx_b X < cx_n X) (hL : L ≤ 100000) (hd : decode M.2.1 pc = .ok (.iaload, 1)) (hx : w = nI j) (hj : j < L) (kt : GoC X d mc ms M (pc + 1) lc (.int (xs j) :: st) cn sn ce N Q) : GoC X d mc ms M pc lc (.int w :: .ref (cx_b X) :: st) cn sn ce N Q := by
  intro p e s m args below meth c H locs ls F hS hH hl
  have kk := kt p e s m args below meth c H locs ls F hS hH hl
  have hW := F.2.2.2.2.2.2.2.1
  have hB := F.2.2.2.2.2.2.2.2.1
  have hlt2 : cx_b X < s.heap.size := Nat.lt_of_lt_of_le hb9 hB.1
  have hX2 : va_X (cx_b X) L xs s s.heap := va_X.moved hW.alike (hX.kept (hB.2.1 _ hb9 (Nat.not_le.mpr hb9)))
  obtain ⟨h1, h2⟩ := ix_in hx hj hL
  have kk2 : W p (cx_l X) e (rmX d mc ms) s m args below meth c H locs cn sn (MQ below (QcX X Q) args s mc ms (cx_A X)) (F0 m (pc + 1) ls (.int (xs w.toNatClampNeg) :: st)) := by rw [h2]; exact kk
  exact va_sld F.2.1 F.2.2.1 hX2 hlt2 (Nat.not_le.mpr hb9) hS h1 hd kk2
theorem gc_slen {L : Nat} {xs : Nat → Int32} (hX : va_X (cx_b X) L xs (cx_s X) (cx_s X).heap) (hb9 : cx_b X < cx_n X) (hd : decode M.2.1 pc = .ok (.arraylength, 1)) (kt : GoC X d mc ms M (pc + 1) lc (.int (nI L) :: st) cn sn ce N Q) : GoC X d mc ms M pc lc (.ref (cx_b X) :: st) cn sn ce N Q := by
  intro p e s m args below meth c H locs ls F hS hH hl
  have kk := kt p e s m args below meth c H locs ls F hS hH hl
  have hW := F.2.2.2.2.2.2.2.1
  have hB := F.2.2.2.2.2.2.2.2.1
  have hlt2 : cx_b X < s.heap.size := Nat.lt_of_lt_of_le hb9 hB.1
  have hX2 : va_X (cx_b X) L xs s s.heap := va_X.moved hW.alike (hX.kept (hB.2.1 _ hb9 (Nat.not_le.mpr hb9)))
  exact va_slen F.2.1 F.2.2.1 hX2 hlt2 (Nat.not_le.mpr hb9) hS hd kk
end GL
set_option maxRecDepth 100000 in
set_option maxHeartbeats 4000000 in
theorem lw_c0 (X : CX) (L : Nat) (xs : Nat → Int32) (hX : va_X (cx_b X) L xs (cx_s X) (cx_s X).heap) (hb9 : cx_b X < cx_n X) (hL : L ≤ 100000) (i cn sn : Nat) (hi : i + 6 ≤ L) (h1 : cn + 3 ≤ 600000) (h2 : sn + 200 ≤ 7302250) (mem : Mm) (Iv : Mm → Prop) (Q : Option Value → (Nat → va_E) → Nat → Prop) (hs : W_X8_man (xs (i + 1)) (xs (i + 2)) (xs (i + 3)) (xs (i + 4)) mem (fun v m => W_X9_man (xs (i + 1)) (xs (i + 2)) (xs (i + 3)) (xs (i + 4)) m (fun v2 m2 => v = v2 ∧ Iv m2))) (kt : ∀ m2 : Mm, Iv m2 → GoC X 2048 600000 7302250 M_L_law 1445 [some (.ref (cx_b X)), some (.ref (cx_n X + 0)), some (.ref (cx_n X + 82)), some (.int (nI i))] [] (cn + 0 + 0) (sn + 0 + 0) (cellAt X m2) (sz m2) Q) : GoC X 2048 600000 7302250 M_L_law 212 [some (.ref (cx_b X)), some (.ref (cx_n X + 0)), some (.ref (cx_n X + 82)), some (.int (nI i))] [] cn sn (cellAt X mem) (sz mem) Q := by
  refine gc_aload_n dL_law_212 rfl ?_
  refine gc_aload_n dL_law_213 rfl ?_
  refine gc_iload_n dL_law_214 rfl ?_
  refine gc_iconst (v := 1) dL_law_215 (by decide) ?_
  refine gc_iadd dL_law_216 ?_
  refine gc_scr (i + 1) hX hb9 hL dL_law_217 (nI_add i 1) (by omega) ?_
  refine gc_aload_n dL_law_218 rfl ?_
  refine gc_iload_n dL_law_219 rfl ?_
  refine gc_iconst (v := 2) dL_law_220 (by decide) ?_
  refine gc_iadd dL_law_221 ?_
  refine gc_scr (i + 2) hX hb9 hL dL_law_222 (nI_add i 2) (by omega) ?_
  refine gc_aload_n dL_law_223 rfl ?_
  refine gc_iload_n dL_law_224 rfl ?_
  refine gc_iconst (v := 3) dL_law_225 (by decide) ?_
  refine gc_iadd dL_law_226 ?_
  refine gc_scr (i + 3) hX hb9 hL dL_law_227 (nI_add i 3) (by omega) ?_
  refine gc_aload_n dL_law_228 rfl ?_
  refine gc_iload_n dL_law_229 rfl ?_
  refine gc_iconst (v := 4) dL_law_230 (by decide) ?_
  refine gc_iadd dL_law_231 ?_
  refine gc_scr (i + 4) hX hb9 hL dL_law_232 (nI_add i 4) (by omega) ?_
  refine go_callV (mc' := 0) (ms' := 0) (y := M_X8_man) (As := [.int (xs (i + 1)), .int (xs (i + 2)), .int (xs (i + 3)), .int (xs (i + 4))]) (rest := []) dL_law_233 lm_L_13 ok_X8_man (by decide) (by omega) (by omega) (sz_lt (by decide)) kd_0 rfl rfl rfl (Nat.le_of_ble_eq_true rfl) (w_X8_man X (xs (i + 1)) (xs (i + 2)) (xs (i + 3)) (xs (i + 4)) mem _ hs) (fun r1 m1 hq1 => ?_)
  obtain ⟨v1, rfl, hs⟩ := hq1
  refine gc_aload_n dL_law_236 rfl ?_
  refine gc_aload_n dL_law_237 rfl ?_
  refine gc_iload_n dL_law_238 rfl ?_
  refine gc_iconst (v := 1) dL_law_239 (by decide) ?_
  refine gc_iadd dL_law_240 ?_
  refine gc_scr (i + 1) hX hb9 hL dL_law_241 (nI_add i 1) (by omega) ?_
  refine gc_aload_n dL_law_242 rfl ?_
  refine gc_iload_n dL_law_243 rfl ?_
  refine gc_iconst (v := 2) dL_law_244 (by decide) ?_
  refine gc_iadd dL_law_245 ?_
  refine gc_scr (i + 2) hX hb9 hL dL_law_246 (nI_add i 2) (by omega) ?_
  refine gc_aload_n dL_law_247 rfl ?_
  refine gc_iload_n dL_law_248 rfl ?_
  refine gc_iconst (v := 3) dL_law_249 (by decide) ?_
  refine gc_iadd dL_law_250 ?_
  refine gc_scr (i + 3) hX hb9 hL dL_law_251 (nI_add i 3) (by omega) ?_
  refine gc_aload_n dL_law_252 rfl ?_
  refine gc_iload_n dL_law_253 rfl ?_
  refine gc_iconst (v := 4) dL_law_254 (by decide) ?_
  refine gc_iadd dL_law_255 ?_
  refine gc_scr (i + 4) hX hb9 hL dL_law_256 (nI_add i 4) (by omega) ?_
  refine go_callV (mc' := 0) (ms' := 0) (y := M_X9_man) (As := [.int (xs (i + 1)), .int (xs (i + 2)), .int (xs (i + 3)), .int (xs (i + 4))]) (rest := [.int v1]) dL_law_257 lm_L_17 ok_X9_man (by decide) (by omega) (by omega) (sz_lt (by decide)) kd_82 rfl rfl rfl (Nat.le_of_ble_eq_true rfl) (w_X9_man X (xs (i + 1)) (xs (i + 2)) (xs (i + 3)) (xs (i + 4)) m1 _ hs) (fun r2 m2 hq2 => ?_)
  obtain ⟨v2, rfl, e12, hI⟩ := hq2
  refine gc_icmp_eq 1445 dL_law_260 (by decide) (fun hcz => ?_) (fun hcz => absurd e12 hcz)
  exact kt m2 hI
set_option maxRecDepth 100000 in
set_option maxHeartbeats 4000000 in
theorem lw_c1 (X : CX) (L : Nat) (xs : Nat → Int32) (hX : va_X (cx_b X) L xs (cx_s X) (cx_s X).heap) (hb9 : cx_b X < cx_n X) (hL : L ≤ 100000) (i cn sn : Nat) (hi : i + 6 ≤ L) (h1 : cn + 3 ≤ 600000) (h2 : sn + 200 ≤ 7302250) (mem : Mm) (Iv : Mm → Prop) (Q : Option Value → (Nat → va_E) → Nat → Prop) (hs : W_X8_told (xs (i + 1)) (xs (i + 2)) mem (fun v m => W_X9_told (xs (i + 1)) (xs (i + 2)) m (fun v2 m2 => v = v2 ∧ Iv m2))) (kt : ∀ m2 : Mm, Iv m2 → GoC X 2048 600000 7302250 M_L_law 1445 [some (.ref (cx_b X)), some (.ref (cx_n X + 0)), some (.ref (cx_n X + 82)), some (.int (nI i))] [] (cn + 0 + 0) (sn + 0 + 0) (cellAt X m2) (sz m2) Q) : GoC X 2048 600000 7302250 M_L_law 265 [some (.ref (cx_b X)), some (.ref (cx_n X + 0)), some (.ref (cx_n X + 82)), some (.int (nI i))] [] cn sn (cellAt X mem) (sz mem) Q := by
  refine gc_aload_n dL_law_265 rfl ?_
  refine gc_aload_n dL_law_266 rfl ?_
  refine gc_iload_n dL_law_267 rfl ?_
  refine gc_iconst (v := 1) dL_law_268 (by decide) ?_
  refine gc_iadd dL_law_269 ?_
  refine gc_scr (i + 1) hX hb9 hL dL_law_270 (nI_add i 1) (by omega) ?_
  refine gc_aload_n dL_law_271 rfl ?_
  refine gc_iload_n dL_law_272 rfl ?_
  refine gc_iconst (v := 2) dL_law_273 (by decide) ?_
  refine gc_iadd dL_law_274 ?_
  refine gc_scr (i + 2) hX hb9 hL dL_law_275 (nI_add i 2) (by omega) ?_
  refine go_callV (mc' := 0) (ms' := 0) (y := M_X8_told) (As := [.int (xs (i + 1)), .int (xs (i + 2))]) (rest := []) dL_law_276 lm_L_18 ok_X8_told (by decide) (by omega) (by omega) (sz_lt (by decide)) kd_0 rfl rfl rfl (Nat.le_of_ble_eq_true rfl) (w_X8_told X (xs (i + 1)) (xs (i + 2)) mem _ hs) (fun r1 m1 hq1 => ?_)
  obtain ⟨v1, rfl, hs⟩ := hq1
  refine gc_aload_n dL_law_279 rfl ?_
  refine gc_aload_n dL_law_280 rfl ?_
  refine gc_iload_n dL_law_281 rfl ?_
  refine gc_iconst (v := 1) dL_law_282 (by decide) ?_
  refine gc_iadd dL_law_283 ?_
  refine gc_scr (i + 1) hX hb9 hL dL_law_284 (nI_add i 1) (by omega) ?_
  refine gc_aload_n dL_law_285 rfl ?_
  refine gc_iload_n dL_law_286 rfl ?_
  refine gc_iconst (v := 2) dL_law_287 (by decide) ?_
  refine gc_iadd dL_law_288 ?_
  refine gc_scr (i + 2) hX hb9 hL dL_law_289 (nI_add i 2) (by omega) ?_
  refine go_callV (mc' := 0) (ms' := 0) (y := M_X9_told) (As := [.int (xs (i + 1)), .int (xs (i + 2))]) (rest := [.int v1]) dL_law_290 lm_L_22 ok_X9_told (by decide) (by omega) (by omega) (sz_lt (by decide)) kd_82 rfl rfl rfl (Nat.le_of_ble_eq_true rfl) (w_X9_told X (xs (i + 1)) (xs (i + 2)) m1 _ hs) (fun r2 m2 hq2 => ?_)
  obtain ⟨v2, rfl, e12, hI⟩ := hq2
  refine gc_icmp_eq 1445 dL_law_293 (by decide) (fun hcz => ?_) (fun hcz => absurd e12 hcz)
  exact kt m2 hI
set_option maxRecDepth 100000 in
set_option maxHeartbeats 4000000 in
theorem lw_c2 (X : CX) (L : Nat) (xs : Nat → Int32) (hX : va_X (cx_b X) L xs (cx_s X) (cx_s X).heap) (hb9 : cx_b X < cx_n X) (hL : L ≤ 100000) (i cn sn : Nat) (hi : i + 6 ≤ L) (h1 : cn + 3 ≤ 600000) (h2 : sn + 200 ≤ 7302250) (mem : Mm) (Iv : Mm → Prop) (Q : Option Value → (Nat → va_E) → Nat → Prop) (hs : W_X8_bears (xs (i + 1)) (xs (i + 2)) mem (fun v m => W_X9_bears (xs (i + 1)) (xs (i + 2)) m (fun v2 m2 => v = v2 ∧ Iv m2))) (kt : ∀ m2 : Mm, Iv m2 → GoC X 2048 600000 7302250 M_L_law 1445 [some (.ref (cx_b X)), some (.ref (cx_n X + 0)), some (.ref (cx_n X + 82)), some (.int (nI i))] [] (cn + 0 + 0) (sn + 0 + 0) (cellAt X m2) (sz m2) Q) : GoC X 2048 600000 7302250 M_L_law 298 [some (.ref (cx_b X)), some (.ref (cx_n X + 0)), some (.ref (cx_n X + 82)), some (.int (nI i))] [] cn sn (cellAt X mem) (sz mem) Q := by
  refine gc_aload_n dL_law_298 rfl ?_
  refine gc_aload_n dL_law_299 rfl ?_
  refine gc_iload_n dL_law_300 rfl ?_
  refine gc_iconst (v := 1) dL_law_301 (by decide) ?_
  refine gc_iadd dL_law_302 ?_
  refine gc_scr (i + 1) hX hb9 hL dL_law_303 (nI_add i 1) (by omega) ?_
  refine gc_aload_n dL_law_304 rfl ?_
  refine gc_iload_n dL_law_305 rfl ?_
  refine gc_iconst (v := 2) dL_law_306 (by decide) ?_
  refine gc_iadd dL_law_307 ?_
  refine gc_scr (i + 2) hX hb9 hL dL_law_308 (nI_add i 2) (by omega) ?_
  refine go_callV (mc' := 0) (ms' := 0) (y := M_X8_bears) (As := [.int (xs (i + 1)), .int (xs (i + 2))]) (rest := []) dL_law_309 lm_L_23 ok_X8_bears (by decide) (by omega) (by omega) (sz_lt (by decide)) kd_0 rfl rfl rfl (Nat.le_of_ble_eq_true rfl) (w_X8_bears X (xs (i + 1)) (xs (i + 2)) mem _ hs) (fun r1 m1 hq1 => ?_)
  obtain ⟨v1, rfl, hs⟩ := hq1
  refine gc_aload_n dL_law_312 rfl ?_
  refine gc_aload_n dL_law_313 rfl ?_
  refine gc_iload_n dL_law_314 rfl ?_
  refine gc_iconst (v := 1) dL_law_315 (by decide) ?_
  refine gc_iadd dL_law_316 ?_
  refine gc_scr (i + 1) hX hb9 hL dL_law_317 (nI_add i 1) (by omega) ?_
  refine gc_aload_n dL_law_318 rfl ?_
  refine gc_iload_n dL_law_319 rfl ?_
  refine gc_iconst (v := 2) dL_law_320 (by decide) ?_
  refine gc_iadd dL_law_321 ?_
  refine gc_scr (i + 2) hX hb9 hL dL_law_322 (nI_add i 2) (by omega) ?_
  refine go_callV (mc' := 0) (ms' := 0) (y := M_X9_bears) (As := [.int (xs (i + 1)), .int (xs (i + 2))]) (rest := [.int v1]) dL_law_323 lm_L_26 ok_X9_bears (by decide) (by omega) (by omega) (sz_lt (by decide)) kd_82 rfl rfl rfl (Nat.le_of_ble_eq_true rfl) (w_X9_bears X (xs (i + 1)) (xs (i + 2)) m1 _ hs) (fun r2 m2 hq2 => ?_)
  obtain ⟨v2, rfl, e12, hI⟩ := hq2
  refine gc_icmp_eq 1445 dL_law_326 (by decide) (fun hcz => ?_) (fun hcz => absurd e12 hcz)
  exact kt m2 hI
set_option maxRecDepth 100000 in
set_option maxHeartbeats 4000000 in
theorem lw_c3 (X : CX) (L : Nat) (xs : Nat → Int32) (hX : va_X (cx_b X) L xs (cx_s X) (cx_s X).heap) (hb9 : cx_b X < cx_n X) (hL : L ≤ 100000) (i cn sn : Nat) (hi : i + 6 ≤ L) (h1 : cn + 3 ≤ 600000) (h2 : sn + 200 ≤ 7302250) (mem : Mm) (Iv : Mm → Prop) (Q : Option Value → (Nat → va_E) → Nat → Prop) (hs : W_X8_as (xs (i + 1)) (xs (i + 2)) mem (fun v m => W_X9_as (xs (i + 1)) (xs (i + 2)) m (fun v2 m2 => v = v2 ∧ Iv m2))) (kt : ∀ m2 : Mm, Iv m2 → GoC X 2048 600000 7302250 M_L_law 1445 [some (.ref (cx_b X)), some (.ref (cx_n X + 0)), some (.ref (cx_n X + 82)), some (.int (nI i))] [] (cn + 0 + 0) (sn + 0 + 0) (cellAt X m2) (sz m2) Q) : GoC X 2048 600000 7302250 M_L_law 331 [some (.ref (cx_b X)), some (.ref (cx_n X + 0)), some (.ref (cx_n X + 82)), some (.int (nI i))] [] cn sn (cellAt X mem) (sz mem) Q := by
  refine gc_aload_n dL_law_331 rfl ?_
  refine gc_aload_n dL_law_332 rfl ?_
  refine gc_iload_n dL_law_333 rfl ?_
  refine gc_iconst (v := 1) dL_law_334 (by decide) ?_
  refine gc_iadd dL_law_335 ?_
  refine gc_scr (i + 1) hX hb9 hL dL_law_336 (nI_add i 1) (by omega) ?_
  refine gc_aload_n dL_law_337 rfl ?_
  refine gc_iload_n dL_law_338 rfl ?_
  refine gc_iconst (v := 2) dL_law_339 (by decide) ?_
  refine gc_iadd dL_law_340 ?_
  refine gc_scr (i + 2) hX hb9 hL dL_law_341 (nI_add i 2) (by omega) ?_
  refine go_callV (mc' := 0) (ms' := 0) (y := M_X8_as) (As := [.int (xs (i + 1)), .int (xs (i + 2))]) (rest := []) dL_law_342 lm_L_27 ok_X8_as (by decide) (by omega) (by omega) (sz_lt (by decide)) kd_0 rfl rfl rfl (Nat.le_of_ble_eq_true rfl) (w_X8_as X (xs (i + 1)) (xs (i + 2)) mem _ hs) (fun r1 m1 hq1 => ?_)
  obtain ⟨v1, rfl, hs⟩ := hq1
  refine gc_aload_n dL_law_345 rfl ?_
  refine gc_aload_n dL_law_346 rfl ?_
  refine gc_iload_n dL_law_347 rfl ?_
  refine gc_iconst (v := 1) dL_law_348 (by decide) ?_
  refine gc_iadd dL_law_349 ?_
  refine gc_scr (i + 1) hX hb9 hL dL_law_350 (nI_add i 1) (by omega) ?_
  refine gc_aload_n dL_law_351 rfl ?_
  refine gc_iload_n dL_law_352 rfl ?_
  refine gc_iconst (v := 2) dL_law_353 (by decide) ?_
  refine gc_iadd dL_law_354 ?_
  refine gc_scr (i + 2) hX hb9 hL dL_law_355 (nI_add i 2) (by omega) ?_
  refine go_callV (mc' := 0) (ms' := 0) (y := M_X9_as) (As := [.int (xs (i + 1)), .int (xs (i + 2))]) (rest := [.int v1]) dL_law_356 lm_L_30 ok_X9_as (by decide) (by omega) (by omega) (sz_lt (by decide)) kd_82 rfl rfl rfl (Nat.le_of_ble_eq_true rfl) (w_X9_as X (xs (i + 1)) (xs (i + 2)) m1 _ hs) (fun r2 m2 hq2 => ?_)
  obtain ⟨v2, rfl, e12, hI⟩ := hq2
  refine gc_icmp_eq 1445 dL_law_359 (by decide) (fun hcz => ?_) (fun hcz => absurd e12 hcz)
  exact kt m2 hI
set_option maxRecDepth 100000 in
set_option maxHeartbeats 4000000 in
theorem lw_c4 (X : CX) (L : Nat) (xs : Nat → Int32) (hX : va_X (cx_b X) L xs (cx_s X) (cx_s X).heap) (hb9 : cx_b X < cx_n X) (hL : L ≤ 100000) (i cn sn : Nat) (hi : i + 6 ≤ L) (h1 : cn + 3 ≤ 600000) (h2 : sn + 200 ≤ 7302250) (mem : Mm) (Iv : Mm → Prop) (Q : Option Value → (Nat → va_E) → Nat → Prop) (hs : W_X8_turns (xs (i + 1)) (xs (i + 2)) mem (fun v m => W_X9_turns (xs (i + 1)) (xs (i + 2)) m (fun v2 m2 => v = v2 ∧ Iv m2))) (kt : ∀ m2 : Mm, Iv m2 → GoC X 2048 600000 7302250 M_L_law 1445 [some (.ref (cx_b X)), some (.ref (cx_n X + 0)), some (.ref (cx_n X + 82)), some (.int (nI i))] [] (cn + 0 + 0) (sn + 0 + 0) (cellAt X m2) (sz m2) Q) : GoC X 2048 600000 7302250 M_L_law 364 [some (.ref (cx_b X)), some (.ref (cx_n X + 0)), some (.ref (cx_n X + 82)), some (.int (nI i))] [] cn sn (cellAt X mem) (sz mem) Q := by
  refine gc_aload_n dL_law_364 rfl ?_
  refine gc_aload_n dL_law_365 rfl ?_
  refine gc_iload_n dL_law_366 rfl ?_
  refine gc_iconst (v := 1) dL_law_367 (by decide) ?_
  refine gc_iadd dL_law_368 ?_
  refine gc_scr (i + 1) hX hb9 hL dL_law_369 (nI_add i 1) (by omega) ?_
  refine gc_aload_n dL_law_370 rfl ?_
  refine gc_iload_n dL_law_371 rfl ?_
  refine gc_iconst (v := 2) dL_law_372 (by decide) ?_
  refine gc_iadd dL_law_373 ?_
  refine gc_scr (i + 2) hX hb9 hL dL_law_374 (nI_add i 2) (by omega) ?_
  refine go_callV (mc' := 0) (ms' := 0) (y := M_X8_turns) (As := [.int (xs (i + 1)), .int (xs (i + 2))]) (rest := []) dL_law_375 lm_L_31 ok_X8_turns (by decide) (by omega) (by omega) (sz_lt (by decide)) kd_0 rfl rfl rfl (Nat.le_of_ble_eq_true rfl) (w_X8_turns X (xs (i + 1)) (xs (i + 2)) mem _ hs) (fun r1 m1 hq1 => ?_)
  obtain ⟨v1, rfl, hs⟩ := hq1
  refine gc_aload_n dL_law_378 rfl ?_
  refine gc_aload_n dL_law_379 rfl ?_
  refine gc_iload_n dL_law_380 rfl ?_
  refine gc_iconst (v := 1) dL_law_381 (by decide) ?_
  refine gc_iadd dL_law_382 ?_
  refine gc_scr (i + 1) hX hb9 hL dL_law_383 (nI_add i 1) (by omega) ?_
  refine gc_aload_n dL_law_384 rfl ?_
  refine gc_iload_n dL_law_385 rfl ?_
  refine gc_iconst (v := 2) dL_law_386 (by decide) ?_
  refine gc_iadd dL_law_387 ?_
  refine gc_scr (i + 2) hX hb9 hL dL_law_388 (nI_add i 2) (by omega) ?_
  refine go_callV (mc' := 0) (ms' := 0) (y := M_X9_turns) (As := [.int (xs (i + 1)), .int (xs (i + 2))]) (rest := [.int v1]) dL_law_389 lm_L_34 ok_X9_turns (by decide) (by omega) (by omega) (sz_lt (by decide)) kd_82 rfl rfl rfl (Nat.le_of_ble_eq_true rfl) (w_X9_turns X (xs (i + 1)) (xs (i + 2)) m1 _ hs) (fun r2 m2 hq2 => ?_)
  obtain ⟨v2, rfl, e12, hI⟩ := hq2
  refine gc_icmp_eq 1445 dL_law_392 (by decide) (fun hcz => ?_) (fun hcz => absurd e12 hcz)
  exact kt m2 hI
set_option maxRecDepth 100000 in
set_option maxHeartbeats 4000000 in
theorem lw_c5 (X : CX) (L : Nat) (xs : Nat → Int32) (hX : va_X (cx_b X) L xs (cx_s X) (cx_s X).heap) (hb9 : cx_b X < cx_n X) (hL : L ≤ 100000) (i cn sn : Nat) (hi : i + 6 ≤ L) (h1 : cn + 3 ≤ 600000) (h2 : sn + 200 ≤ 7302250) (mem : Mm) (Iv : Mm → Prop) (Q : Option Value → (Nat → va_E) → Nat → Prop) (hs : W_X8_set (xs (i + 1)) (xs (i + 2)) (xs (i + 3)) mem (fun v m => W_X9_set (xs (i + 1)) (xs (i + 2)) (xs (i + 3)) m (fun v2 m2 => v = v2 ∧ Iv m2))) (kt : ∀ m2 : Mm, Iv m2 → GoC X 2048 600000 7302250 M_L_law 1445 [some (.ref (cx_b X)), some (.ref (cx_n X + 0)), some (.ref (cx_n X + 82)), some (.int (nI i))] [] (cn + 0 + 0) (sn + 0 + 0) (cellAt X m2) (sz m2) Q) : GoC X 2048 600000 7302250 M_L_law 397 [some (.ref (cx_b X)), some (.ref (cx_n X + 0)), some (.ref (cx_n X + 82)), some (.int (nI i))] [] cn sn (cellAt X mem) (sz mem) Q := by
  refine gc_aload_n dL_law_397 rfl ?_
  refine gc_aload_n dL_law_398 rfl ?_
  refine gc_iload_n dL_law_399 rfl ?_
  refine gc_iconst (v := 1) dL_law_400 (by decide) ?_
  refine gc_iadd dL_law_401 ?_
  refine gc_scr (i + 1) hX hb9 hL dL_law_402 (nI_add i 1) (by omega) ?_
  refine gc_aload_n dL_law_403 rfl ?_
  refine gc_iload_n dL_law_404 rfl ?_
  refine gc_iconst (v := 2) dL_law_405 (by decide) ?_
  refine gc_iadd dL_law_406 ?_
  refine gc_scr (i + 2) hX hb9 hL dL_law_407 (nI_add i 2) (by omega) ?_
  refine gc_aload_n dL_law_408 rfl ?_
  refine gc_iload_n dL_law_409 rfl ?_
  refine gc_iconst (v := 3) dL_law_410 (by decide) ?_
  refine gc_iadd dL_law_411 ?_
  refine gc_scr (i + 3) hX hb9 hL dL_law_412 (nI_add i 3) (by omega) ?_
  refine go_callV (mc' := 0) (ms' := 0) (y := M_X8_set) (As := [.int (xs (i + 1)), .int (xs (i + 2)), .int (xs (i + 3))]) (rest := []) dL_law_413 lm_L_35 ok_X8_set (by decide) (by omega) (by omega) (sz_lt (by decide)) kd_0 rfl rfl rfl (Nat.le_of_ble_eq_true rfl) (w_X8_set X (xs (i + 1)) (xs (i + 2)) (xs (i + 3)) mem _ hs) (fun r1 m1 hq1 => ?_)
  obtain ⟨v1, rfl, hs⟩ := hq1
  refine gc_aload_n dL_law_416 rfl ?_
  refine gc_aload_n dL_law_417 rfl ?_
  refine gc_iload_n dL_law_418 rfl ?_
  refine gc_iconst (v := 1) dL_law_419 (by decide) ?_
  refine gc_iadd dL_law_420 ?_
  refine gc_scr (i + 1) hX hb9 hL dL_law_421 (nI_add i 1) (by omega) ?_
  refine gc_aload_n dL_law_422 rfl ?_
  refine gc_iload_n dL_law_423 rfl ?_
  refine gc_iconst (v := 2) dL_law_424 (by decide) ?_
  refine gc_iadd dL_law_425 ?_
  refine gc_scr (i + 2) hX hb9 hL dL_law_426 (nI_add i 2) (by omega) ?_
  refine gc_aload_n dL_law_427 rfl ?_
  refine gc_iload_n dL_law_428 rfl ?_
  refine gc_iconst (v := 3) dL_law_429 (by decide) ?_
  refine gc_iadd dL_law_430 ?_
  refine gc_scr (i + 3) hX hb9 hL dL_law_431 (nI_add i 3) (by omega) ?_
  refine go_callV (mc' := 0) (ms' := 0) (y := M_X9_set) (As := [.int (xs (i + 1)), .int (xs (i + 2)), .int (xs (i + 3))]) (rest := [.int v1]) dL_law_432 lm_L_39 ok_X9_set (by decide) (by omega) (by omega) (sz_lt (by decide)) kd_82 rfl rfl rfl (Nat.le_of_ble_eq_true rfl) (w_X9_set X (xs (i + 1)) (xs (i + 2)) (xs (i + 3)) m1 _ hs) (fun r2 m2 hq2 => ?_)
  obtain ⟨v2, rfl, e12, hI⟩ := hq2
  refine gc_icmp_eq 1445 dL_law_435 (by decide) (fun hcz => ?_) (fun hcz => absurd e12 hcz)
  exact kt m2 hI
set_option maxRecDepth 100000 in
set_option maxHeartbeats 4000000 in
theorem lw_c6 (X : CX) (L : Nat) (xs : Nat → Int32) (hX : va_X (cx_b X) L xs (cx_s X) (cx_s X).heap) (hb9 : cx_b X < cx_n X) (hL : L ≤ 100000) (i cn sn : Nat) (hi : i + 6 ≤ L) (h1 : cn + 3 ≤ 600000) (h2 : sn + 200 ≤ 7302250) (mem : Mm) (Iv : Mm → Prop) (Q : Option Value → (Nat → va_E) → Nat → Prop) (hs : W_X8_says (xs (i + 1)) (xs (i + 2)) (xs (i + 3)) (xs (i + 4)) mem (fun v m => W_X9_says (xs (i + 1)) (xs (i + 2)) (xs (i + 3)) (xs (i + 4)) m (fun v2 m2 => v = v2 ∧ Iv m2))) (kt : ∀ m2 : Mm, Iv m2 → GoC X 2048 600000 7302250 M_L_law 1445 [some (.ref (cx_b X)), some (.ref (cx_n X + 0)), some (.ref (cx_n X + 82)), some (.int (nI i))] [] (cn + 0 + 0) (sn + 0 + 0) (cellAt X m2) (sz m2) Q) : GoC X 2048 600000 7302250 M_L_law 440 [some (.ref (cx_b X)), some (.ref (cx_n X + 0)), some (.ref (cx_n X + 82)), some (.int (nI i))] [] cn sn (cellAt X mem) (sz mem) Q := by
  refine gc_aload_n dL_law_440 rfl ?_
  refine gc_aload_n dL_law_441 rfl ?_
  refine gc_iload_n dL_law_442 rfl ?_
  refine gc_iconst (v := 1) dL_law_443 (by decide) ?_
  refine gc_iadd dL_law_444 ?_
  refine gc_scr (i + 1) hX hb9 hL dL_law_445 (nI_add i 1) (by omega) ?_
  refine gc_aload_n dL_law_446 rfl ?_
  refine gc_iload_n dL_law_447 rfl ?_
  refine gc_iconst (v := 2) dL_law_448 (by decide) ?_
  refine gc_iadd dL_law_449 ?_
  refine gc_scr (i + 2) hX hb9 hL dL_law_450 (nI_add i 2) (by omega) ?_
  refine gc_aload_n dL_law_451 rfl ?_
  refine gc_iload_n dL_law_452 rfl ?_
  refine gc_iconst (v := 3) dL_law_453 (by decide) ?_
  refine gc_iadd dL_law_454 ?_
  refine gc_scr (i + 3) hX hb9 hL dL_law_455 (nI_add i 3) (by omega) ?_
  refine gc_aload_n dL_law_456 rfl ?_
  refine gc_iload_n dL_law_457 rfl ?_
  refine gc_iconst (v := 4) dL_law_458 (by decide) ?_
  refine gc_iadd dL_law_459 ?_
  refine gc_scr (i + 4) hX hb9 hL dL_law_460 (nI_add i 4) (by omega) ?_
  refine go_callV (mc' := 0) (ms' := 0) (y := M_X8_says) (As := [.int (xs (i + 1)), .int (xs (i + 2)), .int (xs (i + 3)), .int (xs (i + 4))]) (rest := []) dL_law_461 lm_L_40 ok_X8_says (by decide) (by omega) (by omega) (sz_lt (by decide)) kd_0 rfl rfl rfl (Nat.le_of_ble_eq_true rfl) (w_X8_says X (xs (i + 1)) (xs (i + 2)) (xs (i + 3)) (xs (i + 4)) mem _ hs) (fun r1 m1 hq1 => ?_)
  obtain ⟨v1, rfl, hs⟩ := hq1
  refine gc_aload_n dL_law_464 rfl ?_
  refine gc_aload_n dL_law_465 rfl ?_
  refine gc_iload_n dL_law_466 rfl ?_
  refine gc_iconst (v := 1) dL_law_467 (by decide) ?_
  refine gc_iadd dL_law_468 ?_
  refine gc_scr (i + 1) hX hb9 hL dL_law_469 (nI_add i 1) (by omega) ?_
  refine gc_aload_n dL_law_470 rfl ?_
  refine gc_iload_n dL_law_471 rfl ?_
  refine gc_iconst (v := 2) dL_law_472 (by decide) ?_
  refine gc_iadd dL_law_473 ?_
  refine gc_scr (i + 2) hX hb9 hL dL_law_474 (nI_add i 2) (by omega) ?_
  refine gc_aload_n dL_law_475 rfl ?_
  refine gc_iload_n dL_law_476 rfl ?_
  refine gc_iconst (v := 3) dL_law_477 (by decide) ?_
  refine gc_iadd dL_law_478 ?_
  refine gc_scr (i + 3) hX hb9 hL dL_law_479 (nI_add i 3) (by omega) ?_
  refine gc_aload_n dL_law_480 rfl ?_
  refine gc_iload_n dL_law_481 rfl ?_
  refine gc_iconst (v := 4) dL_law_482 (by decide) ?_
  refine gc_iadd dL_law_483 ?_
  refine gc_scr (i + 4) hX hb9 hL dL_law_484 (nI_add i 4) (by omega) ?_
  refine go_callV (mc' := 0) (ms' := 0) (y := M_X9_says) (As := [.int (xs (i + 1)), .int (xs (i + 2)), .int (xs (i + 3)), .int (xs (i + 4))]) (rest := [.int v1]) dL_law_485 lm_L_43 ok_X9_says (by decide) (by omega) (by omega) (sz_lt (by decide)) kd_82 rfl rfl rfl (Nat.le_of_ble_eq_true rfl) (w_X9_says X (xs (i + 1)) (xs (i + 2)) (xs (i + 3)) (xs (i + 4)) m1 _ hs) (fun r2 m2 hq2 => ?_)
  obtain ⟨v2, rfl, e12, hI⟩ := hq2
  refine gc_icmp_eq 1445 dL_law_488 (by decide) (fun hcz => ?_) (fun hcz => absurd e12 hcz)
  exact kt m2 hI
set_option maxRecDepth 100000 in
set_option maxHeartbeats 4000000 in
theorem lw_c7 (X : CX) (L : Nat) (xs : Nat → Int32) (hX : va_X (cx_b X) L xs (cx_s X) (cx_s X).heap) (hb9 : cx_b X < cx_n X) (hL : L ≤ 100000) (i cn sn : Nat) (hi : i + 6 ≤ L) (h1 : cn + 3 ≤ 600000) (h2 : sn + 200 ≤ 7302250) (mem : Mm) (Iv : Mm → Prop) (Q : Option Value → (Nat → va_E) → Nat → Prop) (hs : W_X8_sets  mem (fun v m => W_X9_sets  m (fun v2 m2 => v = v2 ∧ Iv m2))) (kt : ∀ m2 : Mm, Iv m2 → GoC X 2048 600000 7302250 M_L_law 1445 [some (.ref (cx_b X)), some (.ref (cx_n X + 0)), some (.ref (cx_n X + 82)), some (.int (nI i))] [] (cn + 0 + 0) (sn + 0 + 0) (cellAt X m2) (sz m2) Q) : GoC X 2048 600000 7302250 M_L_law 493 [some (.ref (cx_b X)), some (.ref (cx_n X + 0)), some (.ref (cx_n X + 82)), some (.int (nI i))] [] cn sn (cellAt X mem) (sz mem) Q := by
  refine gc_aload_n dL_law_493 rfl ?_
  refine go_callV (mc' := 0) (ms' := 0) (y := M_X8_sets) (As := []) (rest := []) dL_law_494 lm_L_44 ok_X8_sets (by decide) (by omega) (by omega) (sz_lt (by decide)) kd_0 rfl rfl rfl (Nat.le_of_ble_eq_true rfl) (w_X8_sets X  mem _ hs) (fun r1 m1 hq1 => ?_)
  obtain ⟨v1, rfl, hs⟩ := hq1
  refine gc_aload_n dL_law_497 rfl ?_
  refine go_callV (mc' := 0) (ms' := 0) (y := M_X9_sets) (As := []) (rest := [.int v1]) dL_law_498 lm_L_48 ok_X9_sets (by decide) (by omega) (by omega) (sz_lt (by decide)) kd_82 rfl rfl rfl (Nat.le_of_ble_eq_true rfl) (w_X9_sets X  m1 _ hs) (fun r2 m2 hq2 => ?_)
  obtain ⟨v2, rfl, e12, hI⟩ := hq2
  refine gc_icmp_eq 1445 dL_law_501 (by decide) (fun hcz => ?_) (fun hcz => absurd e12 hcz)
  exact kt m2 hI
set_option maxRecDepth 100000 in
set_option maxHeartbeats 4000000 in
theorem lw_c8 (X : CX) (L : Nat) (xs : Nat → Int32) (hX : va_X (cx_b X) L xs (cx_s X) (cx_s X).heap) (hb9 : cx_b X < cx_n X) (hL : L ≤ 100000) (i cn sn : Nat) (hi : i + 6 ≤ L) (h1 : cn + 3 ≤ 600000) (h2 : sn + 200 ≤ 7302250) (mem : Mm) (Iv : Mm → Prop) (Q : Option Value → (Nat → va_E) → Nat → Prop) (hs : W_X8_deal (xs (i + 1)) mem (fun v m => W_X9_deal (xs (i + 1)) m (fun v2 m2 => v = v2 ∧ Iv m2))) (kt : ∀ m2 : Mm, Iv m2 → GoC X 2048 600000 7302250 M_L_law 1445 [some (.ref (cx_b X)), some (.ref (cx_n X + 0)), some (.ref (cx_n X + 82)), some (.int (nI i))] [] (cn + 0 + 0) (sn + 0 + 0) (cellAt X m2) (sz m2) Q) : GoC X 2048 600000 7302250 M_L_law 506 [some (.ref (cx_b X)), some (.ref (cx_n X + 0)), some (.ref (cx_n X + 82)), some (.int (nI i))] [] cn sn (cellAt X mem) (sz mem) Q := by
  refine gc_aload_n dL_law_506 rfl ?_
  refine gc_aload_n dL_law_507 rfl ?_
  refine gc_iload_n dL_law_508 rfl ?_
  refine gc_iconst (v := 1) dL_law_509 (by decide) ?_
  refine gc_iadd dL_law_510 ?_
  refine gc_scr (i + 1) hX hb9 hL dL_law_511 (nI_add i 1) (by omega) ?_
  refine go_callV (mc' := 0) (ms' := 0) (y := M_X8_deal) (As := [.int (xs (i + 1))]) (rest := []) dL_law_512 lm_L_49 ok_X8_deal (by decide) (by omega) (by omega) (sz_lt (by decide)) kd_0 rfl rfl rfl (Nat.le_of_ble_eq_true rfl) (w_X8_deal X (xs (i + 1)) mem _ hs) (fun r1 m1 hq1 => ?_)
  obtain ⟨v1, rfl, hs⟩ := hq1
  refine gc_aload_n dL_law_515 rfl ?_
  refine gc_aload_n dL_law_516 rfl ?_
  refine gc_iload_n dL_law_517 rfl ?_
  refine gc_iconst (v := 1) dL_law_518 (by decide) ?_
  refine gc_iadd dL_law_519 ?_
  refine gc_scr (i + 1) hX hb9 hL dL_law_520 (nI_add i 1) (by omega) ?_
  refine go_callV (mc' := 0) (ms' := 0) (y := M_X9_deal) (As := [.int (xs (i + 1))]) (rest := [.int v1]) dL_law_521 lm_L_53 ok_X9_deal (by decide) (by omega) (by omega) (sz_lt (by decide)) kd_82 rfl rfl rfl (Nat.le_of_ble_eq_true rfl) (w_X9_deal X (xs (i + 1)) m1 _ hs) (fun r2 m2 hq2 => ?_)
  obtain ⟨v2, rfl, e12, hI⟩ := hq2
  refine gc_icmp_eq 1445 dL_law_524 (by decide) (fun hcz => ?_) (fun hcz => absurd e12 hcz)
  exact kt m2 hI
set_option maxRecDepth 100000 in
set_option maxHeartbeats 4000000 in
theorem lw_c9 (X : CX) (L : Nat) (xs : Nat → Int32) (hX : va_X (cx_b X) L xs (cx_s X) (cx_s X).heap) (hb9 : cx_b X < cx_n X) (hL : L ≤ 100000) (i cn sn : Nat) (hi : i + 6 ≤ L) (h1 : cn + 3 ≤ 600000) (h2 : sn + 200 ≤ 7302250) (mem : Mm) (Iv : Mm → Prop) (Q : Option Value → (Nat → va_E) → Nat → Prop) (hs : W_X8_seed (xs (i + 1)) mem (fun v m => W_X9_seed (xs (i + 1)) m (fun v2 m2 => v = v2 ∧ Iv m2))) (kt : ∀ m2 : Mm, Iv m2 → GoC X 2048 600000 7302250 M_L_law 1445 [some (.ref (cx_b X)), some (.ref (cx_n X + 0)), some (.ref (cx_n X + 82)), some (.int (nI i))] [] (cn + 0 + 0) (sn + 0 + 0) (cellAt X m2) (sz m2) Q) : GoC X 2048 600000 7302250 M_L_law 529 [some (.ref (cx_b X)), some (.ref (cx_n X + 0)), some (.ref (cx_n X + 82)), some (.int (nI i))] [] cn sn (cellAt X mem) (sz mem) Q := by
  refine gc_aload_n dL_law_529 rfl ?_
  refine gc_aload_n dL_law_530 rfl ?_
  refine gc_iload_n dL_law_531 rfl ?_
  refine gc_iconst (v := 1) dL_law_532 (by decide) ?_
  refine gc_iadd dL_law_533 ?_
  refine gc_scr (i + 1) hX hb9 hL dL_law_534 (nI_add i 1) (by omega) ?_
  refine go_callV (mc' := 0) (ms' := 0) (y := M_X8_seed) (As := [.int (xs (i + 1))]) (rest := []) dL_law_535 lm_L_54 ok_X8_seed (by decide) (by omega) (by omega) (sz_lt (by decide)) kd_0 rfl rfl rfl (Nat.le_of_ble_eq_true rfl) (w_X8_seed X (xs (i + 1)) mem _ hs) (fun r1 m1 hq1 => ?_)
  obtain ⟨v1, rfl, hs⟩ := hq1
  refine gc_aload_n dL_law_538 rfl ?_
  refine gc_aload_n dL_law_539 rfl ?_
  refine gc_iload_n dL_law_540 rfl ?_
  refine gc_iconst (v := 1) dL_law_541 (by decide) ?_
  refine gc_iadd dL_law_542 ?_
  refine gc_scr (i + 1) hX hb9 hL dL_law_543 (nI_add i 1) (by omega) ?_
  refine go_callV (mc' := 0) (ms' := 0) (y := M_X9_seed) (As := [.int (xs (i + 1))]) (rest := [.int v1]) dL_law_544 lm_L_57 ok_X9_seed (by decide) (by omega) (by omega) (sz_lt (by decide)) kd_82 rfl rfl rfl (Nat.le_of_ble_eq_true rfl) (w_X9_seed X (xs (i + 1)) m1 _ hs) (fun r2 m2 hq2 => ?_)
  obtain ⟨v2, rfl, e12, hI⟩ := hq2
  refine gc_icmp_eq 1445 dL_law_547 (by decide) (fun hcz => ?_) (fun hcz => absurd e12 hcz)
  exact kt m2 hI
set_option maxRecDepth 100000 in
set_option maxHeartbeats 4000000 in
theorem lw_c10 (X : CX) (L : Nat) (xs : Nat → Int32) (hX : va_X (cx_b X) L xs (cx_s X) (cx_s X).heap) (hb9 : cx_b X < cx_n X) (hL : L ≤ 100000) (i cn sn : Nat) (hi : i + 6 ≤ L) (h1 : cn + 3 ≤ 600000) (h2 : sn + 200 ≤ 7302250) (mem : Mm) (Iv : Mm → Prop) (Q : Option Value → (Nat → va_E) → Nat → Prop) (hs : W_X8_goes (xs (i + 1)) mem (fun v m => W_X9_goes (xs (i + 1)) m (fun v2 m2 => v = v2 ∧ Iv m2))) (kt : ∀ m2 : Mm, Iv m2 → GoC X 2048 600000 7302250 M_L_law 1445 [some (.ref (cx_b X)), some (.ref (cx_n X + 0)), some (.ref (cx_n X + 82)), some (.int (nI i))] [] (cn + 0 + 0) (sn + 0 + 0) (cellAt X m2) (sz m2) Q) : GoC X 2048 600000 7302250 M_L_law 552 [some (.ref (cx_b X)), some (.ref (cx_n X + 0)), some (.ref (cx_n X + 82)), some (.int (nI i))] [] cn sn (cellAt X mem) (sz mem) Q := by
  refine gc_aload_n dL_law_552 rfl ?_
  refine gc_aload_n dL_law_553 rfl ?_
  refine gc_iload_n dL_law_554 rfl ?_
  refine gc_iconst (v := 1) dL_law_555 (by decide) ?_
  refine gc_iadd dL_law_556 ?_
  refine gc_scr (i + 1) hX hb9 hL dL_law_557 (nI_add i 1) (by omega) ?_
  refine go_callV (mc' := 0) (ms' := 0) (y := M_X8_goes) (As := [.int (xs (i + 1))]) (rest := []) dL_law_558 lm_L_58 ok_X8_goes (by decide) (by omega) (by omega) (sz_lt (by decide)) kd_0 rfl rfl rfl (Nat.le_of_ble_eq_true rfl) (w_X8_goes X (xs (i + 1)) mem _ hs) (fun r1 m1 hq1 => ?_)
  obtain ⟨v1, rfl, hs⟩ := hq1
  refine gc_aload_n dL_law_561 rfl ?_
  refine gc_aload_n dL_law_562 rfl ?_
  refine gc_iload_n dL_law_563 rfl ?_
  refine gc_iconst (v := 1) dL_law_564 (by decide) ?_
  refine gc_iadd dL_law_565 ?_
  refine gc_scr (i + 1) hX hb9 hL dL_law_566 (nI_add i 1) (by omega) ?_
  refine go_callV (mc' := 0) (ms' := 0) (y := M_X9_goes) (As := [.int (xs (i + 1))]) (rest := [.int v1]) dL_law_567 lm_L_61 ok_X9_goes (by decide) (by omega) (by omega) (sz_lt (by decide)) kd_82 rfl rfl rfl (Nat.le_of_ble_eq_true rfl) (w_X9_goes X (xs (i + 1)) m1 _ hs) (fun r2 m2 hq2 => ?_)
  obtain ⟨v2, rfl, e12, hI⟩ := hq2
  refine gc_icmp_eq 1445 dL_law_570 (by decide) (fun hcz => ?_) (fun hcz => absurd e12 hcz)
  exact kt m2 hI
set_option maxRecDepth 100000 in
set_option maxHeartbeats 4000000 in
theorem lw_c11 (X : CX) (L : Nat) (xs : Nat → Int32) (hX : va_X (cx_b X) L xs (cx_s X) (cx_s X).heap) (hb9 : cx_b X < cx_n X) (hL : L ≤ 100000) (i cn sn : Nat) (hi : i + 6 ≤ L) (h1 : cn + 3 ≤ 600000) (h2 : sn + 200 ≤ 7302250) (mem : Mm) (Iv : Mm → Prop) (Q : Option Value → (Nat → va_E) → Nat → Prop) (hs : W_X8_alley (xs (i + 1)) mem (fun v m => W_X9_alley (xs (i + 1)) m (fun v2 m2 => v = v2 ∧ Iv m2))) (kt : ∀ m2 : Mm, Iv m2 → GoC X 2048 600000 7302250 M_L_law 1445 [some (.ref (cx_b X)), some (.ref (cx_n X + 0)), some (.ref (cx_n X + 82)), some (.int (nI i))] [] (cn + 0 + 0) (sn + 0 + 0) (cellAt X m2) (sz m2) Q) : GoC X 2048 600000 7302250 M_L_law 575 [some (.ref (cx_b X)), some (.ref (cx_n X + 0)), some (.ref (cx_n X + 82)), some (.int (nI i))] [] cn sn (cellAt X mem) (sz mem) Q := by
  refine gc_aload_n dL_law_575 rfl ?_
  refine gc_aload_n dL_law_576 rfl ?_
  refine gc_iload_n dL_law_577 rfl ?_
  refine gc_iconst (v := 1) dL_law_578 (by decide) ?_
  refine gc_iadd dL_law_579 ?_
  refine gc_scr (i + 1) hX hb9 hL dL_law_580 (nI_add i 1) (by omega) ?_
  refine go_callV (mc' := 0) (ms' := 0) (y := M_X8_alley) (As := [.int (xs (i + 1))]) (rest := []) dL_law_581 lm_L_62 ok_X8_alley (by decide) (by omega) (by omega) (sz_lt (by decide)) kd_0 rfl rfl rfl (Nat.le_of_ble_eq_true rfl) (w_X8_alley X (xs (i + 1)) mem _ hs) (fun r1 m1 hq1 => ?_)
  obtain ⟨v1, rfl, hs⟩ := hq1
  refine gc_aload_n dL_law_584 rfl ?_
  refine gc_aload_n dL_law_585 rfl ?_
  refine gc_iload_n dL_law_586 rfl ?_
  refine gc_iconst (v := 1) dL_law_587 (by decide) ?_
  refine gc_iadd dL_law_588 ?_
  refine gc_scr (i + 1) hX hb9 hL dL_law_589 (nI_add i 1) (by omega) ?_
  refine go_callV (mc' := 0) (ms' := 0) (y := M_X9_alley) (As := [.int (xs (i + 1))]) (rest := [.int v1]) dL_law_590 lm_L_65 ok_X9_alley (by decide) (by omega) (by omega) (sz_lt (by decide)) kd_82 rfl rfl rfl (Nat.le_of_ble_eq_true rfl) (w_X9_alley X (xs (i + 1)) m1 _ hs) (fun r2 m2 hq2 => ?_)
  obtain ⟨v2, rfl, e12, hI⟩ := hq2
  refine gc_icmp_eq 1445 dL_law_593 (by decide) (fun hcz => ?_) (fun hcz => absurd e12 hcz)
  exact kt m2 hI
set_option maxRecDepth 100000 in
set_option maxHeartbeats 4000000 in
theorem lw_c12 (X : CX) (L : Nat) (xs : Nat → Int32) (hX : va_X (cx_b X) L xs (cx_s X) (cx_s X).heap) (hb9 : cx_b X < cx_n X) (hL : L ≤ 100000) (i cn sn : Nat) (hi : i + 6 ≤ L) (h1 : cn + 3 ≤ 600000) (h2 : sn + 200 ≤ 7302250) (mem : Mm) (Iv : Mm → Prop) (Q : Option Value → (Nat → va_E) → Nat → Prop) (hs : W_X8_best (xs (i + 1)) (xs (i + 2)) mem (fun v m => W_X9_best (xs (i + 1)) (xs (i + 2)) m (fun v2 m2 => v = v2 ∧ Iv m2))) (kt : ∀ m2 : Mm, Iv m2 → GoC X 2048 600000 7302250 M_L_law 1445 [some (.ref (cx_b X)), some (.ref (cx_n X + 0)), some (.ref (cx_n X + 82)), some (.int (nI i))] [] (cn + 0 + 0) (sn + 0 + 0) (cellAt X m2) (sz m2) Q) : GoC X 2048 600000 7302250 M_L_law 598 [some (.ref (cx_b X)), some (.ref (cx_n X + 0)), some (.ref (cx_n X + 82)), some (.int (nI i))] [] cn sn (cellAt X mem) (sz mem) Q := by
  refine gc_aload_n dL_law_598 rfl ?_
  refine gc_aload_n dL_law_599 rfl ?_
  refine gc_iload_n dL_law_600 rfl ?_
  refine gc_iconst (v := 1) dL_law_601 (by decide) ?_
  refine gc_iadd dL_law_602 ?_
  refine gc_scr (i + 1) hX hb9 hL dL_law_603 (nI_add i 1) (by omega) ?_
  refine gc_aload_n dL_law_604 rfl ?_
  refine gc_iload_n dL_law_605 rfl ?_
  refine gc_iconst (v := 2) dL_law_606 (by decide) ?_
  refine gc_iadd dL_law_607 ?_
  refine gc_scr (i + 2) hX hb9 hL dL_law_608 (nI_add i 2) (by omega) ?_
  refine go_callV (mc' := 0) (ms' := 0) (y := M_X8_best) (As := [.int (xs (i + 1)), .int (xs (i + 2))]) (rest := []) dL_law_609 lm_L_66 ok_X8_best (by decide) (by omega) (by omega) (sz_lt (by decide)) kd_0 rfl rfl rfl (Nat.le_of_ble_eq_true rfl) (w_X8_best X (xs (i + 1)) (xs (i + 2)) mem _ hs) (fun r1 m1 hq1 => ?_)
  obtain ⟨v1, rfl, hs⟩ := hq1
  refine gc_aload_n dL_law_612 rfl ?_
  refine gc_aload_n dL_law_613 rfl ?_
  refine gc_iload_n dL_law_614 rfl ?_
  refine gc_iconst (v := 1) dL_law_615 (by decide) ?_
  refine gc_iadd dL_law_616 ?_
  refine gc_scr (i + 1) hX hb9 hL dL_law_617 (nI_add i 1) (by omega) ?_
  refine gc_aload_n dL_law_618 rfl ?_
  refine gc_iload_n dL_law_619 rfl ?_
  refine gc_iconst (v := 2) dL_law_620 (by decide) ?_
  refine gc_iadd dL_law_621 ?_
  refine gc_scr (i + 2) hX hb9 hL dL_law_622 (nI_add i 2) (by omega) ?_
  refine go_callV (mc' := 0) (ms' := 0) (y := M_X9_best) (As := [.int (xs (i + 1)), .int (xs (i + 2))]) (rest := [.int v1]) dL_law_623 lm_L_69 ok_X9_best (by decide) (by omega) (by omega) (sz_lt (by decide)) kd_82 rfl rfl rfl (Nat.le_of_ble_eq_true rfl) (w_X9_best X (xs (i + 1)) (xs (i + 2)) m1 _ hs) (fun r2 m2 hq2 => ?_)
  obtain ⟨v2, rfl, e12, hI⟩ := hq2
  refine gc_icmp_eq 1445 dL_law_626 (by decide) (fun hcz => ?_) (fun hcz => absurd e12 hcz)
  exact kt m2 hI
set_option maxRecDepth 100000 in
set_option maxHeartbeats 4000000 in
theorem lw_c13 (X : CX) (L : Nat) (xs : Nat → Int32) (hX : va_X (cx_b X) L xs (cx_s X) (cx_s X).heap) (hb9 : cx_b X < cx_n X) (hL : L ≤ 100000) (i cn sn : Nat) (hi : i + 6 ≤ L) (h1 : cn + 3 ≤ 600000) (h2 : sn + 200 ≤ 7302250) (mem : Mm) (Iv : Mm → Prop) (Q : Option Value → (Nat → va_E) → Nat → Prop) (hs : W_X8_pair (xs (i + 1)) mem (fun v m => W_X9_pair (xs (i + 1)) m (fun v2 m2 => v = v2 ∧ Iv m2))) (kt : ∀ m2 : Mm, Iv m2 → GoC X 2048 600000 7302250 M_L_law 1445 [some (.ref (cx_b X)), some (.ref (cx_n X + 0)), some (.ref (cx_n X + 82)), some (.int (nI i))] [] (cn + 0 + 0) (sn + 0 + 0) (cellAt X m2) (sz m2) Q) : GoC X 2048 600000 7302250 M_L_law 631 [some (.ref (cx_b X)), some (.ref (cx_n X + 0)), some (.ref (cx_n X + 82)), some (.int (nI i))] [] cn sn (cellAt X mem) (sz mem) Q := by
  refine gc_aload_n dL_law_631 rfl ?_
  refine gc_aload_n dL_law_632 rfl ?_
  refine gc_iload_n dL_law_633 rfl ?_
  refine gc_iconst (v := 1) dL_law_634 (by decide) ?_
  refine gc_iadd dL_law_635 ?_
  refine gc_scr (i + 1) hX hb9 hL dL_law_636 (nI_add i 1) (by omega) ?_
  refine go_callV (mc' := 0) (ms' := 0) (y := M_X8_pair) (As := [.int (xs (i + 1))]) (rest := []) dL_law_637 lm_L_70 ok_X8_pair (by decide) (by omega) (by omega) (sz_lt (by decide)) kd_0 rfl rfl rfl (Nat.le_of_ble_eq_true rfl) (w_X8_pair X (xs (i + 1)) mem _ hs) (fun r1 m1 hq1 => ?_)
  obtain ⟨v1, rfl, hs⟩ := hq1
  refine gc_aload_n dL_law_640 rfl ?_
  refine gc_aload_n dL_law_641 rfl ?_
  refine gc_iload_n dL_law_642 rfl ?_
  refine gc_iconst (v := 1) dL_law_643 (by decide) ?_
  refine gc_iadd dL_law_644 ?_
  refine gc_scr (i + 1) hX hb9 hL dL_law_645 (nI_add i 1) (by omega) ?_
  refine go_callV (mc' := 0) (ms' := 0) (y := M_X9_pair) (As := [.int (xs (i + 1))]) (rest := [.int v1]) dL_law_646 lm_L_73 ok_X9_pair (by decide) (by omega) (by omega) (sz_lt (by decide)) kd_82 rfl rfl rfl (Nat.le_of_ble_eq_true rfl) (w_X9_pair X (xs (i + 1)) m1 _ hs) (fun r2 m2 hq2 => ?_)
  obtain ⟨v2, rfl, e12, hI⟩ := hq2
  refine gc_icmp_eq 1445 dL_law_649 (by decide) (fun hcz => ?_) (fun hcz => absurd e12 hcz)
  exact kt m2 hI
set_option maxRecDepth 100000 in
set_option maxHeartbeats 4000000 in
theorem lw_c14 (X : CX) (L : Nat) (xs : Nat → Int32) (hX : va_X (cx_b X) L xs (cx_s X) (cx_s X).heap) (hb9 : cx_b X < cx_n X) (hL : L ≤ 100000) (i cn sn : Nat) (hi : i + 6 ≤ L) (h1 : cn + 3 ≤ 600000) (h2 : sn + 200 ≤ 7302250) (mem : Mm) (Iv : Mm → Prop) (Q : Option Value → (Nat → va_E) → Nat → Prop) (hs : W_X8_clear (xs (i + 1)) mem (fun v m => W_X9_clear (xs (i + 1)) m (fun v2 m2 => v = v2 ∧ Iv m2))) (kt : ∀ m2 : Mm, Iv m2 → GoC X 2048 600000 7302250 M_L_law 1445 [some (.ref (cx_b X)), some (.ref (cx_n X + 0)), some (.ref (cx_n X + 82)), some (.int (nI i))] [] (cn + 0 + 0) (sn + 0 + 0) (cellAt X m2) (sz m2) Q) : GoC X 2048 600000 7302250 M_L_law 654 [some (.ref (cx_b X)), some (.ref (cx_n X + 0)), some (.ref (cx_n X + 82)), some (.int (nI i))] [] cn sn (cellAt X mem) (sz mem) Q := by
  refine gc_aload_n dL_law_654 rfl ?_
  refine gc_aload_n dL_law_655 rfl ?_
  refine gc_iload_n dL_law_656 rfl ?_
  refine gc_iconst (v := 1) dL_law_657 (by decide) ?_
  refine gc_iadd dL_law_658 ?_
  refine gc_scr (i + 1) hX hb9 hL dL_law_659 (nI_add i 1) (by omega) ?_
  refine go_callV (mc' := 0) (ms' := 0) (y := M_X8_clear) (As := [.int (xs (i + 1))]) (rest := []) dL_law_660 lm_L_74 ok_X8_clear (by decide) (by omega) (by omega) (sz_lt (by decide)) kd_0 rfl rfl rfl (Nat.le_of_ble_eq_true rfl) (w_X8_clear X (xs (i + 1)) mem _ hs) (fun r1 m1 hq1 => ?_)
  obtain ⟨v1, rfl, hs⟩ := hq1
  refine gc_aload_n dL_law_663 rfl ?_
  refine gc_aload_n dL_law_664 rfl ?_
  refine gc_iload_n dL_law_665 rfl ?_
  refine gc_iconst (v := 1) dL_law_666 (by decide) ?_
  refine gc_iadd dL_law_667 ?_
  refine gc_scr (i + 1) hX hb9 hL dL_law_668 (nI_add i 1) (by omega) ?_
  refine go_callV (mc' := 0) (ms' := 0) (y := M_X9_clear) (As := [.int (xs (i + 1))]) (rest := [.int v1]) dL_law_669 lm_L_77 ok_X9_clear (by decide) (by omega) (by omega) (sz_lt (by decide)) kd_82 rfl rfl rfl (Nat.le_of_ble_eq_true rfl) (w_X9_clear X (xs (i + 1)) m1 _ hs) (fun r2 m2 hq2 => ?_)
  obtain ⟨v2, rfl, e12, hI⟩ := hq2
  refine gc_icmp_eq 1445 dL_law_672 (by decide) (fun hcz => ?_) (fun hcz => absurd e12 hcz)
  exact kt m2 hI
set_option maxRecDepth 100000 in
set_option maxHeartbeats 4000000 in
theorem lw_c15 (X : CX) (L : Nat) (xs : Nat → Int32) (hX : va_X (cx_b X) L xs (cx_s X) (cx_s X).heap) (hb9 : cx_b X < cx_n X) (hL : L ≤ 100000) (i cn sn : Nat) (hi : i + 6 ≤ L) (h1 : cn + 3 ≤ 600000) (h2 : sn + 200 ≤ 7302250) (mem : Mm) (Iv : Mm → Prop) (Q : Option Value → (Nat → va_E) → Nat → Prop) (hs : W_X8_force (xs (i + 1)) (xs (i + 2)) mem (fun v m => W_X9_force (xs (i + 1)) (xs (i + 2)) m (fun v2 m2 => v = v2 ∧ Iv m2))) (kt : ∀ m2 : Mm, Iv m2 → GoC X 2048 600000 7302250 M_L_law 1445 [some (.ref (cx_b X)), some (.ref (cx_n X + 0)), some (.ref (cx_n X + 82)), some (.int (nI i))] [] (cn + 0 + 0) (sn + 0 + 0) (cellAt X m2) (sz m2) Q) : GoC X 2048 600000 7302250 M_L_law 677 [some (.ref (cx_b X)), some (.ref (cx_n X + 0)), some (.ref (cx_n X + 82)), some (.int (nI i))] [] cn sn (cellAt X mem) (sz mem) Q := by
  refine gc_aload_n dL_law_677 rfl ?_
  refine gc_aload_n dL_law_678 rfl ?_
  refine gc_iload_n dL_law_679 rfl ?_
  refine gc_iconst (v := 1) dL_law_680 (by decide) ?_
  refine gc_iadd dL_law_681 ?_
  refine gc_scr (i + 1) hX hb9 hL dL_law_682 (nI_add i 1) (by omega) ?_
  refine gc_aload_n dL_law_683 rfl ?_
  refine gc_iload_n dL_law_684 rfl ?_
  refine gc_iconst (v := 2) dL_law_685 (by decide) ?_
  refine gc_iadd dL_law_686 ?_
  refine gc_scr (i + 2) hX hb9 hL dL_law_687 (nI_add i 2) (by omega) ?_
  refine go_callV (mc' := 0) (ms' := 0) (y := M_X8_force) (As := [.int (xs (i + 1)), .int (xs (i + 2))]) (rest := []) dL_law_688 lm_L_78 ok_X8_force (by decide) (by omega) (by omega) (sz_lt (by decide)) kd_0 rfl rfl rfl (Nat.le_of_ble_eq_true rfl) (w_X8_force X (xs (i + 1)) (xs (i + 2)) mem _ hs) (fun r1 m1 hq1 => ?_)
  obtain ⟨v1, rfl, hs⟩ := hq1
  refine gc_aload_n dL_law_691 rfl ?_
  refine gc_aload_n dL_law_692 rfl ?_
  refine gc_iload_n dL_law_693 rfl ?_
  refine gc_iconst (v := 1) dL_law_694 (by decide) ?_
  refine gc_iadd dL_law_695 ?_
  refine gc_scr (i + 1) hX hb9 hL dL_law_696 (nI_add i 1) (by omega) ?_
  refine gc_aload_n dL_law_697 rfl ?_
  refine gc_iload_n dL_law_698 rfl ?_
  refine gc_iconst (v := 2) dL_law_699 (by decide) ?_
  refine gc_iadd dL_law_700 ?_
  refine gc_scr (i + 2) hX hb9 hL dL_law_701 (nI_add i 2) (by omega) ?_
  refine go_callV (mc' := 0) (ms' := 0) (y := M_X9_force) (As := [.int (xs (i + 1)), .int (xs (i + 2))]) (rest := [.int v1]) dL_law_702 lm_L_81 ok_X9_force (by decide) (by omega) (by omega) (sz_lt (by decide)) kd_82 rfl rfl rfl (Nat.le_of_ble_eq_true rfl) (w_X9_force X (xs (i + 1)) (xs (i + 2)) m1 _ hs) (fun r2 m2 hq2 => ?_)
  obtain ⟨v2, rfl, e12, hI⟩ := hq2
  refine gc_icmp_eq 1445 dL_law_705 (by decide) (fun hcz => ?_) (fun hcz => absurd e12 hcz)
  exact kt m2 hI
set_option maxRecDepth 100000 in
set_option maxHeartbeats 4000000 in
theorem lw_c16 (X : CX) (L : Nat) (xs : Nat → Int32) (hX : va_X (cx_b X) L xs (cx_s X) (cx_s X).heap) (hb9 : cx_b X < cx_n X) (hL : L ≤ 100000) (i cn sn : Nat) (hi : i + 6 ≤ L) (h1 : cn + 3 ≤ 600000) (h2 : sn + 200 ≤ 7302250) (mem : Mm) (Iv : Mm → Prop) (Q : Option Value → (Nat → va_E) → Nat → Prop) (hs : W_X8_behind (xs (i + 1)) (xs (i + 2)) mem (fun v m => W_X9_behind (xs (i + 1)) (xs (i + 2)) m (fun v2 m2 => v = v2 ∧ Iv m2))) (kt : ∀ m2 : Mm, Iv m2 → GoC X 2048 600000 7302250 M_L_law 1445 [some (.ref (cx_b X)), some (.ref (cx_n X + 0)), some (.ref (cx_n X + 82)), some (.int (nI i))] [] (cn + 0 + 0) (sn + 0 + 0) (cellAt X m2) (sz m2) Q) : GoC X 2048 600000 7302250 M_L_law 710 [some (.ref (cx_b X)), some (.ref (cx_n X + 0)), some (.ref (cx_n X + 82)), some (.int (nI i))] [] cn sn (cellAt X mem) (sz mem) Q := by
  refine gc_aload_n dL_law_710 rfl ?_
  refine gc_aload_n dL_law_711 rfl ?_
  refine gc_iload_n dL_law_712 rfl ?_
  refine gc_iconst (v := 1) dL_law_713 (by decide) ?_
  refine gc_iadd dL_law_714 ?_
  refine gc_scr (i + 1) hX hb9 hL dL_law_715 (nI_add i 1) (by omega) ?_
  refine gc_aload_n dL_law_716 rfl ?_
  refine gc_iload_n dL_law_717 rfl ?_
  refine gc_iconst (v := 2) dL_law_718 (by decide) ?_
  refine gc_iadd dL_law_719 ?_
  refine gc_scr (i + 2) hX hb9 hL dL_law_720 (nI_add i 2) (by omega) ?_
  refine go_callV (mc' := 0) (ms' := 0) (y := M_X8_behind) (As := [.int (xs (i + 1)), .int (xs (i + 2))]) (rest := []) dL_law_721 lm_L_82 ok_X8_behind (by decide) (by omega) (by omega) (sz_lt (by decide)) kd_0 rfl rfl rfl (Nat.le_of_ble_eq_true rfl) (w_X8_behind X (xs (i + 1)) (xs (i + 2)) mem _ hs) (fun r1 m1 hq1 => ?_)
  obtain ⟨v1, rfl, hs⟩ := hq1
  refine gc_aload_n dL_law_724 rfl ?_
  refine gc_aload_n dL_law_725 rfl ?_
  refine gc_iload_n dL_law_726 rfl ?_
  refine gc_iconst (v := 1) dL_law_727 (by decide) ?_
  refine gc_iadd dL_law_728 ?_
  refine gc_scr (i + 1) hX hb9 hL dL_law_729 (nI_add i 1) (by omega) ?_
  refine gc_aload_n dL_law_730 rfl ?_
  refine gc_iload_n dL_law_731 rfl ?_
  refine gc_iconst (v := 2) dL_law_732 (by decide) ?_
  refine gc_iadd dL_law_733 ?_
  refine gc_scr (i + 2) hX hb9 hL dL_law_734 (nI_add i 2) (by omega) ?_
  refine go_callV (mc' := 0) (ms' := 0) (y := M_X9_behind) (As := [.int (xs (i + 1)), .int (xs (i + 2))]) (rest := [.int v1]) dL_law_735 lm_L_85 ok_X9_behind (by decide) (by omega) (by omega) (sz_lt (by decide)) kd_82 rfl rfl rfl (Nat.le_of_ble_eq_true rfl) (w_X9_behind X (xs (i + 1)) (xs (i + 2)) m1 _ hs) (fun r2 m2 hq2 => ?_)
  obtain ⟨v2, rfl, e12, hI⟩ := hq2
  refine gc_icmp_eq 1445 dL_law_738 (by decide) (fun hcz => ?_) (fun hcz => absurd e12 hcz)
  exact kt m2 hI
set_option maxRecDepth 100000 in
set_option maxHeartbeats 4000000 in
theorem lw_c17 (X : CX) (L : Nat) (xs : Nat → Int32) (hX : va_X (cx_b X) L xs (cx_s X) (cx_s X).heap) (hb9 : cx_b X < cx_n X) (hL : L ≤ 100000) (i cn sn : Nat) (hi : i + 6 ≤ L) (h1 : cn + 3 ≤ 600000) (h2 : sn + 200 ≤ 7302250) (mem : Mm) (Iv : Mm → Prop) (Q : Option Value → (Nat → va_E) → Nat → Prop) (hs : W_X8_falls (xs (i + 1)) mem (fun v m => W_X9_falls (xs (i + 1)) m (fun v2 m2 => v = v2 ∧ Iv m2))) (kt : ∀ m2 : Mm, Iv m2 → GoC X 2048 600000 7302250 M_L_law 1445 [some (.ref (cx_b X)), some (.ref (cx_n X + 0)), some (.ref (cx_n X + 82)), some (.int (nI i))] [] (cn + 0 + 0) (sn + 0 + 0) (cellAt X m2) (sz m2) Q) : GoC X 2048 600000 7302250 M_L_law 743 [some (.ref (cx_b X)), some (.ref (cx_n X + 0)), some (.ref (cx_n X + 82)), some (.int (nI i))] [] cn sn (cellAt X mem) (sz mem) Q := by
  refine gc_aload_n dL_law_743 rfl ?_
  refine gc_aload_n dL_law_744 rfl ?_
  refine gc_iload_n dL_law_745 rfl ?_
  refine gc_iconst (v := 1) dL_law_746 (by decide) ?_
  refine gc_iadd dL_law_747 ?_
  refine gc_scr (i + 1) hX hb9 hL dL_law_748 (nI_add i 1) (by omega) ?_
  refine go_callV (mc' := 0) (ms' := 0) (y := M_X8_falls) (As := [.int (xs (i + 1))]) (rest := []) dL_law_749 lm_L_86 ok_X8_falls (by decide) (by omega) (by omega) (sz_lt (by decide)) kd_0 rfl rfl rfl (Nat.le_of_ble_eq_true rfl) (w_X8_falls X (xs (i + 1)) mem _ hs) (fun r1 m1 hq1 => ?_)
  obtain ⟨v1, rfl, hs⟩ := hq1
  refine gc_aload_n dL_law_752 rfl ?_
  refine gc_aload_n dL_law_753 rfl ?_
  refine gc_iload_n dL_law_754 rfl ?_
  refine gc_iconst (v := 1) dL_law_755 (by decide) ?_
  refine gc_iadd dL_law_756 ?_
  refine gc_scr (i + 1) hX hb9 hL dL_law_757 (nI_add i 1) (by omega) ?_
  refine go_callV (mc' := 0) (ms' := 0) (y := M_X9_falls) (As := [.int (xs (i + 1))]) (rest := [.int v1]) dL_law_758 lm_L_89 ok_X9_falls (by decide) (by omega) (by omega) (sz_lt (by decide)) kd_82 rfl rfl rfl (Nat.le_of_ble_eq_true rfl) (w_X9_falls X (xs (i + 1)) m1 _ hs) (fun r2 m2 hq2 => ?_)
  obtain ⟨v2, rfl, e12, hI⟩ := hq2
  refine gc_icmp_eq 1445 dL_law_761 (by decide) (fun hcz => ?_) (fun hcz => absurd e12 hcz)
  exact kt m2 hI
set_option maxRecDepth 100000 in
set_option maxHeartbeats 4000000 in
theorem lw_c18 (X : CX) (L : Nat) (xs : Nat → Int32) (hX : va_X (cx_b X) L xs (cx_s X) (cx_s X).heap) (hb9 : cx_b X < cx_n X) (hL : L ≤ 100000) (i cn sn : Nat) (hi : i + 6 ≤ L) (h1 : cn + 3 ≤ 600000) (h2 : sn + 200 ≤ 7302250) (mem : Mm) (Iv : Mm → Prop) (Q : Option Value → (Nat → va_E) → Nat → Prop) (hs : W_X8_becomes (xs (i + 1)) (xs (i + 2)) (xs (i + 3)) mem (fun v m => W_X9_becomes (xs (i + 1)) (xs (i + 2)) (xs (i + 3)) m (fun v2 m2 => v = v2 ∧ Iv m2))) (kt : ∀ m2 : Mm, Iv m2 → GoC X 2048 600000 7302250 M_L_law 1445 [some (.ref (cx_b X)), some (.ref (cx_n X + 0)), some (.ref (cx_n X + 82)), some (.int (nI i))] [] (cn + 0 + 0) (sn + 0 + 0) (cellAt X m2) (sz m2) Q) : GoC X 2048 600000 7302250 M_L_law 766 [some (.ref (cx_b X)), some (.ref (cx_n X + 0)), some (.ref (cx_n X + 82)), some (.int (nI i))] [] cn sn (cellAt X mem) (sz mem) Q := by
  refine gc_aload_n dL_law_766 rfl ?_
  refine gc_aload_n dL_law_767 rfl ?_
  refine gc_iload_n dL_law_768 rfl ?_
  refine gc_iconst (v := 1) dL_law_769 (by decide) ?_
  refine gc_iadd dL_law_770 ?_
  refine gc_scr (i + 1) hX hb9 hL dL_law_771 (nI_add i 1) (by omega) ?_
  refine gc_aload_n dL_law_772 rfl ?_
  refine gc_iload_n dL_law_773 rfl ?_
  refine gc_iconst (v := 2) dL_law_774 (by decide) ?_
  refine gc_iadd dL_law_775 ?_
  refine gc_scr (i + 2) hX hb9 hL dL_law_776 (nI_add i 2) (by omega) ?_
  refine gc_aload_n dL_law_777 rfl ?_
  refine gc_iload_n dL_law_778 rfl ?_
  refine gc_iconst (v := 3) dL_law_779 (by decide) ?_
  refine gc_iadd dL_law_780 ?_
  refine gc_scr (i + 3) hX hb9 hL dL_law_781 (nI_add i 3) (by omega) ?_
  refine go_callV (mc' := 0) (ms' := 0) (y := M_X8_becomes) (As := [.int (xs (i + 1)), .int (xs (i + 2)), .int (xs (i + 3))]) (rest := []) dL_law_782 lm_L_90 ok_X8_becomes (by decide) (by omega) (by omega) (sz_lt (by decide)) kd_0 rfl rfl rfl (Nat.le_of_ble_eq_true rfl) (w_X8_becomes X (xs (i + 1)) (xs (i + 2)) (xs (i + 3)) mem _ hs) (fun r1 m1 hq1 => ?_)
  obtain ⟨v1, rfl, hs⟩ := hq1
  refine gc_aload_n dL_law_785 rfl ?_
  refine gc_aload_n dL_law_786 rfl ?_
  refine gc_iload_n dL_law_787 rfl ?_
  refine gc_iconst (v := 1) dL_law_788 (by decide) ?_
  refine gc_iadd dL_law_789 ?_
  refine gc_scr (i + 1) hX hb9 hL dL_law_790 (nI_add i 1) (by omega) ?_
  refine gc_aload_n dL_law_791 rfl ?_
  refine gc_iload_n dL_law_792 rfl ?_
  refine gc_iconst (v := 2) dL_law_793 (by decide) ?_
  refine gc_iadd dL_law_794 ?_
  refine gc_scr (i + 2) hX hb9 hL dL_law_795 (nI_add i 2) (by omega) ?_
  refine gc_aload_n dL_law_796 rfl ?_
  refine gc_iload_n dL_law_797 rfl ?_
  refine gc_iconst (v := 3) dL_law_798 (by decide) ?_
  refine gc_iadd dL_law_799 ?_
  refine gc_scr (i + 3) hX hb9 hL dL_law_800 (nI_add i 3) (by omega) ?_
  refine go_callV (mc' := 0) (ms' := 0) (y := M_X9_becomes) (As := [.int (xs (i + 1)), .int (xs (i + 2)), .int (xs (i + 3))]) (rest := [.int v1]) dL_law_801 lm_L_93 ok_X9_becomes (by decide) (by omega) (by omega) (sz_lt (by decide)) kd_82 rfl rfl rfl (Nat.le_of_ble_eq_true rfl) (w_X9_becomes X (xs (i + 1)) (xs (i + 2)) (xs (i + 3)) m1 _ hs) (fun r2 m2 hq2 => ?_)
  obtain ⟨v2, rfl, e12, hI⟩ := hq2
  refine gc_icmp_eq 1445 dL_law_804 (by decide) (fun hcz => ?_) (fun hcz => absurd e12 hcz)
  exact kt m2 hI
set_option maxRecDepth 100000 in
set_option maxHeartbeats 4000000 in
theorem lw_c19 (X : CX) (L : Nat) (xs : Nat → Int32) (hX : va_X (cx_b X) L xs (cx_s X) (cx_s X).heap) (hb9 : cx_b X < cx_n X) (hL : L ≤ 100000) (i cn sn : Nat) (hi : i + 6 ≤ L) (h1 : cn + 3 ≤ 600000) (h2 : sn + 200 ≤ 7302250) (mem : Mm) (Iv : Mm → Prop) (Q : Option Value → (Nat → va_E) → Nat → Prop) (hs : W_X8_like (xs (i + 1)) (xs (i + 2)) mem (fun v m => W_X9_like (xs (i + 1)) (xs (i + 2)) m (fun v2 m2 => v = v2 ∧ Iv m2))) (kt : ∀ m2 : Mm, Iv m2 → GoC X 2048 600000 7302250 M_L_law 1445 [some (.ref (cx_b X)), some (.ref (cx_n X + 0)), some (.ref (cx_n X + 82)), some (.int (nI i))] [] (cn + 0 + 0) (sn + 0 + 0) (cellAt X m2) (sz m2) Q) : GoC X 2048 600000 7302250 M_L_law 809 [some (.ref (cx_b X)), some (.ref (cx_n X + 0)), some (.ref (cx_n X + 82)), some (.int (nI i))] [] cn sn (cellAt X mem) (sz mem) Q := by
  refine gc_aload_n dL_law_809 rfl ?_
  refine gc_aload_n dL_law_810 rfl ?_
  refine gc_iload_n dL_law_811 rfl ?_
  refine gc_iconst (v := 1) dL_law_812 (by decide) ?_
  refine gc_iadd dL_law_813 ?_
  refine gc_scr (i + 1) hX hb9 hL dL_law_814 (nI_add i 1) (by omega) ?_
  refine gc_aload_n dL_law_815 rfl ?_
  refine gc_iload_n dL_law_816 rfl ?_
  refine gc_iconst (v := 2) dL_law_817 (by decide) ?_
  refine gc_iadd dL_law_818 ?_
  refine gc_scr (i + 2) hX hb9 hL dL_law_819 (nI_add i 2) (by omega) ?_
  refine go_callV (mc' := 0) (ms' := 0) (y := M_X8_like) (As := [.int (xs (i + 1)), .int (xs (i + 2))]) (rest := []) dL_law_820 lm_L_94 ok_X8_like (by decide) (by omega) (by omega) (sz_lt (by decide)) kd_0 rfl rfl rfl (Nat.le_of_ble_eq_true rfl) (w_X8_like X (xs (i + 1)) (xs (i + 2)) mem _ hs) (fun r1 m1 hq1 => ?_)
  obtain ⟨v1, rfl, hs⟩ := hq1
  refine gc_aload_n dL_law_823 rfl ?_
  refine gc_aload_n dL_law_824 rfl ?_
  refine gc_iload_n dL_law_825 rfl ?_
  refine gc_iconst (v := 1) dL_law_826 (by decide) ?_
  refine gc_iadd dL_law_827 ?_
  refine gc_scr (i + 1) hX hb9 hL dL_law_828 (nI_add i 1) (by omega) ?_
  refine gc_aload_n dL_law_829 rfl ?_
  refine gc_iload_n dL_law_830 rfl ?_
  refine gc_iconst (v := 2) dL_law_831 (by decide) ?_
  refine gc_iadd dL_law_832 ?_
  refine gc_scr (i + 2) hX hb9 hL dL_law_833 (nI_add i 2) (by omega) ?_
  refine go_callV (mc' := 0) (ms' := 0) (y := M_X9_like) (As := [.int (xs (i + 1)), .int (xs (i + 2))]) (rest := [.int v1]) dL_law_834 lm_L_97 ok_X9_like (by decide) (by omega) (by omega) (sz_lt (by decide)) kd_82 rfl rfl rfl (Nat.le_of_ble_eq_true rfl) (w_X9_like X (xs (i + 1)) (xs (i + 2)) m1 _ hs) (fun r2 m2 hq2 => ?_)
  obtain ⟨v2, rfl, e12, hI⟩ := hq2
  refine gc_icmp_eq 1445 dL_law_837 (by decide) (fun hcz => ?_) (fun hcz => absurd e12 hcz)
  exact kt m2 hI
set_option maxRecDepth 100000 in
set_option maxHeartbeats 4000000 in
theorem lw_c20 (X : CX) (L : Nat) (xs : Nat → Int32) (hX : va_X (cx_b X) L xs (cx_s X) (cx_s X).heap) (hb9 : cx_b X < cx_n X) (hL : L ≤ 100000) (i cn sn : Nat) (hi : i + 6 ≤ L) (h1 : cn + 3 ≤ 600000) (h2 : sn + 200 ≤ 7302250) (mem : Mm) (Iv : Mm → Prop) (Q : Option Value → (Nat → va_E) → Nat → Prop) (hs : W_X8_fee  mem (fun v m => W_X9_fee  m (fun v2 m2 => v = v2 ∧ Iv m2))) (kt : ∀ m2 : Mm, Iv m2 → GoC X 2048 600000 7302250 M_L_law 1445 [some (.ref (cx_b X)), some (.ref (cx_n X + 0)), some (.ref (cx_n X + 82)), some (.int (nI i))] [] (cn + 0 + 0) (sn + 0 + 0) (cellAt X m2) (sz m2) Q) : GoC X 2048 600000 7302250 M_L_law 842 [some (.ref (cx_b X)), some (.ref (cx_n X + 0)), some (.ref (cx_n X + 82)), some (.int (nI i))] [] cn sn (cellAt X mem) (sz mem) Q := by
  refine gc_aload_n dL_law_842 rfl ?_
  refine go_callV (mc' := 0) (ms' := 0) (y := M_X8_fee) (As := []) (rest := []) dL_law_843 lm_L_98 ok_X8_fee (by decide) (by omega) (by omega) (sz_lt (by decide)) kd_0 rfl rfl rfl (Nat.le_of_ble_eq_true rfl) (w_X8_fee X  mem _ hs) (fun r1 m1 hq1 => ?_)
  obtain ⟨v1, rfl, hs⟩ := hq1
  refine gc_aload_n dL_law_846 rfl ?_
  refine go_callV (mc' := 0) (ms' := 0) (y := M_X9_fee) (As := []) (rest := [.int v1]) dL_law_847 lm_L_101 ok_X9_fee (by decide) (by omega) (by omega) (sz_lt (by decide)) kd_82 rfl rfl rfl (Nat.le_of_ble_eq_true rfl) (w_X9_fee X  m1 _ hs) (fun r2 m2 hq2 => ?_)
  obtain ⟨v2, rfl, e12, hI⟩ := hq2
  refine gc_icmp_eq 1445 dL_law_850 (by decide) (fun hcz => ?_) (fun hcz => absurd e12 hcz)
  exact kt m2 hI
set_option maxRecDepth 100000 in
set_option maxHeartbeats 4000000 in
theorem lw_c21 (X : CX) (L : Nat) (xs : Nat → Int32) (hX : va_X (cx_b X) L xs (cx_s X) (cx_s X).heap) (hb9 : cx_b X < cx_n X) (hL : L ≤ 100000) (i cn sn : Nat) (hi : i + 6 ≤ L) (h1 : cn + 3 ≤ 600000) (h2 : sn + 200 ≤ 7302250) (mem : Mm) (Iv : Mm → Prop) (Q : Option Value → (Nat → va_E) → Nat → Prop) (hs : W_X8_fine (xs (i + 1)) mem (fun v m => W_X9_fine (xs (i + 1)) m (fun v2 m2 => v = v2 ∧ Iv m2))) (kt : ∀ m2 : Mm, Iv m2 → GoC X 2048 600000 7302250 M_L_law 1445 [some (.ref (cx_b X)), some (.ref (cx_n X + 0)), some (.ref (cx_n X + 82)), some (.int (nI i))] [] (cn + 0 + 0) (sn + 0 + 0) (cellAt X m2) (sz m2) Q) : GoC X 2048 600000 7302250 M_L_law 855 [some (.ref (cx_b X)), some (.ref (cx_n X + 0)), some (.ref (cx_n X + 82)), some (.int (nI i))] [] cn sn (cellAt X mem) (sz mem) Q := by
  refine gc_aload_n dL_law_855 rfl ?_
  refine gc_aload_n dL_law_856 rfl ?_
  refine gc_iload_n dL_law_857 rfl ?_
  refine gc_iconst (v := 1) dL_law_858 (by decide) ?_
  refine gc_iadd dL_law_859 ?_
  refine gc_scr (i + 1) hX hb9 hL dL_law_860 (nI_add i 1) (by omega) ?_
  refine go_callV (mc' := 0) (ms' := 0) (y := M_X8_fine) (As := [.int (xs (i + 1))]) (rest := []) dL_law_861 lm_L_102 ok_X8_fine (by decide) (by omega) (by omega) (sz_lt (by decide)) kd_0 rfl rfl rfl (Nat.le_of_ble_eq_true rfl) (w_X8_fine X (xs (i + 1)) mem _ hs) (fun r1 m1 hq1 => ?_)
  obtain ⟨v1, rfl, hs⟩ := hq1
  refine gc_aload_n dL_law_864 rfl ?_
  refine gc_aload_n dL_law_865 rfl ?_
  refine gc_iload_n dL_law_866 rfl ?_
  refine gc_iconst (v := 1) dL_law_867 (by decide) ?_
  refine gc_iadd dL_law_868 ?_
  refine gc_scr (i + 1) hX hb9 hL dL_law_869 (nI_add i 1) (by omega) ?_
  refine go_callV (mc' := 0) (ms' := 0) (y := M_X9_fine) (As := [.int (xs (i + 1))]) (rest := [.int v1]) dL_law_870 lm_L_105 ok_X9_fine (by decide) (by omega) (by omega) (sz_lt (by decide)) kd_82 rfl rfl rfl (Nat.le_of_ble_eq_true rfl) (w_X9_fine X (xs (i + 1)) m1 _ hs) (fun r2 m2 hq2 => ?_)
  obtain ⟨v2, rfl, e12, hI⟩ := hq2
  refine gc_icmp_eq 1445 dL_law_873 (by decide) (fun hcz => ?_) (fun hcz => absurd e12 hcz)
  exact kt m2 hI
set_option maxRecDepth 100000 in
set_option maxHeartbeats 4000000 in
theorem lw_c22 (X : CX) (L : Nat) (xs : Nat → Int32) (hX : va_X (cx_b X) L xs (cx_s X) (cx_s X).heap) (hb9 : cx_b X < cx_n X) (hL : L ≤ 100000) (i cn sn : Nat) (hi : i + 6 ≤ L) (h1 : cn + 3 ≤ 600000) (h2 : sn + 200 ≤ 7302250) (mem : Mm) (Iv : Mm → Prop) (Q : Option Value → (Nat → va_E) → Nat → Prop) (hs : W_X8_feed (xs (i + 1)) (xs (i + 2)) (xs (i + 3)) mem (fun v m => W_X9_feed (xs (i + 1)) (xs (i + 2)) (xs (i + 3)) m (fun v2 m2 => v = v2 ∧ Iv m2))) (kt : ∀ m2 : Mm, Iv m2 → GoC X 2048 600000 7302250 M_L_law 1445 [some (.ref (cx_b X)), some (.ref (cx_n X + 0)), some (.ref (cx_n X + 82)), some (.int (nI i))] [] (cn + 0 + 0) (sn + 0 + 0) (cellAt X m2) (sz m2) Q) : GoC X 2048 600000 7302250 M_L_law 878 [some (.ref (cx_b X)), some (.ref (cx_n X + 0)), some (.ref (cx_n X + 82)), some (.int (nI i))] [] cn sn (cellAt X mem) (sz mem) Q := by
  refine gc_aload_n dL_law_878 rfl ?_
  refine gc_aload_n dL_law_879 rfl ?_
  refine gc_iload_n dL_law_880 rfl ?_
  refine gc_iconst (v := 1) dL_law_881 (by decide) ?_
  refine gc_iadd dL_law_882 ?_
  refine gc_scr (i + 1) hX hb9 hL dL_law_883 (nI_add i 1) (by omega) ?_
  refine gc_aload_n dL_law_884 rfl ?_
  refine gc_iload_n dL_law_885 rfl ?_
  refine gc_iconst (v := 2) dL_law_886 (by decide) ?_
  refine gc_iadd dL_law_887 ?_
  refine gc_scr (i + 2) hX hb9 hL dL_law_888 (nI_add i 2) (by omega) ?_
  refine gc_aload_n dL_law_889 rfl ?_
  refine gc_iload_n dL_law_890 rfl ?_
  refine gc_iconst (v := 3) dL_law_891 (by decide) ?_
  refine gc_iadd dL_law_892 ?_
  refine gc_scr (i + 3) hX hb9 hL dL_law_893 (nI_add i 3) (by omega) ?_
  refine go_callV (mc' := 0) (ms' := 0) (y := M_X8_feed) (As := [.int (xs (i + 1)), .int (xs (i + 2)), .int (xs (i + 3))]) (rest := []) dL_law_894 lm_L_106 ok_X8_feed (by decide) (by omega) (by omega) (sz_lt (by decide)) kd_0 rfl rfl rfl (Nat.le_of_ble_eq_true rfl) (w_X8_feed X (xs (i + 1)) (xs (i + 2)) (xs (i + 3)) mem _ hs) (fun r1 m1 hq1 => ?_)
  obtain ⟨v1, rfl, hs⟩ := hq1
  refine gc_aload_n dL_law_897 rfl ?_
  refine gc_aload_n dL_law_898 rfl ?_
  refine gc_iload_n dL_law_899 rfl ?_
  refine gc_iconst (v := 1) dL_law_900 (by decide) ?_
  refine gc_iadd dL_law_901 ?_
  refine gc_scr (i + 1) hX hb9 hL dL_law_902 (nI_add i 1) (by omega) ?_
  refine gc_aload_n dL_law_903 rfl ?_
  refine gc_iload_n dL_law_904 rfl ?_
  refine gc_iconst (v := 2) dL_law_905 (by decide) ?_
  refine gc_iadd dL_law_906 ?_
  refine gc_scr (i + 2) hX hb9 hL dL_law_907 (nI_add i 2) (by omega) ?_
  refine gc_aload_n dL_law_908 rfl ?_
  refine gc_iload_n dL_law_909 rfl ?_
  refine gc_iconst (v := 3) dL_law_910 (by decide) ?_
  refine gc_iadd dL_law_911 ?_
  refine gc_scr (i + 3) hX hb9 hL dL_law_912 (nI_add i 3) (by omega) ?_
  refine go_callV (mc' := 0) (ms' := 0) (y := M_X9_feed) (As := [.int (xs (i + 1)), .int (xs (i + 2)), .int (xs (i + 3))]) (rest := [.int v1]) dL_law_913 lm_L_109 ok_X9_feed (by decide) (by omega) (by omega) (sz_lt (by decide)) kd_82 rfl rfl rfl (Nat.le_of_ble_eq_true rfl) (w_X9_feed X (xs (i + 1)) (xs (i + 2)) (xs (i + 3)) m1 _ hs) (fun r2 m2 hq2 => ?_)
  obtain ⟨v2, rfl, e12, hI⟩ := hq2
  refine gc_icmp_eq 1445 dL_law_916 (by decide) (fun hcz => ?_) (fun hcz => absurd e12 hcz)
  exact kt m2 hI
set_option maxRecDepth 100000 in
set_option maxHeartbeats 4000000 in
theorem lw_c23 (X : CX) (L : Nat) (xs : Nat → Int32) (hX : va_X (cx_b X) L xs (cx_s X) (cx_s X).heap) (hb9 : cx_b X < cx_n X) (hL : L ≤ 100000) (i cn sn : Nat) (hi : i + 6 ≤ L) (h1 : cn + 3 ≤ 600000) (h2 : sn + 200 ≤ 7302250) (mem : Mm) (Iv : Mm → Prop) (Q : Option Value → (Nat → va_E) → Nat → Prop) (hs : W_X8_trim (xs (i + 1)) mem (fun v m => W_X9_trim (xs (i + 1)) m (fun v2 m2 => v = v2 ∧ Iv m2))) (kt : ∀ m2 : Mm, Iv m2 → GoC X 2048 600000 7302250 M_L_law 1445 [some (.ref (cx_b X)), some (.ref (cx_n X + 0)), some (.ref (cx_n X + 82)), some (.int (nI i))] [] (cn + 0 + 0) (sn + 0 + 0) (cellAt X m2) (sz m2) Q) : GoC X 2048 600000 7302250 M_L_law 921 [some (.ref (cx_b X)), some (.ref (cx_n X + 0)), some (.ref (cx_n X + 82)), some (.int (nI i))] [] cn sn (cellAt X mem) (sz mem) Q := by
  refine gc_aload_n dL_law_921 rfl ?_
  refine gc_aload_n dL_law_922 rfl ?_
  refine gc_iload_n dL_law_923 rfl ?_
  refine gc_iconst (v := 1) dL_law_924 (by decide) ?_
  refine gc_iadd dL_law_925 ?_
  refine gc_scr (i + 1) hX hb9 hL dL_law_926 (nI_add i 1) (by omega) ?_
  refine go_callV (mc' := 0) (ms' := 0) (y := M_X8_trim) (As := [.int (xs (i + 1))]) (rest := []) dL_law_927 lm_L_110 ok_X8_trim (by decide) (by omega) (by omega) (sz_lt (by decide)) kd_0 rfl rfl rfl (Nat.le_of_ble_eq_true rfl) (w_X8_trim X (xs (i + 1)) mem _ hs) (fun r1 m1 hq1 => ?_)
  obtain ⟨v1, rfl, hs⟩ := hq1
  refine gc_aload_n dL_law_930 rfl ?_
  refine gc_aload_n dL_law_931 rfl ?_
  refine gc_iload_n dL_law_932 rfl ?_
  refine gc_iconst (v := 1) dL_law_933 (by decide) ?_
  refine gc_iadd dL_law_934 ?_
  refine gc_scr (i + 1) hX hb9 hL dL_law_935 (nI_add i 1) (by omega) ?_
  refine go_callV (mc' := 0) (ms' := 0) (y := M_X9_trim) (As := [.int (xs (i + 1))]) (rest := [.int v1]) dL_law_936 lm_L_113 ok_X9_trim (by decide) (by omega) (by omega) (sz_lt (by decide)) kd_82 rfl rfl rfl (Nat.le_of_ble_eq_true rfl) (w_X9_trim X (xs (i + 1)) m1 _ hs) (fun r2 m2 hq2 => ?_)
  obtain ⟨v2, rfl, e12, hI⟩ := hq2
  refine gc_icmp_eq 1445 dL_law_939 (by decide) (fun hcz => ?_) (fun hcz => absurd e12 hcz)
  exact kt m2 hI
set_option maxRecDepth 100000 in
set_option maxHeartbeats 4000000 in
theorem lw_c24 (X : CX) (L : Nat) (xs : Nat → Int32) (hX : va_X (cx_b X) L xs (cx_s X) (cx_s X).heap) (hb9 : cx_b X < cx_n X) (hL : L ≤ 100000) (i cn sn : Nat) (hi : i + 6 ≤ L) (h1 : cn + 3 ≤ 600000) (h2 : sn + 200 ≤ 7302250) (mem : Mm) (Iv : Mm → Prop) (Q : Option Value → (Nat → va_E) → Nat → Prop) (hs : W_X8_text  mem (fun v m => W_X9_text  m (fun v2 m2 => v = v2 ∧ Iv m2))) (kt : ∀ m2 : Mm, Iv m2 → GoC X 2048 600000 7302250 M_L_law 1445 [some (.ref (cx_b X)), some (.ref (cx_n X + 0)), some (.ref (cx_n X + 82)), some (.int (nI i))] [] (cn + 3 + 0) (sn + 200 + 0) (cellAt X m2) (sz m2) Q) : GoC X 2048 600000 7302250 M_L_law 944 [some (.ref (cx_b X)), some (.ref (cx_n X + 0)), some (.ref (cx_n X + 82)), some (.int (nI i))] [] cn sn (cellAt X mem) (sz mem) Q := by
  refine gc_aload_n dL_law_944 rfl ?_
  refine go_callV (mc' := 3) (ms' := 200) (y := M_X8_text) (As := []) (rest := []) dL_law_945 lm_L_114 ok_X8_text (by decide) (by omega) (by omega) (sz_lt (by decide)) kd_0 rfl rfl rfl (Nat.le_of_ble_eq_true rfl) (w_X8_text X  mem _ hs) (fun r1 m1 hq1 => ?_)
  obtain ⟨v1, rfl, hs⟩ := hq1
  refine gc_aload_n dL_law_948 rfl ?_
  refine go_callV (mc' := 0) (ms' := 0) (y := M_X9_text) (As := []) (rest := [.int v1]) dL_law_949 lm_L_117 ok_X9_text (by decide) (by omega) (by omega) (sz_lt (by decide)) kd_82 rfl rfl rfl (Nat.le_of_ble_eq_true rfl) (w_X9_text X  m1 _ hs) (fun r2 m2 hq2 => ?_)
  obtain ⟨v2, rfl, e12, hI⟩ := hq2
  refine gc_icmp_eq 1445 dL_law_952 (by decide) (fun hcz => ?_) (fun hcz => absurd e12 hcz)
  exact kt m2 hI
set_option maxRecDepth 100000 in
set_option maxHeartbeats 4000000 in
theorem lw_c25 (X : CX) (L : Nat) (xs : Nat → Int32) (hX : va_X (cx_b X) L xs (cx_s X) (cx_s X).heap) (hb9 : cx_b X < cx_n X) (hL : L ≤ 100000) (i cn sn : Nat) (hi : i + 6 ≤ L) (h1 : cn + 3 ≤ 600000) (h2 : sn + 200 ≤ 7302250) (mem : Mm) (Iv : Mm → Prop) (Q : Option Value → (Nat → va_E) → Nat → Prop) (hs : W_X8_textTold (xs (i + 1)) (xs (i + 2)) mem (fun v m => W_X9_textTold (xs (i + 1)) (xs (i + 2)) m (fun v2 m2 => v = v2 ∧ Iv m2))) (kt : ∀ m2 : Mm, Iv m2 → GoC X 2048 600000 7302250 M_L_law 1445 [some (.ref (cx_b X)), some (.ref (cx_n X + 0)), some (.ref (cx_n X + 82)), some (.int (nI i))] [] (cn + 0 + 0) (sn + 0 + 0) (cellAt X m2) (sz m2) Q) : GoC X 2048 600000 7302250 M_L_law 957 [some (.ref (cx_b X)), some (.ref (cx_n X + 0)), some (.ref (cx_n X + 82)), some (.int (nI i))] [] cn sn (cellAt X mem) (sz mem) Q := by
  refine gc_aload_n dL_law_957 rfl ?_
  refine gc_aload_n dL_law_958 rfl ?_
  refine gc_iload_n dL_law_959 rfl ?_
  refine gc_iconst (v := 1) dL_law_960 (by decide) ?_
  refine gc_iadd dL_law_961 ?_
  refine gc_scr (i + 1) hX hb9 hL dL_law_962 (nI_add i 1) (by omega) ?_
  refine gc_aload_n dL_law_963 rfl ?_
  refine gc_iload_n dL_law_964 rfl ?_
  refine gc_iconst (v := 2) dL_law_965 (by decide) ?_
  refine gc_iadd dL_law_966 ?_
  refine gc_scr (i + 2) hX hb9 hL dL_law_967 (nI_add i 2) (by omega) ?_
  refine go_callV (mc' := 0) (ms' := 0) (y := M_X8_textTold) (As := [.int (xs (i + 1)), .int (xs (i + 2))]) (rest := []) dL_law_968 lm_L_118 ok_X8_textTold (by decide) (by omega) (by omega) (sz_lt (by decide)) kd_0 rfl rfl rfl (Nat.le_of_ble_eq_true rfl) (w_X8_textTold X (xs (i + 1)) (xs (i + 2)) mem _ hs) (fun r1 m1 hq1 => ?_)
  obtain ⟨v1, rfl, hs⟩ := hq1
  refine gc_aload_n dL_law_971 rfl ?_
  refine gc_aload_n dL_law_972 rfl ?_
  refine gc_iload_n dL_law_973 rfl ?_
  refine gc_iconst (v := 1) dL_law_974 (by decide) ?_
  refine gc_iadd dL_law_975 ?_
  refine gc_scr (i + 1) hX hb9 hL dL_law_976 (nI_add i 1) (by omega) ?_
  refine gc_aload_n dL_law_977 rfl ?_
  refine gc_iload_n dL_law_978 rfl ?_
  refine gc_iconst (v := 2) dL_law_979 (by decide) ?_
  refine gc_iadd dL_law_980 ?_
  refine gc_scr (i + 2) hX hb9 hL dL_law_981 (nI_add i 2) (by omega) ?_
  refine go_callV (mc' := 0) (ms' := 0) (y := M_X9_textTold) (As := [.int (xs (i + 1)), .int (xs (i + 2))]) (rest := [.int v1]) dL_law_982 lm_L_121 ok_X9_textTold (by decide) (by omega) (by omega) (sz_lt (by decide)) kd_82 rfl rfl rfl (Nat.le_of_ble_eq_true rfl) (w_X9_textTold X (xs (i + 1)) (xs (i + 2)) m1 _ hs) (fun r2 m2 hq2 => ?_)
  obtain ⟨v2, rfl, e12, hI⟩ := hq2
  refine gc_icmp_eq 1445 dL_law_985 (by decide) (fun hcz => ?_) (fun hcz => absurd e12 hcz)
  exact kt m2 hI
set_option maxRecDepth 100000 in
set_option maxHeartbeats 4000000 in
theorem lw_c26 (X : CX) (L : Nat) (xs : Nat → Int32) (hX : va_X (cx_b X) L xs (cx_s X) (cx_s X).heap) (hb9 : cx_b X < cx_n X) (hL : L ≤ 100000) (i cn sn : Nat) (hi : i + 6 ≤ L) (h1 : cn + 3 ≤ 600000) (h2 : sn + 200 ≤ 7302250) (mem : Mm) (Iv : Mm → Prop) (Q : Option Value → (Nat → va_E) → Nat → Prop) (hs : W_X8_why (xs (i + 1)) mem (fun v m => W_X9_why (xs (i + 1)) m (fun v2 m2 => v = v2 ∧ Iv m2))) (kt : ∀ m2 : Mm, Iv m2 → GoC X 2048 600000 7302250 M_L_law 1445 [some (.ref (cx_b X)), some (.ref (cx_n X + 0)), some (.ref (cx_n X + 82)), some (.int (nI i))] [] (cn + 0 + 0) (sn + 0 + 0) (cellAt X m2) (sz m2) Q) : GoC X 2048 600000 7302250 M_L_law 990 [some (.ref (cx_b X)), some (.ref (cx_n X + 0)), some (.ref (cx_n X + 82)), some (.int (nI i))] [] cn sn (cellAt X mem) (sz mem) Q := by
  refine gc_aload_n dL_law_990 rfl ?_
  refine gc_aload_n dL_law_991 rfl ?_
  refine gc_iload_n dL_law_992 rfl ?_
  refine gc_iconst (v := 1) dL_law_993 (by decide) ?_
  refine gc_iadd dL_law_994 ?_
  refine gc_scr (i + 1) hX hb9 hL dL_law_995 (nI_add i 1) (by omega) ?_
  refine go_callV (mc' := 0) (ms' := 0) (y := M_X8_why) (As := [.int (xs (i + 1))]) (rest := []) dL_law_996 lm_L_122 ok_X8_why (by decide) (by omega) (by omega) (sz_lt (by decide)) kd_0 rfl rfl rfl (Nat.le_of_ble_eq_true rfl) (w_X8_why X (xs (i + 1)) mem _ hs) (fun r1 m1 hq1 => ?_)
  obtain ⟨v1, rfl, hs⟩ := hq1
  refine gc_aload_n dL_law_999 rfl ?_
  refine gc_aload_n dL_law_1000 rfl ?_
  refine gc_iload_n dL_law_1001 rfl ?_
  refine gc_iconst (v := 1) dL_law_1002 (by decide) ?_
  refine gc_iadd dL_law_1003 ?_
  refine gc_scr (i + 1) hX hb9 hL dL_law_1004 (nI_add i 1) (by omega) ?_
  refine go_callV (mc' := 0) (ms' := 0) (y := M_X9_why) (As := [.int (xs (i + 1))]) (rest := [.int v1]) dL_law_1005 lm_L_125 ok_X9_why (by decide) (by omega) (by omega) (sz_lt (by decide)) kd_82 rfl rfl rfl (Nat.le_of_ble_eq_true rfl) (w_X9_why X (xs (i + 1)) m1 _ hs) (fun r2 m2 hq2 => ?_)
  obtain ⟨v2, rfl, e12, hI⟩ := hq2
  refine gc_icmp_eq 1445 dL_law_1008 (by decide) (fun hcz => ?_) (fun hcz => absurd e12 hcz)
  exact kt m2 hI
set_option maxRecDepth 100000 in
set_option maxHeartbeats 4000000 in
theorem lw_c27 (X : CX) (L : Nat) (xs : Nat → Int32) (hX : va_X (cx_b X) L xs (cx_s X) (cx_s X).heap) (hb9 : cx_b X < cx_n X) (hL : L ≤ 100000) (i cn sn : Nat) (hi : i + 6 ≤ L) (h1 : cn + 3 ≤ 600000) (h2 : sn + 200 ≤ 7302250) (mem : Mm) (Iv : Mm → Prop) (Q : Option Value → (Nat → va_E) → Nat → Prop) (hs : W_X8_sheet (xs (i + 1)) (xs (i + 2)) (xs (i + 3)) mem (fun v m => W_X9_sheet (xs (i + 1)) (xs (i + 2)) (xs (i + 3)) m (fun v2 m2 => v = v2 ∧ Iv m2))) (kt : ∀ m2 : Mm, Iv m2 → GoC X 2048 600000 7302250 M_L_law 1445 [some (.ref (cx_b X)), some (.ref (cx_n X + 0)), some (.ref (cx_n X + 82)), some (.int (nI i))] [] (cn + 0 + 0) (sn + 0 + 0) (cellAt X m2) (sz m2) Q) : GoC X 2048 600000 7302250 M_L_law 1013 [some (.ref (cx_b X)), some (.ref (cx_n X + 0)), some (.ref (cx_n X + 82)), some (.int (nI i))] [] cn sn (cellAt X mem) (sz mem) Q := by
  refine gc_aload_n dL_law_1013 rfl ?_
  refine gc_aload_n dL_law_1014 rfl ?_
  refine gc_iload_n dL_law_1015 rfl ?_
  refine gc_iconst (v := 1) dL_law_1016 (by decide) ?_
  refine gc_iadd dL_law_1017 ?_
  refine gc_scr (i + 1) hX hb9 hL dL_law_1018 (nI_add i 1) (by omega) ?_
  refine gc_aload_n dL_law_1019 rfl ?_
  refine gc_iload_n dL_law_1020 rfl ?_
  refine gc_iconst (v := 2) dL_law_1021 (by decide) ?_
  refine gc_iadd dL_law_1022 ?_
  refine gc_scr (i + 2) hX hb9 hL dL_law_1023 (nI_add i 2) (by omega) ?_
  refine gc_aload_n dL_law_1024 rfl ?_
  refine gc_iload_n dL_law_1025 rfl ?_
  refine gc_iconst (v := 3) dL_law_1026 (by decide) ?_
  refine gc_iadd dL_law_1027 ?_
  refine gc_scr (i + 3) hX hb9 hL dL_law_1028 (nI_add i 3) (by omega) ?_
  refine go_callV (mc' := 0) (ms' := 0) (y := M_X8_sheet) (As := [.int (xs (i + 1)), .int (xs (i + 2)), .int (xs (i + 3))]) (rest := []) dL_law_1029 lm_L_126 ok_X8_sheet (by decide) (by omega) (by omega) (sz_lt (by decide)) kd_0 rfl rfl rfl (Nat.le_of_ble_eq_true rfl) (w_X8_sheet X (xs (i + 1)) (xs (i + 2)) (xs (i + 3)) mem _ hs) (fun r1 m1 hq1 => ?_)
  obtain ⟨v1, rfl, hs⟩ := hq1
  refine gc_aload_n dL_law_1032 rfl ?_
  refine gc_aload_n dL_law_1033 rfl ?_
  refine gc_iload_n dL_law_1034 rfl ?_
  refine gc_iconst (v := 1) dL_law_1035 (by decide) ?_
  refine gc_iadd dL_law_1036 ?_
  refine gc_scr (i + 1) hX hb9 hL dL_law_1037 (nI_add i 1) (by omega) ?_
  refine gc_aload_n dL_law_1038 rfl ?_
  refine gc_iload_n dL_law_1039 rfl ?_
  refine gc_iconst (v := 2) dL_law_1040 (by decide) ?_
  refine gc_iadd dL_law_1041 ?_
  refine gc_scr (i + 2) hX hb9 hL dL_law_1042 (nI_add i 2) (by omega) ?_
  refine gc_aload_n dL_law_1043 rfl ?_
  refine gc_iload_n dL_law_1044 rfl ?_
  refine gc_iconst (v := 3) dL_law_1045 (by decide) ?_
  refine gc_iadd dL_law_1046 ?_
  refine gc_scr (i + 3) hX hb9 hL dL_law_1047 (nI_add i 3) (by omega) ?_
  refine go_callV (mc' := 0) (ms' := 0) (y := M_X9_sheet) (As := [.int (xs (i + 1)), .int (xs (i + 2)), .int (xs (i + 3))]) (rest := [.int v1]) dL_law_1048 lm_L_129 ok_X9_sheet (by decide) (by omega) (by omega) (sz_lt (by decide)) kd_82 rfl rfl rfl (Nat.le_of_ble_eq_true rfl) (w_X9_sheet X (xs (i + 1)) (xs (i + 2)) (xs (i + 3)) m1 _ hs) (fun r2 m2 hq2 => ?_)
  obtain ⟨v2, rfl, e12, hI⟩ := hq2
  refine gc_icmp_eq 1445 dL_law_1051 (by decide) (fun hcz => ?_) (fun hcz => absurd e12 hcz)
  exact kt m2 hI
set_option maxRecDepth 100000 in
set_option maxHeartbeats 4000000 in
theorem lw_c28 (X : CX) (L : Nat) (xs : Nat → Int32) (hX : va_X (cx_b X) L xs (cx_s X) (cx_s X).heap) (hb9 : cx_b X < cx_n X) (hL : L ≤ 100000) (i cn sn : Nat) (hi : i + 6 ≤ L) (h1 : cn + 3 ≤ 600000) (h2 : sn + 200 ≤ 7302250) (mem : Mm) (Iv : Mm → Prop) (Q : Option Value → (Nat → va_E) → Nat → Prop) (hs : W_X8_mark (xs (i + 1)) (xs (i + 2)) (xs (i + 3)) mem (fun v m => W_X9_mark (xs (i + 1)) (xs (i + 2)) (xs (i + 3)) m (fun v2 m2 => v = v2 ∧ Iv m2))) (kt : ∀ m2 : Mm, Iv m2 → GoC X 2048 600000 7302250 M_L_law 1445 [some (.ref (cx_b X)), some (.ref (cx_n X + 0)), some (.ref (cx_n X + 82)), some (.int (nI i))] [] (cn + 0 + 0) (sn + 0 + 0) (cellAt X m2) (sz m2) Q) : GoC X 2048 600000 7302250 M_L_law 1056 [some (.ref (cx_b X)), some (.ref (cx_n X + 0)), some (.ref (cx_n X + 82)), some (.int (nI i))] [] cn sn (cellAt X mem) (sz mem) Q := by
  refine gc_aload_n dL_law_1056 rfl ?_
  refine gc_aload_n dL_law_1057 rfl ?_
  refine gc_iload_n dL_law_1058 rfl ?_
  refine gc_iconst (v := 1) dL_law_1059 (by decide) ?_
  refine gc_iadd dL_law_1060 ?_
  refine gc_scr (i + 1) hX hb9 hL dL_law_1061 (nI_add i 1) (by omega) ?_
  refine gc_aload_n dL_law_1062 rfl ?_
  refine gc_iload_n dL_law_1063 rfl ?_
  refine gc_iconst (v := 2) dL_law_1064 (by decide) ?_
  refine gc_iadd dL_law_1065 ?_
  refine gc_scr (i + 2) hX hb9 hL dL_law_1066 (nI_add i 2) (by omega) ?_
  refine gc_aload_n dL_law_1067 rfl ?_
  refine gc_iload_n dL_law_1068 rfl ?_
  refine gc_iconst (v := 3) dL_law_1069 (by decide) ?_
  refine gc_iadd dL_law_1070 ?_
  refine gc_scr (i + 3) hX hb9 hL dL_law_1071 (nI_add i 3) (by omega) ?_
  refine go_callV (mc' := 0) (ms' := 0) (y := M_X8_mark) (As := [.int (xs (i + 1)), .int (xs (i + 2)), .int (xs (i + 3))]) (rest := []) dL_law_1072 lm_L_130 ok_X8_mark (by decide) (by omega) (by omega) (sz_lt (by decide)) kd_0 rfl rfl rfl (Nat.le_of_ble_eq_true rfl) (w_X8_mark X (xs (i + 1)) (xs (i + 2)) (xs (i + 3)) mem _ hs) (fun r1 m1 hq1 => ?_)
  obtain ⟨v1, rfl, hs⟩ := hq1
  refine gc_aload_n dL_law_1075 rfl ?_
  refine gc_aload_n dL_law_1076 rfl ?_
  refine gc_iload_n dL_law_1077 rfl ?_
  refine gc_iconst (v := 1) dL_law_1078 (by decide) ?_
  refine gc_iadd dL_law_1079 ?_
  refine gc_scr (i + 1) hX hb9 hL dL_law_1080 (nI_add i 1) (by omega) ?_
  refine gc_aload_n dL_law_1081 rfl ?_
  refine gc_iload_n dL_law_1082 rfl ?_
  refine gc_iconst (v := 2) dL_law_1083 (by decide) ?_
  refine gc_iadd dL_law_1084 ?_
  refine gc_scr (i + 2) hX hb9 hL dL_law_1085 (nI_add i 2) (by omega) ?_
  refine gc_aload_n dL_law_1086 rfl ?_
  refine gc_iload_n dL_law_1087 rfl ?_
  refine gc_iconst (v := 3) dL_law_1088 (by decide) ?_
  refine gc_iadd dL_law_1089 ?_
  refine gc_scr (i + 3) hX hb9 hL dL_law_1090 (nI_add i 3) (by omega) ?_
  refine go_callV (mc' := 0) (ms' := 0) (y := M_X9_mark) (As := [.int (xs (i + 1)), .int (xs (i + 2)), .int (xs (i + 3))]) (rest := [.int v1]) dL_law_1091 lm_L_133 ok_X9_mark (by decide) (by omega) (by omega) (sz_lt (by decide)) kd_82 rfl rfl rfl (Nat.le_of_ble_eq_true rfl) (w_X9_mark X (xs (i + 1)) (xs (i + 2)) (xs (i + 3)) m1 _ hs) (fun r2 m2 hq2 => ?_)
  obtain ⟨v2, rfl, e12, hI⟩ := hq2
  refine gc_icmp_eq 1445 dL_law_1094 (by decide) (fun hcz => ?_) (fun hcz => absurd e12 hcz)
  exact kt m2 hI
set_option maxRecDepth 100000 in
set_option maxHeartbeats 4000000 in
theorem lw_c29 (X : CX) (L : Nat) (xs : Nat → Int32) (hX : va_X (cx_b X) L xs (cx_s X) (cx_s X).heap) (hb9 : cx_b X < cx_n X) (hL : L ≤ 100000) (i cn sn : Nat) (hi : i + 6 ≤ L) (h1 : cn + 3 ≤ 600000) (h2 : sn + 200 ≤ 7302250) (mem : Mm) (Iv : Mm → Prop) (Q : Option Value → (Nat → va_E) → Nat → Prop) (hs : W_X8_pour (xs (i + 1)) mem (fun v m => W_X9_pour (xs (i + 1)) m (fun v2 m2 => v = v2 ∧ Iv m2))) (kt : ∀ m2 : Mm, Iv m2 → GoC X 2048 600000 7302250 M_L_law 1445 [some (.ref (cx_b X)), some (.ref (cx_n X + 0)), some (.ref (cx_n X + 82)), some (.int (nI i))] [] (cn + 0 + 0) (sn + 0 + 0) (cellAt X m2) (sz m2) Q) : GoC X 2048 600000 7302250 M_L_law 1099 [some (.ref (cx_b X)), some (.ref (cx_n X + 0)), some (.ref (cx_n X + 82)), some (.int (nI i))] [] cn sn (cellAt X mem) (sz mem) Q := by
  refine gc_aload_n dL_law_1099 rfl ?_
  refine gc_aload_n dL_law_1100 rfl ?_
  refine gc_iload_n dL_law_1101 rfl ?_
  refine gc_iconst (v := 1) dL_law_1102 (by decide) ?_
  refine gc_iadd dL_law_1103 ?_
  refine gc_scr (i + 1) hX hb9 hL dL_law_1104 (nI_add i 1) (by omega) ?_
  refine go_callV (mc' := 0) (ms' := 0) (y := M_X8_pour) (As := [.int (xs (i + 1))]) (rest := []) dL_law_1105 lm_L_134 ok_X8_pour (by decide) (by omega) (by omega) (sz_lt (by decide)) kd_0 rfl rfl rfl (Nat.le_of_ble_eq_true rfl) (w_X8_pour X (xs (i + 1)) mem _ hs) (fun r1 m1 hq1 => ?_)
  obtain ⟨v1, rfl, hs⟩ := hq1
  refine gc_aload_n dL_law_1108 rfl ?_
  refine gc_aload_n dL_law_1109 rfl ?_
  refine gc_iload_n dL_law_1110 rfl ?_
  refine gc_iconst (v := 1) dL_law_1111 (by decide) ?_
  refine gc_iadd dL_law_1112 ?_
  refine gc_scr (i + 1) hX hb9 hL dL_law_1113 (nI_add i 1) (by omega) ?_
  refine go_callV (mc' := 0) (ms' := 0) (y := M_X9_pour) (As := [.int (xs (i + 1))]) (rest := [.int v1]) dL_law_1114 lm_L_137 ok_X9_pour (by decide) (by omega) (by omega) (sz_lt (by decide)) kd_82 rfl rfl rfl (Nat.le_of_ble_eq_true rfl) (w_X9_pour X (xs (i + 1)) m1 _ hs) (fun r2 m2 hq2 => ?_)
  obtain ⟨v2, rfl, e12, hI⟩ := hq2
  refine gc_icmp_eq 1445 dL_law_1117 (by decide) (fun hcz => ?_) (fun hcz => absurd e12 hcz)
  exact kt m2 hI
set_option maxRecDepth 100000 in
set_option maxHeartbeats 4000000 in
theorem lw_c30 (X : CX) (L : Nat) (xs : Nat → Int32) (hX : va_X (cx_b X) L xs (cx_s X) (cx_s X).heap) (hb9 : cx_b X < cx_n X) (hL : L ≤ 100000) (i cn sn : Nat) (hi : i + 6 ≤ L) (h1 : cn + 3 ≤ 600000) (h2 : sn + 200 ≤ 7302250) (mem : Mm) (Iv : Mm → Prop) (Q : Option Value → (Nat → va_E) → Nat → Prop) (hs : W_X8_reads (xs (i + 1)) mem (fun v m => W_X9_reads (xs (i + 1)) m (fun v2 m2 => v = v2 ∧ Iv m2))) (kt : ∀ m2 : Mm, Iv m2 → GoC X 2048 600000 7302250 M_L_law 1445 [some (.ref (cx_b X)), some (.ref (cx_n X + 0)), some (.ref (cx_n X + 82)), some (.int (nI i))] [] (cn + 0 + 0) (sn + 0 + 0) (cellAt X m2) (sz m2) Q) : GoC X 2048 600000 7302250 M_L_law 1122 [some (.ref (cx_b X)), some (.ref (cx_n X + 0)), some (.ref (cx_n X + 82)), some (.int (nI i))] [] cn sn (cellAt X mem) (sz mem) Q := by
  refine gc_aload_n dL_law_1122 rfl ?_
  refine gc_aload_n dL_law_1123 rfl ?_
  refine gc_iload_n dL_law_1124 rfl ?_
  refine gc_iconst (v := 1) dL_law_1125 (by decide) ?_
  refine gc_iadd dL_law_1126 ?_
  refine gc_scr (i + 1) hX hb9 hL dL_law_1127 (nI_add i 1) (by omega) ?_
  refine go_callV (mc' := 0) (ms' := 0) (y := M_X8_reads) (As := [.int (xs (i + 1))]) (rest := []) dL_law_1128 lm_L_138 ok_X8_reads (by decide) (by omega) (by omega) (sz_lt (by decide)) kd_0 rfl rfl rfl (Nat.le_of_ble_eq_true rfl) (w_X8_reads X (xs (i + 1)) mem _ hs) (fun r1 m1 hq1 => ?_)
  obtain ⟨v1, rfl, hs⟩ := hq1
  refine gc_aload_n dL_law_1131 rfl ?_
  refine gc_aload_n dL_law_1132 rfl ?_
  refine gc_iload_n dL_law_1133 rfl ?_
  refine gc_iconst (v := 1) dL_law_1134 (by decide) ?_
  refine gc_iadd dL_law_1135 ?_
  refine gc_scr (i + 1) hX hb9 hL dL_law_1136 (nI_add i 1) (by omega) ?_
  refine go_callV (mc' := 0) (ms' := 0) (y := M_X9_reads) (As := [.int (xs (i + 1))]) (rest := [.int v1]) dL_law_1137 lm_L_141 ok_X9_reads (by decide) (by omega) (by omega) (sz_lt (by decide)) kd_82 rfl rfl rfl (Nat.le_of_ble_eq_true rfl) (w_X9_reads X (xs (i + 1)) m1 _ hs) (fun r2 m2 hq2 => ?_)
  obtain ⟨v2, rfl, e12, hI⟩ := hq2
  refine gc_icmp_eq 1445 dL_law_1140 (by decide) (fun hcz => ?_) (fun hcz => absurd e12 hcz)
  exact kt m2 hI
set_option maxRecDepth 100000 in
set_option maxHeartbeats 4000000 in
theorem lw_c31 (X : CX) (L : Nat) (xs : Nat → Int32) (hX : va_X (cx_b X) L xs (cx_s X) (cx_s X).heap) (hb9 : cx_b X < cx_n X) (hL : L ≤ 100000) (i cn sn : Nat) (hi : i + 6 ≤ L) (h1 : cn + 3 ≤ 600000) (h2 : sn + 200 ≤ 7302250) (mem : Mm) (Iv : Mm → Prop) (Q : Option Value → (Nat → va_E) → Nat → Prop) (hs : W_X8_copy (xs (i + 1)) (xs (i + 2)) (xs (i + 3)) (xs (i + 4)) (xs (i + 5)) mem (fun v m => W_X9_copy (xs (i + 1)) (xs (i + 2)) (xs (i + 3)) (xs (i + 4)) (xs (i + 5)) m (fun v2 m2 => v = v2 ∧ Iv m2))) (kt : ∀ m2 : Mm, Iv m2 → GoC X 2048 600000 7302250 M_L_law 1445 [some (.ref (cx_b X)), some (.ref (cx_n X + 0)), some (.ref (cx_n X + 82)), some (.int (nI i))] [] (cn + 0 + 0) (sn + 0 + 0) (cellAt X m2) (sz m2) Q) : GoC X 2048 600000 7302250 M_L_law 1145 [some (.ref (cx_b X)), some (.ref (cx_n X + 0)), some (.ref (cx_n X + 82)), some (.int (nI i))] [] cn sn (cellAt X mem) (sz mem) Q := by
  refine gc_aload_n dL_law_1145 rfl ?_
  refine gc_aload_n dL_law_1146 rfl ?_
  refine gc_iload_n dL_law_1147 rfl ?_
  refine gc_iconst (v := 1) dL_law_1148 (by decide) ?_
  refine gc_iadd dL_law_1149 ?_
  refine gc_scr (i + 1) hX hb9 hL dL_law_1150 (nI_add i 1) (by omega) ?_
  refine gc_aload_n dL_law_1151 rfl ?_
  refine gc_iload_n dL_law_1152 rfl ?_
  refine gc_iconst (v := 2) dL_law_1153 (by decide) ?_
  refine gc_iadd dL_law_1154 ?_
  refine gc_scr (i + 2) hX hb9 hL dL_law_1155 (nI_add i 2) (by omega) ?_
  refine gc_aload_n dL_law_1156 rfl ?_
  refine gc_iload_n dL_law_1157 rfl ?_
  refine gc_iconst (v := 3) dL_law_1158 (by decide) ?_
  refine gc_iadd dL_law_1159 ?_
  refine gc_scr (i + 3) hX hb9 hL dL_law_1160 (nI_add i 3) (by omega) ?_
  refine gc_aload_n dL_law_1161 rfl ?_
  refine gc_iload_n dL_law_1162 rfl ?_
  refine gc_iconst (v := 4) dL_law_1163 (by decide) ?_
  refine gc_iadd dL_law_1164 ?_
  refine gc_scr (i + 4) hX hb9 hL dL_law_1165 (nI_add i 4) (by omega) ?_
  refine gc_aload_n dL_law_1166 rfl ?_
  refine gc_iload_n dL_law_1167 rfl ?_
  refine gc_iconst (v := 5) dL_law_1168 (by decide) ?_
  refine gc_iadd dL_law_1169 ?_
  refine gc_scr (i + 5) hX hb9 hL dL_law_1170 (nI_add i 5) (by omega) ?_
  refine go_callV (mc' := 0) (ms' := 0) (y := M_X8_copy) (As := [.int (xs (i + 1)), .int (xs (i + 2)), .int (xs (i + 3)), .int (xs (i + 4)), .int (xs (i + 5))]) (rest := []) dL_law_1171 lm_L_142 ok_X8_copy (by decide) (by omega) (by omega) (sz_lt (by decide)) kd_0 rfl rfl rfl (Nat.le_of_ble_eq_true rfl) (w_X8_copy X (xs (i + 1)) (xs (i + 2)) (xs (i + 3)) (xs (i + 4)) (xs (i + 5)) mem _ hs) (fun r1 m1 hq1 => ?_)
  obtain ⟨v1, rfl, hs⟩ := hq1
  refine gc_aload_n dL_law_1174 rfl ?_
  refine gc_aload_n dL_law_1175 rfl ?_
  refine gc_iload_n dL_law_1176 rfl ?_
  refine gc_iconst (v := 1) dL_law_1177 (by decide) ?_
  refine gc_iadd dL_law_1178 ?_
  refine gc_scr (i + 1) hX hb9 hL dL_law_1179 (nI_add i 1) (by omega) ?_
  refine gc_aload_n dL_law_1180 rfl ?_
  refine gc_iload_n dL_law_1181 rfl ?_
  refine gc_iconst (v := 2) dL_law_1182 (by decide) ?_
  refine gc_iadd dL_law_1183 ?_
  refine gc_scr (i + 2) hX hb9 hL dL_law_1184 (nI_add i 2) (by omega) ?_
  refine gc_aload_n dL_law_1185 rfl ?_
  refine gc_iload_n dL_law_1186 rfl ?_
  refine gc_iconst (v := 3) dL_law_1187 (by decide) ?_
  refine gc_iadd dL_law_1188 ?_
  refine gc_scr (i + 3) hX hb9 hL dL_law_1189 (nI_add i 3) (by omega) ?_
  refine gc_aload_n dL_law_1190 rfl ?_
  refine gc_iload_n dL_law_1191 rfl ?_
  refine gc_iconst (v := 4) dL_law_1192 (by decide) ?_
  refine gc_iadd dL_law_1193 ?_
  refine gc_scr (i + 4) hX hb9 hL dL_law_1194 (nI_add i 4) (by omega) ?_
  refine gc_aload_n dL_law_1195 rfl ?_
  refine gc_iload_n dL_law_1196 rfl ?_
  refine gc_iconst (v := 5) dL_law_1197 (by decide) ?_
  refine gc_iadd dL_law_1198 ?_
  refine gc_scr (i + 5) hX hb9 hL dL_law_1199 (nI_add i 5) (by omega) ?_
  refine go_callV (mc' := 0) (ms' := 0) (y := M_X9_copy) (As := [.int (xs (i + 1)), .int (xs (i + 2)), .int (xs (i + 3)), .int (xs (i + 4)), .int (xs (i + 5))]) (rest := [.int v1]) dL_law_1200 lm_L_146 ok_X9_copy (by decide) (by omega) (by omega) (sz_lt (by decide)) kd_82 rfl rfl rfl (Nat.le_of_ble_eq_true rfl) (w_X9_copy X (xs (i + 1)) (xs (i + 2)) (xs (i + 3)) (xs (i + 4)) (xs (i + 5)) m1 _ hs) (fun r2 m2 hq2 => ?_)
  obtain ⟨v2, rfl, e12, hI⟩ := hq2
  refine gc_icmp_eq 1445 dL_law_1203 (by decide) (fun hcz => ?_) (fun hcz => absurd e12 hcz)
  exact kt m2 hI
set_option maxRecDepth 100000 in
set_option maxHeartbeats 4000000 in
theorem lw_c32 (X : CX) (L : Nat) (xs : Nat → Int32) (hX : va_X (cx_b X) L xs (cx_s X) (cx_s X).heap) (hb9 : cx_b X < cx_n X) (hL : L ≤ 100000) (i cn sn : Nat) (hi : i + 6 ≤ L) (h1 : cn + 3 ≤ 600000) (h2 : sn + 200 ≤ 7302250) (mem : Mm) (Iv : Mm → Prop) (Q : Option Value → (Nat → va_E) → Nat → Prop) (hs : W_X8_lay (xs (i + 1)) (xs (i + 2)) (xs (i + 3)) mem (fun v m => W_X9_lay (xs (i + 1)) (xs (i + 2)) (xs (i + 3)) m (fun v2 m2 => v = v2 ∧ Iv m2))) (kt : ∀ m2 : Mm, Iv m2 → GoC X 2048 600000 7302250 M_L_law 1445 [some (.ref (cx_b X)), some (.ref (cx_n X + 0)), some (.ref (cx_n X + 82)), some (.int (nI i))] [] (cn + 0 + 0) (sn + 0 + 0) (cellAt X m2) (sz m2) Q) : GoC X 2048 600000 7302250 M_L_law 1208 [some (.ref (cx_b X)), some (.ref (cx_n X + 0)), some (.ref (cx_n X + 82)), some (.int (nI i))] [] cn sn (cellAt X mem) (sz mem) Q := by
  refine gc_aload_n dL_law_1208 rfl ?_
  refine gc_aload_n dL_law_1209 rfl ?_
  refine gc_iload_n dL_law_1210 rfl ?_
  refine gc_iconst (v := 1) dL_law_1211 (by decide) ?_
  refine gc_iadd dL_law_1212 ?_
  refine gc_scr (i + 1) hX hb9 hL dL_law_1213 (nI_add i 1) (by omega) ?_
  refine gc_aload_n dL_law_1214 rfl ?_
  refine gc_iload_n dL_law_1215 rfl ?_
  refine gc_iconst (v := 2) dL_law_1216 (by decide) ?_
  refine gc_iadd dL_law_1217 ?_
  refine gc_scr (i + 2) hX hb9 hL dL_law_1218 (nI_add i 2) (by omega) ?_
  refine gc_aload_n dL_law_1219 rfl ?_
  refine gc_iload_n dL_law_1220 rfl ?_
  refine gc_iconst (v := 3) dL_law_1221 (by decide) ?_
  refine gc_iadd dL_law_1222 ?_
  refine gc_scr (i + 3) hX hb9 hL dL_law_1223 (nI_add i 3) (by omega) ?_
  refine go_callV (mc' := 0) (ms' := 0) (y := M_X8_lay) (As := [.int (xs (i + 1)), .int (xs (i + 2)), .int (xs (i + 3))]) (rest := []) dL_law_1224 lm_L_147 ok_X8_lay (by decide) (by omega) (by omega) (sz_lt (by decide)) kd_0 rfl rfl rfl (Nat.le_of_ble_eq_true rfl) (w_X8_lay X (xs (i + 1)) (xs (i + 2)) (xs (i + 3)) mem _ hs) (fun r1 m1 hq1 => ?_)
  obtain ⟨v1, rfl, hs⟩ := hq1
  refine gc_aload_n dL_law_1227 rfl ?_
  refine gc_aload_n dL_law_1228 rfl ?_
  refine gc_iload_n dL_law_1229 rfl ?_
  refine gc_iconst (v := 1) dL_law_1230 (by decide) ?_
  refine gc_iadd dL_law_1231 ?_
  refine gc_scr (i + 1) hX hb9 hL dL_law_1232 (nI_add i 1) (by omega) ?_
  refine gc_aload_n dL_law_1233 rfl ?_
  refine gc_iload_n dL_law_1234 rfl ?_
  refine gc_iconst (v := 2) dL_law_1235 (by decide) ?_
  refine gc_iadd dL_law_1236 ?_
  refine gc_scr (i + 2) hX hb9 hL dL_law_1237 (nI_add i 2) (by omega) ?_
  refine gc_aload_n dL_law_1238 rfl ?_
  refine gc_iload_n dL_law_1239 rfl ?_
  refine gc_iconst (v := 3) dL_law_1240 (by decide) ?_
  refine gc_iadd dL_law_1241 ?_
  refine gc_scr (i + 3) hX hb9 hL dL_law_1242 (nI_add i 3) (by omega) ?_
  refine go_callV (mc' := 0) (ms' := 0) (y := M_X9_lay) (As := [.int (xs (i + 1)), .int (xs (i + 2)), .int (xs (i + 3))]) (rest := [.int v1]) dL_law_1243 lm_L_150 ok_X9_lay (by decide) (by omega) (by omega) (sz_lt (by decide)) kd_82 rfl rfl rfl (Nat.le_of_ble_eq_true rfl) (w_X9_lay X (xs (i + 1)) (xs (i + 2)) (xs (i + 3)) m1 _ hs) (fun r2 m2 hq2 => ?_)
  obtain ⟨v2, rfl, e12, hI⟩ := hq2
  refine gc_icmp_eq 1445 dL_law_1246 (by decide) (fun hcz => ?_) (fun hcz => absurd e12 hcz)
  exact kt m2 hI
set_option maxRecDepth 100000 in
set_option maxHeartbeats 4000000 in
theorem lw_c33 (X : CX) (L : Nat) (xs : Nat → Int32) (hX : va_X (cx_b X) L xs (cx_s X) (cx_s X).heap) (hb9 : cx_b X < cx_n X) (hL : L ≤ 100000) (i cn sn : Nat) (hi : i + 6 ≤ L) (h1 : cn + 3 ≤ 600000) (h2 : sn + 200 ≤ 7302250) (mem : Mm) (Iv : Mm → Prop) (Q : Option Value → (Nat → va_E) → Nat → Prop) (hs : W_X8_ask (xs (i + 1)) (xs (i + 2)) mem (fun v m => W_X9_ask (xs (i + 1)) (xs (i + 2)) m (fun v2 m2 => v = v2 ∧ Iv m2))) (kt : ∀ m2 : Mm, Iv m2 → GoC X 2048 600000 7302250 M_L_law 1445 [some (.ref (cx_b X)), some (.ref (cx_n X + 0)), some (.ref (cx_n X + 82)), some (.int (nI i))] [] (cn + 0 + 0) (sn + 0 + 0) (cellAt X m2) (sz m2) Q) : GoC X 2048 600000 7302250 M_L_law 1251 [some (.ref (cx_b X)), some (.ref (cx_n X + 0)), some (.ref (cx_n X + 82)), some (.int (nI i))] [] cn sn (cellAt X mem) (sz mem) Q := by
  refine gc_aload_n dL_law_1251 rfl ?_
  refine gc_aload_n dL_law_1252 rfl ?_
  refine gc_iload_n dL_law_1253 rfl ?_
  refine gc_iconst (v := 1) dL_law_1254 (by decide) ?_
  refine gc_iadd dL_law_1255 ?_
  refine gc_scr (i + 1) hX hb9 hL dL_law_1256 (nI_add i 1) (by omega) ?_
  refine gc_aload_n dL_law_1257 rfl ?_
  refine gc_iload_n dL_law_1258 rfl ?_
  refine gc_iconst (v := 2) dL_law_1259 (by decide) ?_
  refine gc_iadd dL_law_1260 ?_
  refine gc_scr (i + 2) hX hb9 hL dL_law_1261 (nI_add i 2) (by omega) ?_
  refine go_callV (mc' := 0) (ms' := 0) (y := M_X8_ask) (As := [.int (xs (i + 1)), .int (xs (i + 2))]) (rest := []) dL_law_1262 lm_L_151 ok_X8_ask (by decide) (by omega) (by omega) (sz_lt (by decide)) kd_0 rfl rfl rfl (Nat.le_of_ble_eq_true rfl) (w_X8_ask X (xs (i + 1)) (xs (i + 2)) mem _ hs) (fun r1 m1 hq1 => ?_)
  obtain ⟨v1, rfl, hs⟩ := hq1
  refine gc_aload_n dL_law_1265 rfl ?_
  refine gc_aload_n dL_law_1266 rfl ?_
  refine gc_iload_n dL_law_1267 rfl ?_
  refine gc_iconst (v := 1) dL_law_1268 (by decide) ?_
  refine gc_iadd dL_law_1269 ?_
  refine gc_scr (i + 1) hX hb9 hL dL_law_1270 (nI_add i 1) (by omega) ?_
  refine gc_aload_n dL_law_1271 rfl ?_
  refine gc_iload_n dL_law_1272 rfl ?_
  refine gc_iconst (v := 2) dL_law_1273 (by decide) ?_
  refine gc_iadd dL_law_1274 ?_
  refine gc_scr (i + 2) hX hb9 hL dL_law_1275 (nI_add i 2) (by omega) ?_
  refine go_callV (mc' := 0) (ms' := 0) (y := M_X9_ask) (As := [.int (xs (i + 1)), .int (xs (i + 2))]) (rest := [.int v1]) dL_law_1276 lm_L_154 ok_X9_ask (by decide) (by omega) (by omega) (sz_lt (by decide)) kd_82 rfl rfl rfl (Nat.le_of_ble_eq_true rfl) (w_X9_ask X (xs (i + 1)) (xs (i + 2)) m1 _ hs) (fun r2 m2 hq2 => ?_)
  obtain ⟨v2, rfl, e12, hI⟩ := hq2
  refine gc_icmp_eq 1445 dL_law_1279 (by decide) (fun hcz => ?_) (fun hcz => absurd e12 hcz)
  exact kt m2 hI
set_option maxRecDepth 100000 in
set_option maxHeartbeats 4000000 in
theorem lw_c34 (X : CX) (L : Nat) (xs : Nat → Int32) (hX : va_X (cx_b X) L xs (cx_s X) (cx_s X).heap) (hb9 : cx_b X < cx_n X) (hL : L ≤ 100000) (i cn sn : Nat) (hi : i + 6 ≤ L) (h1 : cn + 3 ≤ 600000) (h2 : sn + 200 ≤ 7302250) (mem : Mm) (Iv : Mm → Prop) (Q : Option Value → (Nat → va_E) → Nat → Prop) (hs : W_X8_item (xs (i + 1)) (xs (i + 2)) mem (fun v m => W_X9_item (xs (i + 1)) (xs (i + 2)) m (fun v2 m2 => v = v2 ∧ Iv m2))) (kt : ∀ m2 : Mm, Iv m2 → GoC X 2048 600000 7302250 M_L_law 1445 [some (.ref (cx_b X)), some (.ref (cx_n X + 0)), some (.ref (cx_n X + 82)), some (.int (nI i))] [] (cn + 0 + 0) (sn + 0 + 0) (cellAt X m2) (sz m2) Q) : GoC X 2048 600000 7302250 M_L_law 1284 [some (.ref (cx_b X)), some (.ref (cx_n X + 0)), some (.ref (cx_n X + 82)), some (.int (nI i))] [] cn sn (cellAt X mem) (sz mem) Q := by
  refine gc_aload_n dL_law_1284 rfl ?_
  refine gc_aload_n dL_law_1285 rfl ?_
  refine gc_iload_n dL_law_1286 rfl ?_
  refine gc_iconst (v := 1) dL_law_1287 (by decide) ?_
  refine gc_iadd dL_law_1288 ?_
  refine gc_scr (i + 1) hX hb9 hL dL_law_1289 (nI_add i 1) (by omega) ?_
  refine gc_aload_n dL_law_1290 rfl ?_
  refine gc_iload_n dL_law_1291 rfl ?_
  refine gc_iconst (v := 2) dL_law_1292 (by decide) ?_
  refine gc_iadd dL_law_1293 ?_
  refine gc_scr (i + 2) hX hb9 hL dL_law_1294 (nI_add i 2) (by omega) ?_
  refine go_callV (mc' := 0) (ms' := 0) (y := M_X8_item) (As := [.int (xs (i + 1)), .int (xs (i + 2))]) (rest := []) dL_law_1295 lm_L_155 ok_X8_item (by decide) (by omega) (by omega) (sz_lt (by decide)) kd_0 rfl rfl rfl (Nat.le_of_ble_eq_true rfl) (w_X8_item X (xs (i + 1)) (xs (i + 2)) mem _ hs) (fun r1 m1 hq1 => ?_)
  obtain ⟨v1, rfl, hs⟩ := hq1
  refine gc_aload_n dL_law_1298 rfl ?_
  refine gc_aload_n dL_law_1299 rfl ?_
  refine gc_iload_n dL_law_1300 rfl ?_
  refine gc_iconst (v := 1) dL_law_1301 (by decide) ?_
  refine gc_iadd dL_law_1302 ?_
  refine gc_scr (i + 1) hX hb9 hL dL_law_1303 (nI_add i 1) (by omega) ?_
  refine gc_aload_n dL_law_1304 rfl ?_
  refine gc_iload_n dL_law_1305 rfl ?_
  refine gc_iconst (v := 2) dL_law_1306 (by decide) ?_
  refine gc_iadd dL_law_1307 ?_
  refine gc_scr (i + 2) hX hb9 hL dL_law_1308 (nI_add i 2) (by omega) ?_
  refine go_callV (mc' := 0) (ms' := 0) (y := M_X9_item) (As := [.int (xs (i + 1)), .int (xs (i + 2))]) (rest := [.int v1]) dL_law_1309 lm_L_158 ok_X9_item (by decide) (by omega) (by omega) (sz_lt (by decide)) kd_82 rfl rfl rfl (Nat.le_of_ble_eq_true rfl) (w_X9_item X (xs (i + 1)) (xs (i + 2)) m1 _ hs) (fun r2 m2 hq2 => ?_)
  obtain ⟨v2, rfl, e12, hI⟩ := hq2
  refine gc_icmp_eq 1445 dL_law_1312 (by decide) (fun hcz => ?_) (fun hcz => absurd e12 hcz)
  exact kt m2 hI
set_option maxRecDepth 100000 in
set_option maxHeartbeats 4000000 in
theorem lw_c35 (X : CX) (L : Nat) (xs : Nat → Int32) (hX : va_X (cx_b X) L xs (cx_s X) (cx_s X).heap) (hb9 : cx_b X < cx_n X) (hL : L ≤ 100000) (i cn sn : Nat) (hi : i + 6 ≤ L) (h1 : cn + 3 ≤ 600000) (h2 : sn + 200 ≤ 7302250) (mem : Mm) (Iv : Mm → Prop) (Q : Option Value → (Nat → va_E) → Nat → Prop) (hs : W_X8_rest (xs (i + 1)) (xs (i + 2)) mem (fun v m => W_X9_rest (xs (i + 1)) (xs (i + 2)) m (fun v2 m2 => v = v2 ∧ Iv m2))) (kt : ∀ m2 : Mm, Iv m2 → GoC X 2048 600000 7302250 M_L_law 1445 [some (.ref (cx_b X)), some (.ref (cx_n X + 0)), some (.ref (cx_n X + 82)), some (.int (nI i))] [] (cn + 0 + 0) (sn + 0 + 0) (cellAt X m2) (sz m2) Q) : GoC X 2048 600000 7302250 M_L_law 1317 [some (.ref (cx_b X)), some (.ref (cx_n X + 0)), some (.ref (cx_n X + 82)), some (.int (nI i))] [] cn sn (cellAt X mem) (sz mem) Q := by
  refine gc_aload_n dL_law_1317 rfl ?_
  refine gc_aload_n dL_law_1318 rfl ?_
  refine gc_iload_n dL_law_1319 rfl ?_
  refine gc_iconst (v := 1) dL_law_1320 (by decide) ?_
  refine gc_iadd dL_law_1321 ?_
  refine gc_scr (i + 1) hX hb9 hL dL_law_1322 (nI_add i 1) (by omega) ?_
  refine gc_aload_n dL_law_1323 rfl ?_
  refine gc_iload_n dL_law_1324 rfl ?_
  refine gc_iconst (v := 2) dL_law_1325 (by decide) ?_
  refine gc_iadd dL_law_1326 ?_
  refine gc_scr (i + 2) hX hb9 hL dL_law_1327 (nI_add i 2) (by omega) ?_
  refine go_callV (mc' := 0) (ms' := 0) (y := M_X8_rest) (As := [.int (xs (i + 1)), .int (xs (i + 2))]) (rest := []) dL_law_1328 lm_L_159 ok_X8_rest (by decide) (by omega) (by omega) (sz_lt (by decide)) kd_0 rfl rfl rfl (Nat.le_of_ble_eq_true rfl) (w_X8_rest X (xs (i + 1)) (xs (i + 2)) mem _ hs) (fun r1 m1 hq1 => ?_)
  obtain ⟨v1, rfl, hs⟩ := hq1
  refine gc_aload_n dL_law_1331 rfl ?_
  refine gc_aload_n dL_law_1332 rfl ?_
  refine gc_iload_n dL_law_1333 rfl ?_
  refine gc_iconst (v := 1) dL_law_1334 (by decide) ?_
  refine gc_iadd dL_law_1335 ?_
  refine gc_scr (i + 1) hX hb9 hL dL_law_1336 (nI_add i 1) (by omega) ?_
  refine gc_aload_n dL_law_1337 rfl ?_
  refine gc_iload_n dL_law_1338 rfl ?_
  refine gc_iconst (v := 2) dL_law_1339 (by decide) ?_
  refine gc_iadd dL_law_1340 ?_
  refine gc_scr (i + 2) hX hb9 hL dL_law_1341 (nI_add i 2) (by omega) ?_
  refine go_callV (mc' := 0) (ms' := 0) (y := M_X9_rest) (As := [.int (xs (i + 1)), .int (xs (i + 2))]) (rest := [.int v1]) dL_law_1342 lm_L_162 ok_X9_rest (by decide) (by omega) (by omega) (sz_lt (by decide)) kd_82 rfl rfl rfl (Nat.le_of_ble_eq_true rfl) (w_X9_rest X (xs (i + 1)) (xs (i + 2)) m1 _ hs) (fun r2 m2 hq2 => ?_)
  obtain ⟨v2, rfl, e12, hI⟩ := hq2
  refine gc_icmp_eq 1445 dL_law_1345 (by decide) (fun hcz => ?_) (fun hcz => absurd e12 hcz)
  exact kt m2 hI
set_option maxRecDepth 100000 in
set_option maxHeartbeats 4000000 in
theorem lw_c36 (X : CX) (L : Nat) (xs : Nat → Int32) (hX : va_X (cx_b X) L xs (cx_s X) (cx_s X).heap) (hb9 : cx_b X < cx_n X) (hL : L ≤ 100000) (i cn sn : Nat) (hi : i + 6 ≤ L) (h1 : cn + 3 ≤ 600000) (h2 : sn + 200 ≤ 7302250) (mem : Mm) (Iv : Mm → Prop) (Q : Option Value → (Nat → va_E) → Nat → Prop) (hs : W_X8_tell (xs (i + 1)) mem (fun v m => W_X9_tell (xs (i + 1)) m (fun v2 m2 => v = v2 ∧ Iv m2))) (kt : ∀ m2 : Mm, Iv m2 → GoC X 2048 600000 7302250 M_L_law 1445 [some (.ref (cx_b X)), some (.ref (cx_n X + 0)), some (.ref (cx_n X + 82)), some (.int (nI i))] [] (cn + 0 + 0) (sn + 0 + 0) (cellAt X m2) (sz m2) Q) : GoC X 2048 600000 7302250 M_L_law 1350 [some (.ref (cx_b X)), some (.ref (cx_n X + 0)), some (.ref (cx_n X + 82)), some (.int (nI i))] [] cn sn (cellAt X mem) (sz mem) Q := by
  refine gc_aload_n dL_law_1350 rfl ?_
  refine gc_aload_n dL_law_1351 rfl ?_
  refine gc_iload_n dL_law_1352 rfl ?_
  refine gc_iconst (v := 1) dL_law_1353 (by decide) ?_
  refine gc_iadd dL_law_1354 ?_
  refine gc_scr (i + 1) hX hb9 hL dL_law_1355 (nI_add i 1) (by omega) ?_
  refine go_callV (mc' := 0) (ms' := 0) (y := M_X8_tell) (As := [.int (xs (i + 1))]) (rest := []) dL_law_1356 lm_L_163 ok_X8_tell (by decide) (by omega) (by omega) (sz_lt (by decide)) kd_0 rfl rfl rfl (Nat.le_of_ble_eq_true rfl) (w_X8_tell X (xs (i + 1)) mem _ hs) (fun r1 m1 hq1 => ?_)
  obtain ⟨v1, rfl, hs⟩ := hq1
  refine gc_aload_n dL_law_1359 rfl ?_
  refine gc_aload_n dL_law_1360 rfl ?_
  refine gc_iload_n dL_law_1361 rfl ?_
  refine gc_iconst (v := 1) dL_law_1362 (by decide) ?_
  refine gc_iadd dL_law_1363 ?_
  refine gc_scr (i + 1) hX hb9 hL dL_law_1364 (nI_add i 1) (by omega) ?_
  refine go_callV (mc' := 0) (ms' := 0) (y := M_X9_tell) (As := [.int (xs (i + 1))]) (rest := [.int v1]) dL_law_1365 lm_L_166 ok_X9_tell (by decide) (by omega) (by omega) (sz_lt (by decide)) kd_82 rfl rfl rfl (Nat.le_of_ble_eq_true rfl) (w_X9_tell X (xs (i + 1)) m1 _ hs) (fun r2 m2 hq2 => ?_)
  obtain ⟨v2, rfl, e12, hI⟩ := hq2
  refine gc_icmp_eq 1445 dL_law_1368 (by decide) (fun hcz => ?_) (fun hcz => absurd e12 hcz)
  exact kt m2 hI
set_option maxRecDepth 100000 in
set_option maxHeartbeats 4000000 in
theorem lw_c37 (X : CX) (L : Nat) (xs : Nat → Int32) (hX : va_X (cx_b X) L xs (cx_s X) (cx_s X).heap) (hb9 : cx_b X < cx_n X) (hL : L ≤ 100000) (i cn sn : Nat) (hi : i + 6 ≤ L) (h1 : cn + 3 ≤ 600000) (h2 : sn + 200 ≤ 7302250) (mem : Mm) (Iv : Mm → Prop) (Q : Option Value → (Nat → va_E) → Nat → Prop) (hs : W_X8_check (xs (i + 1)) mem (fun v m => W_X9_check (xs (i + 1)) m (fun v2 m2 => v = v2 ∧ Iv m2))) (kt : ∀ m2 : Mm, Iv m2 → GoC X 2048 600000 7302250 M_L_law 1445 [some (.ref (cx_b X)), some (.ref (cx_n X + 0)), some (.ref (cx_n X + 82)), some (.int (nI i))] [] (cn + 0 + 0) (sn + 0 + 0) (cellAt X m2) (sz m2) Q) : GoC X 2048 600000 7302250 M_L_law 1373 [some (.ref (cx_b X)), some (.ref (cx_n X + 0)), some (.ref (cx_n X + 82)), some (.int (nI i))] [] cn sn (cellAt X mem) (sz mem) Q := by
  refine gc_aload_n dL_law_1373 rfl ?_
  refine gc_aload_n dL_law_1374 rfl ?_
  refine gc_iload_n dL_law_1375 rfl ?_
  refine gc_iconst (v := 1) dL_law_1376 (by decide) ?_
  refine gc_iadd dL_law_1377 ?_
  refine gc_scr (i + 1) hX hb9 hL dL_law_1378 (nI_add i 1) (by omega) ?_
  refine go_callV (mc' := 0) (ms' := 0) (y := M_X8_check) (As := [.int (xs (i + 1))]) (rest := []) dL_law_1379 lm_L_167 ok_X8_check (by decide) (by omega) (by omega) (sz_lt (by decide)) kd_0 rfl rfl rfl (Nat.le_of_ble_eq_true rfl) (w_X8_check X (xs (i + 1)) mem _ hs) (fun r1 m1 hq1 => ?_)
  obtain ⟨v1, rfl, hs⟩ := hq1
  refine gc_aload_n dL_law_1382 rfl ?_
  refine gc_aload_n dL_law_1383 rfl ?_
  refine gc_iload_n dL_law_1384 rfl ?_
  refine gc_iconst (v := 1) dL_law_1385 (by decide) ?_
  refine gc_iadd dL_law_1386 ?_
  refine gc_scr (i + 1) hX hb9 hL dL_law_1387 (nI_add i 1) (by omega) ?_
  refine go_callV (mc' := 0) (ms' := 0) (y := M_X9_check) (As := [.int (xs (i + 1))]) (rest := [.int v1]) dL_law_1388 lm_L_170 ok_X9_check (by decide) (by omega) (by omega) (sz_lt (by decide)) kd_82 rfl rfl rfl (Nat.le_of_ble_eq_true rfl) (w_X9_check X (xs (i + 1)) m1 _ hs) (fun r2 m2 hq2 => ?_)
  obtain ⟨v2, rfl, e12, hI⟩ := hq2
  refine gc_icmp_eq 1445 dL_law_1391 (by decide) (fun hcz => ?_) (fun hcz => absurd e12 hcz)
  exact kt m2 hI
set_option maxRecDepth 100000 in
set_option maxHeartbeats 4000000 in
theorem lw_c38 (X : CX) (L : Nat) (xs : Nat → Int32) (hX : va_X (cx_b X) L xs (cx_s X) (cx_s X).heap) (hb9 : cx_b X < cx_n X) (hL : L ≤ 100000) (i cn sn : Nat) (hi : i + 6 ≤ L) (h1 : cn + 3 ≤ 600000) (h2 : sn + 200 ≤ 7302250) (mem : Mm) (Iv : Mm → Prop) (Q : Option Value → (Nat → va_E) → Nat → Prop) (hs : W_X8_keep  mem (fun v m => W_X9_keep  m (fun v2 m2 => v = v2 ∧ Iv m2))) (kt : ∀ m2 : Mm, Iv m2 → GoC X 2048 600000 7302250 M_L_law 1445 [some (.ref (cx_b X)), some (.ref (cx_n X + 0)), some (.ref (cx_n X + 82)), some (.int (nI i))] [] (cn + 0 + 0) (sn + 0 + 0) (cellAt X m2) (sz m2) Q) : GoC X 2048 600000 7302250 M_L_law 1396 [some (.ref (cx_b X)), some (.ref (cx_n X + 0)), some (.ref (cx_n X + 82)), some (.int (nI i))] [] cn sn (cellAt X mem) (sz mem) Q := by
  refine gc_aload_n dL_law_1396 rfl ?_
  refine go_callV (mc' := 0) (ms' := 0) (y := M_X8_keep) (As := []) (rest := []) dL_law_1397 lm_L_171 ok_X8_keep (by decide) (by omega) (by omega) (sz_lt (by decide)) kd_0 rfl rfl rfl (Nat.le_of_ble_eq_true rfl) (w_X8_keep X  mem _ hs) (fun r1 m1 hq1 => ?_)
  obtain ⟨v1, rfl, hs⟩ := hq1
  refine gc_aload_n dL_law_1400 rfl ?_
  refine go_callV (mc' := 0) (ms' := 0) (y := M_X9_keep) (As := []) (rest := [.int v1]) dL_law_1401 lm_L_174 ok_X9_keep (by decide) (by omega) (by omega) (sz_lt (by decide)) kd_82 rfl rfl rfl (Nat.le_of_ble_eq_true rfl) (w_X9_keep X  m1 _ hs) (fun r2 m2 hq2 => ?_)
  obtain ⟨v2, rfl, e12, hI⟩ := hq2
  refine gc_icmp_eq 1445 dL_law_1404 (by decide) (fun hcz => ?_) (fun hcz => absurd e12 hcz)
  exact kt m2 hI
set_option maxRecDepth 100000 in
set_option maxHeartbeats 4000000 in
theorem lw_c39 (X : CX) (L : Nat) (xs : Nat → Int32) (hX : va_X (cx_b X) L xs (cx_s X) (cx_s X).heap) (hb9 : cx_b X < cx_n X) (hL : L ≤ 100000) (i cn sn : Nat) (hi : i + 6 ≤ L) (h1 : cn + 3 ≤ 600000) (h2 : sn + 200 ≤ 7302250) (mem : Mm) (Iv : Mm → Prop) (Q : Option Value → (Nat → va_E) → Nat → Prop) (hs : W_X8_back  mem (fun v m => W_X9_back  m (fun v2 m2 => v = v2 ∧ Iv m2))) (kt : ∀ m2 : Mm, Iv m2 → GoC X 2048 600000 7302250 M_L_law 1445 [some (.ref (cx_b X)), some (.ref (cx_n X + 0)), some (.ref (cx_n X + 82)), some (.int (nI i))] [] (cn + 0 + 0) (sn + 0 + 0) (cellAt X m2) (sz m2) Q) : GoC X 2048 600000 7302250 M_L_law 1409 [some (.ref (cx_b X)), some (.ref (cx_n X + 0)), some (.ref (cx_n X + 82)), some (.int (nI i))] [] cn sn (cellAt X mem) (sz mem) Q := by
  refine gc_aload_n dL_law_1409 rfl ?_
  refine go_callV (mc' := 0) (ms' := 0) (y := M_X8_back) (As := []) (rest := []) dL_law_1410 lm_L_175 ok_X8_back (by decide) (by omega) (by omega) (sz_lt (by decide)) kd_0 rfl rfl rfl (Nat.le_of_ble_eq_true rfl) (w_X8_back X  mem _ hs) (fun r1 m1 hq1 => ?_)
  obtain ⟨v1, rfl, hs⟩ := hq1
  refine gc_aload_n dL_law_1413 rfl ?_
  refine go_callV (mc' := 0) (ms' := 0) (y := M_X9_back) (As := []) (rest := [.int v1]) dL_law_1414 lm_L_178 ok_X9_back (by decide) (by omega) (by omega) (sz_lt (by decide)) kd_82 rfl rfl rfl (Nat.le_of_ble_eq_true rfl) (w_X9_back X  m1 _ hs) (fun r2 m2 hq2 => ?_)
  obtain ⟨v2, rfl, e12, hI⟩ := hq2
  refine gc_icmp_eq 1445 dL_law_1417 (by decide) (fun hcz => ?_) (fun hcz => absurd e12 hcz)
  exact kt m2 hI
set_option maxRecDepth 100000 in
set_option maxHeartbeats 4000000 in
theorem lw_c40 (X : CX) (L : Nat) (xs : Nat → Int32) (hX : va_X (cx_b X) L xs (cx_s X) (cx_s X).heap) (hb9 : cx_b X < cx_n X) (hL : L ≤ 100000) (i cn sn : Nat) (hi : i + 6 ≤ L) (h1 : cn + 3 ≤ 600000) (h2 : sn + 200 ≤ 7302250) (mem : Mm) (Iv : Mm → Prop) (Q : Option Value → (Nat → va_E) → Nat → Prop) (hs : W_X8_count (xs (i + 1)) mem (fun v m => W_X9_count (xs (i + 1)) m (fun v2 m2 => v = v2 ∧ Iv m2))) (kt : ∀ m2 : Mm, Iv m2 → GoC X 2048 600000 7302250 M_L_law 1445 [some (.ref (cx_b X)), some (.ref (cx_n X + 0)), some (.ref (cx_n X + 82)), some (.int (nI i))] [] (cn + 0 + 0) (sn + 0 + 0) (cellAt X m2) (sz m2) Q) : GoC X 2048 600000 7302250 M_L_law 1422 [some (.ref (cx_b X)), some (.ref (cx_n X + 0)), some (.ref (cx_n X + 82)), some (.int (nI i))] [] cn sn (cellAt X mem) (sz mem) Q := by
  refine gc_aload_n dL_law_1422 rfl ?_
  refine gc_aload_n dL_law_1423 rfl ?_
  refine gc_iload_n dL_law_1424 rfl ?_
  refine gc_iconst (v := 1) dL_law_1425 (by decide) ?_
  refine gc_iadd dL_law_1426 ?_
  refine gc_scr (i + 1) hX hb9 hL dL_law_1427 (nI_add i 1) (by omega) ?_
  refine go_callV (mc' := 0) (ms' := 0) (y := M_X8_count) (As := [.int (xs (i + 1))]) (rest := []) dL_law_1428 lm_L_179 ok_X8_count (by decide) (by omega) (by omega) (sz_lt (by decide)) kd_0 rfl rfl rfl (Nat.le_of_ble_eq_true rfl) (w_X8_count X (xs (i + 1)) mem _ hs) (fun r1 m1 hq1 => ?_)
  obtain ⟨v1, rfl, hs⟩ := hq1
  refine gc_aload_n dL_law_1431 rfl ?_
  refine gc_aload_n dL_law_1432 rfl ?_
  refine gc_iload_n dL_law_1433 rfl ?_
  refine gc_iconst (v := 1) dL_law_1434 (by decide) ?_
  refine gc_iadd dL_law_1435 ?_
  refine gc_scr (i + 1) hX hb9 hL dL_law_1436 (nI_add i 1) (by omega) ?_
  refine go_callV (mc' := 0) (ms' := 0) (y := M_X9_count) (As := [.int (xs (i + 1))]) (rest := [.int v1]) dL_law_1437 lm_L_182 ok_X9_count (by decide) (by omega) (by omega) (sz_lt (by decide)) kd_82 rfl rfl rfl (Nat.le_of_ble_eq_true rfl) (w_X9_count X (xs (i + 1)) m1 _ hs) (fun r2 m2 hq2 => ?_)
  obtain ⟨v2, rfl, e12, hI⟩ := hq2
  refine gc_icmp_eq 1445 dL_law_1440 (by decide) (fun hcz => ?_) (fun hcz => absurd e12 hcz)
  exact kt m2 hI
