-- links: a field's place in a pool, a method's
def LkF (own : String) (index : Nat) (T : u_T) (j : Nat) : Prop := Cond.fieldLink own index (T j).1 (T j).2.1 (T j).2.2.1 ∈ lw_tbl ∨ ∃ h : String, Cond.fieldLinkNest own index (T j).1 (T j).2.1 (T j).2.2.1 h ∈ lw_tbl
def LkM (own : String) (index : Nat) (y : MethodName) : Prop := Cond.methodLink own index y ∈ lw_tbl ∨ ∃ h : String, Cond.methodLinkNest own index y h ∈ lw_tbl
/-- a method that can be called: its code, its class, its parameters -/
def OkM (y : MT) (n : Nat) : Prop := Cond.code y.1 y.2.1 y.2.2.1 y.2.2.2 ∈ lw_tbl ∧ Cond.initialized y.1.cls ∈ lw_tbl ∧ y.1.cls ≠ "java/lang/invoke/MethodHandle" ∧ y.1.cls ≠ "java/lang/invoke/VarHandle" ∧ (parseMethodDescriptor y.1.desc).map (fun d => d.parameters.length) = some n ∧ y.2.2.1 ≤ 21
def OkS (y : MT) (n : Nat) : Prop := OkM y n ∧ Cond.static y.1 ∈ lw_tbl
def OkV (y : MT) (n : Nat) : Prop := OkM y n ∧ Cond.instanceMethod y.1 ∈ lw_tbl ∧ Cond.selects y.1.cls y.1 y.1 ∈ lw_tbl
def OkI (y : MT) (n : Nat) : Prop := OkM y n ∧ Cond.instanceMethod y.1 ∈ lw_tbl ∧ y.1.name = "<init>" ∧ y.2.2.2 = none
section GH
variable {X : CX} {d mc ms : Nat} {M : MT} {pc : Nat} {lc : List (Option Value)} {st : List Value} {cn sn : Nat} {ce : Nat → va_E} {N : Nat} {Q : Option Value → (Nat → va_E) → Nat → Prop}
theorem gc_get {index k ci j : Nat} {C : String} {T : u_T} {Nf : Nat} {fs : List Value} {v : Value} (hd : decode M.2.1 pc = .ok (.getfield index, 3)) (hlk : LkF M.1.cls index T j) (hN : k < N) (he : ce k = .inr (ci, fs)) (hc : vwCl[ci]? = some (C, T, Nf)) (hj : j < Nf) (hv : fs[j]? = some v) (kt : GoC X d mc ms M (pc + 3) lc (v :: st) cn sn ce N Q) : GoC X d mc ms M pc lc (.ref (cx_n X + k) :: st) cn sn ce N Q := by
  intro p e s m args below meth c H locs ls F hS hH hl
  have hP : va_P (cx_D X) vwCl [(cx_n X + k, ce k)] H := fun i q hq => by
    match i, hq with
    | 0, hq => cases hq; exact hH.2 k hN
    | i + 1, hq => simp at hq
  have kk := kt p e s m args below meth c H locs ls F hS hH hl
  have hK := F.K
  have hW := F.2.2.2.2.2.2.2.1
  rcases hlk with hlk | ⟨h, hlk⟩
  · exact va_get (D := cx_D X) (ref := (T j).1) (Ts := u_ws C T Nf) F.2.1 F.2.2.1 (cx_flds F.1 hW hc) (fun _ h => h) F.2.2.2.2.2.2.1 hK hP 0 (by rw [he]; rfl) hc j hj (cx_w F.1 hW hlk rfl) (fun _ h => h) hv hd kk
  · exact va_getN (D := cx_D X) (ref := (T j).1) (Ts := u_ws C T Nf) F.2.1 F.2.2.1 (cx_flds F.1 hW hc) (fun _ h => h) F.2.2.2.2.2.2.1 hK hP 0 (by rw [he]; rfl) hc j hj (cx_nf F.1 hW hlk) (fun _ h => h) hv hd kk
theorem gc_put {index k ci j : Nat} {C : String} {T : u_T} {Nf : Nat} {fs : List Value} {v : Value} {ty : FieldType} (hd : decode M.2.1 pc = .ok (.putfield index, 3)) (hlk : LkF M.1.cls index T j) (hN : k < N) (he : ce k = .inr (ci, fs)) (hc : vwCl[ci]? = some (C, T, Nf)) (hj : j < Nf) (hfin : (T j).2.2.2 = false) (hp : parseFieldDescriptor (T j).2.2.1 = some ty) (hn : narrow ty v = v) (hfit : fits ty v = true) (hl9 : j < fs.length) (kt : GoC X d mc ms M (pc + 3) lc st cn sn (ceU ce k (.inr (ci, fs.set j v))) N Q) : GoC X d mc ms M pc lc (v :: .ref (cx_n X + k) :: st) cn sn ce N Q := by
  intro p e s m args below meth c H locs ls F hS hH hl
  have hK := F.K
  have hW := F.2.2.2.2.2.2.2.1
  have hts : ∀ w ∈ u_ws C T Nf, w.before args s = true := cx_flds F.1 hW hc
  obtain ⟨tyf, hty, hnm⟩ := cx_tyok hc
  have hap := va_apart (own := M.1.cls) hts (fun _ h => h) tyf hty hnm hK hc
  have hat := hH.2 k hN
  rw [he] at hat
  obtain ⟨r, h1, cell, q1, q2, q3, q4⟩ := hat
  have hr : r = (C, T, Nf) := Option.some.inj (h1.symm.trans hc)
  subst hr
  obtain ⟨hSl, hfc, kC, hkC, hkind⟩ := hK.1 ci _ hc
  obtain ⟨cf, kf, fi, f, hi, hsl⟩ := hSl j hj
  have hlay := hts _ (u_in_lay hj)
  unfold u_lay at hlay
  rw [if_neg (by rw [hfin]; decide)] at hlay
  have hst := (u_facts hfc hkC (u_lays hts (fun _ h => h) hj) hi).1
  have h6 := u_store hfc hkC hkind hlay hi hp hn hfit
  have fin : ∀ H' : Heap, H'[cx_n X + k]? = some (cell.setSlot f.slot v) → H'.size = H.size → (∀ q, q ≠ cx_n X + k → H'[q]? = H[q]?) → W p (cx_l X) e (rmX d mc ms) s m args below meth c H' (locs ++ [⟨cx_n X + k, f.slot⟩]) cn sn (MQ below (QcX X Q) args s mc ms (cx_A X)) (F0 m (pc + 3) ls st) := by
    intro H' e1 e2 e3
    rw [hsl] at e1 ⊢
    have hcell : va_at (cx_D X) vwCl (cx_n X + k, .inr (ci, fs.set j v)) H' := ⟨_, hc, t_OB.to (V := updV (vp_V fs) j v) ⟨_, e1, q2, q3, t_set q4 hap hj v⟩ (fun i _ => vp_updV_set hl9 v i)⟩
    exact kt p e s m args below meth c H' _ ls F (hS.put e2 e3 (Nat.le_add_right _ _)) (hH.set hcell e2 e3) hl
  rcases hlk with hlk | ⟨hh, hlk⟩
  · exact W.putK F.2.1 F.2.2.1 (f := f) (own := M.1.cls) (ref := (T j).1) (name := (T j).2.1) (desc := (T j).2.2.1) (index := index) ⟨F.2.2.2.2.2.2.1, cx_w F.1 hW hlk rfl, ⟨_, _, _, hi⟩, hst⟩ (by rw [q2]; exact h6) q1 q3 (by rw [hsl]; exact k2_hasslot (q4 j hj)) rfl rfl hd fin
  · exact va_WputK F.2.1 F.2.2.1 (f := f) F.2.2.2.2.2.2.1 (cx_nf F.1 hW hlk) hi hst (by rw [q2]; exact h6) q1 q3 (by rw [hsl]; exact k2_hasslot (q4 j hj)) rfl rfl hd fin
/-- a final field, in its constructor -/
theorem gc_putF {index k ci j : Nat} {C : String} {T : u_T} {Nf : Nat} {fs : List Value} {v : Value} {ty : FieldType} (hd : decode M.2.1 pc = .ok (.putfield index, 3)) (hlk : Cond.fieldLink M.1.cls index (T j).1 (T j).2.1 (T j).2.2.1 ∈ lw_tbl) (hN : k < N) (he : ce k = .inr (ci, fs)) (hc : vwCl[ci]? = some (C, T, Nf)) (hj : j < Nf) (hfin : (T j).2.2.2 = true) (hin : M.1.name = "<init>") (hdecl : (T j).1 = M.1.cls) (hp : parseFieldDescriptor (T j).2.2.1 = some ty) (hn : narrow ty v = v) (hfit : fits ty v = true) (hl9 : j < fs.length) (kt : GoC X d mc ms M (pc + 3) lc st cn sn (ceU ce k (.inr (ci, fs.set j v))) N Q) : GoC X d mc ms M pc lc (v :: .ref (cx_n X + k) :: st) cn sn ce N Q := by
  intro p e s m args below meth c H locs ls F hS hH hl
  have hK := F.K
  have hW := F.2.2.2.2.2.2.2.1
  have hts : ∀ w ∈ u_ws C T Nf, w.before args s = true := cx_flds F.1 hW hc
  obtain ⟨tyf, hty, hnm⟩ := cx_tyok hc
  have hap := va_apart (own := M.1.cls) hts (fun _ h => h) tyf hty hnm hK hc
  have hat := hH.2 k hN
  rw [he] at hat
  obtain ⟨r, h1, cell, q1, q2, q3, q4⟩ := hat
  have hr : r = (C, T, Nf) := Option.some.inj (h1.symm.trans hc)
  subst hr
  obtain ⟨hSl, hfc, kC, hkC, hkind⟩ := hK.1 ci _ hc
  obtain ⟨cf, kf, fi, f, hi, hsl⟩ := hSl j hj
  have hlay := hts _ (u_in_lay hj)
  unfold u_lay at hlay
  rw [if_pos hfin] at hlay
  have hst := (u_facts hfc hkC (u_lays hts (fun _ h => h) hj) hi).1
  have hcf : m.cls = cf := by
    obtain ⟨_, _, c', _, _, _, -, -, hf', -, -, -, hown2, -⟩ := Cond.laysFinal_spec hlay
    have e1 : c' = cf := by have := hi.symm.trans hf'; simp at this; exact this.1.symm
    rw [hdecl] at hown2
    rw [← e1]; exact Option.some.inj (F.2.2.2.2.2.2.1.symm.trans hown2)
  have h6 := u_fits hfc hkC hkind (Or.inr hlay) hi hp hn hfit
  refine W.putFinK F.2.1 F.2.2.1 (own := M.1.cls) (ref := (T j).1) (name := (T j).2.1) (desc := (T j).2.2.1) (index := index) F.2.2.2.2.2.2.1 (cx_w F.1 hW hlk rfl) hi hst hcf (F.2.2.2.2.2.2.2.2.2.trans hin) (by rw [q2]; exact h6) q1 q3 (by rw [hsl]; exact k2_hasslot (q4 j hj)) rfl rfl hd fun H' e1 e2 e3 => ?_
  rw [hsl] at e1 ⊢
  have hcell : va_at (cx_D X) vwCl (cx_n X + k, .inr (ci, fs.set j v)) H' := ⟨_, hc, t_OB.to (V := updV (vp_V fs) j v) ⟨_, e1, q2, q3, t_set q4 hap hj v⟩ (fun i _ => vp_updV_set hl9 v i)⟩
  exact kt p e s m args below meth c H' _ ls F (hS.put e2 e3 (Nat.le_add_right _ _)) (hH.set hcell e2 e3) hl
theorem cx_arr {s : State} (hK : va_K (cx_D X) vwCl (cx_tys X) s) {t : Nat} (ht : t < 8) : ArrOfT s (cx_a X t) (cx_ty t) ∧ va_RA s (cx_a X t) (cx_ty t) := by
  match t, ht with
  | 0, _ => exact hK.2 0 _ rfl
  | 1, _ => exact hK.2 1 _ rfl
  | 2, _ => exact hK.2 2 _ rfl
  | 3, _ => exact hK.2 3 _ rfl
  | 4, _ => exact hK.2 4 _ rfl
  | 5, _ => exact hK.2 5 _ rfl
  | 6, _ => exact hK.2 6 _ rfl
  | 7, _ => exact hK.2 7 _ rfl
  | k + 8, h => omega
theorem ix_in {x : Int32} {i n : Nat} (hx : x = nI i) (hi : i < n) (hn : n ≤ 100000) : ¬ (x < 0 ∨ n ≤ x.toNatClampNeg) ∧ x.toNatClampNeg = i := by
  subst hx
  have h31 : i < 2 ^ 31 := by omega
  refine ⟨nI_in hi (by omega), nI_clamp h31⟩

theorem gc_iald {x : Int32} {k n : Nat} {f : Nat → Int32} (i : Nat) (hd : decode M.2.1 pc = .ok (.iaload, 1)) (hN : k < N) (he : ce k = .inl (cx_a X 0, n, .inl f)) (hx : x = nI i) (hi : i < n) (hn : n ≤ 100000) (kt : GoC X d mc ms M (pc + 1) lc (.int (f i) :: st) cn sn ce N Q) : GoC X d mc ms M pc lc (.int x :: .ref (cx_n X + k) :: st) cn sn ce N Q := by
  intro p e s m args below meth c H locs ls F hS hH hl
  have kk := kt p e s m args below meth c H locs ls F hS hH hl
  have hat := hH.2 k hN
  rw [he] at hat
  obtain ⟨h1, h2⟩ := ix_in hx hi hn
  exact W.iald (v := .int (f i)) F.2.1 F.2.2.1 hat ((cx_arr F.K (t := 0) (by decide)).1 n (fun j => .int (f j))) (fun q => by cases q) (by show ¬ (x < 0 ∨ (arrV _ _ _).slots.size ≤ _); rw [arrV_size]; exact h1) (by show (arrV _ _ _).slots[_]? = _; rw [h2, arrV_read _ _ hi]) rfl rfl hd kk
theorem gc_bald {x : Int32} {k n : Nat} {f : Nat → Int32} (i : Nat) (hd : decode M.2.1 pc = .ok (.baload, 1)) (hN : k < N) (he : ce k = .inl (cx_a X 1, n, .inl f)) (hx : x = nI i) (hi : i < n) (hn : n ≤ 100000) (kt : GoC X d mc ms M (pc + 1) lc (.int (f i) :: st) cn sn ce N Q) : GoC X d mc ms M pc lc (.int x :: .ref (cx_n X + k) :: st) cn sn ce N Q := by
  intro p e s m args below meth c H locs ls F hS hH hl
  have kk := kt p e s m args below meth c H locs ls F hS hH hl
  have hat := hH.2 k hN
  rw [he] at hat
  obtain ⟨h1, h2⟩ := ix_in hx hi hn
  exact W.bald (v := .int (f i)) F.2.1 F.2.2.1 hat ((cx_arr F.K (t := 1) (by decide)).1 n (fun j => .int (f j))) (fun q => by cases q) (by show ¬ (x < 0 ∨ (arrV _ _ _).slots.size ≤ _); rw [arrV_size]; exact h1) (by show (arrV _ _ _).slots[_]? = _; rw [h2, arrV_read _ _ hi]) rfl rfl hd kk
theorem gc_cald {x : Int32} {k n : Nat} {f : Nat → Int32} (i : Nat) (hd : decode M.2.1 pc = .ok (.caload, 1)) (hN : k < N) (he : ce k = .inl (cx_a X 2, n, .inl f)) (hx : x = nI i) (hi : i < n) (hn : n ≤ 100000) (kt : GoC X d mc ms M (pc + 1) lc (.int (f i) :: st) cn sn ce N Q) : GoC X d mc ms M pc lc (.int x :: .ref (cx_n X + k) :: st) cn sn ce N Q := by
  intro p e s m args below meth c H locs ls F hS hH hl
  have kk := kt p e s m args below meth c H locs ls F hS hH hl
  have hat := hH.2 k hN
  rw [he] at hat
  obtain ⟨h1, h2⟩ := ix_in hx hi hn
  exact W.cald (v := .int (f i)) F.2.1 F.2.2.1 hat ((cx_arr F.K (t := 2) (by decide)).1 n (fun j => .int (f j))) (fun q => by cases q) (by show ¬ (x < 0 ∨ (arrV _ _ _).slots.size ≤ _); rw [arrV_size]; exact h1) (by show (arrV _ _ _).slots[_]? = _; rw [h2, arrV_read _ _ hi]) rfl rfl hd kk
theorem gc_zald {x : Int32} {k n : Nat} {f : Nat → Int32} (i : Nat) (hd : decode M.2.1 pc = .ok (.baload, 1)) (hN : k < N) (he : ce k = .inl (cx_a X 3, n, .inl f)) (hx : x = nI i) (hi : i < n) (hn : n ≤ 100000) (kt : GoC X d mc ms M (pc + 1) lc (.int (f i) :: st) cn sn ce N Q) : GoC X d mc ms M pc lc (.int x :: .ref (cx_n X + k) :: st) cn sn ce N Q := by
  intro p e s m args below meth c H locs ls F hS hH hl
  have kk := kt p e s m args below meth c H locs ls F hS hH hl
  have hat := hH.2 k hN
  rw [he] at hat
  obtain ⟨h1, h2⟩ := ix_in hx hi hn
  exact W.zald (v := .int (f i)) F.2.1 F.2.2.1 hat ((cx_arr F.K (t := 3) (by decide)).1 n (fun j => .int (f j))) (fun q => by cases q) (by show ¬ (x < 0 ∨ (arrV _ _ _).slots.size ≤ _); rw [arrV_size]; exact h1) (by show (arrV _ _ _).slots[_]? = _; rw [h2, arrV_read _ _ hi]) rfl rfl hd kk
theorem gc_iast {x v : Int32} {k n : Nat} {f : Nat → Int32} (i : Nat) (hd : decode M.2.1 pc = .ok (.iastore, 1)) (hN : k < N) (he : ce k = .inl (cx_a X 0, n, .inl f)) (hx : x = nI i) (hi : i < n) (hn : n ≤ 100000) (kt : GoC X d mc ms M (pc + 1) lc st cn sn (ceU ce k (.inl (cx_a X 0, n, .inl (upd f i v)))) N Q) : GoC X d mc ms M pc lc (.int v :: .int x :: .ref (cx_n X + k) :: st) cn sn ce N Q := by
  intro p e s m args below meth c H locs ls F hS hH hl
  have hat := hH.2 k hN
  rw [he] at hat
  obtain ⟨h1, h2⟩ := ix_in hx hi hn
  refine W.iast F.2.1 F.2.2.1 hat ((cx_arr F.K (t := 0) (by decide)).1 n (fun j => .int (f j))) (fun q => by cases q) (by show ¬ (x < 0 ∨ (arrV _ _ _).slots.size ≤ _); rw [arrV_size]; exact h1) rfl rfl hd fun H1 e1 z oq => ?_
  rw [h2] at e1
  have hcell : va_at (cx_D X) vwCl (cx_n X + k, .inl (cx_a X 0, n, .inl (upd f i v))) H1 := by
    show H1[cx_n X + k]? = some (vp_cell _ _)
    rw [e1]
    rw [vp_cell_i, vp_cell_i, arrV_store]
    congr 2
    funext q
    by_cases hq : q = i
    · subst hq
      simp [updV, upd]
    · simp [updV, upd, hq]
  exact kt p e s m args below meth c H1 _ ls F (hS.put z oq (Nat.le_add_right _ _)) (hH.set hcell z oq) hl
theorem gc_bast {x v : Int32} {k n : Nat} {f : Nat → Int32} (i : Nat) (hd : decode M.2.1 pc = .ok (.bastore, 1)) (hN : k < N) (he : ce k = .inl (cx_a X 1, n, .inl f)) (hx : x = nI i) (hi : i < n) (hn : n ≤ 100000) (hnr : narrow .byte (.int v) = .int v) (kt : GoC X d mc ms M (pc + 1) lc st cn sn (ceU ce k (.inl (cx_a X 1, n, .inl (upd f i v)))) N Q) : GoC X d mc ms M pc lc (.int v :: .int x :: .ref (cx_n X + k) :: st) cn sn ce N Q := by
  intro p e s m args below meth c H locs ls F hS hH hl
  have hat := hH.2 k hN
  rw [he] at hat
  obtain ⟨h1, h2⟩ := ix_in hx hi hn
  refine W.bast F.2.1 F.2.2.1 hat ((cx_arr F.K (t := 1) (by decide)).1 n (fun j => .int (f j))) (fun q => by cases q) (by show ¬ (x < 0 ∨ (arrV _ _ _).slots.size ≤ _); rw [arrV_size]; exact h1) rfl rfl hd fun H1 e1 z oq => ?_
  rw [hnr] at e1
  rw [h2] at e1
  have hcell : va_at (cx_D X) vwCl (cx_n X + k, .inl (cx_a X 1, n, .inl (upd f i v))) H1 := by
    show H1[cx_n X + k]? = some (vp_cell _ _)
    rw [e1]
    rw [vp_cell_i, vp_cell_i, arrV_store]
    congr 2
    funext q
    by_cases hq : q = i
    · subst hq
      simp [updV, upd]
    · simp [updV, upd, hq]
  exact kt p e s m args below meth c H1 _ ls F (hS.put z oq (Nat.le_add_right _ _)) (hH.set hcell z oq) hl
theorem gc_cast {x v : Int32} {k n : Nat} {f : Nat → Int32} (i : Nat) (hd : decode M.2.1 pc = .ok (.castore, 1)) (hN : k < N) (he : ce k = .inl (cx_a X 2, n, .inl f)) (hx : x = nI i) (hi : i < n) (hn : n ≤ 100000) (hnr : narrow .char (.int v) = .int v) (kt : GoC X d mc ms M (pc + 1) lc st cn sn (ceU ce k (.inl (cx_a X 2, n, .inl (upd f i v)))) N Q) : GoC X d mc ms M pc lc (.int v :: .int x :: .ref (cx_n X + k) :: st) cn sn ce N Q := by
  intro p e s m args below meth c H locs ls F hS hH hl
  have hat := hH.2 k hN
  rw [he] at hat
  obtain ⟨h1, h2⟩ := ix_in hx hi hn
  refine W.cast F.2.1 F.2.2.1 hat ((cx_arr F.K (t := 2) (by decide)).1 n (fun j => .int (f j))) (fun q => by cases q) (by show ¬ (x < 0 ∨ (arrV _ _ _).slots.size ≤ _); rw [arrV_size]; exact h1) rfl rfl hd fun H1 e1 z oq => ?_
  rw [hnr] at e1
  rw [h2] at e1
  have hcell : va_at (cx_D X) vwCl (cx_n X + k, .inl (cx_a X 2, n, .inl (upd f i v))) H1 := by
    show H1[cx_n X + k]? = some (vp_cell _ _)
    rw [e1]
    rw [vp_cell_i, vp_cell_i, arrV_store]
    congr 2
    funext q
    by_cases hq : q = i
    · subst hq
      simp [updV, upd]
    · simp [updV, upd, hq]
  exact kt p e s m args below meth c H1 _ ls F (hS.put z oq (Nat.le_add_right _ _)) (hH.set hcell z oq) hl
theorem gc_zast {x v : Int32} {k n : Nat} {f : Nat → Int32} (i : Nat) (hd : decode M.2.1 pc = .ok (.bastore, 1)) (hN : k < N) (he : ce k = .inl (cx_a X 3, n, .inl f)) (hx : x = nI i) (hi : i < n) (hn : n ≤ 100000) (hnr : narrow .boolean (.int v) = .int v) (kt : GoC X d mc ms M (pc + 1) lc st cn sn (ceU ce k (.inl (cx_a X 3, n, .inl (upd f i v)))) N Q) : GoC X d mc ms M pc lc (.int v :: .int x :: .ref (cx_n X + k) :: st) cn sn ce N Q := by
  intro p e s m args below meth c H locs ls F hS hH hl
  have hat := hH.2 k hN
  rw [he] at hat
  obtain ⟨h1, h2⟩ := ix_in hx hi hn
  refine W.zast F.2.1 F.2.2.1 hat ((cx_arr F.K (t := 3) (by decide)).1 n (fun j => .int (f j))) (fun q => by cases q) (by show ¬ (x < 0 ∨ (arrV _ _ _).slots.size ≤ _); rw [arrV_size]; exact h1) rfl rfl hd fun H1 e1 z oq => ?_
  rw [hnr] at e1
  rw [h2] at e1
  have hcell : va_at (cx_D X) vwCl (cx_n X + k, .inl (cx_a X 3, n, .inl (upd f i v))) H1 := by
    show H1[cx_n X + k]? = some (vp_cell _ _)
    rw [e1]
    rw [vp_cell_i, vp_cell_i, arrV_store]
    congr 2
    funext q
    by_cases hq : q = i
    · subst hq
      simp [updV, upd]
    · simp [updV, upd, hq]
  exact kt p e s m args below meth c H1 _ ls F (hS.put z oq (Nat.le_add_right _ _)) (hH.set hcell z oq) hl
theorem gc_alen {k t n : Nat} {f : Nat → Int32} (ht : t < 4) (hd : decode M.2.1 pc = .ok (.arraylength, 1)) (hN : k < N) (he : ce k = .inl (cx_a X t, n, .inl f)) (kt : GoC X d mc ms M (pc + 1) lc (.int (nI n) :: st) cn sn ce N Q) : GoC X d mc ms M pc lc (.ref (cx_n X + k) :: st) cn sn ce N Q := by
  intro p e s m args below meth c H locs ls F hS hH hl
  have kk := kt p e s m args below meth c H locs ls F hS hH hl
  have hat := hH.2 k hN
  rw [he] at hat
  exact W.alen (n := nI n) F.2.1 F.2.2.1 hat ((cx_arr F.K (t := t) (by omega)).1 n (fun j => .int (f j))) (by rw [vp_cell_i, arrV_size] <;> rfl) rfl rfl hd kk
theorem gc_aald {x : Int32} {k n t : Nat} {f : Nat → Option Nat} {C : String} (i : Nat) (ht : t < 8) (hty : cx_ty t = .object C) (hd : decode M.2.1 pc = .ok (.aaload, 1)) (hN : k < N) (he : ce k = .inl (cx_a X t, n, .inr (.inr (.inr (.inr f))))) (hx : x = nI i) (hi : i < n) (hn : n ≤ 100000) (kt : GoC X d mc ms M (pc + 1) lc (va_rf (f i) :: st) cn sn ce N Q) : GoC X d mc ms M pc lc (.int x :: .ref (cx_n X + k) :: st) cn sn ce N Q := by
  intro p e s m args below meth c H locs ls F hS hH hl
  have kk := kt p e s m args below meth c H locs ls F hS hH hl
  have hat := hH.2 k hN
  rw [he] at hat
  obtain ⟨h1, h2⟩ := ix_in hx hi hn
  have hA := (cx_arr F.K (t := t) ht).1
  rw [hty] at hA
  exact W.aald (v := va_rf (f i)) (ty := .object C) F.2.1 F.2.2.1 hat (hA n (fun j => va_rf (f j))) rfl (fun q => by cases q) (by show ¬ (x < 0 ∨ (arrV _ _ _).slots.size ≤ _); rw [arrV_size]; exact h1) (by show (arrV _ _ _).slots[_]? = _; rw [h2, arrV_read _ _ hi]) rfl rfl hd kk
/-- a reference to the object k2 of the row's own class is stored -/
theorem gc_aast {x : Int32} {k k2 n t ci : Nat} {f : Nat → Option Nat} {r : vw_C} {vs : List Value} (i : Nat) (ht : t < 8) (hty : cx_ty t = .object r.1) (hd : decode M.2.1 pc = .ok (.aastore, 1)) (hN : k < N) (he : ce k = .inl (cx_a X t, n, .inr (.inr (.inr (.inr f))))) (hN2 : k2 < N) (he2 : ce k2 = .inr (ci, vs)) (hc : vwCl[ci]? = some r) (hx : x = nI i) (hi : i < n) (hn : n ≤ 100000) (kt : GoC X d mc ms M (pc + 1) lc st cn sn (ceU ce k (.inl (cx_a X t, n, .inr (.inr (.inr (.inr (va_up f i (some (cx_n X + k2))))))))) N Q) : GoC X d mc ms M pc lc (.ref (cx_n X + k2) :: .int x :: .ref (cx_n X + k) :: st) cn sn ce N Q := by
  intro p e s m args below meth c H locs ls F hS hH hl
  have hat := hH.2 k hN
  rw [he] at hat
  have hat2 := hH.2 k2 hN2
  rw [he2] at hat2
  obtain ⟨h1, h2⟩ := ix_in hx hi hn
  have hK := F.K
  obtain ⟨r', hr', cellV, g1, g2, g3, -⟩ := hat2
  have hcls := (hK.1 ci r hc).2
  have hA := (cx_arr hK (t := t) ht).2
  rw [hty] at hA
  obtain ⟨kA, comp, k1, k2', k3, -⟩ := hA
  have hcomp : comp = (cx_D X).1 ci := Option.some.inj (k3.symm.trans hcls.1)
  subst hcomp
  obtain ⟨kC, hkC, -⟩ := hcls.2
  refine W.aast F.2.1 F.2.2.1 hat (fun q h => by cases h) (fun h => by cases h) k1 k2' rfl hkC ⟨fun h => h1 (Or.inl h), by show _ < (arrV _ _ _).slots.size; rw [arrV_size, h2]; exact hi⟩ g1 (fun q h => by rw [g3] at h; cases h) (by rw [g2]; exact hkC) (by rw [g2]; exact va_assign hcls) rfl rfl hd fun H1 e1 z oq => ?_
  rw [h2] at e1
  have hcell : va_at (cx_D X) vwCl (cx_n X + k, .inl (cx_a X t, n, .inr (.inr (.inr (.inr (va_up f i (some (cx_n X + k2)))))))) H1 := by
    show H1[cx_n X + k]? = some (vp_cell _ _)
    rw [e1]
    rw [vp_cell_q, vp_cell_q, arrV_store]
    congr 2
    funext q
    by_cases hq : q = i
    · subst hq
      simp [updV, va_up, va_rf]
    · simp [updV, va_up, hq]
  exact kt p e s m args below meth c H1 _ ls F (hS.put z oq (Nat.le_add_right _ _)) (hH.set hcell z oq) hl
/-- a static row is named -/
theorem gc_gets {index : Nat} (i : Nat) (hi : i < 5) (hd : decode M.2.1 pc = .ok (.getstatic index, 3)) (hlk : Cond.fieldLink M.1.cls index (st_C i) (st_N i) "[I" ∈ lw_tbl ∨ ∃ h : String, Cond.fieldLinkNest M.1.cls index (st_C i) (st_N i) "[I" h ∈ lw_tbl) (kt : GoC X d mc ms M (pc + 3) lc (.ref (cx_k X i) :: st) cn sn ce N Q) : GoC X d mc ms M pc lc st cn sn ce N Q := by
  intro p e s m args below meth c H locs ls F hS hH hl
  have kk := kt p e s m args below meth c H locs ls F hS hH hl
  have hW := F.2.2.2.2.2.2.2.1
  have hB := F.2.2.2.2.2.2.2.2.1
  have hZ : va_Z (st_C i) (st_N i) "[I" (.ref (cx_k X i)) (cx_A X) s s.heap := va_Z.moved hW.alike ((F.1.2.2.1 i hi).1.kept hB.2.1)
  rcases hlk with hlk | ⟨h, hlk⟩
  · exact va_gets F.2.1 F.2.2.1 hZ hS F.2.2.2.2.2.2.1 (cx_w F.1 hW hlk rfl) (fun _ h => h) hd kk
  · exact va_getsN F.2.1 F.2.2.1 hZ hS F.2.2.2.2.2.2.1 (cx_nf F.1 hW hlk) (fun _ h => h) hd kk
/-- a place of a static row is read -/
theorem gc_sald {x : Int32} (i j : Nat) (hi : i < 5) (hd : decode M.2.1 pc = .ok (.iaload, 1)) (hx : x = nI j) (hj : j < st_L i) (kt : GoC X d mc ms M (pc + 1) lc (.int ((st_F i).getD j 0) :: st) cn sn ce N Q) : GoC X d mc ms M pc lc (.int x :: .ref (cx_k X i) :: st) cn sn ce N Q := by
  intro p e s m args below meth c H locs ls F hS hH hl
  have kk := kt p e s m args below meth c H locs ls F hS hH hl
  have hW := F.2.2.2.2.2.2.2.1
  have hB := F.2.2.2.2.2.2.2.2.1
  obtain ⟨-, hX, hlt⟩ := F.1.2.2.1 i hi
  have hlt2 : cx_k X i < s.heap.size := Nat.lt_of_lt_of_le hlt hB.1
  have hX2 : va_X (cx_k X i) (st_L i) (fun j => (st_F i).getD j 0) s s.heap := va_X.moved hW.alike (hX.kept (hB.2.1 _ hlt (Nat.not_le.mpr hlt)))
  have hb : st_L i ≤ 9 := by unfold st_L; split <;> omega
  obtain ⟨h1, h2⟩ := ix_in hx hj (by omega)
  have kk2 : W p (cx_l X) e (rmX d mc ms) s m args below meth c H locs cn sn (MQ below (QcX X Q) args s mc ms (cx_A X)) (F0 m (pc + 1) ls (.int ((fun j => (st_F i).getD j 0) x.toNatClampNeg) :: st)) := by rw [h2]; exact kk
  exact va_sld F.2.1 F.2.2.1 hX2 hlt2 (Nat.not_le.mpr hlt) hS h1 hd kk2
-- ends
theorem gc_iret {v : Int32} (hd : decode M.2.1 pc = .ok (.ireturn, 1)) (hr : M.2.2.2 = some .int) (h1 : cn ≤ mc) (h2 : sn ≤ ms) (hq : Q (some (.int v)) ce N) : GoC X d mc ms M pc lc [.int v] cn sn ce N Q := by
  intro p e s m args below meth c H locs ls F hS hH hl
  have hlocks := F.2.2.2.2.1
  exact W.widen h1 h2 (W.iret F.2.1 F.2.2.1 (F.2.2.2.1.trans hr) (fun t ht hW => ⟨⟨_, ce, N, rfl, hq, by rw [ht]; exact hH⟩, hS.F ht⟩) hS.2.2 hd hlocks)
theorem gc_zret {v : Int32} {ty : FieldType} (hd : decode M.2.1 pc = .ok (.ireturn, 1)) (hr : M.2.2.2 = some ty) (hn : narrow ty (.int v) = .int v) (h1 : cn ≤ mc) (h2 : sn ≤ ms) (hq : Q (some (.int v)) ce N) : GoC X d mc ms M pc lc [.int v] cn sn ce N Q := by
  intro p e s m args below meth c H locs ls F hS hH hl
  have hlocks := F.2.2.2.2.1
  exact W.widen h1 h2 (W.zret F.2.1 F.2.2.1 (F.2.2.2.1.trans hr) hn (fun t ht hW => ⟨⟨_, ce, N, rfl, hq, by rw [ht]; exact hH⟩, hS.F ht⟩) hS.2.2 hd hlocks)
theorem gc_vret (hd : decode M.2.1 pc = .ok (.return_, 1)) (hr : M.2.2.2 = none) (h1 : cn ≤ mc) (h2 : sn ≤ ms) (hq : Q none ce N) : GoC X d mc ms M pc lc [] cn sn ce N Q := by
  intro p e s m args below meth c H locs ls F hS hH hl
  have hlocks := F.2.2.2.2.1
  exact W.widen h1 h2 (W.vret F.2.1 F.2.2.1 (F.2.2.2.1.trans hr) (fun t ht hW => ⟨⟨_, ce, N, rfl, hq, by rw [ht]; exact hH⟩, hS.F ht⟩) hS.2.2 hd hlocks)
theorem gc_aret {v : Value} {rt : FieldType} (hd : decode M.2.1 pc = .ok (.areturn, 1)) (hr : M.2.2.2 = some rt) (hrt : (∃ n, rt = .object n) ∨ ∃ t, rt = .array t) (hv : v = .null ∨ ∃ a, v = .ref a) (h1 : cn ≤ mc) (h2 : sn ≤ ms) (hq : Q (some v) ce N) : GoC X d mc ms M pc lc [v] cn sn ce N Q := by
  intro p e s m args below meth c H locs ls F hS hH hl
  have hlocks := F.2.2.2.2.1
  exact W.widen h1 h2 (W.aret F.2.1 F.2.2.1 (F.2.2.2.1.trans hr) hrt hv (fun t ht hW => ⟨⟨_, ce, N, rfl, hq, by rw [ht]; exact hH⟩, hS.F ht⟩) hS.2.2 hd hlocks)
-- calls
theorem PcX.blind {av : List Value} : FrameBlind (PcX X av ce N) := fun a U g mk q => q
theorem PcX.pre {s : State} {H : Heap} {locs : List Loc} {av : List Value} (hW0 : (cx_s X).WarmedH s.vm) (hB : va_S (cx_A X) (cx_s X).heap s.heap []) (hS : va_S (cx_A X) s.heap H locs) (hH : HRc X ce N H) : ∀ U : State, U.heap = H → s.WarmedH U.vm → PcX X av ce N av.toArray U := by
  intro U hU hW
  refine ⟨rfl, State.WarmedH.trans hW0 hW, ?_, by rw [hU]; exact hH⟩
  rw [hU]
  exact ⟨Nat.le_trans hB.1 hS.1, fun q h1 h2 => (hS.2.1 q (Nat.lt_of_lt_of_le h1 hB.1) h2).trans (hB.2.1 q h1 h2), fun _ h => by cases h⟩
theorem gc_run {p : Program} {e : Env} {s : State} {m : MethodId} {args a : Array Value} {below : List Frame} {meth : Method} {c : Code} {H : Heap} {locs : List Loc} {ls : Array Slot} {mc' ms' : Nat} {rest : List Value} {Q' : Option Value → (Nat → va_E) → Nat → Prop} (F : FX X M p s m meth c) (hS : va_S (cx_A X) s.heap H locs) (hl : lh ls M.2.2.1 lc)
    (hr : va_Run p (cx_l X) e (rmX d mc ms) s m args below meth c H locs cn sn mc' ms' (F0 m pc ls st) rest (QcX X Q' a) (cx_A X))
    (kt : ∀ (r : Option Value) (ce' : Nat → va_E) (N' : Nat), Q' r ce' N' → GoC X d mc ms M (pc + 3) lc (r.toList ++ rest) (cn + mc') (sn + ms') ce' N' Q) :
    W p (cx_l X) e (rmX d mc ms) s m args below meth c H locs cn sn (MQ below (QcX X Q) args s mc ms (cx_A X)) (F0 m pc ls st) := by
  intro T hT Y
  obtain ⟨v, st₀, t, T', L, h0, Y', hL, e1, e2, ⟨⟨r, ce', N', hv, hq, hH'⟩, hz, hk⟩, stp⟩ := hr T hT Y
  cases hv
  rw [h0] at hz hk
  have kk := kt v ce' N' hq p e s m args below meth c T'.heap (locs ++ L) ls F
    ⟨Nat.le_trans hS.1 (by rw [e1]; exact hz), fun q h1 h2 => by rw [e1, hk q (Nat.lt_of_lt_of_le h1 hS.1) h2]; exact hS.2.1 q h1 h2, fun q hq => by
      rcases List.mem_append.mp hq with h | h
      · exact hS.2.2 q h
      · exact hL q h⟩ (by rw [e1]; exact hH') hl
  obtain ⟨t2, a1, b1⟩ := kk T' rfl Y'
  exact ⟨t2, stp t2 a1, b1⟩
theorem OkM.cb {y : MT} {n : Nat} (h : OkM y n) {s : State} {args : Array Value} {own : String} {index d' mc' ms' : Nat} (ok : cx_ok X) (hW : (cx_s X).WarmedH s.vm) (hl : Cond.methodLink own index y.1 ∈ lw_tbl) (hd : d' + 1 ≤ d) : CallB (rmX d mc ms) s args own index y.1 y.2.1 y.2.2.1 y.2.2.2 [Cond.code y.1 y.2.1 y.2.2.1 y.2.2.2] (rmX d' mc' ms') mc' ms' n := by
  obtain ⟨h1, h2, h3, h4, h5, h6⟩ := h
  refine ⟨rfl, rfl, hd, ?_, fun w hw a' U hU => ?_, List.mem_singleton.mpr rfl, cx_w ok hW h1 rfl, cx_w ok hW h2 rfl, ⟨h3, h4⟩, fun sig hs => ?_, cx_w ok hW hl rfl⟩
  · show 8 + (y.2.2.1 + 11) + (41 * d' + 32) ≤ 41 * d + 32
    omega
  · rw [List.mem_singleton.mp hw]
    exact cx_w ok (State.WarmedH.trans hW hU) h1 rfl
  · rw [hs] at h5
    exact (Option.some.inj h5).symm
theorem OkM.nest {y : MT} {n : Nat} (h : OkM y n) {s : State} {args : Array Value} {own host : String} {index d' mc' ms' : Nat} (ok : cx_ok X) (hW : (cx_s X).WarmedH s.vm) (hl : Cond.methodLinkNest own index y.1 host ∈ lw_tbl) (hd : d' + 1 ≤ d) : va_CN (rmX d mc ms) s args own index y.1 host y.2.1 y.2.2.1 y.2.2.2 [Cond.code y.1 y.2.1 y.2.2.1 y.2.2.2] (rmX d' mc' ms') mc' ms' n := by
  obtain ⟨h1, h2, h3, h4, h5, h6⟩ := h
  refine ⟨⟨rfl, rfl, hd, ?_, fun w hw a' U hU => ?_, List.mem_singleton.mpr rfl⟩, cx_w ok hW h1 rfl, cx_w ok hW h2 rfl, ⟨h3, h4⟩, fun sig hs => ?_, va_Nw.use rfl (cx_nm ok hW hl)⟩
  · show 8 + (y.2.2.1 + 11) + (41 * d' + 32) ≤ 41 * d + 32
    omega
  · rw [List.mem_singleton.mp hw]
    exact cx_w ok (State.WarmedH.trans hW hU) h1 rfl
  · rw [hs] at h5
    exact (Option.some.inj h5).symm
theorem gc_callS {index d' mc' ms' : Nat} {y : MT} {As rest : List Value} {Q' : Option Value → (Nat → va_E) → Nat → Prop} (hd : decode M.2.1 pc = .ok (.invokestatic index, 3)) (hlk : LkM M.1.cls index y.1) (hok : OkS y As.length) (hdd : d' + 1 ≤ d) (hm : cn + mc' ≤ mc) (hs : sn + ms' ≤ ms) (hst : st = As.reverse ++ rest) (hcat : (rest.map fun v => v.category).sum ≤ 8) (hc : CallsC X d' mc' ms' y As ce N Q')
    (kt : ∀ (r : Option Value) (ce' : Nat → va_E) (N' : Nat), Q' r ce' N' → GoC X d mc ms M (pc + 3) lc (r.toList ++ rest) (cn + mc') (sn + ms') ce' N' Q) : GoC X d mc ms M pc lc st cn sn ce N Q := by
  intro p e s m args below meth c H locs ls F hS hH hl
  have hW := F.2.2.2.2.2.2.2.1
  have hfix : CallFix p m c M.2.1 M.2.2.1 s args [] M.1.cls := ⟨F.2.1, F.2.2.1, F.2.2.2.2.2.1, F.2.2.2.2.2.2.1, fun w h => by cases h⟩
  have hpre : PreS s H (PcX X As ce N) As := ⟨PcX.blind, PcX.pre hW F.2.2.2.2.2.2.2.2.1 hS hH⟩
  rcases hlk with hlk | ⟨h, hlk⟩
  · exact gc_run F hS hl (va_runS hfix (hc F.1) ⟨hok.1.cb F.1 hW hlk hdd, cx_w F.1 hW hok.2 rfl⟩ hpre rfl rfl hl.1 hst (lv_room (ls := ls) (m := m) (pc := pc) (rest := st) hcat) hd ⟨hm, hs⟩) kt
  · exact gc_run F hS hl (va_runSN hfix (hc F.1) ⟨hok.1.nest F.1 hW hlk hdd, cx_w F.1 hW hok.2 rfl, trivial⟩ hpre rfl rfl hl.1 hst (lv_room (ls := ls) (m := m) (pc := pc) (rest := st) hcat) hd ⟨hm, hs⟩) kt
theorem gc_callV {index d' mc' ms' k ci : Nat} {y : MT} {As rest : List Value} {r0 : vw_C} {fs : List Value} {Q' : Option Value → (Nat → va_E) → Nat → Prop} (hd : decode M.2.1 pc = .ok (.invokevirtual index, 3)) (hlk : LkM M.1.cls index y.1) (hok : OkV y As.length) (hdd : d' + 1 ≤ d) (hm : cn + mc' ≤ mc) (hs : sn + ms' ≤ ms) (hN : k < N) (he : ce k = .inr (ci, fs)) (hcl : vwCl[ci]? = some r0) (hr0 : r0.1 = y.1.cls) (hst : st = As.reverse ++ .ref (cx_n X + k) :: rest) (hcat : (rest.map fun v => v.category).sum ≤ 8) (hc : CallsC X d' mc' ms' y (.ref (cx_n X + k) :: As) ce N Q')
    (kt : ∀ (r : Option Value) (ce' : Nat → va_E) (N' : Nat), Q' r ce' N' → GoC X d mc ms M (pc + 3) lc (r.toList ++ rest) (cn + mc') (sn + ms') ce' N' Q) : GoC X d mc ms M pc lc st cn sn ce N Q := by
  intro p e s m args below meth c H locs ls F hS hH hl
  have hW := F.2.2.2.2.2.2.2.1
  have hfix : CallFix p m c M.2.1 M.2.2.1 s args [] M.1.cls := ⟨F.2.1, F.2.2.1, F.2.2.2.2.2.1, F.2.2.2.2.2.2.1, fun w h => by cases h⟩
  have hat := hH.2 k hN
  rw [he] at hat
  obtain ⟨q', h1, cell, g1, g2, g3, -⟩ := hat
  have hpre : PreV s H y.1.cls (cx_n X + k) (PcX X (.ref (cx_n X + k) :: As) ce N) As := ⟨PcX.blind, ⟨cell, g1, by rw [g3]; rfl, by rw [g2, ← hr0]; exact (F.K.1 ci r0 hcl).2.1⟩, PcX.pre hW F.2.2.2.2.2.2.2.2.1 hS hH⟩
  rcases hlk with hlk | ⟨h, hlk⟩
  · exact gc_run F hS hl (va_runV hfix (hc F.1) ⟨hok.1.cb F.1 hW hlk hdd, cx_w F.1 hW hok.2.1 rfl, cx_w F.1 hW hok.2.2 rfl⟩ hpre rfl rfl hl.1 hst (lv_room (ls := ls) (m := m) (pc := pc) (rest := st) hcat) hd ⟨hm, hs⟩) kt
  · exact gc_run F hS hl (va_runVN hfix (hc F.1) ⟨hok.1.nest F.1 hW hlk hdd, cx_w F.1 hW hok.2.1 rfl, cx_w F.1 hW hok.2.2 rfl⟩ hpre rfl rfl hl.1 hst (lv_room (ls := ls) (m := m) (pc := pc) (rest := st) hcat) hd ⟨hm, hs⟩) kt
theorem gc_callI {index d' mc' ms' a : Nat} {y : MT} {As rest : List Value} {Q' : Option Value → (Nat → va_E) → Nat → Prop} (hd : decode M.2.1 pc = .ok (.invokespecial index, 3)) (hlk : LkM M.1.cls index y.1) (hok : OkI y As.length) (hdd : d' + 1 ≤ d) (hm : cn + mc' ≤ mc) (hs : sn + ms' ≤ ms) (hst : st = As.reverse ++ .ref a :: rest) (hcat : (rest.map fun v => v.category).sum ≤ 8) (hc : CallsC X d' mc' ms' y (.ref a :: As) ce N Q')
    (kt : ∀ (r : Option Value) (ce' : Nat → va_E) (N' : Nat), Q' r ce' N' → GoC X d mc ms M (pc + 3) lc (r.toList ++ rest) (cn + mc') (sn + ms') ce' N' Q) : GoC X d mc ms M pc lc st cn sn ce N Q := by
  intro p e s m args below meth c H locs ls F hS hH hl
  have hW := F.2.2.2.2.2.2.2.1
  have hfix : CallFix p m c M.2.1 M.2.2.1 s args [] M.1.cls := ⟨F.2.1, F.2.2.1, F.2.2.2.2.2.1, F.2.2.2.2.2.2.1, fun w h => by cases h⟩
  have hpre : PreS s H (PcX X (.ref a :: As) ce N) (.ref a :: As) := ⟨PcX.blind, PcX.pre hW F.2.2.2.2.2.2.2.2.1 hS hH⟩
  obtain ⟨y1, y2, y3, y4⟩ := y
  obtain ⟨hokm, hin, hnm, hret⟩ := hok
  cases hret
  rcases hlk with hlk | ⟨h, hlk⟩
  · exact gc_run F hS hl (va_runI hfix (hc F.1) ⟨hokm.cb F.1 hW hlk hdd, hnm, cx_w F.1 hW hin rfl⟩ hpre rfl rfl hl.1 hst (lv_room (ls := ls) (m := m) (pc := pc) (rest := st) hcat) hd ⟨hm, hs⟩) kt
  · exact gc_run F hS hl (va_runIN hfix (hc F.1) ⟨hokm.nest F.1 hW hlk hdd, hnm, cx_w F.1 hW hin rfl⟩ hpre rfl rfl hl.1 hst (lv_room (ls := ls) (m := m) (pc := pc) (rest := st) hcat) hd ⟨hm, hs⟩) kt
end GH
