/-! THE HEAP OF A RUN: 106 cells made by the two constructors, then three cells a text. Their numbers lie in one function mem: mem k j is field j, or place j, of cell k. -/
abbrev Mm : Type := Nat → Nat → Int32
def kdL : List (Nat × Nat × Nat) := [(0, 8, 0), (0, 0, 0), (2, 4, 9), (3, 5, 14), (1, 0, 3), (0, 1, 0), (0, 1, 0), (0, 1, 0), (0, 1, 0), (0, 1, 0), (0, 1, 0), (0, 1, 0), (0, 1, 0), (0, 1, 0), (0, 0, 0), (2, 4, 9), (3, 5, 14), (1, 0, 3), (0, 1, 0), (0, 1, 0), (0, 1, 0), (0, 1, 0), (0, 1, 0), (0, 1, 0), (0, 1, 0), (0, 1, 0), (0, 1, 0), (0, 0, 0), (2, 4, 9), (3, 5, 14), (1, 0, 3), (0, 1, 0), (0, 1, 0), (0, 1, 0), (0, 1, 0), (0, 1, 0), (0, 1, 0), (0, 1, 0), (0, 1, 0), (0, 1, 0), (0, 2, 0), (1, 0, 720), (1, 0, 9), (1, 0, 512), (1, 0, 512), (0, 7, 0), (0, 5, 0), (1, 1, 96), (1, 0, 96), (1, 0, 96), (2, 6, 4), (2, 7, 5), (1, 0, 60), (1, 0, 9), (0, 3, 0), (1, 0, 24), (0, 3, 0), (1, 0, 24), (0, 3, 0), (1, 0, 24), (0, 3, 0), (1, 0, 24), (0, 4, 0), (0, 1, 0), (0, 3, 0), (1, 0, 24), (0, 4, 0), (0, 1, 0), (0, 3, 0), (1, 0, 24), (0, 4, 0), (0, 1, 0), (0, 3, 0), (1, 0, 24), (0, 4, 0), (0, 1, 0), (0, 3, 0), (1, 0, 24), (0, 4, 0), (0, 1, 0), (0, 3, 0), (1, 0, 24), (0, 9, 0), (1, 0, 1433), (1, 0, 1433), (1, 0, 1433), (1, 0, 512), (1, 0, 512), (1, 0, 9), (1, 0, 96), (1, 2, 12), (1, 0, 4), (1, 0, 96), (1, 0, 96), (1, 3, 10), (1, 0, 96), (1, 0, 4), (1, 0, 4), (1, 0, 4), (1, 0, 96), (1, 0, 5), (1, 0, 5), (1, 0, 5), (1, 0, 120), (1, 0, 24), (1, 0, 60)]
/-- the kind of a cell: (0, its class, 0); (1, type, length): numbers; (2, type, length): references that stay; (3, 5, 14): a row of texts; (4, 0, 0): numbers, as many as its place 1000 says -/
def kd (k : Nat) : Nat × Nat × Nat := if k < 106 then kdL.getD k (9, 0, 0) else if (k - 106) % 3 = 0 then (0, 6, 0) else (4, 0, 0)
/-- how many fields a class has -/
def nf : Nat → Nat := fun c => match c with
  | 0 => 10
  | 1 => 6
  | 2 => 11
  | 3 => 3
  | 4 => 4
  | 5 => 2
  | 6 => 4
  | 7 => 14
  | 8 => 12
  | 9 => 36
  | _ => 0
/-- what a field that is a reference names -/
def tg (c k j : Nat) : Option Nat := match c with
  | 0 => if j = 0 then some (k + 1) else if j = 7 then some (k + 2) else if j = 9 then some (k + 3) else none
  | 2 => if j < 4 then some (k + 1 + j) else none
  | 3 => if j = 2 then some (k + 1) else none
  | 4 => if j = 1 then some (k + 1) else if j = 2 then some (k + 2) else none
  | 5 => if j = 0 then some (k + 1) else none
  | 6 => if j = 2 then some (k + 1) else if j = 3 then some (k + 2) else none
  | 7 => if j = 0 then some 46 else if j = 10 then some (k + 3) else if j = 12 then some (k + 4) else none
  | 8 => [some 1, some 14, some 27, none, some 40, some 45, some 46, some 50, some 51, some 52, none, some 53].getD j none
  | 9 => [some 83, some 84, some 85, none, none, some 86, some 87, some 88, some 89, none, none, none, none, none, none, none, some 90, some 91, some 92, none, none, some 93, none, some 94, some 95, some 96, some 97, some 98, some 99, some 100, some 101, some 102, some 103, some 104, some 105, none].getD j none
  | _ => none
/-- the places of a row of references that stay -/
def rt (k i : Nat) : Nat := if k = 50 then 54 + 2 * i else if k = 51 then 62 + 4 * i else k + 3 + i
def fldV (X : CX) (row : Nat → Int32) (c k j : Nat) : Value := match tg c k j with
  | some a => .ref (cx_n X + a)
  | none => .int (row j)
def flds (X : CX) (row : Nat → Int32) (c k : Nat) : List Value := (List.range (nf c)).map (fldV X row c k)
/-- a text's place in a row: its number, below 0 where there is none -/
def txr (X : CX) (x : Int32) : Option Nat := if x < 0 then none else some (cx_n X + (106 + 3 * x.toNatClampNeg))
def cellR (X : CX) (row : Nat → Int32) (k : Nat) : va_E := match kd k with
  | (0, c, _) => .inr (c, flds X row c k)
  | (1, t, n) => .inl (cx_a X t, n, .inl row)
  | (2, t, n) => .inl (cx_a X t, n, .inr (.inr (.inr (.inr (fun i => some (cx_n X + rt k i))))))
  | (3, t, n) => .inl (cx_a X t, n, .inr (.inr (.inr (.inr (fun i => txr X (row i))))))
  | _ => .inl (cx_a X 0, (row 1000).toNatClampNeg, .inl row)
def cellAt (X : CX) (mem : Mm) (k : Nat) : va_E := cellR X (mem k) k
/-- how many texts there are; how many cells -/
def nTx (mem : Mm) : Nat := (mem 0 1000).toNatClampNeg
def sz (mem : Mm) : Nat := 106 + 3 * nTx mem
def mu (mem : Mm) (k j : Nat) (v : Int32) : Mm := fun a => if a = k then upd (mem a) j v else mem a
theorem mu_row_s (mem : Mm) (k j : Nat) (v : Int32) : mu mem k j v k = upd (mem k) j v := by simp [mu]
theorem mu_row_n (mem : Mm) {k q : Nat} (j : Nat) (v : Int32) (h : q ≠ k) : mu mem k j v q = mem q := by simp [mu, h]
theorem mu_s (mem : Mm) (k j : Nat) (v : Int32) : mu mem k j v k j = v := by simp [mu, upd]
theorem mu_j (mem : Mm) (k : Nat) {j i : Nat} (v : Int32) (h : i ≠ j) : mu mem k j v k i = mem k i := by simp [mu, upd, h]
theorem mu_k (mem : Mm) {k q : Nat} (j : Nat) (v : Int32) (h : q ≠ k) (i : Nat) : mu mem k j v q i = mem q i := by simp [mu, h]
theorem mu_if (mem : Mm) (k j : Nat) (v : Int32) (q i : Nat) : mu mem k j v q i = if q = k ∧ i = j then v else mem q i := by
  by_cases h : q = k
  · subst h
    by_cases h2 : i = j
    · subst h2; simp [mu, upd]
    · simp [mu, upd, h2]
  · simp [mu, h]
theorem mu_id (mem : Mm) (k j : Nat) : mu mem k j (mem k j) = mem := by
  funext q i
  rw [mu_if]
  split
  · rename_i h; rw [h.1, h.2]
  · rfl
theorem sz_mu (mem : Mm) (k : Nat) {j : Nat} (v : Int32) (hj : j < 1000) : sz (mu mem k j v) = sz mem := by
  have : mu mem k j v 0 1000 = mem 0 1000 := by rw [mu_if, if_neg (by omega)]
  simp only [sz, nTx, this]
theorem sz_lt {mem : Mm} {k : Nat} (h : k < 106) : k < sz mem := Nat.lt_of_lt_of_le h (Nat.le_add_right _ _)
theorem flds_get (X : CX) (row : Nat → Int32) (c k : Nat) {j : Nat} (hj : j < nf c) : (flds X row c k)[j]? = some (fldV X row c k j) := by
  simp [flds, hj]
theorem flds_len (X : CX) (row : Nat → Int32) (c k : Nat) : (flds X row c k).length = nf c := by simp [flds]
theorem flds_set (X : CX) (row : Nat → Int32) (c k : Nat) {j : Nat} (v : Int32) (ht : tg c k j = none) : (flds X row c k).set j (.int v) = flds X (upd row j v) c k := by
  refine List.ext_getElem? fun i => ?_
  by_cases hi : i < nf c
  · by_cases hij : j = i
    · subst hij
      rw [List.getElem?_set_self (by rw [flds_len]; exact hi), flds_get _ _ _ _ hi]
      simp [fldV, ht, upd]
    · rw [List.getElem?_set_ne hij, flds_get _ _ _ _ hi, flds_get _ _ _ _ hi]
      have : upd row j v i = row i := by simp [upd, Ne.symm hij]
      simp [fldV, this]
  · rw [List.getElem?_eq_none (by simp [flds]; omega), List.getElem?_eq_none (by simp [flds]; omega)]
theorem vw_nf {c : Nat} {C : String} {T : u_T} {N : Nat} (hc : vwCl[c]? = some (C, T, N)) : nf c = N := by
  match c, hc with
  | 0, hc => cases hc; rfl
  | 1, hc => cases hc; rfl
  | 2, hc => cases hc; rfl
  | 3, hc => cases hc; rfl
  | 4, hc => cases hc; rfl
  | 5, hc => cases hc; rfl
  | 6, hc => cases hc; rfl
  | 7, hc => cases hc; rfl
  | 8, hc => cases hc; rfl
  | 9, hc => cases hc; rfl
  | k + 10, hc => simp [vwCl] at hc
theorem cell_ob {X : CX} {mem : Mm} {k c z : Nat} (h : kd k = (0, c, z)) : cellAt X mem k = .inr (c, flds X (mem k) c k) := by simp [cellAt, cellR, h]
theorem cell_ar {X : CX} {mem : Mm} {k t n : Nat} (h : kd k = (1, t, n)) : cellAt X mem k = .inl (cx_a X t, n, .inl (mem k)) := by simp [cellAt, cellR, h]
theorem cell_rf {X : CX} {mem : Mm} {k t n : Nat} (h : kd k = (2, t, n)) : cellAt X mem k = .inl (cx_a X t, n, .inr (.inr (.inr (.inr (fun i => some (cx_n X + rt k i)))))) := by simp [cellAt, cellR, h]
theorem cell_tx {X : CX} {mem : Mm} {k t n : Nat} (h : kd k = (3, t, n)) : cellAt X mem k = .inl (cx_a X t, n, .inr (.inr (.inr (.inr (fun i => txr X (mem k i)))))) := by simp [cellAt, cellR, h]
theorem cell_dy {X : CX} {mem : Mm} {k a b : Nat} (h : kd k = (4, a, b)) : cellAt X mem k = .inl (cx_a X 0, (mem k 1000).toNatClampNeg, .inl (mem k)) := by simp [cellAt, cellR, h]
theorem cell_mu (X : CX) (mem : Mm) (k j : Nat) (v : Int32) : cellAt X (mu mem k j v) = ceU (cellAt X mem) k (cellR X (upd (mem k) j v) k) := by
  funext q
  by_cases h : q = k
  · subst h
    rw [ceU_s, cellAt, mu_row_s]
  · rw [ceU_n _ _ _ h, cellAt, mu_row_n _ _ _ h, cellAt]
/-- a contract, a walk, over mem -/
def qm (X : CX) (Qm : Option Value → Mm → Prop) : Option Value → (Nat → va_E) → Nat → Prop := fun r ce N => ∃ mem : Mm, ce = cellAt X mem ∧ N = sz mem ∧ Qm r mem
abbrev Calls (X : CX) (d mc ms : Nat) (M : MT) (av : List Value) (mem : Mm) (Qm : Option Value → Mm → Prop) : Prop := CallsC X d mc ms M av (cellAt X mem) (sz mem) (qm X Qm)
abbrev Go (X : CX) (d mc ms : Nat) (M : MT) (pc : Nat) (lc : List (Option Value)) (st : List Value) (cn sn : Nat) (mem : Mm) (Qm : Option Value → Mm → Prop) : Prop := GoC X d mc ms M pc lc st cn sn (cellAt X mem) (sz mem) (qm X Qm)
/-- fields: which place of a pool names which field of which class -/
def LkG (own : String) (index c j : Nat) : Prop := ∃ (C : String) (T : u_T) (Nf : Nat), vwCl[c]? = some (C, T, Nf) ∧ j < Nf ∧ LkF own index T j
def LkP (own : String) (index c j : Nat) (ty : FieldType) : Prop := ∃ (C : String) (T : u_T) (Nf : Nat), vwCl[c]? = some (C, T, Nf) ∧ j < Nf ∧ LkF own index T j ∧ (T j).2.2.2 = false ∧ parseFieldDescriptor (T j).2.2.1 = some ty
section GM
variable {X : CX} {d mc ms : Nat} {M : MT} {pc : Nat} {lc : List (Option Value)} {st : List Value} {cn sn : Nat} {mem : Mm} {Q : Option Value → (Nat → va_E) → Nat → Prop} {Qm : Option Value → Mm → Prop}
theorem go_getI {index k c z j : Nat} (hd : decode M.2.1 pc = .ok (.getfield index, 3)) (hf : LkG M.1.cls index c j) (hk : k < sz mem) (hkd : kd k = (0, c, z)) (ht : tg c k j = none) (kt : GoC X d mc ms M (pc + 3) lc (.int (mem k j) :: st) cn sn (cellAt X mem) (sz mem) Q) : GoC X d mc ms M pc lc (.ref (cx_n X + k) :: st) cn sn (cellAt X mem) (sz mem) Q := by
  obtain ⟨C, T, Nf, h1, h2, h3⟩ := hf
  refine gc_get hd h3 hk (cell_ob hkd) h1 h2 ?_ kt
  rw [flds_get _ _ _ _ (by rw [vw_nf h1]; exact h2)]
  simp [fldV, ht]
theorem go_getR {index k c z j a : Nat} (hd : decode M.2.1 pc = .ok (.getfield index, 3)) (hf : LkG M.1.cls index c j) (hk : k < sz mem) (hkd : kd k = (0, c, z)) (ht : tg c k j = some a) (kt : GoC X d mc ms M (pc + 3) lc (.ref (cx_n X + a) :: st) cn sn (cellAt X mem) (sz mem) Q) : GoC X d mc ms M pc lc (.ref (cx_n X + k) :: st) cn sn (cellAt X mem) (sz mem) Q := by
  obtain ⟨C, T, Nf, h1, h2, h3⟩ := hf
  refine gc_get hd h3 hk (cell_ob hkd) h1 h2 ?_ kt
  rw [flds_get _ _ _ _ (by rw [vw_nf h1]; exact h2)]
  simp [fldV, ht]
theorem go_putT {index k c z j : Nat} {v : Int32} {ty : FieldType} (hd : decode M.2.1 pc = .ok (.putfield index, 3)) (hf : LkP M.1.cls index c j ty) (hk : k < sz mem) (hkd : kd k = (0, c, z)) (ht : tg c k j = none) (hn : narrow ty (.int v) = .int v) (hfit : fits ty (.int v) = true) (kt : GoC X d mc ms M (pc + 3) lc st cn sn (cellAt X (mu mem k j v)) (sz (mu mem k j v)) Q) : GoC X d mc ms M pc lc (.int v :: .ref (cx_n X + k) :: st) cn sn (cellAt X mem) (sz mem) Q := by
  obtain ⟨C, T, Nf, h1, h2, h3, h4, h5⟩ := hf
  have hnf := vw_nf h1
  have hj : j < 1000 := by
    have : nf c ≤ 36 := by unfold nf; split <;> omega
    omega
  refine gc_put hd h3 hk (cell_ob hkd) h1 h2 h4 h5 hn hfit (by rw [flds_len]; omega) ?_
  rw [flds_set _ _ _ _ _ ht]
  rw [sz_mu _ _ _ hj, cell_mu] at kt
  have e : cellR X (upd (mem k) j v) k = .inr (c, flds X (upd (mem k) j v) c k) := by simp [cellR, hkd]
  rw [e] at kt
  exact kt
theorem go_putI {index k c z j : Nat} {v : Int32} (hd : decode M.2.1 pc = .ok (.putfield index, 3)) (hf : LkP M.1.cls index c j .int) (hk : k < sz mem) (hkd : kd k = (0, c, z)) (ht : tg c k j = none) (kt : GoC X d mc ms M (pc + 3) lc st cn sn (cellAt X (mu mem k j v)) (sz (mu mem k j v)) Q) : GoC X d mc ms M pc lc (.int v :: .ref (cx_n X + k) :: st) cn sn (cellAt X mem) (sz mem) Q := go_putT hd hf hk hkd ht rfl rfl kt
theorem go_putZ {index k c z j : Nat} {v : Int32} (hd : decode M.2.1 pc = .ok (.putfield index, 3)) (hf : LkP M.1.cls index c j .boolean) (hk : k < sz mem) (hkd : kd k = (0, c, z)) (ht : tg c k j = none) (hv : v = 0 ∨ v = 1) (kt : GoC X d mc ms M (pc + 3) lc st cn sn (cellAt X (mu mem k j v)) (sz (mu mem k j v)) Q) : GoC X d mc ms M pc lc (.int v :: .ref (cx_n X + k) :: st) cn sn (cellAt X mem) (sz mem) Q := go_putT hd hf hk hkd ht (by rcases hv with rfl | rfl <;> rfl) (by rcases hv with rfl | rfl <;> rfl) kt
theorem kd_len {k t n : Nat} (h : kd k = (1, t, n)) : n ≤ 1433 ∧ k < 106 := by
  by_cases hk : k < 106
  · have : ∀ k, k < 106 → (kd k).1 = 1 → (kd k).2.2 ≤ 1433 := by decide +kernel
    have := this k hk (by rw [h])
    rw [h] at this
    exact ⟨this, hk⟩
  · unfold kd at h
    rw [if_neg hk] at h
    split at h <;> cases h
theorem go_iald {x : Int32} {k n : Nat} (i : Nat) (hd : decode M.2.1 pc = .ok (.iaload, 1)) (hkd : kd k = (1, 0, n)) (hx : x = nI i) (hi : i < n) (kt : GoC X d mc ms M (pc + 1) lc (.int (mem k i) :: st) cn sn (cellAt X mem) (sz mem) Q) : GoC X d mc ms M pc lc (.int x :: .ref (cx_n X + k) :: st) cn sn (cellAt X mem) (sz mem) Q := gc_iald i hd (sz_lt (kd_len hkd).2) (cell_ar hkd) hx hi (by have := kd_len hkd; omega) kt
theorem go_cald {x : Int32} {k n : Nat} (i : Nat) (hd : decode M.2.1 pc = .ok (.caload, 1)) (hkd : kd k = (1, 2, n)) (hx : x = nI i) (hi : i < n) (kt : GoC X d mc ms M (pc + 1) lc (.int (mem k i) :: st) cn sn (cellAt X mem) (sz mem) Q) : GoC X d mc ms M pc lc (.int x :: .ref (cx_n X + k) :: st) cn sn (cellAt X mem) (sz mem) Q := gc_cald i hd (sz_lt (kd_len hkd).2) (cell_ar hkd) hx hi (by have := kd_len hkd; omega) kt
theorem go_zald {x : Int32} {k n : Nat} (i : Nat) (hd : decode M.2.1 pc = .ok (.baload, 1)) (hkd : kd k = (1, 3, n)) (hx : x = nI i) (hi : i < n) (kt : GoC X d mc ms M (pc + 1) lc (.int (mem k i) :: st) cn sn (cellAt X mem) (sz mem) Q) : GoC X d mc ms M pc lc (.int x :: .ref (cx_n X + k) :: st) cn sn (cellAt X mem) (sz mem) Q := gc_zald i hd (sz_lt (kd_len hkd).2) (cell_ar hkd) hx hi (by have := kd_len hkd; omega) kt
theorem go_bald {x : Int32} {k n : Nat} (i : Nat) (hd : decode M.2.1 pc = .ok (.baload, 1)) (hkd : kd k = (1, 1, n)) (hx : x = nI i) (hi : i < n) (kt : GoC X d mc ms M (pc + 1) lc (.int (mem k i) :: st) cn sn (cellAt X mem) (sz mem) Q) : GoC X d mc ms M pc lc (.int x :: .ref (cx_n X + k) :: st) cn sn (cellAt X mem) (sz mem) Q := gc_bald i hd (sz_lt (kd_len hkd).2) (cell_ar hkd) hx hi (by have := kd_len hkd; omega) kt
theorem go_iast {x v : Int32} {k n : Nat} (i : Nat) (hd : decode M.2.1 pc = .ok (.iastore, 1)) (hkd : kd k = (1, 0, n)) (hx : x = nI i) (hi : i < n) (hi9 : i < 1000 ∨ k ≠ 0) (kt : GoC X d mc ms M (pc + 1) lc st cn sn (cellAt X (mu mem k i v)) (sz (mu mem k i v)) Q) : GoC X d mc ms M pc lc (.int v :: .int x :: .ref (cx_n X + k) :: st) cn sn (cellAt X mem) (sz mem) Q := by
  refine gc_iast i hd (sz_lt (kd_len hkd).2) (cell_ar hkd) hx hi (by have := kd_len hkd; omega) ?_
  have hz : sz (mu mem k i v) = sz mem := by
    have : mu mem k i v 0 1000 = mem 0 1000 := by rw [mu_if, if_neg (by omega)]
    simp only [sz, nTx, this]
  rw [hz, cell_mu] at kt
  have e : cellR X (upd (mem k) i v) k = .inl (cx_a X 0, n, .inl (upd (mem k) i v)) := by simp [cellR, hkd]
  rw [e] at kt
  exact kt
theorem go_cast {x v : Int32} {k n : Nat} (i : Nat) (hd : decode M.2.1 pc = .ok (.castore, 1)) (hkd : kd k = (1, 2, n)) (hx : x = nI i) (hi : i < n) (hi9 : i < 1000 ∨ k ≠ 0) (hnr : narrow .char (.int v) = .int v) (kt : GoC X d mc ms M (pc + 1) lc st cn sn (cellAt X (mu mem k i v)) (sz (mu mem k i v)) Q) : GoC X d mc ms M pc lc (.int v :: .int x :: .ref (cx_n X + k) :: st) cn sn (cellAt X mem) (sz mem) Q := by
  refine gc_cast i hd (sz_lt (kd_len hkd).2) (cell_ar hkd) hx hi (by have := kd_len hkd; omega) hnr ?_
  have hz : sz (mu mem k i v) = sz mem := by
    have : mu mem k i v 0 1000 = mem 0 1000 := by rw [mu_if, if_neg (by omega)]
    simp only [sz, nTx, this]
  rw [hz, cell_mu] at kt
  have e : cellR X (upd (mem k) i v) k = .inl (cx_a X 2, n, .inl (upd (mem k) i v)) := by simp [cellR, hkd]
  rw [e] at kt
  exact kt
theorem go_zast {x v : Int32} {k n : Nat} (i : Nat) (hd : decode M.2.1 pc = .ok (.bastore, 1)) (hkd : kd k = (1, 3, n)) (hx : x = nI i) (hi : i < n) (hi9 : i < 1000 ∨ k ≠ 0) (hnr : narrow .boolean (.int v) = .int v) (kt : GoC X d mc ms M (pc + 1) lc st cn sn (cellAt X (mu mem k i v)) (sz (mu mem k i v)) Q) : GoC X d mc ms M pc lc (.int v :: .int x :: .ref (cx_n X + k) :: st) cn sn (cellAt X mem) (sz mem) Q := by
  refine gc_zast i hd (sz_lt (kd_len hkd).2) (cell_ar hkd) hx hi (by have := kd_len hkd; omega) hnr ?_
  have hz : sz (mu mem k i v) = sz mem := by
    have : mu mem k i v 0 1000 = mem 0 1000 := by rw [mu_if, if_neg (by omega)]
    simp only [sz, nTx, this]
  rw [hz, cell_mu] at kt
  have e : cellR X (upd (mem k) i v) k = .inl (cx_a X 3, n, .inl (upd (mem k) i v)) := by simp [cellR, hkd]
  rw [e] at kt
  exact kt
theorem go_bast {x v : Int32} {k n : Nat} (i : Nat) (hd : decode M.2.1 pc = .ok (.bastore, 1)) (hkd : kd k = (1, 1, n)) (hx : x = nI i) (hi : i < n) (hi9 : i < 1000 ∨ k ≠ 0) (hnr : narrow .byte (.int v) = .int v) (kt : GoC X d mc ms M (pc + 1) lc st cn sn (cellAt X (mu mem k i v)) (sz (mu mem k i v)) Q) : GoC X d mc ms M pc lc (.int v :: .int x :: .ref (cx_n X + k) :: st) cn sn (cellAt X mem) (sz mem) Q := by
  refine gc_bast i hd (sz_lt (kd_len hkd).2) (cell_ar hkd) hx hi (by have := kd_len hkd; omega) hnr ?_
  have hz : sz (mu mem k i v) = sz mem := by
    have : mu mem k i v 0 1000 = mem 0 1000 := by rw [mu_if, if_neg (by omega)]
    simp only [sz, nTx, this]
  rw [hz, cell_mu] at kt
  have e : cellR X (upd (mem k) i v) k = .inl (cx_a X 1, n, .inl (upd (mem k) i v)) := by simp [cellR, hkd]
  rw [e] at kt
  exact kt
/-- the places of a row that stays -/
theorem go_aald {x : Int32} {k n t : Nat} {C : String} (i : Nat) (ht : t < 8) (hty : cx_ty t = .object C) (hd : decode M.2.1 pc = .ok (.aaload, 1)) (hk : k < sz mem) (hkd : kd k = (2, t, n)) (hx : x = nI i) (hi : i < n) (hn : n ≤ 100) (kt : GoC X d mc ms M (pc + 1) lc (.ref (cx_n X + rt k i) :: st) cn sn (cellAt X mem) (sz mem) Q) : GoC X d mc ms M pc lc (.int x :: .ref (cx_n X + k) :: st) cn sn (cellAt X mem) (sz mem) Q := gc_aald (t := t) i ht hty hd hk (cell_rf hkd) hx hi (by omega) kt
/-- a text out of its row -/
theorem go_aaldT {x : Int32} {k n : Nat} (i : Nat) (hd : decode M.2.1 pc = .ok (.aaload, 1)) (hk : k < sz mem) (hkd : kd k = (3, 5, n)) (hx : x = nI i) (hi : i < n) (hn : n ≤ 100) (kt : GoC X d mc ms M (pc + 1) lc (va_rf (txr X (mem k i)) :: st) cn sn (cellAt X mem) (sz mem) Q) : GoC X d mc ms M pc lc (.int x :: .ref (cx_n X + k) :: st) cn sn (cellAt X mem) (sz mem) Q := gc_aald (t := 5) i (by decide) rfl hd hk (cell_tx hkd) hx hi (by omega) kt
-- ends
theorem go_iret {v : Int32} (hd : decode M.2.1 pc = .ok (.ireturn, 1)) (hr : M.2.2.2 = some .int) (h1 : cn ≤ mc) (h2 : sn ≤ ms) (hq : Qm (some (.int v)) mem) : GoC X d mc ms M pc lc [.int v] cn sn (cellAt X mem) (sz mem) (qm X Qm) := gc_iret hd hr h1 h2 ⟨mem, rfl, rfl, hq⟩
theorem go_zret {v : Int32} (hd : decode M.2.1 pc = .ok (.ireturn, 1)) (hr : M.2.2.2 = some .boolean) (hv : v = 0 ∨ v = 1) (h1 : cn ≤ mc) (h2 : sn ≤ ms) (hq : Qm (some (.int v)) mem) : GoC X d mc ms M pc lc [.int v] cn sn (cellAt X mem) (sz mem) (qm X Qm) := gc_zret hd hr (by rcases hv with rfl | rfl <;> rfl) h1 h2 ⟨mem, rfl, rfl, hq⟩
theorem go_vret (hd : decode M.2.1 pc = .ok (.return_, 1)) (hr : M.2.2.2 = none) (h1 : cn ≤ mc) (h2 : sn ≤ ms) (hq : Qm none mem) : GoC X d mc ms M pc lc [] cn sn (cellAt X mem) (sz mem) (qm X Qm) := gc_vret hd hr h1 h2 ⟨mem, rfl, rfl, hq⟩
-- calls
theorem go_callS {index d' mc' ms' : Nat} {y : MT} {As rest : List Value} {Qm' : Option Value → Mm → Prop} (hd : decode M.2.1 pc = .ok (.invokestatic index, 3)) (hlk : LkM M.1.cls index y.1) (hok : OkS y As.length) (hdd : d' + 1 ≤ d) (hm : cn + mc' ≤ mc) (hs : sn + ms' ≤ ms) (hst : st = As.reverse ++ rest) (hcat : (rest.map fun v => v.category).sum ≤ 8) (hc : Calls X d' mc' ms' y As mem Qm')
    (kt : ∀ (r : Option Value) (mem' : Mm), Qm' r mem' → GoC X d mc ms M (pc + 3) lc (r.toList ++ rest) (cn + mc') (sn + ms') (cellAt X mem') (sz mem') Q) : GoC X d mc ms M pc lc st cn sn (cellAt X mem) (sz mem) Q := gc_callS hd hlk hok hdd hm hs hst hcat hc (fun r ce' N' ⟨m', h1, h2, h3⟩ => by rw [h1, h2]; exact kt r m' h3)
theorem go_callV {index d' mc' ms' k c z : Nat} {y : MT} {As rest : List Value} {r0 : vw_C} {Qm' : Option Value → Mm → Prop} (hd : decode M.2.1 pc = .ok (.invokevirtual index, 3)) (hlk : LkM M.1.cls index y.1) (hok : OkV y As.length) (hdd : d' + 1 ≤ d) (hm : cn + mc' ≤ mc) (hs : sn + ms' ≤ ms) (hk : k < sz mem) (hkd : kd k = (0, c, z)) (hcl : vwCl[c]? = some r0) (hr0 : r0.1 = y.1.cls) (hst : st = As.reverse ++ .ref (cx_n X + k) :: rest) (hcat : (rest.map fun v => v.category).sum ≤ 8) (hc : Calls X d' mc' ms' y (.ref (cx_n X + k) :: As) mem Qm')
    (kt : ∀ (r : Option Value) (mem' : Mm), Qm' r mem' → GoC X d mc ms M (pc + 3) lc (r.toList ++ rest) (cn + mc') (sn + ms') (cellAt X mem') (sz mem') Q) : GoC X d mc ms M pc lc st cn sn (cellAt X mem) (sz mem) Q := gc_callV hd hlk hok hdd hm hs hk (cell_ob hkd) hcl hr0 hst hcat hc (fun r ce' N' ⟨m', h1, h2, h3⟩ => by rw [h1, h2]; exact kt r m' h3)
end GM
/-- a weaker end -/
theorem Calls.post {X : CX} {d mc ms : Nat} {M : MT} {av : List Value} {mem : Mm} {Q Q' : Option Value → Mm → Prop} (h : Calls X d mc ms M av mem Q') (hq : ∀ r m, Q' r m → Q r m) : Calls X d mc ms M av mem Q := by
  intro ok
  intro p e ha hc hk s m args below hf hfit hP htr
  obtain ⟨k, o, h1, h2, h3, ⟨⟨r, ce, N, e1, ⟨m', e2, e3, e4⟩, e5⟩, e6⟩, e7⟩ := h ok p e ha hc hk s m args below hf hfit hP htr
  exact ⟨k, o, h1, h2, h3, ⟨⟨r, ce, N, e1, ⟨m', e2, e3, hq _ _ e4⟩, e5⟩, e6⟩, e7⟩

