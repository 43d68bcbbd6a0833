/-! kinds of cells by number, and rows that the printed walks use -/
theorem kd_0 : kd 0 = (0, 8, 0) := by decide +kernel
theorem kd_1 : kd 1 = (0, 0, 0) := by decide +kernel
theorem kd_2 : kd 2 = (2, 4, 9) := by decide +kernel
theorem kd_3 : kd 3 = (3, 5, 14) := by decide +kernel
theorem kd_4 : kd 4 = (1, 0, 3) := by decide +kernel
theorem kd_5 : kd 5 = (0, 1, 0) := by decide +kernel
theorem kd_6 : kd 6 = (0, 1, 0) := by decide +kernel
theorem kd_7 : kd 7 = (0, 1, 0) := by decide +kernel
theorem kd_8 : kd 8 = (0, 1, 0) := by decide +kernel
theorem kd_9 : kd 9 = (0, 1, 0) := by decide +kernel
theorem kd_10 : kd 10 = (0, 1, 0) := by decide +kernel
theorem kd_11 : kd 11 = (0, 1, 0) := by decide +kernel
theorem kd_12 : kd 12 = (0, 1, 0) := by decide +kernel
theorem kd_13 : kd 13 = (0, 1, 0) := by decide +kernel
theorem kd_14 : kd 14 = (0, 0, 0) := by decide +kernel
theorem kd_15 : kd 15 = (2, 4, 9) := by decide +kernel
theorem kd_16 : kd 16 = (3, 5, 14) := by decide +kernel
theorem kd_17 : kd 17 = (1, 0, 3) := by decide +kernel
theorem kd_18 : kd 18 = (0, 1, 0) := by decide +kernel
theorem kd_19 : kd 19 = (0, 1, 0) := by decide +kernel
theorem kd_20 : kd 20 = (0, 1, 0) := by decide +kernel
theorem kd_21 : kd 21 = (0, 1, 0) := by decide +kernel
theorem kd_22 : kd 22 = (0, 1, 0) := by decide +kernel
theorem kd_23 : kd 23 = (0, 1, 0) := by decide +kernel
theorem kd_24 : kd 24 = (0, 1, 0) := by decide +kernel
theorem kd_25 : kd 25 = (0, 1, 0) := by decide +kernel
theorem kd_26 : kd 26 = (0, 1, 0) := by decide +kernel
theorem kd_27 : kd 27 = (0, 0, 0) := by decide +kernel
theorem kd_28 : kd 28 = (2, 4, 9) := by decide +kernel
theorem kd_29 : kd 29 = (3, 5, 14) := by decide +kernel
theorem kd_30 : kd 30 = (1, 0, 3) := by decide +kernel
theorem kd_31 : kd 31 = (0, 1, 0) := by decide +kernel
theorem kd_32 : kd 32 = (0, 1, 0) := by decide +kernel
theorem kd_33 : kd 33 = (0, 1, 0) := by decide +kernel
theorem kd_34 : kd 34 = (0, 1, 0) := by decide +kernel
theorem kd_35 : kd 35 = (0, 1, 0) := by decide +kernel
theorem kd_36 : kd 36 = (0, 1, 0) := by decide +kernel
theorem kd_37 : kd 37 = (0, 1, 0) := by decide +kernel
theorem kd_38 : kd 38 = (0, 1, 0) := by decide +kernel
theorem kd_39 : kd 39 = (0, 1, 0) := by decide +kernel
theorem kd_40 : kd 40 = (0, 2, 0) := by decide +kernel
theorem kd_41 : kd 41 = (1, 0, 720) := by decide +kernel
theorem kd_42 : kd 42 = (1, 0, 9) := by decide +kernel
theorem kd_43 : kd 43 = (1, 0, 512) := by decide +kernel
theorem kd_44 : kd 44 = (1, 0, 512) := by decide +kernel
theorem kd_45 : kd 45 = (0, 7, 0) := by decide +kernel
theorem kd_46 : kd 46 = (0, 5, 0) := by decide +kernel
theorem kd_47 : kd 47 = (1, 1, 96) := by decide +kernel
theorem kd_48 : kd 48 = (1, 0, 96) := by decide +kernel
theorem kd_49 : kd 49 = (1, 0, 96) := by decide +kernel
theorem kd_50 : kd 50 = (2, 6, 4) := by decide +kernel
theorem kd_51 : kd 51 = (2, 7, 5) := by decide +kernel
theorem kd_52 : kd 52 = (1, 0, 60) := by decide +kernel
theorem kd_53 : kd 53 = (1, 0, 9) := by decide +kernel
theorem kd_54 : kd 54 = (0, 3, 0) := by decide +kernel
theorem kd_55 : kd 55 = (1, 0, 24) := by decide +kernel
theorem kd_56 : kd 56 = (0, 3, 0) := by decide +kernel
theorem kd_57 : kd 57 = (1, 0, 24) := by decide +kernel
theorem kd_58 : kd 58 = (0, 3, 0) := by decide +kernel
theorem kd_59 : kd 59 = (1, 0, 24) := by decide +kernel
theorem kd_60 : kd 60 = (0, 3, 0) := by decide +kernel
theorem kd_61 : kd 61 = (1, 0, 24) := by decide +kernel
theorem kd_62 : kd 62 = (0, 4, 0) := by decide +kernel
theorem kd_63 : kd 63 = (0, 1, 0) := by decide +kernel
theorem kd_64 : kd 64 = (0, 3, 0) := by decide +kernel
theorem kd_65 : kd 65 = (1, 0, 24) := by decide +kernel
theorem kd_66 : kd 66 = (0, 4, 0) := by decide +kernel
theorem kd_67 : kd 67 = (0, 1, 0) := by decide +kernel
theorem kd_68 : kd 68 = (0, 3, 0) := by decide +kernel
theorem kd_69 : kd 69 = (1, 0, 24) := by decide +kernel
theorem kd_70 : kd 70 = (0, 4, 0) := by decide +kernel
theorem kd_71 : kd 71 = (0, 1, 0) := by decide +kernel
theorem kd_72 : kd 72 = (0, 3, 0) := by decide +kernel
theorem kd_73 : kd 73 = (1, 0, 24) := by decide +kernel
theorem kd_74 : kd 74 = (0, 4, 0) := by decide +kernel
theorem kd_75 : kd 75 = (0, 1, 0) := by decide +kernel
theorem kd_76 : kd 76 = (0, 3, 0) := by decide +kernel
theorem kd_77 : kd 77 = (1, 0, 24) := by decide +kernel
theorem kd_78 : kd 78 = (0, 4, 0) := by decide +kernel
theorem kd_79 : kd 79 = (0, 1, 0) := by decide +kernel
theorem kd_80 : kd 80 = (0, 3, 0) := by decide +kernel
theorem kd_81 : kd 81 = (1, 0, 24) := by decide +kernel
theorem kd_82 : kd 82 = (0, 9, 0) := by decide +kernel
theorem kd_83 : kd 83 = (1, 0, 1433) := by decide +kernel
theorem kd_84 : kd 84 = (1, 0, 1433) := by decide +kernel
theorem kd_85 : kd 85 = (1, 0, 1433) := by decide +kernel
theorem kd_86 : kd 86 = (1, 0, 512) := by decide +kernel
theorem kd_87 : kd 87 = (1, 0, 512) := by decide +kernel
theorem kd_88 : kd 88 = (1, 0, 9) := by decide +kernel
theorem kd_89 : kd 89 = (1, 0, 96) := by decide +kernel
theorem kd_90 : kd 90 = (1, 2, 12) := by decide +kernel
theorem kd_91 : kd 91 = (1, 0, 4) := by decide +kernel
theorem kd_92 : kd 92 = (1, 0, 96) := by decide +kernel
theorem kd_93 : kd 93 = (1, 0, 96) := by decide +kernel
theorem kd_94 : kd 94 = (1, 3, 10) := by decide +kernel
theorem kd_95 : kd 95 = (1, 0, 96) := by decide +kernel
theorem kd_96 : kd 96 = (1, 0, 4) := by decide +kernel
theorem kd_97 : kd 97 = (1, 0, 4) := by decide +kernel
theorem kd_98 : kd 98 = (1, 0, 4) := by decide +kernel
theorem kd_99 : kd 99 = (1, 0, 96) := by decide +kernel
theorem kd_100 : kd 100 = (1, 0, 5) := by decide +kernel
theorem kd_101 : kd 101 = (1, 0, 5) := by decide +kernel
theorem kd_102 : kd 102 = (1, 0, 5) := by decide +kernel
theorem kd_103 : kd 103 = (1, 0, 120) := by decide +kernel
theorem kd_104 : kd 104 = (1, 0, 24) := by decide +kernel
theorem kd_105 : kd 105 = (1, 0, 60) := by decide +kernel
def isAl (a : Nat) : Prop := a = 1 ∨ a = 14 ∨ a = 27
def isMan (k : Nat) : Prop := kd k = (0, 1, 0) ∧ k < 106
def isSh (k : Nat) : Prop := kd k = (0, 3, 0) ∧ kd (k + 1) = (1, 0, 24) ∧ k < 106
def isSl (k : Nat) : Prop := kd k = (0, 4, 0) ∧ isMan (k + 1) ∧ isSh (k + 2) ∧ k < 106
theorem al_kd {a : Nat} (h : isAl a) : kd a = (0, 0, 0) := by rcases h with rfl | rfl | rfl <;> decide +kernel
theorem al_lt {a : Nat} (h : isAl a) : a < 106 := by rcases h with rfl | rfl | rfl <;> decide
theorem al_men {a : Nat} (h : isAl a) : kd (a + 1) = (2, 4, 9) := by rcases h with rfl | rfl | rfl <;> decide +kernel
theorem al_tx {a : Nat} (h : isAl a) : kd (a + 2) = (3, 5, 14) := by rcases h with rfl | rfl | rfl <;> decide +kernel
theorem al_ct {a : Nat} (h : isAl a) : kd (a + 3) = (1, 0, 3) := by rcases h with rfl | rfl | rfl <;> decide +kernel
theorem al_man {a i : Nat} (h : isAl a) (hi : i < 9) : isMan (a + 4 + i) := by
  have : ∀ i, i < 9 → (kd (1 + 4 + i) = (0, 1, 0) ∧ 1 + 4 + i < 106) ∧ (kd (14 + 4 + i) = (0, 1, 0) ∧ 14 + 4 + i < 106) ∧ (kd (27 + 4 + i) = (0, 1, 0) ∧ 27 + 4 + i < 106) := by decide +kernel
  rcases h with rfl | rfl | rfl
  · exact (this i hi).1
  · exact (this i hi).2.1
  · exact (this i hi).2.2
theorem sh_ok {i : Nat} (hi : i < 4) : isSh (54 + 2 * i) := by
  have : ∀ i, i < 4 → kd (54 + 2 * i) = (0, 3, 0) ∧ kd (54 + 2 * i + 1) = (1, 0, 24) ∧ 54 + 2 * i < 106 := by decide +kernel
  exact this i hi
theorem sl_ok {i : Nat} (hi : i < 5) : isSl (62 + 4 * i) := by
  have : ∀ i, i < 5 → kd (62 + 4 * i) = (0, 4, 0) ∧ (kd (62 + 4 * i + 1) = (0, 1, 0) ∧ 62 + 4 * i + 1 < 106) ∧ (kd (62 + 4 * i + 2) = (0, 3, 0) ∧ kd (62 + 4 * i + 2 + 1) = (1, 0, 24) ∧ 62 + 4 * i + 2 < 106) ∧ 62 + 4 * i < 106 := by decide +kernel
  exact this i hi
theorem al_1 : isAl 1 := Or.inl rfl
theorem al_14 : isAl 14 := Or.inr (Or.inl rfl)
theorem al_27 : isAl 27 := Or.inr (Or.inr rfl)
theorem kd_tx (j : Nat) : kd (106 + 3 * j) = (0, 6, 0) := by
  unfold kd
  rw [if_neg (by omega), if_pos (by omega)]
theorem kd_t1 (j : Nat) : kd (106 + 3 * j + 1) = (4, 0, 0) := by
  unfold kd
  rw [if_neg (by omega), if_neg (by omega)]
theorem kd_t2 (j : Nat) : kd (106 + 3 * j + 2) = (4, 0, 0) := by
  unfold kd
  rw [if_neg (by omega), if_neg (by omega)]
theorem tx_lt {mem : Mm} {j : Nat} (h : j < nTx mem) : 106 + 3 * j + 2 < sz mem := by unfold sz; omega
def bZ (b : Bool) : Int32 := if b then 1 else 0
theorem bZ_01 (b : Bool) : bZ b = 0 ∨ bZ b = 1 := by cases b <;> simp [bZ]
theorem bZ_t : bZ true = 1 := rfl
theorem bZ_f : bZ false = 0 := rfl
theorem bZ_0 {b : Bool} : bZ b = 0 ↔ b = false := by cases b <;> decide
abbrev CallsI (X : CX) (d : Nat) (M : MT) (av : List Value) (mem : Mm) (K : Int32 → Mm → Prop) : Prop := Calls X d 0 0 M av mem (fun r m => ∃ v : Int32, r = some (.int v) ∧ K v m)
abbrev CallsZ (X : CX) (d : Nat) (M : MT) (av : List Value) (mem : Mm) (K : Bool → Mm → Prop) : Prop := Calls X d 0 0 M av mem (fun r m => ∃ b : Bool, r = some (.int (bZ b)) ∧ K b m)
abbrev CallsU (X : CX) (d : Nat) (M : MT) (av : List Value) (mem : Mm) (K : Mm → Prop) : Prop := Calls X d 0 0 M av mem (fun r m => r = none ∧ K m)
theorem CallsC.ofP {X : CX} {d mc ms : Nat} {M : MT} {av : List Value} {ce : Nat → va_E} {N : Nat} {Q : Option Value → (Nat → va_E) → Nat → Prop} (n : Nat) (hp : plainName M.1.cls = true) (hc : av.all (fun v => v.category == 1) = true) (hn : (lg_sl av).length ≤ M.2.2.1) (h : GoC X d mc ms M 0 (av.map some ++ List.replicate n none) [] 0 0 ce N Q) : CallsC X d mc ms M av ce N Q := by
  refine CallsC.of hp (fun v hv => by simpa using List.all_eq_true.mp hc v hv) hn (gc_locals (fun i v hi => ?_) h)
  by_cases hl : i < (av.map some).length
  · rw [List.getElem?_append_left hl] at hi
    exact hi
  · rw [List.getElem?_append_right (by omega), List.getElem?_replicate] at hi
    split at hi <;> cases hi
section GT
variable {X : CX} {d mc ms : Nat} {M : MT} {pc : Nat} {lc : List (Option Value)} {st : List Value} {cn sn : Nat} {mem : Mm} {Q : Option Value → (Nat → va_E) → Nat → Prop} {ce : Nat → va_E} {N : Nat}
theorem gc_forget (i : Nat) (k : GoC X d mc ms M pc (lc.set i none) st cn sn ce N Q) : GoC X d mc ms M pc lc st cn sn ce N Q := by
  refine gc_locals (fun j v hj => ?_) k
  by_cases h : i = j
  · subst h
    rw [List.getElem?_set] at hj
    simp only [if_true] at hj
    split at hj <;> cases hj
  · rwa [List.getElem?_set_ne h] at hj
theorem gc_name {x : Int32} (k : ∀ y : Int32, y = x → GoC X d mc ms M pc lc (.int y :: st) cn sn ce N Q) : GoC X d mc ms M pc lc (.int x :: st) cn sn ce N Q := k x rfl
theorem go_putI_ {index k c z j : Nat} {v : Int32} (hd : decode M.2.1 pc = .ok (.putfield index, 3)) (hf : LkP M.1.cls index c j .int) (hk : k < sz mem) (hkd : kd k = (0, c, z)) (ht : tg c k j = none) (kt : ∀ m1 : Mm, m1 = mu mem k j v → GoC X d mc ms M (pc + 3) lc st cn sn (cellAt X m1) (sz m1) Q) : GoC X d mc ms M pc lc (.int v :: .ref (cx_n X + k) :: st) cn sn (cellAt X mem) (sz mem) Q := go_putI hd hf hk hkd ht (kt _ rfl)
theorem go_putZ_ {index k c z j : Nat} {v : Int32} (hd : decode M.2.1 pc = .ok (.putfield index, 3)) (hf : LkP M.1.cls index c j .boolean) (hk : k < sz mem) (hkd : kd k = (0, c, z)) (ht : tg c k j = none) (hv : v = 0 ∨ v = 1) (kt : ∀ m1 : Mm, m1 = mu mem k j v → GoC X d mc ms M (pc + 3) lc st cn sn (cellAt X m1) (sz m1) Q) : GoC X d mc ms M pc lc (.int v :: .ref (cx_n X + k) :: st) cn sn (cellAt X mem) (sz mem) Q := go_putZ hd hf hk hkd ht hv (kt _ rfl)
theorem go_iast_ {x v : Int32} {k n : Nat} (i : Nat) (hd : decode M.2.1 pc = .ok (.iastore, 1)) (hkd : kd k = (1, 0, n)) (hx : x = nI i) (hi : i < n) (hi9 : k ≠ 0) (kt : ∀ m1 : Mm, m1 = mu mem k i v → GoC X d mc ms M (pc + 1) lc st cn sn (cellAt X m1) (sz m1) Q) : GoC X d mc ms M pc lc (.int v :: .int x :: .ref (cx_n X + k) :: st) cn sn (cellAt X mem) (sz mem) Q := go_iast i hd hkd hx hi (Or.inr hi9) (kt _ rfl)
theorem go_zast_ {x v : Int32} {k n : Nat} (i : Nat) (hd : decode M.2.1 pc = .ok (.bastore, 1)) (hkd : kd k = (1, 3, n)) (hx : x = nI i) (hi : i < n) (hi9 : k ≠ 0) (hv : v = 0 ∨ v = 1) (kt : ∀ m1 : Mm, m1 = mu mem k i v → GoC X d mc ms M (pc + 1) lc st cn sn (cellAt X m1) (sz m1) Q) : GoC X d mc ms M pc lc (.int v :: .int x :: .ref (cx_n X + k) :: st) cn sn (cellAt X mem) (sz mem) Q := go_zast i hd hkd hx hi (Or.inr hi9) (by rcases hv with rfl | rfl <;> rfl) (kt _ rfl)
theorem go_bast_ {x v : Int32} {k n : Nat} (i : Nat) (hd : decode M.2.1 pc = .ok (.bastore, 1)) (hkd : kd k = (1, 1, n)) (hx : x = nI i) (hi : i < n) (hi9 : k ≠ 0) (hv : narrow .byte (.int v) = .int v) (kt : ∀ m1 : Mm, m1 = mu mem k i v → GoC X d mc ms M (pc + 1) lc st cn sn (cellAt X m1) (sz m1) Q) : GoC X d mc ms M pc lc (.int v :: .int x :: .ref (cx_n X + k) :: st) cn sn (cellAt X mem) (sz mem) Q := go_bast i hd hkd hx hi (Or.inr hi9) hv (kt _ rfl)
/-- numbers of a text: as many as place 1000 says -/
theorem go_dald {x : Int32} {k a b : Nat} (i : Nat) (hd : decode M.2.1 pc = .ok (.iaload, 1)) (hk : k < sz mem) (hkd : kd k = (4, a, b)) (hx : x = nI i) (hi : i < (mem k 1000).toNatClampNeg) (hn : (mem k 1000).toNatClampNeg ≤ 1000) (kt : GoC X d mc ms M (pc + 1) lc (.int (mem k i) :: st) cn sn (cellAt X mem) (sz mem) Q) : GoC X d mc ms M pc lc (.int x :: .ref (cx_n X + k) :: st) cn sn (cellAt X mem) (sz mem) Q := gc_iald i hd hk (cell_dy hkd) hx hi (by omega) kt
theorem go_dlen {k a b : Nat} (hd : decode M.2.1 pc = .ok (.arraylength, 1)) (hk : k < sz mem) (hkd : kd k = (4, a, b)) (kt : GoC X d mc ms M (pc + 1) lc (.int (nI (mem k 1000).toNatClampNeg) :: st) cn sn (cellAt X mem) (sz mem) Q) : GoC X d mc ms M pc lc (.ref (cx_n X + k) :: st) cn sn (cellAt X mem) (sz mem) Q := gc_alen (t := 0) (by decide) hd hk (cell_dy hkd) kt
theorem go_alen {k n : Nat} (hd : decode M.2.1 pc = .ok (.arraylength, 1)) (hkd : kd k = (1, 0, n)) (kt : GoC X d mc ms M (pc + 1) lc (.int (nI n) :: st) cn sn (cellAt X mem) (sz mem) Q) : GoC X d mc ms M pc lc (.ref (cx_n X + k) :: st) cn sn (cellAt X mem) (sz mem) Q := gc_alen (t := 0) (by decide) hd (sz_lt (kd_len hkd).2) (cell_ar hkd) kt
theorem go_dast_ {x v : Int32} {k a b : Nat} (i : Nat) (hd : decode M.2.1 pc = .ok (.iastore, 1)) (hk : k < sz mem) (hkd : kd k = (4, a, b)) (hx : x = nI i) (hi : i < (mem k 1000).toNatClampNeg) (hn : (mem k 1000).toNatClampNeg ≤ 1000) (kt : ∀ m1 : Mm, m1 = mu mem k i v → GoC X d mc ms M (pc + 1) lc st cn sn (cellAt X m1) (sz m1) Q) : GoC X d mc ms M pc lc (.int v :: .int x :: .ref (cx_n X + k) :: st) cn sn (cellAt X mem) (sz mem) Q := by
  refine gc_iast i hd hk (cell_dy hkd) hx hi (by omega) ?_
  have kt := kt _ rfl
  rw [sz_mu _ _ _ (by omega), cell_mu] at kt
  have e : cellR X (upd (mem k) i v) k = .inl (cx_a X 0, (mem k 1000).toNatClampNeg, .inl (upd (mem k) i v)) := by
    have h9 : upd (mem k) i v 1000 = mem k 1000 := by simp [upd]; omega
    simp [cellR, hkd, h9]
  rw [e] at kt
  exact kt
theorem go_men {x : Int32} {a : Nat} (i : Nat) (ha : isAl a) (hd : decode M.2.1 pc = .ok (.aaload, 1)) (hx : x = nI i) (hi : i < 9) (kt : GoC X d mc ms M (pc + 1) lc (.ref (cx_n X + (a + 4 + i)) :: st) cn sn (cellAt X mem) (sz mem) Q) : GoC X d mc ms M pc lc (.int x :: .ref (cx_n X + (a + 1)) :: st) cn sn (cellAt X mem) (sz mem) Q := by
  have e : rt (a + 1) i = a + 4 + i := by rcases ha with rfl | rfl | rfl <;> simp [rt] <;> omega
  exact go_aald (t := 4) (C := RX1) i (by decide) rfl hd (sz_lt (by rcases ha with rfl | rfl | rfl <;> decide)) (al_men ha) hx hi (by decide) (by rw [e]; exact kt)
theorem go_sheets {x : Int32} (i : Nat) (hd : decode M.2.1 pc = .ok (.aaload, 1)) (hx : x = nI i) (hi : i < 4) (kt : GoC X d mc ms M (pc + 1) lc (.ref (cx_n X + (54 + 2 * i)) :: st) cn sn (cellAt X mem) (sz mem) Q) : GoC X d mc ms M pc lc (.int x :: .ref (cx_n X + 50) :: st) cn sn (cellAt X mem) (sz mem) Q := go_aald (t := 6) (C := RX3) i (by decide) rfl hd (sz_lt (by decide)) kd_50 hx hi (by decide) kt
theorem go_slots {x : Int32} (i : Nat) (hd : decode M.2.1 pc = .ok (.aaload, 1)) (hx : x = nI i) (hi : i < 5) (kt : GoC X d mc ms M (pc + 1) lc (.ref (cx_n X + (62 + 4 * i)) :: st) cn sn (cellAt X mem) (sz mem) Q) : GoC X d mc ms M pc lc (.int x :: .ref (cx_n X + 51) :: st) cn sn (cellAt X mem) (sz mem) Q := go_aald (t := 7) (C := RX4) i (by decide) rfl hd (sz_lt (by decide)) kd_51 hx hi (by decide) kt
theorem go_cSI {index d' : Nat} {y : MT} {As rest : List Value} {K : Int32 → Mm → Prop} (hd : decode M.2.1 pc = .ok (.invokestatic index, 3)) (hlk : LkM M.1.cls index y.1) (hok : OkS y As.length) (hdd : d' + 1 ≤ d) (hc : CallsI X d' y As mem K) (hst : st = As.reverse ++ rest) (hcat : (rest.map fun v => v.category).sum ≤ 8) (kt : ∀ (v : Int32) (m1 : Mm), K v m1 → GoC X d 0 0 M (pc + 3) lc (.int v :: rest) 0 0 (cellAt X m1) (sz m1) Q) : GoC X d 0 0 M pc lc st 0 0 (cellAt X mem) (sz mem) Q := by
  refine go_callS hd hlk hok hdd (Nat.le_refl 0) (Nat.le_refl 0) hst hcat hc (fun r m1 hq => ?_)
  obtain ⟨v, rfl, h⟩ := hq
  exact kt v m1 h
theorem go_cSZ {index d' : Nat} {y : MT} {As rest : List Value} {K : Bool → Mm → Prop} (hd : decode M.2.1 pc = .ok (.invokestatic index, 3)) (hlk : LkM M.1.cls index y.1) (hok : OkS y As.length) (hdd : d' + 1 ≤ d) (hc : CallsZ X d' y As mem K) (hst : st = As.reverse ++ rest) (hcat : (rest.map fun v => v.category).sum ≤ 8) (kt : ∀ (v : Bool) (m1 : Mm), K v m1 → GoC X d 0 0 M (pc + 3) lc (.int (bZ v) :: rest) 0 0 (cellAt X m1) (sz m1) Q) : GoC X d 0 0 M pc lc st 0 0 (cellAt X mem) (sz mem) Q := by
  refine go_callS hd hlk hok hdd (Nat.le_refl 0) (Nat.le_refl 0) hst hcat hc (fun r m1 hq => ?_)
  obtain ⟨v, rfl, h⟩ := hq
  exact kt v m1 h
theorem go_cSU {index d' : Nat} {y : MT} {As rest : List Value} {K : Mm → Prop} (hd : decode M.2.1 pc = .ok (.invokestatic index, 3)) (hlk : LkM M.1.cls index y.1) (hok : OkS y As.length) (hdd : d' + 1 ≤ d) (hc : CallsU X d' y As mem K) (hst : st = As.reverse ++ rest) (hcat : (rest.map fun v => v.category).sum ≤ 8) (kt : ∀ (m1 : Mm), K m1 → GoC X d 0 0 M (pc + 3) lc rest 0 0 (cellAt X m1) (sz m1) Q) : GoC X d 0 0 M pc lc st 0 0 (cellAt X mem) (sz mem) Q := by
  refine go_callS hd hlk hok hdd (Nat.le_refl 0) (Nat.le_refl 0) hst hcat hc (fun r m1 hq => ?_)
  obtain ⟨rfl, h⟩ := hq
  exact kt m1 h
theorem go_cVI {index d' : Nat} {y : MT} {As rest : List Value} {k c z : Nat} {r0 : vw_C} {K : Int32 → Mm → Prop} (hd : decode M.2.1 pc = .ok (.invokevirtual index, 3)) (hlk : LkM M.1.cls index y.1) (hok : OkV y As.length) (hdd : d' + 1 ≤ d) (hk : k < sz mem) (hkd : kd k = (0, c, z)) (hcl : vwCl[c]? = some r0) (hr0 : r0.1 = y.1.cls) (hc : CallsI X d' y (.ref (cx_n X + k) :: As) mem K) (hst : st = As.reverse ++ .ref (cx_n X + k) :: rest) (hcat : (rest.map fun v => v.category).sum ≤ 8) (kt : ∀ (v : Int32) (m1 : Mm), K v m1 → GoC X d 0 0 M (pc + 3) lc (.int v :: rest) 0 0 (cellAt X m1) (sz m1) Q) : GoC X d 0 0 M pc lc st 0 0 (cellAt X mem) (sz mem) Q := by
  refine go_callV hd hlk hok hdd (Nat.le_refl 0) (Nat.le_refl 0) hk hkd hcl hr0 hst hcat hc (fun r m1 hq => ?_)
  obtain ⟨v, rfl, h⟩ := hq
  exact kt v m1 h
theorem go_cVZ {index d' : Nat} {y : MT} {As rest : List Value} {k c z : Nat} {r0 : vw_C} {K : Bool → Mm → Prop} (hd : decode M.2.1 pc = .ok (.invokevirtual index, 3)) (hlk : LkM M.1.cls index y.1) (hok : OkV y As.length) (hdd : d' + 1 ≤ d) (hk : k < sz mem) (hkd : kd k = (0, c, z)) (hcl : vwCl[c]? = some r0) (hr0 : r0.1 = y.1.cls) (hc : CallsZ X d' y (.ref (cx_n X + k) :: As) mem K) (hst : st = As.reverse ++ .ref (cx_n X + k) :: rest) (hcat : (rest.map fun v => v.category).sum ≤ 8) (kt : ∀ (v : Bool) (m1 : Mm), K v m1 → GoC X d 0 0 M (pc + 3) lc (.int (bZ v) :: rest) 0 0 (cellAt X m1) (sz m1) Q) : GoC X d 0 0 M pc lc st 0 0 (cellAt X mem) (sz mem) Q := by
  refine go_callV hd hlk hok hdd (Nat.le_refl 0) (Nat.le_refl 0) hk hkd hcl hr0 hst hcat hc (fun r m1 hq => ?_)
  obtain ⟨v, rfl, h⟩ := hq
  exact kt v m1 h
theorem go_cVU {index d' : Nat} {y : MT} {As rest : List Value} {k c z : Nat} {r0 : vw_C} {K : Mm → Prop} (hd : decode M.2.1 pc = .ok (.invokevirtual index, 3)) (hlk : LkM M.1.cls index y.1) (hok : OkV y As.length) (hdd : d' + 1 ≤ d) (hk : k < sz mem) (hkd : kd k = (0, c, z)) (hcl : vwCl[c]? = some r0) (hr0 : r0.1 = y.1.cls) (hc : CallsU X d' y (.ref (cx_n X + k) :: As) mem K) (hst : st = As.reverse ++ .ref (cx_n X + k) :: rest) (hcat : (rest.map fun v => v.category).sum ≤ 8) (kt : ∀ (m1 : Mm), K m1 → GoC X d 0 0 M (pc + 3) lc rest 0 0 (cellAt X m1) (sz m1) Q) : GoC X d 0 0 M pc lc st 0 0 (cellAt X mem) (sz mem) Q := by
  refine go_callV hd hlk hok hdd (Nat.le_refl 0) (Nat.le_refl 0) hk hkd hcl hr0 hst hcat hc (fun r m1 hq => ?_)
  obtain ⟨rfl, h⟩ := hq
  exact kt m1 h
end GT
