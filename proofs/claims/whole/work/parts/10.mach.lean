/-! THE MACHINE SEEN FROM THE LAW'S START. X : CX is the context: the launch, the state at the law's entry, the tables' numbers, the classes of arrays, the script's address, the addresses of statics and String constants. A cell's number k stands for the address cx_n X + k. -/
abbrev CX : Type := Launch × State × va_G × (Nat → ClassId) × Nat × (Nat → Nat)
abbrev cx_l (X : CX) : Launch := X.1
abbrev cx_s (X : CX) : State := X.2.1
abbrev cx_D (X : CX) : va_G := X.2.2.1
abbrev cx_a (X : CX) : Nat → ClassId := X.2.2.2.1
abbrev cx_b (X : CX) : Nat := X.2.2.2.2.1
abbrev cx_k (X : CX) : Nat → Nat := X.2.2.2.2.2
def cx_n (X : CX) : Nat := (cx_s X).heap.size
def cx_A (X : CX) : Nat → Prop := fun q => cx_n X ≤ q
/-- the kinds of arrays: 0 int, 1 byte, 2 char, 3 boolean, 4 .. 7 rows of Man, Text, Sheet, Slot -/
def cx_ty : Nat → FieldType := fun k => match k with
  | 0 => .int
  | 1 => .byte
  | 2 => .char
  | 3 => .boolean
  | 4 => .object RX1
  | 5 => .object RX6
  | 6 => .object RX3
  | _ => .object RX4
def cx_tys (X : CX) : List (ClassId × FieldType) := [(cx_a X 0, .int), (cx_a X 1, .byte), (cx_a X 2, .char), (cx_a X 3, .boolean), (cx_a X 4, .object RX1), (cx_a X 5, .object RX6), (cx_a X 6, .object RX3), (cx_a X 7, .object RX4)]
/-- static rows: 0 LEFT_BEHIND, 1 RIGHT_BEHIND, 2 KIND_ABOVE, 3 LEFT, 4 RIGHT -/
def st_C : Nat → String := fun k => match k with
  | 0 => RX8
  | 1 => RX8
  | 2 => RX1
  | 3 => RX9
  | _ => RX9
def st_N : Nat → String := fun k => match k with
  | 0 => "LEFT_BEHIND"
  | 1 => "RIGHT_BEHIND"
  | 2 => "KIND_ABOVE"
  | 3 => "LEFT"
  | _ => "RIGHT"
def st_L : Nat → Nat := fun k => match k with
  | 2 => 6
  | _ => 9
def st_left : List Int32 := [1, 3, 4, -1, 6, 7, -1, 8, -1]
def st_right : List Int32 := [2, 4, 5, 6, 7, -1, 8, -1, -1]
def st_above : List Int32 := [-1, 0, 0, 1, 2, 0]
def st_F : Nat → List Int32 := fun k => match k with
  | 0 => st_left
  | 1 => st_right
  | 2 => st_above
  | 3 => st_left
  | _ => st_right
/-- String constants of the reader: places in the pool, texts, lengths, bytes -/
def ss_I : Nat → Nat := fun k => match k with
  | 0 => 121
  | 1 => 123
  | 2 => 125
  | 3 => 127
  | 4 => 129
  | _ => 131
def ss_T : Nat → String := fun k => match k with
  | 0 => "bears"
  | 1 => "fee"
  | 2 => "fine"
  | 3 => "nwfs"
  | 4 => "fs"
  | _ => "nw"
def ss_L : List Nat := [5, 3, 4, 4, 2, 2]
def ss_B : List (List Int32) := [[98, 101, 97, 114, 115], [102, 101, 101], [102, 105, 110, 101], [110, 119, 102, 115], [102, 115], [110, 119]]
def cx_ok (X : CX) : Prop := (∀ w ∈ lw_tbl, w.before #[Value.ref (cx_b X)] (cx_s X) = true) ∧ va_K (cx_D X) vwCl (cx_tys X) (cx_s X) ∧
  (∀ i : Nat, i < 5 → va_Z (st_C i) (st_N i) "[I" (.ref (cx_k X i)) (cx_A X) (cx_s X) (cx_s X).heap ∧ va_X (cx_k X i) (st_L i) (fun j => (st_F i).getD j 0) (cx_s X) (cx_s X).heap ∧ cx_k X i < cx_n X) ∧
  vk_S 6 ss_L ss_B (fun i => cx_k X (6 + i)) (fun i => cx_k X (12 + i)) (cx_A X) (cx_s X) (cx_s X).heap ∧
  (∀ i : Nat, i < 6 → vk_R RX7 (ss_I i) (ss_T i) (cx_k X (6 + i)) (cx_s X)) ∧
  va_Z "java/lang/String" "COMPACT_STRINGS" "Z" (.int 1) (cx_A X) (cx_s X) (cx_s X).heap ∧
  ∃ r : Option Nat, va_Z "jdk/internal/util/Preconditions" "SIOOBE_FORMATTER" "Ljava/util/function/BiFunction;" (va_rf r) (cx_A X) (cx_s X) (cx_s X).heap
/-- a method: its name, its bytes, its locals, what it returns -/
abbrev MT : Type := MethodName × ByteArray × Nat × Option FieldType
/-- the room of depth d -/
def rmX (d mc ms : Nat) : Room := { frames := d, cells := mc, slots := ms, locals := 41 * d + 32 }
def HRc (X : CX) (ce : Nat → va_E) (N : Nat) (H : Heap) : Prop := H.size = cx_n X + N ∧ ∀ k : Nat, k < N → va_at (cx_D X) vwCl (cx_n X + k, ce k) H
def PcX (X : CX) (av : List Value) (ce : Nat → va_E) (N : Nat) : Array Value → State → Prop := va_Pc av (fun U => (cx_s X).WarmedH U.vm ∧ va_S (cx_A X) (cx_s X).heap U.heap [] ∧ HRc X ce N U.heap)
def QcX (X : CX) (Q : Option Value → (Nat → va_E) → Nat → Prop) : Array Value → State → Outcome → State → Prop := fun _ st oc t => (∃ (r : Option Value) (ce : Nat → va_E) (N : Nat), oc = .returned r ∧ Q r ce N ∧ HRc X ce N t.heap) ∧ va_F (cx_A X) st t
/-- the method's contract: from the cells ce, N of them, it returns with Q -/
def CallsC (X : CX) (d mc ms : Nat) (M : MT) (av : List Value) (ce : Nat → va_E) (N : Nat) (Q : Option Value → (Nat → va_E) → Nat → Prop) : Prop :=
  cx_ok X → Met (cx_l X) M.1 [Cond.code M.1 M.2.1 M.2.2.1 M.2.2.2] (rmX d mc ms) (PcX X av ce N) (QcX X Q) mc ms (cx_A X)
/-- locals by place: none where nothing is said -/
def lh (ls : Array Slot) (n : Nat) (lc : List (Option Value)) : Prop := ls.size = n ∧ lv_wf ls ∧ ∀ (i : Nat) (v : Value), lc[i]? = some (some v) → ls[i]? = some (.val v) ∧ v.category = 1
/-- what is fixed in a method's walk -/
def FX (X : CX) (M : MT) (p : Program) (s : State) (m : MethodId) (meth : Method) (c : Code) : Prop :=
  cx_ok X ∧ p.tables.exec = Jvm.exec ∧ c.code = M.2.1 ∧ meth.sig.returnType = M.2.2.2 ∧ meth.locks = false ∧ c.maxLocals = M.2.2.1 ∧ s.vm.findClass M.1.cls = some m.cls ∧ (cx_s X).WarmedH s.vm ∧ va_S (cx_A X) (cx_s X).heap s.heap [] ∧ meth.name = M.1.name
/-- the walk inside a method: at pc, with locals lc and operands st, cn cells of sn slots made so far, the cells ce (N of them): it ends with Q -/
def GoC (X : CX) (d mc ms : Nat) (M : MT) (pc : Nat) (lc : List (Option Value)) (st : List Value) (cn sn : Nat) (ce : Nat → va_E) (N : Nat) (Q : Option Value → (Nat → va_E) → Nat → Prop) : Prop :=
  ∀ (p : Program) (e : Env) (s : State) (m : MethodId) (args : Array Value) (below : List Frame) (meth : Method) (c : Code) (H : Heap) (locs : List Loc) (ls : Array Slot),
    FX X M p s m meth c → va_S (cx_A X) s.heap H locs → HRc X ce N H → lh ls M.2.2.1 lc →
    W p (cx_l X) e (rmX d mc ms) s m args below meth c H locs cn sn (MQ below (QcX X Q) args s mc ms (cx_A X)) (F0 m pc ls st)
-- words
theorem cx_w {X : CX} (ok : cx_ok X) {s : State} (hW : (cx_s X).WarmedH s.vm) {w : Cond} (hm : w ∈ lw_tbl) (hg : goodWord w = true) {a : Array Value} : w.before a s = true := word_at hW (good_of_word hg) (ok.1 w hm)
theorem cx_nf {X : CX} (ok : cx_ok X) {s : State} (hW : (cx_s X).WarmedH s.vm) {o : String} {i : Nat} {b n d h : String} (hm : Cond.fieldLinkNest o i b n d h ∈ lw_tbl) {a : Array Value} : (Cond.fieldLinkNest o i b n d h).before a s = true := va_Nw.use rfl (va_Nw.warmF hW (va_Nw.of rfl (ok.1 _ hm)))
theorem cx_nm {X : CX} (ok : cx_ok X) {s : State} (hW : (cx_s X).WarmedH s.vm) {o : String} {i : Nat} {x : MethodName} {h : String} (hm : Cond.methodLinkNest o i x h ∈ lw_tbl) : va_Nw (.methodLinkNest o i x h) s := va_Nw.warmM hW (va_Nw.of rfl (ok.1 _ hm))
theorem u_lay_good (C : String) (T : u_T) (k : Nat) : goodWord (u_lay C T k) = true := by
  unfold u_lay
  split <;> rfl
theorem cx_in {c : Nat} {C : String} {T : u_T} {N : Nat} (hc : vwCl[c]? = some (C, T, N)) : ∀ w ∈ u_ws C T N, w ∈ lw_tbl := by
  match c, hc with
  | 0, hc => cases hc; exact inX0
  | 1, hc => cases hc; exact inX1
  | 2, hc => cases hc; exact inX2
  | 3, hc => cases hc; exact inX3
  | 4, hc => cases hc; exact inX4
  | 5, hc => cases hc; exact inX5
  | 6, hc => cases hc; exact inX6
  | 7, hc => cases hc; exact inX7
  | 8, hc => cases hc; exact inX8
  | 9, hc => cases hc; exact inX9
  | k + 10, hc => simp [vwCl] at hc
theorem cx_flds {X : CX} (ok : cx_ok X) {s : State} (hW : (cx_s X).WarmedH s.vm) {c : Nat} {C : String} {T : u_T} {N : Nat} (hc : vwCl[c]? = some (C, T, N)) {a : Array Value} : ∀ w ∈ u_ws C T N, w.before a s = true := by
  intro w hw
  refine cx_w ok hW (cx_in hc w hw) ?_
  obtain ⟨k, -, rfl⟩ := List.mem_map.mp hw
  exact u_lay_good C T k
theorem cx_tyok {c : Nat} {C : String} {T : u_T} {N : Nat} (hc : vwCl[c]? = some (C, T, N)) : ∃ ty : Nat → FieldType, (∀ k, k < N → parseFieldDescriptor (T k).2.2.1 = some (ty k)) ∧ ∀ a, a < N → ∀ b, b < N → a ≠ b → (T a).2.1 ≠ (T b).2.1 := by
  match c, hc with
  | 0, hc => cases hc; exact ⟨tyX0, tyX0_ok, nmX0⟩
  | 1, hc => cases hc; exact ⟨tyX1, tyX1_ok, nmX1⟩
  | 2, hc => cases hc; exact ⟨tyX2, tyX2_ok, nmX2⟩
  | 3, hc => cases hc; exact ⟨tyX3, tyX3_ok, nmX3⟩
  | 4, hc => cases hc; exact ⟨tyX4, tyX4_ok, nmX4⟩
  | 5, hc => cases hc; exact ⟨tyX5, tyX5_ok, nmX5⟩
  | 6, hc => cases hc; exact ⟨tyX6, tyX6_ok, nmX6⟩
  | 7, hc => cases hc; exact ⟨tyX7, tyX7_ok, nmX7⟩
  | 8, hc => cases hc; exact ⟨tyX8, tyX8_ok, nmX8⟩
  | 9, hc => cases hc; exact ⟨tyX9, tyX9_ok, nmX9⟩
  | k + 10, hc => simp [vwCl] at hc
theorem FX.K {X : CX} {M : MT} {p : Program} {s : State} {m : MethodId} {meth : Method} {c : Code} (F : FX X M p s m meth c) : va_K (cx_D X) vwCl (cx_tys X) s := va_K.moved F.2.2.2.2.2.2.2.1.alike F.1.2.1
-- cells
def ceU (ce : Nat → va_E) (k : Nat) (e : va_E) : Nat → va_E := fun j => if j = k then e else ce j
theorem ceU_s (ce : Nat → va_E) (k : Nat) (e : va_E) : ceU ce k e k = e := by simp [ceU]
theorem ceU_n (ce : Nat → va_E) (k : Nat) (e : va_E) {j : Nat} (h : j ≠ k) : ceU ce k e j = ce j := by simp [ceU, h]
theorem HRc.set {X : CX} {ce : Nat → va_E} {N k : Nat} {H H1 : Heap} {e : va_E} (h : HRc X ce N H) (hk : va_at (cx_D X) vwCl (cx_n X + k, e) H1) (hz : H1.size = H.size) (ho : ∀ q : Nat, q ≠ cx_n X + k → H1[q]? = H[q]?) : HRc X (ceU ce k e) N H1 := by
  refine ⟨hz.trans h.1, fun j hj => ?_⟩
  by_cases hjk : j = k
  · subst hjk
    rw [ceU_s]
    exact hk
  · rw [ceU_n _ _ _ hjk]
    exact (h.2 j hj).kept (ho _ (by omega))
theorem HRc.push {X : CX} {ce : Nat → va_E} {N : Nat} {H H1 : Heap} {e : va_E} (h : HRc X ce N H) (hk : va_at (cx_D X) vwCl (cx_n X + N, e) H1) (hz : H1.size = H.size + 1) (ho : ∀ q : Nat, q < H.size → H1[q]? = H[q]?) : HRc X (ceU ce N e) (N + 1) H1 := by
  refine ⟨by rw [hz, h.1]; omega, fun j hj => ?_⟩
  by_cases hjk : j = N
  · subst hjk
    rw [ceU_s]
    exact hk
  · rw [ceU_n _ _ _ hjk]
    have hj' : j < N := by omega
    exact (h.2 j hj').kept (ho _ (h.2 j hj').lt)
theorem lh.has {ls : Array Slot} {n : Nat} {lc : List (Option Value)} (h : lh ls n lc) {i : Nat} {v : Value} (hi : lc[i]? = some (some v)) : lv_has ls n [(i, v)] := ⟨h.1, h.2.1, fun q hq => by
  rw [List.mem_singleton.mp hq]
  exact (h.2.2 i v hi).1⟩
theorem lh.none {ls : Array Slot} {n : Nat} {lc : List (Option Value)} (h : lh ls n lc) : lv_has ls n [] := ⟨h.1, h.2.1, fun q hq => by cases hq⟩
/-- a local is stored -/
theorem lh.store {ls : Array Slot} {n : Nat} {lc : List (Option Value)} (h : lh ls n lc) {i : Nat} {v : Value} (hi : i < n) (hc : v.category = 1) : ∃ ls', storeLocals ls i v = some ls' ∧ lh ls' n (lc.set i (some v)) := by
  obtain ⟨ls', e1, h1⟩ := lv_store1 (v := v) h.none hi hc
  refine ⟨ls', e1, h1.1, h1.2.1, fun j w hj => ?_⟩
  by_cases hij : i = j
  · subst hij
    rw [List.getElem?_set] at hj
    simp only [if_true] at hj
    split at hj
    · cases hj
      exact ⟨h1.2.2 (i, v) List.mem_cons_self, hc⟩
    · cases hj
  · rw [List.getElem?_set_ne hij] at hj
    have hw := h.2.2 j w hj
    obtain ⟨ls2, e2, h2⟩ := lv_store1 (v := v) (h.has hj) hi hc
    rw [e1] at e2
    cases e2
    refine ⟨h2.2.2 (j, w) (List.mem_cons_of_mem _ (List.mem_filter.mpr ⟨List.mem_singleton.mpr rfl, ?_⟩)), hw.2⟩
    have a1 : (j == i) = false := by simp; omega
    simp [a1, hw.2]
theorem lh.weak {ls : Array Slot} {n : Nat} {lc lc' : List (Option Value)} (h : lh ls n lc) (hw : ∀ (i : Nat) (v : Value), lc'[i]? = some (some v) → lc[i]? = some (some v)) : lh ls n lc' := ⟨h.1, h.2.1, fun i v hi => h.2.2 i v (hw i v hi)⟩
theorem lv_args_mem : ∀ (vs : List Value) (o i : Nat) (v : Value), (∀ w ∈ vs, w.category = 1) → vs[i]? = some v → (o + i, v) ∈ lv_args o vs
  | [], _, _, _, _, h => by simp at h
  | w :: vs, o, 0, v, _, h => by
    simp only [List.getElem?_cons_zero, Option.some.injEq] at h
    subst h
    simp [lv_args]
  | w :: vs, o, i + 1, v, hc, h => by
    have h1 : w.category = 1 := hc w List.mem_cons_self
    have h2 := lv_args_mem vs (o + 1) i v (fun x hx => hc x (List.mem_cons_of_mem _ hx)) (by simpa using h)
    have h3 : ¬ w.category = 2 := by omega
    simp only [lv_args, h3, if_false]
    refine List.mem_cons_of_mem _ ?_
    rw [show o + (i + 1) = o + 1 + i by omega]
    exact h2
/-- a contract out of the walk -/
theorem CallsC.of {X : CX} {d mc ms : Nat} {M : MT} {av : List Value} {ce : Nat → va_E} {N : Nat} {Q : Option Value → (Nat → va_E) → Nat → Prop} (hp : plainName M.1.cls = true) (hc : ∀ v ∈ av, v.category = 1) (hn : (lg_sl av).length ≤ M.2.2.1) (h : GoC X d mc ms M 0 (av.map some) [] 0 0 ce N Q) : CallsC X d mc ms M av ce N Q := by
  intro ok
  refine Met.ofW (cc := M.2.1) (maxL := M.2.2.1) (ret := M.2.2.2) hp rfl ?_
  intro p e s m args below meth c s₁ B hml hv
  obtain ⟨rfl, hW, hS0, hH⟩ := hv
  rw [lg_entry_eq]
  have hl := lv_entry av (n := M.2.2.1) hn
  refine h p e s m av.toArray below meth c s.heap [] _ ⟨ok, B.exec, B.bytes, B.returns, B.notSynchronized, hml, findClass_of_methodNamed B.named, hW, hS0, (name_of_methodNamed B.named B.method).1⟩ va_S.rf hH ⟨hl.1, hl.2.1, fun i v hi => ?_⟩
  rw [List.getElem?_map] at hi
  cases hav : av[i]? with
  | none => rw [hav] at hi; cases hi
  | some w =>
    rw [hav] at hi
    simp only [Option.map_some, Option.some.injEq] at hi
    subst hi
    have := lv_args_mem av 0 i w hc hav
    rw [Nat.zero_add] at this
    exact ⟨hl.2.2 (i, w) this, hc w (List.mem_of_getElem? hav)⟩
section GC
variable {X : CX} {d mc ms : Nat} {M : MT} {pc : Nat} {lc : List (Option Value)} {st : List Value} {cn sn : Nat} {ce : Nat → va_E} {N : Nat} {Q : Option Value → (Nat → va_E) → Nat → Prop}
theorem gc_locals {lc' : List (Option Value)} (hw : ∀ (i : Nat) (v : Value), lc'[i]? = some (some v) → lc[i]? = some (some v)) (k : GoC X d mc ms M pc lc' st cn sn ce N Q) : GoC X d mc ms M pc lc st cn sn ce N Q := fun p e s m args below meth c H locs ls F hS hH hl => k p e s m args below meth c H locs ls F hS hH (hl.weak hw)
theorem gc_widen {cn' sn' : Nat} (h1 : cn ≤ cn') (h2 : sn ≤ sn') (k : GoC X d mc ms M pc lc st cn' sn' ce N Q) : GoC X d mc ms M pc lc st cn sn ce N Q := fun p e s m args below meth c H locs ls F hS hH hl => W.widen h1 h2 (k p e s m args below meth c H locs ls F hS hH hl)
theorem gc_post {Q' : Option Value → (Nat → va_E) → Nat → Prop} (hq : ∀ r c n, Q' r c n → Q r c n) (k : GoC X d mc ms M pc lc st cn sn ce N Q') : GoC X d mc ms M pc lc st cn sn ce N Q := by
  intro p e s m args below meth c H locs ls F hS hH hl T hT Y
  obtain ⟨t, a, o, b1, b2, ⟨⟨r, ce', N', h1, h2, h3⟩, h4⟩, b4⟩ := k p e s m args below meth c H locs ls F hS hH hl T hT Y
  exact ⟨t, a, o, b1, b2, ⟨⟨r, ce', N', h1, hq _ _ _ h2, h3⟩, h4⟩, b4⟩

theorem gc_iconst {n : Int} {v : Int32} (hd : decode M.2.1 pc = .ok (.iconst n, 1)) (hv : Int32.ofInt n = v) (k : GoC X d mc ms M (pc + 1) lc (.int v :: st) cn sn ce N Q) : GoC X d mc ms M pc lc (st) cn sn ce N Q := fun p e s m args below meth c H locs ls F hS hH hl => lv_iconst F.2.1 F.2.2.1 hd hv (k p e s m args below meth c H locs ls F hS hH hl)
theorem gc_bipush {n : Int} {v : Int32} (hd : decode M.2.1 pc = .ok (.bipush n, 2)) (hv : (Int8.ofInt n).toInt32 = v) (k : GoC X d mc ms M (pc + 2) lc (.int v :: st) cn sn ce N Q) : GoC X d mc ms M pc lc (st) cn sn ce N Q := fun p e s m args below meth c H locs ls F hS hH hl => lv_bipush F.2.1 F.2.2.1 hd hv (k p e s m args below meth c H locs ls F hS hH hl)
theorem gc_sipush {n : Int} {v : Int32} (hd : decode M.2.1 pc = .ok (.sipush n, 3)) (hv : (Int16.ofInt n).toInt32 = v) (k : GoC X d mc ms M (pc + 3) lc (.int v :: st) cn sn ce N Q) : GoC X d mc ms M pc lc (st) cn sn ce N Q := fun p e s m args below meth c H locs ls F hS hH hl => lv_sipush F.2.1 F.2.2.1 hd hv (k p e s m args below meth c H locs ls F hS hH hl)
theorem gc_iload_n {q : Fin 4} {x : Int32} (hd : decode M.2.1 pc = .ok (.iload_n q, 1)) (hv : lc[(q : Nat)]? = some (some (.int x))) (k : GoC X d mc ms M (pc + 1) lc (.int x :: st) cn sn ce N Q) : GoC X d mc ms M pc lc (st) cn sn ce N Q := fun p e s m args below meth c H locs ls F hS hH hl => lv_iload_n F.2.1 F.2.2.1 hd rfl (hl.2.2 _ _ hv).1 (k p e s m args below meth c H locs ls F hS hH hl)
theorem gc_iload {i : Nat} {x : Int32} (hd : decode M.2.1 pc = .ok (.iload i, 2)) (hv : lc[i]? = some (some (.int x))) (k : GoC X d mc ms M (pc + 2) lc (.int x :: st) cn sn ce N Q) : GoC X d mc ms M pc lc (st) cn sn ce N Q := fun p e s m args below meth c H locs ls F hS hH hl => lv_iload F.2.1 F.2.2.1 hd (hl.2.2 _ _ hv).1 (k p e s m args below meth c H locs ls F hS hH hl)
theorem gc_aload_n {q : Fin 4} {x : Nat} (hd : decode M.2.1 pc = .ok (.aload_n q, 1)) (hv : lc[(q : Nat)]? = some (some (.ref x))) (k : GoC X d mc ms M (pc + 1) lc (.ref x :: st) cn sn ce N Q) : GoC X d mc ms M pc lc (st) cn sn ce N Q := fun p e s m args below meth c H locs ls F hS hH hl => lv_aload_n F.2.1 F.2.2.1 hd rfl (hl.2.2 _ _ hv).1 (k p e s m args below meth c H locs ls F hS hH hl)
theorem gc_aload {i : Nat} {x : Nat} (hd : decode M.2.1 pc = .ok (.aload i, 2)) (hv : lc[i]? = some (some (.ref x))) (k : GoC X d mc ms M (pc + 2) lc (.ref x :: st) cn sn ce N Q) : GoC X d mc ms M pc lc (st) cn sn ce N Q := fun p e s m args below meth c H locs ls F hS hH hl => lv_aload F.2.1 F.2.2.1 hd (hl.2.2 _ _ hv).1 (k p e s m args below meth c H locs ls F hS hH hl)
theorem gc_aloadN_n {q : Fin 4} (hd : decode M.2.1 pc = .ok (.aload_n q, 1)) (hv : lc[(q : Nat)]? = some (some .null)) (k : GoC X d mc ms M (pc + 1) lc (.null :: st) cn sn ce N Q) : GoC X d mc ms M pc lc (st) cn sn ce N Q := fun p e s m args below meth c H locs ls F hS hH hl => lv_aload_nN F.2.1 F.2.2.1 hd rfl (hl.2.2 _ _ hv).1 (k p e s m args below meth c H locs ls F hS hH hl)
theorem gc_iadd {x y : Int32} (hd : decode M.2.1 pc = .ok (.iadd, 1)) (k : GoC X d mc ms M (pc + 1) lc (.int (x + y) :: st) cn sn ce N Q) : GoC X d mc ms M pc lc (.int y :: .int x :: st) cn sn ce N Q := fun p e s m args below meth c H locs ls F hS hH hl => lv_iadd F.2.1 F.2.2.1 hd  (k p e s m args below meth c H locs ls F hS hH hl)
theorem gc_isub {x y : Int32} (hd : decode M.2.1 pc = .ok (.isub, 1)) (k : GoC X d mc ms M (pc + 1) lc (.int (x - y) :: st) cn sn ce N Q) : GoC X d mc ms M pc lc (.int y :: .int x :: st) cn sn ce N Q := fun p e s m args below meth c H locs ls F hS hH hl => lv_isub F.2.1 F.2.2.1 hd  (k p e s m args below meth c H locs ls F hS hH hl)
theorem gc_imul {x y : Int32} (hd : decode M.2.1 pc = .ok (.imul, 1)) (k : GoC X d mc ms M (pc + 1) lc (.int (x * y) :: st) cn sn ce N Q) : GoC X d mc ms M pc lc (.int y :: .int x :: st) cn sn ce N Q := fun p e s m args below meth c H locs ls F hS hH hl => lv_imul F.2.1 F.2.2.1 hd  (k p e s m args below meth c H locs ls F hS hH hl)
theorem gc_iand {x y : Int32} (hd : decode M.2.1 pc = .ok (.iand, 1)) (k : GoC X d mc ms M (pc + 1) lc (.int (x &&& y) :: st) cn sn ce N Q) : GoC X d mc ms M pc lc (.int y :: .int x :: st) cn sn ce N Q := fun p e s m args below meth c H locs ls F hS hH hl => lv_iand F.2.1 F.2.2.1 hd  (k p e s m args below meth c H locs ls F hS hH hl)
theorem gc_ior {x y : Int32} (hd : decode M.2.1 pc = .ok (.ior, 1)) (k : GoC X d mc ms M (pc + 1) lc (.int (x ||| y) :: st) cn sn ce N Q) : GoC X d mc ms M pc lc (.int y :: .int x :: st) cn sn ce N Q := fun p e s m args below meth c H locs ls F hS hH hl => lv_ior F.2.1 F.2.2.1 hd  (k p e s m args below meth c H locs ls F hS hH hl)
theorem gc_ixor {x y : Int32} (hd : decode M.2.1 pc = .ok (.ixor, 1)) (k : GoC X d mc ms M (pc + 1) lc (.int (x ^^^ y) :: st) cn sn ce N Q) : GoC X d mc ms M pc lc (.int y :: .int x :: st) cn sn ce N Q := fun p e s m args below meth c H locs ls F hS hH hl => lv_ixor F.2.1 F.2.2.1 hd  (k p e s m args below meth c H locs ls F hS hH hl)
theorem gc_ishl {x y : Int32} (hd : decode M.2.1 pc = .ok (.ishl, 1)) (k : GoC X d mc ms M (pc + 1) lc (.int (x <<< (y &&& 31)) :: st) cn sn ce N Q) : GoC X d mc ms M pc lc (.int y :: .int x :: st) cn sn ce N Q := fun p e s m args below meth c H locs ls F hS hH hl => lv_ishl F.2.1 F.2.2.1 hd  (k p e s m args below meth c H locs ls F hS hH hl)
theorem gc_ishr {x y : Int32} (hd : decode M.2.1 pc = .ok (.ishr, 1)) (k : GoC X d mc ms M (pc + 1) lc (.int (x >>> (y &&& 31)) :: st) cn sn ce N Q) : GoC X d mc ms M pc lc (.int y :: .int x :: st) cn sn ce N Q := fun p e s m args below meth c H locs ls F hS hH hl => lv_ishr F.2.1 F.2.2.1 hd  (k p e s m args below meth c H locs ls F hS hH hl)
theorem gc_idiv {x y : Int32} (hd : decode M.2.1 pc = .ok (.idiv, 1)) (hne : ¬ y = 0) (k : GoC X d mc ms M (pc + 1) lc (.int (x / y) :: st) cn sn ce N Q) : GoC X d mc ms M pc lc (.int y :: .int x :: st) cn sn ce N Q := fun p e s m args below meth c H locs ls F hS hH hl => lv_idiv F.2.1 F.2.2.1 hd hne (k p e s m args below meth c H locs ls F hS hH hl)
theorem gc_irem {x y : Int32} (hd : decode M.2.1 pc = .ok (.irem, 1)) (hne : ¬ y = 0) (k : GoC X d mc ms M (pc + 1) lc (.int (x - x / y * y) :: st) cn sn ce N Q) : GoC X d mc ms M pc lc (.int y :: .int x :: st) cn sn ce N Q := fun p e s m args below meth c H locs ls F hS hH hl => lv_irem F.2.1 F.2.2.1 hd hne (k p e s m args below meth c H locs ls F hS hH hl)
theorem gc_ineg {x : Int32} (hd : decode M.2.1 pc = .ok (.ineg, 1)) (k : GoC X d mc ms M (pc + 1) lc (.int (-x) :: st) cn sn ce N Q) : GoC X d mc ms M pc lc (.int x :: st) cn sn ce N Q := fun p e s m args below meth c H locs ls F hS hH hl => lv_ineg F.2.1 F.2.2.1 hd  (k p e s m args below meth c H locs ls F hS hH hl)
theorem gc_iushr {x y : Int32} (hd : decode M.2.1 pc = .ok (.iushr, 1)) (k : GoC X d mc ms M (pc + 1) lc (.int ((x.toUInt32 >>> (y.toUInt32 &&& Int32.toUInt32 31)).toInt32) :: st) cn sn ce N Q) : GoC X d mc ms M pc lc (.int y :: .int x :: st) cn sn ce N Q := fun p e s m args below meth c H locs ls F hS hH hl => lv_iushr F.2.1 F.2.2.1 hd rfl (k p e s m args below meth c H locs ls F hS hH hl)
theorem gc_i2b {x : Int32} (hd : decode M.2.1 pc = .ok (.i2b, 1)) (k : GoC X d mc ms M (pc + 1) lc (.int (x.toInt8.toInt32) :: st) cn sn ce N Q) : GoC X d mc ms M pc lc (.int x :: st) cn sn ce N Q := fun p e s m args below meth c H locs ls F hS hH hl => lv_i2b F.2.1 F.2.2.1 hd rfl (k p e s m args below meth c H locs ls F hS hH hl)
theorem gc_i2s {x : Int32} (hd : decode M.2.1 pc = .ok (.i2s, 1)) (k : GoC X d mc ms M (pc + 1) lc (.int (x.toInt16.toInt32) :: st) cn sn ce N Q) : GoC X d mc ms M pc lc (.int x :: st) cn sn ce N Q := fun p e s m args below meth c H locs ls F hS hH hl => lv_i2s F.2.1 F.2.2.1 hd rfl (k p e s m args below meth c H locs ls F hS hH hl)
theorem gc_i2c {x : Int32} (hd : decode M.2.1 pc = .ok (.i2c, 1)) (k : GoC X d mc ms M (pc + 1) lc (.int ((x.toUInt32 % 65536).toInt32) :: st) cn sn ce N Q) : GoC X d mc ms M pc lc (.int x :: st) cn sn ce N Q := fun p e s m args below meth c H locs ls F hS hH hl => lv_i2c F.2.1 F.2.2.1 hd rfl (k p e s m args below meth c H locs ls F hS hH hl)
theorem gc_dup {va : Value} (hd : decode M.2.1 pc = .ok (.dup, 1)) (hc : va.category = 1) (k : GoC X d mc ms M (pc + 1) lc (va :: va :: st) cn sn ce N Q) : GoC X d mc ms M pc lc (va :: st) cn sn ce N Q := fun p e s m args below meth c H locs ls F hS hH hl => lv_dup F.2.1 F.2.2.1 hd hc (k p e s m args below meth c H locs ls F hS hH hl)
theorem gc_pop {va : Value} (hd : decode M.2.1 pc = .ok (.pop, 1)) (hc : va.category = 1) (k : GoC X d mc ms M (pc + 1) lc (st) cn sn ce N Q) : GoC X d mc ms M pc lc (va :: st) cn sn ce N Q := fun p e s m args below meth c H locs ls F hS hH hl => lv_pop F.2.1 F.2.2.1 hd hc (k p e s m args below meth c H locs ls F hS hH hl)
theorem gc_dup2 {va vb : Value} (hd : decode M.2.1 pc = .ok (.dup2, 1)) (hc : va.category = 1) (hc2 : vb.category = 1) (k : GoC X d mc ms M (pc + 1) lc (va :: vb :: va :: vb :: st) cn sn ce N Q) : GoC X d mc ms M pc lc (va :: vb :: st) cn sn ce N Q := fun p e s m args below meth c H locs ls F hS hH hl => lv_dup2_11 F.2.1 F.2.2.1 hd hc hc2 (k p e s m args below meth c H locs ls F hS hH hl)
theorem gc_null  (hd : decode M.2.1 pc = .ok (.aconst_null, 1)) (k : GoC X d mc ms M (pc + 1) lc (.null :: st) cn sn ce N Q) : GoC X d mc ms M pc lc (st) cn sn ce N Q := fun p e s m args below meth c H locs ls F hS hH hl => lv_null F.2.1 F.2.2.1 hd  (k p e s m args below meth c H locs ls F hS hH hl)
theorem gc_if_eq {x : Int32} {off : Int} (tgt : Nat) (hd : decode M.2.1 pc = .ok (.ifCond .eq off, 3)) (ht : (pc : Int) + off = (tgt : Int)) (kt : x = 0 → GoC X d mc ms M tgt lc st cn sn ce N Q) (kf : ¬ x = 0 → GoC X d mc ms M (pc + 3) lc st cn sn ce N Q) : GoC X d mc ms M pc lc (.int x :: st) cn sn ce N Q := fun p e s m args below meth c H locs ls F hS hH hl => lv_if_eq F.2.1 F.2.2.1 hd ht (fun h => kt h p e s m args below meth c H locs ls F hS hH hl) (fun h => kf h p e s m args below meth c H locs ls F hS hH hl)
theorem gc_icmp_eq {x y : Int32} {off : Int} (tgt : Nat) (hd : decode M.2.1 pc = .ok (.if_icmp .eq off, 3)) (ht : (pc : Int) + off = (tgt : Int)) (kt : x = y → GoC X d mc ms M tgt lc st cn sn ce N Q) (kf : ¬ x = y → GoC X d mc ms M (pc + 3) lc st cn sn ce N Q) : GoC X d mc ms M pc lc (.int y :: .int x :: st) cn sn ce N Q := fun p e s m args below meth c H locs ls F hS hH hl => lv_icmp_eq F.2.1 F.2.2.1 hd ht (fun h => kt h p e s m args below meth c H locs ls F hS hH hl) (fun h => kf h p e s m args below meth c H locs ls F hS hH hl)
theorem gc_if_ne {x : Int32} {off : Int} (tgt : Nat) (hd : decode M.2.1 pc = .ok (.ifCond .ne off, 3)) (ht : (pc : Int) + off = (tgt : Int)) (kt : ¬ x = 0 → GoC X d mc ms M tgt lc st cn sn ce N Q) (kf : x = 0 → GoC X d mc ms M (pc + 3) lc st cn sn ce N Q) : GoC X d mc ms M pc lc (.int x :: st) cn sn ce N Q := fun p e s m args below meth c H locs ls F hS hH hl => lv_if_ne F.2.1 F.2.2.1 hd ht (fun h => kt h p e s m args below meth c H locs ls F hS hH hl) (fun h => kf h p e s m args below meth c H locs ls F hS hH hl)
theorem gc_icmp_ne {x y : Int32} {off : Int} (tgt : Nat) (hd : decode M.2.1 pc = .ok (.if_icmp .ne off, 3)) (ht : (pc : Int) + off = (tgt : Int)) (kt : ¬ x = y → GoC X d mc ms M tgt lc st cn sn ce N Q) (kf : x = y → GoC X d mc ms M (pc + 3) lc st cn sn ce N Q) : GoC X d mc ms M pc lc (.int y :: .int x :: st) cn sn ce N Q := fun p e s m args below meth c H locs ls F hS hH hl => lv_icmp_ne F.2.1 F.2.2.1 hd ht (fun h => kt h p e s m args below meth c H locs ls F hS hH hl) (fun h => kf h p e s m args below meth c H locs ls F hS hH hl)
theorem gc_if_lt {x : Int32} {off : Int} (tgt : Nat) (hd : decode M.2.1 pc = .ok (.ifCond .lt off, 3)) (ht : (pc : Int) + off = (tgt : Int)) (kt : x < 0 → GoC X d mc ms M tgt lc st cn sn ce N Q) (kf : ¬ x < 0 → GoC X d mc ms M (pc + 3) lc st cn sn ce N Q) : GoC X d mc ms M pc lc (.int x :: st) cn sn ce N Q := fun p e s m args below meth c H locs ls F hS hH hl => lv_if_lt F.2.1 F.2.2.1 hd ht (fun h => kt h p e s m args below meth c H locs ls F hS hH hl) (fun h => kf h p e s m args below meth c H locs ls F hS hH hl)
theorem gc_icmp_lt {x y : Int32} {off : Int} (tgt : Nat) (hd : decode M.2.1 pc = .ok (.if_icmp .lt off, 3)) (ht : (pc : Int) + off = (tgt : Int)) (kt : x < y → GoC X d mc ms M tgt lc st cn sn ce N Q) (kf : ¬ x < y → GoC X d mc ms M (pc + 3) lc st cn sn ce N Q) : GoC X d mc ms M pc lc (.int y :: .int x :: st) cn sn ce N Q := fun p e s m args below meth c H locs ls F hS hH hl => lv_icmp_lt F.2.1 F.2.2.1 hd ht (fun h => kt h p e s m args below meth c H locs ls F hS hH hl) (fun h => kf h p e s m args below meth c H locs ls F hS hH hl)
theorem gc_if_ge {x : Int32} {off : Int} (tgt : Nat) (hd : decode M.2.1 pc = .ok (.ifCond .ge off, 3)) (ht : (pc : Int) + off = (tgt : Int)) (kt : 0 ≤ x → GoC X d mc ms M tgt lc st cn sn ce N Q) (kf : ¬ 0 ≤ x → GoC X d mc ms M (pc + 3) lc st cn sn ce N Q) : GoC X d mc ms M pc lc (.int x :: st) cn sn ce N Q := fun p e s m args below meth c H locs ls F hS hH hl => lv_if_ge F.2.1 F.2.2.1 hd ht (fun h => kt h p e s m args below meth c H locs ls F hS hH hl) (fun h => kf h p e s m args below meth c H locs ls F hS hH hl)
theorem gc_icmp_ge {x y : Int32} {off : Int} (tgt : Nat) (hd : decode M.2.1 pc = .ok (.if_icmp .ge off, 3)) (ht : (pc : Int) + off = (tgt : Int)) (kt : y ≤ x → GoC X d mc ms M tgt lc st cn sn ce N Q) (kf : ¬ y ≤ x → GoC X d mc ms M (pc + 3) lc st cn sn ce N Q) : GoC X d mc ms M pc lc (.int y :: .int x :: st) cn sn ce N Q := fun p e s m args below meth c H locs ls F hS hH hl => lv_icmp_ge F.2.1 F.2.2.1 hd ht (fun h => kt h p e s m args below meth c H locs ls F hS hH hl) (fun h => kf h p e s m args below meth c H locs ls F hS hH hl)
theorem gc_if_gt {x : Int32} {off : Int} (tgt : Nat) (hd : decode M.2.1 pc = .ok (.ifCond .gt off, 3)) (ht : (pc : Int) + off = (tgt : Int)) (kt : 0 < x → GoC X d mc ms M tgt lc st cn sn ce N Q) (kf : ¬ 0 < x → GoC X d mc ms M (pc + 3) lc st cn sn ce N Q) : GoC X d mc ms M pc lc (.int x :: st) cn sn ce N Q := fun p e s m args below meth c H locs ls F hS hH hl => lv_if_gt F.2.1 F.2.2.1 hd ht (fun h => kt h p e s m args below meth c H locs ls F hS hH hl) (fun h => kf h p e s m args below meth c H locs ls F hS hH hl)
theorem gc_icmp_gt {x y : Int32} {off : Int} (tgt : Nat) (hd : decode M.2.1 pc = .ok (.if_icmp .gt off, 3)) (ht : (pc : Int) + off = (tgt : Int)) (kt : y < x → GoC X d mc ms M tgt lc st cn sn ce N Q) (kf : ¬ y < x → GoC X d mc ms M (pc + 3) lc st cn sn ce N Q) : GoC X d mc ms M pc lc (.int y :: .int x :: st) cn sn ce N Q := fun p e s m args below meth c H locs ls F hS hH hl => lv_icmp_gt F.2.1 F.2.2.1 hd ht (fun h => kt h p e s m args below meth c H locs ls F hS hH hl) (fun h => kf h p e s m args below meth c H locs ls F hS hH hl)
theorem gc_if_le {x : Int32} {off : Int} (tgt : Nat) (hd : decode M.2.1 pc = .ok (.ifCond .le off, 3)) (ht : (pc : Int) + off = (tgt : Int)) (kt : x ≤ 0 → GoC X d mc ms M tgt lc st cn sn ce N Q) (kf : ¬ x ≤ 0 → GoC X d mc ms M (pc + 3) lc st cn sn ce N Q) : GoC X d mc ms M pc lc (.int x :: st) cn sn ce N Q := fun p e s m args below meth c H locs ls F hS hH hl => lv_if_le F.2.1 F.2.2.1 hd ht (fun h => kt h p e s m args below meth c H locs ls F hS hH hl) (fun h => kf h p e s m args below meth c H locs ls F hS hH hl)
theorem gc_icmp_le {x y : Int32} {off : Int} (tgt : Nat) (hd : decode M.2.1 pc = .ok (.if_icmp .le off, 3)) (ht : (pc : Int) + off = (tgt : Int)) (kt : x ≤ y → GoC X d mc ms M tgt lc st cn sn ce N Q) (kf : ¬ x ≤ y → GoC X d mc ms M (pc + 3) lc st cn sn ce N Q) : GoC X d mc ms M pc lc (.int y :: .int x :: st) cn sn ce N Q := fun p e s m args below meth c H locs ls F hS hH hl => lv_icmp_le F.2.1 F.2.2.1 hd ht (fun h => kt h p e s m args below meth c H locs ls F hS hH hl) (fun h => kf h p e s m args below meth c H locs ls F hS hH hl)
theorem gc_goto {off : Int} (tgt : Nat) (hd : decode M.2.1 pc = .ok (.goto off, 3)) (ht : (pc : Int) + off = (tgt : Int)) (k : GoC X d mc ms M tgt lc st cn sn ce N Q) : GoC X d mc ms M pc lc st cn sn ce N Q := fun p e s m args below meth c H locs ls F hS hH hl => lv_goto F.2.1 F.2.2.1 hd ht (k p e s m args below meth c H locs ls F hS hH hl)
theorem gc_ifnonnull {x : Nat} {off : Int} (tgt : Nat) (hd : decode M.2.1 pc = .ok (.ifnonnull off, 3)) (ht : (pc : Int) + off = (tgt : Int)) (k : GoC X d mc ms M tgt lc st cn sn ce N Q) : GoC X d mc ms M pc lc (.ref x :: st) cn sn ce N Q := fun p e s m args below meth c H locs ls F hS hH hl => lv_ifnonnull F.2.1 F.2.2.1 hd ht (k p e s m args below meth c H locs ls F hS hH hl)
theorem gc_ifnonnullN {off : Int} (hd : decode M.2.1 pc = .ok (.ifnonnull off, 3)) (k : GoC X d mc ms M (pc + 3) lc st cn sn ce N Q) : GoC X d mc ms M pc lc (.null :: st) cn sn ce N Q := fun p e s m args below meth c H locs ls F hS hH hl => lv_ifnonnullN F.2.1 F.2.2.1 hd (k p e s m args below meth c H locs ls F hS hH hl)
theorem gc_lookup {dflt : Int} {ps : Array (Int × Int)} {len : Nat} {x : Int32} {off : Int} (tgt : Nat) (hd : decode M.2.1 pc = .ok (.lookupswitch dflt ps, len)) (hp : (ps.toList.zip (ps.toList.drop 1)).all (fun (a, next) => a.1 < next.1) = true) (ho : Op.lookupswitch.offset ps.toList dflt x.toInt = off) (ht : (pc : Int) + off = (tgt : Int)) (k : GoC X d mc ms M tgt lc st cn sn ce N Q) : GoC X d mc ms M pc lc (.int x :: st) cn sn ce N Q := fun p e s m args below meth c H locs ls F hS hH hl => lv_lookup F.2.1 F.2.2.1 hd hp ho ht (k p e s m args below meth c H locs ls F hS hH hl)
theorem gc_tabOut {dflt lo hi : Int} {offs : Array Int} {len : Nat} {x : Int32} (tgt : Nat) (hd : decode M.2.1 pc = .ok (.tableswitch dflt lo hi offs, len)) (h : x.toInt < lo ∨ hi < x.toInt) (ht : (pc : Int) + dflt = (tgt : Int)) (k : GoC X d mc ms M tgt lc st cn sn ce N Q) : GoC X d mc ms M pc lc (.int x :: st) cn sn ce N Q := fun p e s m args below meth c H locs ls F hS hH hl => lv_tableOut F.2.1 F.2.2.1 hd h ht (k p e s m args below meth c H locs ls F hS hH hl)
theorem gc_tabIn {dflt lo hi : Int} {offs : Array Int} {len : Nat} {x : Int32} {off : Int} (tgt : Nat) (hd : decode M.2.1 pc = .ok (.tableswitch dflt lo hi offs, len)) (h1 : ¬ x.toInt < lo) (h2 : ¬ hi < x.toInt) (ho : offs[(x.toInt - lo).toNat]? = some off) (ht : (pc : Int) + off = (tgt : Int)) (k : GoC X d mc ms M tgt lc st cn sn ce N Q) : GoC X d mc ms M pc lc (.int x :: st) cn sn ce N Q := fun p e s m args below meth c H locs ls F hS hH hl => lv_tableIn F.2.1 F.2.2.1 hd h1 h2 ho ht (k p e s m args below meth c H locs ls F hS hH hl)
theorem gc_ldc {index : Nat} {v : Int32} (hd : decode M.2.1 pc = .ok (.ldc index, 2)) (hw : Cond.constant M.1.cls index v ∈ lw_tbl) (k : GoC X d mc ms M (pc + 2) lc (.int v :: st) cn sn ce N Q) : GoC X d mc ms M pc lc st cn sn ce N Q := fun p e s m args below meth c H locs ls F hS hH hl => lv_ldc F.2.1 F.2.2.1 F.2.2.2.2.2.2.1 (cx_w F.1 F.2.2.2.2.2.2.2.1 hw rfl) hd (k p e s m args below meth c H locs ls F hS hH hl)
theorem gc_ldcw {index : Nat} {v : Int32} (hd : decode M.2.1 pc = .ok (.ldc_w index, 3)) (hw : Cond.constant M.1.cls index v ∈ lw_tbl) (k : GoC X d mc ms M (pc + 3) lc (.int v :: st) cn sn ce N Q) : GoC X d mc ms M pc lc st cn sn ce N Q := fun p e s m args below meth c H locs ls F hS hH hl => lv_ldcw F.2.1 F.2.2.1 F.2.2.2.2.2.2.1 (cx_w F.1 F.2.2.2.2.2.2.2.1 hw rfl) hd (k p e s m args below meth c H locs ls F hS hH hl)
theorem gc_istore_n {q : Fin 4} {x : Int32} (hd : decode M.2.1 pc = .ok (.istore_n q, 1)) (hi : (q : Nat) < M.2.2.1) (k : GoC X d mc ms M (pc + 1) (lc.set (q : Nat) (some (.int x))) st cn sn ce N Q) : GoC X d mc ms M pc lc (.int x :: st) cn sn ce N Q := by
  intro p e s m args below meth c H locs ls F hS hH hl
  obtain ⟨ls', e1, h1⟩ := hl.store (v := .int x) hi rfl
  have kk := k p e s m args below meth c H locs ls' F hS hH h1
  intro T hT Y
  obtain ⟨t, a, b⟩ := kk T hT Y
  refine ⟨t, ?_, b⟩
  have hex := F.2.1
  have hb := F.2.2.1
  jvm_step Y.here [Y.here.top, ↓top_set Y.here.top, hex, hb, hd, e1, Value.isRef]
  exact a
theorem gc_istore {i : Nat} {x : Int32} (hd : decode M.2.1 pc = .ok (.istore i, 2)) (hi : i < M.2.2.1) (k : GoC X d mc ms M (pc + 2) (lc.set i (some (.int x))) st cn sn ce N Q) : GoC X d mc ms M pc lc (.int x :: st) cn sn ce N Q := by
  intro p e s m args below meth c H locs ls F hS hH hl
  obtain ⟨ls', e1, h1⟩ := hl.store (v := .int x) hi rfl
  have kk := k p e s m args below meth c H locs ls' F hS hH h1
  intro T hT Y
  obtain ⟨t, a, b⟩ := kk T hT Y
  refine ⟨t, ?_, b⟩
  have hex := F.2.1
  have hb := F.2.2.1
  jvm_step Y.here [Y.here.top, ↓top_set Y.here.top, hex, hb, hd, e1, Value.isRef]
  exact a
theorem gc_astore_n {q : Fin 4} {x : Nat} (hd : decode M.2.1 pc = .ok (.astore_n q, 1)) (hi : (q : Nat) < M.2.2.1) (k : GoC X d mc ms M (pc + 1) (lc.set (q : Nat) (some (.ref x))) st cn sn ce N Q) : GoC X d mc ms M pc lc (.ref x :: st) cn sn ce N Q := by
  intro p e s m args below meth c H locs ls F hS hH hl
  obtain ⟨ls', e1, h1⟩ := hl.store (v := .ref x) hi rfl
  have kk := k p e s m args below meth c H locs ls' F hS hH h1
  intro T hT Y
  obtain ⟨t, a, b⟩ := kk T hT Y
  refine ⟨t, ?_, b⟩
  have hex := F.2.1
  have hb := F.2.2.1
  jvm_step Y.here [Y.here.top, ↓top_set Y.here.top, hex, hb, hd, e1, Value.isRef]
  exact a
theorem gc_astore {i : Nat} {x : Nat} (hd : decode M.2.1 pc = .ok (.astore i, 2)) (hi : i < M.2.2.1) (k : GoC X d mc ms M (pc + 2) (lc.set i (some (.ref x))) st cn sn ce N Q) : GoC X d mc ms M pc lc (.ref x :: st) cn sn ce N Q := by
  intro p e s m args below meth c H locs ls F hS hH hl
  obtain ⟨ls', e1, h1⟩ := hl.store (v := .ref x) hi rfl
  have kk := k p e s m args below meth c H locs ls' F hS hH h1
  intro T hT Y
  obtain ⟨t, a, b⟩ := kk T hT Y
  refine ⟨t, ?_, b⟩
  have hex := F.2.1
  have hb := F.2.2.1
  jvm_step Y.here [Y.here.top, ↓top_set Y.here.top, hex, hb, hd, e1, Value.isRef]
  exact a
theorem gc_iinc {i : Nat} {n : Int} {x v : Int32} (hd : decode M.2.1 pc = .ok (.iinc i n, 3)) (hv : lc[i]? = some (some (.int x))) (he : x + Int32.ofInt n = v) (hi : i < M.2.2.1) (k : GoC X d mc ms M (pc + 3) (lc.set i (some (.int v))) st cn sn ce N Q) : GoC X d mc ms M pc lc st cn sn ce N Q := by
  intro p e s m args below meth c H locs ls F hS hH hl
  obtain ⟨ls', e1, h1⟩ := hl.store (v := .int v) hi rfl
  have kk := k p e s m args below meth c H locs ls' F hS hH h1
  subst he
  have hg := (hl.2.2 _ _ hv).1
  intro T hT Y
  obtain ⟨t, a, b⟩ := kk T hT Y
  refine ⟨t, ?_, b⟩
  have hex := F.2.1
  have hb := F.2.2.1
  jvm_step Y.here [Y.here.top, ↓top_set Y.here.top, hex, hb, hd, hg, e1]
  exact a
end GC
