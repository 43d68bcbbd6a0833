/-! men by lot; when one falls; as what one had best be -/
def ltG (a : Rw) (zv1 zv2 zv3 zv4 : Int32) : Rw := comS (upd a 0 zv4) (dv zv1 - dv zv1 / 6 * 6) (dv zv2 - dv zv2 / 100 * 100) (dv zv3 - dv zv3 / 100 * 100) (dv zv4 - dv zv4 / 8 * 8)
def lotS (a : Rw) : Rw := ltG a (zN (a 0)) (zN (zN (a 0))) (zN (zN (zN (a 0)))) (zN (zN (zN (zN (a 0)))))
theorem rem_rg {z : Int32} {d : Nat} (hd : 0 < d) (hd2 : d ≤ 1000) : Rg (dv z - dv z / nI d * nI d) (d - 1) := by
  have hl := dvN_lt z
  rw [dv_eq, pk_rem (by omega) hd (by omega)]
  have hm := Nat.mod_lt (dvN z) hd
  exact ⟨_, by omega, rfl⟩
theorem ltG_f {a : Rw} {zv1 zv2 zv3 zv4 : Int32} (h : WfR a) (hn : nm a < 9) : WfR (ltG a zv1 zv2 zv3 zv4) ∧ nm (ltG a zv1 zv2 zv3 zv4) = nm a + 1 := by
  have n0 : nm (upd a 0 zv4) = nm a := nm_upd (by omega)
  have h0 : WfR (upd a 0 zv4) := ⟨h.1.put (by omega) (by omega), h.2.1.eq (fun q hq => pk_un (by omega)), fun q hq => by rw [pk_un (by omega)]; exact h.2.2.1 q hq, by rw [pk_un (by omega)]; exact h.2.2.2⟩
  refine ⟨h0.com (by rw [n0]; exact hn) (rem_rg (d := 6) (by omega) (by omega)) (rem_rg (d := 100) (by omega) (by omega)) (rem_rg (d := 100) (by omega) (by omega)) (rem_rg (d := 8) (by omega) (by omega)), ?_⟩
  unfold ltG
  rw [comS_n h0.1, n0]
theorem s_lot {k : Nat} (hk : 1 ≤ k) (hk2 : k + 13 ≤ 40) {a : Rw} {mem : Mm} {K : Mm → Prop} (zv1 zv2 zv3 zv4 : Int32) (hz1 : zN (a 0) = zv1) (hz2 : zN zv1 = zv2) (hz3 : zN zv2 = zv3) (hz4 : zN zv3 = zv4) (hw : Wm a) (hn : nm a < 9) (hA : AlA mem k a) (hK : ∀ m, Fr (PAl k) mem m → AlA m k (ltG a zv1 zv2 zv3 zv4) → K m) : W_X0_takeByLot k mem K := by
  have h9 := hw.2.1
  have nu : ∀ x : Int32, nm (upd a 0 x) ≤ 9 := fun x => by rw [nm_upd (by omega)]; exact h9
  have eu : ∀ x : Int32, upd a 0 x 0 = x := fun x => pk_us
  have uu : ∀ x y : Int32, upd (upd a 0 x) 0 y = upd a 0 y := fun x y => upd_upd _ _ _ _
  unfold W_X0_takeByLot
  refine s_draw hk hk2 h9 hA (fun m1 f1 A1 => ?_)
  rw [hz1] at A1 ⊢
  refine s_draw hk hk2 (nu _) A1 (fun m2 f2 A2 => ?_)
  rw [eu, hz2] at A2 ⊢
  rw [uu] at A2
  refine s_draw hk hk2 (nu _) A2 (fun m3 f3 A3 => ?_)
  rw [eu, hz3] at A3 ⊢
  rw [uu] at A3
  refine s_draw hk hk2 (nu _) A3 (fun m4 f4 A4 => ?_)
  rw [eu, hz4] at A4 ⊢
  rw [uu] at A4
  refine s_take hk hk2 (hw.put (by omega) (by omega)) (by rw [nm_upd (by omega)]; exact hn) A4 (fun m5 f5 A5 => hK m5 ((((f1.trans f2).trans f3).trans f4).trans f5) A5)
theorem s_lot9 {mem : Mm} {K : Mm → Prop} (zv1 zv2 zv3 zv4 : Int32) (hz1 : zN (mem 83 0) = zv1) (hz2 : zN zv1 = zv2) (hz3 : zN zv2 = zv3) (hz4 : zN zv3 = zv4) (hw : Wm (mem 83)) (hn : nm (mem 83) < 9) (hK : ∀ m, Fr P83 mem m → m 83 = ltG (mem 83) zv1 zv2 zv3 zv4 → K m) : W_X9_draw mem (fun v_32 m_32 => W_X9_draw m_32 (fun v_40 m_40 => W_X9_draw m_40 (fun v_49 m_49 => W_X9_draw m_49 (fun v_64 m_64 => W_X9_comes (v_32 - v_32 / 6 * 6) (v_40 - v_40 / 100 * 100) (v_49 - v_49 / 100 * 100) (v_64 - v_64 / 8 * 8) m_64 (fun v_70 m_70 => K m_70))))) := by
  have h9 := hw.2.1
  have eu : ∀ x : Int32, upd (mem 83) 0 x 0 = x := fun x => pk_us
  have uu : ∀ x y : Int32, upd (upd (mem 83) 0 x) 0 y = upd (mem 83) 0 y := fun x y => upd_upd _ _ _ _
  refine s_draw9 (fun m1 f1 q1 => ?_)
  rw [hz1] at q1 ⊢
  have x1 : m1 83 0 = zv1 := by rw [q1]; exact eu _
  refine s_draw9 (fun m2 f2 q2 => ?_)
  rw [x1, hz2] at q2 ⊢
  rw [q1, uu] at q2
  have x2 : m2 83 0 = zv2 := by rw [q2]; exact eu _
  refine s_draw9 (fun m3 f3 q3 => ?_)
  rw [x2, hz3] at q3 ⊢
  rw [q2, uu] at q3
  have x3 : m3 83 0 = zv3 := by rw [q3]; exact eu _
  refine s_draw9 (fun m4 f4 q4 => ?_)
  rw [x3, hz4] at q4 ⊢
  rw [q3, uu] at q4
  have n4 : nm (m4 83) = nm (mem 83) := by rw [q4]; exact nm_upd (by omega)
  refine s_comes (by rw [q4]; exact hw.put (by omega) (by omega)) (by rw [n4]; exact hn) (fun m5 f5 e5 => hK m5 ((((f1.trans f2).trans f3).trans f4).trans f5) ?_)
  rw [e5, q4]
  rfl
def ltN : Nat → Rw → Rw
  | 0, a => a
  | r + 1, a => ltN r (lotS a)
theorem lotS_f {a : Rw} (h : WfR a) (hn : nm a < 9) : WfR (lotS a) ∧ nm (lotS a) = nm a + 1 := ltG_f h hn
theorem l_deal8 {p0 : Int32} {K : Int32 → Mm → Prop} {N : Nat} (hN : N ≤ 9) : ∀ (r i : Nat) (a : Rw) (mem : Mm), i + r = N → WfR a → nm a + r ≤ 9 → AlA mem 1 a → (∀ m, Fr (PAl 1) mem m → AlA m 1 (ltN r a) → WfR (ltN r a) → K (nI N) m) → L_X8_deal_30 p0 K (r + 1) (nI N) (nI i) mem := by
  intro r
  induction r with
  | zero =>
    intro i a mem hi hR hn hA hK
    unfold L_X8_deal_30
    exact ct1 (nI_le (by omega) (by omega)) (hK mem (Fr.refl _ _) hA hR)
  | succ r ih =>
    intro i a mem hi hR hn hA hK
    obtain ⟨b1, b2⟩ := lotS_f hR (by omega)
    unfold L_X8_deal_30
    refine cf1 (nI_ge (by omega) (by omega)) (s_lot (by omega) (by omega) _ _ _ _ rfl rfl rfl rfl hR.1 (by omega) hA (fun m f1 A1 => ?_))
    rw [nI_1]
    exact ih (i + 1) (lotS a) m (by omega) b1 (by omega) A1 (fun m2 f2 A2 R2 => hK m2 (f1.trans f2) A2 R2)
theorem l_deal9 {p0 : Int32} {K : Int32 → Mm → Prop} {N w : Nat} (hN : N ≤ 9) (hw9 : w ≤ 9) (hNw : N ≤ w) : ∀ (r i : Nat) (mem : Mm), i + r = N → WfR (mem 83) → nm (mem 83) + r ≤ 9 → (N = w ∨ nm (mem 83) + r = 9) → (∀ m, Fr P83 mem m → m 83 = ltN r (mem 83) → K (nI N) m) → L_X9_deal_15 p0 K (r + 1) (nI w) (nI i) mem := by
  intro r
  induction r with
  | zero =>
    intro i mem hi hR hn ho hK
    have c0 : i = N := by omega
    unfold L_X9_deal_15
    rw [c0]
    have kk := hK mem (Fr.refl _ _) rfl
    refine ⟨fun _ => kk, fun hc => ?_⟩
    rcases ho with ho | ho
    · exact absurd (nI_le (by omega) (by omega)) hc
    · refine ct1 ?_ kk
      rw [hR.1.1]
      exact nI_le (a := 9) (by omega) (by omega)
  | succ r ih =>
    intro i mem hi hR hn ho hK
    obtain ⟨b1, b2⟩ := lotS_f hR (by omega)
    unfold L_X9_deal_15
    refine cf1 (nI_ge (by omega) (by omega)) (cf1 (by rw [hR.1.1]; exact nI_ge (b := 9) (by omega) (by omega)) (s_lot9 _ _ _ _ rfl rfl rfl rfl hR.1 (by omega) (fun m f1 e1 => ?_)))
    have e2 : m 83 = lotS (mem 83) := e1
    rw [nI_1]
    exact ih (i + 1) m (by omega) (by rw [e2]; exact b1) (by rw [e2]; omega) (by rw [e2]; omega) (fun m2 f2 em2 => hK m2 (f1.trans f2) (by rw [em2, e2]; rfl))
theorem ak_deal {c : Nat} (w0 : Int32) (mem : Mm) (h : Iv c mem) : W_X8_deal w0 mem (fun v m => W_X9_deal w0 m (fun v2 m2 => v = v2 ∧ Iv (c + 1) m2)) := by
  obtain ⟨hA, hR⟩ := h.1
  have hw := hR.1
  have hW := hR.2.1
  have h9 := hw.2.1
  have ek : mem 1 1 = nI (nm (mem 83)) := by rw [hA.1.1]; exact hw.1
  unfold W_X8_deal
  by_cases c1 : 1 ≤ w0 ∧ w0 ≤ 9
  · have c1b := c1
    obtain ⟨n, hn1, hn2, rfl⟩ := Rg.lo (l := 1) (n := 9) rfl rfl c1
    refine s_iw_y c1b ?_
    first | refine zt1 ?_ | refine zt2 ?_
    intro y ey
    have e9 : 9 - nI (nm (mem 83)) = nI (9 - nm (mem 83)) := pk_sub (a := 9) h9
    have hmin : min n (9 - nm (mem 83)) ≤ 9 - nm (mem 83) := Nat.min_le_right _ _
    have hmin2 : min n (9 - nm (mem 83)) ≤ n := Nat.min_le_left _ _
    have hy : y = nI (min n (9 - nm (mem 83))) := by
      rw [ey, ek, e9]
      by_cases c2 : 9 - nm (mem 83) < n
      · rw [if_pos (nI_lt c2 (by omega)), Nat.min_eq_right (by omega)]
      · rw [if_neg (nI_nlt (by omega) (by omega)), Nat.min_eq_left (by omega)]
    rw [hy]
    refine ⟨min n (9 - nm (mem 83)) + 1, l_deal8 (by omega) (min n (9 - nm (mem 83))) 0 (mem 83) mem (by omega) hR (by omega) hA (fun m f1 A1 R1 => ?_)⟩
    have q1 : m 83 = mem 83 := f1.c 83 (by omega) (by omega)
    show W_X9_deal _ _ _
    unfold W_X9_deal
    refine s_in_y c1b ?_
    first | refine zt1 ?_ | refine zt2 ?_
    refine ⟨min n (9 - nm (mem 83)) + 1, l_deal9 (N := min n (9 - nm (mem 83))) (by omega) (by omega) (by omega) (min n (9 - nm (mem 83))) 0 m (by omega) (by rw [q1]; exact hR) (by rw [q1]; omega) (by rw [q1]; omega) (fun m2 f2 e2 => ?_)⟩
    rw [q1] at e2
    exact ⟨rfl, fin1 h (fC f1) A1 (fR f2) e2 R1⟩
  · refine s_iw_n c1 ?_
    first | refine zf1 ?_ | refine zf2 ?_
    show W_X9_deal _ _ _
    unfold W_X9_deal
    refine s_in_n c1 ?_
    first | refine zf1 ?_ | refine zf2 ?_
    exact ⟨rfl, h.up⟩
/-! FELLED never goes back -/
def MoR (a b : Rw) : Prop := ∀ i, i < nm a → a (7 + 6 * i + 4) ≤ b (7 + 6 * i + 4)
theorem i_le_refl (x : Int32) : x ≤ x := by rw [Int32.le_iff_toInt_le]; omega
theorem i_le_trans {x y z : Int32} (h1 : x ≤ y) (h2 : y ≤ z) : x ≤ z := by
  rw [Int32.le_iff_toInt_le] at h1 h2 ⊢
  omega
theorem MoR.rf (a : Rw) : MoR a a := fun i _ => i_le_refl _
theorem MoR.tr {a b d : Rw} (h : MoR a b) (k : MoR b d) (hn : nm b = nm a) : MoR a d := fun i hi => i_le_trans (h i hi) (k i (by rw [hn]; exact hi))
theorem dnS_mo {a : Rw} {j : Nat} (hw : Wm a) : MoR a (dnS a j) := by
  intro i hi
  obtain ⟨z, hz, ez⟩ : Rg (a (7 + 6 * i + 4)) 9999 := hw.2.2 i 4 hi (by omega)
  by_cases c1 : i = j
  · subst c1
    unfold dnS
    rw [pk_un (by omega), pk_us, ez, nI_1]
    unfold clampI
    rw [if_neg (nI_pos (by omega))]
    by_cases c2 : (9999 : Int32) < nI (z + 1)
    · rw [if_pos c2]; exact nI_le (b := 9999) hz (by omega)
    · rw [if_neg c2]; exact nI_le (by omega) (by omega)
  · unfold dnS
    rw [pk_un (by omega), pk_un (by omega), pk_un (by omega)]
    exact i_le_refl _
theorem hitG_mo {rc : Rw → Nat → Rw} {a : Rw} {j : Nat} {t push : Int32} (hw : Wm a) (hrc : ∀ b i, Wm b → i < nm b → MoR b (rc b i)) : MoR a (hitG rc a j t push) := by
  unfold hitG
  split
  · rename_i hc
    exact hrc a j hw hc.1
  · exact MoR.rf a
theorem drF_mo {t u : Int32} : ∀ (n : Nat) (a : Rw) (i : Nat), Wm a → i < nm a → MoR a (drF n a i t u) := by
  intro n
  induction n with
  | zero => intro a i _ _; exact MoR.rf a
  | succ n ih =>
    intro a i hw hi
    have h9 := hw.2.1
    obtain ⟨d1, d2⟩ := dnS_ok (i := i) hw (by omega)
    have dm := dnS_mo (j := i) hw
    have hL : ∀ p : Int32, (MoR a (if u = 1 then dnS a i else hitG (fun b j => drF n b j t u) (dnS a i) (nxL i) t p) ∧ Wm (if u = 1 then dnS a i else hitG (fun b j => drF n b j t u) (dnS a i) (nxL i) t p)) ∧ nm (if u = 1 then dnS a i else hitG (fun b j => drF n b j t u) (dnS a i) (nxL i) t p) = nm a := by
      intro p
      split
      · exact ⟨⟨dm, d1⟩, d2.en⟩
      · obtain ⟨g1, g2⟩ := hitG_ok (rc := fun b j => drF n b j t u) (j := nxL i) (t := t) (push := p) d1 (drF_ok n)
        exact ⟨⟨dm.tr (hitG_mo d1 ih) d2.en, g1⟩, g2.en.trans d2.en⟩
    unfold drF
    obtain ⟨⟨l1, l2⟩, l3⟩ := hL (pushS (a (7 + 6 * i + 0)) (a (7 + 6 * i + 2)))
    split
    · exact l1
    · exact l1.tr (hitG_mo l2 ih) l3
theorem goS_mo {a : Rw} (hw : Wm a) : MoR a (goS a) := by
  intro i hi
  obtain ⟨a1, a2, a3⟩ := upS_w hw
  have su : suS a (7 + 6 * i + 4) = a (7 + 6 * i + 4) := by
    unfold suS
    rw [pk_un (by omega), pk_un (by omega), suN_k (by omega)]
  have u4 : upS a (7 + 6 * i + 4) = a (7 + 6 * i + 4) := by
    unfold upS
    split
    · exact su
    · split
      · exact su
      · rfl
  have t4 : ∀ z : Int32, a (7 + 6 * i + 4) ≤ toS (upS a) z (7 + 6 * i + 4) := by
    intro z
    have e0 : upd (upS a) 0 (z4 z) (7 + 6 * i + 4) = a (7 + 6 * i + 4) := (pk_un (by omega)).trans u4
    unfold toS
    split
    · rw [e0]; exact i_le_refl _
    · have mm := hitG_mo (rc := fun b j => drF 12 b j (tpS z) (tuS z)) (j := fsF (upd (upS a) 0 (z4 z)) (nm (upS a)) (dvN (z4 z) % nm (upS a)) (nm (upS a)) 0) (t := tpS z) (push := fcS z) (a1.put (k := 0) (v := z4 z) (by omega) (by omega)) (drF_mo 12) i (by rw [nm_upd (by omega), a2]; exact hi)
      rw [e0] at mm
      exact mm
  have e1 : goS a (7 + 6 * i + 4) = toS (upS a) (upS a 0) (7 + 6 * i + 4) := by
    unfold goS mvS
    rw [pk_un (by omega), pk_un (by omega), mvN_k (by omega)]
  rw [e1]
  exact t4 _
def faF (i : Nat) (had : Int32) : Nat → Nat → Rw → Int32
  | 0, _, _ => -1000000005
  | r + 1, l, b => if goS b (7 + 6 * i + 4) ≤ had then faF i had r (l + 1) (goS b) else nI l
theorem l_falls8 {p0 : Int32} {K : Int32 → Mm → Prop} {i : Nat} {had : Int32} (hi9 : i < 9) : ∀ (r l : Nat) (b : Rw) (mem : Mm), l + r = 201 → i < nm b → Wm b → Wt b → AlA mem 27 b → mem (1 + 4 + i) 4 = had → (∀ m, Fr (PAl 27) mem m → K (faF i had r l b) m) → L_X8_falls_27 p0 K (r + 1) (nI i) (nI l) mem := by
  intro r
  induction r with
  | zero =>
    intro l b mem hl hi hw hW hA hh hK
    unfold L_X8_falls_27
    exact ct1 (nI_lt (a := 200) (b := l) (by omega) (by omega)) (hK mem (Fr.refl _ _))
  | succ r ih =>
    intro l b mem hl hi hw hW hA hh hK
    obtain ⟨a1, a2, a3⟩ := goS_w hw
    unfold L_X8_falls_27
    refine cf1 (nI_nlt (a := 200) (b := l) (by omega) (by omega)) (s_goOnce (by omega) (by omega) hw hW hA (fun m f1 A1 => ⟨i, rfl, hi9, i, rfl, hi9, ?_⟩))
    have hh2 : m (1 + 4 + i) 4 = had := by rw [f1.c (1 + 4 + i) (by omega) (by omega)]; exact hh
    rw [A1.1.2 i 4 (by rw [a2]; exact hi) (by omega), hh2]
    unfold faF at hK
    refine ⟨fun hc => ?_, fun hc => ?_⟩
    · rw [nI_1]
      refine ih (l + 1) (goS b) m (by omega) (by rw [a2]; exact hi) a1 (hW.eq a3) A1 hh2 (fun m2 f2 => ?_)
      have kk := hK m2 (f1.trans f2)
      rw [if_pos hc] at kk
      exact kk
    · have kk := hK m f1
      rw [if_neg hc] at kk
      exact kk
theorem l_falls9 {p0 : Int32} {K : Int32 → Mm → Prop} {i : Nat} {had : Int32} {a : Rw} (hi9 : i < 9) : ∀ (r l : Nat) (mem : Mm), l + r = 200 → i < nm (mem 83) → Wm (mem 83) → Wt (mem 83) → mem 83 (7 + 6 * i + 4) = had → (∀ j, j < 1433 → mem 85 j = a j) → (∀ j, 1433 ≤ j → mem 83 j = a j) → (∀ m, Fr (fun q => q = 83 ∨ q = 95 ∨ q = 96) mem m → m 83 = a → K (faF i had r (l + 1) (mem 83)) m) → L_X9_falls_24 p0 K (r + 3) (nI i) had (nI l) mem := by
  intro r
  induction r with
  | zero =>
    intro l mem hl hi hw hW hh h85 h83 hK
    obtain ⟨a1, a2, a3⟩ := goS_w hw
    unfold L_X9_falls_24
    refine cf1 (nI_nlt (a := 200) (b := l) (by omega) (by omega)) ?_
    refine s_X9_of (i := i) (j := 4) hi9 (by omega) ?_
    rw [hh]
    refine ct2 rfl (s_aGo hw hW (fun m f1 e1 => ?_))
    unfold L_X9_falls_24
    rw [nI_1]
    refine ct1 (nI_lt (a := 200) (b := l + 1) (by omega) (by omega)) (s_putsBack (a := a) (fun j hj => by rw [f1.c 85 (by omega) (by omega)]; exact h85 j hj) (fun j hj => by rw [e1, a3 j (by omega)]; exact h83 j hj) (fun m2 f2 e2 => ?_))
    exact cf1 (nI_ge (a := 200) (b := l + 1) (by omega) (by omega)) (hK m2 (f1.trans (f2.mono (fun q hq => by omega))) e2)
  | succ r ih =>
    intro l mem hl hi hw hW hh h85 h83 hK
    obtain ⟨a1, a2, a3⟩ := goS_w hw
    unfold L_X9_falls_24
    refine cf1 (nI_nlt (a := 200) (b := l) (by omega) (by omega)) ?_
    refine s_X9_of (i := i) (j := 4) hi9 (by omega) ?_
    rw [hh]
    refine ct2 rfl (s_aGo hw hW (fun m f1 e1 => ?_))
    have g85 : ∀ j, j < 1433 → m 85 j = a j := fun j hj => by rw [f1.c 85 (by omega) (by omega)]; exact h85 j hj
    have g83 : ∀ j, 1433 ≤ j → m 83 j = a j := fun j hj => by rw [e1, a3 j (by omega)]; exact h83 j hj
    have mo : had ≤ goS (mem 83) (7 + 6 * i + 4) := by rw [← hh]; exact goS_mo hw i hi
    unfold faF at hK
    rw [nI_1]
    by_cases hc : goS (mem 83) (7 + 6 * i + 4) ≤ had
    · have he : goS (mem 83) (7 + 6 * i + 4) = had := Int32.le_antisymm hc mo
      refine ih (l + 1) m (by omega) (by rw [e1, a2]; exact hi) (by rw [e1]; exact a1) (by rw [e1]; exact hW.eq a3) (by rw [e1]; exact he) g85 g83 (fun m2 f2 e2 => ?_)
      have kk := hK m2 (f1.trans f2) e2
      rw [if_pos hc] at kk
      rw [e1]
      exact kk
    · unfold L_X9_falls_24
      refine cf1 (nI_nlt (a := 200) (b := l + 1) (by omega) (by omega)) ?_
      refine s_X9_of (i := i) (j := 4) hi9 (by omega) ?_
      rw [e1]
      refine cf2 (fun z => hc (by rw [z]; exact i_le_refl _)) (s_putsBack (a := a) g85 g83 (fun m2 f2 e2 => ?_))
      have kk := hK m2 (f1.trans (f2.mono (fun q hq => by omega))) e2
      rw [if_neg hc] at kk
      exact ct1 (nI_le (a := l + 1) (b := 200) (by omega) (by omega)) kk
theorem ak_falls {c : Nat} (w0 : Int32) (mem : Mm) (h : Iv c mem) : W_X8_falls w0 mem (fun v m => W_X9_falls w0 m (fun v2 m2 => v = v2 ∧ Iv (c + 1) m2)) := by
  obtain ⟨hA, hR⟩ := h.1
  have hw := hR.1
  have hW := hR.2.1
  have h9 := hw.2.1
  have ek : mem 1 1 = nI (nm (mem 83)) := by rw [hA.1.1]; exact hw.1
  unfold W_X8_falls
  rcases man_or hw w0 with hn | ⟨i, hi, rfl⟩
  · refine s_has_n ek hn ?_
    first | refine zf1 ?_ | refine zf2 ?_
    show W_X9_falls _ _ _
    unfold W_X9_falls
    refine s_isMan_n hw.1 h9 hn ?_
    first | refine zf1 ?_ | refine zf2 ?_
    exact ⟨rfl, h.up⟩
  · refine s_has_y ek h9 hi ?_
    first | refine zt1 ?_ | refine zt2 ?_
    refine s_becomeAs (by omega) (by omega) (fun q a1 a2 => by omega) (by omega) hw hW hA (fun m f1 A1 => ?_)
    refine ⟨200 + 1, l_falls8 (had := mem 83 (7 + 6 * i + 4)) (by omega) 200 1 (mem 83) m (by omega) hi hw hW A1 (by rw [f1.c (1 + 4 + i) (by omega) (by omega)]; exact hA.1.2 i 4 hi (by omega)) (fun m1 f2 => ?_)⟩
    have f12 : Fr PTh mem m1 := (fT27 f1).trans (fT27 f2)
    have q1 : m1 83 = mem 83 := (f1.trans f2).c 83 (by omega) (by omega)
    show W_X9_falls _ _ _
    unfold W_X9_falls
    refine s_isMan_y (n := nm (mem 83)) (by rw [q1]; exact hw.1) h9 hi ?_
    first | refine zt1 ?_ | refine zt2 ?_
    refine s_thinks (fun m2 f3 e3 => ?_)
    have q2 : m2 83 = mem 83 := by rw [f3.c 83 (by omega) (by omega)]; exact q1
    refine s_X9_of (i := i) (j := 4) (by omega) (by omega) ⟨200 + 3, ?_⟩
    refine l_falls9 (a := mem 83) (had := m2 83 (7 + 6 * i + 4)) (by omega) 200 0 m2 (by omega) (by rw [q2]; exact hi) (by rw [q2]; exact hw) (by rw [q2]; exact hW) rfl (fun j hj => by rw [e3 j hj, q1]) (fun j hj => by rw [q2]) (fun m3 f4 e4 => ⟨by rw [q2], h.th ?_ e4⟩)
    exact (f12.trans (f3.mono (fun q hq => by omega))).trans (fT f4)
/-! as what one had best be -/
def beV (a : Rw) (i n kd : Nat) : Int32 := goN n (upd a (7 + 6 * i + 0) (nI kd)) (7 + 6 * i + 4)
def beK (a : Rw) (i n : Nat) : Nat → Nat
  | 0 => 0
  | k + 1 => if beV a i n (beK a i n k) ≤ beV a i n (k + 1) then beK a i n k else k + 1
theorem beK_le (a : Rw) (i n k : Nat) : beK a i n k ≤ k := by
  induction k with
  | zero => exact Nat.le_refl _
  | succ k ih => unfold beK; split <;> omega
theorem kd_w {a : Rw} {i kd : Nat} (hw : Wm a) (hkd : kd ≤ 5) : Wm (upd a (7 + 6 * i + 0) (nI kd)) := hw.set (by omega) ⟨kd, hkd, rfl⟩
set_option maxHeartbeats 4000000 in
theorem l_becomes8 {p0 p1 p2 w2 : Int32} {K : Int32 → Mm → Prop} {i n : Nat} {a : Rw} (hn : n ≤ 60) (hw : Wm a) (hW : Wt a) (hi : i < nm a) : ∀ (r kd : Nat) (mem : Mm), kd + r = 5 → AlA mem 1 a → (∀ m, Fr (PAl 27) mem m → K (if w2 = 0 then nI (beK a i n 5) else beV a i n (beK a i n 5)) m) → L_X8_becomes_44 p0 p1 p2 K (r + 1) (nI i) (nI n) w2 (nI (beK a i n kd)) (beV a i n (beK a i n kd)) (nI (kd + 1)) mem := by
  intro r
  have h9 := hw.2.1
  induction r with
  | zero =>
    intro kd mem hk hA hK
    have c0 : kd = 5 := by omega
    subst c0
    have kk := hK mem (Fr.refl _ _)
    unfold L_X8_becomes_44
    refine ct1 (by decide) ⟨fun hc => ?_, fun hc => ?_⟩
    · rw [if_neg hc] at kk; exact kk
    · rw [if_pos hc] at kk; exact kk
  | succ r ih =>
    intro kd mem hk hA hK
    unfold L_X8_becomes_44
    refine cf1 (nI_ge (a := kd + 1) (b := 6) (by omega) (by omega)) (s_becomeAs (by omega) (by omega) (fun q a1 a2 => by omega) (by omega) hw hW hA (fun m f1 A1 => ⟨i, rfl, by omega, fun m2 e2 => ?_⟩))
    have A2 : AlA m2 27 (upd a (7 + 6 * i + 0) (nI (kd + 1))) := by rw [e2]; exact A1.man (by omega) (by omega) h9 hi (by omega)
    have f2 : Fr (PAl 27) mem m2 := by rw [e2]; exact f1.trans (Fr.m1 _ _ _ ⟨by omega, by omega⟩ (by omega))
    have w2k : Wm (upd a (7 + 6 * i + 0) (nI (kd + 1))) := kd_w hw (by omega)
    obtain ⟨b1, b2, b3⟩ := goN_w n _ w2k
    refine s_goOn (by omega) (by omega) (by omega) w2k (hW.eq (fun q hq => pk_un (by omega))) A2 (fun m3 f3 A3 => ⟨i, rfl, by omega, ?_⟩)
    rw [A3.1.2 i 4 (by rw [b2, nm_upd (by omega)]; exact hi) (by omega)]
    have f13 : Fr (PAl 27) mem m3 := f2.trans f3
    have A13 : AlA m3 1 a := hA.fr f13 h9 (by omega) (by omega) (fun q a1 a2 => by omega) (fun q a1 => by omega)
    have nx := ih (kd + 1) m3 (by omega) A13 (fun m4 f4 => hK m4 (f13.trans f4))
    have eb : beK a i n (kd + 1) = if beV a i n (beK a i n kd) ≤ beV a i n (kd + 1) then beK a i n kd else kd + 1 := rfl
    rw [nI_1 (kd + 1)]
    refine ⟨fun hc => ?_, fun hc => ?_⟩
    · have hc2 : beV a i n (beK a i n kd) ≤ beV a i n (kd + 1) := hc
      rw [eb, if_pos hc2] at nx; exact nx
    · have hc2 : ¬ beV a i n (beK a i n kd) ≤ beV a i n (kd + 1) := hc
      rw [eb, if_neg hc2] at nx; exact nx
set_option maxHeartbeats 4000000 in
theorem l_becomes9 {p0 p1 p2 w2 : Int32} {K : Int32 → Mm → Prop} {i n : Nat} {a : Rw} (hn : n ≤ 60) (hw : Wm a) (hW : Wt a) (hi : i < nm a) : ∀ (r kd : Nat) (mem : Mm), kd + r = 5 → mem 83 = a → (∀ j, j < 1433 → mem 85 j = a j) → (∀ m, Fr P83 mem m → m 83 = a → K (if w2 = 0 then nI (beK a i n 5) else beV a i n (beK a i n 5)) m) → L_X9_becomes_43 p0 p1 p2 K (r + 1) (nI i) (nI n) w2 (nI (beK a i n kd)) (beV a i n (beK a i n kd)) (nI (kd + 1)) mem := by
  intro r
  have h9 := hw.2.1
  induction r with
  | zero =>
    intro kd mem hk h83 h85 hK
    have c0 : kd = 5 := by omega
    subst c0
    have kk := hK mem (Fr.refl _ _) h83
    unfold L_X9_becomes_43
    refine ct1 (by decide) ⟨fun hc => ?_, fun hc => ?_⟩
    · rw [if_neg hc] at kk; exact kk
    · rw [if_pos hc] at kk; exact kk
  | succ r ih =>
    intro kd mem hk h83 h85 hK
    have hbl := beK_le a i n kd
    unfold L_X9_becomes_43
    refine cf1 (nI_nlt (a := 5) (b := kd + 1) (by omega) (by omega)) ?_
    refine s_X9_put (i := i) (j := 0) (by omega) (by omega) ?_
    have e1 : mu mem 83 (7 + 6 * i + 0) (nI (kd + 1)) 83 = upd a (7 + 6 * i + 0) (nI (kd + 1)) := by rw [mu_row_s, h83]
    have w2k : Wm (upd a (7 + 6 * i + 0) (nI (kd + 1))) := kd_w hw (by omega)
    obtain ⟨b1, b2, b3⟩ := goN_w n _ w2k
    refine s_goesOn (by omega) (by rw [e1]; exact w2k) (by rw [e1]; exact hW.eq (fun q hq => pk_un (by omega))) (fun m f1 e2 => ?_)
    rw [e1] at e2
    have f0 : Fr P83 mem m := (Fr.m1 _ _ _ (Or.inl rfl) (by omega)).trans f1
    have g85 : ∀ j, j < 1433 → m 85 j = a j := fun j hj => by rw [f0.c 85 (by omega) (by omega)]; exact h85 j hj
    have g83 : ∀ j, 1433 ≤ j → m 83 j = a j := fun j hj => by rw [e2, b3 j (by omega), pk_un (by omega)]
    refine cf1 (nI_pos (by omega)) ?_
    refine s_X9_of (i := i) (j := 4) (by omega) (by omega) ?_
    rw [e2]
    have eb : beK a i n (kd + 1) = if beV a i n (beK a i n kd) ≤ beV a i n (kd + 1) then beK a i n kd else kd + 1 := rfl
    refine ⟨fun hc => ?_, fun hc => ?_⟩
    · unfold B_X9_becomes_97
      refine ct1 rfl (s_putsBack (a := a) g85 g83 (fun m2 f2 e3 => ?_))
      have nx := ih (kd + 1) m2 (by omega) e3 (fun j hj => by rw [f2.c 85 (by omega) (by omega)]; exact g85 j hj) (fun m4 f4 e4 => hK m4 ((f0.trans (f2.mono (fun q hq => by omega))).trans f4) e4)
      rw [nI_1 (kd + 1)]
      have hc2 : beV a i n (beK a i n kd) ≤ beV a i n (kd + 1) := hc
      rw [eb, if_pos hc2] at nx
      exact nx
    · unfold B_X9_becomes_97
      refine cf1 (by decide) ?_
      refine s_X9_of (i := i) (j := 4) (by omega) (by omega) ?_
      rw [e2]
      refine s_putsBack (a := a) g85 g83 (fun m2 f2 e3 => ?_)
      have nx := ih (kd + 1) m2 (by omega) e3 (fun j hj => by rw [f2.c 85 (by omega) (by omega)]; exact g85 j hj) (fun m4 f4 e4 => hK m4 ((f0.trans (f2.mono (fun q hq => by omega))).trans f4) e4)
      rw [nI_1 (kd + 1)]
      have hc2 : ¬ beV a i n (beK a i n kd) ≤ beV a i n (kd + 1) := hc
      rw [eb, if_neg hc2] at nx
      exact nx
set_option maxHeartbeats 4000000 in
theorem ak_becomes {c : Nat} (w0 w1 w2 : Int32) (mem : Mm) (h : Iv c mem) : W_X8_becomes w0 w1 w2 mem (fun v m => W_X9_becomes w0 w1 w2 m (fun v2 m2 => v = v2 ∧ Iv (c + 1) m2)) := by
  obtain ⟨hA, hR⟩ := h.1
  have hw := hR.1
  have hW := hR.2.1
  have h9 := hw.2.1
  have ek : mem 1 1 = nI (nm (mem 83)) := by rw [hA.1.1]; exact hw.1
  unfold W_X8_becomes
  rcases man_or hw w0 with hn | ⟨i, hi, rfl⟩
  · refine s_has_n ek hn ?_
    first | refine zf1 ?_ | refine zf2 ?_
    show W_X9_becomes _ _ _ _ _
    unfold W_X9_becomes
    refine s_isMan_n hw.1 h9 hn ?_
    first | refine zf1 ?_ | refine zf2 ?_
    exact ⟨rfl, h.up⟩
  · refine s_has_y ek h9 hi ?_
    first | refine zt1 ?_ | refine zt2 ?_
    by_cases c1 : 1 ≤ w1 ∧ w1 ≤ 60
    · refine s_iw_y c1 ?_
      first | refine zt1 ?_ | refine zt2 ?_
      by_cases c2 : 0 ≤ w2 ∧ w2 ≤ 1
      · refine s_iw_y c2 ?_
        first | refine zt1 ?_ | refine zt2 ?_
        have c1b := c1
        obtain ⟨n, hn1, hn2, rfl⟩ := Rg.lo (l := 1) (n := 60) rfl rfl c1
        have w0k : Wm (upd (mem 83) (7 + 6 * i + 0) (nI 0)) := kd_w hw (by omega)
        obtain ⟨b1, b2, b3⟩ := goN_w n _ w0k
        have hi0 : i < nm (goN n (upd (mem 83) (7 + 6 * i + 0) (nI 0))) := by rw [b2, nm_upd (by omega)]; exact hi
        have r0 : Rg (beV (mem 83) i n 0) 9999 := b1.2.2 i 4 hi0 (by omega)
        have ref : ∀ m : Mm, Fr PTh mem m → m 83 = mem 83 → W_X9_becomes (nI i) (nI n) w2 m (fun v2 m2 => (if w2 = 0 then nI (beK (mem 83) i n 5) else beV (mem 83) i n (beK (mem 83) i n 5)) = v2 ∧ Iv (c + 1) m2) := by
          intro m f1 q1
          unfold W_X9_becomes
          refine s_isMan_y (n := nm (mem 83)) (by rw [q1]; exact hw.1) h9 hi ?_
          first | refine zt1 ?_ | refine zt2 ?_
          refine s_in_y c1b ?_
          first | refine zt1 ?_ | refine zt2 ?_
          refine s_in_y c2 ?_
          first | refine zt1 ?_ | refine zt2 ?_
          refine s_thinks (fun m2 f3 e3 => ⟨5 + 1 + 1, ?_⟩)
          have q2 : m2 83 = mem 83 := by rw [f3.c 83 (by omega) (by omega)]; exact q1
          have k85 : ∀ j, j < 1433 → m2 85 j = mem 83 j := fun j hj => by rw [e3 j hj, q1]
          unfold L_X9_becomes_43
          refine cf1 (by decide) ?_
          refine s_X9_put (i := i) (j := 0) (by omega) (by omega) ?_
          have e1 : mu m2 83 (7 + 6 * i + 0) 0 83 = upd (mem 83) (7 + 6 * i + 0) (nI 0) := by rw [mu_row_s, q2]; rfl
          refine s_goesOn (by omega) (by rw [e1]; exact w0k) (by rw [e1]; exact hW.eq (fun q hq => pk_un (by omega))) (fun m3 f4 e4 => ?_)
          rw [e1] at e4
          have f0 : Fr P83 m2 m3 := (Fr.m1 _ _ _ (Or.inl rfl) (by omega)).trans f4
          have g85 : ∀ j, j < 1433 → m3 85 j = mem 83 j := fun j hj => by rw [f0.c 85 (by omega) (by omega)]; exact k85 j hj
          have g83 : ∀ j, 1433 ≤ j → m3 83 j = mem 83 j := fun j hj => by rw [e4, b3 j (by omega), pk_un (by omega)]
          refine ct1 (by decide) ?_
          unfold B_X9_becomes_97
          refine cf1 (by decide) ?_
          refine s_X9_of (i := i) (j := 4) (by omega) (by omega) ?_
          rw [e4]
          refine s_putsBack (a := mem 83) g85 g83 (fun m4 f5 e5 => ?_)
          refine l_becomes9 (a := mem 83) hn2 hw hW hi 5 0 m4 (by omega) e5 (fun j hj => by rw [f5.c 85 (by omega) (by omega)]; exact g85 j hj) (fun m5 f6 e6 => ⟨rfl, h.th ?_ e6⟩)
          exact (((f1.trans (f3.mono (fun q hq => by omega))).trans (fT f0)).trans (f5.mono (fun q hq => by omega))).trans (fT f6)
        refine ⟨5 + 1 + 1, ?_⟩
        unfold L_X8_becomes_44
        refine cf1 (by decide) (s_becomeAs (by omega) (by omega) (fun q a1 a2 => by omega) (by omega) hw hW hA (fun m f1 A1 => ⟨i, rfl, by omega, fun m2 e2 => ?_⟩))
        have A2 : AlA m2 27 (upd (mem 83) (7 + 6 * i + 0) (nI 0)) := by rw [e2]; exact A1.man (by omega) (by omega) h9 hi (by omega)
        have f2 : Fr (PAl 27) mem m2 := by rw [e2]; exact f1.trans (Fr.m1 _ _ _ ⟨by omega, by omega⟩ (by omega))
        refine s_goOn (by omega) (by omega) (by omega) w0k (hW.eq (fun q hq => pk_un (by omega))) A2 (fun m3 f3 A3 => ⟨i, rfl, by omega, ?_⟩)
        rw [A3.1.2 i 4 hi0 (by omega)]
        have f13 : Fr (PAl 27) mem m3 := f2.trans f3
        have A13 : AlA m3 1 (mem 83) := hA.fr f13 h9 (by omega) (by omega) (fun q a1 a2 => by omega) (fun q a1 => by omega)
        obtain ⟨z, hz, ez⟩ := r0
        have ez2 : goN n (upd (mem 83) (7 + 6 * i + 0) (nI 0)) (7 + 6 * i + 4) = nI z := ez
        refine cf1 (by rw [ez2]; exact nI_ge (b := 10000) (by omega) (by omega)) ?_
        refine l_becomes8 (a := mem 83) hn2 hw hW hi 5 0 m3 (by omega) A13 (fun m4 f4 => ?_)
        exact ref m4 (fT27 (f13.trans f4)) ((f13.trans f4).c 83 (by omega) (by omega))
      · refine s_iw_n c2 ?_
        first | refine zf1 ?_ | refine zf2 ?_
        show W_X9_becomes _ _ _ _ _
        unfold W_X9_becomes
        refine s_isMan_y hw.1 h9 hi ?_
        first | refine zt1 ?_ | refine zt2 ?_
        refine s_in_y c1 ?_
        first | refine zt1 ?_ | refine zt2 ?_
        refine s_in_n c2 ?_
        first | refine zf1 ?_ | refine zf2 ?_
        exact ⟨rfl, h.up⟩
    · refine s_iw_n c1 ?_
      first | refine zf1 ?_ | refine zf2 ?_
      show W_X9_becomes _ _ _ _ _
      unfold W_X9_becomes
      refine s_isMan_y hw.1 h9 hi ?_
      first | refine zt1 ?_ | refine zt2 ?_
      refine s_in_n c1 ?_
      first | refine zf1 ?_ | refine zf2 ?_
      exact ⟨rfl, h.up⟩
