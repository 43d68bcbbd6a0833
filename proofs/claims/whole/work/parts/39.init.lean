/-! the numbers of a fresh pair -/
def mem0 : Mm := fun q j =>
  if (q = 1 ∨ q = 14 ∨ q = 27) ∧ j = 6 then 1
  else if (q = 4 ∨ q = 17 ∨ q = 30) ∧ j < 3 then -1000000005
  else if (q = 3 ∨ q = 16 ∨ q = 29) ∧ j < 14 then -1
  else if q = 45 ∧ j = 5 then 1
  else if (q = 54 ∨ q = 56 ∨ q = 58 ∨ q = 60 ∨ q = 64 ∨ q = 68 ∨ q = 72 ∨ q = 76 ∨ q = 80) ∧ j = 0 then -1
  else if q = 83 ∧ j = 0 then 1
  else if q = 90 then [98, 101, 97, 114, 115, 102, 101, 101, 102, 105, 110, 101].getD j 0
  else if q = 91 then [0, 5, 8, 12].getD j 0
  else if q = 97 ∧ j < 4 then -1
  else 0
theorem sz_mem0 : sz mem0 = 106 := by decide +kernel
theorem txr_m1 (X : CX) : txr X (-1) = none := by
  unfold txr
  rw [if_pos (by decide)]
theorem va_at_extR {D : va_G} {cl : List vw_C} {a n : Nat} {cA : ClassId} {f g : Nat → Option Nat} {H : Heap} (h : va_at D cl (a, .inl (cA, n, .inr (.inr (.inr (.inr f))))) H) (he : ∀ j, j < n → f j = g j) : va_at D cl (a, .inl (cA, n, .inr (.inr (.inr (.inr g))))) H := by
  have h1 : H[a]? = some (vp_cell cA (n, .inr (.inr (.inr (.inr f))))) := h
  show H[a]? = some (vp_cell cA (n, .inr (.inr (.inr (.inr g)))))
  rw [h1, vp_cell_q, vp_cell_q]
  have h2 : (Array.ofFn (n := n) fun j => va_rf (f j.val)) = Array.ofFn (n := n) fun j => va_rf (g j.val) := by
    congr 1
    funext j
    rw [he j.val j.isLt]
  simp only [arrV, h2]
set_option maxRecDepth 100000 in
set_option maxHeartbeats 4000000 in
theorem i0_0 (X : CX) (H : Heap) (hat : va_at (cx_D X) vwCl (cx_n X + 0, .inr (8, [.ref (cx_n X + 1), .ref (cx_n X + 14), .ref (cx_n X + 27), .int 0, .ref (cx_n X + 40), .ref (cx_n X + 45), .ref (cx_n X + 46), .ref (cx_n X + 50), .ref (cx_n X + 51), .ref (cx_n X + 52), .int 0, .ref (cx_n X + 53)])) H) : va_at (cx_D X) vwCl (cx_n X + 0, cellAt X mem0 0) H := by
  exact hat
set_option maxRecDepth 100000 in
set_option maxHeartbeats 4000000 in
theorem i0_1 (X : CX) (H : Heap) (hat : va_at (cx_D X) vwCl (cx_n X + 1, .inr (0, [.ref (cx_n X + 2), .int 0, .int 0, .int 0, .int 0, .int 0, .int 1, .ref (cx_n X + 3), .int 0, .ref (cx_n X + 4)])) H) : va_at (cx_D X) vwCl (cx_n X + 1, cellAt X mem0 1) H := by
  exact hat
set_option maxRecDepth 100000 in
set_option maxHeartbeats 4000000 in
theorem i0_2 (X : CX) (H : Heap) (hat : va_at (cx_D X) vwCl (cx_n X + 2, .inl (cx_a X 4, 9, .inr (.inr (.inr (.inr (va_up (va_up (va_up (va_up (va_up (va_up (va_up (va_up (va_up (fun _ => none) 0 (some (cx_n X + 5))) 1 (some (cx_n X + 6))) 2 (some (cx_n X + 7))) 3 (some (cx_n X + 8))) 4 (some (cx_n X + 9))) 5 (some (cx_n X + 10))) 6 (some (cx_n X + 11))) 7 (some (cx_n X + 12))) 8 (some (cx_n X + 13)))))))) H) : va_at (cx_D X) vwCl (cx_n X + 2, cellAt X mem0 2) H := by
  rw [cell_rf kd_2]
  exact va_at_extR hat (fun j hj => by rcases (show j = 0 ∨ j = 1 ∨ j = 2 ∨ j = 3 ∨ j = 4 ∨ j = 5 ∨ j = 6 ∨ j = 7 ∨ j = 8 by omega) with rfl | rfl | rfl | rfl | rfl | rfl | rfl | rfl | rfl <;> rfl)
set_option maxRecDepth 100000 in
set_option maxHeartbeats 4000000 in
theorem i0_3 (X : CX) (H : Heap) (hat : va_at (cx_D X) vwCl (cx_n X + 3, .inl (cx_a X 5, 14, .inr (.inr (.inr (.inr (fun _ => none)))))) H) : va_at (cx_D X) vwCl (cx_n X + 3, cellAt X mem0 3) H := by
  rw [cell_tx kd_3]
  refine va_at_extR hat (fun j hj => ?_)
  have e9 : mem0 3 j = -1 := by simp [mem0, hj]
  rw [e9, txr_m1]
set_option maxRecDepth 100000 in
set_option maxHeartbeats 4000000 in
theorem i0_4 (X : CX) (H : Heap) (hat : va_at (cx_D X) vwCl (cx_n X + 4, .inl (cx_a X 0, 3, .inl (upd (upd (upd (fun _ => 0) 0 (-1000000005)) 1 (-1000000005)) 2 (-1000000005)))) H) : va_at (cx_D X) vwCl (cx_n X + 4, cellAt X mem0 4) H := by
  rw [cell_ar kd_4]
  exact va_at_ext hat (fun j hj => by rcases (show j = 0 ∨ j = 1 ∨ j = 2 by omega) with rfl | rfl | rfl <;> rfl)
set_option maxRecDepth 100000 in
set_option maxHeartbeats 4000000 in
theorem i0_5 (X : CX) (H : Heap) (hat : va_at (cx_D X) vwCl (cx_n X + 5, .inr (1, [.int 0, .int 0, .int 0, .int 0, .int 0, .int 0])) H) : va_at (cx_D X) vwCl (cx_n X + 5, cellAt X mem0 5) H := by
  exact hat
set_option maxRecDepth 100000 in
set_option maxHeartbeats 4000000 in
theorem i0_6 (X : CX) (H : Heap) (hat : va_at (cx_D X) vwCl (cx_n X + 6, .inr (1, [.int 0, .int 0, .int 0, .int 0, .int 0, .int 0])) H) : va_at (cx_D X) vwCl (cx_n X + 6, cellAt X mem0 6) H := by
  exact hat
set_option maxRecDepth 100000 in
set_option maxHeartbeats 4000000 in
theorem i0_7 (X : CX) (H : Heap) (hat : va_at (cx_D X) vwCl (cx_n X + 7, .inr (1, [.int 0, .int 0, .int 0, .int 0, .int 0, .int 0])) H) : va_at (cx_D X) vwCl (cx_n X + 7, cellAt X mem0 7) H := by
  exact hat
set_option maxRecDepth 100000 in
set_option maxHeartbeats 4000000 in
theorem i0_8 (X : CX) (H : Heap) (hat : va_at (cx_D X) vwCl (cx_n X + 8, .inr (1, [.int 0, .int 0, .int 0, .int 0, .int 0, .int 0])) H) : va_at (cx_D X) vwCl (cx_n X + 8, cellAt X mem0 8) H := by
  exact hat
set_option maxRecDepth 100000 in
set_option maxHeartbeats 4000000 in
theorem i0_9 (X : CX) (H : Heap) (hat : va_at (cx_D X) vwCl (cx_n X + 9, .inr (1, [.int 0, .int 0, .int 0, .int 0, .int 0, .int 0])) H) : va_at (cx_D X) vwCl (cx_n X + 9, cellAt X mem0 9) H := by
  exact hat
set_option maxRecDepth 100000 in
set_option maxHeartbeats 4000000 in
theorem i0_10 (X : CX) (H : Heap) (hat : va_at (cx_D X) vwCl (cx_n X + 10, .inr (1, [.int 0, .int 0, .int 0, .int 0, .int 0, .int 0])) H) : va_at (cx_D X) vwCl (cx_n X + 10, cellAt X mem0 10) H := by
  exact hat
set_option maxRecDepth 100000 in
set_option maxHeartbeats 4000000 in
theorem i0_11 (X : CX) (H : Heap) (hat : va_at (cx_D X) vwCl (cx_n X + 11, .inr (1, [.int 0, .int 0, .int 0, .int 0, .int 0, .int 0])) H) : va_at (cx_D X) vwCl (cx_n X + 11, cellAt X mem0 11) H := by
  exact hat
set_option maxRecDepth 100000 in
set_option maxHeartbeats 4000000 in
theorem i0_12 (X : CX) (H : Heap) (hat : va_at (cx_D X) vwCl (cx_n X + 12, .inr (1, [.int 0, .int 0, .int 0, .int 0, .int 0, .int 0])) H) : va_at (cx_D X) vwCl (cx_n X + 12, cellAt X mem0 12) H := by
  exact hat
set_option maxRecDepth 100000 in
set_option maxHeartbeats 4000000 in
theorem i0_13 (X : CX) (H : Heap) (hat : va_at (cx_D X) vwCl (cx_n X + 13, .inr (1, [.int 0, .int 0, .int 0, .int 0, .int 0, .int 0])) H) : va_at (cx_D X) vwCl (cx_n X + 13, cellAt X mem0 13) H := by
  exact hat
set_option maxRecDepth 100000 in
set_option maxHeartbeats 4000000 in
theorem i0_14 (X : CX) (H : Heap) (hat : va_at (cx_D X) vwCl (cx_n X + 14, .inr (0, [.ref (cx_n X + 15), .int 0, .int 0, .int 0, .int 0, .int 0, .int 1, .ref (cx_n X + 16), .int 0, .ref (cx_n X + 17)])) H) : va_at (cx_D X) vwCl (cx_n X + 14, cellAt X mem0 14) H := by
  exact hat
set_option maxRecDepth 100000 in
set_option maxHeartbeats 4000000 in
theorem i0_15 (X : CX) (H : Heap) (hat : va_at (cx_D X) vwCl (cx_n X + 15, .inl (cx_a X 4, 9, .inr (.inr (.inr (.inr (va_up (va_up (va_up (va_up (va_up (va_up (va_up (va_up (va_up (fun _ => none) 0 (some (cx_n X + 18))) 1 (some (cx_n X + 19))) 2 (some (cx_n X + 20))) 3 (some (cx_n X + 21))) 4 (some (cx_n X + 22))) 5 (some (cx_n X + 23))) 6 (some (cx_n X + 24))) 7 (some (cx_n X + 25))) 8 (some (cx_n X + 26)))))))) H) : va_at (cx_D X) vwCl (cx_n X + 15, cellAt X mem0 15) H := by
  rw [cell_rf kd_15]
  exact va_at_extR hat (fun j hj => by rcases (show j = 0 ∨ j = 1 ∨ j = 2 ∨ j = 3 ∨ j = 4 ∨ j = 5 ∨ j = 6 ∨ j = 7 ∨ j = 8 by omega) with rfl | rfl | rfl | rfl | rfl | rfl | rfl | rfl | rfl <;> rfl)
set_option maxRecDepth 100000 in
set_option maxHeartbeats 4000000 in
theorem i0_16 (X : CX) (H : Heap) (hat : va_at (cx_D X) vwCl (cx_n X + 16, .inl (cx_a X 5, 14, .inr (.inr (.inr (.inr (fun _ => none)))))) H) : va_at (cx_D X) vwCl (cx_n X + 16, cellAt X mem0 16) H := by
  rw [cell_tx kd_16]
  refine va_at_extR hat (fun j hj => ?_)
  have e9 : mem0 16 j = -1 := by simp [mem0, hj]
  rw [e9, txr_m1]
set_option maxRecDepth 100000 in
set_option maxHeartbeats 4000000 in
theorem i0_17 (X : CX) (H : Heap) (hat : va_at (cx_D X) vwCl (cx_n X + 17, .inl (cx_a X 0, 3, .inl (upd (upd (upd (fun _ => 0) 0 (-1000000005)) 1 (-1000000005)) 2 (-1000000005)))) H) : va_at (cx_D X) vwCl (cx_n X + 17, cellAt X mem0 17) H := by
  rw [cell_ar kd_17]
  exact va_at_ext hat (fun j hj => by rcases (show j = 0 ∨ j = 1 ∨ j = 2 by omega) with rfl | rfl | rfl <;> rfl)
set_option maxRecDepth 100000 in
set_option maxHeartbeats 4000000 in
theorem i0_18 (X : CX) (H : Heap) (hat : va_at (cx_D X) vwCl (cx_n X + 18, .inr (1, [.int 0, .int 0, .int 0, .int 0, .int 0, .int 0])) H) : va_at (cx_D X) vwCl (cx_n X + 18, cellAt X mem0 18) H := by
  exact hat
set_option maxRecDepth 100000 in
set_option maxHeartbeats 4000000 in
theorem i0_19 (X : CX) (H : Heap) (hat : va_at (cx_D X) vwCl (cx_n X + 19, .inr (1, [.int 0, .int 0, .int 0, .int 0, .int 0, .int 0])) H) : va_at (cx_D X) vwCl (cx_n X + 19, cellAt X mem0 19) H := by
  exact hat
set_option maxRecDepth 100000 in
set_option maxHeartbeats 4000000 in
theorem i0_20 (X : CX) (H : Heap) (hat : va_at (cx_D X) vwCl (cx_n X + 20, .inr (1, [.int 0, .int 0, .int 0, .int 0, .int 0, .int 0])) H) : va_at (cx_D X) vwCl (cx_n X + 20, cellAt X mem0 20) H := by
  exact hat
set_option maxRecDepth 100000 in
set_option maxHeartbeats 4000000 in
theorem i0_21 (X : CX) (H : Heap) (hat : va_at (cx_D X) vwCl (cx_n X + 21, .inr (1, [.int 0, .int 0, .int 0, .int 0, .int 0, .int 0])) H) : va_at (cx_D X) vwCl (cx_n X + 21, cellAt X mem0 21) H := by
  exact hat
set_option maxRecDepth 100000 in
set_option maxHeartbeats 4000000 in
theorem i0_22 (X : CX) (H : Heap) (hat : va_at (cx_D X) vwCl (cx_n X + 22, .inr (1, [.int 0, .int 0, .int 0, .int 0, .int 0, .int 0])) H) : va_at (cx_D X) vwCl (cx_n X + 22, cellAt X mem0 22) H := by
  exact hat
set_option maxRecDepth 100000 in
set_option maxHeartbeats 4000000 in
theorem i0_23 (X : CX) (H : Heap) (hat : va_at (cx_D X) vwCl (cx_n X + 23, .inr (1, [.int 0, .int 0, .int 0, .int 0, .int 0, .int 0])) H) : va_at (cx_D X) vwCl (cx_n X + 23, cellAt X mem0 23) H := by
  exact hat
set_option maxRecDepth 100000 in
set_option maxHeartbeats 4000000 in
theorem i0_24 (X : CX) (H : Heap) (hat : va_at (cx_D X) vwCl (cx_n X + 24, .inr (1, [.int 0, .int 0, .int 0, .int 0, .int 0, .int 0])) H) : va_at (cx_D X) vwCl (cx_n X + 24, cellAt X mem0 24) H := by
  exact hat
set_option maxRecDepth 100000 in
set_option maxHeartbeats 4000000 in
theorem i0_25 (X : CX) (H : Heap) (hat : va_at (cx_D X) vwCl (cx_n X + 25, .inr (1, [.int 0, .int 0, .int 0, .int 0, .int 0, .int 0])) H) : va_at (cx_D X) vwCl (cx_n X + 25, cellAt X mem0 25) H := by
  exact hat
set_option maxRecDepth 100000 in
set_option maxHeartbeats 4000000 in
theorem i0_26 (X : CX) (H : Heap) (hat : va_at (cx_D X) vwCl (cx_n X + 26, .inr (1, [.int 0, .int 0, .int 0, .int 0, .int 0, .int 0])) H) : va_at (cx_D X) vwCl (cx_n X + 26, cellAt X mem0 26) H := by
  exact hat
set_option maxRecDepth 100000 in
set_option maxHeartbeats 4000000 in
theorem i0_27 (X : CX) (H : Heap) (hat : va_at (cx_D X) vwCl (cx_n X + 27, .inr (0, [.ref (cx_n X + 28), .int 0, .int 0, .int 0, .int 0, .int 0, .int 1, .ref (cx_n X + 29), .int 0, .ref (cx_n X + 30)])) H) : va_at (cx_D X) vwCl (cx_n X + 27, cellAt X mem0 27) H := by
  exact hat
set_option maxRecDepth 100000 in
set_option maxHeartbeats 4000000 in
theorem i0_28 (X : CX) (H : Heap) (hat : va_at (cx_D X) vwCl (cx_n X + 28, .inl (cx_a X 4, 9, .inr (.inr (.inr (.inr (va_up (va_up (va_up (va_up (va_up (va_up (va_up (va_up (va_up (fun _ => none) 0 (some (cx_n X + 31))) 1 (some (cx_n X + 32))) 2 (some (cx_n X + 33))) 3 (some (cx_n X + 34))) 4 (some (cx_n X + 35))) 5 (some (cx_n X + 36))) 6 (some (cx_n X + 37))) 7 (some (cx_n X + 38))) 8 (some (cx_n X + 39)))))))) H) : va_at (cx_D X) vwCl (cx_n X + 28, cellAt X mem0 28) H := by
  rw [cell_rf kd_28]
  exact va_at_extR hat (fun j hj => by rcases (show j = 0 ∨ j = 1 ∨ j = 2 ∨ j = 3 ∨ j = 4 ∨ j = 5 ∨ j = 6 ∨ j = 7 ∨ j = 8 by omega) with rfl | rfl | rfl | rfl | rfl | rfl | rfl | rfl | rfl <;> rfl)
set_option maxRecDepth 100000 in
set_option maxHeartbeats 4000000 in
theorem i0_29 (X : CX) (H : Heap) (hat : va_at (cx_D X) vwCl (cx_n X + 29, .inl (cx_a X 5, 14, .inr (.inr (.inr (.inr (fun _ => none)))))) H) : va_at (cx_D X) vwCl (cx_n X + 29, cellAt X mem0 29) H := by
  rw [cell_tx kd_29]
  refine va_at_extR hat (fun j hj => ?_)
  have e9 : mem0 29 j = -1 := by simp [mem0, hj]
  rw [e9, txr_m1]
set_option maxRecDepth 100000 in
set_option maxHeartbeats 4000000 in
theorem i0_30 (X : CX) (H : Heap) (hat : va_at (cx_D X) vwCl (cx_n X + 30, .inl (cx_a X 0, 3, .inl (upd (upd (upd (fun _ => 0) 0 (-1000000005)) 1 (-1000000005)) 2 (-1000000005)))) H) : va_at (cx_D X) vwCl (cx_n X + 30, cellAt X mem0 30) H := by
  rw [cell_ar kd_30]
  exact va_at_ext hat (fun j hj => by rcases (show j = 0 ∨ j = 1 ∨ j = 2 by omega) with rfl | rfl | rfl <;> rfl)
set_option maxRecDepth 100000 in
set_option maxHeartbeats 4000000 in
theorem i0_31 (X : CX) (H : Heap) (hat : va_at (cx_D X) vwCl (cx_n X + 31, .inr (1, [.int 0, .int 0, .int 0, .int 0, .int 0, .int 0])) H) : va_at (cx_D X) vwCl (cx_n X + 31, cellAt X mem0 31) H := by
  exact hat
set_option maxRecDepth 100000 in
set_option maxHeartbeats 4000000 in
theorem i0_32 (X : CX) (H : Heap) (hat : va_at (cx_D X) vwCl (cx_n X + 32, .inr (1, [.int 0, .int 0, .int 0, .int 0, .int 0, .int 0])) H) : va_at (cx_D X) vwCl (cx_n X + 32, cellAt X mem0 32) H := by
  exact hat
set_option maxRecDepth 100000 in
set_option maxHeartbeats 4000000 in
theorem i0_33 (X : CX) (H : Heap) (hat : va_at (cx_D X) vwCl (cx_n X + 33, .inr (1, [.int 0, .int 0, .int 0, .int 0, .int 0, .int 0])) H) : va_at (cx_D X) vwCl (cx_n X + 33, cellAt X mem0 33) H := by
  exact hat
set_option maxRecDepth 100000 in
set_option maxHeartbeats 4000000 in
theorem i0_34 (X : CX) (H : Heap) (hat : va_at (cx_D X) vwCl (cx_n X + 34, .inr (1, [.int 0, .int 0, .int 0, .int 0, .int 0, .int 0])) H) : va_at (cx_D X) vwCl (cx_n X + 34, cellAt X mem0 34) H := by
  exact hat
set_option maxRecDepth 100000 in
set_option maxHeartbeats 4000000 in
theorem i0_35 (X : CX) (H : Heap) (hat : va_at (cx_D X) vwCl (cx_n X + 35, .inr (1, [.int 0, .int 0, .int 0, .int 0, .int 0, .int 0])) H) : va_at (cx_D X) vwCl (cx_n X + 35, cellAt X mem0 35) H := by
  exact hat
set_option maxRecDepth 100000 in
set_option maxHeartbeats 4000000 in
theorem i0_36 (X : CX) (H : Heap) (hat : va_at (cx_D X) vwCl (cx_n X + 36, .inr (1, [.int 0, .int 0, .int 0, .int 0, .int 0, .int 0])) H) : va_at (cx_D X) vwCl (cx_n X + 36, cellAt X mem0 36) H := by
  exact hat
set_option maxRecDepth 100000 in
set_option maxHeartbeats 4000000 in
theorem i0_37 (X : CX) (H : Heap) (hat : va_at (cx_D X) vwCl (cx_n X + 37, .inr (1, [.int 0, .int 0, .int 0, .int 0, .int 0, .int 0])) H) : va_at (cx_D X) vwCl (cx_n X + 37, cellAt X mem0 37) H := by
  exact hat
set_option maxRecDepth 100000 in
set_option maxHeartbeats 4000000 in
theorem i0_38 (X : CX) (H : Heap) (hat : va_at (cx_D X) vwCl (cx_n X + 38, .inr (1, [.int 0, .int 0, .int 0, .int 0, .int 0, .int 0])) H) : va_at (cx_D X) vwCl (cx_n X + 38, cellAt X mem0 38) H := by
  exact hat
set_option maxRecDepth 100000 in
set_option maxHeartbeats 4000000 in
theorem i0_39 (X : CX) (H : Heap) (hat : va_at (cx_D X) vwCl (cx_n X + 39, .inr (1, [.int 0, .int 0, .int 0, .int 0, .int 0, .int 0])) H) : va_at (cx_D X) vwCl (cx_n X + 39, cellAt X mem0 39) H := by
  exact hat
set_option maxRecDepth 100000 in
set_option maxHeartbeats 4000000 in
theorem i0_40 (X : CX) (H : Heap) (hat : va_at (cx_D X) vwCl (cx_n X + 40, .inr (2, [.ref (cx_n X + 41), .ref (cx_n X + 42), .ref (cx_n X + 43), .ref (cx_n X + 44), .int 0, .int 0, .int 0, .int 0, .int 0, .int 0, .int 0])) H) : va_at (cx_D X) vwCl (cx_n X + 40, cellAt X mem0 40) H := by
  exact hat
set_option maxRecDepth 100000 in
set_option maxHeartbeats 4000000 in
theorem i0_41 (X : CX) (H : Heap) (hat : va_at (cx_D X) vwCl (cx_n X + 41, .inl (cx_a X 0, 720, .inl (fun _ => 0))) H) : va_at (cx_D X) vwCl (cx_n X + 41, cellAt X mem0 41) H := by
  rw [cell_ar kd_41]
  exact va_at_ext hat (fun j hj => by simp [mem0])
set_option maxRecDepth 100000 in
set_option maxHeartbeats 4000000 in
theorem i0_42 (X : CX) (H : Heap) (hat : va_at (cx_D X) vwCl (cx_n X + 42, .inl (cx_a X 0, 9, .inl (fun _ => 0))) H) : va_at (cx_D X) vwCl (cx_n X + 42, cellAt X mem0 42) H := by
  rw [cell_ar kd_42]
  exact va_at_ext hat (fun j hj => by simp [mem0])
set_option maxRecDepth 100000 in
set_option maxHeartbeats 4000000 in
theorem i0_43 (X : CX) (H : Heap) (hat : va_at (cx_D X) vwCl (cx_n X + 43, .inl (cx_a X 0, 512, .inl (fun _ => 0))) H) : va_at (cx_D X) vwCl (cx_n X + 43, cellAt X mem0 43) H := by
  rw [cell_ar kd_43]
  exact va_at_ext hat (fun j hj => by simp [mem0])
set_option maxRecDepth 100000 in
set_option maxHeartbeats 4000000 in
theorem i0_44 (X : CX) (H : Heap) (hat : va_at (cx_D X) vwCl (cx_n X + 44, .inl (cx_a X 0, 512, .inl (fun _ => 0))) H) : va_at (cx_D X) vwCl (cx_n X + 44, cellAt X mem0 44) H := by
  rw [cell_ar kd_44]
  exact va_at_ext hat (fun j hj => by simp [mem0])
set_option maxRecDepth 100000 in
set_option maxHeartbeats 4000000 in
theorem i0_45 (X : CX) (H : Heap) (hat : va_at (cx_D X) vwCl (cx_n X + 45, .inr (7, [.ref (cx_n X + 46), .int 0, .int 0, .int 0, .int 0, .int 1, .int 0, .int 0, .int 0, .int 0, .ref (cx_n X + 48), .int 0, .ref (cx_n X + 49), .int 0])) H) : va_at (cx_D X) vwCl (cx_n X + 45, cellAt X mem0 45) H := by
  exact hat
set_option maxRecDepth 100000 in
set_option maxHeartbeats 4000000 in
theorem i0_46 (X : CX) (H : Heap) (hat : va_at (cx_D X) vwCl (cx_n X + 46, .inr (5, [.ref (cx_n X + 46 + 1), .int 0])) H) : va_at (cx_D X) vwCl (cx_n X + 46, cellAt X mem0 46) H := by
  exact hat
set_option maxRecDepth 100000 in
set_option maxHeartbeats 4000000 in
theorem i0_47 (X : CX) (H : Heap) (hat : va_at (cx_D X) vwCl (cx_n X + 47, .inl (cx_a X 1, 96, .inl (fun _ => 0))) H) : va_at (cx_D X) vwCl (cx_n X + 47, cellAt X mem0 47) H := by
  rw [cell_ar kd_47]
  exact va_at_ext hat (fun j hj => by simp [mem0])
set_option maxRecDepth 100000 in
set_option maxHeartbeats 4000000 in
theorem i0_48 (X : CX) (H : Heap) (hat : va_at (cx_D X) vwCl (cx_n X + 48, .inl (cx_a X 0, 96, .inl (fun _ => 0))) H) : va_at (cx_D X) vwCl (cx_n X + 48, cellAt X mem0 48) H := by
  rw [cell_ar kd_48]
  exact va_at_ext hat (fun j hj => by simp [mem0])
set_option maxRecDepth 100000 in
set_option maxHeartbeats 4000000 in
theorem i0_49 (X : CX) (H : Heap) (hat : va_at (cx_D X) vwCl (cx_n X + 49, .inl (cx_a X 0, 96, .inl (fun _ => 0))) H) : va_at (cx_D X) vwCl (cx_n X + 49, cellAt X mem0 49) H := by
  rw [cell_ar kd_49]
  exact va_at_ext hat (fun j hj => by simp [mem0])
set_option maxRecDepth 100000 in
set_option maxHeartbeats 4000000 in
theorem i0_50 (X : CX) (H : Heap) (hat : va_at (cx_D X) vwCl (cx_n X + 50, .inl (cx_a X 6, 4, .inr (.inr (.inr (.inr (va_up (va_up (va_up (va_up (fun _ => none) 0 (some (cx_n X + 54))) 1 (some (cx_n X + 56))) 2 (some (cx_n X + 58))) 3 (some (cx_n X + 60)))))))) H) : va_at (cx_D X) vwCl (cx_n X + 50, cellAt X mem0 50) H := by
  rw [cell_rf kd_50]
  exact va_at_extR hat (fun j hj => by rcases (show j = 0 ∨ j = 1 ∨ j = 2 ∨ j = 3 by omega) with rfl | rfl | rfl | rfl <;> rfl)
set_option maxRecDepth 100000 in
set_option maxHeartbeats 4000000 in
theorem i0_51 (X : CX) (H : Heap) (hat : va_at (cx_D X) vwCl (cx_n X + 51, .inl (cx_a X 7, 5, .inr (.inr (.inr (.inr (va_up (va_up (va_up (va_up (va_up (fun _ => none) 0 (some (cx_n X + 62))) 1 (some (cx_n X + 66))) 2 (some (cx_n X + 70))) 3 (some (cx_n X + 74))) 4 (some (cx_n X + 78)))))))) H) : va_at (cx_D X) vwCl (cx_n X + 51, cellAt X mem0 51) H := by
  rw [cell_rf kd_51]
  exact va_at_extR hat (fun j hj => by rcases (show j = 0 ∨ j = 1 ∨ j = 2 ∨ j = 3 ∨ j = 4 by omega) with rfl | rfl | rfl | rfl | rfl <;> rfl)
set_option maxRecDepth 100000 in
set_option maxHeartbeats 4000000 in
theorem i0_52 (X : CX) (H : Heap) (hat : va_at (cx_D X) vwCl (cx_n X + 52, .inl (cx_a X 0, 60, .inl (fun _ => 0))) H) : va_at (cx_D X) vwCl (cx_n X + 52, cellAt X mem0 52) H := by
  rw [cell_ar kd_52]
  exact va_at_ext hat (fun j hj => by simp [mem0])
set_option maxRecDepth 100000 in
set_option maxHeartbeats 4000000 in
theorem i0_53 (X : CX) (H : Heap) (hat : va_at (cx_D X) vwCl (cx_n X + 53, .inl (cx_a X 0, 9, .inl (fun _ => 0))) H) : va_at (cx_D X) vwCl (cx_n X + 53, cellAt X mem0 53) H := by
  rw [cell_ar kd_53]
  exact va_at_ext hat (fun j hj => by simp [mem0])
set_option maxRecDepth 100000 in
set_option maxHeartbeats 4000000 in
theorem i0_54 (X : CX) (H : Heap) (hat : va_at (cx_D X) vwCl (cx_n X + 54, .inr (3, [.int (-1), .int 0, .ref (cx_n X + 55)])) H) : va_at (cx_D X) vwCl (cx_n X + 54, cellAt X mem0 54) H := by
  exact hat
set_option maxRecDepth 100000 in
set_option maxHeartbeats 4000000 in
theorem i0_55 (X : CX) (H : Heap) (hat : va_at (cx_D X) vwCl (cx_n X + 55, .inl (cx_a X 0, 24, .inl (fun _ => 0))) H) : va_at (cx_D X) vwCl (cx_n X + 55, cellAt X mem0 55) H := by
  rw [cell_ar kd_55]
  exact va_at_ext hat (fun j hj => by simp [mem0])
set_option maxRecDepth 100000 in
set_option maxHeartbeats 4000000 in
theorem i0_56 (X : CX) (H : Heap) (hat : va_at (cx_D X) vwCl (cx_n X + 56, .inr (3, [.int (-1), .int 0, .ref (cx_n X + 57)])) H) : va_at (cx_D X) vwCl (cx_n X + 56, cellAt X mem0 56) H := by
  exact hat
set_option maxRecDepth 100000 in
set_option maxHeartbeats 4000000 in
theorem i0_57 (X : CX) (H : Heap) (hat : va_at (cx_D X) vwCl (cx_n X + 57, .inl (cx_a X 0, 24, .inl (fun _ => 0))) H) : va_at (cx_D X) vwCl (cx_n X + 57, cellAt X mem0 57) H := by
  rw [cell_ar kd_57]
  exact va_at_ext hat (fun j hj => by simp [mem0])
set_option maxRecDepth 100000 in
set_option maxHeartbeats 4000000 in
theorem i0_58 (X : CX) (H : Heap) (hat : va_at (cx_D X) vwCl (cx_n X + 58, .inr (3, [.int (-1), .int 0, .ref (cx_n X + 59)])) H) : va_at (cx_D X) vwCl (cx_n X + 58, cellAt X mem0 58) H := by
  exact hat
set_option maxRecDepth 100000 in
set_option maxHeartbeats 4000000 in
theorem i0_59 (X : CX) (H : Heap) (hat : va_at (cx_D X) vwCl (cx_n X + 59, .inl (cx_a X 0, 24, .inl (fun _ => 0))) H) : va_at (cx_D X) vwCl (cx_n X + 59, cellAt X mem0 59) H := by
  rw [cell_ar kd_59]
  exact va_at_ext hat (fun j hj => by simp [mem0])
set_option maxRecDepth 100000 in
set_option maxHeartbeats 4000000 in
theorem i0_60 (X : CX) (H : Heap) (hat : va_at (cx_D X) vwCl (cx_n X + 60, .inr (3, [.int (-1), .int 0, .ref (cx_n X + 61)])) H) : va_at (cx_D X) vwCl (cx_n X + 60, cellAt X mem0 60) H := by
  exact hat
set_option maxRecDepth 100000 in
set_option maxHeartbeats 4000000 in
theorem i0_61 (X : CX) (H : Heap) (hat : va_at (cx_D X) vwCl (cx_n X + 61, .inl (cx_a X 0, 24, .inl (fun _ => 0))) H) : va_at (cx_D X) vwCl (cx_n X + 61, cellAt X mem0 61) H := by
  rw [cell_ar kd_61]
  exact va_at_ext hat (fun j hj => by simp [mem0])
set_option maxRecDepth 100000 in
set_option maxHeartbeats 4000000 in
theorem i0_62 (X : CX) (H : Heap) (hat : va_at (cx_D X) vwCl (cx_n X + 62, .inr (4, [.int 0, .ref (cx_n X + 63), .ref (cx_n X + 64), .int 0])) H) : va_at (cx_D X) vwCl (cx_n X + 62, cellAt X mem0 62) H := by
  exact hat
set_option maxRecDepth 100000 in
set_option maxHeartbeats 4000000 in
theorem i0_63 (X : CX) (H : Heap) (hat : va_at (cx_D X) vwCl (cx_n X + 63, .inr (1, [.int 0, .int 0, .int 0, .int 0, .int 0, .int 0])) H) : va_at (cx_D X) vwCl (cx_n X + 63, cellAt X mem0 63) H := by
  exact hat
set_option maxRecDepth 100000 in
set_option maxHeartbeats 4000000 in
theorem i0_64 (X : CX) (H : Heap) (hat : va_at (cx_D X) vwCl (cx_n X + 64, .inr (3, [.int (-1), .int 0, .ref (cx_n X + 63 + 1 + 1)])) H) : va_at (cx_D X) vwCl (cx_n X + 64, cellAt X mem0 64) H := by
  exact hat
set_option maxRecDepth 100000 in
set_option maxHeartbeats 4000000 in
theorem i0_65 (X : CX) (H : Heap) (hat : va_at (cx_D X) vwCl (cx_n X + 65, .inl (cx_a X 0, 24, .inl (fun _ => 0))) H) : va_at (cx_D X) vwCl (cx_n X + 65, cellAt X mem0 65) H := by
  rw [cell_ar kd_65]
  exact va_at_ext hat (fun j hj => by simp [mem0])
set_option maxRecDepth 100000 in
set_option maxHeartbeats 4000000 in
theorem i0_66 (X : CX) (H : Heap) (hat : va_at (cx_D X) vwCl (cx_n X + 66, .inr (4, [.int 0, .ref (cx_n X + 67), .ref (cx_n X + 68), .int 0])) H) : va_at (cx_D X) vwCl (cx_n X + 66, cellAt X mem0 66) H := by
  exact hat
set_option maxRecDepth 100000 in
set_option maxHeartbeats 4000000 in
theorem i0_67 (X : CX) (H : Heap) (hat : va_at (cx_D X) vwCl (cx_n X + 67, .inr (1, [.int 0, .int 0, .int 0, .int 0, .int 0, .int 0])) H) : va_at (cx_D X) vwCl (cx_n X + 67, cellAt X mem0 67) H := by
  exact hat
set_option maxRecDepth 100000 in
set_option maxHeartbeats 4000000 in
theorem i0_68 (X : CX) (H : Heap) (hat : va_at (cx_D X) vwCl (cx_n X + 68, .inr (3, [.int (-1), .int 0, .ref (cx_n X + 67 + 1 + 1)])) H) : va_at (cx_D X) vwCl (cx_n X + 68, cellAt X mem0 68) H := by
  exact hat
set_option maxRecDepth 100000 in
set_option maxHeartbeats 4000000 in
theorem i0_69 (X : CX) (H : Heap) (hat : va_at (cx_D X) vwCl (cx_n X + 69, .inl (cx_a X 0, 24, .inl (fun _ => 0))) H) : va_at (cx_D X) vwCl (cx_n X + 69, cellAt X mem0 69) H := by
  rw [cell_ar kd_69]
  exact va_at_ext hat (fun j hj => by simp [mem0])
set_option maxRecDepth 100000 in
set_option maxHeartbeats 4000000 in
theorem i0_70 (X : CX) (H : Heap) (hat : va_at (cx_D X) vwCl (cx_n X + 70, .inr (4, [.int 0, .ref (cx_n X + 71), .ref (cx_n X + 72), .int 0])) H) : va_at (cx_D X) vwCl (cx_n X + 70, cellAt X mem0 70) H := by
  exact hat
set_option maxRecDepth 100000 in
set_option maxHeartbeats 4000000 in
theorem i0_71 (X : CX) (H : Heap) (hat : va_at (cx_D X) vwCl (cx_n X + 71, .inr (1, [.int 0, .int 0, .int 0, .int 0, .int 0, .int 0])) H) : va_at (cx_D X) vwCl (cx_n X + 71, cellAt X mem0 71) H := by
  exact hat
set_option maxRecDepth 100000 in
set_option maxHeartbeats 4000000 in
theorem i0_72 (X : CX) (H : Heap) (hat : va_at (cx_D X) vwCl (cx_n X + 72, .inr (3, [.int (-1), .int 0, .ref (cx_n X + 71 + 1 + 1)])) H) : va_at (cx_D X) vwCl (cx_n X + 72, cellAt X mem0 72) H := by
  exact hat
set_option maxRecDepth 100000 in
set_option maxHeartbeats 4000000 in
theorem i0_73 (X : CX) (H : Heap) (hat : va_at (cx_D X) vwCl (cx_n X + 73, .inl (cx_a X 0, 24, .inl (fun _ => 0))) H) : va_at (cx_D X) vwCl (cx_n X + 73, cellAt X mem0 73) H := by
  rw [cell_ar kd_73]
  exact va_at_ext hat (fun j hj => by simp [mem0])
set_option maxRecDepth 100000 in
set_option maxHeartbeats 4000000 in
theorem i0_74 (X : CX) (H : Heap) (hat : va_at (cx_D X) vwCl (cx_n X + 74, .inr (4, [.int 0, .ref (cx_n X + 75), .ref (cx_n X + 76), .int 0])) H) : va_at (cx_D X) vwCl (cx_n X + 74, cellAt X mem0 74) H := by
  exact hat
set_option maxRecDepth 100000 in
set_option maxHeartbeats 4000000 in
theorem i0_75 (X : CX) (H : Heap) (hat : va_at (cx_D X) vwCl (cx_n X + 75, .inr (1, [.int 0, .int 0, .int 0, .int 0, .int 0, .int 0])) H) : va_at (cx_D X) vwCl (cx_n X + 75, cellAt X mem0 75) H := by
  exact hat
set_option maxRecDepth 100000 in
set_option maxHeartbeats 4000000 in
theorem i0_76 (X : CX) (H : Heap) (hat : va_at (cx_D X) vwCl (cx_n X + 76, .inr (3, [.int (-1), .int 0, .ref (cx_n X + 75 + 1 + 1)])) H) : va_at (cx_D X) vwCl (cx_n X + 76, cellAt X mem0 76) H := by
  exact hat
set_option maxRecDepth 100000 in
set_option maxHeartbeats 4000000 in
theorem i0_77 (X : CX) (H : Heap) (hat : va_at (cx_D X) vwCl (cx_n X + 77, .inl (cx_a X 0, 24, .inl (fun _ => 0))) H) : va_at (cx_D X) vwCl (cx_n X + 77, cellAt X mem0 77) H := by
  rw [cell_ar kd_77]
  exact va_at_ext hat (fun j hj => by simp [mem0])
set_option maxRecDepth 100000 in
set_option maxHeartbeats 4000000 in
theorem i0_78 (X : CX) (H : Heap) (hat : va_at (cx_D X) vwCl (cx_n X + 78, .inr (4, [.int 0, .ref (cx_n X + 79), .ref (cx_n X + 80), .int 0])) H) : va_at (cx_D X) vwCl (cx_n X + 78, cellAt X mem0 78) H := by
  exact hat
set_option maxRecDepth 100000 in
set_option maxHeartbeats 4000000 in
theorem i0_79 (X : CX) (H : Heap) (hat : va_at (cx_D X) vwCl (cx_n X + 79, .inr (1, [.int 0, .int 0, .int 0, .int 0, .int 0, .int 0])) H) : va_at (cx_D X) vwCl (cx_n X + 79, cellAt X mem0 79) H := by
  exact hat
set_option maxRecDepth 100000 in
set_option maxHeartbeats 4000000 in
theorem i0_80 (X : CX) (H : Heap) (hat : va_at (cx_D X) vwCl (cx_n X + 80, .inr (3, [.int (-1), .int 0, .ref (cx_n X + 79 + 1 + 1)])) H) : va_at (cx_D X) vwCl (cx_n X + 80, cellAt X mem0 80) H := by
  exact hat
set_option maxRecDepth 100000 in
set_option maxHeartbeats 4000000 in
theorem i0_81 (X : CX) (H : Heap) (hat : va_at (cx_D X) vwCl (cx_n X + 81, .inl (cx_a X 0, 24, .inl (fun _ => 0))) H) : va_at (cx_D X) vwCl (cx_n X + 81, cellAt X mem0 81) H := by
  rw [cell_ar kd_81]
  exact va_at_ext hat (fun j hj => by simp [mem0])
set_option maxRecDepth 100000 in
set_option maxHeartbeats 4000000 in
theorem i0_82 (X : CX) (H : Heap) (hat : va_at (cx_D X) vwCl (cx_n X + 82, .inr (9, [.ref (cx_n X + 83), .ref (cx_n X + 84), .ref (cx_n X + 85), .int 0, .int 0, .ref (cx_n X + 86), .ref (cx_n X + 87), .ref (cx_n X + 88), .ref (cx_n X + 89), .int 0, .int 0, .int 0, .int 0, .int 0, .int 0, .int 0, .ref (cx_n X + 90), .ref (cx_n X + 91), .ref (cx_n X + 92), .int 0, .int 0, .ref (cx_n X + 93), .int 0, .ref (cx_n X + 94), .ref (cx_n X + 95), .ref (cx_n X + 96), .ref (cx_n X + 97), .ref (cx_n X + 98), .ref (cx_n X + 99), .ref (cx_n X + 100), .ref (cx_n X + 101), .ref (cx_n X + 102), .ref (cx_n X + 103), .ref (cx_n X + 104), .ref (cx_n X + 105), .int 0])) H) : va_at (cx_D X) vwCl (cx_n X + 82, cellAt X mem0 82) H := by
  exact hat
set_option maxRecDepth 100000 in
set_option maxHeartbeats 4000000 in
theorem i0_83 (X : CX) (H : Heap) (hat : va_at (cx_D X) vwCl (cx_n X + 83, .inl (cx_a X 0, 1433, .inl (upd (fun _ => 0) 0 1))) H) : va_at (cx_D X) vwCl (cx_n X + 83, cellAt X mem0 83) H := by
  rw [cell_ar kd_83]
  exact va_at_ext hat (fun j hj => by by_cases hz : j = 0 <;> simp [mem0, upd, hz])
set_option maxRecDepth 100000 in
set_option maxHeartbeats 4000000 in
theorem i0_84 (X : CX) (H : Heap) (hat : va_at (cx_D X) vwCl (cx_n X + 84, .inl (cx_a X 0, 1433, .inl (fun _ => 0))) H) : va_at (cx_D X) vwCl (cx_n X + 84, cellAt X mem0 84) H := by
  rw [cell_ar kd_84]
  exact va_at_ext hat (fun j hj => by simp [mem0])
set_option maxRecDepth 100000 in
set_option maxHeartbeats 4000000 in
theorem i0_85 (X : CX) (H : Heap) (hat : va_at (cx_D X) vwCl (cx_n X + 85, .inl (cx_a X 0, 1433, .inl (fun _ => 0))) H) : va_at (cx_D X) vwCl (cx_n X + 85, cellAt X mem0 85) H := by
  rw [cell_ar kd_85]
  exact va_at_ext hat (fun j hj => by simp [mem0])
set_option maxRecDepth 100000 in
set_option maxHeartbeats 4000000 in
theorem i0_86 (X : CX) (H : Heap) (hat : va_at (cx_D X) vwCl (cx_n X + 86, .inl (cx_a X 0, 512, .inl (fun _ => 0))) H) : va_at (cx_D X) vwCl (cx_n X + 86, cellAt X mem0 86) H := by
  rw [cell_ar kd_86]
  exact va_at_ext hat (fun j hj => by simp [mem0])
set_option maxRecDepth 100000 in
set_option maxHeartbeats 4000000 in
theorem i0_87 (X : CX) (H : Heap) (hat : va_at (cx_D X) vwCl (cx_n X + 87, .inl (cx_a X 0, 512, .inl (fun _ => 0))) H) : va_at (cx_D X) vwCl (cx_n X + 87, cellAt X mem0 87) H := by
  rw [cell_ar kd_87]
  exact va_at_ext hat (fun j hj => by simp [mem0])
set_option maxRecDepth 100000 in
set_option maxHeartbeats 4000000 in
theorem i0_88 (X : CX) (H : Heap) (hat : va_at (cx_D X) vwCl (cx_n X + 88, .inl (cx_a X 0, 9, .inl (fun _ => 0))) H) : va_at (cx_D X) vwCl (cx_n X + 88, cellAt X mem0 88) H := by
  rw [cell_ar kd_88]
  exact va_at_ext hat (fun j hj => by simp [mem0])
set_option maxRecDepth 100000 in
set_option maxHeartbeats 4000000 in
theorem i0_89 (X : CX) (H : Heap) (hat : va_at (cx_D X) vwCl (cx_n X + 89, .inl (cx_a X 0, 96, .inl (fun _ => 0))) H) : va_at (cx_D X) vwCl (cx_n X + 89, cellAt X mem0 89) H := by
  rw [cell_ar kd_89]
  exact va_at_ext hat (fun j hj => by simp [mem0])
set_option maxRecDepth 100000 in
set_option maxHeartbeats 4000000 in
theorem i0_90 (X : CX) (H : Heap) (hat : va_at (cx_D X) vwCl (cx_n X + 90, .inl (cx_a X 2, 12, .inl (upd (upd (upd (upd (upd (upd (upd (upd (upd (upd (upd (upd (fun _ => 0) 0 98) 1 101) 2 97) 3 114) 4 115) 5 102) 6 101) 7 101) 8 102) 9 105) 10 110) 11 101))) H) : va_at (cx_D X) vwCl (cx_n X + 90, cellAt X mem0 90) H := by
  rw [cell_ar kd_90]
  exact va_at_ext hat (fun j hj => by rcases (show j = 0 ∨ j = 1 ∨ j = 2 ∨ j = 3 ∨ j = 4 ∨ j = 5 ∨ j = 6 ∨ j = 7 ∨ j = 8 ∨ j = 9 ∨ j = 10 ∨ j = 11 by omega) with rfl | rfl | rfl | rfl | rfl | rfl | rfl | rfl | rfl | rfl | rfl | rfl <;> rfl)
set_option maxRecDepth 100000 in
set_option maxHeartbeats 4000000 in
theorem i0_91 (X : CX) (H : Heap) (hat : va_at (cx_D X) vwCl (cx_n X + 91, .inl (cx_a X 0, 4, .inl (upd (upd (upd (upd (fun _ => 0) 0 0) 1 5) 2 8) 3 12))) H) : va_at (cx_D X) vwCl (cx_n X + 91, cellAt X mem0 91) H := by
  rw [cell_ar kd_91]
  exact va_at_ext hat (fun j hj => by rcases (show j = 0 ∨ j = 1 ∨ j = 2 ∨ j = 3 by omega) with rfl | rfl | rfl | rfl <;> rfl)
set_option maxRecDepth 100000 in
set_option maxHeartbeats 4000000 in
theorem i0_92 (X : CX) (H : Heap) (hat : va_at (cx_D X) vwCl (cx_n X + 92, .inl (cx_a X 0, 96, .inl (fun _ => 0))) H) : va_at (cx_D X) vwCl (cx_n X + 92, cellAt X mem0 92) H := by
  rw [cell_ar kd_92]
  exact va_at_ext hat (fun j hj => by simp [mem0])
set_option maxRecDepth 100000 in
set_option maxHeartbeats 4000000 in
theorem i0_93 (X : CX) (H : Heap) (hat : va_at (cx_D X) vwCl (cx_n X + 93, .inl (cx_a X 0, 96, .inl (fun _ => 0))) H) : va_at (cx_D X) vwCl (cx_n X + 93, cellAt X mem0 93) H := by
  rw [cell_ar kd_93]
  exact va_at_ext hat (fun j hj => by simp [mem0])
set_option maxRecDepth 100000 in
set_option maxHeartbeats 4000000 in
theorem i0_94 (X : CX) (H : Heap) (hat : va_at (cx_D X) vwCl (cx_n X + 94, .inl (cx_a X 3, 10, .inl (fun _ => 0))) H) : va_at (cx_D X) vwCl (cx_n X + 94, cellAt X mem0 94) H := by
  rw [cell_ar kd_94]
  exact va_at_ext hat (fun j hj => by simp [mem0])
set_option maxRecDepth 100000 in
set_option maxHeartbeats 4000000 in
theorem i0_95 (X : CX) (H : Heap) (hat : va_at (cx_D X) vwCl (cx_n X + 95, .inl (cx_a X 0, 96, .inl (fun _ => 0))) H) : va_at (cx_D X) vwCl (cx_n X + 95, cellAt X mem0 95) H := by
  rw [cell_ar kd_95]
  exact va_at_ext hat (fun j hj => by simp [mem0])
set_option maxRecDepth 100000 in
set_option maxHeartbeats 4000000 in
theorem i0_96 (X : CX) (H : Heap) (hat : va_at (cx_D X) vwCl (cx_n X + 96, .inl (cx_a X 0, 4, .inl (fun _ => 0))) H) : va_at (cx_D X) vwCl (cx_n X + 96, cellAt X mem0 96) H := by
  rw [cell_ar kd_96]
  exact va_at_ext hat (fun j hj => by simp [mem0])
set_option maxRecDepth 100000 in
set_option maxHeartbeats 4000000 in
theorem i0_97 (X : CX) (H : Heap) (hat : va_at (cx_D X) vwCl (cx_n X + 97, .inl (cx_a X 0, 4, .inl (upd (upd (upd (upd (fun _ => 0) 0 (-1)) 1 (-1)) 2 (-1)) 3 (-1)))) H) : va_at (cx_D X) vwCl (cx_n X + 97, cellAt X mem0 97) H := by
  rw [cell_ar kd_97]
  exact va_at_ext hat (fun j hj => by rcases (show j = 0 ∨ j = 1 ∨ j = 2 ∨ j = 3 by omega) with rfl | rfl | rfl | rfl <;> rfl)
set_option maxRecDepth 100000 in
set_option maxHeartbeats 4000000 in
theorem i0_98 (X : CX) (H : Heap) (hat : va_at (cx_D X) vwCl (cx_n X + 98, .inl (cx_a X 0, 4, .inl (fun _ => 0))) H) : va_at (cx_D X) vwCl (cx_n X + 98, cellAt X mem0 98) H := by
  rw [cell_ar kd_98]
  exact va_at_ext hat (fun j hj => by simp [mem0])
set_option maxRecDepth 100000 in
set_option maxHeartbeats 4000000 in
theorem i0_99 (X : CX) (H : Heap) (hat : va_at (cx_D X) vwCl (cx_n X + 99, .inl (cx_a X 0, 96, .inl (fun _ => 0))) H) : va_at (cx_D X) vwCl (cx_n X + 99, cellAt X mem0 99) H := by
  rw [cell_ar kd_99]
  exact va_at_ext hat (fun j hj => by simp [mem0])
set_option maxRecDepth 100000 in
set_option maxHeartbeats 4000000 in
theorem i0_100 (X : CX) (H : Heap) (hat : va_at (cx_D X) vwCl (cx_n X + 100, .inl (cx_a X 0, 5, .inl (fun _ => 0))) H) : va_at (cx_D X) vwCl (cx_n X + 100, cellAt X mem0 100) H := by
  rw [cell_ar kd_100]
  exact va_at_ext hat (fun j hj => by simp [mem0])
set_option maxRecDepth 100000 in
set_option maxHeartbeats 4000000 in
theorem i0_101 (X : CX) (H : Heap) (hat : va_at (cx_D X) vwCl (cx_n X + 101, .inl (cx_a X 0, 5, .inl (fun _ => 0))) H) : va_at (cx_D X) vwCl (cx_n X + 101, cellAt X mem0 101) H := by
  rw [cell_ar kd_101]
  exact va_at_ext hat (fun j hj => by simp [mem0])
set_option maxRecDepth 100000 in
set_option maxHeartbeats 4000000 in
theorem i0_102 (X : CX) (H : Heap) (hat : va_at (cx_D X) vwCl (cx_n X + 102, .inl (cx_a X 0, 5, .inl (fun _ => 0))) H) : va_at (cx_D X) vwCl (cx_n X + 102, cellAt X mem0 102) H := by
  rw [cell_ar kd_102]
  exact va_at_ext hat (fun j hj => by simp [mem0])
set_option maxRecDepth 100000 in
set_option maxHeartbeats 4000000 in
theorem i0_103 (X : CX) (H : Heap) (hat : va_at (cx_D X) vwCl (cx_n X + 103, .inl (cx_a X 0, 120, .inl (fun _ => 0))) H) : va_at (cx_D X) vwCl (cx_n X + 103, cellAt X mem0 103) H := by
  rw [cell_ar kd_103]
  exact va_at_ext hat (fun j hj => by simp [mem0])
set_option maxRecDepth 100000 in
set_option maxHeartbeats 4000000 in
theorem i0_104 (X : CX) (H : Heap) (hat : va_at (cx_D X) vwCl (cx_n X + 104, .inl (cx_a X 0, 24, .inl (fun _ => 0))) H) : va_at (cx_D X) vwCl (cx_n X + 104, cellAt X mem0 104) H := by
  rw [cell_ar kd_104]
  exact va_at_ext hat (fun j hj => by simp [mem0])
set_option maxRecDepth 100000 in
set_option maxHeartbeats 4000000 in
theorem i0_105 (X : CX) (H : Heap) (hat : va_at (cx_D X) vwCl (cx_n X + 105, .inl (cx_a X 0, 60, .inl (fun _ => 0))) H) : va_at (cx_D X) vwCl (cx_n X + 105, cellAt X mem0 105) H := by
  rw [cell_ar kd_105]
  exact va_at_ext hat (fun j hj => by simp [mem0])
set_option maxRecDepth 100000 in
set_option maxHeartbeats 4000000 in
theorem HRc.init {X : CX} {ce ce1 : Nat → va_E} {H : Heap} (h : HRc X ce1 106 H) (h8 : z_X8_init X ce) (hfr : ∀ q, q < 82 → ce1 q = ce q) (h9 : z_X9_init X ce1) : HRc X (cellAt X mem0) (sz mem0) H := by
  obtain ⟨u0, u1, u2, u3, u4, u5, u6, u7, u8, u9, u10, u11, u12, u13, u14, u15, u16, u17, u18, u19, u20, u21, u22, u23, u24, u25, u26, u27, u28, u29, u30, u31, u32, u33, u34, u35, u36, u37, u38, u39, u40, u41, u42, u43, u44, u45, u46, u47, u48, u49, u50, u51, u52, u53, u54, u55, u56, u57, u58, u59, u60, u61, u62, u63, u64, u65, u66, u67, u68, u69, u70, u71, u72, u73, u74, u75, u76, u77, u78, u79, u80, u81⟩ := h8
  obtain ⟨u82, u83, u84, u85, u86, u87, u88, u89, u90, u91, u92, u93, u94, u95, u96, u97, u98, u99, u100, u101, u102, u103, u104, u105⟩ := h9
  rw [sz_mem0]
  refine ⟨h.1, fun q hq => ?_⟩
  have hat := h.2 q hq
  by_cases c0 : q < 20
  · rcases (show q = 0 ∨ q = 1 ∨ q = 2 ∨ q = 3 ∨ q = 4 ∨ q = 5 ∨ q = 6 ∨ q = 7 ∨ q = 8 ∨ q = 9 ∨ q = 10 ∨ q = 11 ∨ q = 12 ∨ q = 13 ∨ q = 14 ∨ q = 15 ∨ q = 16 ∨ q = 17 ∨ q = 18 ∨ q = 19 by omega) with rfl | rfl | rfl | rfl | rfl | rfl | rfl | rfl | rfl | rfl | rfl | rfl | rfl | rfl | rfl | rfl | rfl | rfl | rfl | rfl
    · rw [hfr 0 (by omega), u0] at hat; exact i0_0 X H hat
    · rw [hfr 1 (by omega), u1] at hat; exact i0_1 X H hat
    · rw [hfr 2 (by omega), u2] at hat; exact i0_2 X H hat
    · rw [hfr 3 (by omega), u3] at hat; exact i0_3 X H hat
    · rw [hfr 4 (by omega), u4] at hat; exact i0_4 X H hat
    · rw [hfr 5 (by omega), u5] at hat; exact i0_5 X H hat
    · rw [hfr 6 (by omega), u6] at hat; exact i0_6 X H hat
    · rw [hfr 7 (by omega), u7] at hat; exact i0_7 X H hat
    · rw [hfr 8 (by omega), u8] at hat; exact i0_8 X H hat
    · rw [hfr 9 (by omega), u9] at hat; exact i0_9 X H hat
    · rw [hfr 10 (by omega), u10] at hat; exact i0_10 X H hat
    · rw [hfr 11 (by omega), u11] at hat; exact i0_11 X H hat
    · rw [hfr 12 (by omega), u12] at hat; exact i0_12 X H hat
    · rw [hfr 13 (by omega), u13] at hat; exact i0_13 X H hat
    · rw [hfr 14 (by omega), u14] at hat; exact i0_14 X H hat
    · rw [hfr 15 (by omega), u15] at hat; exact i0_15 X H hat
    · rw [hfr 16 (by omega), u16] at hat; exact i0_16 X H hat
    · rw [hfr 17 (by omega), u17] at hat; exact i0_17 X H hat
    · rw [hfr 18 (by omega), u18] at hat; exact i0_18 X H hat
    · rw [hfr 19 (by omega), u19] at hat; exact i0_19 X H hat
  by_cases c20 : q < 40
  · rcases (show q = 20 ∨ q = 21 ∨ q = 22 ∨ q = 23 ∨ q = 24 ∨ q = 25 ∨ q = 26 ∨ q = 27 ∨ q = 28 ∨ q = 29 ∨ q = 30 ∨ q = 31 ∨ q = 32 ∨ q = 33 ∨ q = 34 ∨ q = 35 ∨ q = 36 ∨ q = 37 ∨ q = 38 ∨ q = 39 by omega) with rfl | rfl | rfl | rfl | rfl | rfl | rfl | rfl | rfl | rfl | rfl | rfl | rfl | rfl | rfl | rfl | rfl | rfl | rfl | rfl
    · rw [hfr 20 (by omega), u20] at hat; exact i0_20 X H hat
    · rw [hfr 21 (by omega), u21] at hat; exact i0_21 X H hat
    · rw [hfr 22 (by omega), u22] at hat; exact i0_22 X H hat
    · rw [hfr 23 (by omega), u23] at hat; exact i0_23 X H hat
    · rw [hfr 24 (by omega), u24] at hat; exact i0_24 X H hat
    · rw [hfr 25 (by omega), u25] at hat; exact i0_25 X H hat
    · rw [hfr 26 (by omega), u26] at hat; exact i0_26 X H hat
    · rw [hfr 27 (by omega), u27] at hat; exact i0_27 X H hat
    · rw [hfr 28 (by omega), u28] at hat; exact i0_28 X H hat
    · rw [hfr 29 (by omega), u29] at hat; exact i0_29 X H hat
    · rw [hfr 30 (by omega), u30] at hat; exact i0_30 X H hat
    · rw [hfr 31 (by omega), u31] at hat; exact i0_31 X H hat
    · rw [hfr 32 (by omega), u32] at hat; exact i0_32 X H hat
    · rw [hfr 33 (by omega), u33] at hat; exact i0_33 X H hat
    · rw [hfr 34 (by omega), u34] at hat; exact i0_34 X H hat
    · rw [hfr 35 (by omega), u35] at hat; exact i0_35 X H hat
    · rw [hfr 36 (by omega), u36] at hat; exact i0_36 X H hat
    · rw [hfr 37 (by omega), u37] at hat; exact i0_37 X H hat
    · rw [hfr 38 (by omega), u38] at hat; exact i0_38 X H hat
    · rw [hfr 39 (by omega), u39] at hat; exact i0_39 X H hat
  by_cases c40 : q < 60
  · rcases (show q = 40 ∨ q = 41 ∨ q = 42 ∨ q = 43 ∨ q = 44 ∨ q = 45 ∨ q = 46 ∨ q = 47 ∨ q = 48 ∨ q = 49 ∨ q = 50 ∨ q = 51 ∨ q = 52 ∨ q = 53 ∨ q = 54 ∨ q = 55 ∨ q = 56 ∨ q = 57 ∨ q = 58 ∨ q = 59 by omega) with rfl | rfl | rfl | rfl | rfl | rfl | rfl | rfl | rfl | rfl | rfl | rfl | rfl | rfl | rfl | rfl | rfl | rfl | rfl | rfl
    · rw [hfr 40 (by omega), u40] at hat; exact i0_40 X H hat
    · rw [hfr 41 (by omega), u41] at hat; exact i0_41 X H hat
    · rw [hfr 42 (by omega), u42] at hat; exact i0_42 X H hat
    · rw [hfr 43 (by omega), u43] at hat; exact i0_43 X H hat
    · rw [hfr 44 (by omega), u44] at hat; exact i0_44 X H hat
    · rw [hfr 45 (by omega), u45] at hat; exact i0_45 X H hat
    · rw [hfr 46 (by omega), u46] at hat; exact i0_46 X H hat
    · rw [hfr 47 (by omega), u47] at hat; exact i0_47 X H hat
    · rw [hfr 48 (by omega), u48] at hat; exact i0_48 X H hat
    · rw [hfr 49 (by omega), u49] at hat; exact i0_49 X H hat
    · rw [hfr 50 (by omega), u50] at hat; exact i0_50 X H hat
    · rw [hfr 51 (by omega), u51] at hat; exact i0_51 X H hat
    · rw [hfr 52 (by omega), u52] at hat; exact i0_52 X H hat
    · rw [hfr 53 (by omega), u53] at hat; exact i0_53 X H hat
    · rw [hfr 54 (by omega), u54] at hat; exact i0_54 X H hat
    · rw [hfr 55 (by omega), u55] at hat; exact i0_55 X H hat
    · rw [hfr 56 (by omega), u56] at hat; exact i0_56 X H hat
    · rw [hfr 57 (by omega), u57] at hat; exact i0_57 X H hat
    · rw [hfr 58 (by omega), u58] at hat; exact i0_58 X H hat
    · rw [hfr 59 (by omega), u59] at hat; exact i0_59 X H hat
  by_cases c60 : q < 80
  · rcases (show q = 60 ∨ q = 61 ∨ q = 62 ∨ q = 63 ∨ q = 64 ∨ q = 65 ∨ q = 66 ∨ q = 67 ∨ q = 68 ∨ q = 69 ∨ q = 70 ∨ q = 71 ∨ q = 72 ∨ q = 73 ∨ q = 74 ∨ q = 75 ∨ q = 76 ∨ q = 77 ∨ q = 78 ∨ q = 79 by omega) with rfl | rfl | rfl | rfl | rfl | rfl | rfl | rfl | rfl | rfl | rfl | rfl | rfl | rfl | rfl | rfl | rfl | rfl | rfl | rfl
    · rw [hfr 60 (by omega), u60] at hat; exact i0_60 X H hat
    · rw [hfr 61 (by omega), u61] at hat; exact i0_61 X H hat
    · rw [hfr 62 (by omega), u62] at hat; exact i0_62 X H hat
    · rw [hfr 63 (by omega), u63] at hat; exact i0_63 X H hat
    · rw [hfr 64 (by omega), u64] at hat; exact i0_64 X H hat
    · rw [hfr 65 (by omega), u65] at hat; exact i0_65 X H hat
    · rw [hfr 66 (by omega), u66] at hat; exact i0_66 X H hat
    · rw [hfr 67 (by omega), u67] at hat; exact i0_67 X H hat
    · rw [hfr 68 (by omega), u68] at hat; exact i0_68 X H hat
    · rw [hfr 69 (by omega), u69] at hat; exact i0_69 X H hat
    · rw [hfr 70 (by omega), u70] at hat; exact i0_70 X H hat
    · rw [hfr 71 (by omega), u71] at hat; exact i0_71 X H hat
    · rw [hfr 72 (by omega), u72] at hat; exact i0_72 X H hat
    · rw [hfr 73 (by omega), u73] at hat; exact i0_73 X H hat
    · rw [hfr 74 (by omega), u74] at hat; exact i0_74 X H hat
    · rw [hfr 75 (by omega), u75] at hat; exact i0_75 X H hat
    · rw [hfr 76 (by omega), u76] at hat; exact i0_76 X H hat
    · rw [hfr 77 (by omega), u77] at hat; exact i0_77 X H hat
    · rw [hfr 78 (by omega), u78] at hat; exact i0_78 X H hat
    · rw [hfr 79 (by omega), u79] at hat; exact i0_79 X H hat
  by_cases c80 : q < 100
  · rcases (show q = 80 ∨ q = 81 ∨ q = 82 ∨ q = 83 ∨ q = 84 ∨ q = 85 ∨ q = 86 ∨ q = 87 ∨ q = 88 ∨ q = 89 ∨ q = 90 ∨ q = 91 ∨ q = 92 ∨ q = 93 ∨ q = 94 ∨ q = 95 ∨ q = 96 ∨ q = 97 ∨ q = 98 ∨ q = 99 by omega) with rfl | rfl | rfl | rfl | rfl | rfl | rfl | rfl | rfl | rfl | rfl | rfl | rfl | rfl | rfl | rfl | rfl | rfl | rfl | rfl
    · rw [hfr 80 (by omega), u80] at hat; exact i0_80 X H hat
    · rw [hfr 81 (by omega), u81] at hat; exact i0_81 X H hat
    · rw [u82] at hat; exact i0_82 X H hat
    · rw [u83] at hat; exact i0_83 X H hat
    · rw [u84] at hat; exact i0_84 X H hat
    · rw [u85] at hat; exact i0_85 X H hat
    · rw [u86] at hat; exact i0_86 X H hat
    · rw [u87] at hat; exact i0_87 X H hat
    · rw [u88] at hat; exact i0_88 X H hat
    · rw [u89] at hat; exact i0_89 X H hat
    · rw [u90] at hat; exact i0_90 X H hat
    · rw [u91] at hat; exact i0_91 X H hat
    · rw [u92] at hat; exact i0_92 X H hat
    · rw [u93] at hat; exact i0_93 X H hat
    · rw [u94] at hat; exact i0_94 X H hat
    · rw [u95] at hat; exact i0_95 X H hat
    · rw [u96] at hat; exact i0_96 X H hat
    · rw [u97] at hat; exact i0_97 X H hat
    · rw [u98] at hat; exact i0_98 X H hat
    · rw [u99] at hat; exact i0_99 X H hat
  by_cases c100 : q < 106
  · rcases (show q = 100 ∨ q = 101 ∨ q = 102 ∨ q = 103 ∨ q = 104 ∨ q = 105 by omega) with rfl | rfl | rfl | rfl | rfl | rfl
    · rw [u100] at hat; exact i0_100 X H hat
    · rw [u101] at hat; exact i0_101 X H hat
    · rw [u102] at hat; exact i0_102 X H hat
    · rw [u103] at hat; exact i0_103 X H hat
    · rw [u104] at hat; exact i0_104 X H hat
    · rw [u105] at hat; exact i0_105 X H hat
  omega
