/-! printed by wip/tools/mk_lay.py: blocks of cells -/
def ov (o N : Nat) (c : Nat → qE) (h : Nat → Option qE) : Nat → Option qE := fun a => if o ≤ a ∧ a < o + N then some (c (a - o)) else h a
theorem ov_at {o N j : Nat} {c : Nat → qE} {h : Nat → Option qE} (hj : j < N) : ov o N c h (o + j) = some (c j) := by
  unfold ov
  rw [if_pos ⟨Nat.le_add_right _ _, by omega⟩, Nat.add_sub_cancel_left]
theorem ov_up {o N j : Nat} {c : Nat → qE} {h : Nat → Option qE} {e : qE} (hj : j < N) : q_up (ov o N c h) (o + j) e = ov o N (va_up c j e) h := by
  funext a
  unfold q_up ov va_up
  by_cases ha : a = o + j
  · subst ha
    rw [if_pos rfl, if_pos ⟨Nat.le_add_right _ _, by omega⟩, Nat.add_sub_cancel_left, if_pos rfl]
  · rw [if_neg ha]
    by_cases hb : o ≤ a ∧ a < o + N
    · rw [if_pos hb, if_pos hb, if_neg (by omega)]
    · rw [if_neg hb, if_neg hb]
theorem ov_out {o N a : Nat} {c : Nat → qE} {h : Nat → Option qE} (ha : ¬ (o ≤ a ∧ a < o + N)) : ov o N c h a = h a := by unfold ov; rw [if_neg ha]
theorem ov_upo {o N a : Nat} {c : Nat → qE} {h : Nat → Option qE} {e : qE} (ha : ¬ (o ≤ a ∧ a < o + N)) : q_up (ov o N c h) a e = ov o N c (q_up h a e) := by
  funext b
  unfold q_up ov
  by_cases hb : b = a
  · subst hb; rw [if_pos rfl, if_neg ha]; exact (if_pos rfl).symm
  · rw [if_neg hb]
    by_cases hc : o ≤ b ∧ b < o + N
    · rw [if_pos hc, if_pos hc]
    · rw [if_neg hc, if_neg hc]; exact (if_neg hb).symm
/-- a block with a store -/
def q_blk (o N : Nat) (c : qT → Nat → qE) (T : qT) : qH := (ov o N (c T) T.2.2.2.2.1, T.2.2.2.2.2)
theorem q_blk_put {o N j : Nat} {c : qT → Nat → qE} {T T' : qT} {e : qE} (hj : j < N) (h2 : T'.2.2.2.2 = T.2.2.2.2) (hc : va_up (c T) j e = c T') : (q_up (q_blk o N c T).1 (o + j) e, (q_blk o N c T).2) = q_blk o N c T' := by
  unfold q_blk
  rw [h2, ← hc]
  exact Prod.ext (ov_up hj) rfl
def fsM_0 (r : Nat) (T : qT) : List Value := [.int (T.1 0), .int (T.1 1), .ref (r + 1), .int (T.1 3), .int (T.1 4), .ref (r + 2), .ref (r + 3), .ref (r + 4), .ref (r + 5), .ref (r + 6), .ref (r + 7), .ref (r + 8), .ref (r + 9), .ref (r + 10), .int (T.1 14), .int (T.1 15), .ref (r + 11), .ref (r + 12), .ref (r + 13), .int (T.1 19), .int (T.1 20), .ref (r + 14), .int (T.1 22), .ref (r + 15), .ref (r + 16), .ref (r + 17), .int (T.1 26), .ref (r + 18), .ref (r + 19), .int (T.1 29), .int (T.1 30), .int (T.1 31), .ref (r + 20), .int (T.1 33), .int (T.1 34), .ref (r + 21), .ref (r + 22), .ref (r + 23), .ref (r + 24), .ref (r + 25), .int (T.1 40), .ref (r + 26), .ref (r + 27), .ref (r + 28), .ref (r + 29)]
def kdM : Nat → Nat := fun j => match j with
  | 1 => 1
  | 2 => 0
  | 3 => 0
  | 4 => 0
  | 5 => 0
  | 6 => 0
  | 7 => 0
  | 8 => 0
  | 9 => 3
  | 10 => 0
  | 11 => 0
  | 12 => 0
  | 13 => 0
  | 14 => 0
  | 15 => 0
  | 16 => 0
  | 17 => 0
  | 18 => 0
  | 19 => 0
  | 20 => 0
  | 21 => 0
  | 22 => 0
  | 23 => 3
  | 24 => 3
  | 25 => 3
  | 26 => 0
  | 27 => 0
  | 28 => 3
  | _ => 0
def nnM : Nat → Nat := fun j => match j with
  | 1 => 48
  | 2 => 220
  | 3 => 220
  | 4 => 220
  | 5 => 220
  | 6 => 220
  | 7 => 220
  | 8 => 220
  | 9 => 220
  | 10 => 220
  | 11 => 9
  | 12 => 9
  | 13 => 9
  | 14 => 400
  | 15 => 160
  | 16 => 160
  | 17 => 160
  | 18 => 800
  | 19 => 800
  | 20 => 200
  | 21 => 1120
  | 22 => 14
  | 23 => 160
  | 24 => 160
  | 25 => 160
  | 26 => 330
  | 27 => 330
  | 28 => 160
  | _ => 160
def cM (r : Nat) (T : qT) (j : Nat) : qE := match j with
  | 0 => .inr (8, fsM_0 r T)
  | j => .inl (kdM j, nnM j, .inl (T.2.1 j))
def layM (r : Nat) (T : qT) : qH := q_blk r 30 (cM r) T
theorem layM_put {r j : Nat} {T T' : qT} {e : qE} (hj : j < 30) (h2 : T'.2.2.2.2 = T.2.2.2.2) (hc : va_up (cM r T) j e = cM r T') : (q_up (layM r T).1 (r + j) e, (layM r T).2) = layM r T' := q_blk_put hj h2 hc
theorem obM_0 (r : Nat) : q_obj (layM r) (r + 0) 8 := fun T => ⟨fsM_0 r T, ov_at (by decide)⟩
theorem zM_Md_thrown (r : Nat) : q_scl (layM r) (r + 0) 8 0 0 := fun T => ⟨fsM_0 r T, ov_at (by decide), rfl, (Nat.le_of_ble_eq_true rfl), fun v => layM_put (by decide) rfl (by
    funext i
    unfold va_up
    by_cases hi : i = 0
    · subst hi; rw [if_pos rfl]; rfl
    · rw [if_neg hi]; unfold cM; split <;> first | rfl | exact absurd rfl hi)⟩
theorem zM_Md_size (r : Nat) : q_scl (layM r) (r + 0) 8 1 1 := fun T => ⟨fsM_0 r T, ov_at (by decide), rfl, (Nat.le_of_ble_eq_true rfl), fun v => layM_put (by decide) rfl (by
    funext i
    unfold va_up
    by_cases hi : i = 0
    · subst hi; rw [if_pos rfl]; rfl
    · rw [if_neg hi]; unfold cM; split <;> first | rfl | exact absurd rfl hi)⟩
theorem zM_Md_text (r : Nat) : q_ref (layM r) (r + 0) 8 2 (.ref (r + 1)) := fun T => ⟨fsM_0 r T, ov_at (by decide), rfl⟩
theorem zM_Md_error (r : Nat) : q_scl (layM r) (r + 0) 8 3 3 := fun T => ⟨fsM_0 r T, ov_at (by decide), rfl, (Nat.le_of_ble_eq_true rfl), fun v => layM_put (by decide) rfl (by
    funext i
    unfold va_up
    by_cases hi : i = 0
    · subst hi; rw [if_pos rfl]; rfl
    · rw [if_neg hi]; unfold cM; split <;> first | rfl | exact absurd rfl hi)⟩
theorem zM_Md_nodes (r : Nat) : q_scl (layM r) (r + 0) 8 4 4 := fun T => ⟨fsM_0 r T, ov_at (by decide), rfl, (Nat.le_of_ble_eq_true rfl), fun v => layM_put (by decide) rfl (by
    funext i
    unfold va_up
    by_cases hi : i = 0
    · subst hi; rw [if_pos rfl]; rfl
    · rw [if_neg hi]; unfold cM; split <;> first | rfl | exact absurd rfl hi)⟩
theorem zM_Md_kind (r : Nat) : q_ref (layM r) (r + 0) 8 5 (.ref (r + 2)) := fun T => ⟨fsM_0 r T, ov_at (by decide), rfl⟩
theorem zM_Md_first (r : Nat) : q_ref (layM r) (r + 0) 8 6 (.ref (r + 3)) := fun T => ⟨fsM_0 r T, ov_at (by decide), rfl⟩
theorem zM_Md_last (r : Nat) : q_ref (layM r) (r + 0) 8 7 (.ref (r + 4)) := fun T => ⟨fsM_0 r T, ov_at (by decide), rfl⟩
theorem zM_Md_next (r : Nat) : q_ref (layM r) (r + 0) 8 8 (.ref (r + 5)) := fun T => ⟨fsM_0 r T, ov_at (by decide), rfl⟩
theorem zM_Md_a (r : Nat) : q_ref (layM r) (r + 0) 8 9 (.ref (r + 6)) := fun T => ⟨fsM_0 r T, ov_at (by decide), rfl⟩
theorem zM_Md_least (r : Nat) : q_ref (layM r) (r + 0) 8 10 (.ref (r + 7)) := fun T => ⟨fsM_0 r T, ov_at (by decide), rfl⟩
theorem zM_Md_most (r : Nat) : q_ref (layM r) (r + 0) 8 11 (.ref (r + 8)) := fun T => ⟨fsM_0 r T, ov_at (by decide), rfl⟩
theorem zM_Md_lazy (r : Nat) : q_ref (layM r) (r + 0) 8 12 (.ref (r + 9)) := fun T => ⟨fsM_0 r T, ov_at (by decide), rfl⟩
theorem zM_Md_wide (r : Nat) : q_ref (layM r) (r + 0) 8 13 (.ref (r + 10)) := fun T => ⟨fsM_0 r T, ov_at (by decide), rfl⟩
theorem zM_Md_p (r : Nat) : q_scl (layM r) (r + 0) 8 14 14 := fun T => ⟨fsM_0 r T, ov_at (by decide), rfl, (Nat.le_of_ble_eq_true rfl), fun v => layM_put (by decide) rfl (by
    funext i
    unfold va_up
    by_cases hi : i = 0
    · subst hi; rw [if_pos rfl]; rfl
    · rw [if_neg hi]; unfold cM; split <;> first | rfl | exact absurd rfl hi)⟩
theorem zM_Md_depth (r : Nat) : q_scl (layM r) (r + 0) 8 15 15 := fun T => ⟨fsM_0 r T, ov_at (by decide), rfl, (Nat.le_of_ble_eq_true rfl), fun v => layM_put (by decide) rfl (by
    funext i
    unfold va_up
    by_cases hi : i = 0
    · subst hi; rw [if_pos rfl]; rfl
    · rw [if_neg hi]; unfold cM; split <;> first | rfl | exact absurd rfl hi)⟩
theorem zM_Md_openRepeat (r : Nat) : q_ref (layM r) (r + 0) 8 16 (.ref (r + 11)) := fun T => ⟨fsM_0 r T, ov_at (by decide), rfl⟩
theorem zM_Md_openChoice (r : Nat) : q_ref (layM r) (r + 0) 8 17 (.ref (r + 12)) := fun T => ⟨fsM_0 r T, ov_at (by decide), rfl⟩
theorem zM_Md_openRow (r : Nat) : q_ref (layM r) (r + 0) 8 18 (.ref (r + 13)) := fun T => ⟨fsM_0 r T, ov_at (by decide), rfl⟩
theorem zM_Md_numbers (r : Nat) : q_scl (layM r) (r + 0) 8 19 19 := fun T => ⟨fsM_0 r T, ov_at (by decide), rfl, (Nat.le_of_ble_eq_true rfl), fun v => layM_put (by decide) rfl (by
    funext i
    unfold va_up
    by_cases hi : i = 0
    · subst hi; rw [if_pos rfl]; rfl
    · rw [if_neg hi]; unfold cM; split <;> first | rfl | exact absurd rfl hi)⟩
theorem zM_Md_sets (r : Nat) : q_scl (layM r) (r + 0) 8 20 20 := fun T => ⟨fsM_0 r T, ov_at (by decide), rfl, (Nat.le_of_ble_eq_true rfl), fun v => layM_put (by decide) rfl (by
    funext i
    unfold va_up
    by_cases hi : i = 0
    · subst hi; rw [if_pos rfl]; rfl
    · rw [if_neg hi]; unfold cM; split <;> first | rfl | exact absurd rfl hi)⟩
theorem zM_Md_bits (r : Nat) : q_ref (layM r) (r + 0) 8 21 (.ref (r + 14)) := fun T => ⟨fsM_0 r T, ov_at (by decide), rfl⟩
theorem zM_Md_length (r : Nat) : q_scl (layM r) (r + 0) 8 22 22 := fun T => ⟨fsM_0 r T, ov_at (by decide), rfl, (Nat.le_of_ble_eq_true rfl), fun v => layM_put (by decide) rfl (by
    funext i
    unfold va_up
    by_cases hi : i = 0
    · subst hi; rw [if_pos rfl]; rfl
    · rw [if_neg hi]; unfold cM; split <;> first | rfl | exact absurd rfl hi)⟩
theorem zM_Md_code (r : Nat) : q_ref (layM r) (r + 0) 8 23 (.ref (r + 15)) := fun T => ⟨fsM_0 r T, ov_at (by decide), rfl⟩
theorem zM_Md_x (r : Nat) : q_ref (layM r) (r + 0) 8 24 (.ref (r + 16)) := fun T => ⟨fsM_0 r T, ov_at (by decide), rfl⟩
theorem zM_Md_y (r : Nat) : q_ref (layM r) (r + 0) 8 25 (.ref (r + 17)) := fun T => ⟨fsM_0 r T, ov_at (by decide), rfl⟩
theorem zM_Md_tasks (r : Nat) : q_scl (layM r) (r + 0) 8 26 26 := fun T => ⟨fsM_0 r T, ov_at (by decide), rfl, (Nat.le_of_ble_eq_true rfl), fun v => layM_put (by decide) rfl (by
    funext i
    unfold va_up
    by_cases hi : i = 0
    · subst hi; rw [if_pos rfl]; rfl
    · rw [if_neg hi]; unfold cM; split <;> first | rfl | exact absurd rfl hi)⟩
theorem zM_Md_taskNode (r : Nat) : q_ref (layM r) (r + 0) 8 27 (.ref (r + 18)) := fun T => ⟨fsM_0 r T, ov_at (by decide), rfl⟩
theorem zM_Md_taskAt (r : Nat) : q_ref (layM r) (r + 0) 8 28 (.ref (r + 19)) := fun T => ⟨fsM_0 r T, ov_at (by decide), rfl⟩
theorem zM_Md_begun (r : Nat) : q_scl (layM r) (r + 0) 8 29 29 := fun T => ⟨fsM_0 r T, ov_at (by decide), rfl, (Nat.le_of_ble_eq_true rfl), fun v => layM_put (by decide) rfl (by
    funext i
    unfold va_up
    by_cases hi : i = 0
    · subst hi; rw [if_pos rfl]; rfl
    · rw [if_neg hi]; unfold cM; split <;> first | rfl | exact absurd rfl hi)⟩
theorem zM_Md_search (r : Nat) : q_scl (layM r) (r + 0) 8 30 30 := fun T => ⟨fsM_0 r T, ov_at (by decide), rfl, (Nat.le_of_ble_eq_true rfl), fun v => layM_put (by decide) rfl (by
    funext i
    unfold va_up
    by_cases hi : i = 0
    · subst hi; rw [if_pos rfl]; rfl
    · rw [if_neg hi]; unfold cM; split <;> first | rfl | exact absurd rfl hi)⟩
theorem zM_Md_fed (r : Nat) : q_scl (layM r) (r + 0) 8 31 31 := fun T => ⟨fsM_0 r T, ov_at (by decide), rfl, (Nat.le_of_ble_eq_true rfl), fun v => layM_put (by decide) rfl (by
    funext i
    unfold va_up
    by_cases hi : i = 0
    · subst hi; rw [if_pos rfl]; rfl
    · rw [if_neg hi]; unfold cM; split <;> first | rfl | exact absurd rfl hi)⟩
theorem zM_Md_word (r : Nat) : q_ref (layM r) (r + 0) 8 32 (.ref (r + 20)) := fun T => ⟨fsM_0 r T, ov_at (by decide), rfl⟩
theorem zM_Md_known (r : Nat) : q_scl (layM r) (r + 0) 8 33 33 := fun T => ⟨fsM_0 r T, ov_at (by decide), rfl, (Nat.le_of_ble_eq_true rfl), fun v => layM_put (by decide) rfl (by
    funext i
    unfold va_up
    by_cases hi : i = 0
    · subst hi; rw [if_pos rfl]; rfl
    · rw [if_neg hi]; unfold cM; split <;> first | rfl | exact absurd rfl hi)⟩
theorem zM_Md_matched (r : Nat) : q_scl (layM r) (r + 0) 8 34 34 := fun T => ⟨fsM_0 r T, ov_at (by decide), rfl, (Nat.le_of_ble_eq_true rfl), fun v => layM_put (by decide) rfl (by
    funext i
    unfold va_up
    by_cases hi : i = 0
    · subst hi; rw [if_pos rfl]; rfl
    · rw [if_neg hi]; unfold cM; split <;> first | rfl | exact absurd rfl hi)⟩
theorem zM_Md_can (r : Nat) : q_ref (layM r) (r + 0) 8 35 (.ref (r + 21)) := fun T => ⟨fsM_0 r T, ov_at (by decide), rfl⟩
theorem zM_Md_marks (r : Nat) : q_ref (layM r) (r + 0) 8 36 (.ref (r + 22)) := fun T => ⟨fsM_0 r T, ov_at (by decide), rfl⟩
theorem zM_Md_live (r : Nat) : q_ref (layM r) (r + 0) 8 37 (.ref (r + 23)) := fun T => ⟨fsM_0 r T, ov_at (by decide), rfl⟩
theorem zM_Md_here (r : Nat) : q_ref (layM r) (r + 0) 8 38 (.ref (r + 24)) := fun T => ⟨fsM_0 r T, ov_at (by decide), rfl⟩
theorem zM_Md_there (r : Nat) : q_ref (layM r) (r + 0) 8 39 (.ref (r + 25)) := fun T => ⟨fsM_0 r T, ov_at (by decide), rfl⟩
theorem zM_Md_piled (r : Nat) : q_scl (layM r) (r + 0) 8 40 40 := fun T => ⟨fsM_0 r T, ov_at (by decide), rfl, (Nat.le_of_ble_eq_true rfl), fun v => layM_put (by decide) rfl (by
    funext i
    unfold va_up
    by_cases hi : i = 0
    · subst hi; rw [if_pos rfl]; rfl
    · rw [if_neg hi]; unfold cM; split <;> first | rfl | exact absurd rfl hi)⟩
theorem zM_Md_pile (r : Nat) : q_ref (layM r) (r + 0) 8 41 (.ref (r + 26)) := fun T => ⟨fsM_0 r T, ov_at (by decide), rfl⟩
theorem zM_Md_from (r : Nat) : q_ref (layM r) (r + 0) 8 42 (.ref (r + 27)) := fun T => ⟨fsM_0 r T, ov_at (by decide), rfl⟩
theorem zM_Md_seen (r : Nat) : q_ref (layM r) (r + 0) 8 43 (.ref (r + 28)) := fun T => ⟨fsM_0 r T, ov_at (by decide), rfl⟩
theorem zM_Md_parent (r : Nat) : q_ref (layM r) (r + 0) 8 44 (.ref (r + 29)) := fun T => ⟨fsM_0 r T, ov_at (by decide), rfl⟩
theorem rM_1 (r : Nat) : q_arr (layM r) (r + 1) 1 48 1 := fun T => ⟨ov_at (by decide), fun g => layM_put (by decide) rfl (by
    funext i
    unfold va_up
    by_cases hi : i = 1
    · subst hi; rw [if_pos rfl]; rfl
    · rw [if_neg hi]; unfold cM; split <;> first | rfl | (simp only [aU, va_up, if_neg hi]))⟩
theorem rM_2 (r : Nat) : q_arr (layM r) (r + 2) 0 220 2 := fun T => ⟨ov_at (by decide), fun g => layM_put (by decide) rfl (by
    funext i
    unfold va_up
    by_cases hi : i = 2
    · subst hi; rw [if_pos rfl]; rfl
    · rw [if_neg hi]; unfold cM; split <;> first | rfl | (simp only [aU, va_up, if_neg hi]))⟩
theorem rM_3 (r : Nat) : q_arr (layM r) (r + 3) 0 220 3 := fun T => ⟨ov_at (by decide), fun g => layM_put (by decide) rfl (by
    funext i
    unfold va_up
    by_cases hi : i = 3
    · subst hi; rw [if_pos rfl]; rfl
    · rw [if_neg hi]; unfold cM; split <;> first | rfl | (simp only [aU, va_up, if_neg hi]))⟩
theorem rM_4 (r : Nat) : q_arr (layM r) (r + 4) 0 220 4 := fun T => ⟨ov_at (by decide), fun g => layM_put (by decide) rfl (by
    funext i
    unfold va_up
    by_cases hi : i = 4
    · subst hi; rw [if_pos rfl]; rfl
    · rw [if_neg hi]; unfold cM; split <;> first | rfl | (simp only [aU, va_up, if_neg hi]))⟩
theorem rM_5 (r : Nat) : q_arr (layM r) (r + 5) 0 220 5 := fun T => ⟨ov_at (by decide), fun g => layM_put (by decide) rfl (by
    funext i
    unfold va_up
    by_cases hi : i = 5
    · subst hi; rw [if_pos rfl]; rfl
    · rw [if_neg hi]; unfold cM; split <;> first | rfl | (simp only [aU, va_up, if_neg hi]))⟩
theorem rM_6 (r : Nat) : q_arr (layM r) (r + 6) 0 220 6 := fun T => ⟨ov_at (by decide), fun g => layM_put (by decide) rfl (by
    funext i
    unfold va_up
    by_cases hi : i = 6
    · subst hi; rw [if_pos rfl]; rfl
    · rw [if_neg hi]; unfold cM; split <;> first | rfl | (simp only [aU, va_up, if_neg hi]))⟩
theorem rM_7 (r : Nat) : q_arr (layM r) (r + 7) 0 220 7 := fun T => ⟨ov_at (by decide), fun g => layM_put (by decide) rfl (by
    funext i
    unfold va_up
    by_cases hi : i = 7
    · subst hi; rw [if_pos rfl]; rfl
    · rw [if_neg hi]; unfold cM; split <;> first | rfl | (simp only [aU, va_up, if_neg hi]))⟩
theorem rM_8 (r : Nat) : q_arr (layM r) (r + 8) 0 220 8 := fun T => ⟨ov_at (by decide), fun g => layM_put (by decide) rfl (by
    funext i
    unfold va_up
    by_cases hi : i = 8
    · subst hi; rw [if_pos rfl]; rfl
    · rw [if_neg hi]; unfold cM; split <;> first | rfl | (simp only [aU, va_up, if_neg hi]))⟩
theorem rM_9 (r : Nat) : q_arr (layM r) (r + 9) 3 220 9 := fun T => ⟨ov_at (by decide), fun g => layM_put (by decide) rfl (by
    funext i
    unfold va_up
    by_cases hi : i = 9
    · subst hi; rw [if_pos rfl]; rfl
    · rw [if_neg hi]; unfold cM; split <;> first | rfl | (simp only [aU, va_up, if_neg hi]))⟩
theorem rM_10 (r : Nat) : q_arr (layM r) (r + 10) 0 220 10 := fun T => ⟨ov_at (by decide), fun g => layM_put (by decide) rfl (by
    funext i
    unfold va_up
    by_cases hi : i = 10
    · subst hi; rw [if_pos rfl]; rfl
    · rw [if_neg hi]; unfold cM; split <;> first | rfl | (simp only [aU, va_up, if_neg hi]))⟩
theorem rM_11 (r : Nat) : q_arr (layM r) (r + 11) 0 9 11 := fun T => ⟨ov_at (by decide), fun g => layM_put (by decide) rfl (by
    funext i
    unfold va_up
    by_cases hi : i = 11
    · subst hi; rw [if_pos rfl]; rfl
    · rw [if_neg hi]; unfold cM; split <;> first | rfl | (simp only [aU, va_up, if_neg hi]))⟩
theorem rM_12 (r : Nat) : q_arr (layM r) (r + 12) 0 9 12 := fun T => ⟨ov_at (by decide), fun g => layM_put (by decide) rfl (by
    funext i
    unfold va_up
    by_cases hi : i = 12
    · subst hi; rw [if_pos rfl]; rfl
    · rw [if_neg hi]; unfold cM; split <;> first | rfl | (simp only [aU, va_up, if_neg hi]))⟩
theorem rM_13 (r : Nat) : q_arr (layM r) (r + 13) 0 9 13 := fun T => ⟨ov_at (by decide), fun g => layM_put (by decide) rfl (by
    funext i
    unfold va_up
    by_cases hi : i = 13
    · subst hi; rw [if_pos rfl]; rfl
    · rw [if_neg hi]; unfold cM; split <;> first | rfl | (simp only [aU, va_up, if_neg hi]))⟩
theorem rM_14 (r : Nat) : q_arr (layM r) (r + 14) 0 400 14 := fun T => ⟨ov_at (by decide), fun g => layM_put (by decide) rfl (by
    funext i
    unfold va_up
    by_cases hi : i = 14
    · subst hi; rw [if_pos rfl]; rfl
    · rw [if_neg hi]; unfold cM; split <;> first | rfl | (simp only [aU, va_up, if_neg hi]))⟩
theorem rM_15 (r : Nat) : q_arr (layM r) (r + 15) 0 160 15 := fun T => ⟨ov_at (by decide), fun g => layM_put (by decide) rfl (by
    funext i
    unfold va_up
    by_cases hi : i = 15
    · subst hi; rw [if_pos rfl]; rfl
    · rw [if_neg hi]; unfold cM; split <;> first | rfl | (simp only [aU, va_up, if_neg hi]))⟩
theorem rM_16 (r : Nat) : q_arr (layM r) (r + 16) 0 160 16 := fun T => ⟨ov_at (by decide), fun g => layM_put (by decide) rfl (by
    funext i
    unfold va_up
    by_cases hi : i = 16
    · subst hi; rw [if_pos rfl]; rfl
    · rw [if_neg hi]; unfold cM; split <;> first | rfl | (simp only [aU, va_up, if_neg hi]))⟩
theorem rM_17 (r : Nat) : q_arr (layM r) (r + 17) 0 160 17 := fun T => ⟨ov_at (by decide), fun g => layM_put (by decide) rfl (by
    funext i
    unfold va_up
    by_cases hi : i = 17
    · subst hi; rw [if_pos rfl]; rfl
    · rw [if_neg hi]; unfold cM; split <;> first | rfl | (simp only [aU, va_up, if_neg hi]))⟩
theorem rM_18 (r : Nat) : q_arr (layM r) (r + 18) 0 800 18 := fun T => ⟨ov_at (by decide), fun g => layM_put (by decide) rfl (by
    funext i
    unfold va_up
    by_cases hi : i = 18
    · subst hi; rw [if_pos rfl]; rfl
    · rw [if_neg hi]; unfold cM; split <;> first | rfl | (simp only [aU, va_up, if_neg hi]))⟩
theorem rM_19 (r : Nat) : q_arr (layM r) (r + 19) 0 800 19 := fun T => ⟨ov_at (by decide), fun g => layM_put (by decide) rfl (by
    funext i
    unfold va_up
    by_cases hi : i = 19
    · subst hi; rw [if_pos rfl]; rfl
    · rw [if_neg hi]; unfold cM; split <;> first | rfl | (simp only [aU, va_up, if_neg hi]))⟩
theorem rM_20 (r : Nat) : q_arr (layM r) (r + 20) 0 200 20 := fun T => ⟨ov_at (by decide), fun g => layM_put (by decide) rfl (by
    funext i
    unfold va_up
    by_cases hi : i = 20
    · subst hi; rw [if_pos rfl]; rfl
    · rw [if_neg hi]; unfold cM; split <;> first | rfl | (simp only [aU, va_up, if_neg hi]))⟩
theorem rM_21 (r : Nat) : q_arr (layM r) (r + 21) 0 1120 21 := fun T => ⟨ov_at (by decide), fun g => layM_put (by decide) rfl (by
    funext i
    unfold va_up
    by_cases hi : i = 21
    · subst hi; rw [if_pos rfl]; rfl
    · rw [if_neg hi]; unfold cM; split <;> first | rfl | (simp only [aU, va_up, if_neg hi]))⟩
theorem rM_22 (r : Nat) : q_arr (layM r) (r + 22) 0 14 22 := fun T => ⟨ov_at (by decide), fun g => layM_put (by decide) rfl (by
    funext i
    unfold va_up
    by_cases hi : i = 22
    · subst hi; rw [if_pos rfl]; rfl
    · rw [if_neg hi]; unfold cM; split <;> first | rfl | (simp only [aU, va_up, if_neg hi]))⟩
theorem rM_23 (r : Nat) : q_arr (layM r) (r + 23) 3 160 23 := fun T => ⟨ov_at (by decide), fun g => layM_put (by decide) rfl (by
    funext i
    unfold va_up
    by_cases hi : i = 23
    · subst hi; rw [if_pos rfl]; rfl
    · rw [if_neg hi]; unfold cM; split <;> first | rfl | (simp only [aU, va_up, if_neg hi]))⟩
theorem rM_24 (r : Nat) : q_arr (layM r) (r + 24) 3 160 24 := fun T => ⟨ov_at (by decide), fun g => layM_put (by decide) rfl (by
    funext i
    unfold va_up
    by_cases hi : i = 24
    · subst hi; rw [if_pos rfl]; rfl
    · rw [if_neg hi]; unfold cM; split <;> first | rfl | (simp only [aU, va_up, if_neg hi]))⟩
theorem rM_25 (r : Nat) : q_arr (layM r) (r + 25) 3 160 25 := fun T => ⟨ov_at (by decide), fun g => layM_put (by decide) rfl (by
    funext i
    unfold va_up
    by_cases hi : i = 25
    · subst hi; rw [if_pos rfl]; rfl
    · rw [if_neg hi]; unfold cM; split <;> first | rfl | (simp only [aU, va_up, if_neg hi]))⟩
theorem rM_26 (r : Nat) : q_arr (layM r) (r + 26) 0 330 26 := fun T => ⟨ov_at (by decide), fun g => layM_put (by decide) rfl (by
    funext i
    unfold va_up
    by_cases hi : i = 26
    · subst hi; rw [if_pos rfl]; rfl
    · rw [if_neg hi]; unfold cM; split <;> first | rfl | (simp only [aU, va_up, if_neg hi]))⟩
theorem rM_27 (r : Nat) : q_arr (layM r) (r + 27) 0 330 27 := fun T => ⟨ov_at (by decide), fun g => layM_put (by decide) rfl (by
    funext i
    unfold va_up
    by_cases hi : i = 27
    · subst hi; rw [if_pos rfl]; rfl
    · rw [if_neg hi]; unfold cM; split <;> first | rfl | (simp only [aU, va_up, if_neg hi]))⟩
theorem rM_28 (r : Nat) : q_arr (layM r) (r + 28) 3 160 28 := fun T => ⟨ov_at (by decide), fun g => layM_put (by decide) rfl (by
    funext i
    unfold va_up
    by_cases hi : i = 28
    · subst hi; rw [if_pos rfl]; rfl
    · rw [if_neg hi]; unfold cM; split <;> first | rfl | (simp only [aU, va_up, if_neg hi]))⟩
theorem rM_29 (r : Nat) : q_arr (layM r) (r + 29) 0 160 29 := fun T => ⟨ov_at (by decide), fun g => layM_put (by decide) rfl (by
    funext i
    unfold va_up
    by_cases hi : i = 29
    · subst hi; rw [if_pos rfl]; rfl
    · rw [if_neg hi]; unfold cM; split <;> first | rfl | (simp only [aU, va_up, if_neg hi]))⟩
def fsC_0 (o : Nat) (T : qT) : List Value := [.ref (o + 1), .int (T.1 1), .int (T.1 2), .ref (o + 2), .ref (o + 4), .ref (o + 5), .ref (o + 9)]
def fsC_2 (o : Nat) (T : qT) : List Value := [.ref (o + 3), .int (T.1 41)]
def fsC_4 (o : Nat) (T : qT) : List Value := [.ref (o + 1), .ref (o + 2), .int (T.1 82), .int (T.1 83), .int (T.1 84), .int (T.1 85)]
def fsC_5 (o : Nat) (T : qT) : List Value := [.ref (o + 6), .ref (o + 7), .ref (o + 8), .int (T.1 103), .int (T.1 104)]
def fsC_9 (o : Nat) (T : qT) : List Value := [.ref (o + 5), .ref (o + 2), .ref (o + 10 + 3 * T.2.2.2.1 0), .ref (o + 10 + 3 * T.2.2.2.1 1), .ref (o + 16), .ref (o + 17), .ref (o + 18), .int (T.1 187), .ref (o + 19), .ref (o + 20), .int (T.1 190), .int (T.1 191), .int (T.1 192), .int (T.1 193), .int (T.1 194)]
def fsC_10 (o : Nat) (T : qT) : List Value := [.ref (o + 11), .ref (o + 12), .int (T.1 202)]
def fsC_13 (o : Nat) (T : qT) : List Value := [.ref (o + 14), .ref (o + 15), .int (T.1 262)]
def kdC : Nat → Nat := fun j => match j with
  | 1 => 1
  | 6 => 0
  | 7 => 0
  | 8 => 0
  | 11 => 0
  | 12 => 0
  | 14 => 0
  | 15 => 0
  | 16 => 0
  | 17 => 0
  | 18 => 0
  | 19 => 0
  | _ => 0
def nnC : Nat → Nat := fun j => match j with
  | 1 => 48
  | 6 => 160
  | 7 => 160
  | 8 => 160
  | 11 => 160
  | 12 => 2240
  | 14 => 160
  | 15 => 2240
  | 16 => 160
  | 17 => 321
  | 18 => 321
  | 19 => 14
  | _ => 14
def cC (o : Nat) (T : qT) (j : Nat) : qE := match j with
  | 0 => .inr (0, fsC_0 o T)
  | 2 => .inr (1, fsC_2 o T)
  | 4 => .inr (2, fsC_4 o T)
  | 5 => .inr (3, fsC_5 o T)
  | 9 => .inr (6, fsC_9 o T)
  | 10 => .inr (7, fsC_10 o T)
  | 13 => .inr (7, fsC_13 o T)
  | 3 => .inl (2, 192, .inr (.inl T.2.2.1))
  | j => .inl (kdC j, nnC j, .inl (T.2.1 j))
def layC (o : Nat) (T : qT) : qH := q_blk o 21 (cC o) T
theorem layC_put {o j : Nat} {T T' : qT} {e : qE} (hj : j < 21) (h2 : T'.2.2.2.2 = T.2.2.2.2) (hc : va_up (cC o T) j e = cC o T') : (q_up (layC o T).1 (o + j) e, (layC o T).2) = layC o T' := q_blk_put hj h2 hc
theorem obC_0 (o : Nat) : q_obj (layC o) (o + 0) 0 := fun T => ⟨fsC_0 o T, ov_at (by decide)⟩
theorem zC_PW_text (o : Nat) : q_ref (layC o) (o + 0) 0 0 (.ref (o + 1)) := fun T => ⟨fsC_0 o T, ov_at (by decide), rfl⟩
theorem zC_PW_length (o : Nat) : q_scl (layC o) (o + 0) 0 1 1 := fun T => ⟨fsC_0 o T, ov_at (by decide), rfl, (Nat.le_of_ble_eq_true rfl), fun v => layC_put (by decide) rfl (by
    funext i
    unfold va_up
    by_cases hi : i = 0
    · subst hi; rw [if_pos rfl]; rfl
    · rw [if_neg hi]; unfold cC; split <;> first | rfl | exact absurd rfl hi)⟩
theorem zC_PW_errorAt (o : Nat) : q_scl (layC o) (o + 0) 0 2 2 := fun T => ⟨fsC_0 o T, ov_at (by decide), rfl, (Nat.le_of_ble_eq_true rfl), fun v => layC_put (by decide) rfl (by
    funext i
    unfold va_up
    by_cases hi : i = 0
    · subst hi; rw [if_pos rfl]; rfl
    · rw [if_neg hi]; unfold cC; split <;> first | rfl | exact absurd rfl hi)⟩
theorem zC_PW_sets (o : Nat) : q_ref (layC o) (o + 0) 0 3 (.ref (o + 2)) := fun T => ⟨fsC_0 o T, ov_at (by decide), rfl⟩
theorem zC_PW_parser (o : Nat) : q_ref (layC o) (o + 0) 0 4 (.ref (o + 4)) := fun T => ⟨fsC_0 o T, ov_at (by decide), rfl⟩
theorem zC_PW_program (o : Nat) : q_ref (layC o) (o + 0) 0 5 (.ref (o + 5)) := fun T => ⟨fsC_0 o T, ov_at (by decide), rfl⟩
theorem zC_PW_walk (o : Nat) : q_ref (layC o) (o + 0) 0 6 (.ref (o + 9)) := fun T => ⟨fsC_0 o T, ov_at (by decide), rfl⟩
theorem obC_2 (o : Nat) : q_obj (layC o) (o + 2) 1 := fun T => ⟨fsC_2 o T, ov_at (by decide)⟩
theorem zC_Cs_bits (o : Nat) : q_ref (layC o) (o + 2) 1 0 (.ref (o + 3)) := fun T => ⟨fsC_2 o T, ov_at (by decide), rfl⟩
theorem zC_Cs_used (o : Nat) : q_scl (layC o) (o + 2) 1 1 41 := fun T => ⟨fsC_2 o T, ov_at (by decide), rfl, (Nat.le_of_ble_eq_true rfl), fun v => layC_put (by decide) rfl (by
    funext i
    unfold va_up
    by_cases hi : i = 2
    · subst hi; rw [if_pos rfl]; rfl
    · rw [if_neg hi]; unfold cC; split <;> first | rfl | exact absurd rfl hi)⟩
theorem obC_4 (o : Nat) : q_obj (layC o) (o + 4) 2 := fun T => ⟨fsC_4 o T, ov_at (by decide)⟩
theorem zC_Pa_text (o : Nat) : q_ref (layC o) (o + 4) 2 0 (.ref (o + 1)) := fun T => ⟨fsC_4 o T, ov_at (by decide), rfl⟩
theorem zC_Pa_sets (o : Nat) : q_ref (layC o) (o + 4) 2 1 (.ref (o + 2)) := fun T => ⟨fsC_4 o T, ov_at (by decide), rfl⟩
theorem zC_Pa_length (o : Nat) : q_scl (layC o) (o + 4) 2 2 82 := fun T => ⟨fsC_4 o T, ov_at (by decide), rfl, (Nat.le_of_ble_eq_true rfl), fun v => layC_put (by decide) rfl (by
    funext i
    unfold va_up
    by_cases hi : i = 4
    · subst hi; rw [if_pos rfl]; rfl
    · rw [if_neg hi]; unfold cC; split <;> first | rfl | exact absurd rfl hi)⟩
theorem zC_Pa_at (o : Nat) : q_scl (layC o) (o + 4) 2 3 83 := fun T => ⟨fsC_4 o T, ov_at (by decide), rfl, (Nat.le_of_ble_eq_true rfl), fun v => layC_put (by decide) rfl (by
    funext i
    unfold va_up
    by_cases hi : i = 4
    · subst hi; rw [if_pos rfl]; rfl
    · rw [if_neg hi]; unfold cC; split <;> first | rfl | exact absurd rfl hi)⟩
theorem zC_Pa_groups (o : Nat) : q_scl (layC o) (o + 4) 2 4 84 := fun T => ⟨fsC_4 o T, ov_at (by decide), rfl, (Nat.le_of_ble_eq_true rfl), fun v => layC_put (by decide) rfl (by
    funext i
    unfold va_up
    by_cases hi : i = 4
    · subst hi; rw [if_pos rfl]; rfl
    · rw [if_neg hi]; unfold cC; split <;> first | rfl | exact absurd rfl hi)⟩
theorem zC_Pa_error (o : Nat) : q_scl (layC o) (o + 4) 2 5 85 := fun T => ⟨fsC_4 o T, ov_at (by decide), rfl, (Nat.le_of_ble_eq_true rfl), fun v => layC_put (by decide) rfl (by
    funext i
    unfold va_up
    by_cases hi : i = 4
    · subst hi; rw [if_pos rfl]; rfl
    · rw [if_neg hi]; unfold cC; split <;> first | rfl | exact absurd rfl hi)⟩
theorem obC_5 (o : Nat) : q_obj (layC o) (o + 5) 3 := fun T => ⟨fsC_5 o T, ov_at (by decide)⟩
theorem zC_Pr_kinds (o : Nat) : q_ref (layC o) (o + 5) 3 0 (.ref (o + 6)) := fun T => ⟨fsC_5 o T, ov_at (by decide), rfl⟩
theorem zC_Pr_xs (o : Nat) : q_ref (layC o) (o + 5) 3 1 (.ref (o + 7)) := fun T => ⟨fsC_5 o T, ov_at (by decide), rfl⟩
theorem zC_Pr_ys (o : Nat) : q_ref (layC o) (o + 5) 3 2 (.ref (o + 8)) := fun T => ⟨fsC_5 o T, ov_at (by decide), rfl⟩
theorem zC_Pr_size (o : Nat) : q_scl (layC o) (o + 5) 3 3 103 := fun T => ⟨fsC_5 o T, ov_at (by decide), rfl, (Nat.le_of_ble_eq_true rfl), fun v => layC_put (by decide) rfl (by
    funext i
    unfold va_up
    by_cases hi : i = 5
    · subst hi; rw [if_pos rfl]; rfl
    · rw [if_neg hi]; unfold cC; split <;> first | rfl | exact absurd rfl hi)⟩
theorem zC_Pr_numbered (o : Nat) : q_scl (layC o) (o + 5) 3 4 104 := fun T => ⟨fsC_5 o T, ov_at (by decide), rfl, (Nat.le_of_ble_eq_true rfl), fun v => layC_put (by decide) rfl (by
    funext i
    unfold va_up
    by_cases hi : i = 5
    · subst hi; rw [if_pos rfl]; rfl
    · rw [if_neg hi]; unfold cC; split <;> first | rfl | exact absurd rfl hi)⟩
theorem obC_9 (o : Nat) : q_obj (layC o) (o + 9) 6 := fun T => ⟨fsC_9 o T, ov_at (by decide)⟩
theorem zC_Wk_program (o : Nat) : q_ref (layC o) (o + 9) 6 0 (.ref (o + 5)) := fun T => ⟨fsC_9 o T, ov_at (by decide), rfl⟩
theorem zC_Wk_sets (o : Nat) : q_ref (layC o) (o + 9) 6 1 (.ref (o + 2)) := fun T => ⟨fsC_9 o T, ov_at (by decide), rfl⟩
theorem zC_Wk_cameAt (o : Nat) : q_ref (layC o) (o + 9) 6 4 (.ref (o + 16)) := fun T => ⟨fsC_9 o T, ov_at (by decide), rfl⟩
theorem zC_Wk_stack (o : Nat) : q_ref (layC o) (o + 9) 6 5 (.ref (o + 17)) := fun T => ⟨fsC_9 o T, ov_at (by decide), rfl⟩
theorem zC_Wk_oldMarks (o : Nat) : q_ref (layC o) (o + 9) 6 6 (.ref (o + 18)) := fun T => ⟨fsC_9 o T, ov_at (by decide), rfl⟩
theorem zC_Wk_height (o : Nat) : q_scl (layC o) (o + 9) 6 7 187 := fun T => ⟨fsC_9 o T, ov_at (by decide), rfl, (Nat.le_of_ble_eq_true rfl), fun v => layC_put (by decide) rfl (by
    funext i
    unfold va_up
    by_cases hi : i = 9
    · subst hi; rw [if_pos rfl]; rfl
    · rw [if_neg hi]; unfold cC; split <;> first | rfl | exact absurd rfl hi)⟩
theorem zC_Wk_marks (o : Nat) : q_ref (layC o) (o + 9) 6 8 (.ref (o + 19)) := fun T => ⟨fsC_9 o T, ov_at (by decide), rfl⟩
theorem zC_Wk_foundMarks (o : Nat) : q_ref (layC o) (o + 9) 6 9 (.ref (o + 20)) := fun T => ⟨fsC_9 o T, ov_at (by decide), rfl⟩
theorem zC_Wk_begun (o : Nat) : q_scl (layC o) (o + 9) 6 10 190 := fun T => ⟨fsC_9 o T, ov_at (by decide), rfl, (Nat.le_of_ble_eq_true rfl), fun v => layC_put (by decide) rfl (by
    funext i
    unfold va_up
    by_cases hi : i = 9
    · subst hi; rw [if_pos rfl]; rfl
    · rw [if_neg hi]; unfold cC; split <;> first | rfl | exact absurd rfl hi)⟩
theorem zC_Wk_searching (o : Nat) : q_scl (layC o) (o + 9) 6 11 191 := fun T => ⟨fsC_9 o T, ov_at (by decide), rfl, (Nat.le_of_ble_eq_true rfl), fun v => layC_put (by decide) rfl (by
    funext i
    unfold va_up
    by_cases hi : i = 9
    · subst hi; rw [if_pos rfl]; rfl
    · rw [if_neg hi]; unfold cC; split <;> first | rfl | exact absurd rfl hi)⟩
theorem zC_Wk_found (o : Nat) : q_scl (layC o) (o + 9) 6 12 192 := fun T => ⟨fsC_9 o T, ov_at (by decide), rfl, (Nat.le_of_ble_eq_true rfl), fun v => layC_put (by decide) rfl (by
    funext i
    unfold va_up
    by_cases hi : i = 9
    · subst hi; rw [if_pos rfl]; rfl
    · rw [if_neg hi]; unfold cC; split <;> first | rfl | exact absurd rfl hi)⟩
theorem zC_Wk_cut (o : Nat) : q_scl (layC o) (o + 9) 6 13 193 := fun T => ⟨fsC_9 o T, ov_at (by decide), rfl, (Nat.le_of_ble_eq_true rfl), fun v => layC_put (by decide) rfl (by
    funext i
    unfold va_up
    by_cases hi : i = 9
    · subst hi; rw [if_pos rfl]; rfl
    · rw [if_neg hi]; unfold cC; split <;> first | rfl | exact absurd rfl hi)⟩
theorem zC_Wk_place (o : Nat) : q_scl (layC o) (o + 9) 6 14 194 := fun T => ⟨fsC_9 o T, ov_at (by decide), rfl, (Nat.le_of_ble_eq_true rfl), fun v => layC_put (by decide) rfl (by
    funext i
    unfold va_up
    by_cases hi : i = 9
    · subst hi; rw [if_pos rfl]; rfl
    · rw [if_neg hi]; unfold cC; split <;> first | rfl | exact absurd rfl hi)⟩
theorem obC_10 (o : Nat) : q_obj (layC o) (o + 10) 7 := fun T => ⟨fsC_10 o T, ov_at (by decide)⟩
theorem zC_Wy10_takes (o : Nat) : q_ref (layC o) (o + 10) 7 0 (.ref (o + 11)) := fun T => ⟨fsC_10 o T, ov_at (by decide), rfl⟩
theorem zC_Wy10_marks (o : Nat) : q_ref (layC o) (o + 10) 7 1 (.ref (o + 12)) := fun T => ⟨fsC_10 o T, ov_at (by decide), rfl⟩
theorem zC_Wy10_count (o : Nat) : q_scl (layC o) (o + 10) 7 2 202 := fun T => ⟨fsC_10 o T, ov_at (by decide), rfl, (Nat.le_of_ble_eq_true rfl), fun v => layC_put (by decide) rfl (by
    funext i
    unfold va_up
    by_cases hi : i = 10
    · subst hi; rw [if_pos rfl]; rfl
    · rw [if_neg hi]; unfold cC; split <;> first | rfl | exact absurd rfl hi)⟩
theorem obC_13 (o : Nat) : q_obj (layC o) (o + 13) 7 := fun T => ⟨fsC_13 o T, ov_at (by decide)⟩
theorem zC_Wy13_takes (o : Nat) : q_ref (layC o) (o + 13) 7 0 (.ref (o + 14)) := fun T => ⟨fsC_13 o T, ov_at (by decide), rfl⟩
theorem zC_Wy13_marks (o : Nat) : q_ref (layC o) (o + 13) 7 1 (.ref (o + 15)) := fun T => ⟨fsC_13 o T, ov_at (by decide), rfl⟩
theorem zC_Wy13_count (o : Nat) : q_scl (layC o) (o + 13) 7 2 262 := fun T => ⟨fsC_13 o T, ov_at (by decide), rfl, (Nat.le_of_ble_eq_true rfl), fun v => layC_put (by decide) rfl (by
    funext i
    unfold va_up
    by_cases hi : i = 13
    · subst hi; rw [if_pos rfl]; rfl
    · rw [if_neg hi]; unfold cC; split <;> first | rfl | exact absurd rfl hi)⟩
theorem rC_1 (o : Nat) : q_arr (layC o) (o + 1) 1 48 1 := fun T => ⟨ov_at (by decide), fun g => layC_put (by decide) rfl (by
    funext i
    unfold va_up
    by_cases hi : i = 1
    · subst hi; rw [if_pos rfl]; rfl
    · rw [if_neg hi]; unfold cC; split <;> first | rfl | (simp only [aU, va_up, if_neg hi]))⟩
theorem rC_6 (o : Nat) : q_arr (layC o) (o + 6) 0 160 6 := fun T => ⟨ov_at (by decide), fun g => layC_put (by decide) rfl (by
    funext i
    unfold va_up
    by_cases hi : i = 6
    · subst hi; rw [if_pos rfl]; rfl
    · rw [if_neg hi]; unfold cC; split <;> first | rfl | (simp only [aU, va_up, if_neg hi]))⟩
theorem rC_7 (o : Nat) : q_arr (layC o) (o + 7) 0 160 7 := fun T => ⟨ov_at (by decide), fun g => layC_put (by decide) rfl (by
    funext i
    unfold va_up
    by_cases hi : i = 7
    · subst hi; rw [if_pos rfl]; rfl
    · rw [if_neg hi]; unfold cC; split <;> first | rfl | (simp only [aU, va_up, if_neg hi]))⟩
theorem rC_8 (o : Nat) : q_arr (layC o) (o + 8) 0 160 8 := fun T => ⟨ov_at (by decide), fun g => layC_put (by decide) rfl (by
    funext i
    unfold va_up
    by_cases hi : i = 8
    · subst hi; rw [if_pos rfl]; rfl
    · rw [if_neg hi]; unfold cC; split <;> first | rfl | (simp only [aU, va_up, if_neg hi]))⟩
theorem rC_11 (o : Nat) : q_arr (layC o) (o + 11) 0 160 11 := fun T => ⟨ov_at (by decide), fun g => layC_put (by decide) rfl (by
    funext i
    unfold va_up
    by_cases hi : i = 11
    · subst hi; rw [if_pos rfl]; rfl
    · rw [if_neg hi]; unfold cC; split <;> first | rfl | (simp only [aU, va_up, if_neg hi]))⟩
theorem rC_12 (o : Nat) : q_arr (layC o) (o + 12) 0 2240 12 := fun T => ⟨ov_at (by decide), fun g => layC_put (by decide) rfl (by
    funext i
    unfold va_up
    by_cases hi : i = 12
    · subst hi; rw [if_pos rfl]; rfl
    · rw [if_neg hi]; unfold cC; split <;> first | rfl | (simp only [aU, va_up, if_neg hi]))⟩
theorem rC_14 (o : Nat) : q_arr (layC o) (o + 14) 0 160 14 := fun T => ⟨ov_at (by decide), fun g => layC_put (by decide) rfl (by
    funext i
    unfold va_up
    by_cases hi : i = 14
    · subst hi; rw [if_pos rfl]; rfl
    · rw [if_neg hi]; unfold cC; split <;> first | rfl | (simp only [aU, va_up, if_neg hi]))⟩
theorem rC_15 (o : Nat) : q_arr (layC o) (o + 15) 0 2240 15 := fun T => ⟨ov_at (by decide), fun g => layC_put (by decide) rfl (by
    funext i
    unfold va_up
    by_cases hi : i = 15
    · subst hi; rw [if_pos rfl]; rfl
    · rw [if_neg hi]; unfold cC; split <;> first | rfl | (simp only [aU, va_up, if_neg hi]))⟩
theorem rC_16 (o : Nat) : q_arr (layC o) (o + 16) 0 160 16 := fun T => ⟨ov_at (by decide), fun g => layC_put (by decide) rfl (by
    funext i
    unfold va_up
    by_cases hi : i = 16
    · subst hi; rw [if_pos rfl]; rfl
    · rw [if_neg hi]; unfold cC; split <;> first | rfl | (simp only [aU, va_up, if_neg hi]))⟩
theorem rC_17 (o : Nat) : q_arr (layC o) (o + 17) 0 321 17 := fun T => ⟨ov_at (by decide), fun g => layC_put (by decide) rfl (by
    funext i
    unfold va_up
    by_cases hi : i = 17
    · subst hi; rw [if_pos rfl]; rfl
    · rw [if_neg hi]; unfold cC; split <;> first | rfl | (simp only [aU, va_up, if_neg hi]))⟩
theorem rC_18 (o : Nat) : q_arr (layC o) (o + 18) 0 321 18 := fun T => ⟨ov_at (by decide), fun g => layC_put (by decide) rfl (by
    funext i
    unfold va_up
    by_cases hi : i = 18
    · subst hi; rw [if_pos rfl]; rfl
    · rw [if_neg hi]; unfold cC; split <;> first | rfl | (simp only [aU, va_up, if_neg hi]))⟩
theorem rC_19 (o : Nat) : q_arr (layC o) (o + 19) 0 14 19 := fun T => ⟨ov_at (by decide), fun g => layC_put (by decide) rfl (by
    funext i
    unfold va_up
    by_cases hi : i = 19
    · subst hi; rw [if_pos rfl]; rfl
    · rw [if_neg hi]; unfold cC; split <;> first | rfl | (simp only [aU, va_up, if_neg hi]))⟩
theorem rC_20 (o : Nat) : q_arr (layC o) (o + 20) 0 14 20 := fun T => ⟨ov_at (by decide), fun g => layC_put (by decide) rfl (by
    funext i
    unfold va_up
    by_cases hi : i = 20
    · subst hi; rw [if_pos rfl]; rfl
    · rw [if_neg hi]; unfold cC; split <;> first | rfl | (simp only [aU, va_up, if_neg hi]))⟩
theorem rC_3 (o : Nat) : q_lng (layC o) (o + 3) 192 := fun T => ⟨ov_at (by decide), fun g => layC_put (by decide) rfl (by
    funext i
    unfold va_up
    by_cases hi : i = 3
    · subst hi; rw [if_pos rfl]; rfl
    · rw [if_neg hi]; unfold cC; split <;> first | rfl | exact absurd rfl hi)⟩
