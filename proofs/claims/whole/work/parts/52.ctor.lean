/-! printed by wip/tools/mk_ctor.py: constructors, over growing blocks -/
theorem ov_grow {o N : Nat} {c : Nat → qE} {h : Nat → Option qE} {e : qE} : q_up (ov o N c h) (o + N) e = ov o (N + 1) (va_up c N e) h := by
  funext a
  unfold q_up ov va_up
  by_cases ha : a = o + N
  · subst ha
    rw [if_pos rfl, if_pos ⟨Nat.le_add_right _ _, by omega⟩, Nat.add_sub_cancel_left, if_pos rfl]
  · rw [if_neg ha]
    by_cases hb : o ≤ a ∧ a < o + N
    · rw [if_pos hb, if_pos ⟨hb.1, by omega⟩, if_neg (by omega)]
    · rw [if_neg hb, if_neg (by omega)]
theorem ov_congr {o N : Nat} {c c' : Nat → qE} {h : Nat → Option qE} (hc : ∀ j, j < N → c j = c' j) : ov o N c h = ov o N c' h := by
  funext a
  unfold ov
  by_cases ha : o ≤ a ∧ a < o + N
  · rw [if_pos ha, if_pos ha, hc _ (by omega)]
  · rw [if_neg ha, if_neg ha]
section QB
variable {rc : qC} {M : qM} {pc o N k w : Nat} {lo : qL} {st : List Value} {c : Nat → qE} {h : Nat → Option qE} {m : Nat × Nat × Nat}
theorem b_newI {n : Int32} {L : Nat} (hd : decode M.1 pc = .ok (.newarray .int, 2)) (hL : n.toNatClampNeg = L) (hn : ¬ (n < 0 ∨ 536870912 < L * 4)) : q_out rc M (pc, lo, .int n :: st, (ov o N c h, o + N, k, w)) = q_out rc M (pc + 2, lo, .ref (o + N) :: st, (ov o (N + 1) (va_up c N (.inl (0, L, .inl fun _ => 0))) h, o + (N + 1), k + 1, w + L)) := by
  subst hL
  rw [o_newI hd hn, ← ov_grow]; rfl
theorem b_newC {n : Int32} {L : Nat} (hd : decode M.1 pc = .ok (.newarray .char, 2)) (hL : n.toNatClampNeg = L) (hn : ¬ (n < 0 ∨ 536870912 < L * 2)) : q_out rc M (pc, lo, .int n :: st, (ov o N c h, o + N, k, w)) = q_out rc M (pc + 2, lo, .ref (o + N) :: st, (ov o (N + 1) (va_up c N (.inl (1, L, .inl fun _ => 0))) h, o + (N + 1), k + 1, w + L)) := by
  subst hL
  rw [o_newC hd hn, ← ov_grow]; rfl
theorem b_newJ {n : Int32} {L : Nat} (hd : decode M.1 pc = .ok (.newarray .long, 2)) (hL : n.toNatClampNeg = L) (hn : ¬ (n < 0 ∨ 536870912 < L * 8)) : q_out rc M (pc, lo, .int n :: st, (ov o N c h, o + N, k, w)) = q_out rc M (pc + 2, lo, .ref (o + N) :: st, (ov o (N + 1) (va_up c N (.inl (2, L, .inr (.inl fun _ => 0)))) h, o + (N + 1), k + 1, w + L)) := by
  subst hL
  rw [o_newJ hd hn, ← ov_grow]; rfl
theorem b_newZ {n : Int32} {L : Nat} (hd : decode M.1 pc = .ok (.newarray .boolean, 2)) (hL : n.toNatClampNeg = L) (hn : ¬ (n < 0 ∨ 536870912 < L * 1)) : q_out rc M (pc, lo, .int n :: st, (ov o N c h, o + N, k, w)) = q_out rc M (pc + 2, lo, .ref (o + N) :: st, (ov o (N + 1) (va_up c N (.inl (3, L, .inl fun _ => 0))) h, o + (N + 1), k + 1, w + L)) := by
  subst hL
  rw [o_newZ hd hn, ← ov_grow]; rfl
theorem b_new {idx ci : Nat} {fs : List Value} (hd : decode M.1 pc = .ok (.new idx, 3)) (hp : M.2.2.2.2.2.1 idx = some (.inl (ci, fs))) : q_out rc M (pc, lo, st, (ov o N c h, o + N, k, w)) = q_out rc M (pc + 3, lo, .ref (o + N) :: st, (ov o (N + 1) (va_up c N (.inr (ci, fs))) h, o + (N + 1), k + 1, w + fs.length)) := by
  rw [o_new hd hp, ← ov_grow]; rfl
theorem b_put {idx ci i j md : Nat} {ty : FieldType} {fs : List Value} {v : Value} (hd : decode M.1 pc = .ok (.putfield idx, 3)) (hp : M.2.2.2.2.1 idx = some (ci, j, ty, md)) (hi : i < N) (hc : c i = .inr (ci, fs)) (hk : j < fs.length) (hn : narrow ty v = v) (hf : fits ty v = true) (hm : md = 0 ∨ (md = 1 ∧ M.2.2.2.1 = true)) : q_out rc M (pc, lo, v :: .ref (o + i) :: st, (ov o N c h, m)) = q_out rc M (pc + 3, lo, st, (ov o N (va_up c i (.inr (ci, fs.set j v))) h, m)) :=
  o_putf hd hp ((ov_at hi).trans (by rw [hc])) hk hn hf hm (ov_up hi)
theorem b_get {idx ci i j md : Nat} {ty : FieldType} {fs : List Value} {v : Value} (hd : decode M.1 pc = .ok (.getfield idx, 3)) (hp : M.2.2.2.2.1 idx = some (ci, j, ty, md)) (hi : i < N) (hc : c i = .inr (ci, fs)) (hv : fs[j]? = some v) : q_out rc M (pc, lo, .ref (o + i) :: st, (ov o N c h, m)) = q_out rc M (pc + 3, lo, v :: st, (ov o N c h, m)) :=
  o_getf hd hp ((ov_at hi).trans (by rw [hc])) hv
end QB
set_option maxRecDepth 100000 in
set_option maxHeartbeats 4000000 in
theorem c_Cs_init (D : Nat) (hD : 1 ≤ D) (o : Nat) (c : Nat → qE) (h : Nat → Option qE) (k w : Nat) (hc : c 2 = .inr (1, [.null, .int 0])) : q_ev q_Mt D 14 [.ref (o + 2)] (ov o 3 c h, o + 3, k, w) = some (.inl none, (ov o 4 (va_up (va_up (va_up c 3 (.inl (2, 192, .inr (.inl fun _ => 0)))) 2 (.inr (1, [.ref (o + 3), .int 0]))) 2 (.inr (1, [.ref (o + 3), .int 0]))) h, o + 4, k + 1, w + 192)) := by
  obtain ⟨D, rfl⟩ : ∃ D', D = D' + 1 := ⟨D - 1, by omega⟩
  rw [o_ev (M := q_mCs_init) (lo := [some (.ref (o + 2))]) rfl (Nat.le_of_ble_eq_true rfl) rfl]
  refine Eq.trans (o_aload_n d_Cs_init_0 rfl) ?_
  refine Eq.trans (o_objInit d_Cs_init_1 pM_Cs_3 (Nat.le_of_ble_eq_true rfl)) ?_
  refine Eq.trans (o_aload_n d_Cs_init_4 rfl) ?_
  refine Eq.trans (o_sipush (v := 192) d_Cs_init_5 (by decide)) ?_
  refine Eq.trans (b_newJ (L := 192) d_Cs_init_8 (by decide) (by decide)) ?_
  refine Eq.trans (b_put (i := 2) (fs := [.null, .int 0]) d_Cs_init_10 pF_Cs_11 (by decide) hc (Nat.le_of_ble_eq_true rfl) rfl rfl (Or.inr ⟨rfl, rfl⟩)) ?_
  refine Eq.trans (o_aload_n d_Cs_init_13 rfl) ?_
  refine Eq.trans (o_iconst (v := 0) d_Cs_init_14 (by decide)) ?_
  refine Eq.trans (b_put (i := 2) (fs := [.ref (o + 3), .int 0]) d_Cs_init_15 pF_Cs_15 (by decide) rfl (Nat.le_of_ble_eq_true rfl) rfl rfl (Or.inl rfl)) ?_
  exact o_return d_Cs_init_18 rfl
set_option maxRecDepth 100000 in
set_option maxHeartbeats 4000000 in
theorem c_Pa_init (D : Nat) (hD : 1 ≤ D) (o : Nat) (c : Nat → qE) (h : Nat → Option qE) (k w : Nat) (hc : c 4 = .inr (2, [.null, .null, .int 0, .int 0, .int 0, .int 0])) : q_ev q_Mt D 22 [.ref (o + 4), .ref (o + 1), .ref (o + 2)] (ov o 5 c h, o + 5, k, w) = some (.inl none, (ov o 5 (va_up (va_up (va_up (va_up (va_up (va_up c 4 (.inr (2, [.null, .null, .int 0, .int 0, .int 0, .int 0]))) 4 (.inr (2, [.null, .null, .int 0, .int 0, .int 0, .int 0]))) 4 (.inr (2, [.null, .null, .int 0, .int 0, .int 0, .int 0]))) 4 (.inr (2, [.null, .null, .int 0, .int 0, .int 0, .int (-1)]))) 4 (.inr (2, [.ref (o + 1), .null, .int 0, .int 0, .int 0, .int (-1)]))) 4 (.inr (2, [.ref (o + 1), .ref (o + 2), .int 0, .int 0, .int 0, .int (-1)]))) h, o + 5, k + 0, w + 0)) := by
  obtain ⟨D, rfl⟩ : ∃ D', D = D' + 1 := ⟨D - 1, by omega⟩
  rw [o_ev (M := q_mPa_init) (lo := [some (.ref (o + 4)), some (.ref (o + 1)), some (.ref (o + 2))]) rfl (Nat.le_of_ble_eq_true rfl) rfl]
  refine Eq.trans (o_aload_n d_Pa_init_0 rfl) ?_
  refine Eq.trans (o_objInit d_Pa_init_1 pM_Pa_3 (Nat.le_of_ble_eq_true rfl)) ?_
  refine Eq.trans (o_aload_n d_Pa_init_4 rfl) ?_
  refine Eq.trans (o_iconst (v := 0) d_Pa_init_5 (by decide)) ?_
  refine Eq.trans (b_put (i := 4) (fs := [.null, .null, .int 0, .int 0, .int 0, .int 0]) d_Pa_init_6 pF_Pa_9 (by decide) hc (Nat.le_of_ble_eq_true rfl) rfl rfl (Or.inl rfl)) ?_
  refine Eq.trans (o_aload_n d_Pa_init_9 rfl) ?_
  refine Eq.trans (o_iconst (v := 0) d_Pa_init_10 (by decide)) ?_
  refine Eq.trans (b_put (i := 4) (fs := [.null, .null, .int 0, .int 0, .int 0, .int 0]) d_Pa_init_11 pF_Pa_15 (by decide) rfl (Nat.le_of_ble_eq_true rfl) rfl rfl (Or.inl rfl)) ?_
  refine Eq.trans (o_aload_n d_Pa_init_14 rfl) ?_
  refine Eq.trans (o_iconst (v := 0) d_Pa_init_15 (by decide)) ?_
  refine Eq.trans (b_put (i := 4) (fs := [.null, .null, .int 0, .int 0, .int 0, .int 0]) d_Pa_init_16 pF_Pa_18 (by decide) rfl (Nat.le_of_ble_eq_true rfl) rfl rfl (Or.inl rfl)) ?_
  refine Eq.trans (o_aload_n d_Pa_init_19 rfl) ?_
  refine Eq.trans (o_iconst (v := (-1)) d_Pa_init_20 (by decide)) ?_
  refine Eq.trans (b_put (i := 4) (fs := [.null, .null, .int 0, .int 0, .int 0, .int 0]) d_Pa_init_21 pF_Pa_21 (by decide) rfl (Nat.le_of_ble_eq_true rfl) rfl rfl (Or.inl rfl)) ?_
  refine Eq.trans (o_aload_n d_Pa_init_24 rfl) ?_
  refine Eq.trans (o_aload_n d_Pa_init_25 rfl) ?_
  refine Eq.trans (b_put (i := 4) (fs := [.null, .null, .int 0, .int 0, .int 0, .int (-1)]) d_Pa_init_26 pF_Pa_24 (by decide) rfl (Nat.le_of_ble_eq_true rfl) rfl rfl (Or.inr ⟨rfl, rfl⟩)) ?_
  refine Eq.trans (o_aload_n d_Pa_init_29 rfl) ?_
  refine Eq.trans (o_aload_n d_Pa_init_30 rfl) ?_
  refine Eq.trans (b_put (i := 4) (fs := [.ref (o + 1), .null, .int 0, .int 0, .int 0, .int (-1)]) d_Pa_init_31 pF_Pa_28 (by decide) rfl (Nat.le_of_ble_eq_true rfl) rfl rfl (Or.inr ⟨rfl, rfl⟩)) ?_
  exact o_return d_Pa_init_34 rfl
set_option maxRecDepth 100000 in
set_option maxHeartbeats 4000000 in
theorem c_Pr_init (D : Nat) (hD : 1 ≤ D) (o : Nat) (c : Nat → qE) (h : Nat → Option qE) (k w : Nat) (hc : c 5 = .inr (3, [.null, .null, .null, .int 0, .int 0])) : q_ev q_Mt D 40 [.ref (o + 5)] (ov o 6 c h, o + 6, k, w) = some (.inl none, (ov o 9 (va_up (va_up (va_up (va_up (va_up (va_up (va_up (va_up c 6 (.inl (0, 160, .inl fun _ => 0))) 5 (.inr (3, [.ref (o + 6), .null, .null, .int 0, .int 0]))) 7 (.inl (0, 160, .inl fun _ => 0))) 5 (.inr (3, [.ref (o + 6), .ref (o + 7), .null, .int 0, .int 0]))) 8 (.inl (0, 160, .inl fun _ => 0))) 5 (.inr (3, [.ref (o + 6), .ref (o + 7), .ref (o + 8), .int 0, .int 0]))) 5 (.inr (3, [.ref (o + 6), .ref (o + 7), .ref (o + 8), .int 0, .int 0]))) 5 (.inr (3, [.ref (o + 6), .ref (o + 7), .ref (o + 8), .int 0, .int 0]))) h, o + 9, k + 3, w + 480)) := by
  obtain ⟨D, rfl⟩ : ∃ D', D = D' + 1 := ⟨D - 1, by omega⟩
  rw [o_ev (M := q_mPr_init) (lo := [some (.ref (o + 5))]) rfl (Nat.le_of_ble_eq_true rfl) rfl]
  refine Eq.trans (o_aload_n d_Pr_init_0 rfl) ?_
  refine Eq.trans (o_objInit d_Pr_init_1 pM_Pr_3 (Nat.le_of_ble_eq_true rfl)) ?_
  refine Eq.trans (o_aload_n d_Pr_init_4 rfl) ?_
  refine Eq.trans (o_sipush (v := 160) d_Pr_init_5 (by decide)) ?_
  refine Eq.trans (b_newI (L := 160) d_Pr_init_8 (by decide) (by decide)) ?_
  refine Eq.trans (b_put (i := 5) (fs := [.null, .null, .null, .int 0, .int 0]) d_Pr_init_10 pF_Pr_9 (by decide) hc (Nat.le_of_ble_eq_true rfl) rfl rfl (Or.inr ⟨rfl, rfl⟩)) ?_
  refine Eq.trans (o_aload_n d_Pr_init_13 rfl) ?_
  refine Eq.trans (o_sipush (v := 160) d_Pr_init_14 (by decide)) ?_
  refine Eq.trans (b_newI (L := 160) d_Pr_init_17 (by decide) (by decide)) ?_
  refine Eq.trans (b_put (i := 5) (fs := [.ref (o + 6), .null, .null, .int 0, .int 0]) d_Pr_init_19 pF_Pr_15 (by decide) rfl (Nat.le_of_ble_eq_true rfl) rfl rfl (Or.inr ⟨rfl, rfl⟩)) ?_
  refine Eq.trans (o_aload_n d_Pr_init_22 rfl) ?_
  refine Eq.trans (o_sipush (v := 160) d_Pr_init_23 (by decide)) ?_
  refine Eq.trans (b_newI (L := 160) d_Pr_init_26 (by decide) (by decide)) ?_
  refine Eq.trans (b_put (i := 5) (fs := [.ref (o + 6), .ref (o + 7), .null, .int 0, .int 0]) d_Pr_init_28 pF_Pr_18 (by decide) rfl (Nat.le_of_ble_eq_true rfl) rfl rfl (Or.inr ⟨rfl, rfl⟩)) ?_
  refine Eq.trans (o_aload_n d_Pr_init_31 rfl) ?_
  refine Eq.trans (o_iconst (v := 0) d_Pr_init_32 (by decide)) ?_
  refine Eq.trans (b_put (i := 5) (fs := [.ref (o + 6), .ref (o + 7), .ref (o + 8), .int 0, .int 0]) d_Pr_init_33 pF_Pr_21 (by decide) rfl (Nat.le_of_ble_eq_true rfl) rfl rfl (Or.inl rfl)) ?_
  refine Eq.trans (o_aload_n d_Pr_init_36 rfl) ?_
  refine Eq.trans (o_iconst (v := 0) d_Pr_init_37 (by decide)) ?_
  refine Eq.trans (b_put (i := 5) (fs := [.ref (o + 6), .ref (o + 7), .ref (o + 8), .int 0, .int 0]) d_Pr_init_38 pF_Pr_25 (by decide) rfl (Nat.le_of_ble_eq_true rfl) rfl rfl (Or.inl rfl)) ?_
  exact o_return d_Pr_init_41 rfl
set_option maxRecDepth 100000 in
set_option maxHeartbeats 4000000 in
theorem c_Wy_init0 (D : Nat) (hD : 1 ≤ D) (o : Nat) (c : Nat → qE) (h : Nat → Option qE) (k w : Nat) (hc : c 10 = .inr (7, [.null, .null, .int 0])) : q_ev q_Mt D 71 [.ref (o + 10)] (ov o 11 c h, o + 11, k, w) = some (.inl none, (ov o 13 (va_up (va_up (va_up (va_up (va_up c 11 (.inl (0, 160, .inl fun _ => 0))) 10 (.inr (7, [.ref (o + 11), .null, .int 0]))) 12 (.inl (0, 2240, .inl fun _ => 0))) 10 (.inr (7, [.ref (o + 11), .ref (o + 12), .int 0]))) 10 (.inr (7, [.ref (o + 11), .ref (o + 12), .int 0]))) h, o + 13, k + 2, w + 2400)) := by
  obtain ⟨D, rfl⟩ : ∃ D', D = D' + 1 := ⟨D - 1, by omega⟩
  rw [o_ev (M := q_mWy_init) (lo := [some (.ref (o + 10))]) rfl (Nat.le_of_ble_eq_true rfl) rfl]
  refine Eq.trans (o_aload_n d_Wy_init_0 rfl) ?_
  refine Eq.trans (o_objInit d_Wy_init_1 pM_Wy_3 (Nat.le_of_ble_eq_true rfl)) ?_
  refine Eq.trans (o_aload_n d_Wy_init_4 rfl) ?_
  refine Eq.trans (o_sipush (v := 160) d_Wy_init_5 (by decide)) ?_
  refine Eq.trans (b_newI (L := 160) d_Wy_init_8 (by decide) (by decide)) ?_
  refine Eq.trans (b_put (i := 10) (fs := [.null, .null, .int 0]) d_Wy_init_10 pF_Wy_9 (by decide) hc (Nat.le_of_ble_eq_true rfl) rfl rfl (Or.inr ⟨rfl, rfl⟩)) ?_
  refine Eq.trans (o_aload_n d_Wy_init_13 rfl) ?_
  refine Eq.trans (o_sipush (v := 2240) d_Wy_init_14 (by decide)) ?_
  refine Eq.trans (b_newI (L := 2240) d_Wy_init_17 (by decide) (by decide)) ?_
  refine Eq.trans (b_put (i := 10) (fs := [.ref (o + 11), .null, .int 0]) d_Wy_init_19 pF_Wy_15 (by decide) rfl (Nat.le_of_ble_eq_true rfl) rfl rfl (Or.inr ⟨rfl, rfl⟩)) ?_
  refine Eq.trans (o_aload_n d_Wy_init_22 rfl) ?_
  refine Eq.trans (o_iconst (v := 0) d_Wy_init_23 (by decide)) ?_
  refine Eq.trans (b_put (i := 10) (fs := [.ref (o + 11), .ref (o + 12), .int 0]) d_Wy_init_24 pF_Wy_18 (by decide) rfl (Nat.le_of_ble_eq_true rfl) rfl rfl (Or.inl rfl)) ?_
  exact o_return d_Wy_init_27 rfl
set_option maxRecDepth 100000 in
set_option maxHeartbeats 4000000 in
theorem c_Wy_init1 (D : Nat) (hD : 1 ≤ D) (o : Nat) (c : Nat → qE) (h : Nat → Option qE) (k w : Nat) (hc : c 13 = .inr (7, [.null, .null, .int 0])) : q_ev q_Mt D 71 [.ref (o + 13)] (ov o 14 c h, o + 14, k, w) = some (.inl none, (ov o 16 (va_up (va_up (va_up (va_up (va_up c 14 (.inl (0, 160, .inl fun _ => 0))) 13 (.inr (7, [.ref (o + 14), .null, .int 0]))) 15 (.inl (0, 2240, .inl fun _ => 0))) 13 (.inr (7, [.ref (o + 14), .ref (o + 15), .int 0]))) 13 (.inr (7, [.ref (o + 14), .ref (o + 15), .int 0]))) h, o + 16, k + 2, w + 2400)) := by
  obtain ⟨D, rfl⟩ : ∃ D', D = D' + 1 := ⟨D - 1, by omega⟩
  rw [o_ev (M := q_mWy_init) (lo := [some (.ref (o + 13))]) rfl (Nat.le_of_ble_eq_true rfl) rfl]
  refine Eq.trans (o_aload_n d_Wy_init_0 rfl) ?_
  refine Eq.trans (o_objInit d_Wy_init_1 pM_Wy_3 (Nat.le_of_ble_eq_true rfl)) ?_
  refine Eq.trans (o_aload_n d_Wy_init_4 rfl) ?_
  refine Eq.trans (o_sipush (v := 160) d_Wy_init_5 (by decide)) ?_
  refine Eq.trans (b_newI (L := 160) d_Wy_init_8 (by decide) (by decide)) ?_
  refine Eq.trans (b_put (i := 13) (fs := [.null, .null, .int 0]) d_Wy_init_10 pF_Wy_9 (by decide) hc (Nat.le_of_ble_eq_true rfl) rfl rfl (Or.inr ⟨rfl, rfl⟩)) ?_
  refine Eq.trans (o_aload_n d_Wy_init_13 rfl) ?_
  refine Eq.trans (o_sipush (v := 2240) d_Wy_init_14 (by decide)) ?_
  refine Eq.trans (b_newI (L := 2240) d_Wy_init_17 (by decide) (by decide)) ?_
  refine Eq.trans (b_put (i := 13) (fs := [.ref (o + 14), .null, .int 0]) d_Wy_init_19 pF_Wy_15 (by decide) rfl (Nat.le_of_ble_eq_true rfl) rfl rfl (Or.inr ⟨rfl, rfl⟩)) ?_
  refine Eq.trans (o_aload_n d_Wy_init_22 rfl) ?_
  refine Eq.trans (o_iconst (v := 0) d_Wy_init_23 (by decide)) ?_
  refine Eq.trans (b_put (i := 13) (fs := [.ref (o + 14), .ref (o + 15), .int 0]) d_Wy_init_24 pF_Wy_18 (by decide) rfl (Nat.le_of_ble_eq_true rfl) rfl rfl (Or.inl rfl)) ?_
  exact o_return d_Wy_init_27 rfl
set_option maxRecDepth 100000 in
set_option maxHeartbeats 4000000 in
theorem c_Wk_init (D : Nat) (hD : 2 ≤ D) (o : Nat) (c : Nat → qE) (h : Nat → Option qE) (k w : Nat) (hc : c 9 = .inr (6, [.null, .null, .null, .null, .null, .null, .null, .int 0, .null, .null, .int 0, .int 0, .int 0, .int 0, .int 0])) : q_ev q_Mt D 58 [.ref (o + 9), .ref (o + 5), .ref (o + 2)] (ov o 10 c h, o + 10, k, w) = some (.inl none, (ov o 21 (va_up (va_up (va_up (va_up (va_up (va_up (va_up (va_up (va_up (va_up (va_up (va_up (va_up (va_up (va_up (va_up (va_up (va_up (va_up (va_up (va_up (va_up (va_up (va_up (va_up (va_up (va_up (va_up (va_up (va_up (va_up (va_up c 10 (.inr (7, [.null, .null, .int 0]))) 11 (.inl (0, 160, .inl fun _ => 0))) 10 (.inr (7, [.ref (o + 11), .null, .int 0]))) 12 (.inl (0, 2240, .inl fun _ => 0))) 10 (.inr (7, [.ref (o + 11), .ref (o + 12), .int 0]))) 10 (.inr (7, [.ref (o + 11), .ref (o + 12), .int 0]))) 9 (.inr (6, [.null, .null, .ref (o + 10), .null, .null, .null, .null, .int 0, .null, .null, .int 0, .int 0, .int 0, .int 0, .int 0]))) 13 (.inr (7, [.null, .null, .int 0]))) 14 (.inl (0, 160, .inl fun _ => 0))) 13 (.inr (7, [.ref (o + 14), .null, .int 0]))) 15 (.inl (0, 2240, .inl fun _ => 0))) 13 (.inr (7, [.ref (o + 14), .ref (o + 15), .int 0]))) 13 (.inr (7, [.ref (o + 14), .ref (o + 15), .int 0]))) 9 (.inr (6, [.null, .null, .ref (o + 10), .ref (o + 13), .null, .null, .null, .int 0, .null, .null, .int 0, .int 0, .int 0, .int 0, .int 0]))) 16 (.inl (0, 160, .inl fun _ => 0))) 9 (.inr (6, [.null, .null, .ref (o + 10), .ref (o + 13), .ref (o + 16), .null, .null, .int 0, .null, .null, .int 0, .int 0, .int 0, .int 0, .int 0]))) 17 (.inl (0, 321, .inl fun _ => 0))) 9 (.inr (6, [.null, .null, .ref (o + 10), .ref (o + 13), .ref (o + 16), .ref (o + 17), .null, .int 0, .null, .null, .int 0, .int 0, .int 0, .int 0, .int 0]))) 18 (.inl (0, 321, .inl fun _ => 0))) 9 (.inr (6, [.null, .null, .ref (o + 10), .ref (o + 13), .ref (o + 16), .ref (o + 17), .ref (o + 18), .int 0, .null, .null, .int 0, .int 0, .int 0, .int 0, .int 0]))) 9 (.inr (6, [.null, .null, .ref (o + 10), .ref (o + 13), .ref (o + 16), .ref (o + 17), .ref (o + 18), .int 0, .null, .null, .int 0, .int 0, .int 0, .int 0, .int 0]))) 19 (.inl (0, 14, .inl fun _ => 0))) 9 (.inr (6, [.null, .null, .ref (o + 10), .ref (o + 13), .ref (o + 16), .ref (o + 17), .ref (o + 18), .int 0, .ref (o + 19), .null, .int 0, .int 0, .int 0, .int 0, .int 0]))) 20 (.inl (0, 14, .inl fun _ => 0))) 9 (.inr (6, [.null, .null, .ref (o + 10), .ref (o + 13), .ref (o + 16), .ref (o + 17), .ref (o + 18), .int 0, .ref (o + 19), .ref (o + 20), .int 0, .int 0, .int 0, .int 0, .int 0]))) 9 (.inr (6, [.null, .null, .ref (o + 10), .ref (o + 13), .ref (o + 16), .ref (o + 17), .ref (o + 18), .int 0, .ref (o + 19), .ref (o + 20), .int 0, .int 0, .int 0, .int 0, .int 0]))) 9 (.inr (6, [.null, .null, .ref (o + 10), .ref (o + 13), .ref (o + 16), .ref (o + 17), .ref (o + 18), .int 0, .ref (o + 19), .ref (o + 20), .int 0, .int 0, .int 0, .int 0, .int 0]))) 9 (.inr (6, [.null, .null, .ref (o + 10), .ref (o + 13), .ref (o + 16), .ref (o + 17), .ref (o + 18), .int 0, .ref (o + 19), .ref (o + 20), .int 0, .int 0, .int 0, .int 0, .int 0]))) 9 (.inr (6, [.null, .null, .ref (o + 10), .ref (o + 13), .ref (o + 16), .ref (o + 17), .ref (o + 18), .int 0, .ref (o + 19), .ref (o + 20), .int 0, .int 0, .int 0, .int 0, .int 0]))) 9 (.inr (6, [.null, .null, .ref (o + 10), .ref (o + 13), .ref (o + 16), .ref (o + 17), .ref (o + 18), .int 0, .ref (o + 19), .ref (o + 20), .int 0, .int 0, .int 0, .int 0, .int 0]))) 9 (.inr (6, [.ref (o + 5), .null, .ref (o + 10), .ref (o + 13), .ref (o + 16), .ref (o + 17), .ref (o + 18), .int 0, .ref (o + 19), .ref (o + 20), .int 0, .int 0, .int 0, .int 0, .int 0]))) 9 (.inr (6, [.ref (o + 5), .ref (o + 2), .ref (o + 10), .ref (o + 13), .ref (o + 16), .ref (o + 17), .ref (o + 18), .int 0, .ref (o + 19), .ref (o + 20), .int 0, .int 0, .int 0, .int 0, .int 0]))) h, o + 21, k + 11, w + 5636)) := by
  obtain ⟨D, rfl⟩ : ∃ D', D = D' + 1 := ⟨D - 1, by omega⟩
  rw [o_ev (M := q_mWk_init) (lo := [some (.ref (o + 9)), some (.ref (o + 5)), some (.ref (o + 2))]) rfl (Nat.le_of_ble_eq_true rfl) rfl]
  refine Eq.trans (o_aload_n d_Wk_init_0 rfl) ?_
  refine Eq.trans (o_objInit d_Wk_init_1 pM_Wk_3 (Nat.le_of_ble_eq_true rfl)) ?_
  refine Eq.trans (o_aload_n d_Wk_init_4 rfl) ?_
  refine Eq.trans (b_new d_Wk_init_5 rfl) ?_
  refine Eq.trans (o_dup d_Wk_init_8 rfl) ?_
  refine Eq.trans (o_callI0 d_Wk_init_9 pM_Wk_11 (Nat.le_of_ble_eq_true rfl) (c_Wy_init0 D (by omega) o _ _ _ _ rfl)) ?_
  show q_out _ _ (_, _, [.ref (o + 10), .ref (o + 9)], _) = _
  refine Eq.trans (b_put (i := 9) (fs := [.null, .null, .null, .null, .null, .null, .null, .int 0, .null, .null, .int 0, .int 0, .int 0, .int 0, .int 0]) d_Wk_init_12 pF_Wk_12 (by decide) hc (Nat.le_of_ble_eq_true rfl) rfl rfl (Or.inl rfl)) ?_
  refine Eq.trans (o_aload_n d_Wk_init_15 rfl) ?_
  refine Eq.trans (b_new d_Wk_init_16 rfl) ?_
  refine Eq.trans (o_dup d_Wk_init_19 rfl) ?_
  refine Eq.trans (o_callI0 d_Wk_init_20 pM_Wk_11 (Nat.le_of_ble_eq_true rfl) (c_Wy_init1 D (by omega) o _ _ _ _ rfl)) ?_
  show q_out _ _ (_, _, [.ref (o + 13), .ref (o + 9)], _) = _
  refine Eq.trans (b_put (i := 9) (fs := [.null, .null, .ref (o + 10), .null, .null, .null, .null, .int 0, .null, .null, .int 0, .int 0, .int 0, .int 0, .int 0]) d_Wk_init_23 pF_Wk_18 (by decide) rfl (Nat.le_of_ble_eq_true rfl) rfl rfl (Or.inl rfl)) ?_
  refine Eq.trans (o_aload_n d_Wk_init_26 rfl) ?_
  refine Eq.trans (o_sipush (v := 160) d_Wk_init_27 (by decide)) ?_
  refine Eq.trans (b_newI (L := 160) d_Wk_init_30 (by decide) (by decide)) ?_
  refine Eq.trans (b_put (i := 9) (fs := [.null, .null, .ref (o + 10), .ref (o + 13), .null, .null, .null, .int 0, .null, .null, .int 0, .int 0, .int 0, .int 0, .int 0]) d_Wk_init_32 pF_Wk_21 (by decide) rfl (Nat.le_of_ble_eq_true rfl) rfl rfl (Or.inr ⟨rfl, rfl⟩)) ?_
  refine Eq.trans (o_aload_n d_Wk_init_35 rfl) ?_
  refine Eq.trans (o_sipush (v := 321) d_Wk_init_36 (by decide)) ?_
  refine Eq.trans (b_newI (L := 321) d_Wk_init_39 (by decide) (by decide)) ?_
  refine Eq.trans (b_put (i := 9) (fs := [.null, .null, .ref (o + 10), .ref (o + 13), .ref (o + 16), .null, .null, .int 0, .null, .null, .int 0, .int 0, .int 0, .int 0, .int 0]) d_Wk_init_41 pF_Wk_25 (by decide) rfl (Nat.le_of_ble_eq_true rfl) rfl rfl (Or.inr ⟨rfl, rfl⟩)) ?_
  refine Eq.trans (o_aload_n d_Wk_init_44 rfl) ?_
  refine Eq.trans (o_sipush (v := 321) d_Wk_init_45 (by decide)) ?_
  refine Eq.trans (b_newI (L := 321) d_Wk_init_48 (by decide) (by decide)) ?_
  refine Eq.trans (b_put (i := 9) (fs := [.null, .null, .ref (o + 10), .ref (o + 13), .ref (o + 16), .ref (o + 17), .null, .int 0, .null, .null, .int 0, .int 0, .int 0, .int 0, .int 0]) d_Wk_init_50 pF_Wk_28 (by decide) rfl (Nat.le_of_ble_eq_true rfl) rfl rfl (Or.inr ⟨rfl, rfl⟩)) ?_
  refine Eq.trans (o_aload_n d_Wk_init_53 rfl) ?_
  refine Eq.trans (o_iconst (v := 0) d_Wk_init_54 (by decide)) ?_
  refine Eq.trans (b_put (i := 9) (fs := [.null, .null, .ref (o + 10), .ref (o + 13), .ref (o + 16), .ref (o + 17), .ref (o + 18), .int 0, .null, .null, .int 0, .int 0, .int 0, .int 0, .int 0]) d_Wk_init_55 pF_Wk_31 (by decide) rfl (Nat.le_of_ble_eq_true rfl) rfl rfl (Or.inl rfl)) ?_
  refine Eq.trans (o_aload_n d_Wk_init_58 rfl) ?_
  refine Eq.trans (o_bipush (v := 14) d_Wk_init_59 (by decide)) ?_
  refine Eq.trans (b_newI (L := 14) d_Wk_init_61 (by decide) (by decide)) ?_
  refine Eq.trans (b_put (i := 9) (fs := [.null, .null, .ref (o + 10), .ref (o + 13), .ref (o + 16), .ref (o + 17), .ref (o + 18), .int 0, .null, .null, .int 0, .int 0, .int 0, .int 0, .int 0]) d_Wk_init_63 pF_Wk_35 (by decide) rfl (Nat.le_of_ble_eq_true rfl) rfl rfl (Or.inr ⟨rfl, rfl⟩)) ?_
  refine Eq.trans (o_aload_n d_Wk_init_66 rfl) ?_
  refine Eq.trans (o_bipush (v := 14) d_Wk_init_67 (by decide)) ?_
  refine Eq.trans (b_newI (L := 14) d_Wk_init_69 (by decide) (by decide)) ?_
  refine Eq.trans (b_put (i := 9) (fs := [.null, .null, .ref (o + 10), .ref (o + 13), .ref (o + 16), .ref (o + 17), .ref (o + 18), .int 0, .ref (o + 19), .null, .int 0, .int 0, .int 0, .int 0, .int 0]) d_Wk_init_71 pF_Wk_38 (by decide) rfl (Nat.le_of_ble_eq_true rfl) rfl rfl (Or.inr ⟨rfl, rfl⟩)) ?_
  refine Eq.trans (o_aload_n d_Wk_init_74 rfl) ?_
  refine Eq.trans (o_iconst (v := 0) d_Wk_init_75 (by decide)) ?_
  refine Eq.trans (b_put (i := 9) (fs := [.null, .null, .ref (o + 10), .ref (o + 13), .ref (o + 16), .ref (o + 17), .ref (o + 18), .int 0, .ref (o + 19), .ref (o + 20), .int 0, .int 0, .int 0, .int 0, .int 0]) d_Wk_init_76 pF_Wk_41 (by decide) rfl (Nat.le_of_ble_eq_true rfl) rfl rfl (Or.inl rfl)) ?_
  refine Eq.trans (o_aload_n d_Wk_init_79 rfl) ?_
  refine Eq.trans (o_iconst (v := 0) d_Wk_init_80 (by decide)) ?_
  refine Eq.trans (b_put (i := 9) (fs := [.null, .null, .ref (o + 10), .ref (o + 13), .ref (o + 16), .ref (o + 17), .ref (o + 18), .int 0, .ref (o + 19), .ref (o + 20), .int 0, .int 0, .int 0, .int 0, .int 0]) d_Wk_init_81 pF_Wk_45 (by decide) rfl (Nat.le_of_ble_eq_true rfl) rfl rfl (Or.inl rfl)) ?_
  refine Eq.trans (o_aload_n d_Wk_init_84 rfl) ?_
  refine Eq.trans (o_iconst (v := 0) d_Wk_init_85 (by decide)) ?_
  refine Eq.trans (b_put (i := 9) (fs := [.null, .null, .ref (o + 10), .ref (o + 13), .ref (o + 16), .ref (o + 17), .ref (o + 18), .int 0, .ref (o + 19), .ref (o + 20), .int 0, .int 0, .int 0, .int 0, .int 0]) d_Wk_init_86 pF_Wk_48 (by decide) rfl (Nat.le_of_ble_eq_true rfl) rfl rfl (Or.inl rfl)) ?_
  refine Eq.trans (o_aload_n d_Wk_init_89 rfl) ?_
  refine Eq.trans (o_iconst (v := 0) d_Wk_init_90 (by decide)) ?_
  refine Eq.trans (b_put (i := 9) (fs := [.null, .null, .ref (o + 10), .ref (o + 13), .ref (o + 16), .ref (o + 17), .ref (o + 18), .int 0, .ref (o + 19), .ref (o + 20), .int 0, .int 0, .int 0, .int 0, .int 0]) d_Wk_init_91 pF_Wk_51 (by decide) rfl (Nat.le_of_ble_eq_true rfl) rfl rfl (Or.inl rfl)) ?_
  refine Eq.trans (o_aload_n d_Wk_init_94 rfl) ?_
  refine Eq.trans (o_iconst (v := 0) d_Wk_init_95 (by decide)) ?_
  refine Eq.trans (b_put (i := 9) (fs := [.null, .null, .ref (o + 10), .ref (o + 13), .ref (o + 16), .ref (o + 17), .ref (o + 18), .int 0, .ref (o + 19), .ref (o + 20), .int 0, .int 0, .int 0, .int 0, .int 0]) d_Wk_init_96 pF_Wk_54 (by decide) rfl (Nat.le_of_ble_eq_true rfl) rfl rfl (Or.inl rfl)) ?_
  refine Eq.trans (o_aload_n d_Wk_init_99 rfl) ?_
  refine Eq.trans (o_aload_n d_Wk_init_100 rfl) ?_
  refine Eq.trans (b_put (i := 9) (fs := [.null, .null, .ref (o + 10), .ref (o + 13), .ref (o + 16), .ref (o + 17), .ref (o + 18), .int 0, .ref (o + 19), .ref (o + 20), .int 0, .int 0, .int 0, .int 0, .int 0]) d_Wk_init_101 pF_Wk_57 (by decide) rfl (Nat.le_of_ble_eq_true rfl) rfl rfl (Or.inr ⟨rfl, rfl⟩)) ?_
  refine Eq.trans (o_aload_n d_Wk_init_104 rfl) ?_
  refine Eq.trans (o_aload_n d_Wk_init_105 rfl) ?_
  refine Eq.trans (b_put (i := 9) (fs := [.ref (o + 5), .null, .ref (o + 10), .ref (o + 13), .ref (o + 16), .ref (o + 17), .ref (o + 18), .int 0, .ref (o + 19), .ref (o + 20), .int 0, .int 0, .int 0, .int 0, .int 0]) d_Wk_init_106 pF_Wk_61 (by decide) rfl (Nat.le_of_ble_eq_true rfl) rfl rfl (Or.inr ⟨rfl, rfl⟩)) ?_
  exact o_return d_Wk_init_109 rfl
set_option maxRecDepth 100000 in
set_option maxHeartbeats 4000000 in
theorem c_PW_init0 (D : Nat) (hD : 3 ≤ D) (o : Nat) (c : Nat → qE) (h : Nat → Option qE) (k w : Nat) (hc : c 0 = .inr (0, [.null, .int 0, .int 0, .null, .null, .null, .null])) : q_ev q_Mt D 0 [.ref (o + 0)] (ov o 1 c h, o + 1, k, w) = some (.inl none, (ov o 21 (va_up (va_up (va_up (va_up (va_up (va_up (va_up (va_up (va_up (va_up (va_up (va_up (va_up (va_up (va_up (va_up (va_up (va_up (va_up (va_up (va_up (va_up (va_up (va_up (va_up (va_up (va_up (va_up (va_up (va_up (va_up (va_up (va_up (va_up (va_up (va_up (va_up (va_up (va_up (va_up (va_up (va_up (va_up (va_up (va_up (va_up (va_up (va_up (va_up (va_up (va_up (va_up (va_up (va_up (va_up (va_up (va_up (va_up (va_up (va_up (va_up c 1 (.inl (1, 48, .inl fun _ => 0))) 0 (.inr (0, [.ref (o + 1), .int 0, .int 0, .null, .null, .null, .null]))) 0 (.inr (0, [.ref (o + 1), .int 0, .int 0, .null, .null, .null, .null]))) 0 (.inr (0, [.ref (o + 1), .int 0, .int (-1), .null, .null, .null, .null]))) 2 (.inr (1, [.null, .int 0]))) 3 (.inl (2, 192, .inr (.inl fun _ => 0)))) 2 (.inr (1, [.ref (o + 3), .int 0]))) 2 (.inr (1, [.ref (o + 3), .int 0]))) 0 (.inr (0, [.ref (o + 1), .int 0, .int (-1), .ref (o + 2), .null, .null, .null]))) 4 (.inr (2, [.null, .null, .int 0, .int 0, .int 0, .int 0]))) 4 (.inr (2, [.null, .null, .int 0, .int 0, .int 0, .int 0]))) 4 (.inr (2, [.null, .null, .int 0, .int 0, .int 0, .int 0]))) 4 (.inr (2, [.null, .null, .int 0, .int 0, .int 0, .int 0]))) 4 (.inr (2, [.null, .null, .int 0, .int 0, .int 0, .int (-1)]))) 4 (.inr (2, [.ref (o + 1), .null, .int 0, .int 0, .int 0, .int (-1)]))) 4 (.inr (2, [.ref (o + 1), .ref (o + 2), .int 0, .int 0, .int 0, .int (-1)]))) 0 (.inr (0, [.ref (o + 1), .int 0, .int (-1), .ref (o + 2), .ref (o + 4), .null, .null]))) 5 (.inr (3, [.null, .null, .null, .int 0, .int 0]))) 6 (.inl (0, 160, .inl fun _ => 0))) 5 (.inr (3, [.ref (o + 6), .null, .null, .int 0, .int 0]))) 7 (.inl (0, 160, .inl fun _ => 0))) 5 (.inr (3, [.ref (o + 6), .ref (o + 7), .null, .int 0, .int 0]))) 8 (.inl (0, 160, .inl fun _ => 0))) 5 (.inr (3, [.ref (o + 6), .ref (o + 7), .ref (o + 8), .int 0, .int 0]))) 5 (.inr (3, [.ref (o + 6), .ref (o + 7), .ref (o + 8), .int 0, .int 0]))) 5 (.inr (3, [.ref (o + 6), .ref (o + 7), .ref (o + 8), .int 0, .int 0]))) 0 (.inr (0, [.ref (o + 1), .int 0, .int (-1), .ref (o + 2), .ref (o + 4), .ref (o + 5), .null]))) 9 (.inr (6, [.null, .null, .null, .null, .null, .null, .null, .int 0, .null, .null, .int 0, .int 0, .int 0, .int 0, .int 0]))) 10 (.inr (7, [.null, .null, .int 0]))) 11 (.inl (0, 160, .inl fun _ => 0))) 10 (.inr (7, [.ref (o + 11), .null, .int 0]))) 12 (.inl (0, 2240, .inl fun _ => 0))) 10 (.inr (7, [.ref (o + 11), .ref (o + 12), .int 0]))) 10 (.inr (7, [.ref (o + 11), .ref (o + 12), .int 0]))) 9 (.inr (6, [.null, .null, .ref (o + 10), .null, .null, .null, .null, .int 0, .null, .null, .int 0, .int 0, .int 0, .int 0, .int 0]))) 13 (.inr (7, [.null, .null, .int 0]))) 14 (.inl (0, 160, .inl fun _ => 0))) 13 (.inr (7, [.ref (o + 14), .null, .int 0]))) 15 (.inl (0, 2240, .inl fun _ => 0))) 13 (.inr (7, [.ref (o + 14), .ref (o + 15), .int 0]))) 13 (.inr (7, [.ref (o + 14), .ref (o + 15), .int 0]))) 9 (.inr (6, [.null, .null, .ref (o + 10), .ref (o + 13), .null, .null, .null, .int 0, .null, .null, .int 0, .int 0, .int 0, .int 0, .int 0]))) 16 (.inl (0, 160, .inl fun _ => 0))) 9 (.inr (6, [.null, .null, .ref (o + 10), .ref (o + 13), .ref (o + 16), .null, .null, .int 0, .null, .null, .int 0, .int 0, .int 0, .int 0, .int 0]))) 17 (.inl (0, 321, .inl fun _ => 0))) 9 (.inr (6, [.null, .null, .ref (o + 10), .ref (o + 13), .ref (o + 16), .ref (o + 17), .null, .int 0, .null, .null, .int 0, .int 0, .int 0, .int 0, .int 0]))) 18 (.inl (0, 321, .inl fun _ => 0))) 9 (.inr (6, [.null, .null, .ref (o + 10), .ref (o + 13), .ref (o + 16), .ref (o + 17), .ref (o + 18), .int 0, .null, .null, .int 0, .int 0, .int 0, .int 0, .int 0]))) 9 (.inr (6, [.null, .null, .ref (o + 10), .ref (o + 13), .ref (o + 16), .ref (o + 17), .ref (o + 18), .int 0, .null, .null, .int 0, .int 0, .int 0, .int 0, .int 0]))) 19 (.inl (0, 14, .inl fun _ => 0))) 9 (.inr (6, [.null, .null, .ref (o + 10), .ref (o + 13), .ref (o + 16), .ref (o + 17), .ref (o + 18), .int 0, .ref (o + 19), .null, .int 0, .int 0, .int 0, .int 0, .int 0]))) 20 (.inl (0, 14, .inl fun _ => 0))) 9 (.inr (6, [.null, .null, .ref (o + 10), .ref (o + 13), .ref (o + 16), .ref (o + 17), .ref (o + 18), .int 0, .ref (o + 19), .ref (o + 20), .int 0, .int 0, .int 0, .int 0, .int 0]))) 9 (.inr (6, [.null, .null, .ref (o + 10), .ref (o + 13), .ref (o + 16), .ref (o + 17), .ref (o + 18), .int 0, .ref (o + 19), .ref (o + 20), .int 0, .int 0, .int 0, .int 0, .int 0]))) 9 (.inr (6, [.null, .null, .ref (o + 10), .ref (o + 13), .ref (o + 16), .ref (o + 17), .ref (o + 18), .int 0, .ref (o + 19), .ref (o + 20), .int 0, .int 0, .int 0, .int 0, .int 0]))) 9 (.inr (6, [.null, .null, .ref (o + 10), .ref (o + 13), .ref (o + 16), .ref (o + 17), .ref (o + 18), .int 0, .ref (o + 19), .ref (o + 20), .int 0, .int 0, .int 0, .int 0, .int 0]))) 9 (.inr (6, [.null, .null, .ref (o + 10), .ref (o + 13), .ref (o + 16), .ref (o + 17), .ref (o + 18), .int 0, .ref (o + 19), .ref (o + 20), .int 0, .int 0, .int 0, .int 0, .int 0]))) 9 (.inr (6, [.null, .null, .ref (o + 10), .ref (o + 13), .ref (o + 16), .ref (o + 17), .ref (o + 18), .int 0, .ref (o + 19), .ref (o + 20), .int 0, .int 0, .int 0, .int 0, .int 0]))) 9 (.inr (6, [.ref (o + 5), .null, .ref (o + 10), .ref (o + 13), .ref (o + 16), .ref (o + 17), .ref (o + 18), .int 0, .ref (o + 19), .ref (o + 20), .int 0, .int 0, .int 0, .int 0, .int 0]))) 9 (.inr (6, [.ref (o + 5), .ref (o + 2), .ref (o + 10), .ref (o + 13), .ref (o + 16), .ref (o + 17), .ref (o + 18), .int 0, .ref (o + 19), .ref (o + 20), .int 0, .int 0, .int 0, .int 0, .int 0]))) 0 (.inr (0, [.ref (o + 1), .int 0, .int (-1), .ref (o + 2), .ref (o + 4), .ref (o + 5), .ref (o + 9)]))) h, o + 21, k + 20, w + 6384)) := by
  obtain ⟨D, rfl⟩ : ∃ D', D = D' + 1 := ⟨D - 1, by omega⟩
  rw [o_ev (M := q_mPW_init) (lo := [some (.ref (o + 0))]) rfl (Nat.le_of_ble_eq_true rfl) rfl]
  refine Eq.trans (o_aload_n d_PW_init_0 rfl) ?_
  refine Eq.trans (o_objInit d_PW_init_1 pM_PW_3 (Nat.le_of_ble_eq_true rfl)) ?_
  refine Eq.trans (o_aload_n d_PW_init_4 rfl) ?_
  refine Eq.trans (o_bipush (v := 48) d_PW_init_5 (by decide)) ?_
  refine Eq.trans (b_newC (L := 48) d_PW_init_7 (by decide) (by decide)) ?_
  refine Eq.trans (b_put (i := 0) (fs := [.null, .int 0, .int 0, .null, .null, .null, .null]) d_PW_init_9 pF_PW_9 (by decide) hc (Nat.le_of_ble_eq_true rfl) rfl rfl (Or.inr ⟨rfl, rfl⟩)) ?_
  refine Eq.trans (o_aload_n d_PW_init_12 rfl) ?_
  refine Eq.trans (o_iconst (v := 0) d_PW_init_13 (by decide)) ?_
  refine Eq.trans (b_put (i := 0) (fs := [.ref (o + 1), .int 0, .int 0, .null, .null, .null, .null]) d_PW_init_14 pF_PW_13 (by decide) rfl (Nat.le_of_ble_eq_true rfl) rfl rfl (Or.inl rfl)) ?_
  refine Eq.trans (o_aload_n d_PW_init_17 rfl) ?_
  refine Eq.trans (o_iconst (v := (-1)) d_PW_init_18 (by decide)) ?_
  refine Eq.trans (b_put (i := 0) (fs := [.ref (o + 1), .int 0, .int 0, .null, .null, .null, .null]) d_PW_init_19 pF_PW_17 (by decide) rfl (Nat.le_of_ble_eq_true rfl) rfl rfl (Or.inl rfl)) ?_
  refine Eq.trans (o_aload_n d_PW_init_22 rfl) ?_
  refine Eq.trans (b_new d_PW_init_23 rfl) ?_
  refine Eq.trans (o_dup d_PW_init_26 rfl) ?_
  refine Eq.trans (o_callI0 d_PW_init_27 pM_PW_22 (Nat.le_of_ble_eq_true rfl) (c_Cs_init D (by omega) o _ _ _ _ rfl)) ?_
  show q_out _ _ (_, _, [.ref (o + 2), .ref (o + 0)], _) = _
  refine Eq.trans (b_put (i := 0) (fs := [.ref (o + 1), .int 0, .int (-1), .null, .null, .null, .null]) d_PW_init_30 pF_PW_23 (by decide) rfl (Nat.le_of_ble_eq_true rfl) rfl rfl (Or.inr ⟨rfl, rfl⟩)) ?_
  refine Eq.trans (o_aload_n d_PW_init_33 rfl) ?_
  refine Eq.trans (b_new d_PW_init_34 rfl) ?_
  refine Eq.trans (o_dup d_PW_init_37 rfl) ?_
  refine Eq.trans (o_aload_n d_PW_init_38 rfl) ?_
  refine Eq.trans (b_get (i := 0) (fs := [.ref (o + 1), .int 0, .int (-1), .ref (o + 2), .null, .null, .null]) d_PW_init_39 pF_PW_9 (by decide) rfl rfl) ?_
  refine Eq.trans (o_aload_n d_PW_init_42 rfl) ?_
  refine Eq.trans (b_get (i := 0) (fs := [.ref (o + 1), .int 0, .int (-1), .ref (o + 2), .null, .null, .null]) d_PW_init_43 pF_PW_23 (by decide) rfl rfl) ?_
  refine Eq.trans (o_callI2 d_PW_init_46 pM_PW_29 (Nat.le_of_ble_eq_true rfl) (c_Pa_init D (by omega) o _ _ _ _ rfl)) ?_
  show q_out _ _ (_, _, [.ref (o + 4), .ref (o + 0)], _) = _
  refine Eq.trans (b_put (i := 0) (fs := [.ref (o + 1), .int 0, .int (-1), .ref (o + 2), .null, .null, .null]) d_PW_init_49 pF_PW_32 (by decide) rfl (Nat.le_of_ble_eq_true rfl) rfl rfl (Or.inr ⟨rfl, rfl⟩)) ?_
  refine Eq.trans (o_aload_n d_PW_init_52 rfl) ?_
  refine Eq.trans (b_new d_PW_init_53 rfl) ?_
  refine Eq.trans (o_dup d_PW_init_56 rfl) ?_
  refine Eq.trans (o_callI0 d_PW_init_57 pM_PW_38 (Nat.le_of_ble_eq_true rfl) (c_Pr_init D (by omega) o _ _ _ _ rfl)) ?_
  show q_out _ _ (_, _, [.ref (o + 5), .ref (o + 0)], _) = _
  refine Eq.trans (b_put (i := 0) (fs := [.ref (o + 1), .int 0, .int (-1), .ref (o + 2), .ref (o + 4), .null, .null]) d_PW_init_60 pF_PW_39 (by decide) rfl (Nat.le_of_ble_eq_true rfl) rfl rfl (Or.inr ⟨rfl, rfl⟩)) ?_
  refine Eq.trans (o_aload_n d_PW_init_63 rfl) ?_
  refine Eq.trans (b_new d_PW_init_64 rfl) ?_
  refine Eq.trans (o_dup d_PW_init_67 rfl) ?_
  refine Eq.trans (o_aload_n d_PW_init_68 rfl) ?_
  refine Eq.trans (b_get (i := 0) (fs := [.ref (o + 1), .int 0, .int (-1), .ref (o + 2), .ref (o + 4), .ref (o + 5), .null]) d_PW_init_69 pF_PW_39 (by decide) rfl rfl) ?_
  refine Eq.trans (o_aload_n d_PW_init_72 rfl) ?_
  refine Eq.trans (b_get (i := 0) (fs := [.ref (o + 1), .int 0, .int (-1), .ref (o + 2), .ref (o + 4), .ref (o + 5), .null]) d_PW_init_73 pF_PW_23 (by decide) rfl rfl) ?_
  refine Eq.trans (o_callI2 d_PW_init_76 pM_PW_45 (Nat.le_of_ble_eq_true rfl) (c_Wk_init D (by omega) o _ _ _ _ rfl)) ?_
  show q_out _ _ (_, _, [.ref (o + 9), .ref (o + 0)], _) = _
  refine Eq.trans (b_put (i := 0) (fs := [.ref (o + 1), .int 0, .int (-1), .ref (o + 2), .ref (o + 4), .ref (o + 5), .null]) d_PW_init_79 pF_PW_48 (by decide) rfl (Nat.le_of_ble_eq_true rfl) rfl rfl (Or.inr ⟨rfl, rfl⟩)) ?_
  exact o_return d_PW_init_82 rfl
def T0C (n k w : Nat) (h : Nat → Option qE) : qT := (fun f => match f with | 2 => -1 | 85 => -1 | _ => 0, fun _ _ => 0, fun _ => 0, fun f => f, h, n, k, w)
set_option maxRecDepth 100000 in
/-- a new object -/
theorem c_PW_init (D : Nat) (hD : 3 ≤ D) (o : Nat) (h : Nat → Option qE) (k w : Nat) : q_ev q_Mt D 0 [.ref (o + 0)] (q_up h o (.inr (0, [.null, .int 0, .int 0, .null, .null, .null, .null])), o + 1, k, w) = some (.inl none, layC o (T0C (o + 21) (k + 20) (w + 6384) h)) := by
  have e : q_up h o (.inr (0, [.null, .int 0, .int 0, .null, .null, .null, .null])) = ov o 1 (fun _ => .inr (0, [.null, .int 0, .int 0, .null, .null, .null, .null])) h := by
    funext a
    unfold q_up ov
    by_cases ha : a = o
    · subst ha; rw [if_pos rfl, if_pos ⟨Nat.le_refl _, by omega⟩]
    · rw [if_neg ha, if_neg (by omega)]
  rw [e]
  refine (c_PW_init0 D hD o _ h k w rfl).trans ?_
  refine congrArg (fun x => some (Sum.inl none, x)) ?_
  refine Prod.ext (ov_congr (fun j hj => ?_)) rfl
  match j, hj with
  | 0, _ => rfl
  | 1, _ => rfl
  | 2, _ => rfl
  | 3, _ => rfl
  | 4, _ => rfl
  | 5, _ => rfl
  | 6, _ => rfl
  | 7, _ => rfl
  | 8, _ => rfl
  | 9, _ => rfl
  | 10, _ => rfl
  | 11, _ => rfl
  | 12, _ => rfl
  | 13, _ => rfl
  | 14, _ => rfl
  | 15, _ => rfl
  | 16, _ => rfl
  | 17, _ => rfl
  | 18, _ => rfl
  | 19, _ => rfl
  | 20, _ => rfl
  | j + 21, hj => exact absurd hj (by omega)
def fs0M : List Value := [.int 0, .int 0, .null, .int 0, .int 0, .null, .null, .null, .null, .null, .null, .null, .null, .null, .int 0, .int 0, .null, .null, .null, .int 0, .int 0, .null, .int 0, .null, .null, .null, .int 0, .null, .null, .int 0, .int 0, .int 0, .null, .int 0, .int 0, .null, .null, .null, .null, .null, .int 0, .null, .null, .null, .null]
set_option maxRecDepth 100000 in
set_option maxHeartbeats 4000000 in
theorem c_Md_init0 (D : Nat) (hD : 1 ≤ D) (r : Nat) (c : Nat → qE) (h : Nat → Option qE) (k w : Nat) (hc : c 0 = .inr (8, fs0M)) : q_ev q_Mt D 75 [.ref (r + 0)] (ov r 1 c h, r + 1, k, w) = some (.inl none, (ov r 30 (va_up (va_up (va_up (va_up (va_up (va_up (va_up (va_up (va_up (va_up (va_up (va_up (va_up (va_up (va_up (va_up (va_up (va_up (va_up (va_up (va_up (va_up (va_up (va_up (va_up (va_up (va_up (va_up (va_up (va_up (va_up (va_up (va_up (va_up (va_up (va_up (va_up (va_up (va_up (va_up (va_up (va_up (va_up (va_up (va_up (va_up (va_up (va_up (va_up (va_up (va_up (va_up (va_up (va_up (va_up (va_up (va_up (va_up (va_up c 1 (.inl (1, 48, .inl fun _ => 0))) 0 (.inr (8, [.int 0, .int 0, .ref (r + 1), .int 0, .int 0, .null, .null, .null, .null, .null, .null, .null, .null, .null, .int 0, .int 0, .null, .null, .null, .int 0, .int 0, .null, .int 0, .null, .null, .null, .int 0, .null, .null, .int 0, .int 0, .int 0, .null, .int 0, .int 0, .null, .null, .null, .null, .null, .int 0, .null, .null, .null, .null]))) 0 (.inr (8, [.int 0, .int 0, .ref (r + 1), .int (-1), .int 0, .null, .null, .null, .null, .null, .null, .null, .null, .null, .int 0, .int 0, .null, .null, .null, .int 0, .int 0, .null, .int 0, .null, .null, .null, .int 0, .null, .null, .int 0, .int 0, .int 0, .null, .int 0, .int 0, .null, .null, .null, .null, .null, .int 0, .null, .null, .null, .null]))) 2 (.inl (0, 220, .inl fun _ => 0))) 0 (.inr (8, [.int 0, .int 0, .ref (r + 1), .int (-1), .int 0, .ref (r + 2), .null, .null, .null, .null, .null, .null, .null, .null, .int 0, .int 0, .null, .null, .null, .int 0, .int 0, .null, .int 0, .null, .null, .null, .int 0, .null, .null, .int 0, .int 0, .int 0, .null, .int 0, .int 0, .null, .null, .null, .null, .null, .int 0, .null, .null, .null, .null]))) 3 (.inl (0, 220, .inl fun _ => 0))) 0 (.inr (8, [.int 0, .int 0, .ref (r + 1), .int (-1), .int 0, .ref (r + 2), .ref (r + 3), .null, .null, .null, .null, .null, .null, .null, .int 0, .int 0, .null, .null, .null, .int 0, .int 0, .null, .int 0, .null, .null, .null, .int 0, .null, .null, .int 0, .int 0, .int 0, .null, .int 0, .int 0, .null, .null, .null, .null, .null, .int 0, .null, .null, .null, .null]))) 4 (.inl (0, 220, .inl fun _ => 0))) 0 (.inr (8, [.int 0, .int 0, .ref (r + 1), .int (-1), .int 0, .ref (r + 2), .ref (r + 3), .ref (r + 4), .null, .null, .null, .null, .null, .null, .int 0, .int 0, .null, .null, .null, .int 0, .int 0, .null, .int 0, .null, .null, .null, .int 0, .null, .null, .int 0, .int 0, .int 0, .null, .int 0, .int 0, .null, .null, .null, .null, .null, .int 0, .null, .null, .null, .null]))) 5 (.inl (0, 220, .inl fun _ => 0))) 0 (.inr (8, [.int 0, .int 0, .ref (r + 1), .int (-1), .int 0, .ref (r + 2), .ref (r + 3), .ref (r + 4), .ref (r + 5), .null, .null, .null, .null, .null, .int 0, .int 0, .null, .null, .null, .int 0, .int 0, .null, .int 0, .null, .null, .null, .int 0, .null, .null, .int 0, .int 0, .int 0, .null, .int 0, .int 0, .null, .null, .null, .null, .null, .int 0, .null, .null, .null, .null]))) 6 (.inl (0, 220, .inl fun _ => 0))) 0 (.inr (8, [.int 0, .int 0, .ref (r + 1), .int (-1), .int 0, .ref (r + 2), .ref (r + 3), .ref (r + 4), .ref (r + 5), .ref (r + 6), .null, .null, .null, .null, .int 0, .int 0, .null, .null, .null, .int 0, .int 0, .null, .int 0, .null, .null, .null, .int 0, .null, .null, .int 0, .int 0, .int 0, .null, .int 0, .int 0, .null, .null, .null, .null, .null, .int 0, .null, .null, .null, .null]))) 7 (.inl (0, 220, .inl fun _ => 0))) 0 (.inr (8, [.int 0, .int 0, .ref (r + 1), .int (-1), .int 0, .ref (r + 2), .ref (r + 3), .ref (r + 4), .ref (r + 5), .ref (r + 6), .ref (r + 7), .null, .null, .null, .int 0, .int 0, .null, .null, .null, .int 0, .int 0, .null, .int 0, .null, .null, .null, .int 0, .null, .null, .int 0, .int 0, .int 0, .null, .int 0, .int 0, .null, .null, .null, .null, .null, .int 0, .null, .null, .null, .null]))) 8 (.inl (0, 220, .inl fun _ => 0))) 0 (.inr (8, [.int 0, .int 0, .ref (r + 1), .int (-1), .int 0, .ref (r + 2), .ref (r + 3), .ref (r + 4), .ref (r + 5), .ref (r + 6), .ref (r + 7), .ref (r + 8), .null, .null, .int 0, .int 0, .null, .null, .null, .int 0, .int 0, .null, .int 0, .null, .null, .null, .int 0, .null, .null, .int 0, .int 0, .int 0, .null, .int 0, .int 0, .null, .null, .null, .null, .null, .int 0, .null, .null, .null, .null]))) 9 (.inl (3, 220, .inl fun _ => 0))) 0 (.inr (8, [.int 0, .int 0, .ref (r + 1), .int (-1), .int 0, .ref (r + 2), .ref (r + 3), .ref (r + 4), .ref (r + 5), .ref (r + 6), .ref (r + 7), .ref (r + 8), .ref (r + 9), .null, .int 0, .int 0, .null, .null, .null, .int 0, .int 0, .null, .int 0, .null, .null, .null, .int 0, .null, .null, .int 0, .int 0, .int 0, .null, .int 0, .int 0, .null, .null, .null, .null, .null, .int 0, .null, .null, .null, .null]))) 10 (.inl (0, 220, .inl fun _ => 0))) 0 (.inr (8, [.int 0, .int 0, .ref (r + 1), .int (-1), .int 0, .ref (r + 2), .ref (r + 3), .ref (r + 4), .ref (r + 5), .ref (r + 6), .ref (r + 7), .ref (r + 8), .ref (r + 9), .ref (r + 10), .int 0, .int 0, .null, .null, .null, .int 0, .int 0, .null, .int 0, .null, .null, .null, .int 0, .null, .null, .int 0, .int 0, .int 0, .null, .int 0, .int 0, .null, .null, .null, .null, .null, .int 0, .null, .null, .null, .null]))) 11 (.inl (0, 9, .inl fun _ => 0))) 0 (.inr (8, [.int 0, .int 0, .ref (r + 1), .int (-1), .int 0, .ref (r + 2), .ref (r + 3), .ref (r + 4), .ref (r + 5), .ref (r + 6), .ref (r + 7), .ref (r + 8), .ref (r + 9), .ref (r + 10), .int 0, .int 0, .ref (r + 11), .null, .null, .int 0, .int 0, .null, .int 0, .null, .null, .null, .int 0, .null, .null, .int 0, .int 0, .int 0, .null, .int 0, .int 0, .null, .null, .null, .null, .null, .int 0, .null, .null, .null, .null]))) 12 (.inl (0, 9, .inl fun _ => 0))) 0 (.inr (8, [.int 0, .int 0, .ref (r + 1), .int (-1), .int 0, .ref (r + 2), .ref (r + 3), .ref (r + 4), .ref (r + 5), .ref (r + 6), .ref (r + 7), .ref (r + 8), .ref (r + 9), .ref (r + 10), .int 0, .int 0, .ref (r + 11), .ref (r + 12), .null, .int 0, .int 0, .null, .int 0, .null, .null, .null, .int 0, .null, .null, .int 0, .int 0, .int 0, .null, .int 0, .int 0, .null, .null, .null, .null, .null, .int 0, .null, .null, .null, .null]))) 13 (.inl (0, 9, .inl fun _ => 0))) 0 (.inr (8, [.int 0, .int 0, .ref (r + 1), .int (-1), .int 0, .ref (r + 2), .ref (r + 3), .ref (r + 4), .ref (r + 5), .ref (r + 6), .ref (r + 7), .ref (r + 8), .ref (r + 9), .ref (r + 10), .int 0, .int 0, .ref (r + 11), .ref (r + 12), .ref (r + 13), .int 0, .int 0, .null, .int 0, .null, .null, .null, .int 0, .null, .null, .int 0, .int 0, .int 0, .null, .int 0, .int 0, .null, .null, .null, .null, .null, .int 0, .null, .null, .null, .null]))) 14 (.inl (0, 400, .inl fun _ => 0))) 0 (.inr (8, [.int 0, .int 0, .ref (r + 1), .int (-1), .int 0, .ref (r + 2), .ref (r + 3), .ref (r + 4), .ref (r + 5), .ref (r + 6), .ref (r + 7), .ref (r + 8), .ref (r + 9), .ref (r + 10), .int 0, .int 0, .ref (r + 11), .ref (r + 12), .ref (r + 13), .int 0, .int 0, .ref (r + 14), .int 0, .null, .null, .null, .int 0, .null, .null, .int 0, .int 0, .int 0, .null, .int 0, .int 0, .null, .null, .null, .null, .null, .int 0, .null, .null, .null, .null]))) 15 (.inl (0, 160, .inl fun _ => 0))) 0 (.inr (8, [.int 0, .int 0, .ref (r + 1), .int (-1), .int 0, .ref (r + 2), .ref (r + 3), .ref (r + 4), .ref (r + 5), .ref (r + 6), .ref (r + 7), .ref (r + 8), .ref (r + 9), .ref (r + 10), .int 0, .int 0, .ref (r + 11), .ref (r + 12), .ref (r + 13), .int 0, .int 0, .ref (r + 14), .int 0, .ref (r + 15), .null, .null, .int 0, .null, .null, .int 0, .int 0, .int 0, .null, .int 0, .int 0, .null, .null, .null, .null, .null, .int 0, .null, .null, .null, .null]))) 16 (.inl (0, 160, .inl fun _ => 0))) 0 (.inr (8, [.int 0, .int 0, .ref (r + 1), .int (-1), .int 0, .ref (r + 2), .ref (r + 3), .ref (r + 4), .ref (r + 5), .ref (r + 6), .ref (r + 7), .ref (r + 8), .ref (r + 9), .ref (r + 10), .int 0, .int 0, .ref (r + 11), .ref (r + 12), .ref (r + 13), .int 0, .int 0, .ref (r + 14), .int 0, .ref (r + 15), .ref (r + 16), .null, .int 0, .null, .null, .int 0, .int 0, .int 0, .null, .int 0, .int 0, .null, .null, .null, .null, .null, .int 0, .null, .null, .null, .null]))) 17 (.inl (0, 160, .inl fun _ => 0))) 0 (.inr (8, [.int 0, .int 0, .ref (r + 1), .int (-1), .int 0, .ref (r + 2), .ref (r + 3), .ref (r + 4), .ref (r + 5), .ref (r + 6), .ref (r + 7), .ref (r + 8), .ref (r + 9), .ref (r + 10), .int 0, .int 0, .ref (r + 11), .ref (r + 12), .ref (r + 13), .int 0, .int 0, .ref (r + 14), .int 0, .ref (r + 15), .ref (r + 16), .ref (r + 17), .int 0, .null, .null, .int 0, .int 0, .int 0, .null, .int 0, .int 0, .null, .null, .null, .null, .null, .int 0, .null, .null, .null, .null]))) 18 (.inl (0, 800, .inl fun _ => 0))) 0 (.inr (8, [.int 0, .int 0, .ref (r + 1), .int (-1), .int 0, .ref (r + 2), .ref (r + 3), .ref (r + 4), .ref (r + 5), .ref (r + 6), .ref (r + 7), .ref (r + 8), .ref (r + 9), .ref (r + 10), .int 0, .int 0, .ref (r + 11), .ref (r + 12), .ref (r + 13), .int 0, .int 0, .ref (r + 14), .int 0, .ref (r + 15), .ref (r + 16), .ref (r + 17), .int 0, .ref (r + 18), .null, .int 0, .int 0, .int 0, .null, .int 0, .int 0, .null, .null, .null, .null, .null, .int 0, .null, .null, .null, .null]))) 19 (.inl (0, 800, .inl fun _ => 0))) 0 (.inr (8, [.int 0, .int 0, .ref (r + 1), .int (-1), .int 0, .ref (r + 2), .ref (r + 3), .ref (r + 4), .ref (r + 5), .ref (r + 6), .ref (r + 7), .ref (r + 8), .ref (r + 9), .ref (r + 10), .int 0, .int 0, .ref (r + 11), .ref (r + 12), .ref (r + 13), .int 0, .int 0, .ref (r + 14), .int 0, .ref (r + 15), .ref (r + 16), .ref (r + 17), .int 0, .ref (r + 18), .ref (r + 19), .int 0, .int 0, .int 0, .null, .int 0, .int 0, .null, .null, .null, .null, .null, .int 0, .null, .null, .null, .null]))) 20 (.inl (0, 200, .inl fun _ => 0))) 0 (.inr (8, [.int 0, .int 0, .ref (r + 1), .int (-1), .int 0, .ref (r + 2), .ref (r + 3), .ref (r + 4), .ref (r + 5), .ref (r + 6), .ref (r + 7), .ref (r + 8), .ref (r + 9), .ref (r + 10), .int 0, .int 0, .ref (r + 11), .ref (r + 12), .ref (r + 13), .int 0, .int 0, .ref (r + 14), .int 0, .ref (r + 15), .ref (r + 16), .ref (r + 17), .int 0, .ref (r + 18), .ref (r + 19), .int 0, .int 0, .int 0, .ref (r + 20), .int 0, .int 0, .null, .null, .null, .null, .null, .int 0, .null, .null, .null, .null]))) 21 (.inl (0, 1120, .inl fun _ => 0))) 0 (.inr (8, [.int 0, .int 0, .ref (r + 1), .int (-1), .int 0, .ref (r + 2), .ref (r + 3), .ref (r + 4), .ref (r + 5), .ref (r + 6), .ref (r + 7), .ref (r + 8), .ref (r + 9), .ref (r + 10), .int 0, .int 0, .ref (r + 11), .ref (r + 12), .ref (r + 13), .int 0, .int 0, .ref (r + 14), .int 0, .ref (r + 15), .ref (r + 16), .ref (r + 17), .int 0, .ref (r + 18), .ref (r + 19), .int 0, .int 0, .int 0, .ref (r + 20), .int 0, .int 0, .ref (r + 21), .null, .null, .null, .null, .int 0, .null, .null, .null, .null]))) 22 (.inl (0, 14, .inl fun _ => 0))) 0 (.inr (8, [.int 0, .int 0, .ref (r + 1), .int (-1), .int 0, .ref (r + 2), .ref (r + 3), .ref (r + 4), .ref (r + 5), .ref (r + 6), .ref (r + 7), .ref (r + 8), .ref (r + 9), .ref (r + 10), .int 0, .int 0, .ref (r + 11), .ref (r + 12), .ref (r + 13), .int 0, .int 0, .ref (r + 14), .int 0, .ref (r + 15), .ref (r + 16), .ref (r + 17), .int 0, .ref (r + 18), .ref (r + 19), .int 0, .int 0, .int 0, .ref (r + 20), .int 0, .int 0, .ref (r + 21), .ref (r + 22), .null, .null, .null, .int 0, .null, .null, .null, .null]))) 23 (.inl (3, 160, .inl fun _ => 0))) 0 (.inr (8, [.int 0, .int 0, .ref (r + 1), .int (-1), .int 0, .ref (r + 2), .ref (r + 3), .ref (r + 4), .ref (r + 5), .ref (r + 6), .ref (r + 7), .ref (r + 8), .ref (r + 9), .ref (r + 10), .int 0, .int 0, .ref (r + 11), .ref (r + 12), .ref (r + 13), .int 0, .int 0, .ref (r + 14), .int 0, .ref (r + 15), .ref (r + 16), .ref (r + 17), .int 0, .ref (r + 18), .ref (r + 19), .int 0, .int 0, .int 0, .ref (r + 20), .int 0, .int 0, .ref (r + 21), .ref (r + 22), .ref (r + 23), .null, .null, .int 0, .null, .null, .null, .null]))) 24 (.inl (3, 160, .inl fun _ => 0))) 0 (.inr (8, [.int 0, .int 0, .ref (r + 1), .int (-1), .int 0, .ref (r + 2), .ref (r + 3), .ref (r + 4), .ref (r + 5), .ref (r + 6), .ref (r + 7), .ref (r + 8), .ref (r + 9), .ref (r + 10), .int 0, .int 0, .ref (r + 11), .ref (r + 12), .ref (r + 13), .int 0, .int 0, .ref (r + 14), .int 0, .ref (r + 15), .ref (r + 16), .ref (r + 17), .int 0, .ref (r + 18), .ref (r + 19), .int 0, .int 0, .int 0, .ref (r + 20), .int 0, .int 0, .ref (r + 21), .ref (r + 22), .ref (r + 23), .ref (r + 24), .null, .int 0, .null, .null, .null, .null]))) 25 (.inl (3, 160, .inl fun _ => 0))) 0 (.inr (8, [.int 0, .int 0, .ref (r + 1), .int (-1), .int 0, .ref (r + 2), .ref (r + 3), .ref (r + 4), .ref (r + 5), .ref (r + 6), .ref (r + 7), .ref (r + 8), .ref (r + 9), .ref (r + 10), .int 0, .int 0, .ref (r + 11), .ref (r + 12), .ref (r + 13), .int 0, .int 0, .ref (r + 14), .int 0, .ref (r + 15), .ref (r + 16), .ref (r + 17), .int 0, .ref (r + 18), .ref (r + 19), .int 0, .int 0, .int 0, .ref (r + 20), .int 0, .int 0, .ref (r + 21), .ref (r + 22), .ref (r + 23), .ref (r + 24), .ref (r + 25), .int 0, .null, .null, .null, .null]))) 26 (.inl (0, 330, .inl fun _ => 0))) 0 (.inr (8, [.int 0, .int 0, .ref (r + 1), .int (-1), .int 0, .ref (r + 2), .ref (r + 3), .ref (r + 4), .ref (r + 5), .ref (r + 6), .ref (r + 7), .ref (r + 8), .ref (r + 9), .ref (r + 10), .int 0, .int 0, .ref (r + 11), .ref (r + 12), .ref (r + 13), .int 0, .int 0, .ref (r + 14), .int 0, .ref (r + 15), .ref (r + 16), .ref (r + 17), .int 0, .ref (r + 18), .ref (r + 19), .int 0, .int 0, .int 0, .ref (r + 20), .int 0, .int 0, .ref (r + 21), .ref (r + 22), .ref (r + 23), .ref (r + 24), .ref (r + 25), .int 0, .ref (r + 26), .null, .null, .null]))) 27 (.inl (0, 330, .inl fun _ => 0))) 0 (.inr (8, [.int 0, .int 0, .ref (r + 1), .int (-1), .int 0, .ref (r + 2), .ref (r + 3), .ref (r + 4), .ref (r + 5), .ref (r + 6), .ref (r + 7), .ref (r + 8), .ref (r + 9), .ref (r + 10), .int 0, .int 0, .ref (r + 11), .ref (r + 12), .ref (r + 13), .int 0, .int 0, .ref (r + 14), .int 0, .ref (r + 15), .ref (r + 16), .ref (r + 17), .int 0, .ref (r + 18), .ref (r + 19), .int 0, .int 0, .int 0, .ref (r + 20), .int 0, .int 0, .ref (r + 21), .ref (r + 22), .ref (r + 23), .ref (r + 24), .ref (r + 25), .int 0, .ref (r + 26), .ref (r + 27), .null, .null]))) 28 (.inl (3, 160, .inl fun _ => 0))) 0 (.inr (8, [.int 0, .int 0, .ref (r + 1), .int (-1), .int 0, .ref (r + 2), .ref (r + 3), .ref (r + 4), .ref (r + 5), .ref (r + 6), .ref (r + 7), .ref (r + 8), .ref (r + 9), .ref (r + 10), .int 0, .int 0, .ref (r + 11), .ref (r + 12), .ref (r + 13), .int 0, .int 0, .ref (r + 14), .int 0, .ref (r + 15), .ref (r + 16), .ref (r + 17), .int 0, .ref (r + 18), .ref (r + 19), .int 0, .int 0, .int 0, .ref (r + 20), .int 0, .int 0, .ref (r + 21), .ref (r + 22), .ref (r + 23), .ref (r + 24), .ref (r + 25), .int 0, .ref (r + 26), .ref (r + 27), .ref (r + 28), .null]))) 29 (.inl (0, 160, .inl fun _ => 0))) 0 (.inr (8, [.int 0, .int 0, .ref (r + 1), .int (-1), .int 0, .ref (r + 2), .ref (r + 3), .ref (r + 4), .ref (r + 5), .ref (r + 6), .ref (r + 7), .ref (r + 8), .ref (r + 9), .ref (r + 10), .int 0, .int 0, .ref (r + 11), .ref (r + 12), .ref (r + 13), .int 0, .int 0, .ref (r + 14), .int 0, .ref (r + 15), .ref (r + 16), .ref (r + 17), .int 0, .ref (r + 18), .ref (r + 19), .int 0, .int 0, .int 0, .ref (r + 20), .int 0, .int 0, .ref (r + 21), .ref (r + 22), .ref (r + 23), .ref (r + 24), .ref (r + 25), .int 0, .ref (r + 26), .ref (r + 27), .ref (r + 28), .ref (r + 29)]))) h, r + 30, k + 29, w + 7329)) := by
  obtain ⟨D, rfl⟩ : ∃ D', D = D' + 1 := ⟨D - 1, by omega⟩
  rw [o_ev (M := q_mMd_init) (lo := [some (.ref (r + 0))]) rfl (Nat.le_of_ble_eq_true rfl) rfl]
  refine Eq.trans (o_aload_n d_Md_init_0 rfl) ?_
  refine Eq.trans (o_objInit d_Md_init_1 pM_Md_1 (Nat.le_of_ble_eq_true rfl)) ?_
  refine Eq.trans (o_aload_n d_Md_init_4 rfl) ?_
  refine Eq.trans (o_bipush (v := 48) d_Md_init_5 (by decide)) ?_
  refine Eq.trans (b_newC (L := 48) d_Md_init_7 (by decide) (by decide)) ?_
  refine Eq.trans (b_put (i := 0) (fs := fs0M) d_Md_init_9 pF_Md_7 (by decide) hc (Nat.le_of_ble_eq_true rfl) rfl rfl (Or.inr ⟨rfl, rfl⟩)) ?_
  refine Eq.trans (o_aload_n d_Md_init_12 rfl) ?_
  refine Eq.trans (o_iconst (v := (-1)) d_Md_init_13 (by decide)) ?_
  refine Eq.trans (b_put (i := 0) (fs := [.int 0, .int 0, .ref (r + 1), .int 0, .int 0, .null, .null, .null, .null, .null, .null, .null, .null, .null, .int 0, .int 0, .null, .null, .null, .int 0, .int 0, .null, .int 0, .null, .null, .null, .int 0, .null, .null, .int 0, .int 0, .int 0, .null, .int 0, .int 0, .null, .null, .null, .null, .null, .int 0, .null, .null, .null, .null]) d_Md_init_14 pF_Md_13 (by decide) rfl (Nat.le_of_ble_eq_true rfl) rfl rfl (Or.inl rfl)) ?_
  refine Eq.trans (o_aload_n d_Md_init_17 rfl) ?_
  refine Eq.trans (o_sipush (v := 220) d_Md_init_18 (by decide)) ?_
  refine Eq.trans (b_newI (L := 220) d_Md_init_21 (by decide) (by decide)) ?_
  refine Eq.trans (b_put (i := 0) (fs := [.int 0, .int 0, .ref (r + 1), .int (-1), .int 0, .null, .null, .null, .null, .null, .null, .null, .null, .null, .int 0, .int 0, .null, .null, .null, .int 0, .int 0, .null, .int 0, .null, .null, .null, .int 0, .null, .null, .int 0, .int 0, .int 0, .null, .int 0, .int 0, .null, .null, .null, .null, .null, .int 0, .null, .null, .null, .null]) d_Md_init_23 pF_Md_17 (by decide) rfl (Nat.le_of_ble_eq_true rfl) rfl rfl (Or.inr ⟨rfl, rfl⟩)) ?_
  refine Eq.trans (o_aload_n d_Md_init_26 rfl) ?_
  refine Eq.trans (o_sipush (v := 220) d_Md_init_27 (by decide)) ?_
  refine Eq.trans (b_newI (L := 220) d_Md_init_30 (by decide) (by decide)) ?_
  refine Eq.trans (b_put (i := 0) (fs := [.int 0, .int 0, .ref (r + 1), .int (-1), .int 0, .ref (r + 2), .null, .null, .null, .null, .null, .null, .null, .null, .int 0, .int 0, .null, .null, .null, .int 0, .int 0, .null, .int 0, .null, .null, .null, .int 0, .null, .null, .int 0, .int 0, .int 0, .null, .int 0, .int 0, .null, .null, .null, .null, .null, .int 0, .null, .null, .null, .null]) d_Md_init_32 pF_Md_21 (by decide) rfl (Nat.le_of_ble_eq_true rfl) rfl rfl (Or.inr ⟨rfl, rfl⟩)) ?_
  refine Eq.trans (o_aload_n d_Md_init_35 rfl) ?_
  refine Eq.trans (o_sipush (v := 220) d_Md_init_36 (by decide)) ?_
  refine Eq.trans (b_newI (L := 220) d_Md_init_39 (by decide) (by decide)) ?_
  refine Eq.trans (b_put (i := 0) (fs := [.int 0, .int 0, .ref (r + 1), .int (-1), .int 0, .ref (r + 2), .ref (r + 3), .null, .null, .null, .null, .null, .null, .null, .int 0, .int 0, .null, .null, .null, .int 0, .int 0, .null, .int 0, .null, .null, .null, .int 0, .null, .null, .int 0, .int 0, .int 0, .null, .int 0, .int 0, .null, .null, .null, .null, .null, .int 0, .null, .null, .null, .null]) d_Md_init_41 pF_Md_24 (by decide) rfl (Nat.le_of_ble_eq_true rfl) rfl rfl (Or.inr ⟨rfl, rfl⟩)) ?_
  refine Eq.trans (o_aload_n d_Md_init_44 rfl) ?_
  refine Eq.trans (o_sipush (v := 220) d_Md_init_45 (by decide)) ?_
  refine Eq.trans (b_newI (L := 220) d_Md_init_48 (by decide) (by decide)) ?_
  refine Eq.trans (b_put (i := 0) (fs := [.int 0, .int 0, .ref (r + 1), .int (-1), .int 0, .ref (r + 2), .ref (r + 3), .ref (r + 4), .null, .null, .null, .null, .null, .null, .int 0, .int 0, .null, .null, .null, .int 0, .int 0, .null, .int 0, .null, .null, .null, .int 0, .null, .null, .int 0, .int 0, .int 0, .null, .int 0, .int 0, .null, .null, .null, .null, .null, .int 0, .null, .null, .null, .null]) d_Md_init_50 pF_Md_27 (by decide) rfl (Nat.le_of_ble_eq_true rfl) rfl rfl (Or.inr ⟨rfl, rfl⟩)) ?_
  refine Eq.trans (o_aload_n d_Md_init_53 rfl) ?_
  refine Eq.trans (o_sipush (v := 220) d_Md_init_54 (by decide)) ?_
  refine Eq.trans (b_newI (L := 220) d_Md_init_57 (by decide) (by decide)) ?_
  refine Eq.trans (b_put (i := 0) (fs := [.int 0, .int 0, .ref (r + 1), .int (-1), .int 0, .ref (r + 2), .ref (r + 3), .ref (r + 4), .ref (r + 5), .null, .null, .null, .null, .null, .int 0, .int 0, .null, .null, .null, .int 0, .int 0, .null, .int 0, .null, .null, .null, .int 0, .null, .null, .int 0, .int 0, .int 0, .null, .int 0, .int 0, .null, .null, .null, .null, .null, .int 0, .null, .null, .null, .null]) d_Md_init_59 pF_Md_30 (by decide) rfl (Nat.le_of_ble_eq_true rfl) rfl rfl (Or.inr ⟨rfl, rfl⟩)) ?_
  refine Eq.trans (o_aload_n d_Md_init_62 rfl) ?_
  refine Eq.trans (o_sipush (v := 220) d_Md_init_63 (by decide)) ?_
  refine Eq.trans (b_newI (L := 220) d_Md_init_66 (by decide) (by decide)) ?_
  refine Eq.trans (b_put (i := 0) (fs := [.int 0, .int 0, .ref (r + 1), .int (-1), .int 0, .ref (r + 2), .ref (r + 3), .ref (r + 4), .ref (r + 5), .ref (r + 6), .null, .null, .null, .null, .int 0, .int 0, .null, .null, .null, .int 0, .int 0, .null, .int 0, .null, .null, .null, .int 0, .null, .null, .int 0, .int 0, .int 0, .null, .int 0, .int 0, .null, .null, .null, .null, .null, .int 0, .null, .null, .null, .null]) d_Md_init_68 pF_Md_33 (by decide) rfl (Nat.le_of_ble_eq_true rfl) rfl rfl (Or.inr ⟨rfl, rfl⟩)) ?_
  refine Eq.trans (o_aload_n d_Md_init_71 rfl) ?_
  refine Eq.trans (o_sipush (v := 220) d_Md_init_72 (by decide)) ?_
  refine Eq.trans (b_newI (L := 220) d_Md_init_75 (by decide) (by decide)) ?_
  refine Eq.trans (b_put (i := 0) (fs := [.int 0, .int 0, .ref (r + 1), .int (-1), .int 0, .ref (r + 2), .ref (r + 3), .ref (r + 4), .ref (r + 5), .ref (r + 6), .ref (r + 7), .null, .null, .null, .int 0, .int 0, .null, .null, .null, .int 0, .int 0, .null, .int 0, .null, .null, .null, .int 0, .null, .null, .int 0, .int 0, .int 0, .null, .int 0, .int 0, .null, .null, .null, .null, .null, .int 0, .null, .null, .null, .null]) d_Md_init_77 pF_Md_36 (by decide) rfl (Nat.le_of_ble_eq_true rfl) rfl rfl (Or.inr ⟨rfl, rfl⟩)) ?_
  refine Eq.trans (o_aload_n d_Md_init_80 rfl) ?_
  refine Eq.trans (o_sipush (v := 220) d_Md_init_81 (by decide)) ?_
  refine Eq.trans (b_newZ (L := 220) d_Md_init_84 (by decide) (by decide)) ?_
  refine Eq.trans (b_put (i := 0) (fs := [.int 0, .int 0, .ref (r + 1), .int (-1), .int 0, .ref (r + 2), .ref (r + 3), .ref (r + 4), .ref (r + 5), .ref (r + 6), .ref (r + 7), .ref (r + 8), .null, .null, .int 0, .int 0, .null, .null, .null, .int 0, .int 0, .null, .int 0, .null, .null, .null, .int 0, .null, .null, .int 0, .int 0, .int 0, .null, .int 0, .int 0, .null, .null, .null, .null, .null, .int 0, .null, .null, .null, .null]) d_Md_init_86 pF_Md_39 (by decide) rfl (Nat.le_of_ble_eq_true rfl) rfl rfl (Or.inr ⟨rfl, rfl⟩)) ?_
  refine Eq.trans (o_aload_n d_Md_init_89 rfl) ?_
  refine Eq.trans (o_sipush (v := 220) d_Md_init_90 (by decide)) ?_
  refine Eq.trans (b_newI (L := 220) d_Md_init_93 (by decide) (by decide)) ?_
  refine Eq.trans (b_put (i := 0) (fs := [.int 0, .int 0, .ref (r + 1), .int (-1), .int 0, .ref (r + 2), .ref (r + 3), .ref (r + 4), .ref (r + 5), .ref (r + 6), .ref (r + 7), .ref (r + 8), .ref (r + 9), .null, .int 0, .int 0, .null, .null, .null, .int 0, .int 0, .null, .int 0, .null, .null, .null, .int 0, .null, .null, .int 0, .int 0, .int 0, .null, .int 0, .int 0, .null, .null, .null, .null, .null, .int 0, .null, .null, .null, .null]) d_Md_init_95 pF_Md_43 (by decide) rfl (Nat.le_of_ble_eq_true rfl) rfl rfl (Or.inr ⟨rfl, rfl⟩)) ?_
  refine Eq.trans (o_aload_n d_Md_init_98 rfl) ?_
  refine Eq.trans (o_bipush (v := 9) d_Md_init_99 (by decide)) ?_
  refine Eq.trans (b_newI (L := 9) d_Md_init_101 (by decide) (by decide)) ?_
  refine Eq.trans (b_put (i := 0) (fs := [.int 0, .int 0, .ref (r + 1), .int (-1), .int 0, .ref (r + 2), .ref (r + 3), .ref (r + 4), .ref (r + 5), .ref (r + 6), .ref (r + 7), .ref (r + 8), .ref (r + 9), .ref (r + 10), .int 0, .int 0, .null, .null, .null, .int 0, .int 0, .null, .int 0, .null, .null, .null, .int 0, .null, .null, .int 0, .int 0, .int 0, .null, .int 0, .int 0, .null, .null, .null, .null, .null, .int 0, .null, .null, .null, .null]) d_Md_init_103 pF_Md_46 (by decide) rfl (Nat.le_of_ble_eq_true rfl) rfl rfl (Or.inr ⟨rfl, rfl⟩)) ?_
  refine Eq.trans (o_aload_n d_Md_init_106 rfl) ?_
  refine Eq.trans (o_bipush (v := 9) d_Md_init_107 (by decide)) ?_
  refine Eq.trans (b_newI (L := 9) d_Md_init_109 (by decide) (by decide)) ?_
  refine Eq.trans (b_put (i := 0) (fs := [.int 0, .int 0, .ref (r + 1), .int (-1), .int 0, .ref (r + 2), .ref (r + 3), .ref (r + 4), .ref (r + 5), .ref (r + 6), .ref (r + 7), .ref (r + 8), .ref (r + 9), .ref (r + 10), .int 0, .int 0, .ref (r + 11), .null, .null, .int 0, .int 0, .null, .int 0, .null, .null, .null, .int 0, .null, .null, .int 0, .int 0, .int 0, .null, .int 0, .int 0, .null, .null, .null, .null, .null, .int 0, .null, .null, .null, .null]) d_Md_init_111 pF_Md_49 (by decide) rfl (Nat.le_of_ble_eq_true rfl) rfl rfl (Or.inr ⟨rfl, rfl⟩)) ?_
  refine Eq.trans (o_aload_n d_Md_init_114 rfl) ?_
  refine Eq.trans (o_bipush (v := 9) d_Md_init_115 (by decide)) ?_
  refine Eq.trans (b_newI (L := 9) d_Md_init_117 (by decide) (by decide)) ?_
  refine Eq.trans (b_put (i := 0) (fs := [.int 0, .int 0, .ref (r + 1), .int (-1), .int 0, .ref (r + 2), .ref (r + 3), .ref (r + 4), .ref (r + 5), .ref (r + 6), .ref (r + 7), .ref (r + 8), .ref (r + 9), .ref (r + 10), .int 0, .int 0, .ref (r + 11), .ref (r + 12), .null, .int 0, .int 0, .null, .int 0, .null, .null, .null, .int 0, .null, .null, .int 0, .int 0, .int 0, .null, .int 0, .int 0, .null, .null, .null, .null, .null, .int 0, .null, .null, .null, .null]) d_Md_init_119 pF_Md_52 (by decide) rfl (Nat.le_of_ble_eq_true rfl) rfl rfl (Or.inr ⟨rfl, rfl⟩)) ?_
  refine Eq.trans (o_aload_n d_Md_init_122 rfl) ?_
  refine Eq.trans (o_sipush (v := 400) d_Md_init_123 (by decide)) ?_
  refine Eq.trans (b_newI (L := 400) d_Md_init_126 (by decide) (by decide)) ?_
  refine Eq.trans (b_put (i := 0) (fs := [.int 0, .int 0, .ref (r + 1), .int (-1), .int 0, .ref (r + 2), .ref (r + 3), .ref (r + 4), .ref (r + 5), .ref (r + 6), .ref (r + 7), .ref (r + 8), .ref (r + 9), .ref (r + 10), .int 0, .int 0, .ref (r + 11), .ref (r + 12), .ref (r + 13), .int 0, .int 0, .null, .int 0, .null, .null, .null, .int 0, .null, .null, .int 0, .int 0, .int 0, .null, .int 0, .int 0, .null, .null, .null, .null, .null, .int 0, .null, .null, .null, .null]) d_Md_init_128 pF_Md_55 (by decide) rfl (Nat.le_of_ble_eq_true rfl) rfl rfl (Or.inr ⟨rfl, rfl⟩)) ?_
  refine Eq.trans (o_aload_n d_Md_init_131 rfl) ?_
  refine Eq.trans (o_sipush (v := 160) d_Md_init_132 (by decide)) ?_
  refine Eq.trans (b_newI (L := 160) d_Md_init_135 (by decide) (by decide)) ?_
  refine Eq.trans (b_put (i := 0) (fs := [.int 0, .int 0, .ref (r + 1), .int (-1), .int 0, .ref (r + 2), .ref (r + 3), .ref (r + 4), .ref (r + 5), .ref (r + 6), .ref (r + 7), .ref (r + 8), .ref (r + 9), .ref (r + 10), .int 0, .int 0, .ref (r + 11), .ref (r + 12), .ref (r + 13), .int 0, .int 0, .ref (r + 14), .int 0, .null, .null, .null, .int 0, .null, .null, .int 0, .int 0, .int 0, .null, .int 0, .int 0, .null, .null, .null, .null, .null, .int 0, .null, .null, .null, .null]) d_Md_init_137 pF_Md_58 (by decide) rfl (Nat.le_of_ble_eq_true rfl) rfl rfl (Or.inr ⟨rfl, rfl⟩)) ?_
  refine Eq.trans (o_aload_n d_Md_init_140 rfl) ?_
  refine Eq.trans (o_sipush (v := 160) d_Md_init_141 (by decide)) ?_
  refine Eq.trans (b_newI (L := 160) d_Md_init_144 (by decide) (by decide)) ?_
  refine Eq.trans (b_put (i := 0) (fs := [.int 0, .int 0, .ref (r + 1), .int (-1), .int 0, .ref (r + 2), .ref (r + 3), .ref (r + 4), .ref (r + 5), .ref (r + 6), .ref (r + 7), .ref (r + 8), .ref (r + 9), .ref (r + 10), .int 0, .int 0, .ref (r + 11), .ref (r + 12), .ref (r + 13), .int 0, .int 0, .ref (r + 14), .int 0, .ref (r + 15), .null, .null, .int 0, .null, .null, .int 0, .int 0, .int 0, .null, .int 0, .int 0, .null, .null, .null, .null, .null, .int 0, .null, .null, .null, .null]) d_Md_init_146 pF_Md_61 (by decide) rfl (Nat.le_of_ble_eq_true rfl) rfl rfl (Or.inr ⟨rfl, rfl⟩)) ?_
  refine Eq.trans (o_aload_n d_Md_init_149 rfl) ?_
  refine Eq.trans (o_sipush (v := 160) d_Md_init_150 (by decide)) ?_
  refine Eq.trans (b_newI (L := 160) d_Md_init_153 (by decide) (by decide)) ?_
  refine Eq.trans (b_put (i := 0) (fs := [.int 0, .int 0, .ref (r + 1), .int (-1), .int 0, .ref (r + 2), .ref (r + 3), .ref (r + 4), .ref (r + 5), .ref (r + 6), .ref (r + 7), .ref (r + 8), .ref (r + 9), .ref (r + 10), .int 0, .int 0, .ref (r + 11), .ref (r + 12), .ref (r + 13), .int 0, .int 0, .ref (r + 14), .int 0, .ref (r + 15), .ref (r + 16), .null, .int 0, .null, .null, .int 0, .int 0, .int 0, .null, .int 0, .int 0, .null, .null, .null, .null, .null, .int 0, .null, .null, .null, .null]) d_Md_init_155 pF_Md_64 (by decide) rfl (Nat.le_of_ble_eq_true rfl) rfl rfl (Or.inr ⟨rfl, rfl⟩)) ?_
  refine Eq.trans (o_aload_n d_Md_init_158 rfl) ?_
  refine Eq.trans (o_sipush (v := 800) d_Md_init_159 (by decide)) ?_
  refine Eq.trans (b_newI (L := 800) d_Md_init_162 (by decide) (by decide)) ?_
  refine Eq.trans (b_put (i := 0) (fs := [.int 0, .int 0, .ref (r + 1), .int (-1), .int 0, .ref (r + 2), .ref (r + 3), .ref (r + 4), .ref (r + 5), .ref (r + 6), .ref (r + 7), .ref (r + 8), .ref (r + 9), .ref (r + 10), .int 0, .int 0, .ref (r + 11), .ref (r + 12), .ref (r + 13), .int 0, .int 0, .ref (r + 14), .int 0, .ref (r + 15), .ref (r + 16), .ref (r + 17), .int 0, .null, .null, .int 0, .int 0, .int 0, .null, .int 0, .int 0, .null, .null, .null, .null, .null, .int 0, .null, .null, .null, .null]) d_Md_init_164 pF_Md_67 (by decide) rfl (Nat.le_of_ble_eq_true rfl) rfl rfl (Or.inr ⟨rfl, rfl⟩)) ?_
  refine Eq.trans (o_aload_n d_Md_init_167 rfl) ?_
  refine Eq.trans (o_sipush (v := 800) d_Md_init_168 (by decide)) ?_
  refine Eq.trans (b_newI (L := 800) d_Md_init_171 (by decide) (by decide)) ?_
  refine Eq.trans (b_put (i := 0) (fs := [.int 0, .int 0, .ref (r + 1), .int (-1), .int 0, .ref (r + 2), .ref (r + 3), .ref (r + 4), .ref (r + 5), .ref (r + 6), .ref (r + 7), .ref (r + 8), .ref (r + 9), .ref (r + 10), .int 0, .int 0, .ref (r + 11), .ref (r + 12), .ref (r + 13), .int 0, .int 0, .ref (r + 14), .int 0, .ref (r + 15), .ref (r + 16), .ref (r + 17), .int 0, .ref (r + 18), .null, .int 0, .int 0, .int 0, .null, .int 0, .int 0, .null, .null, .null, .null, .null, .int 0, .null, .null, .null, .null]) d_Md_init_173 pF_Md_70 (by decide) rfl (Nat.le_of_ble_eq_true rfl) rfl rfl (Or.inr ⟨rfl, rfl⟩)) ?_
  refine Eq.trans (o_aload_n d_Md_init_176 rfl) ?_
  refine Eq.trans (o_sipush (v := 200) d_Md_init_177 (by decide)) ?_
  refine Eq.trans (b_newI (L := 200) d_Md_init_180 (by decide) (by decide)) ?_
  refine Eq.trans (b_put (i := 0) (fs := [.int 0, .int 0, .ref (r + 1), .int (-1), .int 0, .ref (r + 2), .ref (r + 3), .ref (r + 4), .ref (r + 5), .ref (r + 6), .ref (r + 7), .ref (r + 8), .ref (r + 9), .ref (r + 10), .int 0, .int 0, .ref (r + 11), .ref (r + 12), .ref (r + 13), .int 0, .int 0, .ref (r + 14), .int 0, .ref (r + 15), .ref (r + 16), .ref (r + 17), .int 0, .ref (r + 18), .ref (r + 19), .int 0, .int 0, .int 0, .null, .int 0, .int 0, .null, .null, .null, .null, .null, .int 0, .null, .null, .null, .null]) d_Md_init_182 pF_Md_73 (by decide) rfl (Nat.le_of_ble_eq_true rfl) rfl rfl (Or.inr ⟨rfl, rfl⟩)) ?_
  refine Eq.trans (o_aload_n d_Md_init_185 rfl) ?_
  refine Eq.trans (o_sipush (v := 1120) d_Md_init_186 (by decide)) ?_
  refine Eq.trans (b_newI (L := 1120) d_Md_init_189 (by decide) (by decide)) ?_
  refine Eq.trans (b_put (i := 0) (fs := [.int 0, .int 0, .ref (r + 1), .int (-1), .int 0, .ref (r + 2), .ref (r + 3), .ref (r + 4), .ref (r + 5), .ref (r + 6), .ref (r + 7), .ref (r + 8), .ref (r + 9), .ref (r + 10), .int 0, .int 0, .ref (r + 11), .ref (r + 12), .ref (r + 13), .int 0, .int 0, .ref (r + 14), .int 0, .ref (r + 15), .ref (r + 16), .ref (r + 17), .int 0, .ref (r + 18), .ref (r + 19), .int 0, .int 0, .int 0, .ref (r + 20), .int 0, .int 0, .null, .null, .null, .null, .null, .int 0, .null, .null, .null, .null]) d_Md_init_191 pF_Md_76 (by decide) rfl (Nat.le_of_ble_eq_true rfl) rfl rfl (Or.inr ⟨rfl, rfl⟩)) ?_
  refine Eq.trans (o_aload_n d_Md_init_194 rfl) ?_
  refine Eq.trans (o_bipush (v := 14) d_Md_init_195 (by decide)) ?_
  refine Eq.trans (b_newI (L := 14) d_Md_init_197 (by decide) (by decide)) ?_
  refine Eq.trans (b_put (i := 0) (fs := [.int 0, .int 0, .ref (r + 1), .int (-1), .int 0, .ref (r + 2), .ref (r + 3), .ref (r + 4), .ref (r + 5), .ref (r + 6), .ref (r + 7), .ref (r + 8), .ref (r + 9), .ref (r + 10), .int 0, .int 0, .ref (r + 11), .ref (r + 12), .ref (r + 13), .int 0, .int 0, .ref (r + 14), .int 0, .ref (r + 15), .ref (r + 16), .ref (r + 17), .int 0, .ref (r + 18), .ref (r + 19), .int 0, .int 0, .int 0, .ref (r + 20), .int 0, .int 0, .ref (r + 21), .null, .null, .null, .null, .int 0, .null, .null, .null, .null]) d_Md_init_199 pF_Md_79 (by decide) rfl (Nat.le_of_ble_eq_true rfl) rfl rfl (Or.inr ⟨rfl, rfl⟩)) ?_
  refine Eq.trans (o_aload_n d_Md_init_202 rfl) ?_
  refine Eq.trans (o_sipush (v := 160) d_Md_init_203 (by decide)) ?_
  refine Eq.trans (b_newZ (L := 160) d_Md_init_206 (by decide) (by decide)) ?_
  refine Eq.trans (b_put (i := 0) (fs := [.int 0, .int 0, .ref (r + 1), .int (-1), .int 0, .ref (r + 2), .ref (r + 3), .ref (r + 4), .ref (r + 5), .ref (r + 6), .ref (r + 7), .ref (r + 8), .ref (r + 9), .ref (r + 10), .int 0, .int 0, .ref (r + 11), .ref (r + 12), .ref (r + 13), .int 0, .int 0, .ref (r + 14), .int 0, .ref (r + 15), .ref (r + 16), .ref (r + 17), .int 0, .ref (r + 18), .ref (r + 19), .int 0, .int 0, .int 0, .ref (r + 20), .int 0, .int 0, .ref (r + 21), .ref (r + 22), .null, .null, .null, .int 0, .null, .null, .null, .null]) d_Md_init_208 pF_Md_82 (by decide) rfl (Nat.le_of_ble_eq_true rfl) rfl rfl (Or.inr ⟨rfl, rfl⟩)) ?_
  refine Eq.trans (o_aload_n d_Md_init_211 rfl) ?_
  refine Eq.trans (o_sipush (v := 160) d_Md_init_212 (by decide)) ?_
  refine Eq.trans (b_newZ (L := 160) d_Md_init_215 (by decide) (by decide)) ?_
  refine Eq.trans (b_put (i := 0) (fs := [.int 0, .int 0, .ref (r + 1), .int (-1), .int 0, .ref (r + 2), .ref (r + 3), .ref (r + 4), .ref (r + 5), .ref (r + 6), .ref (r + 7), .ref (r + 8), .ref (r + 9), .ref (r + 10), .int 0, .int 0, .ref (r + 11), .ref (r + 12), .ref (r + 13), .int 0, .int 0, .ref (r + 14), .int 0, .ref (r + 15), .ref (r + 16), .ref (r + 17), .int 0, .ref (r + 18), .ref (r + 19), .int 0, .int 0, .int 0, .ref (r + 20), .int 0, .int 0, .ref (r + 21), .ref (r + 22), .ref (r + 23), .null, .null, .int 0, .null, .null, .null, .null]) d_Md_init_217 pF_Md_85 (by decide) rfl (Nat.le_of_ble_eq_true rfl) rfl rfl (Or.inr ⟨rfl, rfl⟩)) ?_
  refine Eq.trans (o_aload_n d_Md_init_220 rfl) ?_
  refine Eq.trans (o_sipush (v := 160) d_Md_init_221 (by decide)) ?_
  refine Eq.trans (b_newZ (L := 160) d_Md_init_224 (by decide) (by decide)) ?_
  refine Eq.trans (b_put (i := 0) (fs := [.int 0, .int 0, .ref (r + 1), .int (-1), .int 0, .ref (r + 2), .ref (r + 3), .ref (r + 4), .ref (r + 5), .ref (r + 6), .ref (r + 7), .ref (r + 8), .ref (r + 9), .ref (r + 10), .int 0, .int 0, .ref (r + 11), .ref (r + 12), .ref (r + 13), .int 0, .int 0, .ref (r + 14), .int 0, .ref (r + 15), .ref (r + 16), .ref (r + 17), .int 0, .ref (r + 18), .ref (r + 19), .int 0, .int 0, .int 0, .ref (r + 20), .int 0, .int 0, .ref (r + 21), .ref (r + 22), .ref (r + 23), .ref (r + 24), .null, .int 0, .null, .null, .null, .null]) d_Md_init_226 pF_Md_88 (by decide) rfl (Nat.le_of_ble_eq_true rfl) rfl rfl (Or.inr ⟨rfl, rfl⟩)) ?_
  refine Eq.trans (o_aload_n d_Md_init_229 rfl) ?_
  refine Eq.trans (o_sipush (v := 330) d_Md_init_230 (by decide)) ?_
  refine Eq.trans (b_newI (L := 330) d_Md_init_233 (by decide) (by decide)) ?_
  refine Eq.trans (b_put (i := 0) (fs := [.int 0, .int 0, .ref (r + 1), .int (-1), .int 0, .ref (r + 2), .ref (r + 3), .ref (r + 4), .ref (r + 5), .ref (r + 6), .ref (r + 7), .ref (r + 8), .ref (r + 9), .ref (r + 10), .int 0, .int 0, .ref (r + 11), .ref (r + 12), .ref (r + 13), .int 0, .int 0, .ref (r + 14), .int 0, .ref (r + 15), .ref (r + 16), .ref (r + 17), .int 0, .ref (r + 18), .ref (r + 19), .int 0, .int 0, .int 0, .ref (r + 20), .int 0, .int 0, .ref (r + 21), .ref (r + 22), .ref (r + 23), .ref (r + 24), .ref (r + 25), .int 0, .null, .null, .null, .null]) d_Md_init_235 pF_Md_91 (by decide) rfl (Nat.le_of_ble_eq_true rfl) rfl rfl (Or.inr ⟨rfl, rfl⟩)) ?_
  refine Eq.trans (o_aload_n d_Md_init_238 rfl) ?_
  refine Eq.trans (o_sipush (v := 330) d_Md_init_239 (by decide)) ?_
  refine Eq.trans (b_newI (L := 330) d_Md_init_242 (by decide) (by decide)) ?_
  refine Eq.trans (b_put (i := 0) (fs := [.int 0, .int 0, .ref (r + 1), .int (-1), .int 0, .ref (r + 2), .ref (r + 3), .ref (r + 4), .ref (r + 5), .ref (r + 6), .ref (r + 7), .ref (r + 8), .ref (r + 9), .ref (r + 10), .int 0, .int 0, .ref (r + 11), .ref (r + 12), .ref (r + 13), .int 0, .int 0, .ref (r + 14), .int 0, .ref (r + 15), .ref (r + 16), .ref (r + 17), .int 0, .ref (r + 18), .ref (r + 19), .int 0, .int 0, .int 0, .ref (r + 20), .int 0, .int 0, .ref (r + 21), .ref (r + 22), .ref (r + 23), .ref (r + 24), .ref (r + 25), .int 0, .ref (r + 26), .null, .null, .null]) d_Md_init_244 pF_Md_94 (by decide) rfl (Nat.le_of_ble_eq_true rfl) rfl rfl (Or.inr ⟨rfl, rfl⟩)) ?_
  refine Eq.trans (o_aload_n d_Md_init_247 rfl) ?_
  refine Eq.trans (o_sipush (v := 160) d_Md_init_248 (by decide)) ?_
  refine Eq.trans (b_newZ (L := 160) d_Md_init_251 (by decide) (by decide)) ?_
  refine Eq.trans (b_put (i := 0) (fs := [.int 0, .int 0, .ref (r + 1), .int (-1), .int 0, .ref (r + 2), .ref (r + 3), .ref (r + 4), .ref (r + 5), .ref (r + 6), .ref (r + 7), .ref (r + 8), .ref (r + 9), .ref (r + 10), .int 0, .int 0, .ref (r + 11), .ref (r + 12), .ref (r + 13), .int 0, .int 0, .ref (r + 14), .int 0, .ref (r + 15), .ref (r + 16), .ref (r + 17), .int 0, .ref (r + 18), .ref (r + 19), .int 0, .int 0, .int 0, .ref (r + 20), .int 0, .int 0, .ref (r + 21), .ref (r + 22), .ref (r + 23), .ref (r + 24), .ref (r + 25), .int 0, .ref (r + 26), .ref (r + 27), .null, .null]) d_Md_init_253 pF_Md_97 (by decide) rfl (Nat.le_of_ble_eq_true rfl) rfl rfl (Or.inr ⟨rfl, rfl⟩)) ?_
  refine Eq.trans (o_aload_n d_Md_init_256 rfl) ?_
  refine Eq.trans (o_sipush (v := 160) d_Md_init_257 (by decide)) ?_
  refine Eq.trans (b_newI (L := 160) d_Md_init_260 (by decide) (by decide)) ?_
  refine Eq.trans (b_put (i := 0) (fs := [.int 0, .int 0, .ref (r + 1), .int (-1), .int 0, .ref (r + 2), .ref (r + 3), .ref (r + 4), .ref (r + 5), .ref (r + 6), .ref (r + 7), .ref (r + 8), .ref (r + 9), .ref (r + 10), .int 0, .int 0, .ref (r + 11), .ref (r + 12), .ref (r + 13), .int 0, .int 0, .ref (r + 14), .int 0, .ref (r + 15), .ref (r + 16), .ref (r + 17), .int 0, .ref (r + 18), .ref (r + 19), .int 0, .int 0, .int 0, .ref (r + 20), .int 0, .int 0, .ref (r + 21), .ref (r + 22), .ref (r + 23), .ref (r + 24), .ref (r + 25), .int 0, .ref (r + 26), .ref (r + 27), .ref (r + 28), .null]) d_Md_init_262 pF_Md_100 (by decide) rfl (Nat.le_of_ble_eq_true rfl) rfl rfl (Or.inr ⟨rfl, rfl⟩)) ?_
  exact o_return d_Md_init_265 rfl
def T0M (n k w : Nat) (h : Nat → Option qE) : qT := (fun f => match f with | 3 => -1 | _ => 0, fun _ _ => 0, fun _ => 0, fun f => f, h, n, k, w)
set_option maxRecDepth 100000 in
/-- a new object -/
theorem c_Md_init (D : Nat) (hD : 1 ≤ D) (r : Nat) (h : Nat → Option qE) (k w : Nat) : q_ev q_Mt D 75 [.ref (r + 0)] (q_up h r (.inr (8, fs0M)), r + 1, k, w) = some (.inl none, layM r (T0M (r + 30) (k + 29) (w + 7329) h)) := by
  have e : q_up h r (.inr (8, fs0M)) = ov r 1 (fun _ => .inr (8, fs0M)) h := by
    funext a
    unfold q_up ov
    by_cases ha : a = r
    · subst ha; rw [if_pos rfl, if_pos ⟨Nat.le_refl _, by omega⟩]
    · rw [if_neg ha, if_neg (by omega)]
  rw [e]
  refine (c_Md_init0 D hD r _ h k w rfl).trans ?_
  refine congrArg (fun x => some (Sum.inl none, x)) ?_
  refine Prod.ext (ov_congr (fun j hj => ?_)) rfl
  match j, hj with
  | 0, _ => rfl
  | 1, _ => rfl
  | 2, _ => rfl
  | 3, _ => rfl
  | 4, _ => rfl
  | 5, _ => rfl
  | 6, _ => rfl
  | 7, _ => rfl
  | 8, _ => rfl
  | 9, _ => rfl
  | 10, _ => rfl
  | 11, _ => rfl
  | 12, _ => rfl
  | 13, _ => rfl
  | 14, _ => rfl
  | 15, _ => rfl
  | 16, _ => rfl
  | 17, _ => rfl
  | 18, _ => rfl
  | 19, _ => rfl
  | 20, _ => rfl
  | 21, _ => rfl
  | 22, _ => rfl
  | 23, _ => rfl
  | 24, _ => rfl
  | 25, _ => rfl
  | 26, _ => rfl
  | 27, _ => rfl
  | 28, _ => rfl
  | 29, _ => rfl
  | j + 30, hj => exact absurd hj (by omega)
