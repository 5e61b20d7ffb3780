noncomputable def k_Md_setMarks_51 (v2 : Int32) (v3 : Int32) : qW (qJ ⊕ Unit) :=
  w_A 29 160 v3 fun x1 =>
  w_go 25 [.int v2, .int x1] []
noncomputable def k_Md_setMarks_25 (v2 : Int32) (v3 : Int32) : qW (qJ ⊕ Unit) :=
  w_if (v3 < 0) (
    w_rt ()) (
    w_A 15 160 v3 fun x1 =>
    w_if (¬ x1 = 3) (
      k_Md_setMarks_51 v2 v3) (
      w_A 16 160 v3 fun x2 =>
      w_a 22 14 x2 v2 <|
      k_Md_setMarks_51 v2 v3))
noncomputable def k_Md_setMarks_2 (v1 : Int32) (v2 : Int32) (v3 : Int32) : qW (qJ ⊕ Unit) :=
  w_S 22 fun x1 =>
  w_if (x1 ≤ v3) (
    w_go 25 [.int v2, .int v1] []) (
    w_a 28 160 v3 ((vp_nar .boolean 0)) <|
    w_go 2 [.int v1, .int v2, .int (v3 + 1)] [])
noncomputable def k_Md_setMarks_0 (a1 : Int32) (a2 : Int32) : qW (qJ ⊕ Unit) :=
  w_go 2 [.int a1, .int a2, .int 0] []
noncomputable def b_Md_setMarks : qJ → qW (qJ ⊕ Unit) := fun x => match x with
  | (0, [.int a1, .int a2], []) => k_Md_setMarks_0 a1 a2
  | (2, [.int v1, .int v2, .int v3], []) => k_Md_setMarks_2 v1 v2 v3
  | (25, [.int v2, .int v3], []) => k_Md_setMarks_25 v2 v3
  | _ => w_no
noncomputable def f_Md_setMarks (a1 : Int32) (a2 : Int32) : qW Unit := w_fix b_Md_setMarks (0, [.int a1, .int a2], [])
set_option maxRecDepth 100000 in
set_option maxHeartbeats 4000000 in
theorem c_Md_setMarks_51 (D : Nat) (hD : 0 ≤ D) (r : Nat) (n : Nat) (ih_2 : ∀ (v1 : Int32) (v2 : Int32) (v3 : Int32)  (T T2 : qT) (v : Unit), w_run b_Md_setMarks n (2, [.int v1, .int v2, .int v3], []) T = some (v, T2) → q_out (q_ev q_Mt D) q_mMd_setMarks (2, [some (.ref (r + 0)), some (.int v1), some (.int v2), some (.int v3)], [], layM r T) = some (.inl (none), layM r T2)) (ih_25 : ∀ (v2 : Int32) (v3 : Int32) (e1 : Option Value) (T T2 : qT) (v : Unit), w_run b_Md_setMarks n (25, [.int v2, .int v3], []) T = some (v, T2) → q_out (q_ev q_Mt D) q_mMd_setMarks (25, [some (.ref (r + 0)), e1, some (.int v2), some (.int v3)], [], layM r T) = some (.inl (none), layM r T2)) (v2 : Int32) (v3 : Int32) (e1 : Option Value) (T T1 T2 : qT) (rr : qJ ⊕ Unit) (v : Unit) (h : k_Md_setMarks_51 v2 v3 T = some (rr, T1)) (hE : w_end b_Md_setMarks n rr T1 = some (v, T2)) : q_out (q_ev q_Mt D) q_mMd_setMarks (51, [some (.ref (r + 0)), e1, some (.int v2), some (.int v3)], [], layM r T) = some (.inl (none), layM r T2) := by
  unfold k_Md_setMarks_51 at h
  refine Eq.trans (o_aload_n d_Md_setMarks_51 rfl) ?_
  refine s_ref d_Md_setMarks_52 pF_Md_100 (zM_Md_parent r) ?_
  refine Eq.trans (o_iload_n d_Md_setMarks_55 rfl) ?_
  refine s_iald d_Md_setMarks_56 (rM_29 r) h (fun x1 h => ?_)
  refine Eq.trans (o_istore_n (lo' := [some (.ref (r + 0)), e1, some (.int v2), some (.int x1)]) d_Md_setMarks_57 (Nat.le_of_ble_eq_true rfl) rfl) ?_
  refine Eq.trans (o_goto (t := 25) d_Md_setMarks_58 (by decide)) ?_
  exact ih_25 _ _ _ _ _ _ (s_jump h hE)
set_option maxRecDepth 100000 in
set_option maxHeartbeats 4000000 in
theorem c_Md_setMarks_25 (D : Nat) (hD : 0 ≤ D) (r : Nat) (n : Nat) (ih_2 : ∀ (v1 : Int32) (v2 : Int32) (v3 : Int32)  (T T2 : qT) (v : Unit), w_run b_Md_setMarks n (2, [.int v1, .int v2, .int v3], []) T = some (v, T2) → q_out (q_ev q_Mt D) q_mMd_setMarks (2, [some (.ref (r + 0)), some (.int v1), some (.int v2), some (.int v3)], [], layM r T) = some (.inl (none), layM r T2)) (ih_25 : ∀ (v2 : Int32) (v3 : Int32) (e1 : Option Value) (T T2 : qT) (v : Unit), w_run b_Md_setMarks n (25, [.int v2, .int v3], []) T = some (v, T2) → q_out (q_ev q_Mt D) q_mMd_setMarks (25, [some (.ref (r + 0)), e1, some (.int v2), some (.int v3)], [], layM r T) = some (.inl (none), layM r T2)) (v2 : Int32) (v3 : Int32) (e1 : Option Value) (T T1 T2 : qT) (rr : qJ ⊕ Unit) (v : Unit) (h : k_Md_setMarks_25 v2 v3 T = some (rr, T1)) (hE : w_end b_Md_setMarks n rr T1 = some (v, T2)) : q_out (q_ev q_Mt D) q_mMd_setMarks (25, [some (.ref (r + 0)), e1, some (.int v2), some (.int v3)], [], layM r T) = some (.inl (none), layM r T2) := by
  unfold k_Md_setMarks_25 at h
  refine Eq.trans (o_iload_n d_Md_setMarks_25 rfl) ?_
  refine s_if_lt (t := 61) d_Md_setMarks_26 (by decide) h (fun h => ?_) (fun h => ?_)
  · exact s_vretJ d_Md_setMarks_61 rfl h hE
  · refine Eq.trans (o_aload_n d_Md_setMarks_29 rfl) ?_
    refine s_ref d_Md_setMarks_30 pF_Md_58 (zM_Md_code r) ?_
    refine Eq.trans (o_iload_n d_Md_setMarks_33 rfl) ?_
    refine s_iald d_Md_setMarks_34 (rM_15 r) h (fun x1 h => ?_)
    refine Eq.trans (o_iconst (v := 3) d_Md_setMarks_35 (by decide)) ?_
    refine s_icmp_ne (t := 51) d_Md_setMarks_36 (by decide) h (fun h => ?_) (fun h => ?_)
    · exact c_Md_setMarks_51 D hD r n ih_2 ih_25 _ _ _ _ _ _ _ _ h hE
    · refine Eq.trans (o_aload_n d_Md_setMarks_39 rfl) ?_
      refine s_ref d_Md_setMarks_40 pF_Md_79 (zM_Md_marks r) ?_
      refine Eq.trans (o_aload_n d_Md_setMarks_43 rfl) ?_
      refine s_ref d_Md_setMarks_44 pF_Md_61 (zM_Md_x r) ?_
      refine Eq.trans (o_iload_n d_Md_setMarks_47 rfl) ?_
      refine s_iald d_Md_setMarks_48 (rM_16 r) h (fun x2 h => ?_)
      refine Eq.trans (o_iload_n d_Md_setMarks_49 rfl) ?_
      refine s_iast d_Md_setMarks_50 (rM_22 r) h (fun T h => ?_)
      exact c_Md_setMarks_51 D hD r n ih_2 ih_25 _ _ _ _ _ _ _ _ h hE
set_option maxRecDepth 100000 in
set_option maxHeartbeats 4000000 in
theorem c_Md_setMarks_2 (D : Nat) (hD : 0 ≤ D) (r : Nat) (n : Nat) (ih_2 : ∀ (v1 : Int32) (v2 : Int32) (v3 : Int32)  (T T2 : qT) (v : Unit), w_run b_Md_setMarks n (2, [.int v1, .int v2, .int v3], []) T = some (v, T2) → q_out (q_ev q_Mt D) q_mMd_setMarks (2, [some (.ref (r + 0)), some (.int v1), some (.int v2), some (.int v3)], [], layM r T) = some (.inl (none), layM r T2)) (ih_25 : ∀ (v2 : Int32) (v3 : Int32) (e1 : Option Value) (T T2 : qT) (v : Unit), w_run b_Md_setMarks n (25, [.int v2, .int v3], []) T = some (v, T2) → q_out (q_ev q_Mt D) q_mMd_setMarks (25, [some (.ref (r + 0)), e1, some (.int v2), some (.int v3)], [], layM r T) = some (.inl (none), layM r T2)) (v1 : Int32) (v2 : Int32) (v3 : Int32)  (T T1 T2 : qT) (rr : qJ ⊕ Unit) (v : Unit) (h : k_Md_setMarks_2 v1 v2 v3 T = some (rr, T1)) (hE : w_end b_Md_setMarks n rr T1 = some (v, T2)) : q_out (q_ev q_Mt D) q_mMd_setMarks (2, [some (.ref (r + 0)), some (.int v1), some (.int v2), some (.int v3)], [], layM r T) = some (.inl (none), layM r T2) := by
  unfold k_Md_setMarks_2 at h
  refine Eq.trans (o_iload_n d_Md_setMarks_2 rfl) ?_
  refine Eq.trans (o_aload_n d_Md_setMarks_3 rfl) ?_
  refine s_get d_Md_setMarks_4 pF_Md_109 (zM_Md_length r) h (fun x1 h => ?_)
  refine s_icmp_ge (t := 23) d_Md_setMarks_7 (by decide) h (fun h => ?_) (fun h => ?_)
  · refine Eq.trans (o_iload_n d_Md_setMarks_23 rfl) ?_
    refine Eq.trans (o_istore_n (lo' := [some (.ref (r + 0)), some (.int v1), some (.int v2), some (.int v1)]) d_Md_setMarks_24 (Nat.le_of_ble_eq_true rfl) rfl) ?_
    exact ih_25 _ _ _ _ _ _ (s_jump h hE)
  · refine Eq.trans (o_aload_n d_Md_setMarks_10 rfl) ?_
    refine s_ref d_Md_setMarks_11 pF_Md_97 (zM_Md_seen r) ?_
    refine Eq.trans (o_iload_n d_Md_setMarks_14 rfl) ?_
    refine Eq.trans (o_iconst (v := 0) d_Md_setMarks_15 (by decide)) ?_
    refine s_zast d_Md_setMarks_16 (rM_28 r) h (fun T h => ?_)
    refine Eq.trans (o_iinc (v := (v3 + 1)) (lo' := [some (.ref (r + 0)), some (.int v1), some (.int v2), some (.int (v3 + 1))]) d_Md_setMarks_17 rfl (by rw [show Int32.ofInt 1 = 1 from by decide]) (Nat.le_of_ble_eq_true rfl) rfl) ?_
    refine Eq.trans (o_goto (t := 2) d_Md_setMarks_20 (by decide)) ?_
    exact ih_2 _ _ _ _ _ _ (s_jump h hE)
set_option maxRecDepth 100000 in
set_option maxHeartbeats 4000000 in
theorem c_Md_setMarks_0 (D : Nat) (hD : 0 ≤ D) (r : Nat) (n : Nat) (ih_2 : ∀ (v1 : Int32) (v2 : Int32) (v3 : Int32)  (T T2 : qT) (v : Unit), w_run b_Md_setMarks n (2, [.int v1, .int v2, .int v3], []) T = some (v, T2) → q_out (q_ev q_Mt D) q_mMd_setMarks (2, [some (.ref (r + 0)), some (.int v1), some (.int v2), some (.int v3)], [], layM r T) = some (.inl (none), layM r T2)) (ih_25 : ∀ (v2 : Int32) (v3 : Int32) (e1 : Option Value) (T T2 : qT) (v : Unit), w_run b_Md_setMarks n (25, [.int v2, .int v3], []) T = some (v, T2) → q_out (q_ev q_Mt D) q_mMd_setMarks (25, [some (.ref (r + 0)), e1, some (.int v2), some (.int v3)], [], layM r T) = some (.inl (none), layM r T2)) (a1 : Int32) (a2 : Int32)  (T T1 T2 : qT) (rr : qJ ⊕ Unit) (v : Unit) (h : k_Md_setMarks_0 a1 a2 T = some (rr, T1)) (hE : w_end b_Md_setMarks n rr T1 = some (v, T2)) : q_out (q_ev q_Mt D) q_mMd_setMarks (0, [some (.ref (r + 0)), some (.int a1), some (.int a2), none], [], layM r T) = some (.inl (none), layM r T2) := by
  unfold k_Md_setMarks_0 at h
  refine Eq.trans (o_iconst (v := 0) d_Md_setMarks_0 (by decide)) ?_
  refine Eq.trans (o_istore_n (lo' := [some (.ref (r + 0)), some (.int a1), some (.int a2), some (.int 0)]) d_Md_setMarks_1 (Nat.le_of_ble_eq_true rfl) rfl) ?_
  exact ih_2 _ _ _ _ _ _ (s_jump h hE)
theorem c_Md_setMarks_lp (D : Nat) (hD : 0 ≤ D) (r : Nat) : ∀ n : Nat, (∀ (v1 : Int32) (v2 : Int32) (v3 : Int32)  (T T2 : qT) (v : Unit), w_run b_Md_setMarks n (2, [.int v1, .int v2, .int v3], []) T = some (v, T2) → q_out (q_ev q_Mt D) q_mMd_setMarks (2, [some (.ref (r + 0)), some (.int v1), some (.int v2), some (.int v3)], [], layM r T) = some (.inl (none), layM r T2)) ∧ (∀ (v2 : Int32) (v3 : Int32) (e1 : Option Value) (T T2 : qT) (v : Unit), w_run b_Md_setMarks n (25, [.int v2, .int v3], []) T = some (v, T2) → q_out (q_ev q_Mt D) q_mMd_setMarks (25, [some (.ref (r + 0)), e1, some (.int v2), some (.int v3)], [], layM r T) = some (.inl (none), layM r T2)) := by
  intro n
  induction n with
  | zero => exact ⟨(fun v1 v2 v3 T T2 v h => by cases h), (fun v2 v3 e1 T T2 v h => by cases h)⟩
  | succ n ih =>
    obtain ⟨ih_2, ih_25⟩ := ih
    refine ⟨?_, ?_⟩
    · intro v1 v2 v3 T T2 v h
      obtain ⟨rr, T1, hb, hE⟩ := w_run_succ h
      exact c_Md_setMarks_2 D hD r n ih_2 ih_25 v1 v2 v3 T T1 T2 rr v hb hE
    · intro v2 v3 e1 T T2 v h
      obtain ⟨rr, T1, hb, hE⟩ := w_run_succ h
      exact c_Md_setMarks_25 D hD r n ih_2 ih_25 v2 v3 e1 T T1 T2 rr v hb hE
theorem c_Md_setMarks (D : Nat) (hD : 1 ≤ D) (r : Nat) (a1 : Int32) (a2 : Int32) (T T2 : qT) (v : Unit) (h : f_Md_setMarks a1 a2 T = some (v, T2)) : q_ev q_Mt D 117 [.ref (r + 0), .int a1, .int a2] (layM r T) = some (.inl (none), layM r T2) := by
  obtain ⟨D, rfl⟩ : ∃ D', D = D' + 1 := ⟨D - 1, by omega⟩
  obtain ⟨n, hn⟩ := w_fix_iff.mp h
  cases n with
  | zero => cases hn
  | succ n =>
    obtain ⟨rr, T1, hb, hE⟩ := w_run_succ hn
    have hl := c_Md_setMarks_lp D (by omega) r n
    obtain ⟨ih_2, ih_25⟩ := hl
    rw [o_ev (M := q_mMd_setMarks) (lo := [some (.ref (r + 0)), some (.int a1), some (.int a2), none]) rfl (Nat.le_of_ble_eq_true rfl) rfl]
    exact c_Md_setMarks_0 D (by omega) r n ih_2 ih_25 a1 a2 T T1 T2 rr v hb hE
noncomputable def k_Md_spreadH_154 (s0 : Int32) (s1 : Int32) : qW (qJ ⊕ Unit) :=
  w_a 26 330 s1 s0 <|
  w_S 40 fun x1 =>
  w_s 40 ((x1 + 1)) <|
  w_go 12 [] []
noncomputable def k_Md_spreadH_124 (v3 : Int32) : qW (qJ ⊕ Unit) :=
  w_S 40 fun x1 =>
  w_A 15 160 v3 fun x2 =>
  w_if (¬ x2 = 2) (
    k_Md_spreadH_154 ((v3 + 1)) x1) (
    w_A 16 160 v3 fun x3 =>
    k_Md_spreadH_154 x3 x1)
noncomputable def k_Md_spreadH_12  : qW (qJ ⊕ Unit) :=
  w_S 40 fun x1 =>
  w_if (x1 ≤ 0) (
    w_rt ()) (
    w_S 40 fun x2 =>
    w_s 40 ((x2 - 1)) <|
    w_S 40 fun x3 =>
    w_A 26 330 x3 fun x4 =>
    w_A 24 160 x4 fun x5 =>
    w_if (¬ x5 = 0) (
      w_go 12 [] []) (
      w_a 24 160 x4 ((vp_nar .boolean 1)) <|
      w_A 15 160 x4 fun x6 =>
      w_if (¬ x6 = 1) (
        w_A 15 160 x4 fun x7 =>
        w_if (x7 = 2) (
          k_Md_spreadH_124 x4) (
          w_A 15 160 x4 fun x8 =>
          w_if (¬ x8 = 3) (
            w_go 12 [] []) (
            k_Md_spreadH_124 x4))) (
        w_S 40 fun x9 =>
        w_A 17 160 x4 fun x10 =>
        w_a 26 330 x9 x10 <|
        w_S 40 fun x11 =>
        w_A 16 160 x4 fun x12 =>
        w_a 26 330 ((x11 + 1)) x12 <|
        w_S 40 fun x13 =>
        w_s 40 ((x13 + 2)) <|
        w_go 12 [] [])))
noncomputable def k_Md_spreadH_0 (a2 : Int32) : qW (qJ ⊕ Unit) :=
  w_s 40 1 <|
  w_a 26 330 0 a2 <|
  w_go 12 [] []
noncomputable def b_Md_spreadH : qJ → qW (qJ ⊕ Unit) := fun x => match x with
  | (0, [.int a2], []) => k_Md_spreadH_0 a2
  | (12, [], []) => k_Md_spreadH_12 
  | _ => w_no
noncomputable def f_Md_spreadH (a2 : Int32) : qW Unit := w_fix b_Md_spreadH (0, [.int a2], [])
set_option maxRecDepth 100000 in
set_option maxHeartbeats 4000000 in
theorem c_Md_spreadH_154 (D : Nat) (hD : 0 ≤ D) (r : Nat) (n : Nat) (ih_12 : ∀  (e2 : Option Value) (e3 : Option Value) (T T2 : qT) (v : Unit), w_run b_Md_spreadH n (12, [], []) T = some (v, T2) → q_out (q_ev q_Mt D) q_mMd_spread (12, [some (.ref (r + 0)), some (.ref (r + 24)), e2, e3], [], layM r T) = some (.inl (none), layM r T2)) (s0 : Int32) (s1 : Int32) (e2 : Option Value) (e3 : Option Value) (T T1 T2 : qT) (rr : qJ ⊕ Unit) (v : Unit) (h : k_Md_spreadH_154 s0 s1 T = some (rr, T1)) (hE : w_end b_Md_spreadH n rr T1 = some (v, T2)) : q_out (q_ev q_Mt D) q_mMd_spread (154, [some (.ref (r + 0)), some (.ref (r + 24)), e2, e3], [.int s0, .int s1, .ref (r + 26)], layM r T) = some (.inl (none), layM r T2) := by
  unfold k_Md_spreadH_154 at h
  refine s_iast d_Md_spread_154 (rM_26 r) h (fun T h => ?_)
  refine Eq.trans (o_aload_n d_Md_spread_155 rfl) ?_
  refine Eq.trans (o_dup d_Md_spread_156 rfl) ?_
  refine s_get d_Md_spread_157 pF_Md_240 (zM_Md_piled r) h (fun x1 h => ?_)
  refine Eq.trans (o_iconst (v := 1) d_Md_spread_160 (by decide)) ?_
  refine Eq.trans (o_iadd d_Md_spread_161) ?_
  refine s_put d_Md_spread_162 pF_Md_240 (zM_Md_piled r) h (fun T h => ?_)
  refine Eq.trans (o_goto (t := 12) d_Md_spread_165 (by decide)) ?_
  exact ih_12 _ _ _ _ _ (s_jump h hE)
set_option maxRecDepth 100000 in
set_option maxHeartbeats 4000000 in
theorem c_Md_spreadH_124 (D : Nat) (hD : 0 ≤ D) (r : Nat) (n : Nat) (ih_12 : ∀  (e2 : Option Value) (e3 : Option Value) (T T2 : qT) (v : Unit), w_run b_Md_spreadH n (12, [], []) T = some (v, T2) → q_out (q_ev q_Mt D) q_mMd_spread (12, [some (.ref (r + 0)), some (.ref (r + 24)), e2, e3], [], layM r T) = some (.inl (none), layM r T2)) (v3 : Int32) (e2 : Option Value) (T T1 T2 : qT) (rr : qJ ⊕ Unit) (v : Unit) (h : k_Md_spreadH_124 v3 T = some (rr, T1)) (hE : w_end b_Md_spreadH n rr T1 = some (v, T2)) : q_out (q_ev q_Mt D) q_mMd_spread (124, [some (.ref (r + 0)), some (.ref (r + 24)), e2, some (.int v3)], [], layM r T) = some (.inl (none), layM r T2) := by
  unfold k_Md_spreadH_124 at h
  refine Eq.trans (o_aload_n d_Md_spread_124 rfl) ?_
  refine s_ref d_Md_spread_125 pF_Md_91 (zM_Md_pile r) ?_
  refine Eq.trans (o_aload_n d_Md_spread_128 rfl) ?_
  refine s_get d_Md_spread_129 pF_Md_240 (zM_Md_piled r) h (fun x1 h => ?_)
  refine Eq.trans (o_aload_n d_Md_spread_132 rfl) ?_
  refine s_ref d_Md_spread_133 pF_Md_58 (zM_Md_code r) ?_
  refine Eq.trans (o_iload_n d_Md_spread_136 rfl) ?_
  refine s_iald d_Md_spread_137 (rM_15 r) h (fun x2 h => ?_)
  refine Eq.trans (o_iconst (v := 2) d_Md_spread_138 (by decide)) ?_
  refine s_icmp_ne (t := 151) d_Md_spread_139 (by decide) h (fun h => ?_) (fun h => ?_)
  · refine Eq.trans (o_iload_n d_Md_spread_151 rfl) ?_
    refine Eq.trans (o_iconst (v := 1) d_Md_spread_152 (by decide)) ?_
    refine Eq.trans (o_iadd d_Md_spread_153) ?_
    exact c_Md_spreadH_154 D hD r n ih_12 _ _ _ _ _ _ _ _ _ h hE
  · refine Eq.trans (o_aload_n d_Md_spread_142 rfl) ?_
    refine s_ref d_Md_spread_143 pF_Md_61 (zM_Md_x r) ?_
    refine Eq.trans (o_iload_n d_Md_spread_146 rfl) ?_
    refine s_iald d_Md_spread_147 (rM_16 r) h (fun x3 h => ?_)
    refine Eq.trans (o_goto (t := 154) d_Md_spread_148 (by decide)) ?_
    exact c_Md_spreadH_154 D hD r n ih_12 _ _ _ _ _ _ _ _ _ h hE
set_option maxRecDepth 100000 in
set_option maxHeartbeats 4000000 in
theorem c_Md_spreadH_12 (D : Nat) (hD : 0 ≤ D) (r : Nat) (n : Nat) (ih_12 : ∀  (e2 : Option Value) (e3 : Option Value) (T T2 : qT) (v : Unit), w_run b_Md_spreadH n (12, [], []) T = some (v, T2) → q_out (q_ev q_Mt D) q_mMd_spread (12, [some (.ref (r + 0)), some (.ref (r + 24)), e2, e3], [], layM r T) = some (.inl (none), layM r T2))  (e2 : Option Value) (e3 : Option Value) (T T1 T2 : qT) (rr : qJ ⊕ Unit) (v : Unit) (h : k_Md_spreadH_12 T = some (rr, T1)) (hE : w_end b_Md_spreadH n rr T1 = some (v, T2)) : q_out (q_ev q_Mt D) q_mMd_spread (12, [some (.ref (r + 0)), some (.ref (r + 24)), e2, e3], [], layM r T) = some (.inl (none), layM r T2) := by
  unfold k_Md_spreadH_12 at h
  refine Eq.trans (o_aload_n d_Md_spread_12 rfl) ?_
  refine s_get d_Md_spread_13 pF_Md_240 (zM_Md_piled r) h (fun x1 h => ?_)
  refine s_if_le (t := 168) d_Md_spread_16 (by decide) h (fun h => ?_) (fun h => ?_)
  · exact s_vretJ d_Md_spread_168 rfl h hE
  · refine Eq.trans (o_aload_n d_Md_spread_19 rfl) ?_
    refine Eq.trans (o_dup d_Md_spread_20 rfl) ?_
    refine s_get d_Md_spread_21 pF_Md_240 (zM_Md_piled r) h (fun x2 h => ?_)
    refine Eq.trans (o_iconst (v := 1) d_Md_spread_24 (by decide)) ?_
    refine Eq.trans (o_isub d_Md_spread_25) ?_
    refine s_put d_Md_spread_26 pF_Md_240 (zM_Md_piled r) h (fun T h => ?_)
    refine Eq.trans (o_aload_n d_Md_spread_29 rfl) ?_
    refine s_ref d_Md_spread_30 pF_Md_91 (zM_Md_pile r) ?_
    refine Eq.trans (o_aload_n d_Md_spread_33 rfl) ?_
    refine s_get d_Md_spread_34 pF_Md_240 (zM_Md_piled r) h (fun x3 h => ?_)
    refine s_iald d_Md_spread_37 (rM_26 r) h (fun x4 h => ?_)
    refine Eq.trans (o_istore_n (lo' := [some (.ref (r + 0)), some (.ref (r + 24)), (q_dk e2), some (.int x4)]) d_Md_spread_38 (Nat.le_of_ble_eq_true rfl) ((q_st1_dk (j := 2) (Nat.le_of_ble_eq_true rfl)).trans rfl)) ?_
    refine Eq.trans (o_aload_n d_Md_spread_39 rfl) ?_
    refine Eq.trans (o_iload_n d_Md_spread_40 rfl) ?_
    refine s_zald d_Md_spread_41 (rM_24 r) h (fun x5 h => ?_)
    refine s_if_ne (t := 165) d_Md_spread_42 (by decide) h (fun h => ?_) (fun h => ?_)
    · refine Eq.trans (o_goto (t := 12) d_Md_spread_165 (by decide)) ?_
      exact ih_12 _ _ _ _ _ (s_jump h hE)
    · refine Eq.trans (o_aload_n d_Md_spread_45 rfl) ?_
      refine Eq.trans (o_iload_n d_Md_spread_46 rfl) ?_
      refine Eq.trans (o_iconst (v := 1) d_Md_spread_47 (by decide)) ?_
      refine s_zast d_Md_spread_48 (rM_24 r) h (fun T h => ?_)
      refine Eq.trans (o_aload_n d_Md_spread_49 rfl) ?_
      refine s_ref d_Md_spread_50 pF_Md_58 (zM_Md_code r) ?_
      refine Eq.trans (o_iload_n d_Md_spread_53 rfl) ?_
      refine s_iald d_Md_spread_54 (rM_15 r) h (fun x6 h => ?_)
      refine Eq.trans (o_iconst (v := 1) d_Md_spread_55 (by decide)) ?_
      refine s_icmp_ne (t := 104) d_Md_spread_56 (by decide) h (fun h => ?_) (fun h => ?_)
      · refine Eq.trans (o_aload_n d_Md_spread_104 rfl) ?_
        refine s_ref d_Md_spread_105 pF_Md_58 (zM_Md_code r) ?_
        refine Eq.trans (o_iload_n d_Md_spread_108 rfl) ?_
        refine s_iald d_Md_spread_109 (rM_15 r) h (fun x7 h => ?_)
        refine Eq.trans (o_iconst (v := 2) d_Md_spread_110 (by decide)) ?_
        refine s_icmp_eq (t := 124) d_Md_spread_111 (by decide) h (fun h => ?_) (fun h => ?_)
        · exact c_Md_spreadH_124 D hD r n ih_12 _ _ _ _ _ _ _ h hE
        · refine Eq.trans (o_aload_n d_Md_spread_114 rfl) ?_
          refine s_ref d_Md_spread_115 pF_Md_58 (zM_Md_code r) ?_
          refine Eq.trans (o_iload_n d_Md_spread_118 rfl) ?_
          refine s_iald d_Md_spread_119 (rM_15 r) h (fun x8 h => ?_)
          refine Eq.trans (o_iconst (v := 3) d_Md_spread_120 (by decide)) ?_
          refine s_icmp_ne (t := 165) d_Md_spread_121 (by decide) h (fun h => ?_) (fun h => ?_)
          · refine Eq.trans (o_goto (t := 12) d_Md_spread_165 (by decide)) ?_
            exact ih_12 _ _ _ _ _ (s_jump h hE)
          · exact c_Md_spreadH_124 D hD r n ih_12 _ _ _ _ _ _ _ h hE
      · refine Eq.trans (o_aload_n d_Md_spread_59 rfl) ?_
        refine s_ref d_Md_spread_60 pF_Md_91 (zM_Md_pile r) ?_
        refine Eq.trans (o_aload_n d_Md_spread_63 rfl) ?_
        refine s_get d_Md_spread_64 pF_Md_240 (zM_Md_piled r) h (fun x9 h => ?_)
        refine Eq.trans (o_aload_n d_Md_spread_67 rfl) ?_
        refine s_ref d_Md_spread_68 pF_Md_64 (zM_Md_y r) ?_
        refine Eq.trans (o_iload_n d_Md_spread_71 rfl) ?_
        refine s_iald d_Md_spread_72 (rM_17 r) h (fun x10 h => ?_)
        refine s_iast d_Md_spread_73 (rM_26 r) h (fun T h => ?_)
        refine Eq.trans (o_aload_n d_Md_spread_74 rfl) ?_
        refine s_ref d_Md_spread_75 pF_Md_91 (zM_Md_pile r) ?_
        refine Eq.trans (o_aload_n d_Md_spread_78 rfl) ?_
        refine s_get d_Md_spread_79 pF_Md_240 (zM_Md_piled r) h (fun x11 h => ?_)
        refine Eq.trans (o_iconst (v := 1) d_Md_spread_82 (by decide)) ?_
        refine Eq.trans (o_iadd d_Md_spread_83) ?_
        refine Eq.trans (o_aload_n d_Md_spread_84 rfl) ?_
        refine s_ref d_Md_spread_85 pF_Md_61 (zM_Md_x r) ?_
        refine Eq.trans (o_iload_n d_Md_spread_88 rfl) ?_
        refine s_iald d_Md_spread_89 (rM_16 r) h (fun x12 h => ?_)
        refine s_iast d_Md_spread_90 (rM_26 r) h (fun T h => ?_)
        refine Eq.trans (o_aload_n d_Md_spread_91 rfl) ?_
        refine Eq.trans (o_dup d_Md_spread_92 rfl) ?_
        refine s_get d_Md_spread_93 pF_Md_240 (zM_Md_piled r) h (fun x13 h => ?_)
        refine Eq.trans (o_iconst (v := 2) d_Md_spread_96 (by decide)) ?_
        refine Eq.trans (o_iadd d_Md_spread_97) ?_
        refine s_put d_Md_spread_98 pF_Md_240 (zM_Md_piled r) h (fun T h => ?_)
        refine Eq.trans (o_goto (t := 165) d_Md_spread_101 (by decide)) ?_
        refine Eq.trans (o_goto (t := 12) d_Md_spread_165 (by decide)) ?_
        exact ih_12 _ _ _ _ _ (s_jump h hE)
set_option maxRecDepth 100000 in
set_option maxHeartbeats 4000000 in
theorem c_Md_spreadH_0 (D : Nat) (hD : 0 ≤ D) (r : Nat) (n : Nat) (ih_12 : ∀  (e2 : Option Value) (e3 : Option Value) (T T2 : qT) (v : Unit), w_run b_Md_spreadH n (12, [], []) T = some (v, T2) → q_out (q_ev q_Mt D) q_mMd_spread (12, [some (.ref (r + 0)), some (.ref (r + 24)), e2, e3], [], layM r T) = some (.inl (none), layM r T2)) (a2 : Int32)  (T T1 T2 : qT) (rr : qJ ⊕ Unit) (v : Unit) (h : k_Md_spreadH_0 a2 T = some (rr, T1)) (hE : w_end b_Md_spreadH n rr T1 = some (v, T2)) : q_out (q_ev q_Mt D) q_mMd_spread (0, [some (.ref (r + 0)), some (.ref (r + 24)), some (.int a2), none], [], layM r T) = some (.inl (none), layM r T2) := by
  unfold k_Md_spreadH_0 at h
  refine Eq.trans (o_aload_n d_Md_spread_0 rfl) ?_
  refine Eq.trans (o_iconst (v := 1) d_Md_spread_1 (by decide)) ?_
  refine s_put d_Md_spread_2 pF_Md_240 (zM_Md_piled r) h (fun T h => ?_)
  refine Eq.trans (o_aload_n d_Md_spread_5 rfl) ?_
  refine s_ref d_Md_spread_6 pF_Md_91 (zM_Md_pile r) ?_
  refine Eq.trans (o_iconst (v := 0) d_Md_spread_9 (by decide)) ?_
  refine Eq.trans (o_iload_n d_Md_spread_10 rfl) ?_
  refine s_iast d_Md_spread_11 (rM_26 r) h (fun T h => ?_)
  exact ih_12 _ _ _ _ _ (s_jump h hE)
theorem c_Md_spreadH_lp (D : Nat) (hD : 0 ≤ D) (r : Nat) : ∀ n : Nat, (∀  (e2 : Option Value) (e3 : Option Value) (T T2 : qT) (v : Unit), w_run b_Md_spreadH n (12, [], []) T = some (v, T2) → q_out (q_ev q_Mt D) q_mMd_spread (12, [some (.ref (r + 0)), some (.ref (r + 24)), e2, e3], [], layM r T) = some (.inl (none), layM r T2)) := by
  intro n
  induction n with
  | zero => exact (fun e2 e3 T T2 v h => by cases h)
  | succ n ih =>
    have ih_12 := ih
    · intro e2 e3 T T2 v h
      obtain ⟨rr, T1, hb, hE⟩ := w_run_succ h
      exact c_Md_spreadH_12 D hD r n ih_12 e2 e3 T T1 T2 rr v hb hE
theorem c_Md_spreadH (D : Nat) (hD : 1 ≤ D) (r : Nat) (a2 : Int32) (T T2 : qT) (v : Unit) (h : f_Md_spreadH a2 T = some (v, T2)) : q_ev q_Mt D 115 [.ref (r + 0), .ref (r + 24), .int a2] (layM r T) = some (.inl (none), layM r T2) := by
  obtain ⟨D, rfl⟩ : ∃ D', D = D' + 1 := ⟨D - 1, by omega⟩
  obtain ⟨n, hn⟩ := w_fix_iff.mp h
  cases n with
  | zero => cases hn
  | succ n =>
    obtain ⟨rr, T1, hb, hE⟩ := w_run_succ hn
    have hl := c_Md_spreadH_lp D (by omega) r n
    have ih_12 := hl
    rw [o_ev (M := q_mMd_spread) (lo := [some (.ref (r + 0)), some (.ref (r + 24)), some (.int a2), none]) rfl (Nat.le_of_ble_eq_true rfl) rfl]
    exact c_Md_spreadH_0 D (by omega) r n ih_12 a2 T T1 T2 rr v hb hE
noncomputable def k_Md_spreadT_154 (s0 : Int32) (s1 : Int32) : qW (qJ ⊕ Unit) :=
  w_a 26 330 s1 s0 <|
  w_S 40 fun x1 =>
  w_s 40 ((x1 + 1)) <|
  w_go 12 [] []
noncomputable def k_Md_spreadT_124 (v3 : Int32) : qW (qJ ⊕ Unit) :=
  w_S 40 fun x1 =>
  w_A 15 160 v3 fun x2 =>
  w_if (¬ x2 = 2) (
    k_Md_spreadT_154 ((v3 + 1)) x1) (
    w_A 16 160 v3 fun x3 =>
    k_Md_spreadT_154 x3 x1)
noncomputable def k_Md_spreadT_12  : qW (qJ ⊕ Unit) :=
  w_S 40 fun x1 =>
  w_if (x1 ≤ 0) (
    w_rt ()) (
    w_S 40 fun x2 =>
    w_s 40 ((x2 - 1)) <|
    w_S 40 fun x3 =>
    w_A 26 330 x3 fun x4 =>
    w_A 25 160 x4 fun x5 =>
    w_if (¬ x5 = 0) (
      w_go 12 [] []) (
      w_a 25 160 x4 ((vp_nar .boolean 1)) <|
      w_A 15 160 x4 fun x6 =>
      w_if (¬ x6 = 1) (
        w_A 15 160 x4 fun x7 =>
        w_if (x7 = 2) (
          k_Md_spreadT_124 x4) (
          w_A 15 160 x4 fun x8 =>
          w_if (¬ x8 = 3) (
            w_go 12 [] []) (
            k_Md_spreadT_124 x4))) (
        w_S 40 fun x9 =>
        w_A 17 160 x4 fun x10 =>
        w_a 26 330 x9 x10 <|
        w_S 40 fun x11 =>
        w_A 16 160 x4 fun x12 =>
        w_a 26 330 ((x11 + 1)) x12 <|
        w_S 40 fun x13 =>
        w_s 40 ((x13 + 2)) <|
        w_go 12 [] [])))
noncomputable def k_Md_spreadT_0 (a2 : Int32) : qW (qJ ⊕ Unit) :=
  w_s 40 1 <|
  w_a 26 330 0 a2 <|
  w_go 12 [] []
noncomputable def b_Md_spreadT : qJ → qW (qJ ⊕ Unit) := fun x => match x with
  | (0, [.int a2], []) => k_Md_spreadT_0 a2
  | (12, [], []) => k_Md_spreadT_12 
  | _ => w_no
noncomputable def f_Md_spreadT (a2 : Int32) : qW Unit := w_fix b_Md_spreadT (0, [.int a2], [])
set_option maxRecDepth 100000 in
set_option maxHeartbeats 4000000 in
theorem c_Md_spreadT_154 (D : Nat) (hD : 0 ≤ D) (r : Nat) (n : Nat) (ih_12 : ∀  (e2 : Option Value) (e3 : Option Value) (T T2 : qT) (v : Unit), w_run b_Md_spreadT n (12, [], []) T = some (v, T2) → q_out (q_ev q_Mt D) q_mMd_spread (12, [some (.ref (r + 0)), some (.ref (r + 25)), e2, e3], [], layM r T) = some (.inl (none), layM r T2)) (s0 : Int32) (s1 : Int32) (e2 : Option Value) (e3 : Option Value) (T T1 T2 : qT) (rr : qJ ⊕ Unit) (v : Unit) (h : k_Md_spreadT_154 s0 s1 T = some (rr, T1)) (hE : w_end b_Md_spreadT n rr T1 = some (v, T2)) : q_out (q_ev q_Mt D) q_mMd_spread (154, [some (.ref (r + 0)), some (.ref (r + 25)), e2, e3], [.int s0, .int s1, .ref (r + 26)], layM r T) = some (.inl (none), layM r T2) := by
  unfold k_Md_spreadT_154 at h
  refine s_iast d_Md_spread_154 (rM_26 r) h (fun T h => ?_)
  refine Eq.trans (o_aload_n d_Md_spread_155 rfl) ?_
  refine Eq.trans (o_dup d_Md_spread_156 rfl) ?_
  refine s_get d_Md_spread_157 pF_Md_240 (zM_Md_piled r) h (fun x1 h => ?_)
  refine Eq.trans (o_iconst (v := 1) d_Md_spread_160 (by decide)) ?_
  refine Eq.trans (o_iadd d_Md_spread_161) ?_
  refine s_put d_Md_spread_162 pF_Md_240 (zM_Md_piled r) h (fun T h => ?_)
  refine Eq.trans (o_goto (t := 12) d_Md_spread_165 (by decide)) ?_
  exact ih_12 _ _ _ _ _ (s_jump h hE)
set_option maxRecDepth 100000 in
set_option maxHeartbeats 4000000 in
theorem c_Md_spreadT_124 (D : Nat) (hD : 0 ≤ D) (r : Nat) (n : Nat) (ih_12 : ∀  (e2 : Option Value) (e3 : Option Value) (T T2 : qT) (v : Unit), w_run b_Md_spreadT n (12, [], []) T = some (v, T2) → q_out (q_ev q_Mt D) q_mMd_spread (12, [some (.ref (r + 0)), some (.ref (r + 25)), e2, e3], [], layM r T) = some (.inl (none), layM r T2)) (v3 : Int32) (e2 : Option Value) (T T1 T2 : qT) (rr : qJ ⊕ Unit) (v : Unit) (h : k_Md_spreadT_124 v3 T = some (rr, T1)) (hE : w_end b_Md_spreadT n rr T1 = some (v, T2)) : q_out (q_ev q_Mt D) q_mMd_spread (124, [some (.ref (r + 0)), some (.ref (r + 25)), e2, some (.int v3)], [], layM r T) = some (.inl (none), layM r T2) := by
  unfold k_Md_spreadT_124 at h
  refine Eq.trans (o_aload_n d_Md_spread_124 rfl) ?_
  refine s_ref d_Md_spread_125 pF_Md_91 (zM_Md_pile r) ?_
  refine Eq.trans (o_aload_n d_Md_spread_128 rfl) ?_
  refine s_get d_Md_spread_129 pF_Md_240 (zM_Md_piled r) h (fun x1 h => ?_)
  refine Eq.trans (o_aload_n d_Md_spread_132 rfl) ?_
  refine s_ref d_Md_spread_133 pF_Md_58 (zM_Md_code r) ?_
  refine Eq.trans (o_iload_n d_Md_spread_136 rfl) ?_
  refine s_iald d_Md_spread_137 (rM_15 r) h (fun x2 h => ?_)
  refine Eq.trans (o_iconst (v := 2) d_Md_spread_138 (by decide)) ?_
  refine s_icmp_ne (t := 151) d_Md_spread_139 (by decide) h (fun h => ?_) (fun h => ?_)
  · refine Eq.trans (o_iload_n d_Md_spread_151 rfl) ?_
    refine Eq.trans (o_iconst (v := 1) d_Md_spread_152 (by decide)) ?_
    refine Eq.trans (o_iadd d_Md_spread_153) ?_
    exact c_Md_spreadT_154 D hD r n ih_12 _ _ _ _ _ _ _ _ _ h hE
  · refine Eq.trans (o_aload_n d_Md_spread_142 rfl) ?_
    refine s_ref d_Md_spread_143 pF_Md_61 (zM_Md_x r) ?_
    refine Eq.trans (o_iload_n d_Md_spread_146 rfl) ?_
    refine s_iald d_Md_spread_147 (rM_16 r) h (fun x3 h => ?_)
    refine Eq.trans (o_goto (t := 154) d_Md_spread_148 (by decide)) ?_
    exact c_Md_spreadT_154 D hD r n ih_12 _ _ _ _ _ _ _ _ _ h hE
set_option maxRecDepth 100000 in
set_option maxHeartbeats 4000000 in
theorem c_Md_spreadT_12 (D : Nat) (hD : 0 ≤ D) (r : Nat) (n : Nat) (ih_12 : ∀  (e2 : Option Value) (e3 : Option Value) (T T2 : qT) (v : Unit), w_run b_Md_spreadT n (12, [], []) T = some (v, T2) → q_out (q_ev q_Mt D) q_mMd_spread (12, [some (.ref (r + 0)), some (.ref (r + 25)), e2, e3], [], layM r T) = some (.inl (none), layM r T2))  (e2 : Option Value) (e3 : Option Value) (T T1 T2 : qT) (rr : qJ ⊕ Unit) (v : Unit) (h : k_Md_spreadT_12 T = some (rr, T1)) (hE : w_end b_Md_spreadT n rr T1 = some (v, T2)) : q_out (q_ev q_Mt D) q_mMd_spread (12, [some (.ref (r + 0)), some (.ref (r + 25)), e2, e3], [], layM r T) = some (.inl (none), layM r T2) := by
  unfold k_Md_spreadT_12 at h
  refine Eq.trans (o_aload_n d_Md_spread_12 rfl) ?_
  refine s_get d_Md_spread_13 pF_Md_240 (zM_Md_piled r) h (fun x1 h => ?_)
  refine s_if_le (t := 168) d_Md_spread_16 (by decide) h (fun h => ?_) (fun h => ?_)
  · exact s_vretJ d_Md_spread_168 rfl h hE
  · refine Eq.trans (o_aload_n d_Md_spread_19 rfl) ?_
    refine Eq.trans (o_dup d_Md_spread_20 rfl) ?_
    refine s_get d_Md_spread_21 pF_Md_240 (zM_Md_piled r) h (fun x2 h => ?_)
    refine Eq.trans (o_iconst (v := 1) d_Md_spread_24 (by decide)) ?_
    refine Eq.trans (o_isub d_Md_spread_25) ?_
    refine s_put d_Md_spread_26 pF_Md_240 (zM_Md_piled r) h (fun T h => ?_)
    refine Eq.trans (o_aload_n d_Md_spread_29 rfl) ?_
    refine s_ref d_Md_spread_30 pF_Md_91 (zM_Md_pile r) ?_
    refine Eq.trans (o_aload_n d_Md_spread_33 rfl) ?_
    refine s_get d_Md_spread_34 pF_Md_240 (zM_Md_piled r) h (fun x3 h => ?_)
    refine s_iald d_Md_spread_37 (rM_26 r) h (fun x4 h => ?_)
    refine Eq.trans (o_istore_n (lo' := [some (.ref (r + 0)), some (.ref (r + 25)), (q_dk e2), some (.int x4)]) d_Md_spread_38 (Nat.le_of_ble_eq_true rfl) ((q_st1_dk (j := 2) (Nat.le_of_ble_eq_true rfl)).trans rfl)) ?_
    refine Eq.trans (o_aload_n d_Md_spread_39 rfl) ?_
    refine Eq.trans (o_iload_n d_Md_spread_40 rfl) ?_
    refine s_zald d_Md_spread_41 (rM_25 r) h (fun x5 h => ?_)
    refine s_if_ne (t := 165) d_Md_spread_42 (by decide) h (fun h => ?_) (fun h => ?_)
    · refine Eq.trans (o_goto (t := 12) d_Md_spread_165 (by decide)) ?_
      exact ih_12 _ _ _ _ _ (s_jump h hE)
    · refine Eq.trans (o_aload_n d_Md_spread_45 rfl) ?_
      refine Eq.trans (o_iload_n d_Md_spread_46 rfl) ?_
      refine Eq.trans (o_iconst (v := 1) d_Md_spread_47 (by decide)) ?_
      refine s_zast d_Md_spread_48 (rM_25 r) h (fun T h => ?_)
      refine Eq.trans (o_aload_n d_Md_spread_49 rfl) ?_
      refine s_ref d_Md_spread_50 pF_Md_58 (zM_Md_code r) ?_
      refine Eq.trans (o_iload_n d_Md_spread_53 rfl) ?_
      refine s_iald d_Md_spread_54 (rM_15 r) h (fun x6 h => ?_)
      refine Eq.trans (o_iconst (v := 1) d_Md_spread_55 (by decide)) ?_
      refine s_icmp_ne (t := 104) d_Md_spread_56 (by decide) h (fun h => ?_) (fun h => ?_)
      · refine Eq.trans (o_aload_n d_Md_spread_104 rfl) ?_
        refine s_ref d_Md_spread_105 pF_Md_58 (zM_Md_code r) ?_
        refine Eq.trans (o_iload_n d_Md_spread_108 rfl) ?_
        refine s_iald d_Md_spread_109 (rM_15 r) h (fun x7 h => ?_)
        refine Eq.trans (o_iconst (v := 2) d_Md_spread_110 (by decide)) ?_
        refine s_icmp_eq (t := 124) d_Md_spread_111 (by decide) h (fun h => ?_) (fun h => ?_)
        · exact c_Md_spreadT_124 D hD r n ih_12 _ _ _ _ _ _ _ h hE
        · refine Eq.trans (o_aload_n d_Md_spread_114 rfl) ?_
          refine s_ref d_Md_spread_115 pF_Md_58 (zM_Md_code r) ?_
          refine Eq.trans (o_iload_n d_Md_spread_118 rfl) ?_
          refine s_iald d_Md_spread_119 (rM_15 r) h (fun x8 h => ?_)
          refine Eq.trans (o_iconst (v := 3) d_Md_spread_120 (by decide)) ?_
          refine s_icmp_ne (t := 165) d_Md_spread_121 (by decide) h (fun h => ?_) (fun h => ?_)
          · refine Eq.trans (o_goto (t := 12) d_Md_spread_165 (by decide)) ?_
            exact ih_12 _ _ _ _ _ (s_jump h hE)
          · exact c_Md_spreadT_124 D hD r n ih_12 _ _ _ _ _ _ _ h hE
      · refine Eq.trans (o_aload_n d_Md_spread_59 rfl) ?_
        refine s_ref d_Md_spread_60 pF_Md_91 (zM_Md_pile r) ?_
        refine Eq.trans (o_aload_n d_Md_spread_63 rfl) ?_
        refine s_get d_Md_spread_64 pF_Md_240 (zM_Md_piled r) h (fun x9 h => ?_)
        refine Eq.trans (o_aload_n d_Md_spread_67 rfl) ?_
        refine s_ref d_Md_spread_68 pF_Md_64 (zM_Md_y r) ?_
        refine Eq.trans (o_iload_n d_Md_spread_71 rfl) ?_
        refine s_iald d_Md_spread_72 (rM_17 r) h (fun x10 h => ?_)
        refine s_iast d_Md_spread_73 (rM_26 r) h (fun T h => ?_)
        refine Eq.trans (o_aload_n d_Md_spread_74 rfl) ?_
        refine s_ref d_Md_spread_75 pF_Md_91 (zM_Md_pile r) ?_
        refine Eq.trans (o_aload_n d_Md_spread_78 rfl) ?_
        refine s_get d_Md_spread_79 pF_Md_240 (zM_Md_piled r) h (fun x11 h => ?_)
        refine Eq.trans (o_iconst (v := 1) d_Md_spread_82 (by decide)) ?_
        refine Eq.trans (o_iadd d_Md_spread_83) ?_
        refine Eq.trans (o_aload_n d_Md_spread_84 rfl) ?_
        refine s_ref d_Md_spread_85 pF_Md_61 (zM_Md_x r) ?_
        refine Eq.trans (o_iload_n d_Md_spread_88 rfl) ?_
        refine s_iald d_Md_spread_89 (rM_16 r) h (fun x12 h => ?_)
        refine s_iast d_Md_spread_90 (rM_26 r) h (fun T h => ?_)
        refine Eq.trans (o_aload_n d_Md_spread_91 rfl) ?_
        refine Eq.trans (o_dup d_Md_spread_92 rfl) ?_
        refine s_get d_Md_spread_93 pF_Md_240 (zM_Md_piled r) h (fun x13 h => ?_)
        refine Eq.trans (o_iconst (v := 2) d_Md_spread_96 (by decide)) ?_
        refine Eq.trans (o_iadd d_Md_spread_97) ?_
        refine s_put d_Md_spread_98 pF_Md_240 (zM_Md_piled r) h (fun T h => ?_)
        refine Eq.trans (o_goto (t := 165) d_Md_spread_101 (by decide)) ?_
        refine Eq.trans (o_goto (t := 12) d_Md_spread_165 (by decide)) ?_
        exact ih_12 _ _ _ _ _ (s_jump h hE)
set_option maxRecDepth 100000 in
set_option maxHeartbeats 4000000 in
theorem c_Md_spreadT_0 (D : Nat) (hD : 0 ≤ D) (r : Nat) (n : Nat) (ih_12 : ∀  (e2 : Option Value) (e3 : Option Value) (T T2 : qT) (v : Unit), w_run b_Md_spreadT n (12, [], []) T = some (v, T2) → q_out (q_ev q_Mt D) q_mMd_spread (12, [some (.ref (r + 0)), some (.ref (r + 25)), e2, e3], [], layM r T) = some (.inl (none), layM r T2)) (a2 : Int32)  (T T1 T2 : qT) (rr : qJ ⊕ Unit) (v : Unit) (h : k_Md_spreadT_0 a2 T = some (rr, T1)) (hE : w_end b_Md_spreadT n rr T1 = some (v, T2)) : q_out (q_ev q_Mt D) q_mMd_spread (0, [some (.ref (r + 0)), some (.ref (r + 25)), some (.int a2), none], [], layM r T) = some (.inl (none), layM r T2) := by
  unfold k_Md_spreadT_0 at h
  refine Eq.trans (o_aload_n d_Md_spread_0 rfl) ?_
  refine Eq.trans (o_iconst (v := 1) d_Md_spread_1 (by decide)) ?_
  refine s_put d_Md_spread_2 pF_Md_240 (zM_Md_piled r) h (fun T h => ?_)
  refine Eq.trans (o_aload_n d_Md_spread_5 rfl) ?_
  refine s_ref d_Md_spread_6 pF_Md_91 (zM_Md_pile r) ?_
  refine Eq.trans (o_iconst (v := 0) d_Md_spread_9 (by decide)) ?_
  refine Eq.trans (o_iload_n d_Md_spread_10 rfl) ?_
  refine s_iast d_Md_spread_11 (rM_26 r) h (fun T h => ?_)
  exact ih_12 _ _ _ _ _ (s_jump h hE)
theorem c_Md_spreadT_lp (D : Nat) (hD : 0 ≤ D) (r : Nat) : ∀ n : Nat, (∀  (e2 : Option Value) (e3 : Option Value) (T T2 : qT) (v : Unit), w_run b_Md_spreadT n (12, [], []) T = some (v, T2) → q_out (q_ev q_Mt D) q_mMd_spread (12, [some (.ref (r + 0)), some (.ref (r + 25)), e2, e3], [], layM r T) = some (.inl (none), layM r T2)) := by
  intro n
  induction n with
  | zero => exact (fun e2 e3 T T2 v h => by cases h)
  | succ n ih =>
    have ih_12 := ih
    · intro e2 e3 T T2 v h
      obtain ⟨rr, T1, hb, hE⟩ := w_run_succ h
      exact c_Md_spreadT_12 D hD r n ih_12 e2 e3 T T1 T2 rr v hb hE
theorem c_Md_spreadT (D : Nat) (hD : 1 ≤ D) (r : Nat) (a2 : Int32) (T T2 : qT) (v : Unit) (h : f_Md_spreadT a2 T = some (v, T2)) : q_ev q_Mt D 115 [.ref (r + 0), .ref (r + 25), .int a2] (layM r T) = some (.inl (none), layM r T2) := by
  obtain ⟨D, rfl⟩ : ∃ D', D = D' + 1 := ⟨D - 1, by omega⟩
  obtain ⟨n, hn⟩ := w_fix_iff.mp h
  cases n with
  | zero => cases hn
  | succ n =>
    obtain ⟨rr, T1, hb, hE⟩ := w_run_succ hn
    have hl := c_Md_spreadT_lp D (by omega) r n
    have ih_12 := hl
    rw [o_ev (M := q_mMd_spread) (lo := [some (.ref (r + 0)), some (.ref (r + 25)), some (.int a2), none]) rfl (Nat.le_of_ble_eq_true rfl) rfl]
    exact c_Md_spreadT_0 D (by omega) r n ih_12 a2 T T1 T2 rr v hb hE
noncomputable def k_Md_step_79 (v2 : Int32) : qW (qJ ⊕ Unit) :=
  w_S 22 fun x1 =>
  w_if (x1 ≤ v2) (
    w_rt ()) (
    w_A 25 160 v2 fun x2 =>
    w_a 24 160 v2 ((vp_nar .boolean x2)) <|
    w_go 79 [.int (v2 + 1)] [])
noncomputable def k_Md_step_25 (v1 : Int32) (v2 : Int32) : qW (qJ ⊕ Unit) :=
  w_S 22 fun x1 =>
  w_if (x1 ≤ v2) (
    w_go 79 [.int 0] []) (
    w_A 24 160 v2 fun x2 =>
    w_if (x2 = 0) (
      w_go 25 [.int v1, .int (v2 + 1)] []) (
      w_A 15 160 v2 fun x3 =>
      w_if (¬ x3 = 0) (
        w_go 25 [.int v1, .int (v2 + 1)] []) (
        w_C (f_Md_takes v2 v1) fun x4 =>
        w_if (x4 = 0) (
          w_go 25 [.int v1, .int (v2 + 1)] []) (
          w_C (f_Md_spreadT ((v2 + 1))) fun _ =>
          w_go 25 [.int v1, .int (v2 + 1)] []))))
noncomputable def k_Md_step_2 (v1 : Int32) (v2 : Int32) : qW (qJ ⊕ Unit) :=
  w_S 22 fun x1 =>
  w_if (x1 ≤ v2) (
    w_go 25 [.int v1, .int 0] []) (
    w_a 25 160 v2 ((vp_nar .boolean 0)) <|
    w_go 2 [.int v1, .int (v2 + 1)] [])
noncomputable def k_Md_step_0 (a1 : Int32) : qW (qJ ⊕ Unit) :=
  w_go 2 [.int a1, .int 0] []
noncomputable def b_Md_step : qJ → qW (qJ ⊕ Unit) := fun x => match x with
  | (0, [.int a1], []) => k_Md_step_0 a1
  | (2, [.int v1, .int v2], []) => k_Md_step_2 v1 v2
  | (25, [.int v1, .int v2], []) => k_Md_step_25 v1 v2
  | (79, [.int v2], []) => k_Md_step_79 v2
  | _ => w_no
noncomputable def f_Md_step (a1 : Int32) : qW Unit := w_fix b_Md_step (0, [.int a1], [])
set_option maxRecDepth 100000 in
set_option maxHeartbeats 4000000 in
theorem c_Md_step_79 (D : Nat) (hD : 2 ≤ D) (r : Nat) (n : Nat) (ih_2 : ∀ (v1 : Int32) (v2 : Int32)  (T T2 : qT) (v : Unit), w_run b_Md_step n (2, [.int v1, .int v2], []) T = some (v, T2) → q_out (q_ev q_Mt D) q_mMd_step (2, [some (.ref (r + 0)), some (.int v1), some (.int v2)], [], layM r T) = some (.inl (none), layM r T2)) (ih_25 : ∀ (v1 : Int32) (v2 : Int32)  (T T2 : qT) (v : Unit), w_run b_Md_step n (25, [.int v1, .int v2], []) T = some (v, T2) → q_out (q_ev q_Mt D) q_mMd_step (25, [some (.ref (r + 0)), some (.int v1), some (.int v2)], [], layM r T) = some (.inl (none), layM r T2)) (ih_79 : ∀ (v2 : Int32) (e1 : Option Value) (T T2 : qT) (v : Unit), w_run b_Md_step n (79, [.int v2], []) T = some (v, T2) → q_out (q_ev q_Mt D) q_mMd_step (79, [some (.ref (r + 0)), e1, some (.int v2)], [], layM r T) = some (.inl (none), layM r T2)) (v2 : Int32) (e1 : Option Value) (T T1 T2 : qT) (rr : qJ ⊕ Unit) (v : Unit) (h : k_Md_step_79 v2 T = some (rr, T1)) (hE : w_end b_Md_step n rr T1 = some (v, T2)) : q_out (q_ev q_Mt D) q_mMd_step (79, [some (.ref (r + 0)), e1, some (.int v2)], [], layM r T) = some (.inl (none), layM r T2) := by
  unfold k_Md_step_79 at h
  refine Eq.trans (o_iload_n d_Md_step_79 rfl) ?_
  refine Eq.trans (o_aload_n d_Md_step_80 rfl) ?_
  refine s_get d_Md_step_81 pF_Md_109 (zM_Md_length r) h (fun x1 h => ?_)
  refine s_icmp_ge (t := 105) d_Md_step_84 (by decide) h (fun h => ?_) (fun h => ?_)
  · exact s_vretJ d_Md_step_105 rfl h hE
  · refine Eq.trans (o_aload_n d_Md_step_87 rfl) ?_
    refine s_ref d_Md_step_88 pF_Md_85 (zM_Md_here r) ?_
    refine Eq.trans (o_iload_n d_Md_step_91 rfl) ?_
    refine Eq.trans (o_aload_n d_Md_step_92 rfl) ?_
    refine s_ref d_Md_step_93 pF_Md_88 (zM_Md_there r) ?_
    refine Eq.trans (o_iload_n d_Md_step_96 rfl) ?_
    refine s_zald d_Md_step_97 (rM_25 r) h (fun x2 h => ?_)
    refine s_zast d_Md_step_98 (rM_24 r) h (fun T h => ?_)
    refine Eq.trans (o_iinc (v := (v2 + 1)) (lo' := [some (.ref (r + 0)), (q_dk e1), some (.int (v2 + 1))]) d_Md_step_99 rfl (by rw [show Int32.ofInt 1 = 1 from by decide]) (Nat.le_of_ble_eq_true rfl) ((q_st1_dk (j := 1) (Nat.le_of_ble_eq_true rfl)).trans rfl)) ?_
    refine Eq.trans (o_goto (t := 79) d_Md_step_102 (by decide)) ?_
    exact ih_79 _ _ _ _ _ (s_jump h hE)
set_option maxRecDepth 100000 in
set_option maxHeartbeats 4000000 in
theorem c_Md_step_25 (D : Nat) (hD : 2 ≤ D) (r : Nat) (n : Nat) (ih_2 : ∀ (v1 : Int32) (v2 : Int32)  (T T2 : qT) (v : Unit), w_run b_Md_step n (2, [.int v1, .int v2], []) T = some (v, T2) → q_out (q_ev q_Mt D) q_mMd_step (2, [some (.ref (r + 0)), some (.int v1), some (.int v2)], [], layM r T) = some (.inl (none), layM r T2)) (ih_25 : ∀ (v1 : Int32) (v2 : Int32)  (T T2 : qT) (v : Unit), w_run b_Md_step n (25, [.int v1, .int v2], []) T = some (v, T2) → q_out (q_ev q_Mt D) q_mMd_step (25, [some (.ref (r + 0)), some (.int v1), some (.int v2)], [], layM r T) = some (.inl (none), layM r T2)) (ih_79 : ∀ (v2 : Int32) (e1 : Option Value) (T T2 : qT) (v : Unit), w_run b_Md_step n (79, [.int v2], []) T = some (v, T2) → q_out (q_ev q_Mt D) q_mMd_step (79, [some (.ref (r + 0)), e1, some (.int v2)], [], layM r T) = some (.inl (none), layM r T2)) (v1 : Int32) (v2 : Int32)  (T T1 T2 : qT) (rr : qJ ⊕ Unit) (v : Unit) (h : k_Md_step_25 v1 v2 T = some (rr, T1)) (hE : w_end b_Md_step n rr T1 = some (v, T2)) : q_out (q_ev q_Mt D) q_mMd_step (25, [some (.ref (r + 0)), some (.int v1), some (.int v2)], [], layM r T) = some (.inl (none), layM r T2) := by
  unfold k_Md_step_25 at h
  refine Eq.trans (o_iload_n d_Md_step_25 rfl) ?_
  refine Eq.trans (o_aload_n d_Md_step_26 rfl) ?_
  refine s_get d_Md_step_27 pF_Md_109 (zM_Md_length r) h (fun x1 h => ?_)
  refine s_icmp_ge (t := 77) d_Md_step_30 (by decide) h (fun h => ?_) (fun h => ?_)
  · refine Eq.trans (o_iconst (v := 0) d_Md_step_77 (by decide)) ?_
    refine Eq.trans (o_istore_n (lo' := [some (.ref (r + 0)), some (.int v1), some (.int 0)]) d_Md_step_78 (Nat.le_of_ble_eq_true rfl) rfl) ?_
    exact ih_79 _ _ _ _ _ (s_jump h hE)
  · refine Eq.trans (o_aload_n d_Md_step_33 rfl) ?_
    refine s_ref d_Md_step_34 pF_Md_85 (zM_Md_here r) ?_
    refine Eq.trans (o_iload_n d_Md_step_37 rfl) ?_
    refine s_zald d_Md_step_38 (rM_24 r) h (fun x2 h => ?_)
    refine s_if_eq (t := 71) d_Md_step_39 (by decide) h (fun h => ?_) (fun h => ?_)
    · refine Eq.trans (o_iinc (v := (v2 + 1)) (lo' := [some (.ref (r + 0)), some (.int v1), some (.int (v2 + 1))]) d_Md_step_71 rfl (by rw [show Int32.ofInt 1 = 1 from by decide]) (Nat.le_of_ble_eq_true rfl) rfl) ?_
      refine Eq.trans (o_goto (t := 25) d_Md_step_74 (by decide)) ?_
      exact ih_25 _ _ _ _ _ (s_jump h hE)
    · refine Eq.trans (o_aload_n d_Md_step_42 rfl) ?_
      refine s_ref d_Md_step_43 pF_Md_58 (zM_Md_code r) ?_
      refine Eq.trans (o_iload_n d_Md_step_46 rfl) ?_
      refine s_iald d_Md_step_47 (rM_15 r) h (fun x3 h => ?_)
      refine s_if_ne (t := 71) d_Md_step_48 (by decide) h (fun h => ?_) (fun h => ?_)
      · refine Eq.trans (o_iinc (v := (v2 + 1)) (lo' := [some (.ref (r + 0)), some (.int v1), some (.int (v2 + 1))]) d_Md_step_71 rfl (by rw [show Int32.ofInt 1 = 1 from by decide]) (Nat.le_of_ble_eq_true rfl) rfl) ?_
        refine Eq.trans (o_goto (t := 25) d_Md_step_74 (by decide)) ?_
        exact ih_25 _ _ _ _ _ (s_jump h hE)
      · refine Eq.trans (o_aload_n d_Md_step_51 rfl) ?_
        refine Eq.trans (o_iload_n d_Md_step_52 rfl) ?_
        refine Eq.trans (o_iload_n d_Md_step_53 rfl) ?_
        obtain ⟨x4, T2, h1, h⟩ := w_C_of h
        refine s_cV2i d_Md_step_54 pM_Md_228 (Nat.le_of_ble_eq_true rfl) (obM_0 r) (c_Md_takes D (by omega) r _ _ _ _ _ h1) ?_
        replace h1 := trivial; revert h; generalize T2 = T; intro h
        refine s_if_eq (t := 71) d_Md_step_57 (by decide) h (fun h => ?_) (fun h => ?_)
        · refine Eq.trans (o_iinc (v := (v2 + 1)) (lo' := [some (.ref (r + 0)), some (.int v1), some (.int (v2 + 1))]) d_Md_step_71 rfl (by rw [show Int32.ofInt 1 = 1 from by decide]) (Nat.le_of_ble_eq_true rfl) rfl) ?_
          refine Eq.trans (o_goto (t := 25) d_Md_step_74 (by decide)) ?_
          exact ih_25 _ _ _ _ _ (s_jump h hE)
        · refine Eq.trans (o_aload_n d_Md_step_60 rfl) ?_
          refine Eq.trans (o_aload_n d_Md_step_61 rfl) ?_
          refine s_ref d_Md_step_62 pF_Md_88 (zM_Md_there r) ?_
          refine Eq.trans (o_iload_n d_Md_step_65 rfl) ?_
          refine Eq.trans (o_iconst (v := 1) d_Md_step_66 (by decide)) ?_
          refine Eq.trans (o_iadd d_Md_step_67) ?_
          obtain ⟨u9, T2, h1, h⟩ := w_C_of h
          refine s_cV2v d_Md_step_68 pM_Md_249 (Nat.le_of_ble_eq_true rfl) (obM_0 r) (c_Md_spreadT D (by omega) r _ _ _ _ h1) ?_
          replace h1 := trivial; revert h; generalize T2 = T; intro h
          refine Eq.trans (o_iinc (v := (v2 + 1)) (lo' := [some (.ref (r + 0)), some (.int v1), some (.int (v2 + 1))]) d_Md_step_71 rfl (by rw [show Int32.ofInt 1 = 1 from by decide]) (Nat.le_of_ble_eq_true rfl) rfl) ?_
          refine Eq.trans (o_goto (t := 25) d_Md_step_74 (by decide)) ?_
          exact ih_25 _ _ _ _ _ (s_jump h hE)
set_option maxRecDepth 100000 in
set_option maxHeartbeats 4000000 in
theorem c_Md_step_2 (D : Nat) (hD : 2 ≤ D) (r : Nat) (n : Nat) (ih_2 : ∀ (v1 : Int32) (v2 : Int32)  (T T2 : qT) (v : Unit), w_run b_Md_step n (2, [.int v1, .int v2], []) T = some (v, T2) → q_out (q_ev q_Mt D) q_mMd_step (2, [some (.ref (r + 0)), some (.int v1), some (.int v2)], [], layM r T) = some (.inl (none), layM r T2)) (ih_25 : ∀ (v1 : Int32) (v2 : Int32)  (T T2 : qT) (v : Unit), w_run b_Md_step n (25, [.int v1, .int v2], []) T = some (v, T2) → q_out (q_ev q_Mt D) q_mMd_step (25, [some (.ref (r + 0)), some (.int v1), some (.int v2)], [], layM r T) = some (.inl (none), layM r T2)) (ih_79 : ∀ (v2 : Int32) (e1 : Option Value) (T T2 : qT) (v : Unit), w_run b_Md_step n (79, [.int v2], []) T = some (v, T2) → q_out (q_ev q_Mt D) q_mMd_step (79, [some (.ref (r + 0)), e1, some (.int v2)], [], layM r T) = some (.inl (none), layM r T2)) (v1 : Int32) (v2 : Int32)  (T T1 T2 : qT) (rr : qJ ⊕ Unit) (v : Unit) (h : k_Md_step_2 v1 v2 T = some (rr, T1)) (hE : w_end b_Md_step n rr T1 = some (v, T2)) : q_out (q_ev q_Mt D) q_mMd_step (2, [some (.ref (r + 0)), some (.int v1), some (.int v2)], [], layM r T) = some (.inl (none), layM r T2) := by
  unfold k_Md_step_2 at h
  refine Eq.trans (o_iload_n d_Md_step_2 rfl) ?_
  refine Eq.trans (o_aload_n d_Md_step_3 rfl) ?_
  refine s_get d_Md_step_4 pF_Md_109 (zM_Md_length r) h (fun x1 h => ?_)
  refine s_icmp_ge (t := 23) d_Md_step_7 (by decide) h (fun h => ?_) (fun h => ?_)
  · refine Eq.trans (o_iconst (v := 0) d_Md_step_23 (by decide)) ?_
    refine Eq.trans (o_istore_n (lo' := [some (.ref (r + 0)), some (.int v1), some (.int 0)]) d_Md_step_24 (Nat.le_of_ble_eq_true rfl) rfl) ?_
    exact ih_25 _ _ _ _ _ (s_jump h hE)
  · refine Eq.trans (o_aload_n d_Md_step_10 rfl) ?_
    refine s_ref d_Md_step_11 pF_Md_88 (zM_Md_there r) ?_
    refine Eq.trans (o_iload_n d_Md_step_14 rfl) ?_
    refine Eq.trans (o_iconst (v := 0) d_Md_step_15 (by decide)) ?_
    refine s_zast d_Md_step_16 (rM_25 r) h (fun T h => ?_)
    refine Eq.trans (o_iinc (v := (v2 + 1)) (lo' := [some (.ref (r + 0)), some (.int v1), some (.int (v2 + 1))]) d_Md_step_17 rfl (by rw [show Int32.ofInt 1 = 1 from by decide]) (Nat.le_of_ble_eq_true rfl) rfl) ?_
    refine Eq.trans (o_goto (t := 2) d_Md_step_20 (by decide)) ?_
    exact ih_2 _ _ _ _ _ (s_jump h hE)
set_option maxRecDepth 100000 in
set_option maxHeartbeats 4000000 in
theorem c_Md_step_0 (D : Nat) (hD : 2 ≤ D) (r : Nat) (n : Nat) (ih_2 : ∀ (v1 : Int32) (v2 : Int32)  (T T2 : qT) (v : Unit), w_run b_Md_step n (2, [.int v1, .int v2], []) T = some (v, T2) → q_out (q_ev q_Mt D) q_mMd_step (2, [some (.ref (r + 0)), some (.int v1), some (.int v2)], [], layM r T) = some (.inl (none), layM r T2)) (ih_25 : ∀ (v1 : Int32) (v2 : Int32)  (T T2 : qT) (v : Unit), w_run b_Md_step n (25, [.int v1, .int v2], []) T = some (v, T2) → q_out (q_ev q_Mt D) q_mMd_step (25, [some (.ref (r + 0)), some (.int v1), some (.int v2)], [], layM r T) = some (.inl (none), layM r T2)) (ih_79 : ∀ (v2 : Int32) (e1 : Option Value) (T T2 : qT) (v : Unit), w_run b_Md_step n (79, [.int v2], []) T = some (v, T2) → q_out (q_ev q_Mt D) q_mMd_step (79, [some (.ref (r + 0)), e1, some (.int v2)], [], layM r T) = some (.inl (none), layM r T2)) (a1 : Int32)  (T T1 T2 : qT) (rr : qJ ⊕ Unit) (v : Unit) (h : k_Md_step_0 a1 T = some (rr, T1)) (hE : w_end b_Md_step n rr T1 = some (v, T2)) : q_out (q_ev q_Mt D) q_mMd_step (0, [some (.ref (r + 0)), some (.int a1), none], [], layM r T) = some (.inl (none), layM r T2) := by
  unfold k_Md_step_0 at h
  refine Eq.trans (o_iconst (v := 0) d_Md_step_0 (by decide)) ?_
  refine Eq.trans (o_istore_n (lo' := [some (.ref (r + 0)), some (.int a1), some (.int 0)]) d_Md_step_1 (Nat.le_of_ble_eq_true rfl) rfl) ?_
  exact ih_2 _ _ _ _ _ (s_jump h hE)
theorem c_Md_step_lp (D : Nat) (hD : 2 ≤ D) (r : Nat) : ∀ n : Nat, (∀ (v1 : Int32) (v2 : Int32)  (T T2 : qT) (v : Unit), w_run b_Md_step n (2, [.int v1, .int v2], []) T = some (v, T2) → q_out (q_ev q_Mt D) q_mMd_step (2, [some (.ref (r + 0)), some (.int v1), some (.int v2)], [], layM r T) = some (.inl (none), layM r T2)) ∧ (∀ (v1 : Int32) (v2 : Int32)  (T T2 : qT) (v : Unit), w_run b_Md_step n (25, [.int v1, .int v2], []) T = some (v, T2) → q_out (q_ev q_Mt D) q_mMd_step (25, [some (.ref (r + 0)), some (.int v1), some (.int v2)], [], layM r T) = some (.inl (none), layM r T2)) ∧ (∀ (v2 : Int32) (e1 : Option Value) (T T2 : qT) (v : Unit), w_run b_Md_step n (79, [.int v2], []) T = some (v, T2) → q_out (q_ev q_Mt D) q_mMd_step (79, [some (.ref (r + 0)), e1, some (.int v2)], [], layM r T) = some (.inl (none), layM r T2)) := by
  intro n
  induction n with
  | zero => exact ⟨(fun v1 v2 T T2 v h => by cases h), (fun v1 v2 T T2 v h => by cases h), (fun v2 e1 T T2 v h => by cases h)⟩
  | succ n ih =>
    obtain ⟨ih_2, ih_25, ih_79⟩ := ih
    refine ⟨?_, ?_, ?_⟩
    · intro v1 v2 T T2 v h
      obtain ⟨rr, T1, hb, hE⟩ := w_run_succ h
      exact c_Md_step_2 D hD r n ih_2 ih_25 ih_79 v1 v2 T T1 T2 rr v hb hE
    · intro v1 v2 T T2 v h
      obtain ⟨rr, T1, hb, hE⟩ := w_run_succ h
      exact c_Md_step_25 D hD r n ih_2 ih_25 ih_79 v1 v2 T T1 T2 rr v hb hE
    · intro v2 e1 T T2 v h
      obtain ⟨rr, T1, hb, hE⟩ := w_run_succ h
      exact c_Md_step_79 D hD r n ih_2 ih_25 ih_79 v2 e1 T T1 T2 rr v hb hE
theorem c_Md_step (D : Nat) (hD : 3 ≤ D) (r : Nat) (a1 : Int32) (T T2 : qT) (v : Unit) (h : f_Md_step a1 T = some (v, T2)) : q_ev q_Mt D 118 [.ref (r + 0), .int a1] (layM r T) = some (.inl (none), layM r T2) := by
  obtain ⟨D, rfl⟩ : ∃ D', D = D' + 1 := ⟨D - 1, by omega⟩
  obtain ⟨n, hn⟩ := w_fix_iff.mp h
  cases n with
  | zero => cases hn
  | succ n =>
    obtain ⟨rr, T1, hb, hE⟩ := w_run_succ hn
    have hl := c_Md_step_lp D (by omega) r n
    obtain ⟨ih_2, ih_25, ih_79⟩ := hl
    rw [o_ev (M := q_mMd_step) (lo := [some (.ref (r + 0)), some (.int a1), none]) rfl (Nat.le_of_ble_eq_true rfl) rfl]
    exact c_Md_step_0 D (by omega) r n ih_2 ih_25 ih_79 a1 T T1 T2 rr v hb hE
