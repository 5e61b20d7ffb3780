noncomputable def f_Md_thrown  : qW Int32 :=
  w_S 0 fun x1 =>
  w_ret .int x1
set_option maxRecDepth 100000 in
set_option maxHeartbeats 4000000 in
theorem c_Md_thrown_0 (D : Nat) (hD : 0 ≤ D) (r : Nat)   (T T1 : qT) (v : Int32) (h : f_Md_thrown T = some (v, T1)) : q_out (q_ev q_Mt D) q_mMd_thrown (0, [some (.ref (r + 0))], [], layM r T) = some (.inl (some (.int v)), layM r T1) := by
  unfold f_Md_thrown at h
  refine Eq.trans (o_aload_n d_Md_thrown_0 rfl) ?_
  refine s_get d_Md_thrown_1 pF_Md_103 (zM_Md_thrown r) h (fun x1 h => ?_)
  exact s_iret d_Md_thrown_4 rfl h
theorem c_Md_thrown (D : Nat) (hD : 1 ≤ D) (r : Nat)  (T T1 : qT) (v : Int32) (h : f_Md_thrown  T = some (v, T1)) : q_ev q_Mt D 76 [.ref (r + 0)] (layM r T) = some (.inl (some (.int v)), layM r T1) := by
  obtain ⟨D, rfl⟩ : ∃ D', D = D' + 1 := ⟨D - 1, by omega⟩
  rw [o_ev (M := q_mMd_thrown) (lo := [some (.ref (r + 0))]) rfl (Nat.le_of_ble_eq_true rfl) rfl]
  exact c_Md_thrown_0 D (by omega) r  T T1 v h
noncomputable def f_Md_pattern (a1 : Int32) : qW Int32 :=
  w_s 0 0 <|
  w_if (a1 < 32) (
    w_ret .boolean 0) (
    w_if (126 < a1) (
      w_ret .boolean 0) (
      w_S 1 fun x1 =>
      w_if (x1 = 48) (
        w_ret .boolean 0) (
        w_S 22 fun x2 =>
        w_if (x2 ≤ 0) (
          w_S 1 fun x3 =>
          w_a 1 48 x3 ((vp_nar .char a1)) <|
          w_S 1 fun x4 =>
          w_s 1 ((x4 + 1)) <|
          w_ret .boolean 1) (
          w_ret .boolean 0))))
set_option maxRecDepth 100000 in
set_option maxHeartbeats 4000000 in
theorem c_Md_pattern_0 (D : Nat) (hD : 0 ≤ D) (r : Nat) (a1 : Int32)  (T T1 : qT) (v : Int32) (h : f_Md_pattern a1 T = some (v, T1)) : q_out (q_ev q_Mt D) q_mMd_pattern (0, [some (.ref (r + 0)), some (.int a1)], [], layM r T) = some (.inl (some (.int v)), layM r T1) := by
  unfold f_Md_pattern at h
  refine Eq.trans (o_aload_n d_Md_pattern_0 rfl) ?_
  refine Eq.trans (o_iconst (v := 0) d_Md_pattern_1 (by decide)) ?_
  refine s_put d_Md_pattern_2 pF_Md_103 (zM_Md_thrown r) h (fun T h => ?_)
  refine Eq.trans (o_iload_n d_Md_pattern_5 rfl) ?_
  refine Eq.trans (o_bipush (v := 32) d_Md_pattern_6 (by decide)) ?_
  refine s_icmp_lt (t := 33) d_Md_pattern_8 (by decide) h (fun h => ?_) (fun h => ?_)
  · refine Eq.trans (o_iconst (v := 0) d_Md_pattern_33 (by decide)) ?_
    exact s_iret d_Md_pattern_34 rfl h
  · refine Eq.trans (o_iload_n d_Md_pattern_11 rfl) ?_
    refine Eq.trans (o_bipush (v := 126) d_Md_pattern_12 (by decide)) ?_
    refine s_icmp_gt (t := 33) d_Md_pattern_14 (by decide) h (fun h => ?_) (fun h => ?_)
    · refine Eq.trans (o_iconst (v := 0) d_Md_pattern_33 (by decide)) ?_
      exact s_iret d_Md_pattern_34 rfl h
    · refine Eq.trans (o_aload_n d_Md_pattern_17 rfl) ?_
      refine s_get d_Md_pattern_18 pF_Md_106 (zM_Md_size r) h (fun x1 h => ?_)
      refine Eq.trans (o_bipush (v := 48) d_Md_pattern_21 (by decide)) ?_
      refine s_icmp_eq (t := 33) d_Md_pattern_23 (by decide) h (fun h => ?_) (fun h => ?_)
      · refine Eq.trans (o_iconst (v := 0) d_Md_pattern_33 (by decide)) ?_
        exact s_iret d_Md_pattern_34 rfl h
      · refine Eq.trans (o_aload_n d_Md_pattern_26 rfl) ?_
        refine s_get d_Md_pattern_27 pF_Md_109 (zM_Md_length r) h (fun x2 h => ?_)
        refine s_if_le (t := 35) d_Md_pattern_30 (by decide) h (fun h => ?_) (fun h => ?_)
        · refine Eq.trans (o_aload_n d_Md_pattern_35 rfl) ?_
          refine s_ref d_Md_pattern_36 pF_Md_7 (zM_Md_text r) ?_
          refine Eq.trans (o_aload_n d_Md_pattern_39 rfl) ?_
          refine s_get d_Md_pattern_40 pF_Md_106 (zM_Md_size r) h (fun x3 h => ?_)
          refine Eq.trans (o_iload_n d_Md_pattern_43 rfl) ?_
          refine s_cast d_Md_pattern_44 (rM_1 r) h (fun T h => ?_)
          refine Eq.trans (o_aload_n d_Md_pattern_45 rfl) ?_
          refine Eq.trans (o_dup d_Md_pattern_46 rfl) ?_
          refine s_get d_Md_pattern_47 pF_Md_106 (zM_Md_size r) h (fun x4 h => ?_)
          refine Eq.trans (o_iconst (v := 1) d_Md_pattern_50 (by decide)) ?_
          refine Eq.trans (o_iadd d_Md_pattern_51) ?_
          refine s_put d_Md_pattern_52 pF_Md_106 (zM_Md_size r) h (fun T h => ?_)
          refine Eq.trans (o_iconst (v := 1) d_Md_pattern_55 (by decide)) ?_
          exact s_iret d_Md_pattern_56 rfl h
        · refine Eq.trans (o_iconst (v := 0) d_Md_pattern_33 (by decide)) ?_
          exact s_iret d_Md_pattern_34 rfl h
theorem c_Md_pattern (D : Nat) (hD : 1 ≤ D) (r : Nat) (a1 : Int32) (T T1 : qT) (v : Int32) (h : f_Md_pattern a1 T = some (v, T1)) : q_ev q_Mt D 77 [.ref (r + 0), .int a1] (layM r T) = some (.inl (some (.int v)), layM r T1) := by
  obtain ⟨D, rfl⟩ : ∃ D', D = D' + 1 := ⟨D - 1, by omega⟩
  rw [o_ev (M := q_mMd_pattern) (lo := [some (.ref (r + 0)), some (.int a1)]) rfl (Nat.le_of_ble_eq_true rfl) rfl]
  exact c_Md_pattern_0 D (by omega) r a1 T T1 v h
noncomputable def f_Md_later (a1 : Int32) (a2 : Int32) : qW Unit :=
  w_A 10 220 a1 fun x1 =>
  w_if (x1 ≤ 0) (
    w_pure ()) (
    w_S 26 fun x2 =>
    w_a 18 800 x2 a1 <|
    w_S 26 fun x3 =>
    w_a 19 800 x3 a2 <|
    w_S 26 fun x4 =>
    w_s 26 ((x4 + 1)) <|
    w_pure ())
set_option maxRecDepth 100000 in
set_option maxHeartbeats 4000000 in
theorem c_Md_later_0 (D : Nat) (hD : 0 ≤ D) (r : Nat) (a1 : Int32) (a2 : Int32)  (T T1 : qT) (v : Unit) (h : f_Md_later a1 a2 T = some (v, T1)) : q_out (q_ev q_Mt D) q_mMd_later (0, [some (.ref (r + 0)), some (.int a1), some (.int a2)], [], layM r T) = some (.inl (none), layM r T1) := by
  unfold f_Md_later at h
  refine Eq.trans (o_aload_n d_Md_later_0 rfl) ?_
  refine s_ref d_Md_later_1 pF_Md_43 (zM_Md_wide r) ?_
  refine Eq.trans (o_iload_n d_Md_later_4 rfl) ?_
  refine s_iald d_Md_later_5 (rM_10 r) h (fun x1 h => ?_)
  refine s_if_le (t := 39) d_Md_later_6 (by decide) h (fun h => ?_) (fun h => ?_)
  · exact s_vret d_Md_later_39 rfl h
  · refine Eq.trans (o_aload_n d_Md_later_9 rfl) ?_
    refine s_ref d_Md_later_10 pF_Md_67 (zM_Md_taskNode r) ?_
    refine Eq.trans (o_aload_n d_Md_later_13 rfl) ?_
    refine s_get d_Md_later_14 pF_Md_184 (zM_Md_tasks r) h (fun x2 h => ?_)
    refine Eq.trans (o_iload_n d_Md_later_17 rfl) ?_
    refine s_iast d_Md_later_18 (rM_18 r) h (fun T h => ?_)
    refine Eq.trans (o_aload_n d_Md_later_19 rfl) ?_
    refine s_ref d_Md_later_20 pF_Md_70 (zM_Md_taskAt r) ?_
    refine Eq.trans (o_aload_n d_Md_later_23 rfl) ?_
    refine s_get d_Md_later_24 pF_Md_184 (zM_Md_tasks r) h (fun x3 h => ?_)
    refine Eq.trans (o_iload_n d_Md_later_27 rfl) ?_
    refine s_iast d_Md_later_28 (rM_19 r) h (fun T h => ?_)
    refine Eq.trans (o_aload_n d_Md_later_29 rfl) ?_
    refine Eq.trans (o_dup d_Md_later_30 rfl) ?_
    refine s_get d_Md_later_31 pF_Md_184 (zM_Md_tasks r) h (fun x4 h => ?_)
    refine Eq.trans (o_iconst (v := 1) d_Md_later_34 (by decide)) ?_
    refine Eq.trans (o_iadd d_Md_later_35) ?_
    refine s_put d_Md_later_36 pF_Md_184 (zM_Md_tasks r) h (fun T h => ?_)
    exact s_vret d_Md_later_39 rfl h
theorem c_Md_later (D : Nat) (hD : 1 ≤ D) (r : Nat) (a1 : Int32) (a2 : Int32) (T T1 : qT) (v : Unit) (h : f_Md_later a1 a2 T = some (v, T1)) : q_ev q_Mt D 95 [.ref (r + 0), .int a1, .int a2] (layM r T) = some (.inl (none), layM r T1) := by
  obtain ⟨D, rfl⟩ : ∃ D', D = D' + 1 := ⟨D - 1, by omega⟩
  rw [o_ev (M := q_mMd_later) (lo := [some (.ref (r + 0)), some (.int a1), some (.int a2)]) rfl (Nat.le_of_ble_eq_true rfl) rfl]
  exact c_Md_later_0 D (by omega) r a1 a2 T T1 v h
noncomputable def f_Md_put (a1 : Int32) (a2 : Int32) (a3 : Int32) (a4 : Int32) : qW Unit :=
  w_a 15 160 a1 a2 <|
  w_a 16 160 a1 a3 <|
  w_a 17 160 a1 a4 <|
  w_pure ()
set_option maxRecDepth 100000 in
set_option maxHeartbeats 4000000 in
theorem c_Md_put_0 (D : Nat) (hD : 0 ≤ D) (r : Nat) (a1 : Int32) (a2 : Int32) (a3 : Int32) (a4 : Int32)  (T T1 : qT) (v : Unit) (h : f_Md_put a1 a2 a3 a4 T = some (v, T1)) : q_out (q_ev q_Mt D) q_mMd_put (0, [some (.ref (r + 0)), some (.int a1), some (.int a2), some (.int a3), some (.int a4)], [], layM r T) = some (.inl (none), layM r T1) := by
  unfold f_Md_put at h
  refine Eq.trans (o_aload_n d_Md_put_0 rfl) ?_
  refine s_ref d_Md_put_1 pF_Md_58 (zM_Md_code r) ?_
  refine Eq.trans (o_iload_n d_Md_put_4 rfl) ?_
  refine Eq.trans (o_iload_n d_Md_put_5 rfl) ?_
  refine s_iast d_Md_put_6 (rM_15 r) h (fun T h => ?_)
  refine Eq.trans (o_aload_n d_Md_put_7 rfl) ?_
  refine s_ref d_Md_put_8 pF_Md_61 (zM_Md_x r) ?_
  refine Eq.trans (o_iload_n d_Md_put_11 rfl) ?_
  refine Eq.trans (o_iload_n d_Md_put_12 rfl) ?_
  refine s_iast d_Md_put_13 (rM_16 r) h (fun T h => ?_)
  refine Eq.trans (o_aload_n d_Md_put_14 rfl) ?_
  refine s_ref d_Md_put_15 pF_Md_64 (zM_Md_y r) ?_
  refine Eq.trans (o_iload_n d_Md_put_18 rfl) ?_
  refine Eq.trans (o_iload d_Md_put_19 rfl) ?_
  refine s_iast d_Md_put_21 (rM_17 r) h (fun T h => ?_)
  exact s_vret d_Md_put_22 rfl h
theorem c_Md_put (D : Nat) (hD : 1 ≤ D) (r : Nat) (a1 : Int32) (a2 : Int32) (a3 : Int32) (a4 : Int32) (T T1 : qT) (v : Unit) (h : f_Md_put a1 a2 a3 a4 T = some (v, T1)) : q_ev q_Mt D 94 [.ref (r + 0), .int a1, .int a2, .int a3, .int a4] (layM r T) = some (.inl (none), layM r T1) := by
  obtain ⟨D, rfl⟩ : ∃ D', D = D' + 1 := ⟨D - 1, by omega⟩
  rw [o_ev (M := q_mMd_put) (lo := [some (.ref (r + 0)), some (.int a1), some (.int a2), some (.int a3), some (.int a4)]) rfl (Nat.le_of_ble_eq_true rfl) rfl]
  exact c_Md_put_0 D (by omega) r a1 a2 a3 a4 T T1 v h
noncomputable def f_Md_here (a1 : Int32) : qW Int32 :=
  w_S 1 fun x1 =>
  w_if (x1 ≤ a1) (
    w_ret .char 0) (
    w_A 1 48 a1 fun x2 =>
    w_ret .char x2)
set_option maxRecDepth 100000 in
set_option maxHeartbeats 4000000 in
theorem c_Md_here_0 (D : Nat) (hD : 0 ≤ D) (r : Nat) (a1 : Int32)  (T T1 : qT) (v : Int32) (h : f_Md_here a1 T = some (v, T1)) : q_out (q_ev q_Mt D) q_mMd_here (0, [some (.ref (r + 0)), some (.int a1)], [], layM r T) = some (.inl (some (.int v)), layM r T1) := by
  unfold f_Md_here at h
  refine Eq.trans (o_iload_n d_Md_here_0 rfl) ?_
  refine Eq.trans (o_aload_n d_Md_here_1 rfl) ?_
  refine s_get d_Md_here_2 pF_Md_106 (zM_Md_size r) h (fun x1 h => ?_)
  refine s_icmp_ge (t := 17) d_Md_here_5 (by decide) h (fun h => ?_) (fun h => ?_)
  · refine Eq.trans (o_iconst (v := 0) d_Md_here_17 (by decide)) ?_
    exact s_iret d_Md_here_18 rfl h
  · refine Eq.trans (o_aload_n d_Md_here_8 rfl) ?_
    refine s_ref d_Md_here_9 pF_Md_7 (zM_Md_text r) ?_
    refine Eq.trans (o_iload_n d_Md_here_12 rfl) ?_
    refine s_cald d_Md_here_13 (rM_1 r) h (fun x2 h => ?_)
    refine Eq.trans (o_goto (t := 18) d_Md_here_14 (by decide)) ?_
    exact s_iret d_Md_here_18 rfl h
theorem c_Md_here (D : Nat) (hD : 1 ≤ D) (r : Nat) (a1 : Int32) (T T1 : qT) (v : Int32) (h : f_Md_here a1 T = some (v, T1)) : q_ev q_Mt D 81 [.ref (r + 0), .int a1] (layM r T) = some (.inl (some (.int v)), layM r T1) := by
  obtain ⟨D, rfl⟩ : ∃ D', D = D' + 1 := ⟨D - 1, by omega⟩
  rw [o_ev (M := q_mMd_here) (lo := [some (.ref (r + 0)), some (.int a1)]) rfl (Nat.le_of_ble_eq_true rfl) rfl]
  exact c_Md_here_0 D (by omega) r a1 T T1 v h
noncomputable def k_Md_node_106 (v2 : Int32) (v3 : Int32) : qW Int32 :=
  w_a 4 220 v2 v3 <|
  w_ret .int v3
noncomputable def f_Md_node (a1 : Int32) (a2 : Int32) : qW Int32 :=
  w_S 4 fun x1 =>
  w_S 4 fun x2 =>
  w_s 4 ((x2 + 1)) <|
  w_a 2 220 x1 a1 <|
  w_a 3 220 x1 ((-1)) <|
  w_a 4 220 x1 ((-1)) <|
  w_a 5 220 x1 ((-1)) <|
  w_a 6 220 x1 0 <|
  w_a 7 220 x1 0 <|
  w_a 8 220 x1 0 <|
  w_a 9 220 x1 ((vp_nar .boolean 0)) <|
  w_if (a2 < 0) (
    w_ret .int x1) (
    w_A 3 220 a2 fun x3 =>
    w_if (0 ≤ x3) (
      w_A 4 220 a2 fun x4 =>
      w_a 5 220 x4 x1 <|
      k_Md_node_106 a2 x1) (
      w_a 3 220 a2 x1 <|
      k_Md_node_106 a2 x1))
set_option maxRecDepth 100000 in
set_option maxHeartbeats 4000000 in
theorem c_Md_node_106 (D : Nat) (hD : 0 ≤ D) (r : Nat) (v2 : Int32) (v3 : Int32) (e1 : Option Value) (T T1 : qT) (v : Int32) (h : k_Md_node_106 v2 v3 T = some (v, T1)) : q_out (q_ev q_Mt D) q_mMd_node (106, [some (.ref (r + 0)), e1, some (.int v2), some (.int v3)], [], layM r T) = some (.inl (some (.int v)), layM r T1) := by
  unfold k_Md_node_106 at h
  refine Eq.trans (o_aload_n d_Md_node_106 rfl) ?_
  refine s_ref d_Md_node_107 pF_Md_24 (zM_Md_last r) ?_
  refine Eq.trans (o_iload_n d_Md_node_110 rfl) ?_
  refine Eq.trans (o_iload_n d_Md_node_111 rfl) ?_
  refine s_iast d_Md_node_112 (rM_4 r) h (fun T h => ?_)
  refine Eq.trans (o_iload_n d_Md_node_113 rfl) ?_
  exact s_iret d_Md_node_114 rfl h
set_option maxRecDepth 100000 in
set_option maxHeartbeats 4000000 in
theorem c_Md_node_0 (D : Nat) (hD : 0 ≤ D) (r : Nat) (a1 : Int32) (a2 : Int32)  (T T1 : qT) (v : Int32) (h : f_Md_node a1 a2 T = some (v, T1)) : q_out (q_ev q_Mt D) q_mMd_node (0, [some (.ref (r + 0)), some (.int a1), some (.int a2), none], [], layM r T) = some (.inl (some (.int v)), layM r T1) := by
  unfold f_Md_node at h
  refine Eq.trans (o_aload_n d_Md_node_0 rfl) ?_
  refine s_get d_Md_node_1 pF_Md_112 (zM_Md_nodes r) h (fun x1 h => ?_)
  refine Eq.trans (o_istore_n (lo' := [some (.ref (r + 0)), some (.int a1), some (.int a2), some (.int x1)]) d_Md_node_4 (Nat.le_of_ble_eq_true rfl) rfl) ?_
  refine Eq.trans (o_aload_n d_Md_node_5 rfl) ?_
  refine Eq.trans (o_dup d_Md_node_6 rfl) ?_
  refine s_get d_Md_node_7 pF_Md_112 (zM_Md_nodes r) h (fun x2 h => ?_)
  refine Eq.trans (o_iconst (v := 1) d_Md_node_10 (by decide)) ?_
  refine Eq.trans (o_iadd d_Md_node_11) ?_
  refine s_put d_Md_node_12 pF_Md_112 (zM_Md_nodes r) h (fun T h => ?_)
  refine Eq.trans (o_aload_n d_Md_node_15 rfl) ?_
  refine s_ref d_Md_node_16 pF_Md_17 (zM_Md_kind r) ?_
  refine Eq.trans (o_iload_n d_Md_node_19 rfl) ?_
  refine Eq.trans (o_iload_n d_Md_node_20 rfl) ?_
  refine s_iast d_Md_node_21 (rM_2 r) h (fun T h => ?_)
  refine Eq.trans (o_aload_n d_Md_node_22 rfl) ?_
  refine s_ref d_Md_node_23 pF_Md_21 (zM_Md_first r) ?_
  refine Eq.trans (o_iload_n d_Md_node_26 rfl) ?_
  refine Eq.trans (o_iconst (v := (-1)) d_Md_node_27 (by decide)) ?_
  refine s_iast d_Md_node_28 (rM_3 r) h (fun T h => ?_)
  refine Eq.trans (o_aload_n d_Md_node_29 rfl) ?_
  refine s_ref d_Md_node_30 pF_Md_24 (zM_Md_last r) ?_
  refine Eq.trans (o_iload_n d_Md_node_33 rfl) ?_
  refine Eq.trans (o_iconst (v := (-1)) d_Md_node_34 (by decide)) ?_
  refine s_iast d_Md_node_35 (rM_4 r) h (fun T h => ?_)
  refine Eq.trans (o_aload_n d_Md_node_36 rfl) ?_
  refine s_ref d_Md_node_37 pF_Md_27 (zM_Md_next r) ?_
  refine Eq.trans (o_iload_n d_Md_node_40 rfl) ?_
  refine Eq.trans (o_iconst (v := (-1)) d_Md_node_41 (by decide)) ?_
  refine s_iast d_Md_node_42 (rM_5 r) h (fun T h => ?_)
  refine Eq.trans (o_aload_n d_Md_node_43 rfl) ?_
  refine s_ref d_Md_node_44 pF_Md_30 (zM_Md_a r) ?_
  refine Eq.trans (o_iload_n d_Md_node_47 rfl) ?_
  refine Eq.trans (o_iconst (v := 0) d_Md_node_48 (by decide)) ?_
  refine s_iast d_Md_node_49 (rM_6 r) h (fun T h => ?_)
  refine Eq.trans (o_aload_n d_Md_node_50 rfl) ?_
  refine s_ref d_Md_node_51 pF_Md_33 (zM_Md_least r) ?_
  refine Eq.trans (o_iload_n d_Md_node_54 rfl) ?_
  refine Eq.trans (o_iconst (v := 0) d_Md_node_55 (by decide)) ?_
  refine s_iast d_Md_node_56 (rM_7 r) h (fun T h => ?_)
  refine Eq.trans (o_aload_n d_Md_node_57 rfl) ?_
  refine s_ref d_Md_node_58 pF_Md_36 (zM_Md_most r) ?_
  refine Eq.trans (o_iload_n d_Md_node_61 rfl) ?_
  refine Eq.trans (o_iconst (v := 0) d_Md_node_62 (by decide)) ?_
  refine s_iast d_Md_node_63 (rM_8 r) h (fun T h => ?_)
  refine Eq.trans (o_aload_n d_Md_node_64 rfl) ?_
  refine s_ref d_Md_node_65 pF_Md_39 (zM_Md_lazy r) ?_
  refine Eq.trans (o_iload_n d_Md_node_68 rfl) ?_
  refine Eq.trans (o_iconst (v := 0) d_Md_node_69 (by decide)) ?_
  refine s_zast d_Md_node_70 (rM_9 r) h (fun T h => ?_)
  refine Eq.trans (o_iload_n d_Md_node_71 rfl) ?_
  refine s_if_lt (t := 113) d_Md_node_72 (by decide) h (fun h => ?_) (fun h => ?_)
  · refine Eq.trans (o_iload_n d_Md_node_113 rfl) ?_
    exact s_iret d_Md_node_114 rfl h
  · refine Eq.trans (o_aload_n d_Md_node_75 rfl) ?_
    refine s_ref d_Md_node_76 pF_Md_21 (zM_Md_first r) ?_
    refine Eq.trans (o_iload_n d_Md_node_79 rfl) ?_
    refine s_iald d_Md_node_80 (rM_3 r) h (fun x3 h => ?_)
    refine s_if_ge (t := 94) d_Md_node_81 (by decide) h (fun h => ?_) (fun h => ?_)
    · refine Eq.trans (o_aload_n d_Md_node_94 rfl) ?_
      refine s_ref d_Md_node_95 pF_Md_27 (zM_Md_next r) ?_
      refine Eq.trans (o_aload_n d_Md_node_98 rfl) ?_
      refine s_ref d_Md_node_99 pF_Md_24 (zM_Md_last r) ?_
      refine Eq.trans (o_iload_n d_Md_node_102 rfl) ?_
      refine s_iald d_Md_node_103 (rM_4 r) h (fun x4 h => ?_)
      refine Eq.trans (o_iload_n d_Md_node_104 rfl) ?_
      refine s_iast d_Md_node_105 (rM_5 r) h (fun T h => ?_)
      exact c_Md_node_106 D hD r _ _ _ _ _ _ h
    · refine Eq.trans (o_aload_n d_Md_node_84 rfl) ?_
      refine s_ref d_Md_node_85 pF_Md_21 (zM_Md_first r) ?_
      refine Eq.trans (o_iload_n d_Md_node_88 rfl) ?_
      refine Eq.trans (o_iload_n d_Md_node_89 rfl) ?_
      refine s_iast d_Md_node_90 (rM_3 r) h (fun T h => ?_)
      refine Eq.trans (o_goto (t := 106) d_Md_node_91 (by decide)) ?_
      exact c_Md_node_106 D hD r _ _ _ _ _ _ h
theorem c_Md_node (D : Nat) (hD : 1 ≤ D) (r : Nat) (a1 : Int32) (a2 : Int32) (T T1 : qT) (v : Int32) (h : f_Md_node a1 a2 T = some (v, T1)) : q_ev q_Mt D 80 [.ref (r + 0), .int a1, .int a2] (layM r T) = some (.inl (some (.int v)), layM r T1) := by
  obtain ⟨D, rfl⟩ : ∃ D', D = D' + 1 := ⟨D - 1, by omega⟩
  rw [o_ev (M := q_mMd_node) (lo := [some (.ref (r + 0)), some (.int a1), some (.int a2), none]) rfl (Nat.le_of_ble_eq_true rfl) rfl]
  exact c_Md_node_0 D (by omega) r a1 a2 T T1 v h
noncomputable def k_Md_open_172 (v3 : Int32) (s0 : Int32) (s1 : Int32) : qW Int32 :=
  w_a 6 220 s1 s0 <|
  w_S 15 fun x1 =>
  w_C (f_Md_node 0 v3) fun x2 =>
  w_a 12 9 x1 x2 <|
  w_S 15 fun x3 =>
  w_S 15 fun x4 =>
  w_A 12 9 x4 fun x5 =>
  w_C (f_Md_node 1 x5) fun x6 =>
  w_a 13 9 x3 x6 <|
  w_ret .boolean 1
noncomputable def k_Md_open_152 (v2 : Int32) (v3 : Int32) (s0 : Int32) : qW Int32 :=
  w_s 19 s0 <|
  w_if (v2 = 0) (
    w_S 19 fun x1 =>
    k_Md_open_172 v3 x1 v3) (
    k_Md_open_172 v3 0 v3)
noncomputable def k_Md_open_94 (v1 : Int32) (v2 : Int32) : qW Int32 :=
  w_S 15 fun x1 =>
  w_s 15 ((x1 + 1)) <|
  w_S 15 fun x2 =>
  w_C (f_Md_node 2 v1) fun x3 =>
  w_a 11 9 x2 x3 <|
  w_S 15 fun x4 =>
  w_A 11 9 x4 fun x5 =>
  w_C (f_Md_node 4 x5) fun x6 =>
  w_if (v2 = 0) (
    w_S 19 fun x7 =>
    k_Md_open_152 v2 x6 ((x7 + 1))) (
    w_S 19 fun x8 =>
    k_Md_open_152 v2 x6 x8)
noncomputable def k_Md_open_55 (v1 : Int32) (v2 : Int32) : qW Int32 :=
  w_if (v2 = 0) (
    k_Md_open_94 v1 v2) (
    w_S 14 fun x1 =>
    w_s 14 ((x1 + 1)) <|
    w_S 14 fun x2 =>
    w_C (f_Md_here x2) fun x3 =>
    w_if (x3 = 58) (
      w_S 14 fun x4 =>
      w_s 14 ((x4 + 1)) <|
      k_Md_open_94 v1 v2) (
      w_ret .boolean 0))
noncomputable def k_Md_open_39 (v1 : Int32) (s0 : Int32) : qW Int32 :=
  w_if (¬ s0 = 0) (
    k_Md_open_55 v1 s0) (
    w_S 19 fun x1 =>
    w_if (¬ x1 = 6) (
      k_Md_open_55 v1 s0) (
      w_ret .boolean 0))
noncomputable def f_Md_open (a1 : Int32) : qW Int32 :=
  w_S 15 fun x1 =>
  w_if (¬ x1 = 8) (
    w_S 14 fun x2 =>
    w_s 14 ((x2 + 1)) <|
    w_S 14 fun x3 =>
    w_C (f_Md_here x3) fun x4 =>
    w_if (¬ x4 = 63) (
      k_Md_open_39 a1 0) (
      k_Md_open_39 a1 1)) (
    w_ret .boolean 0)
set_option maxRecDepth 100000 in
set_option maxHeartbeats 4000000 in
theorem c_Md_open_172 (D : Nat) (hD : 1 ≤ D) (r : Nat) (v3 : Int32) (s0 : Int32) (s1 : Int32) (e1 : Option Value) (e2 : Option Value) (T T1 : qT) (v : Int32) (h : k_Md_open_172 v3 s0 s1 T = some (v, T1)) : q_out (q_ev q_Mt D) q_mMd_open (172, [some (.ref (r + 0)), e1, e2, some (.int v3)], [.int s0, .int s1, .ref (r + 6)], layM r T) = some (.inl (some (.int v)), layM r T1) := by
  unfold k_Md_open_172 at h
  refine s_iast d_Md_open_172 (rM_6 r) h (fun T h => ?_)
  refine Eq.trans (o_aload_n d_Md_open_173 rfl) ?_
  refine s_ref d_Md_open_174 pF_Md_49 (zM_Md_openChoice r) ?_
  refine Eq.trans (o_aload_n d_Md_open_177 rfl) ?_
  refine s_get d_Md_open_178 pF_Md_161 (zM_Md_depth r) h (fun x1 h => ?_)
  refine Eq.trans (o_aload_n d_Md_open_181 rfl) ?_
  refine Eq.trans (o_iconst (v := 0) d_Md_open_182 (by decide)) ?_
  refine Eq.trans (o_iload_n d_Md_open_183 rfl) ?_
  obtain ⟨x2, T2, h1, h⟩ := w_C_of h
  refine s_cV2i d_Md_open_184 pM_Md_143 (Nat.le_of_ble_eq_true rfl) (obM_0 r) (c_Md_node D (by omega) r _ _ _ _ _ h1) ?_
  replace h1 := trivial; revert h; generalize T2 = T; intro h
  refine s_iast d_Md_open_187 (rM_12 r) h (fun T h => ?_)
  refine Eq.trans (o_aload_n d_Md_open_188 rfl) ?_
  refine s_ref d_Md_open_189 pF_Md_52 (zM_Md_openRow r) ?_
  refine Eq.trans (o_aload_n d_Md_open_192 rfl) ?_
  refine s_get d_Md_open_193 pF_Md_161 (zM_Md_depth r) h (fun x3 h => ?_)
  refine Eq.trans (o_aload_n d_Md_open_196 rfl) ?_
  refine Eq.trans (o_iconst (v := 1) d_Md_open_197 (by decide)) ?_
  refine Eq.trans (o_aload_n d_Md_open_198 rfl) ?_
  refine s_ref d_Md_open_199 pF_Md_49 (zM_Md_openChoice r) ?_
  refine Eq.trans (o_aload_n d_Md_open_202 rfl) ?_
  refine s_get d_Md_open_203 pF_Md_161 (zM_Md_depth r) h (fun x4 h => ?_)
  refine s_iald d_Md_open_206 (rM_12 r) h (fun x5 h => ?_)
  obtain ⟨x6, T2, h1, h⟩ := w_C_of h
  refine s_cV2i d_Md_open_207 pM_Md_143 (Nat.le_of_ble_eq_true rfl) (obM_0 r) (c_Md_node D (by omega) r _ _ _ _ _ h1) ?_
  replace h1 := trivial; revert h; generalize T2 = T; intro h
  refine s_iast d_Md_open_210 (rM_13 r) h (fun T h => ?_)
  refine Eq.trans (o_iconst (v := 1) d_Md_open_211 (by decide)) ?_
  exact s_iret d_Md_open_212 rfl h
set_option maxRecDepth 100000 in
set_option maxHeartbeats 4000000 in
theorem c_Md_open_152 (D : Nat) (hD : 1 ≤ D) (r : Nat) (v2 : Int32) (v3 : Int32) (s0 : Int32) (e1 : Option Value) (T T1 : qT) (v : Int32) (h : k_Md_open_152 v2 v3 s0 T = some (v, T1)) : q_out (q_ev q_Mt D) q_mMd_open (152, [some (.ref (r + 0)), e1, some (.int v2), some (.int v3)], [.int s0, .ref (r + 0)], layM r T) = some (.inl (some (.int v)), layM r T1) := by
  unfold k_Md_open_152 at h
  refine s_put d_Md_open_152 pF_Md_164 (zM_Md_numbers r) h (fun T h => ?_)
  refine Eq.trans (o_aload_n d_Md_open_155 rfl) ?_
  refine s_ref d_Md_open_156 pF_Md_30 (zM_Md_a r) ?_
  refine Eq.trans (o_iload_n d_Md_open_159 rfl) ?_
  refine Eq.trans (o_iload_n d_Md_open_160 rfl) ?_
  refine s_if_eq (t := 168) d_Md_open_161 (by decide) h (fun h => ?_) (fun h => ?_)
  · refine Eq.trans (o_aload_n d_Md_open_168 rfl) ?_
    refine s_get d_Md_open_169 pF_Md_164 (zM_Md_numbers r) h (fun x1 h => ?_)
    exact c_Md_open_172 D hD r _ _ _ _ _ _ _ _ h
  · refine Eq.trans (o_iconst (v := 0) d_Md_open_164 (by decide)) ?_
    refine Eq.trans (o_goto (t := 172) d_Md_open_165 (by decide)) ?_
    exact c_Md_open_172 D hD r _ _ _ _ _ _ _ _ h
set_option maxRecDepth 100000 in
set_option maxHeartbeats 4000000 in
theorem c_Md_open_94 (D : Nat) (hD : 1 ≤ D) (r : Nat) (v1 : Int32) (v2 : Int32) (e3 : Option Value) (T T1 : qT) (v : Int32) (h : k_Md_open_94 v1 v2 T = some (v, T1)) : q_out (q_ev q_Mt D) q_mMd_open (94, [some (.ref (r + 0)), some (.int v1), some (.int v2), e3], [], layM r T) = some (.inl (some (.int v)), layM r T1) := by
  unfold k_Md_open_94 at h
  refine Eq.trans (o_aload_n d_Md_open_94 rfl) ?_
  refine Eq.trans (o_dup d_Md_open_95 rfl) ?_
  refine s_get d_Md_open_96 pF_Md_161 (zM_Md_depth r) h (fun x1 h => ?_)
  refine Eq.trans (o_iconst (v := 1) d_Md_open_99 (by decide)) ?_
  refine Eq.trans (o_iadd d_Md_open_100) ?_
  refine s_put d_Md_open_101 pF_Md_161 (zM_Md_depth r) h (fun T h => ?_)
  refine Eq.trans (o_aload_n d_Md_open_104 rfl) ?_
  refine s_ref d_Md_open_105 pF_Md_46 (zM_Md_openRepeat r) ?_
  refine Eq.trans (o_aload_n d_Md_open_108 rfl) ?_
  refine s_get d_Md_open_109 pF_Md_161 (zM_Md_depth r) h (fun x2 h => ?_)
  refine Eq.trans (o_aload_n d_Md_open_112 rfl) ?_
  refine Eq.trans (o_iconst (v := 2) d_Md_open_113 (by decide)) ?_
  refine Eq.trans (o_iload_n d_Md_open_114 rfl) ?_
  obtain ⟨x3, T2, h1, h⟩ := w_C_of h
  refine s_cV2i d_Md_open_115 pM_Md_143 (Nat.le_of_ble_eq_true rfl) (obM_0 r) (c_Md_node D (by omega) r _ _ _ _ _ h1) ?_
  replace h1 := trivial; revert h; generalize T2 = T; intro h
  refine s_iast d_Md_open_118 (rM_11 r) h (fun T h => ?_)
  refine Eq.trans (o_aload_n d_Md_open_119 rfl) ?_
  refine Eq.trans (o_iconst (v := 4) d_Md_open_120 (by decide)) ?_
  refine Eq.trans (o_aload_n d_Md_open_121 rfl) ?_
  refine s_ref d_Md_open_122 pF_Md_46 (zM_Md_openRepeat r) ?_
  refine Eq.trans (o_aload_n d_Md_open_125 rfl) ?_
  refine s_get d_Md_open_126 pF_Md_161 (zM_Md_depth r) h (fun x4 h => ?_)
  refine s_iald d_Md_open_129 (rM_11 r) h (fun x5 h => ?_)
  obtain ⟨x6, T2, h1, h⟩ := w_C_of h
  refine s_cV2i d_Md_open_130 pM_Md_143 (Nat.le_of_ble_eq_true rfl) (obM_0 r) (c_Md_node D (by omega) r _ _ _ _ _ h1) ?_
  replace h1 := trivial; revert h; generalize T2 = T; intro h
  refine Eq.trans (o_istore_n (lo' := [some (.ref (r + 0)), some (.int v1), some (.int v2), some (.int x6)]) d_Md_open_133 (Nat.le_of_ble_eq_true rfl) rfl) ?_
  refine Eq.trans (o_aload_n d_Md_open_134 rfl) ?_
  refine Eq.trans (o_iload_n d_Md_open_135 rfl) ?_
  refine s_if_eq (t := 146) d_Md_open_136 (by decide) h (fun h => ?_) (fun h => ?_)
  · refine Eq.trans (o_aload_n d_Md_open_146 rfl) ?_
    refine s_get d_Md_open_147 pF_Md_164 (zM_Md_numbers r) h (fun x7 h => ?_)
    refine Eq.trans (o_iconst (v := 1) d_Md_open_150 (by decide)) ?_
    refine Eq.trans (o_iadd d_Md_open_151) ?_
    exact c_Md_open_152 D hD r _ _ _ _ _ _ _ h
  · refine Eq.trans (o_aload_n d_Md_open_139 rfl) ?_
    refine s_get d_Md_open_140 pF_Md_164 (zM_Md_numbers r) h (fun x8 h => ?_)
    refine Eq.trans (o_goto (t := 152) d_Md_open_143 (by decide)) ?_
    exact c_Md_open_152 D hD r _ _ _ _ _ _ _ h
set_option maxRecDepth 100000 in
set_option maxHeartbeats 4000000 in
theorem c_Md_open_55 (D : Nat) (hD : 1 ≤ D) (r : Nat) (v1 : Int32) (v2 : Int32) (e3 : Option Value) (T T1 : qT) (v : Int32) (h : k_Md_open_55 v1 v2 T = some (v, T1)) : q_out (q_ev q_Mt D) q_mMd_open (55, [some (.ref (r + 0)), some (.int v1), some (.int v2), e3], [], layM r T) = some (.inl (some (.int v)), layM r T1) := by
  unfold k_Md_open_55 at h
  refine Eq.trans (o_iload_n d_Md_open_55 rfl) ?_
  refine s_if_eq (t := 94) d_Md_open_56 (by decide) h (fun h => ?_) (fun h => ?_)
  · exact c_Md_open_94 D hD r _ _ _ _ _ _ h
  · refine Eq.trans (o_aload_n d_Md_open_59 rfl) ?_
    refine Eq.trans (o_dup d_Md_open_60 rfl) ?_
    refine s_get d_Md_open_61 pF_Md_126 (zM_Md_p r) h (fun x1 h => ?_)
    refine Eq.trans (o_iconst (v := 1) d_Md_open_64 (by decide)) ?_
    refine Eq.trans (o_iadd d_Md_open_65) ?_
    refine s_put d_Md_open_66 pF_Md_126 (zM_Md_p r) h (fun T h => ?_)
    refine Eq.trans (o_aload_n d_Md_open_69 rfl) ?_
    refine Eq.trans (o_aload_n d_Md_open_70 rfl) ?_
    refine s_get d_Md_open_71 pF_Md_126 (zM_Md_p r) h (fun x2 h => ?_)
    obtain ⟨x3, T2, h1, h⟩ := w_C_of h
    refine s_cV1i d_Md_open_74 pM_Md_129 (Nat.le_of_ble_eq_true rfl) (obM_0 r) (c_Md_here D (by omega) r _ _ _ _ h1) ?_
    replace h1 := trivial; revert h; generalize T2 = T; intro h
    refine Eq.trans (o_bipush (v := 58) d_Md_open_77 (by decide)) ?_
    refine s_icmp_eq (t := 84) d_Md_open_79 (by decide) h (fun h => ?_) (fun h => ?_)
    · refine Eq.trans (o_aload_n d_Md_open_84 rfl) ?_
      refine Eq.trans (o_dup d_Md_open_85 rfl) ?_
      refine s_get d_Md_open_86 pF_Md_126 (zM_Md_p r) h (fun x4 h => ?_)
      refine Eq.trans (o_iconst (v := 1) d_Md_open_89 (by decide)) ?_
      refine Eq.trans (o_iadd d_Md_open_90) ?_
      refine s_put d_Md_open_91 pF_Md_126 (zM_Md_p r) h (fun T h => ?_)
      exact c_Md_open_94 D hD r _ _ _ _ _ _ h
    · refine Eq.trans (o_iconst (v := 0) d_Md_open_82 (by decide)) ?_
      exact s_iret d_Md_open_83 rfl h
set_option maxRecDepth 100000 in
set_option maxHeartbeats 4000000 in
theorem c_Md_open_39 (D : Nat) (hD : 1 ≤ D) (r : Nat) (v1 : Int32) (s0 : Int32) (e2 : Option Value) (e3 : Option Value) (T T1 : qT) (v : Int32) (h : k_Md_open_39 v1 s0 T = some (v, T1)) : q_out (q_ev q_Mt D) q_mMd_open (39, [some (.ref (r + 0)), some (.int v1), e2, e3], [.int s0], layM r T) = some (.inl (some (.int v)), layM r T1) := by
  unfold k_Md_open_39 at h
  refine Eq.trans (o_istore_n (lo' := [some (.ref (r + 0)), some (.int v1), some (.int s0), e3]) d_Md_open_39 (Nat.le_of_ble_eq_true rfl) rfl) ?_
  refine Eq.trans (o_iload_n d_Md_open_40 rfl) ?_
  refine s_if_ne (t := 55) d_Md_open_41 (by decide) h (fun h => ?_) (fun h => ?_)
  · exact c_Md_open_55 D hD r _ _ _ _ _ _ h
  · refine Eq.trans (o_aload_n d_Md_open_44 rfl) ?_
    refine s_get d_Md_open_45 pF_Md_164 (zM_Md_numbers r) h (fun x1 h => ?_)
    refine Eq.trans (o_bipush (v := 6) d_Md_open_48 (by decide)) ?_
    refine s_icmp_ne (t := 55) d_Md_open_50 (by decide) h (fun h => ?_) (fun h => ?_)
    · exact c_Md_open_55 D hD r _ _ _ _ _ _ h
    · refine Eq.trans (o_iconst (v := 0) d_Md_open_53 (by decide)) ?_
      exact s_iret d_Md_open_54 rfl h
set_option maxRecDepth 100000 in
set_option maxHeartbeats 4000000 in
theorem c_Md_open_0 (D : Nat) (hD : 1 ≤ D) (r : Nat) (a1 : Int32)  (T T1 : qT) (v : Int32) (h : f_Md_open a1 T = some (v, T1)) : q_out (q_ev q_Mt D) q_mMd_open (0, [some (.ref (r + 0)), some (.int a1), none, none], [], layM r T) = some (.inl (some (.int v)), layM r T1) := by
  unfold f_Md_open at h
  refine Eq.trans (o_aload_n d_Md_open_0 rfl) ?_
  refine s_get d_Md_open_1 pF_Md_161 (zM_Md_depth r) h (fun x1 h => ?_)
  refine Eq.trans (o_bipush (v := 8) d_Md_open_4 (by decide)) ?_
  refine s_icmp_ne (t := 11) d_Md_open_6 (by decide) h (fun h => ?_) (fun h => ?_)
  · refine Eq.trans (o_aload_n d_Md_open_11 rfl) ?_
    refine Eq.trans (o_dup d_Md_open_12 rfl) ?_
    refine s_get d_Md_open_13 pF_Md_126 (zM_Md_p r) h (fun x2 h => ?_)
    refine Eq.trans (o_iconst (v := 1) d_Md_open_16 (by decide)) ?_
    refine Eq.trans (o_iadd d_Md_open_17) ?_
    refine s_put d_Md_open_18 pF_Md_126 (zM_Md_p r) h (fun T h => ?_)
    refine Eq.trans (o_aload_n d_Md_open_21 rfl) ?_
    refine Eq.trans (o_aload_n d_Md_open_22 rfl) ?_
    refine s_get d_Md_open_23 pF_Md_126 (zM_Md_p r) h (fun x3 h => ?_)
    obtain ⟨x4, T2, h1, h⟩ := w_C_of h
    refine s_cV1i d_Md_open_26 pM_Md_129 (Nat.le_of_ble_eq_true rfl) (obM_0 r) (c_Md_here D (by omega) r _ _ _ _ h1) ?_
    replace h1 := trivial; revert h; generalize T2 = T; intro h
    refine Eq.trans (o_bipush (v := 63) d_Md_open_29 (by decide)) ?_
    refine s_icmp_ne (t := 38) d_Md_open_31 (by decide) h (fun h => ?_) (fun h => ?_)
    · refine Eq.trans (o_iconst (v := 0) d_Md_open_38 (by decide)) ?_
      exact c_Md_open_39 D hD r _ _ _ _ _ _ _ h
    · refine Eq.trans (o_iconst (v := 1) d_Md_open_34 (by decide)) ?_
      refine Eq.trans (o_goto (t := 39) d_Md_open_35 (by decide)) ?_
      exact c_Md_open_39 D hD r _ _ _ _ _ _ _ h
  · refine Eq.trans (o_iconst (v := 0) d_Md_open_9 (by decide)) ?_
    exact s_iret d_Md_open_10 rfl h
theorem c_Md_open (D : Nat) (hD : 2 ≤ D) (r : Nat) (a1 : Int32) (T T1 : qT) (v : Int32) (h : f_Md_open a1 T = some (v, T1)) : q_ev q_Mt D 82 [.ref (r + 0), .int a1] (layM r T) = some (.inl (some (.int v)), layM r T1) := by
  obtain ⟨D, rfl⟩ : ∃ D', D = D' + 1 := ⟨D - 1, by omega⟩
  rw [o_ev (M := q_mMd_open) (lo := [some (.ref (r + 0)), some (.int a1), none, none]) rfl (Nat.le_of_ble_eq_true rfl) rfl]
  exact c_Md_open_0 D (by omega) r a1 T T1 v h
noncomputable def f_Md_isDigit (a1 : Int32) : qW Int32 :=
  w_if (a1 < 48) (
    w_ret .boolean 0) (
    w_if (57 < a1) (
      w_ret .boolean 0) (
      w_ret .boolean 1))
set_option maxRecDepth 100000 in
set_option maxHeartbeats 4000000 in
theorem c_Md_isDigit_0 (D : Nat) (hD : 0 ≤ D) (r : Nat) (a1 : Int32)  (T T1 : qT) (v : Int32) (h : f_Md_isDigit a1 T = some (v, T1)) : q_out (q_ev q_Mt D) q_mMd_isDigit (0, [some (.int a1)], [], layM r T) = some (.inl (some (.int v)), layM r T1) := by
  unfold f_Md_isDigit at h
  refine Eq.trans (o_iload_n d_Md_isDigit_0 rfl) ?_
  refine Eq.trans (o_bipush (v := 48) d_Md_isDigit_1 (by decide)) ?_
  refine s_icmp_lt (t := 16) d_Md_isDigit_3 (by decide) h (fun h => ?_) (fun h => ?_)
  · refine Eq.trans (o_iconst (v := 0) d_Md_isDigit_16 (by decide)) ?_
    exact s_iret d_Md_isDigit_17 rfl h
  · refine Eq.trans (o_iload_n d_Md_isDigit_6 rfl) ?_
    refine Eq.trans (o_bipush (v := 57) d_Md_isDigit_7 (by decide)) ?_
    refine s_icmp_gt (t := 16) d_Md_isDigit_9 (by decide) h (fun h => ?_) (fun h => ?_)
    · refine Eq.trans (o_iconst (v := 0) d_Md_isDigit_16 (by decide)) ?_
      exact s_iret d_Md_isDigit_17 rfl h
    · refine Eq.trans (o_iconst (v := 1) d_Md_isDigit_12 (by decide)) ?_
      refine Eq.trans (o_goto (t := 17) d_Md_isDigit_13 (by decide)) ?_
      exact s_iret d_Md_isDigit_17 rfl h
theorem c_Md_isDigit (D : Nat) (hD : 1 ≤ D) (r : Nat) (a1 : Int32) (T T1 : qT) (v : Int32) (h : f_Md_isDigit a1 T = some (v, T1)) : q_ev q_Mt D 85 [.int a1] (layM r T) = some (.inl (some (.int v)), layM r T1) := by
  obtain ⟨D, rfl⟩ : ∃ D', D = D' + 1 := ⟨D - 1, by omega⟩
  rw [o_ev (M := q_mMd_isDigit) (lo := [some (.int a1)]) rfl (Nat.le_of_ble_eq_true rfl) rfl]
  exact c_Md_isDigit_0 D (by omega) r a1 T T1 v h
noncomputable def k_Md_readBraces_157 (s0 : Int32) : qW Int32 :=
  w_if (s0 = 0) (
    w_S 14 fun x1 =>
    w_s 14 x1 <|
    w_ret .boolean s0) (
    w_S 14 fun x2 =>
    w_s 14 ((x2 + 1)) <|
    w_ret .boolean s0)
noncomputable def k_Md_readBraces_139  : qW Int32 :=
  w_S 14 fun x1 =>
  w_C (f_Md_here x1) fun x2 =>
  w_if (¬ x2 = 125) (
    k_Md_readBraces_157 0) (
    k_Md_readBraces_157 1)
noncomputable def f_Md_readBraces (a1 : Int32) : qW Int32 :=
  w_S 14 fun x1 =>
  w_C (f_Md_here x1) fun x2 =>
  w_C (f_Md_isDigit x2) fun x3 =>
  w_if (¬ x3 = 0) (
    w_S 14 fun x4 =>
    w_C (f_Md_here x4) fun x5 =>
    w_a 7 220 a1 ((x5 - 48)) <|
    w_S 14 fun x6 =>
    w_s 14 ((x6 + 1)) <|
    w_S 14 fun x7 =>
    w_C (f_Md_here x7) fun x8 =>
    w_if (¬ x8 = 44) (
      k_Md_readBraces_139) (
      w_S 14 fun x9 =>
      w_s 14 ((x9 + 1)) <|
      w_a 6 220 a1 5 <|
      w_S 14 fun x10 =>
      w_C (f_Md_here x10) fun x11 =>
      w_C (f_Md_isDigit x11) fun x12 =>
      w_if (x12 = 0) (
        k_Md_readBraces_139) (
        w_S 14 fun x13 =>
        w_C (f_Md_here x13) fun x14 =>
        w_a 8 220 a1 ((x14 - 48)) <|
        w_a 6 220 a1 6 <|
        w_A 8 220 a1 fun x15 =>
        w_A 7 220 a1 fun x16 =>
        w_if (x16 ≤ x15) (
          w_S 14 fun x17 =>
          w_s 14 ((x17 + 1)) <|
          k_Md_readBraces_139) (
          w_ret .boolean 0)))) (
    w_ret .boolean 0)
set_option maxRecDepth 100000 in
set_option maxHeartbeats 4000000 in
theorem c_Md_readBraces_157 (D : Nat) (hD : 1 ≤ D) (r : Nat) (s0 : Int32) (e1 : Option Value) (e2 : Option Value) (T T1 : qT) (v : Int32) (h : k_Md_readBraces_157 s0 T = some (v, T1)) : q_out (q_ev q_Mt D) q_mMd_readBraces (157, [some (.ref (r + 0)), e1, e2], [.int s0], layM r T) = some (.inl (some (.int v)), layM r T1) := by
  unfold k_Md_readBraces_157 at h
  refine Eq.trans (o_istore_n (lo' := [some (.ref (r + 0)), (q_dk e1), some (.int s0)]) d_Md_readBraces_157 (Nat.le_of_ble_eq_true rfl) ((q_st1_dk (j := 1) (Nat.le_of_ble_eq_true rfl)).trans rfl)) ?_
  refine Eq.trans (o_aload_n d_Md_readBraces_158 rfl) ?_
  refine Eq.trans (o_iload_n d_Md_readBraces_159 rfl) ?_
  refine s_if_eq (t := 172) d_Md_readBraces_160 (by decide) h (fun h => ?_) (fun h => ?_)
  · refine Eq.trans (o_aload_n d_Md_readBraces_172 rfl) ?_
    refine s_get d_Md_readBraces_173 pF_Md_126 (zM_Md_p r) h (fun x1 h => ?_)
    refine s_put d_Md_readBraces_176 pF_Md_126 (zM_Md_p r) h (fun T h => ?_)
    refine Eq.trans (o_iload_n d_Md_readBraces_179 rfl) ?_
    exact s_iret d_Md_readBraces_180 rfl h
  · refine Eq.trans (o_aload_n d_Md_readBraces_163 rfl) ?_
    refine s_get d_Md_readBraces_164 pF_Md_126 (zM_Md_p r) h (fun x2 h => ?_)
    refine Eq.trans (o_iconst (v := 1) d_Md_readBraces_167 (by decide)) ?_
    refine Eq.trans (o_iadd d_Md_readBraces_168) ?_
    refine Eq.trans (o_goto (t := 176) d_Md_readBraces_169 (by decide)) ?_
    refine s_put d_Md_readBraces_176 pF_Md_126 (zM_Md_p r) h (fun T h => ?_)
    refine Eq.trans (o_iload_n d_Md_readBraces_179 rfl) ?_
    exact s_iret d_Md_readBraces_180 rfl h
set_option maxRecDepth 100000 in
set_option maxHeartbeats 4000000 in
theorem c_Md_readBraces_139 (D : Nat) (hD : 1 ≤ D) (r : Nat)  (e1 : Option Value) (e2 : Option Value) (T T1 : qT) (v : Int32) (h : k_Md_readBraces_139 T = some (v, T1)) : q_out (q_ev q_Mt D) q_mMd_readBraces (139, [some (.ref (r + 0)), e1, e2], [], layM r T) = some (.inl (some (.int v)), layM r T1) := by
  unfold k_Md_readBraces_139 at h
  refine Eq.trans (o_aload_n d_Md_readBraces_139 rfl) ?_
  refine Eq.trans (o_aload_n d_Md_readBraces_140 rfl) ?_
  refine s_get d_Md_readBraces_141 pF_Md_126 (zM_Md_p r) h (fun x1 h => ?_)
  obtain ⟨x2, T2, h1, h⟩ := w_C_of h
  refine s_cV1i d_Md_readBraces_144 pM_Md_129 (Nat.le_of_ble_eq_true rfl) (obM_0 r) (c_Md_here D (by omega) r _ _ _ _ h1) ?_
  replace h1 := trivial; revert h; generalize T2 = T; intro h
  refine Eq.trans (o_bipush (v := 125) d_Md_readBraces_147 (by decide)) ?_
  refine s_icmp_ne (t := 156) d_Md_readBraces_149 (by decide) h (fun h => ?_) (fun h => ?_)
  · refine Eq.trans (o_iconst (v := 0) d_Md_readBraces_156 (by decide)) ?_
    exact c_Md_readBraces_157 D hD r _ _ _ _ _ _ h
  · refine Eq.trans (o_iconst (v := 1) d_Md_readBraces_152 (by decide)) ?_
    refine Eq.trans (o_goto (t := 157) d_Md_readBraces_153 (by decide)) ?_
    exact c_Md_readBraces_157 D hD r _ _ _ _ _ _ h
set_option maxRecDepth 100000 in
set_option maxHeartbeats 4000000 in
theorem c_Md_readBraces_0 (D : Nat) (hD : 1 ≤ D) (r : Nat) (a1 : Int32)  (T T1 : qT) (v : Int32) (h : f_Md_readBraces a1 T = some (v, T1)) : q_out (q_ev q_Mt D) q_mMd_readBraces (0, [some (.ref (r + 0)), some (.int a1), none], [], layM r T) = some (.inl (some (.int v)), layM r T1) := by
  unfold f_Md_readBraces at h
  refine Eq.trans (o_aload_n d_Md_readBraces_0 rfl) ?_
  refine Eq.trans (o_aload_n d_Md_readBraces_1 rfl) ?_
  refine s_get d_Md_readBraces_2 pF_Md_126 (zM_Md_p r) h (fun x1 h => ?_)
  obtain ⟨x2, T2, h1, h⟩ := w_C_of h
  refine s_cV1i d_Md_readBraces_5 pM_Md_129 (Nat.le_of_ble_eq_true rfl) (obM_0 r) (c_Md_here D (by omega) r _ _ _ _ h1) ?_
  replace h1 := trivial; revert h; generalize T2 = T; intro h
  obtain ⟨x3, T2, h1, h⟩ := w_C_of h
  refine s_cS1i d_Md_readBraces_8 pM_Md_158 (Nat.le_of_ble_eq_true rfl) (c_Md_isDigit D (by omega) r _ _ _ _ h1) ?_
  replace h1 := trivial; revert h; generalize T2 = T; intro h
  refine s_if_ne (t := 16) d_Md_readBraces_11 (by decide) h (fun h => ?_) (fun h => ?_)
  · refine Eq.trans (o_aload_n d_Md_readBraces_16 rfl) ?_
    refine s_ref d_Md_readBraces_17 pF_Md_33 (zM_Md_least r) ?_
    refine Eq.trans (o_iload_n d_Md_readBraces_20 rfl) ?_
    refine Eq.trans (o_aload_n d_Md_readBraces_21 rfl) ?_
    refine Eq.trans (o_aload_n d_Md_readBraces_22 rfl) ?_
    refine s_get d_Md_readBraces_23 pF_Md_126 (zM_Md_p r) h (fun x4 h => ?_)
    obtain ⟨x5, T2, h1, h⟩ := w_C_of h
    refine s_cV1i d_Md_readBraces_26 pM_Md_129 (Nat.le_of_ble_eq_true rfl) (obM_0 r) (c_Md_here D (by omega) r _ _ _ _ h1) ?_
    replace h1 := trivial; revert h; generalize T2 = T; intro h
    refine Eq.trans (o_bipush (v := 48) d_Md_readBraces_29 (by decide)) ?_
    refine Eq.trans (o_isub d_Md_readBraces_31) ?_
    refine s_iast d_Md_readBraces_32 (rM_7 r) h (fun T h => ?_)
    refine Eq.trans (o_aload_n d_Md_readBraces_33 rfl) ?_
    refine Eq.trans (o_dup d_Md_readBraces_34 rfl) ?_
    refine s_get d_Md_readBraces_35 pF_Md_126 (zM_Md_p r) h (fun x6 h => ?_)
    refine Eq.trans (o_iconst (v := 1) d_Md_readBraces_38 (by decide)) ?_
    refine Eq.trans (o_iadd d_Md_readBraces_39) ?_
    refine s_put d_Md_readBraces_40 pF_Md_126 (zM_Md_p r) h (fun T h => ?_)
    refine Eq.trans (o_aload_n d_Md_readBraces_43 rfl) ?_
    refine Eq.trans (o_aload_n d_Md_readBraces_44 rfl) ?_
    refine s_get d_Md_readBraces_45 pF_Md_126 (zM_Md_p r) h (fun x7 h => ?_)
    obtain ⟨x8, T2, h1, h⟩ := w_C_of h
    refine s_cV1i d_Md_readBraces_48 pM_Md_129 (Nat.le_of_ble_eq_true rfl) (obM_0 r) (c_Md_here D (by omega) r _ _ _ _ h1) ?_
    replace h1 := trivial; revert h; generalize T2 = T; intro h
    refine Eq.trans (o_bipush (v := 44) d_Md_readBraces_51 (by decide)) ?_
    refine s_icmp_ne (t := 139) d_Md_readBraces_53 (by decide) h (fun h => ?_) (fun h => ?_)
    · exact c_Md_readBraces_139 D hD r _ _ _ _ _ h
    · refine Eq.trans (o_aload_n d_Md_readBraces_56 rfl) ?_
      refine Eq.trans (o_dup d_Md_readBraces_57 rfl) ?_
      refine s_get d_Md_readBraces_58 pF_Md_126 (zM_Md_p r) h (fun x9 h => ?_)
      refine Eq.trans (o_iconst (v := 1) d_Md_readBraces_61 (by decide)) ?_
      refine Eq.trans (o_iadd d_Md_readBraces_62) ?_
      refine s_put d_Md_readBraces_63 pF_Md_126 (zM_Md_p r) h (fun T h => ?_)
      refine Eq.trans (o_aload_n d_Md_readBraces_66 rfl) ?_
      refine s_ref d_Md_readBraces_67 pF_Md_30 (zM_Md_a r) ?_
      refine Eq.trans (o_iload_n d_Md_readBraces_70 rfl) ?_
      refine Eq.trans (o_iconst (v := 5) d_Md_readBraces_71 (by decide)) ?_
      refine s_iast d_Md_readBraces_72 (rM_6 r) h (fun T h => ?_)
      refine Eq.trans (o_aload_n d_Md_readBraces_73 rfl) ?_
      refine Eq.trans (o_aload_n d_Md_readBraces_74 rfl) ?_
      refine s_get d_Md_readBraces_75 pF_Md_126 (zM_Md_p r) h (fun x10 h => ?_)
      obtain ⟨x11, T2, h1, h⟩ := w_C_of h
      refine s_cV1i d_Md_readBraces_78 pM_Md_129 (Nat.le_of_ble_eq_true rfl) (obM_0 r) (c_Md_here D (by omega) r _ _ _ _ h1) ?_
      replace h1 := trivial; revert h; generalize T2 = T; intro h
      obtain ⟨x12, T2, h1, h⟩ := w_C_of h
      refine s_cS1i d_Md_readBraces_81 pM_Md_158 (Nat.le_of_ble_eq_true rfl) (c_Md_isDigit D (by omega) r _ _ _ _ h1) ?_
      replace h1 := trivial; revert h; generalize T2 = T; intro h
      refine s_if_eq (t := 139) d_Md_readBraces_84 (by decide) h (fun h => ?_) (fun h => ?_)
      · exact c_Md_readBraces_139 D hD r _ _ _ _ _ h
      · refine Eq.trans (o_aload_n d_Md_readBraces_87 rfl) ?_
        refine s_ref d_Md_readBraces_88 pF_Md_36 (zM_Md_most r) ?_
        refine Eq.trans (o_iload_n d_Md_readBraces_91 rfl) ?_
        refine Eq.trans (o_aload_n d_Md_readBraces_92 rfl) ?_
        refine Eq.trans (o_aload_n d_Md_readBraces_93 rfl) ?_
        refine s_get d_Md_readBraces_94 pF_Md_126 (zM_Md_p r) h (fun x13 h => ?_)
        obtain ⟨x14, T2, h1, h⟩ := w_C_of h
        refine s_cV1i d_Md_readBraces_97 pM_Md_129 (Nat.le_of_ble_eq_true rfl) (obM_0 r) (c_Md_here D (by omega) r _ _ _ _ h1) ?_
        replace h1 := trivial; revert h; generalize T2 = T; intro h
        refine Eq.trans (o_bipush (v := 48) d_Md_readBraces_100 (by decide)) ?_
        refine Eq.trans (o_isub d_Md_readBraces_102) ?_
        refine s_iast d_Md_readBraces_103 (rM_8 r) h (fun T h => ?_)
        refine Eq.trans (o_aload_n d_Md_readBraces_104 rfl) ?_
        refine s_ref d_Md_readBraces_105 pF_Md_30 (zM_Md_a r) ?_
        refine Eq.trans (o_iload_n d_Md_readBraces_108 rfl) ?_
        refine Eq.trans (o_bipush (v := 6) d_Md_readBraces_109 (by decide)) ?_
        refine s_iast d_Md_readBraces_111 (rM_6 r) h (fun T h => ?_)
        refine Eq.trans (o_aload_n d_Md_readBraces_112 rfl) ?_
        refine s_ref d_Md_readBraces_113 pF_Md_36 (zM_Md_most r) ?_
        refine Eq.trans (o_iload_n d_Md_readBraces_116 rfl) ?_
        refine s_iald d_Md_readBraces_117 (rM_8 r) h (fun x15 h => ?_)
        refine Eq.trans (o_aload_n d_Md_readBraces_118 rfl) ?_
        refine s_ref d_Md_readBraces_119 pF_Md_33 (zM_Md_least r) ?_
        refine Eq.trans (o_iload_n d_Md_readBraces_122 rfl) ?_
        refine s_iald d_Md_readBraces_123 (rM_7 r) h (fun x16 h => ?_)
        refine s_icmp_ge (t := 129) d_Md_readBraces_124 (by decide) h (fun h => ?_) (fun h => ?_)
        · refine Eq.trans (o_aload_n d_Md_readBraces_129 rfl) ?_
          refine Eq.trans (o_dup d_Md_readBraces_130 rfl) ?_
          refine s_get d_Md_readBraces_131 pF_Md_126 (zM_Md_p r) h (fun x17 h => ?_)
          refine Eq.trans (o_iconst (v := 1) d_Md_readBraces_134 (by decide)) ?_
          refine Eq.trans (o_iadd d_Md_readBraces_135) ?_
          refine s_put d_Md_readBraces_136 pF_Md_126 (zM_Md_p r) h (fun T h => ?_)
          exact c_Md_readBraces_139 D hD r _ _ _ _ _ h
        · refine Eq.trans (o_iconst (v := 0) d_Md_readBraces_127 (by decide)) ?_
          exact s_iret d_Md_readBraces_128 rfl h
  · refine Eq.trans (o_iconst (v := 0) d_Md_readBraces_14 (by decide)) ?_
    exact s_iret d_Md_readBraces_15 rfl h
theorem c_Md_readBraces (D : Nat) (hD : 2 ≤ D) (r : Nat) (a1 : Int32) (T T1 : qT) (v : Int32) (h : f_Md_readBraces a1 T = some (v, T1)) : q_ev q_Mt D 84 [.ref (r + 0), .int a1] (layM r T) = some (.inl (some (.int v)), layM r T1) := by
  obtain ⟨D, rfl⟩ : ∃ D', D = D' + 1 := ⟨D - 1, by omega⟩
  rw [o_ev (M := q_mMd_readBraces) (lo := [some (.ref (r + 0)), some (.int a1), none]) rfl (Nat.le_of_ble_eq_true rfl) rfl]
  exact c_Md_readBraces_0 D (by omega) r a1 T T1 v h
