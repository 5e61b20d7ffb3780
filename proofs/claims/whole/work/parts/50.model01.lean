noncomputable def k_Md_readCount_121 (v1 : Int32) (s0 : Int32) (s1 : Int32) : qW Int32 :=
  w_a 9 220 s1 ((vp_nar .boolean s0)) <|
  w_A 9 220 v1 fun x1 =>
  w_if (x1 = 0) (
    w_S 14 fun x2 =>
    w_s 14 x2 <|
    w_ret .boolean 1) (
    w_S 14 fun x3 =>
    w_s 14 ((x3 + 1)) <|
    w_ret .boolean 1)
noncomputable def k_Md_readCount_98 (v1 : Int32) : qW Int32 :=
  w_S 14 fun x1 =>
  w_C (f_Md_here x1) fun x2 =>
  w_if (¬ x2 = 63) (
    k_Md_readCount_121 v1 0 v1) (
    k_Md_readCount_121 v1 1 v1)
noncomputable def k_Md_readCount_81 (v1 : Int32) (v2 : Int32) (s0 : Int32) (s1 : Int32) : qW Int32 :=
  w_a 6 220 s1 s0 <|
  w_if (¬ v2 = 123) (
    k_Md_readCount_98 v1) (
    w_C (f_Md_readBraces v1) fun x1 =>
    w_if (¬ x1 = 0) (
      k_Md_readCount_98 v1) (
      w_ret .boolean 0))
noncomputable def k_Md_readCount_35 (v1 : Int32) (v2 : Int32) : qW Int32 :=
  w_S 14 fun x1 =>
  w_s 14 ((x1 + 1)) <|
  w_if (¬ v2 = 42) (
    w_if (¬ v2 = 43) (
      w_if (¬ v2 = 63) (
        k_Md_readCount_81 v1 v2 4 v1) (
        k_Md_readCount_81 v1 v2 3 v1)) (
      k_Md_readCount_81 v1 v2 2 v1)) (
    k_Md_readCount_81 v1 v2 1 v1)
noncomputable def f_Md_readCount (a1 : Int32) : qW Int32 :=
  w_S 14 fun x1 =>
  w_C (f_Md_here x1) fun x2 =>
  w_if (x2 = 42) (
    k_Md_readCount_35 a1 x2) (
    w_if (x2 = 43) (
      k_Md_readCount_35 a1 x2) (
      w_if (x2 = 63) (
        k_Md_readCount_35 a1 x2) (
        w_if (x2 = 123) (
          k_Md_readCount_35 a1 x2) (
          w_ret .boolean 1))))
set_option maxRecDepth 100000 in
set_option maxHeartbeats 4000000 in
theorem c_Md_readCount_121 (D : Nat) (hD : 2 ≤ D) (r : Nat) (v1 : Int32) (s0 : Int32) (s1 : Int32) (e2 : Option Value) (T T1 : qT) (v : Int32) (h : k_Md_readCount_121 v1 s0 s1 T = some (v, T1)) : q_out (q_ev q_Mt D) q_mMd_readCount (121, [some (.ref (r + 0)), some (.int v1), e2], [.int s0, .int s1, .ref (r + 9)], layM r T) = some (.inl (some (.int v)), layM r T1) := by
  unfold k_Md_readCount_121 at h
  refine s_zast d_Md_readCount_121 (rM_9 r) h (fun T h => ?_)
  refine Eq.trans (o_aload_n d_Md_readCount_122 rfl) ?_
  refine Eq.trans (o_aload_n d_Md_readCount_123 rfl) ?_
  refine s_ref d_Md_readCount_124 pF_Md_39 (zM_Md_lazy r) ?_
  refine Eq.trans (o_iload_n d_Md_readCount_127 rfl) ?_
  refine s_zald d_Md_readCount_128 (rM_9 r) h (fun x1 h => ?_)
  refine s_if_eq (t := 141) d_Md_readCount_129 (by decide) h (fun h => ?_) (fun h => ?_)
  · refine Eq.trans (o_aload_n d_Md_readCount_141 rfl) ?_
    refine s_get d_Md_readCount_142 pF_Md_126 (zM_Md_p r) h (fun x2 h => ?_)
    refine s_put d_Md_readCount_145 pF_Md_126 (zM_Md_p r) h (fun T h => ?_)
    refine Eq.trans (o_iconst (v := 1) d_Md_readCount_148 (by decide)) ?_
    exact s_iret d_Md_readCount_149 rfl h
  · refine Eq.trans (o_aload_n d_Md_readCount_132 rfl) ?_
    refine s_get d_Md_readCount_133 pF_Md_126 (zM_Md_p r) h (fun x3 h => ?_)
    refine Eq.trans (o_iconst (v := 1) d_Md_readCount_136 (by decide)) ?_
    refine Eq.trans (o_iadd d_Md_readCount_137) ?_
    refine Eq.trans (o_goto (t := 145) d_Md_readCount_138 (by decide)) ?_
    refine s_put d_Md_readCount_145 pF_Md_126 (zM_Md_p r) h (fun T h => ?_)
    refine Eq.trans (o_iconst (v := 1) d_Md_readCount_148 (by decide)) ?_
    exact s_iret d_Md_readCount_149 rfl h
set_option maxRecDepth 100000 in
set_option maxHeartbeats 4000000 in
theorem c_Md_readCount_98 (D : Nat) (hD : 2 ≤ D) (r : Nat) (v1 : Int32) (e2 : Option Value) (T T1 : qT) (v : Int32) (h : k_Md_readCount_98 v1 T = some (v, T1)) : q_out (q_ev q_Mt D) q_mMd_readCount (98, [some (.ref (r + 0)), some (.int v1), e2], [], layM r T) = some (.inl (some (.int v)), layM r T1) := by
  unfold k_Md_readCount_98 at h
  refine Eq.trans (o_aload_n d_Md_readCount_98 rfl) ?_
  refine s_ref d_Md_readCount_99 pF_Md_39 (zM_Md_lazy r) ?_
  refine Eq.trans (o_iload_n d_Md_readCount_102 rfl) ?_
  refine Eq.trans (o_aload_n d_Md_readCount_103 rfl) ?_
  refine Eq.trans (o_aload_n d_Md_readCount_104 rfl) ?_
  refine s_get d_Md_readCount_105 pF_Md_126 (zM_Md_p r) h (fun x1 h => ?_)
  obtain ⟨x2, T2, h1, h⟩ := w_C_of h
  refine s_cV1i d_Md_readCount_108 pM_Md_129 (Nat.le_of_ble_eq_true rfl) (obM_0 r) (c_Md_here D (by omega) r _ _ _ _ h1) ?_
  replace h1 := trivial; revert h; generalize T2 = T; intro h
  refine Eq.trans (o_bipush (v := 63) d_Md_readCount_111 (by decide)) ?_
  refine s_icmp_ne (t := 120) d_Md_readCount_113 (by decide) h (fun h => ?_) (fun h => ?_)
  · refine Eq.trans (o_iconst (v := 0) d_Md_readCount_120 (by decide)) ?_
    exact c_Md_readCount_121 D hD r _ _ _ _ _ _ _ h
  · refine Eq.trans (o_iconst (v := 1) d_Md_readCount_116 (by decide)) ?_
    refine Eq.trans (o_goto (t := 121) d_Md_readCount_117 (by decide)) ?_
    exact c_Md_readCount_121 D hD r _ _ _ _ _ _ _ h
set_option maxRecDepth 100000 in
set_option maxHeartbeats 4000000 in
theorem c_Md_readCount_81 (D : Nat) (hD : 2 ≤ D) (r : Nat) (v1 : Int32) (v2 : Int32) (s0 : Int32) (s1 : Int32)  (T T1 : qT) (v : Int32) (h : k_Md_readCount_81 v1 v2 s0 s1 T = some (v, T1)) : q_out (q_ev q_Mt D) q_mMd_readCount (81, [some (.ref (r + 0)), some (.int v1), some (.int v2)], [.int s0, .int s1, .ref (r + 6)], layM r T) = some (.inl (some (.int v)), layM r T1) := by
  unfold k_Md_readCount_81 at h
  refine s_iast d_Md_readCount_81 (rM_6 r) h (fun T h => ?_)
  refine Eq.trans (o_iload_n d_Md_readCount_82 rfl) ?_
  refine Eq.trans (o_bipush (v := 123) d_Md_readCount_83 (by decide)) ?_
  refine s_icmp_ne (t := 98) d_Md_readCount_85 (by decide) h (fun h => ?_) (fun h => ?_)
  · exact c_Md_readCount_98 D hD r _ _ _ _ _ h
  · refine Eq.trans (o_aload_n d_Md_readCount_88 rfl) ?_
    refine Eq.trans (o_iload_n d_Md_readCount_89 rfl) ?_
    obtain ⟨x1, T2, h1, h⟩ := w_C_of h
    refine s_cV1i d_Md_readCount_90 pM_Md_155 (Nat.le_of_ble_eq_true rfl) (obM_0 r) (c_Md_readBraces D (by omega) r _ _ _ _ h1) ?_
    replace h1 := trivial; revert h; generalize T2 = T; intro h
    refine s_if_ne (t := 98) d_Md_readCount_93 (by decide) h (fun h => ?_) (fun h => ?_)
    · exact c_Md_readCount_98 D hD r _ _ _ _ _ h
    · refine Eq.trans (o_iconst (v := 0) d_Md_readCount_96 (by decide)) ?_
      exact s_iret d_Md_readCount_97 rfl h
set_option maxRecDepth 100000 in
set_option maxHeartbeats 4000000 in
theorem c_Md_readCount_35 (D : Nat) (hD : 2 ≤ D) (r : Nat) (v1 : Int32) (v2 : Int32)  (T T1 : qT) (v : Int32) (h : k_Md_readCount_35 v1 v2 T = some (v, T1)) : q_out (q_ev q_Mt D) q_mMd_readCount (35, [some (.ref (r + 0)), some (.int v1), some (.int v2)], [], layM r T) = some (.inl (some (.int v)), layM r T1) := by
  unfold k_Md_readCount_35 at h
  refine Eq.trans (o_aload_n d_Md_readCount_35 rfl) ?_
  refine Eq.trans (o_dup d_Md_readCount_36 rfl) ?_
  refine s_get d_Md_readCount_37 pF_Md_126 (zM_Md_p r) h (fun x1 h => ?_)
  refine Eq.trans (o_iconst (v := 1) d_Md_readCount_40 (by decide)) ?_
  refine Eq.trans (o_iadd d_Md_readCount_41) ?_
  refine s_put d_Md_readCount_42 pF_Md_126 (zM_Md_p r) h (fun T h => ?_)
  refine Eq.trans (o_aload_n d_Md_readCount_45 rfl) ?_
  refine s_ref d_Md_readCount_46 pF_Md_30 (zM_Md_a r) ?_
  refine Eq.trans (o_iload_n d_Md_readCount_49 rfl) ?_
  refine Eq.trans (o_iload_n d_Md_readCount_50 rfl) ?_
  refine Eq.trans (o_bipush (v := 42) d_Md_readCount_51 (by decide)) ?_
  refine s_icmp_ne (t := 60) d_Md_readCount_53 (by decide) h (fun h => ?_) (fun h => ?_)
  · refine Eq.trans (o_iload_n d_Md_readCount_60 rfl) ?_
    refine Eq.trans (o_bipush (v := 43) d_Md_readCount_61 (by decide)) ?_
    refine s_icmp_ne (t := 70) d_Md_readCount_63 (by decide) h (fun h => ?_) (fun h => ?_)
    · refine Eq.trans (o_iload_n d_Md_readCount_70 rfl) ?_
      refine Eq.trans (o_bipush (v := 63) d_Md_readCount_71 (by decide)) ?_
      refine s_icmp_ne (t := 80) d_Md_readCount_73 (by decide) h (fun h => ?_) (fun h => ?_)
      · refine Eq.trans (o_iconst (v := 4) d_Md_readCount_80 (by decide)) ?_
        exact c_Md_readCount_81 D hD r _ _ _ _ _ _ _ h
      · refine Eq.trans (o_iconst (v := 3) d_Md_readCount_76 (by decide)) ?_
        refine Eq.trans (o_goto (t := 81) d_Md_readCount_77 (by decide)) ?_
        exact c_Md_readCount_81 D hD r _ _ _ _ _ _ _ h
    · refine Eq.trans (o_iconst (v := 2) d_Md_readCount_66 (by decide)) ?_
      refine Eq.trans (o_goto (t := 81) d_Md_readCount_67 (by decide)) ?_
      exact c_Md_readCount_81 D hD r _ _ _ _ _ _ _ h
  · refine Eq.trans (o_iconst (v := 1) d_Md_readCount_56 (by decide)) ?_
    refine Eq.trans (o_goto (t := 81) d_Md_readCount_57 (by decide)) ?_
    exact c_Md_readCount_81 D hD r _ _ _ _ _ _ _ h
set_option maxRecDepth 100000 in
set_option maxHeartbeats 4000000 in
theorem c_Md_readCount_0 (D : Nat) (hD : 2 ≤ D) (r : Nat) (a1 : Int32)  (T T1 : qT) (v : Int32) (h : f_Md_readCount a1 T = some (v, T1)) : q_out (q_ev q_Mt D) q_mMd_readCount (0, [some (.ref (r + 0)), some (.int a1), none], [], layM r T) = some (.inl (some (.int v)), layM r T1) := by
  unfold f_Md_readCount at h
  refine Eq.trans (o_aload_n d_Md_readCount_0 rfl) ?_
  refine Eq.trans (o_aload_n d_Md_readCount_1 rfl) ?_
  refine s_get d_Md_readCount_2 pF_Md_126 (zM_Md_p r) h (fun x1 h => ?_)
  obtain ⟨x2, T2, h1, h⟩ := w_C_of h
  refine s_cV1i d_Md_readCount_5 pM_Md_129 (Nat.le_of_ble_eq_true rfl) (obM_0 r) (c_Md_here D (by omega) r _ _ _ _ h1) ?_
  replace h1 := trivial; revert h; generalize T2 = T; intro h
  refine Eq.trans (o_istore_n (lo' := [some (.ref (r + 0)), some (.int a1), some (.int x2)]) d_Md_readCount_8 (Nat.le_of_ble_eq_true rfl) rfl) ?_
  refine Eq.trans (o_iload_n d_Md_readCount_9 rfl) ?_
  refine Eq.trans (o_bipush (v := 42) d_Md_readCount_10 (by decide)) ?_
  refine s_icmp_eq (t := 35) d_Md_readCount_12 (by decide) h (fun h => ?_) (fun h => ?_)
  · exact c_Md_readCount_35 D hD r _ _ _ _ _ h
  · refine Eq.trans (o_iload_n d_Md_readCount_15 rfl) ?_
    refine Eq.trans (o_bipush (v := 43) d_Md_readCount_16 (by decide)) ?_
    refine s_icmp_eq (t := 35) d_Md_readCount_18 (by decide) h (fun h => ?_) (fun h => ?_)
    · exact c_Md_readCount_35 D hD r _ _ _ _ _ h
    · refine Eq.trans (o_iload_n d_Md_readCount_21 rfl) ?_
      refine Eq.trans (o_bipush (v := 63) d_Md_readCount_22 (by decide)) ?_
      refine s_icmp_eq (t := 35) d_Md_readCount_24 (by decide) h (fun h => ?_) (fun h => ?_)
      · exact c_Md_readCount_35 D hD r _ _ _ _ _ h
      · refine Eq.trans (o_iload_n d_Md_readCount_27 rfl) ?_
        refine Eq.trans (o_bipush (v := 123) d_Md_readCount_28 (by decide)) ?_
        refine s_icmp_eq (t := 35) d_Md_readCount_30 (by decide) h (fun h => ?_) (fun h => ?_)
        · exact c_Md_readCount_35 D hD r _ _ _ _ _ h
        · refine Eq.trans (o_iconst (v := 1) d_Md_readCount_33 (by decide)) ?_
          exact s_iret d_Md_readCount_34 rfl h
theorem c_Md_readCount (D : Nat) (hD : 3 ≤ D) (r : Nat) (a1 : Int32) (T T1 : qT) (v : Int32) (h : f_Md_readCount a1 T = some (v, T1)) : q_ev q_Mt D 83 [.ref (r + 0), .int a1] (layM r T) = some (.inl (some (.int v)), layM r T1) := by
  obtain ⟨D, rfl⟩ : ∃ D', D = D' + 1 := ⟨D - 1, by omega⟩
  rw [o_ev (M := q_mMd_readCount) (lo := [some (.ref (r + 0)), some (.int a1), none]) rfl (Nat.le_of_ble_eq_true rfl) rfl]
  exact c_Md_readCount_0 D (by omega) r a1 T T1 v h
noncomputable def k_Md_include_3 (v1 : Int32) (v3 : Int32) (v4 : Int32) : qW (qJ ⊕ Unit) :=
  w_if (v3 < v4) (
    w_rt ()) (
    w_A 14 400 (((8 * v1) + (v4 / 32))) fun x1 =>
    w_a 14 400 (((8 * v1) + (v4 / 32))) ((x1 ||| ((1 : Int32) <<< (((v4 - v4 / 32 * 32) : Int32) &&& 31)))) <|
    w_go 3 [.int v1, .int v3, .int (v4 + 1)] [])
noncomputable def k_Md_include_0 (a1 : Int32) (a2 : Int32) (a3 : Int32) : qW (qJ ⊕ Unit) :=
  w_go 3 [.int a1, .int a3, .int a2] []
noncomputable def b_Md_include : qJ → qW (qJ ⊕ Unit) := fun x => match x with
  | (0, [.int a1, .int a2, .int a3], []) => k_Md_include_0 a1 a2 a3
  | (3, [.int v1, .int v3, .int v4], []) => k_Md_include_3 v1 v3 v4
  | _ => w_no
noncomputable def f_Md_include (a1 : Int32) (a2 : Int32) (a3 : Int32) : qW Unit := w_fix b_Md_include (0, [.int a1, .int a2, .int a3], [])
set_option maxRecDepth 100000 in
set_option maxHeartbeats 4000000 in
theorem c_Md_include_3 (D : Nat) (hD : 0 ≤ D) (r : Nat) (n : Nat) (ih_3 : ∀ (v1 : Int32) (v3 : Int32) (v4 : Int32) (e2 : Option Value) (T T2 : qT) (v : Unit), w_run b_Md_include n (3, [.int v1, .int v3, .int v4], []) T = some (v, T2) → q_out (q_ev q_Mt D) q_mMd_include (3, [some (.ref (r + 0)), some (.int v1), e2, some (.int v3), some (.int v4)], [], layM r T) = some (.inl (none), layM r T2)) (v1 : Int32) (v3 : Int32) (v4 : Int32) (e2 : Option Value) (T T1 T2 : qT) (rr : qJ ⊕ Unit) (v : Unit) (h : k_Md_include_3 v1 v3 v4 T = some (rr, T1)) (hE : w_end b_Md_include n rr T1 = some (v, T2)) : q_out (q_ev q_Mt D) q_mMd_include (3, [some (.ref (r + 0)), some (.int v1), e2, some (.int v3), some (.int v4)], [], layM r T) = some (.inl (none), layM r T2) := by
  unfold k_Md_include_3 at h
  refine Eq.trans (o_iload d_Md_include_3 rfl) ?_
  refine Eq.trans (o_iload_n d_Md_include_5 rfl) ?_
  refine s_icmp_gt (t := 53) d_Md_include_6 (by decide) h (fun h => ?_) (fun h => ?_)
  · exact s_vretJ d_Md_include_53 rfl h hE
  · refine Eq.trans (o_aload_n d_Md_include_9 rfl) ?_
    refine s_ref d_Md_include_10 pF_Md_55 (zM_Md_bits r) ?_
    refine Eq.trans (o_bipush (v := 8) d_Md_include_13 (by decide)) ?_
    refine Eq.trans (o_iload_n d_Md_include_15 rfl) ?_
    refine Eq.trans (o_imul d_Md_include_16) ?_
    refine Eq.trans (o_iload d_Md_include_17 rfl) ?_
    refine Eq.trans (o_bipush (v := 32) d_Md_include_19 (by decide)) ?_
    refine Eq.trans (o_idiv d_Md_include_21 (by decide)) ?_
    refine Eq.trans (o_iadd d_Md_include_22) ?_
    refine Eq.trans (o_aload_n d_Md_include_23 rfl) ?_
    refine s_ref d_Md_include_24 pF_Md_55 (zM_Md_bits r) ?_
    refine Eq.trans (o_bipush (v := 8) d_Md_include_27 (by decide)) ?_
    refine Eq.trans (o_iload_n d_Md_include_29 rfl) ?_
    refine Eq.trans (o_imul d_Md_include_30) ?_
    refine Eq.trans (o_iload d_Md_include_31 rfl) ?_
    refine Eq.trans (o_bipush (v := 32) d_Md_include_33 (by decide)) ?_
    refine Eq.trans (o_idiv d_Md_include_35 (by decide)) ?_
    refine Eq.trans (o_iadd d_Md_include_36) ?_
    refine s_iald d_Md_include_37 (rM_14 r) h (fun x1 h => ?_)
    refine Eq.trans (o_iconst (v := 1) d_Md_include_38 (by decide)) ?_
    refine Eq.trans (o_iload d_Md_include_39 rfl) ?_
    refine Eq.trans (o_bipush (v := 32) d_Md_include_41 (by decide)) ?_
    refine Eq.trans (o_irem d_Md_include_43 (by decide)) ?_
    refine Eq.trans (o_ishl d_Md_include_44) ?_
    refine Eq.trans (o_ior d_Md_include_45) ?_
    refine s_iast d_Md_include_46 (rM_14 r) h (fun T h => ?_)
    refine Eq.trans (o_iinc (v := (v4 + 1)) (lo' := [some (.ref (r + 0)), some (.int v1), e2, some (.int v3), some (.int (v4 + 1))]) d_Md_include_47 rfl (by rw [show Int32.ofInt 1 = 1 from by decide]) (Nat.le_of_ble_eq_true rfl) rfl) ?_
    refine Eq.trans (o_goto (t := 3) d_Md_include_50 (by decide)) ?_
    exact ih_3 _ _ _ _ _ _ _ (s_jump h hE)
set_option maxRecDepth 100000 in
set_option maxHeartbeats 4000000 in
theorem c_Md_include_0 (D : Nat) (hD : 0 ≤ D) (r : Nat) (n : Nat) (ih_3 : ∀ (v1 : Int32) (v3 : Int32) (v4 : Int32) (e2 : Option Value) (T T2 : qT) (v : Unit), w_run b_Md_include n (3, [.int v1, .int v3, .int v4], []) T = some (v, T2) → q_out (q_ev q_Mt D) q_mMd_include (3, [some (.ref (r + 0)), some (.int v1), e2, some (.int v3), some (.int v4)], [], layM r T) = some (.inl (none), layM r T2)) (a1 : Int32) (a2 : Int32) (a3 : Int32)  (T T1 T2 : qT) (rr : qJ ⊕ Unit) (v : Unit) (h : k_Md_include_0 a1 a2 a3 T = some (rr, T1)) (hE : w_end b_Md_include n rr T1 = some (v, T2)) : q_out (q_ev q_Mt D) q_mMd_include (0, [some (.ref (r + 0)), some (.int a1), some (.int a2), some (.int a3), none], [], layM r T) = some (.inl (none), layM r T2) := by
  unfold k_Md_include_0 at h
  refine Eq.trans (o_iload_n d_Md_include_0 rfl) ?_
  refine Eq.trans (o_istore (lo' := [some (.ref (r + 0)), some (.int a1), some (.int a2), some (.int a3), some (.int a2)]) d_Md_include_1 (Nat.le_of_ble_eq_true rfl) rfl) ?_
  exact ih_3 _ _ _ _ _ _ _ (s_jump h hE)
theorem c_Md_include_lp (D : Nat) (hD : 0 ≤ D) (r : Nat) : ∀ n : Nat, (∀ (v1 : Int32) (v3 : Int32) (v4 : Int32) (e2 : Option Value) (T T2 : qT) (v : Unit), w_run b_Md_include n (3, [.int v1, .int v3, .int v4], []) T = some (v, T2) → q_out (q_ev q_Mt D) q_mMd_include (3, [some (.ref (r + 0)), some (.int v1), e2, some (.int v3), some (.int v4)], [], layM r T) = some (.inl (none), layM r T2)) := by
  intro n
  induction n with
  | zero => exact (fun v1 v3 v4 e2 T T2 v h => by cases h)
  | succ n ih =>
    have ih_3 := ih
    · intro v1 v3 v4 e2 T T2 v h
      obtain ⟨rr, T1, hb, hE⟩ := w_run_succ h
      exact c_Md_include_3 D hD r n ih_3 v1 v3 v4 e2 T T1 T2 rr v hb hE
theorem c_Md_include (D : Nat) (hD : 1 ≤ D) (r : Nat) (a1 : Int32) (a2 : Int32) (a3 : Int32) (T T2 : qT) (v : Unit) (h : f_Md_include a1 a2 a3 T = some (v, T2)) : q_ev q_Mt D 91 [.ref (r + 0), .int a1, .int a2, .int a3] (layM r T) = some (.inl (none), layM r T2) := by
  obtain ⟨D, rfl⟩ : ∃ D', D = D' + 1 := ⟨D - 1, by omega⟩
  obtain ⟨n, hn⟩ := w_fix_iff.mp h
  cases n with
  | zero => cases hn
  | succ n =>
    obtain ⟨rr, T1, hb, hE⟩ := w_run_succ hn
    have hl := c_Md_include_lp D (by omega) r n
    have ih_3 := hl
    rw [o_ev (M := q_mMd_include) (lo := [some (.ref (r + 0)), some (.int a1), some (.int a2), some (.int a3), none]) rfl (Nat.le_of_ble_eq_true rfl) rfl]
    exact c_Md_include_0 D (by omega) r n ih_3 a1 a2 a3 T T1 T2 rr v hb hE
noncomputable def k_Md_includeSpecial_54 (v1 : Int32) (v2 : Int32) : qW Unit :=
  w_if (v2 = 100) (
    w_pure ()) (
    w_if (v2 = 119) (
      w_pure ()) (
      w_C (f_Md_include v1 v2 v2) fun _ =>
      w_pure ()))
noncomputable def k_Md_includeSpecial_21 (v1 : Int32) (v2 : Int32) : qW Unit :=
  w_if (¬ v2 = 119) (
    k_Md_includeSpecial_54 v1 v2) (
    w_C (f_Md_include v1 97 122) fun _ =>
    w_C (f_Md_include v1 65 90) fun _ =>
    w_C (f_Md_include v1 95 95) fun _ =>
    k_Md_includeSpecial_54 v1 v2)
noncomputable def k_Md_includeSpecial_12 (v1 : Int32) (v2 : Int32) : qW Unit :=
  w_C (f_Md_include v1 48 57) fun _ =>
  k_Md_includeSpecial_21 v1 v2
noncomputable def f_Md_includeSpecial (a1 : Int32) (a2 : Int32) : qW Unit :=
  w_if (a2 = 100) (
    k_Md_includeSpecial_12 a1 a2) (
    w_if (¬ a2 = 119) (
      k_Md_includeSpecial_21 a1 a2) (
      k_Md_includeSpecial_12 a1 a2))
set_option maxRecDepth 100000 in
set_option maxHeartbeats 4000000 in
theorem c_Md_includeSpecial_54 (D : Nat) (hD : 1 ≤ D) (r : Nat) (v1 : Int32) (v2 : Int32)  (T T1 : qT) (v : Unit) (h : k_Md_includeSpecial_54 v1 v2 T = some (v, T1)) : q_out (q_ev q_Mt D) q_mMd_includeSpecial (54, [some (.ref (r + 0)), some (.int v1), some (.int v2)], [], layM r T) = some (.inl (none), layM r T1) := by
  unfold k_Md_includeSpecial_54 at h
  refine Eq.trans (o_iload_n d_Md_includeSpecial_54 rfl) ?_
  refine Eq.trans (o_bipush (v := 100) d_Md_includeSpecial_55 (by decide)) ?_
  refine s_icmp_eq (t := 73) d_Md_includeSpecial_57 (by decide) h (fun h => ?_) (fun h => ?_)
  · exact s_vret d_Md_includeSpecial_73 rfl h
  · refine Eq.trans (o_iload_n d_Md_includeSpecial_60 rfl) ?_
    refine Eq.trans (o_bipush (v := 119) d_Md_includeSpecial_61 (by decide)) ?_
    refine s_icmp_eq (t := 73) d_Md_includeSpecial_63 (by decide) h (fun h => ?_) (fun h => ?_)
    · exact s_vret d_Md_includeSpecial_73 rfl h
    · refine Eq.trans (o_aload_n d_Md_includeSpecial_66 rfl) ?_
      refine Eq.trans (o_iload_n d_Md_includeSpecial_67 rfl) ?_
      refine Eq.trans (o_iload_n d_Md_includeSpecial_68 rfl) ?_
      refine Eq.trans (o_iload_n d_Md_includeSpecial_69 rfl) ?_
      obtain ⟨u9, T2, h1, h⟩ := w_C_of h
      refine s_cV3v d_Md_includeSpecial_70 pM_Md_118 (Nat.le_of_ble_eq_true rfl) (obM_0 r) (c_Md_include D (by omega) r _ _ _ _ _ _ h1) ?_
      replace h1 := trivial; revert h; generalize T2 = T; intro h
      exact s_vret d_Md_includeSpecial_73 rfl h
set_option maxRecDepth 100000 in
set_option maxHeartbeats 4000000 in
theorem c_Md_includeSpecial_21 (D : Nat) (hD : 1 ≤ D) (r : Nat) (v1 : Int32) (v2 : Int32)  (T T1 : qT) (v : Unit) (h : k_Md_includeSpecial_21 v1 v2 T = some (v, T1)) : q_out (q_ev q_Mt D) q_mMd_includeSpecial (21, [some (.ref (r + 0)), some (.int v1), some (.int v2)], [], layM r T) = some (.inl (none), layM r T1) := by
  unfold k_Md_includeSpecial_21 at h
  refine Eq.trans (o_iload_n d_Md_includeSpecial_21 rfl) ?_
  refine Eq.trans (o_bipush (v := 119) d_Md_includeSpecial_22 (by decide)) ?_
  refine s_icmp_ne (t := 54) d_Md_includeSpecial_24 (by decide) h (fun h => ?_) (fun h => ?_)
  · exact c_Md_includeSpecial_54 D hD r _ _ _ _ _ h
  · refine Eq.trans (o_aload_n d_Md_includeSpecial_27 rfl) ?_
    refine Eq.trans (o_iload_n d_Md_includeSpecial_28 rfl) ?_
    refine Eq.trans (o_bipush (v := 97) d_Md_includeSpecial_29 (by decide)) ?_
    refine Eq.trans (o_bipush (v := 122) d_Md_includeSpecial_31 (by decide)) ?_
    obtain ⟨u9, T2, h1, h⟩ := w_C_of h
    refine s_cV3v d_Md_includeSpecial_33 pM_Md_118 (Nat.le_of_ble_eq_true rfl) (obM_0 r) (c_Md_include D (by omega) r _ _ _ _ _ _ h1) ?_
    replace h1 := trivial; revert h; generalize T2 = T; intro h
    refine Eq.trans (o_aload_n d_Md_includeSpecial_36 rfl) ?_
    refine Eq.trans (o_iload_n d_Md_includeSpecial_37 rfl) ?_
    refine Eq.trans (o_bipush (v := 65) d_Md_includeSpecial_38 (by decide)) ?_
    refine Eq.trans (o_bipush (v := 90) d_Md_includeSpecial_40 (by decide)) ?_
    obtain ⟨u9, T2, h1, h⟩ := w_C_of h
    refine s_cV3v d_Md_includeSpecial_42 pM_Md_118 (Nat.le_of_ble_eq_true rfl) (obM_0 r) (c_Md_include D (by omega) r _ _ _ _ _ _ h1) ?_
    replace h1 := trivial; revert h; generalize T2 = T; intro h
    refine Eq.trans (o_aload_n d_Md_includeSpecial_45 rfl) ?_
    refine Eq.trans (o_iload_n d_Md_includeSpecial_46 rfl) ?_
    refine Eq.trans (o_bipush (v := 95) d_Md_includeSpecial_47 (by decide)) ?_
    refine Eq.trans (o_bipush (v := 95) d_Md_includeSpecial_49 (by decide)) ?_
    obtain ⟨u9, T2, h1, h⟩ := w_C_of h
    refine s_cV3v d_Md_includeSpecial_51 pM_Md_118 (Nat.le_of_ble_eq_true rfl) (obM_0 r) (c_Md_include D (by omega) r _ _ _ _ _ _ h1) ?_
    replace h1 := trivial; revert h; generalize T2 = T; intro h
    exact c_Md_includeSpecial_54 D hD r _ _ _ _ _ h
set_option maxRecDepth 100000 in
set_option maxHeartbeats 4000000 in
theorem c_Md_includeSpecial_12 (D : Nat) (hD : 1 ≤ D) (r : Nat) (v1 : Int32) (v2 : Int32)  (T T1 : qT) (v : Unit) (h : k_Md_includeSpecial_12 v1 v2 T = some (v, T1)) : q_out (q_ev q_Mt D) q_mMd_includeSpecial (12, [some (.ref (r + 0)), some (.int v1), some (.int v2)], [], layM r T) = some (.inl (none), layM r T1) := by
  unfold k_Md_includeSpecial_12 at h
  refine Eq.trans (o_aload_n d_Md_includeSpecial_12 rfl) ?_
  refine Eq.trans (o_iload_n d_Md_includeSpecial_13 rfl) ?_
  refine Eq.trans (o_bipush (v := 48) d_Md_includeSpecial_14 (by decide)) ?_
  refine Eq.trans (o_bipush (v := 57) d_Md_includeSpecial_16 (by decide)) ?_
  obtain ⟨u9, T2, h1, h⟩ := w_C_of h
  refine s_cV3v d_Md_includeSpecial_18 pM_Md_118 (Nat.le_of_ble_eq_true rfl) (obM_0 r) (c_Md_include D (by omega) r _ _ _ _ _ _ h1) ?_
  replace h1 := trivial; revert h; generalize T2 = T; intro h
  exact c_Md_includeSpecial_21 D hD r _ _ _ _ _ h
set_option maxRecDepth 100000 in
set_option maxHeartbeats 4000000 in
theorem c_Md_includeSpecial_0 (D : Nat) (hD : 1 ≤ D) (r : Nat) (a1 : Int32) (a2 : Int32)  (T T1 : qT) (v : Unit) (h : f_Md_includeSpecial a1 a2 T = some (v, T1)) : q_out (q_ev q_Mt D) q_mMd_includeSpecial (0, [some (.ref (r + 0)), some (.int a1), some (.int a2)], [], layM r T) = some (.inl (none), layM r T1) := by
  unfold f_Md_includeSpecial at h
  refine Eq.trans (o_iload_n d_Md_includeSpecial_0 rfl) ?_
  refine Eq.trans (o_bipush (v := 100) d_Md_includeSpecial_1 (by decide)) ?_
  refine s_icmp_eq (t := 12) d_Md_includeSpecial_3 (by decide) h (fun h => ?_) (fun h => ?_)
  · exact c_Md_includeSpecial_12 D hD r _ _ _ _ _ h
  · refine Eq.trans (o_iload_n d_Md_includeSpecial_6 rfl) ?_
    refine Eq.trans (o_bipush (v := 119) d_Md_includeSpecial_7 (by decide)) ?_
    refine s_icmp_ne (t := 21) d_Md_includeSpecial_9 (by decide) h (fun h => ?_) (fun h => ?_)
    · exact c_Md_includeSpecial_21 D hD r _ _ _ _ _ h
    · exact c_Md_includeSpecial_12 D hD r _ _ _ _ _ h
theorem c_Md_includeSpecial (D : Nat) (hD : 2 ≤ D) (r : Nat) (a1 : Int32) (a2 : Int32) (T T1 : qT) (v : Unit) (h : f_Md_includeSpecial a1 a2 T = some (v, T1)) : q_ev q_Mt D 90 [.ref (r + 0), .int a1, .int a2] (layM r T) = some (.inl (none), layM r T1) := by
  obtain ⟨D, rfl⟩ : ∃ D', D = D' + 1 := ⟨D - 1, by omega⟩
  rw [o_ev (M := q_mMd_includeSpecial) (lo := [some (.ref (r + 0)), some (.int a1), some (.int a2)]) rfl (Nat.le_of_ble_eq_true rfl) rfl]
  exact c_Md_includeSpecial_0 D (by omega) r a1 a2 T T1 v h
noncomputable def k_Md_isPlain_41 (v0 : Int32) (s0 : Int32) : qW Int32 :=
  w_if (v0 ≤ 0) (
    w_ret .boolean 0) (
    w_if (¬ s0 = 0) (
      w_ret .boolean 0) (
      w_if (v0 = 92) (
        w_ret .boolean 0) (
        w_if (v0 = 46) (
          w_ret .boolean 0) (
          w_if (v0 = 42) (
            w_ret .boolean 0) (
            w_if (v0 = 43) (
              w_ret .boolean 0) (
              w_if (v0 = 63) (
                w_ret .boolean 0) (
                w_if (v0 = 124) (
                  w_ret .boolean 0) (
                  w_ret .boolean 1))))))))
noncomputable def k_Md_isPlain_36 (v0 : Int32) : qW Int32 :=
  k_Md_isPlain_41 v0 1
noncomputable def f_Md_isPlain (a1 : Int32) : qW Int32 :=
  w_if (a1 = 91) (
    k_Md_isPlain_36 a1) (
    w_if (a1 = 93) (
      k_Md_isPlain_36 a1) (
      w_if (a1 = 40) (
        k_Md_isPlain_36 a1) (
        w_if (a1 = 41) (
          k_Md_isPlain_36 a1) (
          w_if (a1 = 123) (
            k_Md_isPlain_36 a1) (
            w_if (¬ a1 = 125) (
              k_Md_isPlain_41 a1 0) (
              k_Md_isPlain_36 a1))))))
set_option maxRecDepth 100000 in
set_option maxHeartbeats 4000000 in
theorem c_Md_isPlain_41 (D : Nat) (hD : 0 ≤ D) (r : Nat) (v0 : Int32) (s0 : Int32) (e1 : Option Value) (T T1 : qT) (v : Int32) (h : k_Md_isPlain_41 v0 s0 T = some (v, T1)) : q_out (q_ev q_Mt D) q_mMd_isPlain (41, [some (.int v0), e1], [.int s0], layM r T) = some (.inl (some (.int v)), layM r T1) := by
  unfold k_Md_isPlain_41 at h
  refine Eq.trans (o_istore_n (lo' := [some (.int v0), some (.int s0)]) d_Md_isPlain_41 (Nat.le_of_ble_eq_true rfl) rfl) ?_
  refine Eq.trans (o_iload_n d_Md_isPlain_42 rfl) ?_
  refine s_if_le (t := 90) d_Md_isPlain_43 (by decide) h (fun h => ?_) (fun h => ?_)
  · refine Eq.trans (o_iconst (v := 0) d_Md_isPlain_90 (by decide)) ?_
    exact s_iret d_Md_isPlain_91 rfl h
  · refine Eq.trans (o_iload_n d_Md_isPlain_46 rfl) ?_
    refine s_if_ne (t := 90) d_Md_isPlain_47 (by decide) h (fun h => ?_) (fun h => ?_)
    · refine Eq.trans (o_iconst (v := 0) d_Md_isPlain_90 (by decide)) ?_
      exact s_iret d_Md_isPlain_91 rfl h
    · refine Eq.trans (o_iload_n d_Md_isPlain_50 rfl) ?_
      refine Eq.trans (o_bipush (v := 92) d_Md_isPlain_51 (by decide)) ?_
      refine s_icmp_eq (t := 90) d_Md_isPlain_53 (by decide) h (fun h => ?_) (fun h => ?_)
      · refine Eq.trans (o_iconst (v := 0) d_Md_isPlain_90 (by decide)) ?_
        exact s_iret d_Md_isPlain_91 rfl h
      · refine Eq.trans (o_iload_n d_Md_isPlain_56 rfl) ?_
        refine Eq.trans (o_bipush (v := 46) d_Md_isPlain_57 (by decide)) ?_
        refine s_icmp_eq (t := 90) d_Md_isPlain_59 (by decide) h (fun h => ?_) (fun h => ?_)
        · refine Eq.trans (o_iconst (v := 0) d_Md_isPlain_90 (by decide)) ?_
          exact s_iret d_Md_isPlain_91 rfl h
        · refine Eq.trans (o_iload_n d_Md_isPlain_62 rfl) ?_
          refine Eq.trans (o_bipush (v := 42) d_Md_isPlain_63 (by decide)) ?_
          refine s_icmp_eq (t := 90) d_Md_isPlain_65 (by decide) h (fun h => ?_) (fun h => ?_)
          · refine Eq.trans (o_iconst (v := 0) d_Md_isPlain_90 (by decide)) ?_
            exact s_iret d_Md_isPlain_91 rfl h
          · refine Eq.trans (o_iload_n d_Md_isPlain_68 rfl) ?_
            refine Eq.trans (o_bipush (v := 43) d_Md_isPlain_69 (by decide)) ?_
            refine s_icmp_eq (t := 90) d_Md_isPlain_71 (by decide) h (fun h => ?_) (fun h => ?_)
            · refine Eq.trans (o_iconst (v := 0) d_Md_isPlain_90 (by decide)) ?_
              exact s_iret d_Md_isPlain_91 rfl h
            · refine Eq.trans (o_iload_n d_Md_isPlain_74 rfl) ?_
              refine Eq.trans (o_bipush (v := 63) d_Md_isPlain_75 (by decide)) ?_
              refine s_icmp_eq (t := 90) d_Md_isPlain_77 (by decide) h (fun h => ?_) (fun h => ?_)
              · refine Eq.trans (o_iconst (v := 0) d_Md_isPlain_90 (by decide)) ?_
                exact s_iret d_Md_isPlain_91 rfl h
              · refine Eq.trans (o_iload_n d_Md_isPlain_80 rfl) ?_
                refine Eq.trans (o_bipush (v := 124) d_Md_isPlain_81 (by decide)) ?_
                refine s_icmp_eq (t := 90) d_Md_isPlain_83 (by decide) h (fun h => ?_) (fun h => ?_)
                · refine Eq.trans (o_iconst (v := 0) d_Md_isPlain_90 (by decide)) ?_
                  exact s_iret d_Md_isPlain_91 rfl h
                · refine Eq.trans (o_iconst (v := 1) d_Md_isPlain_86 (by decide)) ?_
                  refine Eq.trans (o_goto (t := 91) d_Md_isPlain_87 (by decide)) ?_
                  exact s_iret d_Md_isPlain_91 rfl h
set_option maxRecDepth 100000 in
set_option maxHeartbeats 4000000 in
theorem c_Md_isPlain_36 (D : Nat) (hD : 0 ≤ D) (r : Nat) (v0 : Int32) (e1 : Option Value) (T T1 : qT) (v : Int32) (h : k_Md_isPlain_36 v0 T = some (v, T1)) : q_out (q_ev q_Mt D) q_mMd_isPlain (36, [some (.int v0), e1], [], layM r T) = some (.inl (some (.int v)), layM r T1) := by
  unfold k_Md_isPlain_36 at h
  refine Eq.trans (o_iconst (v := 1) d_Md_isPlain_36 (by decide)) ?_
  refine Eq.trans (o_goto (t := 41) d_Md_isPlain_37 (by decide)) ?_
  exact c_Md_isPlain_41 D hD r _ _ _ _ _ _ h
set_option maxRecDepth 100000 in
set_option maxHeartbeats 4000000 in
theorem c_Md_isPlain_0 (D : Nat) (hD : 0 ≤ D) (r : Nat) (a1 : Int32)  (T T1 : qT) (v : Int32) (h : f_Md_isPlain a1 T = some (v, T1)) : q_out (q_ev q_Mt D) q_mMd_isPlain (0, [some (.int a1), none], [], layM r T) = some (.inl (some (.int v)), layM r T1) := by
  unfold f_Md_isPlain at h
  refine Eq.trans (o_iload_n d_Md_isPlain_0 rfl) ?_
  refine Eq.trans (o_bipush (v := 91) d_Md_isPlain_1 (by decide)) ?_
  refine s_icmp_eq (t := 36) d_Md_isPlain_3 (by decide) h (fun h => ?_) (fun h => ?_)
  · exact c_Md_isPlain_36 D hD r _ _ _ _ _ h
  · refine Eq.trans (o_iload_n d_Md_isPlain_6 rfl) ?_
    refine Eq.trans (o_bipush (v := 93) d_Md_isPlain_7 (by decide)) ?_
    refine s_icmp_eq (t := 36) d_Md_isPlain_9 (by decide) h (fun h => ?_) (fun h => ?_)
    · exact c_Md_isPlain_36 D hD r _ _ _ _ _ h
    · refine Eq.trans (o_iload_n d_Md_isPlain_12 rfl) ?_
      refine Eq.trans (o_bipush (v := 40) d_Md_isPlain_13 (by decide)) ?_
      refine s_icmp_eq (t := 36) d_Md_isPlain_15 (by decide) h (fun h => ?_) (fun h => ?_)
      · exact c_Md_isPlain_36 D hD r _ _ _ _ _ h
      · refine Eq.trans (o_iload_n d_Md_isPlain_18 rfl) ?_
        refine Eq.trans (o_bipush (v := 41) d_Md_isPlain_19 (by decide)) ?_
        refine s_icmp_eq (t := 36) d_Md_isPlain_21 (by decide) h (fun h => ?_) (fun h => ?_)
        · exact c_Md_isPlain_36 D hD r _ _ _ _ _ h
        · refine Eq.trans (o_iload_n d_Md_isPlain_24 rfl) ?_
          refine Eq.trans (o_bipush (v := 123) d_Md_isPlain_25 (by decide)) ?_
          refine s_icmp_eq (t := 36) d_Md_isPlain_27 (by decide) h (fun h => ?_) (fun h => ?_)
          · exact c_Md_isPlain_36 D hD r _ _ _ _ _ h
          · refine Eq.trans (o_iload_n d_Md_isPlain_30 rfl) ?_
            refine Eq.trans (o_bipush (v := 125) d_Md_isPlain_31 (by decide)) ?_
            refine s_icmp_ne (t := 40) d_Md_isPlain_33 (by decide) h (fun h => ?_) (fun h => ?_)
            · refine Eq.trans (o_iconst (v := 0) d_Md_isPlain_40 (by decide)) ?_
              exact c_Md_isPlain_41 D hD r _ _ _ _ _ _ h
            · exact c_Md_isPlain_36 D hD r _ _ _ _ _ h
theorem c_Md_isPlain (D : Nat) (hD : 1 ≤ D) (r : Nat) (a1 : Int32) (T T1 : qT) (v : Int32) (h : f_Md_isPlain a1 T = some (v, T1)) : q_ev q_Mt D 87 [.int a1] (layM r T) = some (.inl (some (.int v)), layM r T1) := by
  obtain ⟨D, rfl⟩ : ∃ D', D = D' + 1 := ⟨D - 1, by omega⟩
  rw [o_ev (M := q_mMd_isPlain) (lo := [some (.int a1), none]) rfl (Nat.le_of_ble_eq_true rfl) rfl]
  exact c_Md_isPlain_0 D (by omega) r a1 T T1 v h
noncomputable def k_Md_newSet_2 (v1 : Int32) : qW (qJ ⊕ Int32) :=
  w_if (8 ≤ v1) (
    w_S 20 fun x1 =>
    w_s 20 ((x1 + 1)) <|
    w_S 20 fun x2 =>
    w_ri .int ((x2 - 1))) (
    w_S 20 fun x3 =>
    w_a 14 400 (((8 * x3) + v1)) 0 <|
    w_go 2 [.int (v1 + 1)] [])
noncomputable def k_Md_newSet_0  : qW (qJ ⊕ Int32) :=
  w_go 2 [.int 0] []
noncomputable def b_Md_newSet : qJ → qW (qJ ⊕ Int32) := fun x => match x with
  | (0, [], []) => k_Md_newSet_0 
  | (2, [.int v1], []) => k_Md_newSet_2 v1
  | _ => w_no
noncomputable def f_Md_newSet  : qW Int32 := w_fix b_Md_newSet (0, [], [])
set_option maxRecDepth 100000 in
set_option maxHeartbeats 4000000 in
theorem c_Md_newSet_2 (D : Nat) (hD : 0 ≤ D) (r : Nat) (n : Nat) (ih_2 : ∀ (v1 : Int32)  (T T2 : qT) (v : Int32), w_run b_Md_newSet n (2, [.int v1], []) T = some (v, T2) → q_out (q_ev q_Mt D) q_mMd_newSet (2, [some (.ref (r + 0)), some (.int v1)], [], layM r T) = some (.inl (some (.int v)), layM r T2)) (v1 : Int32)  (T T1 T2 : qT) (rr : qJ ⊕ Int32) (v : Int32) (h : k_Md_newSet_2 v1 T = some (rr, T1)) (hE : w_end b_Md_newSet n rr T1 = some (v, T2)) : q_out (q_ev q_Mt D) q_mMd_newSet (2, [some (.ref (r + 0)), some (.int v1)], [], layM r T) = some (.inl (some (.int v)), layM r T2) := by
  unfold k_Md_newSet_2 at h
  refine Eq.trans (o_iload_n d_Md_newSet_2 rfl) ?_
  refine Eq.trans (o_bipush (v := 8) d_Md_newSet_3 (by decide)) ?_
  refine s_icmp_ge (t := 29) d_Md_newSet_5 (by decide) h (fun h => ?_) (fun h => ?_)
  · refine Eq.trans (o_aload_n d_Md_newSet_29 rfl) ?_
    refine Eq.trans (o_dup d_Md_newSet_30 rfl) ?_
    refine s_get d_Md_newSet_31 pF_Md_115 (zM_Md_sets r) h (fun x1 h => ?_)
    refine Eq.trans (o_iconst (v := 1) d_Md_newSet_34 (by decide)) ?_
    refine Eq.trans (o_iadd d_Md_newSet_35) ?_
    refine s_put d_Md_newSet_36 pF_Md_115 (zM_Md_sets r) h (fun T h => ?_)
    refine Eq.trans (o_aload_n d_Md_newSet_39 rfl) ?_
    refine s_get d_Md_newSet_40 pF_Md_115 (zM_Md_sets r) h (fun x2 h => ?_)
    refine Eq.trans (o_iconst (v := 1) d_Md_newSet_43 (by decide)) ?_
    refine Eq.trans (o_isub d_Md_newSet_44) ?_
    exact s_iretJ d_Md_newSet_45 rfl h hE
  · refine Eq.trans (o_aload_n d_Md_newSet_8 rfl) ?_
    refine s_ref d_Md_newSet_9 pF_Md_55 (zM_Md_bits r) ?_
    refine Eq.trans (o_bipush (v := 8) d_Md_newSet_12 (by decide)) ?_
    refine Eq.trans (o_aload_n d_Md_newSet_14 rfl) ?_
    refine s_get d_Md_newSet_15 pF_Md_115 (zM_Md_sets r) h (fun x3 h => ?_)
    refine Eq.trans (o_imul d_Md_newSet_18) ?_
    refine Eq.trans (o_iload_n d_Md_newSet_19 rfl) ?_
    refine Eq.trans (o_iadd d_Md_newSet_20) ?_
    refine Eq.trans (o_iconst (v := 0) d_Md_newSet_21 (by decide)) ?_
    refine s_iast d_Md_newSet_22 (rM_14 r) h (fun T h => ?_)
    refine Eq.trans (o_iinc (v := (v1 + 1)) (lo' := [some (.ref (r + 0)), some (.int (v1 + 1))]) d_Md_newSet_23 rfl (by rw [show Int32.ofInt 1 = 1 from by decide]) (Nat.le_of_ble_eq_true rfl) rfl) ?_
    refine Eq.trans (o_goto (t := 2) d_Md_newSet_26 (by decide)) ?_
    exact ih_2 _ _ _ _ (s_jump h hE)
set_option maxRecDepth 100000 in
set_option maxHeartbeats 4000000 in
theorem c_Md_newSet_0 (D : Nat) (hD : 0 ≤ D) (r : Nat) (n : Nat) (ih_2 : ∀ (v1 : Int32)  (T T2 : qT) (v : Int32), w_run b_Md_newSet n (2, [.int v1], []) T = some (v, T2) → q_out (q_ev q_Mt D) q_mMd_newSet (2, [some (.ref (r + 0)), some (.int v1)], [], layM r T) = some (.inl (some (.int v)), layM r T2))   (T T1 T2 : qT) (rr : qJ ⊕ Int32) (v : Int32) (h : k_Md_newSet_0 T = some (rr, T1)) (hE : w_end b_Md_newSet n rr T1 = some (v, T2)) : q_out (q_ev q_Mt D) q_mMd_newSet (0, [some (.ref (r + 0)), none], [], layM r T) = some (.inl (some (.int v)), layM r T2) := by
  unfold k_Md_newSet_0 at h
  refine Eq.trans (o_iconst (v := 0) d_Md_newSet_0 (by decide)) ?_
  refine Eq.trans (o_istore_n (lo' := [some (.ref (r + 0)), some (.int 0)]) d_Md_newSet_1 (Nat.le_of_ble_eq_true rfl) rfl) ?_
  exact ih_2 _ _ _ _ (s_jump h hE)
theorem c_Md_newSet_lp (D : Nat) (hD : 0 ≤ D) (r : Nat) : ∀ n : Nat, (∀ (v1 : Int32)  (T T2 : qT) (v : Int32), w_run b_Md_newSet n (2, [.int v1], []) T = some (v, T2) → q_out (q_ev q_Mt D) q_mMd_newSet (2, [some (.ref (r + 0)), some (.int v1)], [], layM r T) = some (.inl (some (.int v)), layM r T2)) := by
  intro n
  induction n with
  | zero => exact (fun v1 T T2 v h => by cases h)
  | succ n ih =>
    have ih_2 := ih
    · intro v1 T T2 v h
      obtain ⟨rr, T1, hb, hE⟩ := w_run_succ h
      exact c_Md_newSet_2 D hD r n ih_2 v1 T T1 T2 rr v hb hE
theorem c_Md_newSet (D : Nat) (hD : 1 ≤ D) (r : Nat)  (T T2 : qT) (v : Int32) (h : f_Md_newSet  T = some (v, T2)) : q_ev q_Mt D 88 [.ref (r + 0)] (layM r T) = some (.inl (some (.int v)), layM r T2) := by
  obtain ⟨D, rfl⟩ : ∃ D', D = D' + 1 := ⟨D - 1, by omega⟩
  obtain ⟨n, hn⟩ := w_fix_iff.mp h
  cases n with
  | zero => cases hn
  | succ n =>
    obtain ⟨rr, T1, hb, hE⟩ := w_run_succ hn
    have hl := c_Md_newSet_lp D (by omega) r n
    have ih_2 := hl
    rw [o_ev (M := q_mMd_newSet) (lo := [some (.ref (r + 0)), none]) rfl (Nat.le_of_ble_eq_true rfl) rfl]
    exact c_Md_newSet_0 D (by omega) r n ih_2  T T1 T2 rr v hb hE
noncomputable def f_Md_isItem (a1 : Int32) : qW Int32 :=
  w_if (a1 ≤ 0) (
    w_ret .boolean 0) (
    w_if (a1 = 93) (
      w_ret .boolean 0) (
      w_if (a1 = 91) (
        w_ret .boolean 0) (
        w_if (a1 = 92) (
          w_ret .boolean 0) (
          w_if (a1 = 45) (
            w_ret .boolean 0) (
            w_if (a1 = 94) (
              w_ret .boolean 0) (
              w_ret .boolean 1))))))
set_option maxRecDepth 100000 in
set_option maxHeartbeats 4000000 in
theorem c_Md_isItem_0 (D : Nat) (hD : 0 ≤ D) (r : Nat) (a1 : Int32)  (T T1 : qT) (v : Int32) (h : f_Md_isItem a1 T = some (v, T1)) : q_out (q_ev q_Mt D) q_mMd_isItem (0, [some (.int a1)], [], layM r T) = some (.inl (some (.int v)), layM r T1) := by
  unfold f_Md_isItem at h
  refine Eq.trans (o_iload_n d_Md_isItem_0 rfl) ?_
  refine s_if_le (t := 38) d_Md_isItem_1 (by decide) h (fun h => ?_) (fun h => ?_)
  · refine Eq.trans (o_iconst (v := 0) d_Md_isItem_38 (by decide)) ?_
    exact s_iret d_Md_isItem_39 rfl h
  · refine Eq.trans (o_iload_n d_Md_isItem_4 rfl) ?_
    refine Eq.trans (o_bipush (v := 93) d_Md_isItem_5 (by decide)) ?_
    refine s_icmp_eq (t := 38) d_Md_isItem_7 (by decide) h (fun h => ?_) (fun h => ?_)
    · refine Eq.trans (o_iconst (v := 0) d_Md_isItem_38 (by decide)) ?_
      exact s_iret d_Md_isItem_39 rfl h
    · refine Eq.trans (o_iload_n d_Md_isItem_10 rfl) ?_
      refine Eq.trans (o_bipush (v := 91) d_Md_isItem_11 (by decide)) ?_
      refine s_icmp_eq (t := 38) d_Md_isItem_13 (by decide) h (fun h => ?_) (fun h => ?_)
      · refine Eq.trans (o_iconst (v := 0) d_Md_isItem_38 (by decide)) ?_
        exact s_iret d_Md_isItem_39 rfl h
      · refine Eq.trans (o_iload_n d_Md_isItem_16 rfl) ?_
        refine Eq.trans (o_bipush (v := 92) d_Md_isItem_17 (by decide)) ?_
        refine s_icmp_eq (t := 38) d_Md_isItem_19 (by decide) h (fun h => ?_) (fun h => ?_)
        · refine Eq.trans (o_iconst (v := 0) d_Md_isItem_38 (by decide)) ?_
          exact s_iret d_Md_isItem_39 rfl h
        · refine Eq.trans (o_iload_n d_Md_isItem_22 rfl) ?_
          refine Eq.trans (o_bipush (v := 45) d_Md_isItem_23 (by decide)) ?_
          refine s_icmp_eq (t := 38) d_Md_isItem_25 (by decide) h (fun h => ?_) (fun h => ?_)
          · refine Eq.trans (o_iconst (v := 0) d_Md_isItem_38 (by decide)) ?_
            exact s_iret d_Md_isItem_39 rfl h
          · refine Eq.trans (o_iload_n d_Md_isItem_28 rfl) ?_
            refine Eq.trans (o_bipush (v := 94) d_Md_isItem_29 (by decide)) ?_
            refine s_icmp_eq (t := 38) d_Md_isItem_31 (by decide) h (fun h => ?_) (fun h => ?_)
            · refine Eq.trans (o_iconst (v := 0) d_Md_isItem_38 (by decide)) ?_
              exact s_iret d_Md_isItem_39 rfl h
            · refine Eq.trans (o_iconst (v := 1) d_Md_isItem_34 (by decide)) ?_
              refine Eq.trans (o_goto (t := 39) d_Md_isItem_35 (by decide)) ?_
              exact s_iret d_Md_isItem_39 rfl h
theorem c_Md_isItem (D : Nat) (hD : 1 ≤ D) (r : Nat) (a1 : Int32) (T T1 : qT) (v : Int32) (h : f_Md_isItem a1 T = some (v, T1)) : q_ev q_Mt D 92 [.int a1] (layM r T) = some (.inl (some (.int v)), layM r T1) := by
  obtain ⟨D, rfl⟩ : ∃ D', D = D' + 1 := ⟨D - 1, by omega⟩
  rw [o_ev (M := q_mMd_isItem) (lo := [some (.int a1)]) rfl (Nat.le_of_ble_eq_true rfl) rfl]
  exact c_Md_isItem_0 D (by omega) r a1 T T1 v h
