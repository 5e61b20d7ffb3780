noncomputable def f_Pr_isWritten (o : Nat)  : qW Int32 :=
  w_S 103 fun x1 =>
  w_if (x1 ≤ 0) (
    w_ret .boolean 0) (
    w_ret .boolean 1)
set_option maxRecDepth 100000 in
set_option maxHeartbeats 4000000 in
theorem c_Pr_isWritten_0 (D : Nat) (hD : 0 ≤ D) (o : Nat)   (T T1 : qT) (v : Int32) (h : f_Pr_isWritten o T = some (v, T1)) : q_out (q_ev q_Mt D) q_mPr_isWritten (0, [some (.ref (o + 5))], [], layC o T) = some (.inl (some (.int v)), layC o T1) := by
  unfold f_Pr_isWritten at h
  refine Eq.trans (o_aload_n d_Pr_isWritten_0 rfl) ?_
  refine s_get d_Pr_isWritten_1 pF_Pr_21 (zC_Pr_size o) h (fun x1 h => ?_)
  refine s_if_le (t := 11) d_Pr_isWritten_4 (by decide) h (fun h => ?_) (fun h => ?_)
  · refine Eq.trans (o_iconst (v := 0) d_Pr_isWritten_11 (by decide)) ?_
    exact s_iret d_Pr_isWritten_12 rfl h
  · refine Eq.trans (o_iconst (v := 1) d_Pr_isWritten_7 (by decide)) ?_
    refine Eq.trans (o_goto (t := 12) d_Pr_isWritten_8 (by decide)) ?_
    exact s_iret d_Pr_isWritten_12 rfl h
theorem c_Pr_isWritten (D : Nat) (hD : 1 ≤ D) (o : Nat)  (T T1 : qT) (v : Int32) (h : f_Pr_isWritten o  T = some (v, T1)) : q_ev q_Mt D 41 [.ref (o + 5)] (layC o T) = some (.inl (some (.int v)), layC o T1) := by
  obtain ⟨D, rfl⟩ : ∃ D', D = D' + 1 := ⟨D - 1, by omega⟩
  rw [o_ev (M := q_mPr_isWritten) (lo := [some (.ref (o + 5))]) rfl (Nat.le_of_ble_eq_true rfl) rfl]
  exact c_Pr_isWritten_0 D (by omega) o  T T1 v h
noncomputable def f_PW_pattern (o : Nat) (a1 : Int32) : qW Int32 :=
  w_if (a1 < 32) (
    w_ret .boolean 0) (
    w_if (126 < a1) (
      w_ret .boolean 0) (
      w_C (f_Pr_isWritten o) fun x1 =>
      w_if (x1 = 0) (
        w_S 1 fun x2 =>
        w_if (x2 < 0) (
          w_ret .boolean 0) (
          w_S 1 fun x3 =>
          w_if (x3 < 48) (
            w_S 1 fun x4 =>
            w_a 1 48 x4 ((vp_nar .char a1)) <|
            w_S 1 fun x5 =>
            w_s 1 ((x5 + 1)) <|
            w_ret .boolean 1) (
            w_ret .boolean 0))) (
        w_ret .boolean 0)))
set_option maxRecDepth 100000 in
set_option maxHeartbeats 4000000 in
theorem c_PW_pattern_0 (D : Nat) (hD : 1 ≤ D) (o : Nat) (a1 : Int32)  (T T1 : qT) (v : Int32) (h : f_PW_pattern o a1 T = some (v, T1)) : q_out (q_ev q_Mt D) q_mPW_pattern (0, [some (.ref (o + 0)), some (.int a1)], [], layC o T) = some (.inl (some (.int v)), layC o T1) := by
  unfold f_PW_pattern at h
  refine Eq.trans (o_iload_n d_PW_pattern_0 rfl) ?_
  refine Eq.trans (o_bipush (v := 32) d_PW_pattern_1 (by decide)) ?_
  refine s_icmp_lt (t := 22) d_PW_pattern_3 (by decide) h (fun h => ?_) (fun h => ?_)
  · refine Eq.trans (o_iconst (v := 0) d_PW_pattern_22 (by decide)) ?_
    exact s_iret d_PW_pattern_23 rfl h
  · refine Eq.trans (o_iload_n d_PW_pattern_6 rfl) ?_
    refine Eq.trans (o_bipush (v := 126) d_PW_pattern_7 (by decide)) ?_
    refine s_icmp_gt (t := 22) d_PW_pattern_9 (by decide) h (fun h => ?_) (fun h => ?_)
    · refine Eq.trans (o_iconst (v := 0) d_PW_pattern_22 (by decide)) ?_
      exact s_iret d_PW_pattern_23 rfl h
    · refine Eq.trans (o_aload_n d_PW_pattern_12 rfl) ?_
      refine s_ref d_PW_pattern_13 pF_PW_39 (zC_PW_program o) ?_
      obtain ⟨x1, T2, h1, h⟩ := w_C_of h
      refine s_cV0i d_PW_pattern_16 pM_PW_52 (Nat.le_of_ble_eq_true rfl) (obC_5 o) (c_Pr_isWritten D (by omega) o _ _ _ h1) ?_
      replace h1 := trivial; revert h; generalize T2 = T; intro h
      refine s_if_eq (t := 24) d_PW_pattern_19 (by decide) h (fun h => ?_) (fun h => ?_)
      · refine Eq.trans (o_aload_n d_PW_pattern_24 rfl) ?_
        refine s_get d_PW_pattern_25 pF_PW_13 (zC_PW_length o) h (fun x2 h => ?_)
        refine s_if_lt (t := 40) d_PW_pattern_28 (by decide) h (fun h => ?_) (fun h => ?_)
        · refine Eq.trans (o_iconst (v := 0) d_PW_pattern_40 (by decide)) ?_
          exact s_iret d_PW_pattern_41 rfl h
        · refine Eq.trans (o_aload_n d_PW_pattern_31 rfl) ?_
          refine s_get d_PW_pattern_32 pF_PW_13 (zC_PW_length o) h (fun x3 h => ?_)
          refine Eq.trans (o_bipush (v := 48) d_PW_pattern_35 (by decide)) ?_
          refine s_icmp_lt (t := 42) d_PW_pattern_37 (by decide) h (fun h => ?_) (fun h => ?_)
          · refine Eq.trans (o_aload_n d_PW_pattern_42 rfl) ?_
            refine s_ref d_PW_pattern_43 pF_PW_9 (zC_PW_text o) ?_
            refine Eq.trans (o_aload_n d_PW_pattern_46 rfl) ?_
            refine s_get d_PW_pattern_47 pF_PW_13 (zC_PW_length o) h (fun x4 h => ?_)
            refine Eq.trans (o_iload_n d_PW_pattern_50 rfl) ?_
            refine s_cast d_PW_pattern_51 (rC_1 o) h (fun T h => ?_)
            refine Eq.trans (o_aload_n d_PW_pattern_52 rfl) ?_
            refine Eq.trans (o_dup d_PW_pattern_53 rfl) ?_
            refine s_get d_PW_pattern_54 pF_PW_13 (zC_PW_length o) h (fun x5 h => ?_)
            refine Eq.trans (o_iconst (v := 1) d_PW_pattern_57 (by decide)) ?_
            refine Eq.trans (o_iadd d_PW_pattern_58) ?_
            refine s_put d_PW_pattern_59 pF_PW_13 (zC_PW_length o) h (fun T h => ?_)
            refine Eq.trans (o_iconst (v := 1) d_PW_pattern_62 (by decide)) ?_
            exact s_iret d_PW_pattern_63 rfl h
          · refine Eq.trans (o_iconst (v := 0) d_PW_pattern_40 (by decide)) ?_
            exact s_iret d_PW_pattern_41 rfl h
      · refine Eq.trans (o_iconst (v := 0) d_PW_pattern_22 (by decide)) ?_
        exact s_iret d_PW_pattern_23 rfl h
theorem c_PW_pattern (D : Nat) (hD : 2 ≤ D) (o : Nat) (a1 : Int32) (T T1 : qT) (v : Int32) (h : f_PW_pattern o a1 T = some (v, T1)) : q_ev q_Mt D 1 [.ref (o + 0), .int a1] (layC o T) = some (.inl (some (.int v)), layC o T1) := by
  obtain ⟨D, rfl⟩ : ∃ D', D = D' + 1 := ⟨D - 1, by omega⟩
  rw [o_ev (M := q_mPW_pattern) (lo := [some (.ref (o + 0)), some (.int a1)]) rfl (Nat.le_of_ble_eq_true rfl) rfl]
  exact c_PW_pattern_0 D (by omega) o a1 T T1 v h
noncomputable def f_PW_position (o : Nat)  : qW Int32 :=
  w_S 2 fun x1 =>
  w_ret .int x1
set_option maxRecDepth 100000 in
set_option maxHeartbeats 4000000 in
theorem c_PW_position_0 (D : Nat) (hD : 0 ≤ D) (o : Nat)   (T T1 : qT) (v : Int32) (h : f_PW_position o T = some (v, T1)) : q_out (q_ev q_Mt D) q_mPW_position (0, [some (.ref (o + 0))], [], layC o T) = some (.inl (some (.int v)), layC o T1) := by
  unfold f_PW_position at h
  refine Eq.trans (o_aload_n d_PW_position_0 rfl) ?_
  refine s_get d_PW_position_1 pF_PW_17 (zC_PW_errorAt o) h (fun x1 h => ?_)
  exact s_iret d_PW_position_4 rfl h
theorem c_PW_position (D : Nat) (hD : 1 ≤ D) (o : Nat)  (T T1 : qT) (v : Int32) (h : f_PW_position o  T = some (v, T1)) : q_ev q_Mt D 2 [.ref (o + 0)] (layC o T) = some (.inl (some (.int v)), layC o T1) := by
  obtain ⟨D, rfl⟩ : ∃ D', D = D' + 1 := ⟨D - 1, by omega⟩
  rw [o_ev (M := q_mPW_position) (lo := [some (.ref (o + 0))]) rfl (Nat.le_of_ble_eq_true rfl) rfl]
  exact c_PW_position_0 D (by omega) o  T T1 v h
noncomputable def f_Pr_erase (o : Nat)  : qW Unit :=
  w_s 103 0 <|
  w_s 104 0 <|
  w_pure ()
set_option maxRecDepth 100000 in
set_option maxHeartbeats 4000000 in
theorem c_Pr_erase_0 (D : Nat) (hD : 0 ≤ D) (o : Nat)   (T T1 : qT) (v : Unit) (h : f_Pr_erase o T = some (v, T1)) : q_out (q_ev q_Mt D) q_mPr_erase (0, [some (.ref (o + 5))], [], layC o T) = some (.inl (none), layC o T1) := by
  unfold f_Pr_erase at h
  refine Eq.trans (o_aload_n d_Pr_erase_0 rfl) ?_
  refine Eq.trans (o_iconst (v := 0) d_Pr_erase_1 (by decide)) ?_
  refine s_put d_Pr_erase_2 pF_Pr_21 (zC_Pr_size o) h (fun T h => ?_)
  refine Eq.trans (o_aload_n d_Pr_erase_5 rfl) ?_
  refine Eq.trans (o_iconst (v := 0) d_Pr_erase_6 (by decide)) ?_
  refine s_put d_Pr_erase_7 pF_Pr_25 (zC_Pr_numbered o) h (fun T h => ?_)
  exact s_vret d_Pr_erase_10 rfl h
theorem c_Pr_erase (D : Nat) (hD : 1 ≤ D) (o : Nat)  (T T1 : qT) (v : Unit) (h : f_Pr_erase o  T = some (v, T1)) : q_ev q_Mt D 42 [.ref (o + 5)] (layC o T) = some (.inl (none), layC o T1) := by
  obtain ⟨D, rfl⟩ : ∃ D', D = D' + 1 := ⟨D - 1, by omega⟩
  rw [o_ev (M := q_mPr_erase) (lo := [some (.ref (o + 5))]) rfl (Nat.le_of_ble_eq_true rfl) rfl]
  exact c_Pr_erase_0 D (by omega) o  T T1 v h
noncomputable def f_Wk_end (o : Nat)  : qW Unit :=
  w_z 190 0 <|
  w_pure ()
set_option maxRecDepth 100000 in
set_option maxHeartbeats 4000000 in
theorem c_Wk_end_0 (D : Nat) (hD : 0 ≤ D) (o : Nat)   (T T1 : qT) (v : Unit) (h : f_Wk_end o T = some (v, T1)) : q_out (q_ev q_Mt D) q_mWk_end (0, [some (.ref (o + 9))], [], layC o T) = some (.inl (none), layC o T1) := by
  unfold f_Wk_end at h
  refine Eq.trans (o_aload_n d_Wk_end_0 rfl) ?_
  refine Eq.trans (o_iconst (v := 0) d_Wk_end_1 (by decide)) ?_
  refine s_putZ d_Wk_end_2 pF_Wk_41 (zC_Wk_begun o) h (fun T h => ?_)
  exact s_vret d_Wk_end_5 rfl h
theorem c_Wk_end (D : Nat) (hD : 1 ≤ D) (o : Nat)  (T T1 : qT) (v : Unit) (h : f_Wk_end o  T = some (v, T1)) : q_ev q_Mt D 59 [.ref (o + 9)] (layC o T) = some (.inl (none), layC o T1) := by
  obtain ⟨D, rfl⟩ : ∃ D', D = D' + 1 := ⟨D - 1, by omega⟩
  rw [o_ev (M := q_mWk_end) (lo := [some (.ref (o + 9))]) rfl (Nat.le_of_ble_eq_true rfl) rfl]
  exact c_Wk_end_0 D (by omega) o  T T1 v h
noncomputable def f_PW_clear (o : Nat)  : qW Unit :=
  w_s 1 0 <|
  w_s 2 ((-1)) <|
  w_C (f_Pr_erase o) fun _ =>
  w_C (f_Wk_end o) fun _ =>
  w_pure ()
set_option maxRecDepth 100000 in
set_option maxHeartbeats 4000000 in
theorem c_PW_clear_0 (D : Nat) (hD : 1 ≤ D) (o : Nat)   (T T1 : qT) (v : Unit) (h : f_PW_clear o T = some (v, T1)) : q_out (q_ev q_Mt D) q_mPW_clear (0, [some (.ref (o + 0))], [], layC o T) = some (.inl (none), layC o T1) := by
  unfold f_PW_clear at h
  refine Eq.trans (o_aload_n d_PW_clear_0 rfl) ?_
  refine Eq.trans (o_iconst (v := 0) d_PW_clear_1 (by decide)) ?_
  refine s_put d_PW_clear_2 pF_PW_13 (zC_PW_length o) h (fun T h => ?_)
  refine Eq.trans (o_aload_n d_PW_clear_5 rfl) ?_
  refine Eq.trans (o_iconst (v := (-1)) d_PW_clear_6 (by decide)) ?_
  refine s_put d_PW_clear_7 pF_PW_17 (zC_PW_errorAt o) h (fun T h => ?_)
  refine Eq.trans (o_aload_n d_PW_clear_10 rfl) ?_
  refine s_ref d_PW_clear_11 pF_PW_39 (zC_PW_program o) ?_
  obtain ⟨u9, T2, h1, h⟩ := w_C_of h
  refine s_cV0v d_PW_clear_14 pM_PW_93 (Nat.le_of_ble_eq_true rfl) (obC_5 o) (c_Pr_erase D (by omega) o _ _ _ h1) ?_
  replace h1 := trivial; revert h; generalize T2 = T; intro h
  refine Eq.trans (o_aload_n d_PW_clear_17 rfl) ?_
  refine s_ref d_PW_clear_18 pF_PW_48 (zC_PW_walk o) ?_
  obtain ⟨u9, T2, h1, h⟩ := w_C_of h
  refine s_cV0v d_PW_clear_21 pM_PW_96 (Nat.le_of_ble_eq_true rfl) (obC_9 o) (c_Wk_end D (by omega) o _ _ _ h1) ?_
  replace h1 := trivial; revert h; generalize T2 = T; intro h
  exact s_vret d_PW_clear_24 rfl h
theorem c_PW_clear (D : Nat) (hD : 2 ≤ D) (o : Nat)  (T T1 : qT) (v : Unit) (h : f_PW_clear o  T = some (v, T1)) : q_ev q_Mt D 3 [.ref (o + 0)] (layC o T) = some (.inl (none), layC o T1) := by
  obtain ⟨D, rfl⟩ : ∃ D', D = D' + 1 := ⟨D - 1, by omega⟩
  rw [o_ev (M := q_mPW_clear) (lo := [some (.ref (o + 0))]) rfl (Nat.le_of_ble_eq_true rfl) rfl]
  exact c_PW_clear_0 D (by omega) o  T T1 v h
noncomputable def f_Cs_isOpen (o : Nat) (a1 : Int32) : qW Int32 :=
  w_if (a1 < 0) (
    w_ret .boolean 0) (
    w_S 41 fun x1 =>
    w_if (x1 ≤ a1) (
      w_ret .boolean 0) (
      w_if (48 ≤ a1) (
        w_ret .boolean 0) (
        w_ret .boolean 1)))
set_option maxRecDepth 100000 in
set_option maxHeartbeats 4000000 in
theorem c_Cs_isOpen_0 (D : Nat) (hD : 0 ≤ D) (o : Nat) (a1 : Int32)  (T T1 : qT) (v : Int32) (h : f_Cs_isOpen o a1 T = some (v, T1)) : q_out (q_ev q_Mt D) q_mCs_isOpen (0, [some (.ref (o + 2)), some (.int a1)], [], layC o T) = some (.inl (some (.int v)), layC o T1) := by
  unfold f_Cs_isOpen at h
  refine Eq.trans (o_iload_n d_Cs_isOpen_0 rfl) ?_
  refine s_if_lt (t := 22) d_Cs_isOpen_1 (by decide) h (fun h => ?_) (fun h => ?_)
  · refine Eq.trans (o_iconst (v := 0) d_Cs_isOpen_22 (by decide)) ?_
    exact s_iret d_Cs_isOpen_23 rfl h
  · refine Eq.trans (o_iload_n d_Cs_isOpen_4 rfl) ?_
    refine Eq.trans (o_aload_n d_Cs_isOpen_5 rfl) ?_
    refine s_get d_Cs_isOpen_6 pF_Cs_15 (zC_Cs_used o) h (fun x1 h => ?_)
    refine s_icmp_ge (t := 22) d_Cs_isOpen_9 (by decide) h (fun h => ?_) (fun h => ?_)
    · refine Eq.trans (o_iconst (v := 0) d_Cs_isOpen_22 (by decide)) ?_
      exact s_iret d_Cs_isOpen_23 rfl h
    · refine Eq.trans (o_iload_n d_Cs_isOpen_12 rfl) ?_
      refine Eq.trans (o_bipush (v := 48) d_Cs_isOpen_13 (by decide)) ?_
      refine s_icmp_ge (t := 22) d_Cs_isOpen_15 (by decide) h (fun h => ?_) (fun h => ?_)
      · refine Eq.trans (o_iconst (v := 0) d_Cs_isOpen_22 (by decide)) ?_
        exact s_iret d_Cs_isOpen_23 rfl h
      · refine Eq.trans (o_iconst (v := 1) d_Cs_isOpen_18 (by decide)) ?_
        refine Eq.trans (o_goto (t := 23) d_Cs_isOpen_19 (by decide)) ?_
        exact s_iret d_Cs_isOpen_23 rfl h
theorem c_Cs_isOpen (D : Nat) (hD : 1 ≤ D) (o : Nat) (a1 : Int32) (T T1 : qT) (v : Int32) (h : f_Cs_isOpen o a1 T = some (v, T1)) : q_ev q_Mt D 16 [.ref (o + 2), .int a1] (layC o T) = some (.inl (some (.int v)), layC o T1) := by
  obtain ⟨D, rfl⟩ : ∃ D', D = D' + 1 := ⟨D - 1, by omega⟩
  rw [o_ev (M := q_mCs_isOpen) (lo := [some (.ref (o + 2)), some (.int a1)]) rfl (Nat.le_of_ble_eq_true rfl) rfl]
  exact c_Cs_isOpen_0 D (by omega) o a1 T T1 v h
noncomputable def f_Lo_bitCount (o : Nat) (a1 : Int64) : qW Int32 :=
  w_ret .int (((((((((((a1 - (((a1.toUInt64 >>> ((1 : Int32).toInt64.toUInt64 &&& Int64.toUInt64 63)).toInt64) &&& (6148914691236517205 : Int64))) &&& (3689348814741910323 : Int64)) + ((((a1 - (((a1.toUInt64 >>> ((1 : Int32).toInt64.toUInt64 &&& Int64.toUInt64 63)).toInt64) &&& (6148914691236517205 : Int64))).toUInt64 >>> ((2 : Int32).toInt64.toUInt64 &&& Int64.toUInt64 63)).toInt64) &&& (3689348814741910323 : Int64))) + (((((a1 - (((a1.toUInt64 >>> ((1 : Int32).toInt64.toUInt64 &&& Int64.toUInt64 63)).toInt64) &&& (6148914691236517205 : Int64))) &&& (3689348814741910323 : Int64)) + ((((a1 - (((a1.toUInt64 >>> ((1 : Int32).toInt64.toUInt64 &&& Int64.toUInt64 63)).toInt64) &&& (6148914691236517205 : Int64))).toUInt64 >>> ((2 : Int32).toInt64.toUInt64 &&& Int64.toUInt64 63)).toInt64) &&& (3689348814741910323 : Int64))).toUInt64 >>> ((4 : Int32).toInt64.toUInt64 &&& Int64.toUInt64 63)).toInt64)) &&& (1085102592571150095 : Int64)) + (((((((a1 - (((a1.toUInt64 >>> ((1 : Int32).toInt64.toUInt64 &&& Int64.toUInt64 63)).toInt64) &&& (6148914691236517205 : Int64))) &&& (3689348814741910323 : Int64)) + ((((a1 - (((a1.toUInt64 >>> ((1 : Int32).toInt64.toUInt64 &&& Int64.toUInt64 63)).toInt64) &&& (6148914691236517205 : Int64))).toUInt64 >>> ((2 : Int32).toInt64.toUInt64 &&& Int64.toUInt64 63)).toInt64) &&& (3689348814741910323 : Int64))) + (((((a1 - (((a1.toUInt64 >>> ((1 : Int32).toInt64.toUInt64 &&& Int64.toUInt64 63)).toInt64) &&& (6148914691236517205 : Int64))) &&& (3689348814741910323 : Int64)) + ((((a1 - (((a1.toUInt64 >>> ((1 : Int32).toInt64.toUInt64 &&& Int64.toUInt64 63)).toInt64) &&& (6148914691236517205 : Int64))).toUInt64 >>> ((2 : Int32).toInt64.toUInt64 &&& Int64.toUInt64 63)).toInt64) &&& (3689348814741910323 : Int64))).toUInt64 >>> ((4 : Int32).toInt64.toUInt64 &&& Int64.toUInt64 63)).toInt64)) &&& (1085102592571150095 : Int64)).toUInt64 >>> ((8 : Int32).toInt64.toUInt64 &&& Int64.toUInt64 63)).toInt64)) + ((((((((a1 - (((a1.toUInt64 >>> ((1 : Int32).toInt64.toUInt64 &&& Int64.toUInt64 63)).toInt64) &&& (6148914691236517205 : Int64))) &&& (3689348814741910323 : Int64)) + ((((a1 - (((a1.toUInt64 >>> ((1 : Int32).toInt64.toUInt64 &&& Int64.toUInt64 63)).toInt64) &&& (6148914691236517205 : Int64))).toUInt64 >>> ((2 : Int32).toInt64.toUInt64 &&& Int64.toUInt64 63)).toInt64) &&& (3689348814741910323 : Int64))) + (((((a1 - (((a1.toUInt64 >>> ((1 : Int32).toInt64.toUInt64 &&& Int64.toUInt64 63)).toInt64) &&& (6148914691236517205 : Int64))) &&& (3689348814741910323 : Int64)) + ((((a1 - (((a1.toUInt64 >>> ((1 : Int32).toInt64.toUInt64 &&& Int64.toUInt64 63)).toInt64) &&& (6148914691236517205 : Int64))).toUInt64 >>> ((2 : Int32).toInt64.toUInt64 &&& Int64.toUInt64 63)).toInt64) &&& (3689348814741910323 : Int64))).toUInt64 >>> ((4 : Int32).toInt64.toUInt64 &&& Int64.toUInt64 63)).toInt64)) &&& (1085102592571150095 : Int64)) + (((((((a1 - (((a1.toUInt64 >>> ((1 : Int32).toInt64.toUInt64 &&& Int64.toUInt64 63)).toInt64) &&& (6148914691236517205 : Int64))) &&& (3689348814741910323 : Int64)) + ((((a1 - (((a1.toUInt64 >>> ((1 : Int32).toInt64.toUInt64 &&& Int64.toUInt64 63)).toInt64) &&& (6148914691236517205 : Int64))).toUInt64 >>> ((2 : Int32).toInt64.toUInt64 &&& Int64.toUInt64 63)).toInt64) &&& (3689348814741910323 : Int64))) + (((((a1 - (((a1.toUInt64 >>> ((1 : Int32).toInt64.toUInt64 &&& Int64.toUInt64 63)).toInt64) &&& (6148914691236517205 : Int64))) &&& (3689348814741910323 : Int64)) + ((((a1 - (((a1.toUInt64 >>> ((1 : Int32).toInt64.toUInt64 &&& Int64.toUInt64 63)).toInt64) &&& (6148914691236517205 : Int64))).toUInt64 >>> ((2 : Int32).toInt64.toUInt64 &&& Int64.toUInt64 63)).toInt64) &&& (3689348814741910323 : Int64))).toUInt64 >>> ((4 : Int32).toInt64.toUInt64 &&& Int64.toUInt64 63)).toInt64)) &&& (1085102592571150095 : Int64)).toUInt64 >>> ((8 : Int32).toInt64.toUInt64 &&& Int64.toUInt64 63)).toInt64)).toUInt64 >>> ((16 : Int32).toInt64.toUInt64 &&& Int64.toUInt64 63)).toInt64)) + (((((((((a1 - (((a1.toUInt64 >>> ((1 : Int32).toInt64.toUInt64 &&& Int64.toUInt64 63)).toInt64) &&& (6148914691236517205 : Int64))) &&& (3689348814741910323 : Int64)) + ((((a1 - (((a1.toUInt64 >>> ((1 : Int32).toInt64.toUInt64 &&& Int64.toUInt64 63)).toInt64) &&& (6148914691236517205 : Int64))).toUInt64 >>> ((2 : Int32).toInt64.toUInt64 &&& Int64.toUInt64 63)).toInt64) &&& (3689348814741910323 : Int64))) + (((((a1 - (((a1.toUInt64 >>> ((1 : Int32).toInt64.toUInt64 &&& Int64.toUInt64 63)).toInt64) &&& (6148914691236517205 : Int64))) &&& (3689348814741910323 : Int64)) + ((((a1 - (((a1.toUInt64 >>> ((1 : Int32).toInt64.toUInt64 &&& Int64.toUInt64 63)).toInt64) &&& (6148914691236517205 : Int64))).toUInt64 >>> ((2 : Int32).toInt64.toUInt64 &&& Int64.toUInt64 63)).toInt64) &&& (3689348814741910323 : Int64))).toUInt64 >>> ((4 : Int32).toInt64.toUInt64 &&& Int64.toUInt64 63)).toInt64)) &&& (1085102592571150095 : Int64)) + (((((((a1 - (((a1.toUInt64 >>> ((1 : Int32).toInt64.toUInt64 &&& Int64.toUInt64 63)).toInt64) &&& (6148914691236517205 : Int64))) &&& (3689348814741910323 : Int64)) + ((((a1 - (((a1.toUInt64 >>> ((1 : Int32).toInt64.toUInt64 &&& Int64.toUInt64 63)).toInt64) &&& (6148914691236517205 : Int64))).toUInt64 >>> ((2 : Int32).toInt64.toUInt64 &&& Int64.toUInt64 63)).toInt64) &&& (3689348814741910323 : Int64))) + (((((a1 - (((a1.toUInt64 >>> ((1 : Int32).toInt64.toUInt64 &&& Int64.toUInt64 63)).toInt64) &&& (6148914691236517205 : Int64))) &&& (3689348814741910323 : Int64)) + ((((a1 - (((a1.toUInt64 >>> ((1 : Int32).toInt64.toUInt64 &&& Int64.toUInt64 63)).toInt64) &&& (6148914691236517205 : Int64))).toUInt64 >>> ((2 : Int32).toInt64.toUInt64 &&& Int64.toUInt64 63)).toInt64) &&& (3689348814741910323 : Int64))).toUInt64 >>> ((4 : Int32).toInt64.toUInt64 &&& Int64.toUInt64 63)).toInt64)) &&& (1085102592571150095 : Int64)).toUInt64 >>> ((8 : Int32).toInt64.toUInt64 &&& Int64.toUInt64 63)).toInt64)) + ((((((((a1 - (((a1.toUInt64 >>> ((1 : Int32).toInt64.toUInt64 &&& Int64.toUInt64 63)).toInt64) &&& (6148914691236517205 : Int64))) &&& (3689348814741910323 : Int64)) + ((((a1 - (((a1.toUInt64 >>> ((1 : Int32).toInt64.toUInt64 &&& Int64.toUInt64 63)).toInt64) &&& (6148914691236517205 : Int64))).toUInt64 >>> ((2 : Int32).toInt64.toUInt64 &&& Int64.toUInt64 63)).toInt64) &&& (3689348814741910323 : Int64))) + (((((a1 - (((a1.toUInt64 >>> ((1 : Int32).toInt64.toUInt64 &&& Int64.toUInt64 63)).toInt64) &&& (6148914691236517205 : Int64))) &&& (3689348814741910323 : Int64)) + ((((a1 - (((a1.toUInt64 >>> ((1 : Int32).toInt64.toUInt64 &&& Int64.toUInt64 63)).toInt64) &&& (6148914691236517205 : Int64))).toUInt64 >>> ((2 : Int32).toInt64.toUInt64 &&& Int64.toUInt64 63)).toInt64) &&& (3689348814741910323 : Int64))).toUInt64 >>> ((4 : Int32).toInt64.toUInt64 &&& Int64.toUInt64 63)).toInt64)) &&& (1085102592571150095 : Int64)) + (((((((a1 - (((a1.toUInt64 >>> ((1 : Int32).toInt64.toUInt64 &&& Int64.toUInt64 63)).toInt64) &&& (6148914691236517205 : Int64))) &&& (3689348814741910323 : Int64)) + ((((a1 - (((a1.toUInt64 >>> ((1 : Int32).toInt64.toUInt64 &&& Int64.toUInt64 63)).toInt64) &&& (6148914691236517205 : Int64))).toUInt64 >>> ((2 : Int32).toInt64.toUInt64 &&& Int64.toUInt64 63)).toInt64) &&& (3689348814741910323 : Int64))) + (((((a1 - (((a1.toUInt64 >>> ((1 : Int32).toInt64.toUInt64 &&& Int64.toUInt64 63)).toInt64) &&& (6148914691236517205 : Int64))) &&& (3689348814741910323 : Int64)) + ((((a1 - (((a1.toUInt64 >>> ((1 : Int32).toInt64.toUInt64 &&& Int64.toUInt64 63)).toInt64) &&& (6148914691236517205 : Int64))).toUInt64 >>> ((2 : Int32).toInt64.toUInt64 &&& Int64.toUInt64 63)).toInt64) &&& (3689348814741910323 : Int64))).toUInt64 >>> ((4 : Int32).toInt64.toUInt64 &&& Int64.toUInt64 63)).toInt64)) &&& (1085102592571150095 : Int64)).toUInt64 >>> ((8 : Int32).toInt64.toUInt64 &&& Int64.toUInt64 63)).toInt64)).toUInt64 >>> ((16 : Int32).toInt64.toUInt64 &&& Int64.toUInt64 63)).toInt64)).toUInt64 >>> ((32 : Int32).toInt64.toUInt64 &&& Int64.toUInt64 63)).toInt64))).toInt32 &&& 127))
set_option maxRecDepth 100000 in
set_option maxHeartbeats 4000000 in
theorem c_Lo_bitCount_0 (D : Nat) (hD : 0 ≤ D) (o : Nat) (a1 : Int64)  (T T1 : qT) (v : Int32) (h : f_Lo_bitCount o a1 T = some (v, T1)) : q_out (q_ev q_Mt D) q_mLo_bitCount (0, [some (.long a1), none], [], layC o T) = some (.inl (some (.int v)), layC o T1) := by
  unfold f_Lo_bitCount at h
  refine Eq.trans (o_lload_n d_Lo_bitCount_0 rfl) ?_
  refine Eq.trans (o_lload_n d_Lo_bitCount_1 rfl) ?_
  refine Eq.trans (o_iconst (v := 1) d_Lo_bitCount_2 (by decide)) ?_
  refine Eq.trans (o_lushr d_Lo_bitCount_3) ?_
  refine Eq.trans (o_ldc2 d_Lo_bitCount_4 pL_Lo_314) ?_
  refine Eq.trans (o_land d_Lo_bitCount_7) ?_
  refine Eq.trans (o_lsub d_Lo_bitCount_8) ?_
  refine Eq.trans (o_lstore_n (lo' := [some (.long (a1 - (((a1.toUInt64 >>> ((1 : Int32).toInt64.toUInt64 &&& Int64.toUInt64 63)).toInt64) &&& (6148914691236517205 : Int64)))), none]) d_Lo_bitCount_9 (Nat.le_of_ble_eq_true rfl) rfl) ?_
  refine Eq.trans (o_lload_n d_Lo_bitCount_10 rfl) ?_
  refine Eq.trans (o_ldc2 d_Lo_bitCount_11 pL_Lo_316) ?_
  refine Eq.trans (o_land d_Lo_bitCount_14) ?_
  refine Eq.trans (o_lload_n d_Lo_bitCount_15 rfl) ?_
  refine Eq.trans (o_iconst (v := 2) d_Lo_bitCount_16 (by decide)) ?_
  refine Eq.trans (o_lushr d_Lo_bitCount_17) ?_
  refine Eq.trans (o_ldc2 d_Lo_bitCount_18 pL_Lo_316) ?_
  refine Eq.trans (o_land d_Lo_bitCount_21) ?_
  refine Eq.trans (o_ladd d_Lo_bitCount_22) ?_
  refine Eq.trans (o_lstore_n (lo' := [some (.long (((a1 - (((a1.toUInt64 >>> ((1 : Int32).toInt64.toUInt64 &&& Int64.toUInt64 63)).toInt64) &&& (6148914691236517205 : Int64))) &&& (3689348814741910323 : Int64)) + ((((a1 - (((a1.toUInt64 >>> ((1 : Int32).toInt64.toUInt64 &&& Int64.toUInt64 63)).toInt64) &&& (6148914691236517205 : Int64))).toUInt64 >>> ((2 : Int32).toInt64.toUInt64 &&& Int64.toUInt64 63)).toInt64) &&& (3689348814741910323 : Int64)))), none]) d_Lo_bitCount_23 (Nat.le_of_ble_eq_true rfl) rfl) ?_
  refine Eq.trans (o_lload_n d_Lo_bitCount_24 rfl) ?_
  refine Eq.trans (o_lload_n d_Lo_bitCount_25 rfl) ?_
  refine Eq.trans (o_iconst (v := 4) d_Lo_bitCount_26 (by decide)) ?_
  refine Eq.trans (o_lushr d_Lo_bitCount_27) ?_
  refine Eq.trans (o_ladd d_Lo_bitCount_28) ?_
  refine Eq.trans (o_ldc2 d_Lo_bitCount_29 pL_Lo_318) ?_
  refine Eq.trans (o_land d_Lo_bitCount_32) ?_
  refine Eq.trans (o_lstore_n (lo' := [some (.long (((((a1 - (((a1.toUInt64 >>> ((1 : Int32).toInt64.toUInt64 &&& Int64.toUInt64 63)).toInt64) &&& (6148914691236517205 : Int64))) &&& (3689348814741910323 : Int64)) + ((((a1 - (((a1.toUInt64 >>> ((1 : Int32).toInt64.toUInt64 &&& Int64.toUInt64 63)).toInt64) &&& (6148914691236517205 : Int64))).toUInt64 >>> ((2 : Int32).toInt64.toUInt64 &&& Int64.toUInt64 63)).toInt64) &&& (3689348814741910323 : Int64))) + (((((a1 - (((a1.toUInt64 >>> ((1 : Int32).toInt64.toUInt64 &&& Int64.toUInt64 63)).toInt64) &&& (6148914691236517205 : Int64))) &&& (3689348814741910323 : Int64)) + ((((a1 - (((a1.toUInt64 >>> ((1 : Int32).toInt64.toUInt64 &&& Int64.toUInt64 63)).toInt64) &&& (6148914691236517205 : Int64))).toUInt64 >>> ((2 : Int32).toInt64.toUInt64 &&& Int64.toUInt64 63)).toInt64) &&& (3689348814741910323 : Int64))).toUInt64 >>> ((4 : Int32).toInt64.toUInt64 &&& Int64.toUInt64 63)).toInt64)) &&& (1085102592571150095 : Int64))), none]) d_Lo_bitCount_33 (Nat.le_of_ble_eq_true rfl) rfl) ?_
  refine Eq.trans (o_lload_n d_Lo_bitCount_34 rfl) ?_
  refine Eq.trans (o_lload_n d_Lo_bitCount_35 rfl) ?_
  refine Eq.trans (o_bipush (v := 8) d_Lo_bitCount_36 (by decide)) ?_
  refine Eq.trans (o_lushr d_Lo_bitCount_38) ?_
  refine Eq.trans (o_ladd d_Lo_bitCount_39) ?_
  refine Eq.trans (o_lstore_n (lo' := [some (.long ((((((a1 - (((a1.toUInt64 >>> ((1 : Int32).toInt64.toUInt64 &&& Int64.toUInt64 63)).toInt64) &&& (6148914691236517205 : Int64))) &&& (3689348814741910323 : Int64)) + ((((a1 - (((a1.toUInt64 >>> ((1 : Int32).toInt64.toUInt64 &&& Int64.toUInt64 63)).toInt64) &&& (6148914691236517205 : Int64))).toUInt64 >>> ((2 : Int32).toInt64.toUInt64 &&& Int64.toUInt64 63)).toInt64) &&& (3689348814741910323 : Int64))) + (((((a1 - (((a1.toUInt64 >>> ((1 : Int32).toInt64.toUInt64 &&& Int64.toUInt64 63)).toInt64) &&& (6148914691236517205 : Int64))) &&& (3689348814741910323 : Int64)) + ((((a1 - (((a1.toUInt64 >>> ((1 : Int32).toInt64.toUInt64 &&& Int64.toUInt64 63)).toInt64) &&& (6148914691236517205 : Int64))).toUInt64 >>> ((2 : Int32).toInt64.toUInt64 &&& Int64.toUInt64 63)).toInt64) &&& (3689348814741910323 : Int64))).toUInt64 >>> ((4 : Int32).toInt64.toUInt64 &&& Int64.toUInt64 63)).toInt64)) &&& (1085102592571150095 : Int64)) + (((((((a1 - (((a1.toUInt64 >>> ((1 : Int32).toInt64.toUInt64 &&& Int64.toUInt64 63)).toInt64) &&& (6148914691236517205 : Int64))) &&& (3689348814741910323 : Int64)) + ((((a1 - (((a1.toUInt64 >>> ((1 : Int32).toInt64.toUInt64 &&& Int64.toUInt64 63)).toInt64) &&& (6148914691236517205 : Int64))).toUInt64 >>> ((2 : Int32).toInt64.toUInt64 &&& Int64.toUInt64 63)).toInt64) &&& (3689348814741910323 : Int64))) + (((((a1 - (((a1.toUInt64 >>> ((1 : Int32).toInt64.toUInt64 &&& Int64.toUInt64 63)).toInt64) &&& (6148914691236517205 : Int64))) &&& (3689348814741910323 : Int64)) + ((((a1 - (((a1.toUInt64 >>> ((1 : Int32).toInt64.toUInt64 &&& Int64.toUInt64 63)).toInt64) &&& (6148914691236517205 : Int64))).toUInt64 >>> ((2 : Int32).toInt64.toUInt64 &&& Int64.toUInt64 63)).toInt64) &&& (3689348814741910323 : Int64))).toUInt64 >>> ((4 : Int32).toInt64.toUInt64 &&& Int64.toUInt64 63)).toInt64)) &&& (1085102592571150095 : Int64)).toUInt64 >>> ((8 : Int32).toInt64.toUInt64 &&& Int64.toUInt64 63)).toInt64))), none]) d_Lo_bitCount_40 (Nat.le_of_ble_eq_true rfl) rfl) ?_
  refine Eq.trans (o_lload_n d_Lo_bitCount_41 rfl) ?_
  refine Eq.trans (o_lload_n d_Lo_bitCount_42 rfl) ?_
  refine Eq.trans (o_bipush (v := 16) d_Lo_bitCount_43 (by decide)) ?_
  refine Eq.trans (o_lushr d_Lo_bitCount_45) ?_
  refine Eq.trans (o_ladd d_Lo_bitCount_46) ?_
  refine Eq.trans (o_lstore_n (lo' := [some (.long (((((((a1 - (((a1.toUInt64 >>> ((1 : Int32).toInt64.toUInt64 &&& Int64.toUInt64 63)).toInt64) &&& (6148914691236517205 : Int64))) &&& (3689348814741910323 : Int64)) + ((((a1 - (((a1.toUInt64 >>> ((1 : Int32).toInt64.toUInt64 &&& Int64.toUInt64 63)).toInt64) &&& (6148914691236517205 : Int64))).toUInt64 >>> ((2 : Int32).toInt64.toUInt64 &&& Int64.toUInt64 63)).toInt64) &&& (3689348814741910323 : Int64))) + (((((a1 - (((a1.toUInt64 >>> ((1 : Int32).toInt64.toUInt64 &&& Int64.toUInt64 63)).toInt64) &&& (6148914691236517205 : Int64))) &&& (3689348814741910323 : Int64)) + ((((a1 - (((a1.toUInt64 >>> ((1 : Int32).toInt64.toUInt64 &&& Int64.toUInt64 63)).toInt64) &&& (6148914691236517205 : Int64))).toUInt64 >>> ((2 : Int32).toInt64.toUInt64 &&& Int64.toUInt64 63)).toInt64) &&& (3689348814741910323 : Int64))).toUInt64 >>> ((4 : Int32).toInt64.toUInt64 &&& Int64.toUInt64 63)).toInt64)) &&& (1085102592571150095 : Int64)) + (((((((a1 - (((a1.toUInt64 >>> ((1 : Int32).toInt64.toUInt64 &&& Int64.toUInt64 63)).toInt64) &&& (6148914691236517205 : Int64))) &&& (3689348814741910323 : Int64)) + ((((a1 - (((a1.toUInt64 >>> ((1 : Int32).toInt64.toUInt64 &&& Int64.toUInt64 63)).toInt64) &&& (6148914691236517205 : Int64))).toUInt64 >>> ((2 : Int32).toInt64.toUInt64 &&& Int64.toUInt64 63)).toInt64) &&& (3689348814741910323 : Int64))) + (((((a1 - (((a1.toUInt64 >>> ((1 : Int32).toInt64.toUInt64 &&& Int64.toUInt64 63)).toInt64) &&& (6148914691236517205 : Int64))) &&& (3689348814741910323 : Int64)) + ((((a1 - (((a1.toUInt64 >>> ((1 : Int32).toInt64.toUInt64 &&& Int64.toUInt64 63)).toInt64) &&& (6148914691236517205 : Int64))).toUInt64 >>> ((2 : Int32).toInt64.toUInt64 &&& Int64.toUInt64 63)).toInt64) &&& (3689348814741910323 : Int64))).toUInt64 >>> ((4 : Int32).toInt64.toUInt64 &&& Int64.toUInt64 63)).toInt64)) &&& (1085102592571150095 : Int64)).toUInt64 >>> ((8 : Int32).toInt64.toUInt64 &&& Int64.toUInt64 63)).toInt64)) + ((((((((a1 - (((a1.toUInt64 >>> ((1 : Int32).toInt64.toUInt64 &&& Int64.toUInt64 63)).toInt64) &&& (6148914691236517205 : Int64))) &&& (3689348814741910323 : Int64)) + ((((a1 - (((a1.toUInt64 >>> ((1 : Int32).toInt64.toUInt64 &&& Int64.toUInt64 63)).toInt64) &&& (6148914691236517205 : Int64))).toUInt64 >>> ((2 : Int32).toInt64.toUInt64 &&& Int64.toUInt64 63)).toInt64) &&& (3689348814741910323 : Int64))) + (((((a1 - (((a1.toUInt64 >>> ((1 : Int32).toInt64.toUInt64 &&& Int64.toUInt64 63)).toInt64) &&& (6148914691236517205 : Int64))) &&& (3689348814741910323 : Int64)) + ((((a1 - (((a1.toUInt64 >>> ((1 : Int32).toInt64.toUInt64 &&& Int64.toUInt64 63)).toInt64) &&& (6148914691236517205 : Int64))).toUInt64 >>> ((2 : Int32).toInt64.toUInt64 &&& Int64.toUInt64 63)).toInt64) &&& (3689348814741910323 : Int64))).toUInt64 >>> ((4 : Int32).toInt64.toUInt64 &&& Int64.toUInt64 63)).toInt64)) &&& (1085102592571150095 : Int64)) + (((((((a1 - (((a1.toUInt64 >>> ((1 : Int32).toInt64.toUInt64 &&& Int64.toUInt64 63)).toInt64) &&& (6148914691236517205 : Int64))) &&& (3689348814741910323 : Int64)) + ((((a1 - (((a1.toUInt64 >>> ((1 : Int32).toInt64.toUInt64 &&& Int64.toUInt64 63)).toInt64) &&& (6148914691236517205 : Int64))).toUInt64 >>> ((2 : Int32).toInt64.toUInt64 &&& Int64.toUInt64 63)).toInt64) &&& (3689348814741910323 : Int64))) + (((((a1 - (((a1.toUInt64 >>> ((1 : Int32).toInt64.toUInt64 &&& Int64.toUInt64 63)).toInt64) &&& (6148914691236517205 : Int64))) &&& (3689348814741910323 : Int64)) + ((((a1 - (((a1.toUInt64 >>> ((1 : Int32).toInt64.toUInt64 &&& Int64.toUInt64 63)).toInt64) &&& (6148914691236517205 : Int64))).toUInt64 >>> ((2 : Int32).toInt64.toUInt64 &&& Int64.toUInt64 63)).toInt64) &&& (3689348814741910323 : Int64))).toUInt64 >>> ((4 : Int32).toInt64.toUInt64 &&& Int64.toUInt64 63)).toInt64)) &&& (1085102592571150095 : Int64)).toUInt64 >>> ((8 : Int32).toInt64.toUInt64 &&& Int64.toUInt64 63)).toInt64)).toUInt64 >>> ((16 : Int32).toInt64.toUInt64 &&& Int64.toUInt64 63)).toInt64))), none]) d_Lo_bitCount_47 (Nat.le_of_ble_eq_true rfl) rfl) ?_
  refine Eq.trans (o_lload_n d_Lo_bitCount_48 rfl) ?_
  refine Eq.trans (o_lload_n d_Lo_bitCount_49 rfl) ?_
  refine Eq.trans (o_bipush (v := 32) d_Lo_bitCount_50 (by decide)) ?_
  refine Eq.trans (o_lushr d_Lo_bitCount_52) ?_
  refine Eq.trans (o_ladd d_Lo_bitCount_53) ?_
  refine Eq.trans (o_lstore_n (lo' := [some (.long ((((((((a1 - (((a1.toUInt64 >>> ((1 : Int32).toInt64.toUInt64 &&& Int64.toUInt64 63)).toInt64) &&& (6148914691236517205 : Int64))) &&& (3689348814741910323 : Int64)) + ((((a1 - (((a1.toUInt64 >>> ((1 : Int32).toInt64.toUInt64 &&& Int64.toUInt64 63)).toInt64) &&& (6148914691236517205 : Int64))).toUInt64 >>> ((2 : Int32).toInt64.toUInt64 &&& Int64.toUInt64 63)).toInt64) &&& (3689348814741910323 : Int64))) + (((((a1 - (((a1.toUInt64 >>> ((1 : Int32).toInt64.toUInt64 &&& Int64.toUInt64 63)).toInt64) &&& (6148914691236517205 : Int64))) &&& (3689348814741910323 : Int64)) + ((((a1 - (((a1.toUInt64 >>> ((1 : Int32).toInt64.toUInt64 &&& Int64.toUInt64 63)).toInt64) &&& (6148914691236517205 : Int64))).toUInt64 >>> ((2 : Int32).toInt64.toUInt64 &&& Int64.toUInt64 63)).toInt64) &&& (3689348814741910323 : Int64))).toUInt64 >>> ((4 : Int32).toInt64.toUInt64 &&& Int64.toUInt64 63)).toInt64)) &&& (1085102592571150095 : Int64)) + (((((((a1 - (((a1.toUInt64 >>> ((1 : Int32).toInt64.toUInt64 &&& Int64.toUInt64 63)).toInt64) &&& (6148914691236517205 : Int64))) &&& (3689348814741910323 : Int64)) + ((((a1 - (((a1.toUInt64 >>> ((1 : Int32).toInt64.toUInt64 &&& Int64.toUInt64 63)).toInt64) &&& (6148914691236517205 : Int64))).toUInt64 >>> ((2 : Int32).toInt64.toUInt64 &&& Int64.toUInt64 63)).toInt64) &&& (3689348814741910323 : Int64))) + (((((a1 - (((a1.toUInt64 >>> ((1 : Int32).toInt64.toUInt64 &&& Int64.toUInt64 63)).toInt64) &&& (6148914691236517205 : Int64))) &&& (3689348814741910323 : Int64)) + ((((a1 - (((a1.toUInt64 >>> ((1 : Int32).toInt64.toUInt64 &&& Int64.toUInt64 63)).toInt64) &&& (6148914691236517205 : Int64))).toUInt64 >>> ((2 : Int32).toInt64.toUInt64 &&& Int64.toUInt64 63)).toInt64) &&& (3689348814741910323 : Int64))).toUInt64 >>> ((4 : Int32).toInt64.toUInt64 &&& Int64.toUInt64 63)).toInt64)) &&& (1085102592571150095 : Int64)).toUInt64 >>> ((8 : Int32).toInt64.toUInt64 &&& Int64.toUInt64 63)).toInt64)) + ((((((((a1 - (((a1.toUInt64 >>> ((1 : Int32).toInt64.toUInt64 &&& Int64.toUInt64 63)).toInt64) &&& (6148914691236517205 : Int64))) &&& (3689348814741910323 : Int64)) + ((((a1 - (((a1.toUInt64 >>> ((1 : Int32).toInt64.toUInt64 &&& Int64.toUInt64 63)).toInt64) &&& (6148914691236517205 : Int64))).toUInt64 >>> ((2 : Int32).toInt64.toUInt64 &&& Int64.toUInt64 63)).toInt64) &&& (3689348814741910323 : Int64))) + (((((a1 - (((a1.toUInt64 >>> ((1 : Int32).toInt64.toUInt64 &&& Int64.toUInt64 63)).toInt64) &&& (6148914691236517205 : Int64))) &&& (3689348814741910323 : Int64)) + ((((a1 - (((a1.toUInt64 >>> ((1 : Int32).toInt64.toUInt64 &&& Int64.toUInt64 63)).toInt64) &&& (6148914691236517205 : Int64))).toUInt64 >>> ((2 : Int32).toInt64.toUInt64 &&& Int64.toUInt64 63)).toInt64) &&& (3689348814741910323 : Int64))).toUInt64 >>> ((4 : Int32).toInt64.toUInt64 &&& Int64.toUInt64 63)).toInt64)) &&& (1085102592571150095 : Int64)) + (((((((a1 - (((a1.toUInt64 >>> ((1 : Int32).toInt64.toUInt64 &&& Int64.toUInt64 63)).toInt64) &&& (6148914691236517205 : Int64))) &&& (3689348814741910323 : Int64)) + ((((a1 - (((a1.toUInt64 >>> ((1 : Int32).toInt64.toUInt64 &&& Int64.toUInt64 63)).toInt64) &&& (6148914691236517205 : Int64))).toUInt64 >>> ((2 : Int32).toInt64.toUInt64 &&& Int64.toUInt64 63)).toInt64) &&& (3689348814741910323 : Int64))) + (((((a1 - (((a1.toUInt64 >>> ((1 : Int32).toInt64.toUInt64 &&& Int64.toUInt64 63)).toInt64) &&& (6148914691236517205 : Int64))) &&& (3689348814741910323 : Int64)) + ((((a1 - (((a1.toUInt64 >>> ((1 : Int32).toInt64.toUInt64 &&& Int64.toUInt64 63)).toInt64) &&& (6148914691236517205 : Int64))).toUInt64 >>> ((2 : Int32).toInt64.toUInt64 &&& Int64.toUInt64 63)).toInt64) &&& (3689348814741910323 : Int64))).toUInt64 >>> ((4 : Int32).toInt64.toUInt64 &&& Int64.toUInt64 63)).toInt64)) &&& (1085102592571150095 : Int64)).toUInt64 >>> ((8 : Int32).toInt64.toUInt64 &&& Int64.toUInt64 63)).toInt64)).toUInt64 >>> ((16 : Int32).toInt64.toUInt64 &&& Int64.toUInt64 63)).toInt64)) + (((((((((a1 - (((a1.toUInt64 >>> ((1 : Int32).toInt64.toUInt64 &&& Int64.toUInt64 63)).toInt64) &&& (6148914691236517205 : Int64))) &&& (3689348814741910323 : Int64)) + ((((a1 - (((a1.toUInt64 >>> ((1 : Int32).toInt64.toUInt64 &&& Int64.toUInt64 63)).toInt64) &&& (6148914691236517205 : Int64))).toUInt64 >>> ((2 : Int32).toInt64.toUInt64 &&& Int64.toUInt64 63)).toInt64) &&& (3689348814741910323 : Int64))) + (((((a1 - (((a1.toUInt64 >>> ((1 : Int32).toInt64.toUInt64 &&& Int64.toUInt64 63)).toInt64) &&& (6148914691236517205 : Int64))) &&& (3689348814741910323 : Int64)) + ((((a1 - (((a1.toUInt64 >>> ((1 : Int32).toInt64.toUInt64 &&& Int64.toUInt64 63)).toInt64) &&& (6148914691236517205 : Int64))).toUInt64 >>> ((2 : Int32).toInt64.toUInt64 &&& Int64.toUInt64 63)).toInt64) &&& (3689348814741910323 : Int64))).toUInt64 >>> ((4 : Int32).toInt64.toUInt64 &&& Int64.toUInt64 63)).toInt64)) &&& (1085102592571150095 : Int64)) + (((((((a1 - (((a1.toUInt64 >>> ((1 : Int32).toInt64.toUInt64 &&& Int64.toUInt64 63)).toInt64) &&& (6148914691236517205 : Int64))) &&& (3689348814741910323 : Int64)) + ((((a1 - (((a1.toUInt64 >>> ((1 : Int32).toInt64.toUInt64 &&& Int64.toUInt64 63)).toInt64) &&& (6148914691236517205 : Int64))).toUInt64 >>> ((2 : Int32).toInt64.toUInt64 &&& Int64.toUInt64 63)).toInt64) &&& (3689348814741910323 : Int64))) + (((((a1 - (((a1.toUInt64 >>> ((1 : Int32).toInt64.toUInt64 &&& Int64.toUInt64 63)).toInt64) &&& (6148914691236517205 : Int64))) &&& (3689348814741910323 : Int64)) + ((((a1 - (((a1.toUInt64 >>> ((1 : Int32).toInt64.toUInt64 &&& Int64.toUInt64 63)).toInt64) &&& (6148914691236517205 : Int64))).toUInt64 >>> ((2 : Int32).toInt64.toUInt64 &&& Int64.toUInt64 63)).toInt64) &&& (3689348814741910323 : Int64))).toUInt64 >>> ((4 : Int32).toInt64.toUInt64 &&& Int64.toUInt64 63)).toInt64)) &&& (1085102592571150095 : Int64)).toUInt64 >>> ((8 : Int32).toInt64.toUInt64 &&& Int64.toUInt64 63)).toInt64)) + ((((((((a1 - (((a1.toUInt64 >>> ((1 : Int32).toInt64.toUInt64 &&& Int64.toUInt64 63)).toInt64) &&& (6148914691236517205 : Int64))) &&& (3689348814741910323 : Int64)) + ((((a1 - (((a1.toUInt64 >>> ((1 : Int32).toInt64.toUInt64 &&& Int64.toUInt64 63)).toInt64) &&& (6148914691236517205 : Int64))).toUInt64 >>> ((2 : Int32).toInt64.toUInt64 &&& Int64.toUInt64 63)).toInt64) &&& (3689348814741910323 : Int64))) + (((((a1 - (((a1.toUInt64 >>> ((1 : Int32).toInt64.toUInt64 &&& Int64.toUInt64 63)).toInt64) &&& (6148914691236517205 : Int64))) &&& (3689348814741910323 : Int64)) + ((((a1 - (((a1.toUInt64 >>> ((1 : Int32).toInt64.toUInt64 &&& Int64.toUInt64 63)).toInt64) &&& (6148914691236517205 : Int64))).toUInt64 >>> ((2 : Int32).toInt64.toUInt64 &&& Int64.toUInt64 63)).toInt64) &&& (3689348814741910323 : Int64))).toUInt64 >>> ((4 : Int32).toInt64.toUInt64 &&& Int64.toUInt64 63)).toInt64)) &&& (1085102592571150095 : Int64)) + (((((((a1 - (((a1.toUInt64 >>> ((1 : Int32).toInt64.toUInt64 &&& Int64.toUInt64 63)).toInt64) &&& (6148914691236517205 : Int64))) &&& (3689348814741910323 : Int64)) + ((((a1 - (((a1.toUInt64 >>> ((1 : Int32).toInt64.toUInt64 &&& Int64.toUInt64 63)).toInt64) &&& (6148914691236517205 : Int64))).toUInt64 >>> ((2 : Int32).toInt64.toUInt64 &&& Int64.toUInt64 63)).toInt64) &&& (3689348814741910323 : Int64))) + (((((a1 - (((a1.toUInt64 >>> ((1 : Int32).toInt64.toUInt64 &&& Int64.toUInt64 63)).toInt64) &&& (6148914691236517205 : Int64))) &&& (3689348814741910323 : Int64)) + ((((a1 - (((a1.toUInt64 >>> ((1 : Int32).toInt64.toUInt64 &&& Int64.toUInt64 63)).toInt64) &&& (6148914691236517205 : Int64))).toUInt64 >>> ((2 : Int32).toInt64.toUInt64 &&& Int64.toUInt64 63)).toInt64) &&& (3689348814741910323 : Int64))).toUInt64 >>> ((4 : Int32).toInt64.toUInt64 &&& Int64.toUInt64 63)).toInt64)) &&& (1085102592571150095 : Int64)).toUInt64 >>> ((8 : Int32).toInt64.toUInt64 &&& Int64.toUInt64 63)).toInt64)).toUInt64 >>> ((16 : Int32).toInt64.toUInt64 &&& Int64.toUInt64 63)).toInt64)).toUInt64 >>> ((32 : Int32).toInt64.toUInt64 &&& Int64.toUInt64 63)).toInt64))), none]) d_Lo_bitCount_54 (Nat.le_of_ble_eq_true rfl) rfl) ?_
  refine Eq.trans (o_lload_n d_Lo_bitCount_55 rfl) ?_
  refine Eq.trans (o_l2i d_Lo_bitCount_56) ?_
  refine Eq.trans (o_bipush (v := 127) d_Lo_bitCount_57 (by decide)) ?_
  refine Eq.trans (o_iand d_Lo_bitCount_59) ?_
  exact s_iret d_Lo_bitCount_60 rfl h
theorem c_Lo_bitCount (D : Nat) (hD : 1 ≤ D) (o : Nat) (a1 : Int64) (T T1 : qT) (v : Int32) (h : f_Lo_bitCount o a1 T = some (v, T1)) : q_ev q_Mt D 125 [.long a1] (layC o T) = some (.inl (some (.int v)), layC o T1) := by
  obtain ⟨D, rfl⟩ : ∃ D', D = D' + 1 := ⟨D - 1, by omega⟩
  rw [o_ev (M := q_mLo_bitCount) (lo := [some (.long a1), none]) rfl (Nat.le_of_ble_eq_true rfl) rfl]
  exact c_Lo_bitCount_0 D (by omega) o a1 T T1 v h
noncomputable def k_Cs_count_4 (o : Nat) (v1 : Int32) (v2 : Int32) (v3 : Int32) : qW (qJ ⊕ Int32) :=
  w_if (4 ≤ v3) (
    w_ri .int v2) (
    w_C (f_Cs_isOpen o v1) fun x1 =>
    w_if (x1 = 0) (
      w_ri .int v2) (
      w_L 192 (((v1 * 4) + v3)) fun y2 =>
      w_C (f_Lo_bitCount o y2) fun x3 =>
      w_go 4 [.int v1, .int (v2 + x3), .int (v3 + 1)] []))
noncomputable def k_Cs_count_0 (o : Nat) (a1 : Int32) : qW (qJ ⊕ Int32) :=
  w_go 4 [.int a1, .int 0, .int 0] []
noncomputable def b_Cs_count (o : Nat) : qJ → qW (qJ ⊕ Int32) := fun x => match x with
  | (0, [.int a1], []) => k_Cs_count_0 o a1
  | (4, [.int v1, .int v2, .int v3], []) => k_Cs_count_4 o v1 v2 v3
  | _ => w_no
noncomputable def f_Cs_count (o : Nat) (a1 : Int32) : qW Int32 := w_fix (b_Cs_count o) (0, [.int a1], [])
set_option maxRecDepth 100000 in
set_option maxHeartbeats 4000000 in
theorem c_Cs_count_4 (D : Nat) (hD : 1 ≤ D) (o : Nat) (n : Nat) (ih_4 : ∀ (v1 : Int32) (v2 : Int32) (v3 : Int32)  (T T2 : qT) (v : Int32), w_run (b_Cs_count o) n (4, [.int v1, .int v2, .int v3], []) T = some (v, T2) → q_out (q_ev q_Mt D) q_mCs_count (4, [some (.ref (o + 2)), some (.int v1), some (.int v2), some (.int v3)], [], layC o T) = some (.inl (some (.int v)), layC o T2)) (v1 : Int32) (v2 : Int32) (v3 : Int32)  (T T1 T2 : qT) (rr : qJ ⊕ Int32) (v : Int32) (h : k_Cs_count_4 o v1 v2 v3 T = some (rr, T1)) (hE : w_end (b_Cs_count o) n rr T1 = some (v, T2)) : q_out (q_ev q_Mt D) q_mCs_count (4, [some (.ref (o + 2)), some (.int v1), some (.int v2), some (.int v3)], [], layC o T) = some (.inl (some (.int v)), layC o T2) := by
  unfold k_Cs_count_4 at h
  refine Eq.trans (o_iload_n d_Cs_count_4 rfl) ?_
  refine Eq.trans (o_iconst (v := 4) d_Cs_count_5 (by decide)) ?_
  refine s_icmp_ge (t := 39) d_Cs_count_6 (by decide) h (fun h => ?_) (fun h => ?_)
  · refine Eq.trans (o_iload_n d_Cs_count_39 rfl) ?_
    exact s_iretJ d_Cs_count_40 rfl h hE
  · refine Eq.trans (o_aload_n d_Cs_count_9 rfl) ?_
    refine Eq.trans (o_iload_n d_Cs_count_10 rfl) ?_
    obtain ⟨x1, T2, h1, h⟩ := w_C_of h
    refine s_cV1i d_Cs_count_11 pM_Cs_25 (Nat.le_of_ble_eq_true rfl) (obC_2 o) (c_Cs_isOpen D (by omega) o _ _ _ _ h1) ?_
    replace h1 := trivial; revert h; generalize T2 = T; intro h
    refine s_if_eq (t := 39) d_Cs_count_14 (by decide) h (fun h => ?_) (fun h => ?_)
    · refine Eq.trans (o_iload_n d_Cs_count_39 rfl) ?_
      exact s_iretJ d_Cs_count_40 rfl h hE
    · refine Eq.trans (o_iload_n d_Cs_count_17 rfl) ?_
      refine Eq.trans (o_aload_n d_Cs_count_18 rfl) ?_
      refine s_ref d_Cs_count_19 pF_Cs_11 (zC_Cs_bits o) ?_
      refine Eq.trans (o_iload_n d_Cs_count_22 rfl) ?_
      refine Eq.trans (o_iconst (v := 4) d_Cs_count_23 (by decide)) ?_
      refine Eq.trans (o_imul d_Cs_count_24) ?_
      refine Eq.trans (o_iload_n d_Cs_count_25 rfl) ?_
      refine Eq.trans (o_iadd d_Cs_count_26) ?_
      refine s_lald d_Cs_count_27 (rC_3 o) h (fun y2 h => ?_)
      obtain ⟨x3, T2, h1, h⟩ := w_C_of h
      refine s_cS1i d_Cs_count_28 pM_Cs_37 (Nat.le_of_ble_eq_true rfl) (c_Lo_bitCount D (by omega) o _ _ _ _ h1) ?_
      replace h1 := trivial; revert h; generalize T2 = T; intro h
      refine Eq.trans (o_iadd d_Cs_count_31) ?_
      refine Eq.trans (o_istore_n (lo' := [some (.ref (o + 2)), some (.int v1), some (.int (v2 + x3)), some (.int v3)]) d_Cs_count_32 (Nat.le_of_ble_eq_true rfl) rfl) ?_
      refine Eq.trans (o_iinc (v := (v3 + 1)) (lo' := [some (.ref (o + 2)), some (.int v1), some (.int (v2 + x3)), some (.int (v3 + 1))]) d_Cs_count_33 rfl (by rw [show Int32.ofInt 1 = 1 from by decide]) (Nat.le_of_ble_eq_true rfl) rfl) ?_
      refine Eq.trans (o_goto (t := 4) d_Cs_count_36 (by decide)) ?_
      exact ih_4 _ _ _ _ _ _ (s_jump h hE)
set_option maxRecDepth 100000 in
set_option maxHeartbeats 4000000 in
theorem c_Cs_count_0 (D : Nat) (hD : 1 ≤ D) (o : Nat) (n : Nat) (ih_4 : ∀ (v1 : Int32) (v2 : Int32) (v3 : Int32)  (T T2 : qT) (v : Int32), w_run (b_Cs_count o) n (4, [.int v1, .int v2, .int v3], []) T = some (v, T2) → q_out (q_ev q_Mt D) q_mCs_count (4, [some (.ref (o + 2)), some (.int v1), some (.int v2), some (.int v3)], [], layC o T) = some (.inl (some (.int v)), layC o T2)) (a1 : Int32)  (T T1 T2 : qT) (rr : qJ ⊕ Int32) (v : Int32) (h : k_Cs_count_0 o a1 T = some (rr, T1)) (hE : w_end (b_Cs_count o) n rr T1 = some (v, T2)) : q_out (q_ev q_Mt D) q_mCs_count (0, [some (.ref (o + 2)), some (.int a1), none, none], [], layC o T) = some (.inl (some (.int v)), layC o T2) := by
  unfold k_Cs_count_0 at h
  refine Eq.trans (o_iconst (v := 0) d_Cs_count_0 (by decide)) ?_
  refine Eq.trans (o_istore_n (lo' := [some (.ref (o + 2)), some (.int a1), some (.int 0), none]) d_Cs_count_1 (Nat.le_of_ble_eq_true rfl) rfl) ?_
  refine Eq.trans (o_iconst (v := 0) d_Cs_count_2 (by decide)) ?_
  refine Eq.trans (o_istore_n (lo' := [some (.ref (o + 2)), some (.int a1), some (.int 0), some (.int 0)]) d_Cs_count_3 (Nat.le_of_ble_eq_true rfl) rfl) ?_
  exact ih_4 _ _ _ _ _ _ (s_jump h hE)
theorem c_Cs_count_lp (D : Nat) (hD : 1 ≤ D) (o : Nat) : ∀ n : Nat, (∀ (v1 : Int32) (v2 : Int32) (v3 : Int32)  (T T2 : qT) (v : Int32), w_run (b_Cs_count o) n (4, [.int v1, .int v2, .int v3], []) T = some (v, T2) → q_out (q_ev q_Mt D) q_mCs_count (4, [some (.ref (o + 2)), some (.int v1), some (.int v2), some (.int v3)], [], layC o T) = some (.inl (some (.int v)), layC o T2)) := by
  intro n
  induction n with
  | zero => exact (fun v1 v2 v3 T T2 v h => by cases h)
  | succ n ih =>
    have ih_4 := ih
    · intro v1 v2 v3 T T2 v h
      obtain ⟨rr, T1, hb, hE⟩ := w_run_succ h
      exact c_Cs_count_4 D hD o n ih_4 v1 v2 v3 T T1 T2 rr v hb hE
theorem c_Cs_count (D : Nat) (hD : 2 ≤ D) (o : Nat) (a1 : Int32) (T T2 : qT) (v : Int32) (h : f_Cs_count o a1 T = some (v, T2)) : q_ev q_Mt D 15 [.ref (o + 2), .int a1] (layC o T) = some (.inl (some (.int v)), layC o T2) := by
  obtain ⟨D, rfl⟩ : ∃ D', D = D' + 1 := ⟨D - 1, by omega⟩
  obtain ⟨n, hn⟩ := w_fix_iff.mp h
  cases n with
  | zero => cases hn
  | succ n =>
    obtain ⟨rr, T1, hb, hE⟩ := w_run_succ hn
    have hl := c_Cs_count_lp D (by omega) o n
    have ih_4 := hl
    rw [o_ev (M := q_mCs_count) (lo := [some (.ref (o + 2)), some (.int a1), none, none]) rfl (Nat.le_of_ble_eq_true rfl) rfl]
    exact c_Cs_count_0 D (by omega) o n ih_4 a1 T T1 T2 rr v hb hE
noncomputable def f_Pr_has (o : Nat) (a1 : Int32) : qW Int32 :=
  w_if (a1 < 0) (
    w_ret .boolean 0) (
    w_S 103 fun x1 =>
    w_if (x1 ≤ a1) (
      w_ret .boolean 0) (
      w_if (160 ≤ a1) (
        w_ret .boolean 0) (
        w_ret .boolean 1)))
set_option maxRecDepth 100000 in
set_option maxHeartbeats 4000000 in
theorem c_Pr_has_0 (D : Nat) (hD : 0 ≤ D) (o : Nat) (a1 : Int32)  (T T1 : qT) (v : Int32) (h : f_Pr_has o a1 T = some (v, T1)) : q_out (q_ev q_Mt D) q_mPr_has (0, [some (.ref (o + 5)), some (.int a1)], [], layC o T) = some (.inl (some (.int v)), layC o T1) := by
  unfold f_Pr_has at h
  refine Eq.trans (o_iload_n d_Pr_has_0 rfl) ?_
  refine s_if_lt (t := 23) d_Pr_has_1 (by decide) h (fun h => ?_) (fun h => ?_)
  · refine Eq.trans (o_iconst (v := 0) d_Pr_has_23 (by decide)) ?_
    exact s_iret d_Pr_has_24 rfl h
  · refine Eq.trans (o_iload_n d_Pr_has_4 rfl) ?_
    refine Eq.trans (o_aload_n d_Pr_has_5 rfl) ?_
    refine s_get d_Pr_has_6 pF_Pr_21 (zC_Pr_size o) h (fun x1 h => ?_)
    refine s_icmp_ge (t := 23) d_Pr_has_9 (by decide) h (fun h => ?_) (fun h => ?_)
    · refine Eq.trans (o_iconst (v := 0) d_Pr_has_23 (by decide)) ?_
      exact s_iret d_Pr_has_24 rfl h
    · refine Eq.trans (o_iload_n d_Pr_has_12 rfl) ?_
      refine Eq.trans (o_sipush (v := 160) d_Pr_has_13 (by decide)) ?_
      refine s_icmp_ge (t := 23) d_Pr_has_16 (by decide) h (fun h => ?_) (fun h => ?_)
      · refine Eq.trans (o_iconst (v := 0) d_Pr_has_23 (by decide)) ?_
        exact s_iret d_Pr_has_24 rfl h
      · refine Eq.trans (o_iconst (v := 1) d_Pr_has_19 (by decide)) ?_
        refine Eq.trans (o_goto (t := 24) d_Pr_has_20 (by decide)) ?_
        exact s_iret d_Pr_has_24 rfl h
theorem c_Pr_has (D : Nat) (hD : 1 ≤ D) (o : Nat) (a1 : Int32) (T T1 : qT) (v : Int32) (h : f_Pr_has o a1 T = some (v, T1)) : q_ev q_Mt D 43 [.ref (o + 5), .int a1] (layC o T) = some (.inl (some (.int v)), layC o T1) := by
  obtain ⟨D, rfl⟩ : ∃ D', D = D' + 1 := ⟨D - 1, by omega⟩
  rw [o_ev (M := q_mPr_has) (lo := [some (.ref (o + 5)), some (.int a1)]) rfl (Nat.le_of_ble_eq_true rfl) rfl]
  exact c_Pr_has_0 D (by omega) o a1 T T1 v h
noncomputable def f_Pr_kindOf (o : Nat) (a1 : Int32) : qW Int32 :=
  w_C (f_Pr_has o a1) fun x1 =>
  w_if (x1 = 0) (
    w_ret .int ((-1))) (
    w_A 6 160 a1 fun x2 =>
    w_ret .int x2)
set_option maxRecDepth 100000 in
set_option maxHeartbeats 4000000 in
theorem c_Pr_kindOf_0 (D : Nat) (hD : 1 ≤ D) (o : Nat) (a1 : Int32)  (T T1 : qT) (v : Int32) (h : f_Pr_kindOf o a1 T = some (v, T1)) : q_out (q_ev q_Mt D) q_mPr_kindOf (0, [some (.ref (o + 5)), some (.int a1)], [], layC o T) = some (.inl (some (.int v)), layC o T1) := by
  unfold f_Pr_kindOf at h
  refine Eq.trans (o_aload_n d_Pr_kindOf_0 rfl) ?_
  refine Eq.trans (o_iload_n d_Pr_kindOf_1 rfl) ?_
  obtain ⟨x1, T2, h1, h⟩ := w_C_of h
  refine s_cV1i d_Pr_kindOf_2 pM_Pr_28 (Nat.le_of_ble_eq_true rfl) (obC_5 o) (c_Pr_has D (by omega) o _ _ _ _ h1) ?_
  replace h1 := trivial; revert h; generalize T2 = T; intro h
  refine s_if_eq (t := 17) d_Pr_kindOf_5 (by decide) h (fun h => ?_) (fun h => ?_)
  · refine Eq.trans (o_iconst (v := (-1)) d_Pr_kindOf_17 (by decide)) ?_
    exact s_iret d_Pr_kindOf_18 rfl h
  · refine Eq.trans (o_aload_n d_Pr_kindOf_8 rfl) ?_
    refine s_ref d_Pr_kindOf_9 pF_Pr_9 (zC_Pr_kinds o) ?_
    refine Eq.trans (o_iload_n d_Pr_kindOf_12 rfl) ?_
    refine s_iald d_Pr_kindOf_13 (rC_6 o) h (fun x2 h => ?_)
    refine Eq.trans (o_goto (t := 18) d_Pr_kindOf_14 (by decide)) ?_
    exact s_iret d_Pr_kindOf_18 rfl h
theorem c_Pr_kindOf (D : Nat) (hD : 2 ≤ D) (o : Nat) (a1 : Int32) (T T1 : qT) (v : Int32) (h : f_Pr_kindOf o a1 T = some (v, T1)) : q_ev q_Mt D 44 [.ref (o + 5), .int a1] (layC o T) = some (.inl (some (.int v)), layC o T1) := by
  obtain ⟨D, rfl⟩ : ∃ D', D = D' + 1 := ⟨D - 1, by omega⟩
  rw [o_ev (M := q_mPr_kindOf) (lo := [some (.ref (o + 5)), some (.int a1)]) rfl (Nat.le_of_ble_eq_true rfl) rfl]
  exact c_Pr_kindOf_0 D (by omega) o a1 T T1 v h
noncomputable def f_Pr_xOf (o : Nat) (a1 : Int32) : qW Int32 :=
  w_C (f_Pr_has o a1) fun x1 =>
  w_if (x1 = 0) (
    w_ret .int ((-1))) (
    w_A 7 160 a1 fun x2 =>
    w_ret .int x2)
set_option maxRecDepth 100000 in
set_option maxHeartbeats 4000000 in
theorem c_Pr_xOf_0 (D : Nat) (hD : 1 ≤ D) (o : Nat) (a1 : Int32)  (T T1 : qT) (v : Int32) (h : f_Pr_xOf o a1 T = some (v, T1)) : q_out (q_ev q_Mt D) q_mPr_xOf (0, [some (.ref (o + 5)), some (.int a1)], [], layC o T) = some (.inl (some (.int v)), layC o T1) := by
  unfold f_Pr_xOf at h
  refine Eq.trans (o_aload_n d_Pr_xOf_0 rfl) ?_
  refine Eq.trans (o_iload_n d_Pr_xOf_1 rfl) ?_
  obtain ⟨x1, T2, h1, h⟩ := w_C_of h
  refine s_cV1i d_Pr_xOf_2 pM_Pr_28 (Nat.le_of_ble_eq_true rfl) (obC_5 o) (c_Pr_has D (by omega) o _ _ _ _ h1) ?_
  replace h1 := trivial; revert h; generalize T2 = T; intro h
  refine s_if_eq (t := 17) d_Pr_xOf_5 (by decide) h (fun h => ?_) (fun h => ?_)
  · refine Eq.trans (o_iconst (v := (-1)) d_Pr_xOf_17 (by decide)) ?_
    exact s_iret d_Pr_xOf_18 rfl h
  · refine Eq.trans (o_aload_n d_Pr_xOf_8 rfl) ?_
    refine s_ref d_Pr_xOf_9 pF_Pr_15 (zC_Pr_xs o) ?_
    refine Eq.trans (o_iload_n d_Pr_xOf_12 rfl) ?_
    refine s_iald d_Pr_xOf_13 (rC_7 o) h (fun x2 h => ?_)
    refine Eq.trans (o_goto (t := 18) d_Pr_xOf_14 (by decide)) ?_
    exact s_iret d_Pr_xOf_18 rfl h
theorem c_Pr_xOf (D : Nat) (hD : 2 ≤ D) (o : Nat) (a1 : Int32) (T T1 : qT) (v : Int32) (h : f_Pr_xOf o a1 T = some (v, T1)) : q_ev q_Mt D 45 [.ref (o + 5), .int a1] (layC o T) = some (.inl (some (.int v)), layC o T1) := by
  obtain ⟨D, rfl⟩ : ∃ D', D = D' + 1 := ⟨D - 1, by omega⟩
  rw [o_ev (M := q_mPr_xOf) (lo := [some (.ref (o + 5)), some (.int a1)]) rfl (Nat.le_of_ble_eq_true rfl) rfl]
  exact c_Pr_xOf_0 D (by omega) o a1 T T1 v h
noncomputable def f_Pr_yOf (o : Nat) (a1 : Int32) : qW Int32 :=
  w_C (f_Pr_has o a1) fun x1 =>
  w_if (x1 = 0) (
    w_ret .int ((-1))) (
    w_A 8 160 a1 fun x2 =>
    w_ret .int x2)
set_option maxRecDepth 100000 in
set_option maxHeartbeats 4000000 in
theorem c_Pr_yOf_0 (D : Nat) (hD : 1 ≤ D) (o : Nat) (a1 : Int32)  (T T1 : qT) (v : Int32) (h : f_Pr_yOf o a1 T = some (v, T1)) : q_out (q_ev q_Mt D) q_mPr_yOf (0, [some (.ref (o + 5)), some (.int a1)], [], layC o T) = some (.inl (some (.int v)), layC o T1) := by
  unfold f_Pr_yOf at h
  refine Eq.trans (o_aload_n d_Pr_yOf_0 rfl) ?_
  refine Eq.trans (o_iload_n d_Pr_yOf_1 rfl) ?_
  obtain ⟨x1, T2, h1, h⟩ := w_C_of h
  refine s_cV1i d_Pr_yOf_2 pM_Pr_28 (Nat.le_of_ble_eq_true rfl) (obC_5 o) (c_Pr_has D (by omega) o _ _ _ _ h1) ?_
  replace h1 := trivial; revert h; generalize T2 = T; intro h
  refine s_if_eq (t := 17) d_Pr_yOf_5 (by decide) h (fun h => ?_) (fun h => ?_)
  · refine Eq.trans (o_iconst (v := (-1)) d_Pr_yOf_17 (by decide)) ?_
    exact s_iret d_Pr_yOf_18 rfl h
  · refine Eq.trans (o_aload_n d_Pr_yOf_8 rfl) ?_
    refine s_ref d_Pr_yOf_9 pF_Pr_18 (zC_Pr_ys o) ?_
    refine Eq.trans (o_iload_n d_Pr_yOf_12 rfl) ?_
    refine s_iald d_Pr_yOf_13 (rC_8 o) h (fun x2 h => ?_)
    refine Eq.trans (o_goto (t := 18) d_Pr_yOf_14 (by decide)) ?_
    exact s_iret d_Pr_yOf_18 rfl h
theorem c_Pr_yOf (D : Nat) (hD : 2 ≤ D) (o : Nat) (a1 : Int32) (T T1 : qT) (v : Int32) (h : f_Pr_yOf o a1 T = some (v, T1)) : q_ev q_Mt D 46 [.ref (o + 5), .int a1] (layC o T) = some (.inl (some (.int v)), layC o T1) := by
  obtain ⟨D, rfl⟩ : ∃ D', D = D' + 1 := ⟨D - 1, by omega⟩
  rw [o_ev (M := q_mPr_yOf) (lo := [some (.ref (o + 5)), some (.int a1)]) rfl (Nat.le_of_ble_eq_true rfl) rfl]
  exact c_Pr_yOf_0 D (by omega) o a1 T T1 v h
noncomputable def f_PW_instruction (o : Nat) (a1 : Int32) (a2 : Int32) : qW Int32 :=
  w_C (f_Pr_has o a1) fun x1 =>
  w_if (¬ x1 = 0) (
    w_if (a2 = 0) (
      w_C (f_Pr_kindOf o a1) fun x2 =>
      w_ret .int x2) (
      w_if (a2 = 1) (
        w_C (f_Pr_kindOf o a1) fun x3 =>
        w_if (¬ x3 = 0) (
          w_C (f_Pr_xOf o a1) fun x4 =>
          w_ret .int x4) (
          w_C (f_Pr_xOf o a1) fun x5 =>
          w_C (f_Cs_count o x5) fun x6 =>
          w_ret .int x6)) (
        w_if (a2 = 2) (
          w_C (f_Pr_yOf o a1) fun x7 =>
          w_ret .int x7) (
          w_ret .int ((-1)))))) (
    w_ret .int ((-1)))
set_option maxRecDepth 100000 in
set_option maxHeartbeats 4000000 in
theorem c_PW_instruction_0 (D : Nat) (hD : 2 ≤ D) (o : Nat) (a1 : Int32) (a2 : Int32)  (T T1 : qT) (v : Int32) (h : f_PW_instruction o a1 a2 T = some (v, T1)) : q_out (q_ev q_Mt D) q_mPW_instruction (0, [some (.ref (o + 0)), some (.int a1), some (.int a2)], [], layC o T) = some (.inl (some (.int v)), layC o T1) := by
  unfold f_PW_instruction at h
  refine Eq.trans (o_aload_n d_PW_instruction_0 rfl) ?_
  refine s_ref d_PW_instruction_1 pF_PW_39 (zC_PW_program o) ?_
  refine Eq.trans (o_iload_n d_PW_instruction_4 rfl) ?_
  obtain ⟨x1, T2, h1, h⟩ := w_C_of h
  refine s_cV1i d_PW_instruction_5 pM_PW_99 (Nat.le_of_ble_eq_true rfl) (obC_5 o) (c_Pr_has D (by omega) o _ _ _ _ h1) ?_
  replace h1 := trivial; revert h; generalize T2 = T; intro h
  refine s_if_ne (t := 13) d_PW_instruction_8 (by decide) h (fun h => ?_) (fun h => ?_)
  · refine Eq.trans (o_iload_n d_PW_instruction_13 rfl) ?_
    by_cases g0 : a2 = 0
    · have h := w_if_t h g0
      refine Eq.trans (o_table (off := 26) (t := 40) d_PW_instruction_14 (by rw [g0]; decide) (by decide)) ?_
      refine Eq.trans (o_aload_n d_PW_instruction_40 rfl) ?_
      refine s_ref d_PW_instruction_41 pF_PW_39 (zC_PW_program o) ?_
      refine Eq.trans (o_iload_n d_PW_instruction_44 rfl) ?_
      obtain ⟨x2, T2, h1, h⟩ := w_C_of h
      refine s_cV1i d_PW_instruction_45 pM_PW_103 (Nat.le_of_ble_eq_true rfl) (obC_5 o) (c_Pr_kindOf D (by omega) o _ _ _ _ h1) ?_
      replace h1 := trivial; revert h; generalize T2 = T; intro h
      exact s_iret d_PW_instruction_48 rfl h
    · have h := w_if_f h g0
      by_cases g1 : a2 = 1
      · have h := w_if_t h g1
        refine Eq.trans (o_table (off := 35) (t := 49) d_PW_instruction_14 (by rw [g1]; decide) (by decide)) ?_
        refine Eq.trans (o_aload_n d_PW_instruction_49 rfl) ?_
        refine s_ref d_PW_instruction_50 pF_PW_39 (zC_PW_program o) ?_
        refine Eq.trans (o_iload_n d_PW_instruction_53 rfl) ?_
        obtain ⟨x3, T2, h1, h⟩ := w_C_of h
        refine s_cV1i d_PW_instruction_54 pM_PW_103 (Nat.le_of_ble_eq_true rfl) (obC_5 o) (c_Pr_kindOf D (by omega) o _ _ _ _ h1) ?_
        replace h1 := trivial; revert h; generalize T2 = T; intro h
        refine s_if_ne (t := 78) d_PW_instruction_57 (by decide) h (fun h => ?_) (fun h => ?_)
        · refine Eq.trans (o_aload_n d_PW_instruction_78 rfl) ?_
          refine s_ref d_PW_instruction_79 pF_PW_39 (zC_PW_program o) ?_
          refine Eq.trans (o_iload_n d_PW_instruction_82 rfl) ?_
          obtain ⟨x4, T2, h1, h⟩ := w_C_of h
          refine s_cV1i d_PW_instruction_83 pM_PW_107 (Nat.le_of_ble_eq_true rfl) (obC_5 o) (c_Pr_xOf D (by omega) o _ _ _ _ h1) ?_
          replace h1 := trivial; revert h; generalize T2 = T; intro h
          exact s_iret d_PW_instruction_86 rfl h
        · refine Eq.trans (o_aload_n d_PW_instruction_60 rfl) ?_
          refine s_ref d_PW_instruction_61 pF_PW_23 (zC_PW_sets o) ?_
          refine Eq.trans (o_aload_n d_PW_instruction_64 rfl) ?_
          refine s_ref d_PW_instruction_65 pF_PW_39 (zC_PW_program o) ?_
          refine Eq.trans (o_iload_n d_PW_instruction_68 rfl) ?_
          obtain ⟨x5, T2, h1, h⟩ := w_C_of h
          refine s_cV1i d_PW_instruction_69 pM_PW_107 (Nat.le_of_ble_eq_true rfl) (obC_5 o) (c_Pr_xOf D (by omega) o _ _ _ _ h1) ?_
          replace h1 := trivial; revert h; generalize T2 = T; intro h
          obtain ⟨x6, T2, h1, h⟩ := w_C_of h
          refine s_cV1i d_PW_instruction_72 pM_PW_110 (Nat.le_of_ble_eq_true rfl) (obC_2 o) (c_Cs_count D (by omega) o _ _ _ _ h1) ?_
          replace h1 := trivial; revert h; generalize T2 = T; intro h
          refine Eq.trans (o_goto (t := 86) d_PW_instruction_75 (by decide)) ?_
          exact s_iret d_PW_instruction_86 rfl h
      · have h := w_if_f h g1
        by_cases g2 : a2 = 2
        · have h := w_if_t h g2
          refine Eq.trans (o_table (off := 73) (t := 87) d_PW_instruction_14 (by rw [g2]; decide) (by decide)) ?_
          refine Eq.trans (o_aload_n d_PW_instruction_87 rfl) ?_
          refine s_ref d_PW_instruction_88 pF_PW_39 (zC_PW_program o) ?_
          refine Eq.trans (o_iload_n d_PW_instruction_91 rfl) ?_
          obtain ⟨x7, T2, h1, h⟩ := w_C_of h
          refine s_cV1i d_PW_instruction_92 pM_PW_113 (Nat.le_of_ble_eq_true rfl) (obC_5 o) (c_Pr_yOf D (by omega) o _ _ _ _ h1) ?_
          replace h1 := trivial; revert h; generalize T2 = T; intro h
          exact s_iret d_PW_instruction_95 rfl h
        · have h := w_if_f h g2
          have n0 := i32_ne (x := a2) (c := 0) (k := 0) (by decide) g0
          have n1 := i32_ne (x := a2) (c := 1) (k := 1) (by decide) g1
          have n2 := i32_ne (x := a2) (c := 2) (k := 2) (by decide) g2
          refine Eq.trans (o_table (off := 82) (t := 96) d_PW_instruction_14 (by unfold q_toff; exact if_pos (by omega)) (by decide)) ?_
          refine Eq.trans (o_iconst (v := (-1)) d_PW_instruction_96 (by decide)) ?_
          exact s_iret d_PW_instruction_97 rfl h
  · refine Eq.trans (o_iconst (v := (-1)) d_PW_instruction_11 (by decide)) ?_
    exact s_iret d_PW_instruction_12 rfl h
theorem c_PW_instruction (D : Nat) (hD : 3 ≤ D) (o : Nat) (a1 : Int32) (a2 : Int32) (T T1 : qT) (v : Int32) (h : f_PW_instruction o a1 a2 T = some (v, T1)) : q_ev q_Mt D 4 [.ref (o + 0), .int a1, .int a2] (layC o T) = some (.inl (some (.int v)), layC o T1) := by
  obtain ⟨D, rfl⟩ : ∃ D', D = D' + 1 := ⟨D - 1, by omega⟩
  rw [o_ev (M := q_mPW_instruction) (lo := [some (.ref (o + 0)), some (.int a1), some (.int a2)]) rfl (Nat.le_of_ble_eq_true rfl) rfl]
  exact c_PW_instruction_0 D (by omega) o a1 a2 T T1 v h
noncomputable def f_PW_groups (o : Nat)  : qW Int32 :=
  w_C (f_Pr_isWritten o) fun x1 =>
  w_if (x1 = 0) (
    w_ret .int ((-1))) (
    w_S 104 fun x2 =>
    w_ret .int x2)
set_option maxRecDepth 100000 in
set_option maxHeartbeats 4000000 in
theorem c_PW_groups_0 (D : Nat) (hD : 1 ≤ D) (o : Nat)   (T T1 : qT) (v : Int32) (h : f_PW_groups o T = some (v, T1)) : q_out (q_ev q_Mt D) q_mPW_groups (0, [some (.ref (o + 0))], [], layC o T) = some (.inl (some (.int v)), layC o T1) := by
  unfold f_PW_groups at h
  refine Eq.trans (o_aload_n d_PW_groups_0 rfl) ?_
  refine s_ref d_PW_groups_1 pF_PW_39 (zC_PW_program o) ?_
  obtain ⟨x1, T2, h1, h⟩ := w_C_of h
  refine s_cV0i d_PW_groups_4 pM_PW_52 (Nat.le_of_ble_eq_true rfl) (obC_5 o) (c_Pr_isWritten D (by omega) o _ _ _ h1) ?_
  replace h1 := trivial; revert h; generalize T2 = T; intro h
  refine s_if_eq (t := 20) d_PW_groups_7 (by decide) h (fun h => ?_) (fun h => ?_)
  · refine Eq.trans (o_iconst (v := (-1)) d_PW_groups_20 (by decide)) ?_
    exact s_iret d_PW_groups_21 rfl h
  · refine Eq.trans (o_aload_n d_PW_groups_10 rfl) ?_
    refine s_ref d_PW_groups_11 pF_PW_39 (zC_PW_program o) ?_
    refine s_get d_PW_groups_14 pF_PW_116 (zC_Pr_numbered o) h (fun x2 h => ?_)
    refine Eq.trans (o_goto (t := 21) d_PW_groups_17 (by decide)) ?_
    exact s_iret d_PW_groups_21 rfl h
theorem c_PW_groups (D : Nat) (hD : 2 ≤ D) (o : Nat)  (T T1 : qT) (v : Int32) (h : f_PW_groups o  T = some (v, T1)) : q_ev q_Mt D 5 [.ref (o + 0)] (layC o T) = some (.inl (some (.int v)), layC o T1) := by
  obtain ⟨D, rfl⟩ : ∃ D', D = D' + 1 := ⟨D - 1, by omega⟩
  rw [o_ev (M := q_mPW_groups) (lo := [some (.ref (o + 0))]) rfl (Nat.le_of_ble_eq_true rfl) rfl]
  exact c_PW_groups_0 D (by omega) o  T T1 v h
noncomputable def k_Ar_fill16_5 (o : Nat) (v1 : Int32) (v2 : Int32) (v3 : Int32) : qW (qJ ⊕ Unit) :=
  w_if (v3 ≤ v2) (
    w_rt ()) (
    w_a 16 160 v2 v1 <|
    w_go 5 [.int v1, .int (v2 + 1), .int v3] [])
noncomputable def k_Ar_fill16_0 (o : Nat) (a2 : Int32) : qW (qJ ⊕ Unit) :=
  w_go 5 [.int a2, .int 0, .int 160] []
noncomputable def b_Ar_fill16 (o : Nat) : qJ → qW (qJ ⊕ Unit) := fun x => match x with
  | (0, [.int a2], []) => k_Ar_fill16_0 o a2
  | (5, [.int v1, .int v2, .int v3], []) => k_Ar_fill16_5 o v1 v2 v3
  | _ => w_no
noncomputable def f_Ar_fill16 (o : Nat) (a2 : Int32) : qW Unit := w_fix (b_Ar_fill16 o) (0, [.int a2], [])
set_option maxRecDepth 100000 in
set_option maxHeartbeats 4000000 in
theorem c_Ar_fill16_5 (D : Nat) (hD : 0 ≤ D) (o : Nat) (n : Nat) (ih_5 : ∀ (v1 : Int32) (v2 : Int32) (v3 : Int32)  (T T2 : qT) (v : Unit), w_run (b_Ar_fill16 o) n (5, [.int v1, .int v2, .int v3], []) T = some (v, T2) → q_out (q_ev q_Mt D) q_mAr_fill (5, [some (.ref (o + 16)), some (.int v1), some (.int v2), some (.int v3)], [], layC o T) = some (.inl (none), layC o T2)) (v1 : Int32) (v2 : Int32) (v3 : Int32)  (T T1 T2 : qT) (rr : qJ ⊕ Unit) (v : Unit) (h : k_Ar_fill16_5 o v1 v2 v3 T = some (rr, T1)) (hE : w_end (b_Ar_fill16 o) n rr T1 = some (v, T2)) : q_out (q_ev q_Mt D) q_mAr_fill (5, [some (.ref (o + 16)), some (.int v1), some (.int v2), some (.int v3)], [], layC o T) = some (.inl (none), layC o T2) := by
  unfold k_Ar_fill16_5 at h
  refine Eq.trans (o_iload_n d_Ar_fill_5 rfl) ?_
  refine Eq.trans (o_iload_n d_Ar_fill_6 rfl) ?_
  refine s_icmp_ge (t := 20) d_Ar_fill_7 (by decide) h (fun h => ?_) (fun h => ?_)
  · exact s_vretJ d_Ar_fill_20 rfl h hE
  · refine Eq.trans (o_aload_n d_Ar_fill_10 rfl) ?_
    refine Eq.trans (o_iload_n d_Ar_fill_11 rfl) ?_
    refine Eq.trans (o_iload_n d_Ar_fill_12 rfl) ?_
    refine s_iast d_Ar_fill_13 (rC_16 o) h (fun T h => ?_)
    refine Eq.trans (o_iinc (v := (v2 + 1)) (lo' := [some (.ref (o + 16)), some (.int v1), some (.int (v2 + 1)), some (.int v3)]) d_Ar_fill_14 rfl (by rw [show Int32.ofInt 1 = 1 from by decide]) (Nat.le_of_ble_eq_true rfl) rfl) ?_
    refine Eq.trans (o_goto (t := 5) d_Ar_fill_17 (by decide)) ?_
    exact ih_5 _ _ _ _ _ _ (s_jump h hE)
set_option maxRecDepth 100000 in
set_option maxHeartbeats 4000000 in
theorem c_Ar_fill16_0 (D : Nat) (hD : 0 ≤ D) (o : Nat) (n : Nat) (ih_5 : ∀ (v1 : Int32) (v2 : Int32) (v3 : Int32)  (T T2 : qT) (v : Unit), w_run (b_Ar_fill16 o) n (5, [.int v1, .int v2, .int v3], []) T = some (v, T2) → q_out (q_ev q_Mt D) q_mAr_fill (5, [some (.ref (o + 16)), some (.int v1), some (.int v2), some (.int v3)], [], layC o T) = some (.inl (none), layC o T2)) (a2 : Int32)  (T T1 T2 : qT) (rr : qJ ⊕ Unit) (v : Unit) (h : k_Ar_fill16_0 o a2 T = some (rr, T1)) (hE : w_end (b_Ar_fill16 o) n rr T1 = some (v, T2)) : q_out (q_ev q_Mt D) q_mAr_fill (0, [some (.ref (o + 16)), some (.int a2), none, none], [], layC o T) = some (.inl (none), layC o T2) := by
  unfold k_Ar_fill16_0 at h
  refine Eq.trans (o_iconst (v := 0) d_Ar_fill_0 (by decide)) ?_
  refine Eq.trans (o_istore_n (lo' := [some (.ref (o + 16)), some (.int a2), some (.int 0), none]) d_Ar_fill_1 (Nat.le_of_ble_eq_true rfl) rfl) ?_
  refine Eq.trans (o_aload_n d_Ar_fill_2 rfl) ?_
  refine Eq.trans (o_alen (v := 160) d_Ar_fill_3 ((rC_16 o _).1) (by decide) (by decide)) ?_
  refine Eq.trans (o_istore_n (lo' := [some (.ref (o + 16)), some (.int a2), some (.int 0), some (.int 160)]) d_Ar_fill_4 (Nat.le_of_ble_eq_true rfl) rfl) ?_
  exact ih_5 _ _ _ _ _ _ (s_jump h hE)
theorem c_Ar_fill16_lp (D : Nat) (hD : 0 ≤ D) (o : Nat) : ∀ n : Nat, (∀ (v1 : Int32) (v2 : Int32) (v3 : Int32)  (T T2 : qT) (v : Unit), w_run (b_Ar_fill16 o) n (5, [.int v1, .int v2, .int v3], []) T = some (v, T2) → q_out (q_ev q_Mt D) q_mAr_fill (5, [some (.ref (o + 16)), some (.int v1), some (.int v2), some (.int v3)], [], layC o T) = some (.inl (none), layC o T2)) := by
  intro n
  induction n with
  | zero => exact (fun v1 v2 v3 T T2 v h => by cases h)
  | succ n ih =>
    have ih_5 := ih
    · intro v1 v2 v3 T T2 v h
      obtain ⟨rr, T1, hb, hE⟩ := w_run_succ h
      exact c_Ar_fill16_5 D hD o n ih_5 v1 v2 v3 T T1 T2 rr v hb hE
theorem c_Ar_fill16 (D : Nat) (hD : 1 ≤ D) (o : Nat) (a2 : Int32) (T T2 : qT) (v : Unit) (h : f_Ar_fill16 o a2 T = some (v, T2)) : q_ev q_Mt D 123 [.ref (o + 16), .int a2] (layC o T) = some (.inl (none), layC o T2) := by
  obtain ⟨D, rfl⟩ : ∃ D', D = D' + 1 := ⟨D - 1, by omega⟩
  obtain ⟨n, hn⟩ := w_fix_iff.mp h
  cases n with
  | zero => cases hn
  | succ n =>
    obtain ⟨rr, T1, hb, hE⟩ := w_run_succ hn
    have hl := c_Ar_fill16_lp D (by omega) o n
    have ih_5 := hl
    rw [o_ev (M := q_mAr_fill) (lo := [some (.ref (o + 16)), some (.int a2), none, none]) rfl (Nat.le_of_ble_eq_true rfl) rfl]
    exact c_Ar_fill16_0 D (by omega) o n ih_5 a2 T T1 T2 rr v hb hE
noncomputable def k_Ar_fill19_5 (o : Nat) (v1 : Int32) (v2 : Int32) (v3 : Int32) : qW (qJ ⊕ Unit) :=
  w_if (v3 ≤ v2) (
    w_rt ()) (
    w_a 19 14 v2 v1 <|
    w_go 5 [.int v1, .int (v2 + 1), .int v3] [])
noncomputable def k_Ar_fill19_0 (o : Nat) (a2 : Int32) : qW (qJ ⊕ Unit) :=
  w_go 5 [.int a2, .int 0, .int 14] []
noncomputable def b_Ar_fill19 (o : Nat) : qJ → qW (qJ ⊕ Unit) := fun x => match x with
  | (0, [.int a2], []) => k_Ar_fill19_0 o a2
  | (5, [.int v1, .int v2, .int v3], []) => k_Ar_fill19_5 o v1 v2 v3
  | _ => w_no
noncomputable def f_Ar_fill19 (o : Nat) (a2 : Int32) : qW Unit := w_fix (b_Ar_fill19 o) (0, [.int a2], [])
set_option maxRecDepth 100000 in
set_option maxHeartbeats 4000000 in
theorem c_Ar_fill19_5 (D : Nat) (hD : 0 ≤ D) (o : Nat) (n : Nat) (ih_5 : ∀ (v1 : Int32) (v2 : Int32) (v3 : Int32)  (T T2 : qT) (v : Unit), w_run (b_Ar_fill19 o) n (5, [.int v1, .int v2, .int v3], []) T = some (v, T2) → q_out (q_ev q_Mt D) q_mAr_fill (5, [some (.ref (o + 19)), some (.int v1), some (.int v2), some (.int v3)], [], layC o T) = some (.inl (none), layC o T2)) (v1 : Int32) (v2 : Int32) (v3 : Int32)  (T T1 T2 : qT) (rr : qJ ⊕ Unit) (v : Unit) (h : k_Ar_fill19_5 o v1 v2 v3 T = some (rr, T1)) (hE : w_end (b_Ar_fill19 o) n rr T1 = some (v, T2)) : q_out (q_ev q_Mt D) q_mAr_fill (5, [some (.ref (o + 19)), some (.int v1), some (.int v2), some (.int v3)], [], layC o T) = some (.inl (none), layC o T2) := by
  unfold k_Ar_fill19_5 at h
  refine Eq.trans (o_iload_n d_Ar_fill_5 rfl) ?_
  refine Eq.trans (o_iload_n d_Ar_fill_6 rfl) ?_
  refine s_icmp_ge (t := 20) d_Ar_fill_7 (by decide) h (fun h => ?_) (fun h => ?_)
  · exact s_vretJ d_Ar_fill_20 rfl h hE
  · refine Eq.trans (o_aload_n d_Ar_fill_10 rfl) ?_
    refine Eq.trans (o_iload_n d_Ar_fill_11 rfl) ?_
    refine Eq.trans (o_iload_n d_Ar_fill_12 rfl) ?_
    refine s_iast d_Ar_fill_13 (rC_19 o) h (fun T h => ?_)
    refine Eq.trans (o_iinc (v := (v2 + 1)) (lo' := [some (.ref (o + 19)), some (.int v1), some (.int (v2 + 1)), some (.int v3)]) d_Ar_fill_14 rfl (by rw [show Int32.ofInt 1 = 1 from by decide]) (Nat.le_of_ble_eq_true rfl) rfl) ?_
    refine Eq.trans (o_goto (t := 5) d_Ar_fill_17 (by decide)) ?_
    exact ih_5 _ _ _ _ _ _ (s_jump h hE)
set_option maxRecDepth 100000 in
set_option maxHeartbeats 4000000 in
theorem c_Ar_fill19_0 (D : Nat) (hD : 0 ≤ D) (o : Nat) (n : Nat) (ih_5 : ∀ (v1 : Int32) (v2 : Int32) (v3 : Int32)  (T T2 : qT) (v : Unit), w_run (b_Ar_fill19 o) n (5, [.int v1, .int v2, .int v3], []) T = some (v, T2) → q_out (q_ev q_Mt D) q_mAr_fill (5, [some (.ref (o + 19)), some (.int v1), some (.int v2), some (.int v3)], [], layC o T) = some (.inl (none), layC o T2)) (a2 : Int32)  (T T1 T2 : qT) (rr : qJ ⊕ Unit) (v : Unit) (h : k_Ar_fill19_0 o a2 T = some (rr, T1)) (hE : w_end (b_Ar_fill19 o) n rr T1 = some (v, T2)) : q_out (q_ev q_Mt D) q_mAr_fill (0, [some (.ref (o + 19)), some (.int a2), none, none], [], layC o T) = some (.inl (none), layC o T2) := by
  unfold k_Ar_fill19_0 at h
  refine Eq.trans (o_iconst (v := 0) d_Ar_fill_0 (by decide)) ?_
  refine Eq.trans (o_istore_n (lo' := [some (.ref (o + 19)), some (.int a2), some (.int 0), none]) d_Ar_fill_1 (Nat.le_of_ble_eq_true rfl) rfl) ?_
  refine Eq.trans (o_aload_n d_Ar_fill_2 rfl) ?_
  refine Eq.trans (o_alen (v := 14) d_Ar_fill_3 ((rC_19 o _).1) (by decide) (by decide)) ?_
  refine Eq.trans (o_istore_n (lo' := [some (.ref (o + 19)), some (.int a2), some (.int 0), some (.int 14)]) d_Ar_fill_4 (Nat.le_of_ble_eq_true rfl) rfl) ?_
  exact ih_5 _ _ _ _ _ _ (s_jump h hE)
theorem c_Ar_fill19_lp (D : Nat) (hD : 0 ≤ D) (o : Nat) : ∀ n : Nat, (∀ (v1 : Int32) (v2 : Int32) (v3 : Int32)  (T T2 : qT) (v : Unit), w_run (b_Ar_fill19 o) n (5, [.int v1, .int v2, .int v3], []) T = some (v, T2) → q_out (q_ev q_Mt D) q_mAr_fill (5, [some (.ref (o + 19)), some (.int v1), some (.int v2), some (.int v3)], [], layC o T) = some (.inl (none), layC o T2)) := by
  intro n
  induction n with
  | zero => exact (fun v1 v2 v3 T T2 v h => by cases h)
  | succ n ih =>
    have ih_5 := ih
    · intro v1 v2 v3 T T2 v h
      obtain ⟨rr, T1, hb, hE⟩ := w_run_succ h
      exact c_Ar_fill19_5 D hD o n ih_5 v1 v2 v3 T T1 T2 rr v hb hE
theorem c_Ar_fill19 (D : Nat) (hD : 1 ≤ D) (o : Nat) (a2 : Int32) (T T2 : qT) (v : Unit) (h : f_Ar_fill19 o a2 T = some (v, T2)) : q_ev q_Mt D 123 [.ref (o + 19), .int a2] (layC o T) = some (.inl (none), layC o T2) := by
  obtain ⟨D, rfl⟩ : ∃ D', D = D' + 1 := ⟨D - 1, by omega⟩
  obtain ⟨n, hn⟩ := w_fix_iff.mp h
  cases n with
  | zero => cases hn
  | succ n =>
    obtain ⟨rr, T1, hb, hE⟩ := w_run_succ hn
    have hl := c_Ar_fill19_lp D (by omega) o n
    have ih_5 := hl
    rw [o_ev (M := q_mAr_fill) (lo := [some (.ref (o + 19)), some (.int a2), none, none]) rfl (Nat.le_of_ble_eq_true rfl) rfl]
    exact c_Ar_fill19_0 D (by omega) o n ih_5 a2 T T1 T2 rr v hb hE
noncomputable def f_Wk_push (o : Nat) (a1 : Int32) (a2 : Int32) : qW Unit :=
  w_S 187 fun x1 =>
  w_if (x1 < 0) (
    w_pure ()) (
    w_S 187 fun x2 =>
    w_if (x2 < 321) (
      w_S 187 fun x3 =>
      w_a 17 321 x3 a1 <|
      w_S 187 fun x4 =>
      w_a 18 321 x4 a2 <|
      w_S 187 fun x5 =>
      w_s 187 ((x5 + 1)) <|
      w_pure ()) (
      w_pure ()))
set_option maxRecDepth 100000 in
set_option maxHeartbeats 4000000 in
theorem c_Wk_push_0 (D : Nat) (hD : 0 ≤ D) (o : Nat) (a1 : Int32) (a2 : Int32)  (T T1 : qT) (v : Unit) (h : f_Wk_push o a1 a2 T = some (v, T1)) : q_out (q_ev q_Mt D) q_mWk_push (0, [some (.ref (o + 9)), some (.int a1), some (.int a2)], [], layC o T) = some (.inl (none), layC o T1) := by
  unfold f_Wk_push at h
  refine Eq.trans (o_aload_n d_Wk_push_0 rfl) ?_
  refine s_get d_Wk_push_1 pF_Wk_31 (zC_Wk_height o) h (fun x1 h => ?_)
  refine s_if_lt (t := 17) d_Wk_push_4 (by decide) h (fun h => ?_) (fun h => ?_)
  · exact s_vret d_Wk_push_17 rfl h
  · refine Eq.trans (o_aload_n d_Wk_push_7 rfl) ?_
    refine s_get d_Wk_push_8 pF_Wk_31 (zC_Wk_height o) h (fun x2 h => ?_)
    refine Eq.trans (o_sipush (v := 321) d_Wk_push_11 (by decide)) ?_
    refine s_icmp_lt (t := 18) d_Wk_push_14 (by decide) h (fun h => ?_) (fun h => ?_)
    · refine Eq.trans (o_aload_n d_Wk_push_18 rfl) ?_
      refine s_ref d_Wk_push_19 pF_Wk_25 (zC_Wk_stack o) ?_
      refine Eq.trans (o_aload_n d_Wk_push_22 rfl) ?_
      refine s_get d_Wk_push_23 pF_Wk_31 (zC_Wk_height o) h (fun x3 h => ?_)
      refine Eq.trans (o_iload_n d_Wk_push_26 rfl) ?_
      refine s_iast d_Wk_push_27 (rC_17 o) h (fun T h => ?_)
      refine Eq.trans (o_aload_n d_Wk_push_28 rfl) ?_
      refine s_ref d_Wk_push_29 pF_Wk_28 (zC_Wk_oldMarks o) ?_
      refine Eq.trans (o_aload_n d_Wk_push_32 rfl) ?_
      refine s_get d_Wk_push_33 pF_Wk_31 (zC_Wk_height o) h (fun x4 h => ?_)
      refine Eq.trans (o_iload_n d_Wk_push_36 rfl) ?_
      refine s_iast d_Wk_push_37 (rC_18 o) h (fun T h => ?_)
      refine Eq.trans (o_aload_n d_Wk_push_38 rfl) ?_
      refine Eq.trans (o_dup d_Wk_push_39 rfl) ?_
      refine s_get d_Wk_push_40 pF_Wk_31 (zC_Wk_height o) h (fun x5 h => ?_)
      refine Eq.trans (o_iconst (v := 1) d_Wk_push_43 (by decide)) ?_
      refine Eq.trans (o_iadd d_Wk_push_44) ?_
      refine s_put d_Wk_push_45 pF_Wk_31 (zC_Wk_height o) h (fun T h => ?_)
      exact s_vret d_Wk_push_48 rfl h
    · exact s_vret d_Wk_push_17 rfl h
theorem c_Wk_push (D : Nat) (hD : 1 ≤ D) (o : Nat) (a1 : Int32) (a2 : Int32) (T T1 : qT) (v : Unit) (h : f_Wk_push o a1 a2 T = some (v, T1)) : q_ev q_Mt D 63 [.ref (o + 9), .int a1, .int a2] (layC o T) = some (.inl (none), layC o T1) := by
  obtain ⟨D, rfl⟩ : ∃ D', D = D' + 1 := ⟨D - 1, by omega⟩
  rw [o_ev (M := q_mWk_push) (lo := [some (.ref (o + 9)), some (.int a1), some (.int a2)]) rfl (Nat.le_of_ble_eq_true rfl) rfl]
  exact c_Wk_push_0 D (by omega) o a1 a2 T T1 v h
noncomputable def f_Wk_setMark (o : Nat) (a1 : Int32) (a2 : Int32) : qW Unit :=
  w_if (a1 < 0) (
    w_pure ()) (
    w_if (14 ≤ a1) (
      w_pure ()) (
      w_a 19 14 a1 a2 <|
      w_pure ()))
set_option maxRecDepth 100000 in
set_option maxHeartbeats 4000000 in
theorem c_Wk_setMark_0 (D : Nat) (hD : 0 ≤ D) (o : Nat) (a1 : Int32) (a2 : Int32)  (T T1 : qT) (v : Unit) (h : f_Wk_setMark o a1 a2 T = some (v, T1)) : q_out (q_ev q_Mt D) q_mWk_setMark (0, [some (.ref (o + 9)), some (.int a1), some (.int a2)], [], layC o T) = some (.inl (none), layC o T1) := by
  unfold f_Wk_setMark at h
  refine Eq.trans (o_iload_n d_Wk_setMark_0 rfl) ?_
  refine s_if_lt (t := 17) d_Wk_setMark_1 (by decide) h (fun h => ?_) (fun h => ?_)
  · exact s_vret d_Wk_setMark_17 rfl h
  · refine Eq.trans (o_iload_n d_Wk_setMark_4 rfl) ?_
    refine Eq.trans (o_bipush (v := 14) d_Wk_setMark_5 (by decide)) ?_
    refine s_icmp_ge (t := 17) d_Wk_setMark_7 (by decide) h (fun h => ?_) (fun h => ?_)
    · exact s_vret d_Wk_setMark_17 rfl h
    · refine Eq.trans (o_aload_n d_Wk_setMark_10 rfl) ?_
      refine s_ref d_Wk_setMark_11 pF_Wk_35 (zC_Wk_marks o) ?_
      refine Eq.trans (o_iload_n d_Wk_setMark_14 rfl) ?_
      refine Eq.trans (o_iload_n d_Wk_setMark_15 rfl) ?_
      refine s_iast d_Wk_setMark_16 (rC_19 o) h (fun T h => ?_)
      exact s_vret d_Wk_setMark_17 rfl h
theorem c_Wk_setMark (D : Nat) (hD : 1 ≤ D) (o : Nat) (a1 : Int32) (a2 : Int32) (T T1 : qT) (v : Unit) (h : f_Wk_setMark o a1 a2 T = some (v, T1)) : q_ev q_Mt D 67 [.ref (o + 9), .int a1, .int a2] (layC o T) = some (.inl (none), layC o T1) := by
  obtain ⟨D, rfl⟩ : ∃ D', D = D' + 1 := ⟨D - 1, by omega⟩
  rw [o_ev (M := q_mWk_setMark) (lo := [some (.ref (o + 9)), some (.int a1), some (.int a2)]) rfl (Nat.le_of_ble_eq_true rfl) rfl]
  exact c_Wk_setMark_0 D (by omega) o a1 a2 T T1 v h
noncomputable def k_Wk_keepMatch_15 (o : Nat) (v1 : Int32) : qW (qJ ⊕ Unit) :=
  w_if (14 ≤ v1) (
    w_rt ()) (
    w_A 19 14 v1 fun x1 =>
    w_a 20 14 v1 x1 <|
    w_go 15 [.int (v1 + 1)] [])
noncomputable def k_Wk_keepMatch_0 (o : Nat)  : qW (qJ ⊕ Unit) :=
  w_z 192 1 <|
  w_S 191 fun x1 =>
  w_z 193 x1 <|
  w_go 15 [.int 0] []
noncomputable def b_Wk_keepMatch (o : Nat) : qJ → qW (qJ ⊕ Unit) := fun x => match x with
  | (0, [], []) => k_Wk_keepMatch_0 o 
  | (15, [.int v1], []) => k_Wk_keepMatch_15 o v1
  | _ => w_no
noncomputable def f_Wk_keepMatch (o : Nat)  : qW Unit := w_fix (b_Wk_keepMatch o) (0, [], [])
set_option maxRecDepth 100000 in
set_option maxHeartbeats 4000000 in
theorem c_Wk_keepMatch_15 (D : Nat) (hD : 0 ≤ D) (o : Nat) (n : Nat) (ih_15 : ∀ (v1 : Int32)  (T T2 : qT) (v : Unit), w_run (b_Wk_keepMatch o) n (15, [.int v1], []) T = some (v, T2) → q_out (q_ev q_Mt D) q_mWk_keepMatch (15, [some (.ref (o + 9)), some (.int v1)], [], layC o T) = some (.inl (none), layC o T2)) (v1 : Int32)  (T T1 T2 : qT) (rr : qJ ⊕ Unit) (v : Unit) (h : k_Wk_keepMatch_15 o v1 T = some (rr, T1)) (hE : w_end (b_Wk_keepMatch o) n rr T1 = some (v, T2)) : q_out (q_ev q_Mt D) q_mWk_keepMatch (15, [some (.ref (o + 9)), some (.int v1)], [], layC o T) = some (.inl (none), layC o T2) := by
  unfold k_Wk_keepMatch_15 at h
  refine Eq.trans (o_iload_n d_Wk_keepMatch_15 rfl) ?_
  refine Eq.trans (o_bipush (v := 14) d_Wk_keepMatch_16 (by decide)) ?_
  refine s_icmp_ge (t := 39) d_Wk_keepMatch_18 (by decide) h (fun h => ?_) (fun h => ?_)
  · exact s_vretJ d_Wk_keepMatch_39 rfl h hE
  · refine Eq.trans (o_aload_n d_Wk_keepMatch_21 rfl) ?_
    refine s_ref d_Wk_keepMatch_22 pF_Wk_38 (zC_Wk_foundMarks o) ?_
    refine Eq.trans (o_iload_n d_Wk_keepMatch_25 rfl) ?_
    refine Eq.trans (o_aload_n d_Wk_keepMatch_26 rfl) ?_
    refine s_ref d_Wk_keepMatch_27 pF_Wk_35 (zC_Wk_marks o) ?_
    refine Eq.trans (o_iload_n d_Wk_keepMatch_30 rfl) ?_
    refine s_iald d_Wk_keepMatch_31 (rC_19 o) h (fun x1 h => ?_)
    refine s_iast d_Wk_keepMatch_32 (rC_20 o) h (fun T h => ?_)
    refine Eq.trans (o_iinc (v := (v1 + 1)) (lo' := [some (.ref (o + 9)), some (.int (v1 + 1))]) d_Wk_keepMatch_33 rfl (by rw [show Int32.ofInt 1 = 1 from by decide]) (Nat.le_of_ble_eq_true rfl) rfl) ?_
    refine Eq.trans (o_goto (t := 15) d_Wk_keepMatch_36 (by decide)) ?_
    exact ih_15 _ _ _ _ (s_jump h hE)
set_option maxRecDepth 100000 in
set_option maxHeartbeats 4000000 in
theorem c_Wk_keepMatch_0 (D : Nat) (hD : 0 ≤ D) (o : Nat) (n : Nat) (ih_15 : ∀ (v1 : Int32)  (T T2 : qT) (v : Unit), w_run (b_Wk_keepMatch o) n (15, [.int v1], []) T = some (v, T2) → q_out (q_ev q_Mt D) q_mWk_keepMatch (15, [some (.ref (o + 9)), some (.int v1)], [], layC o T) = some (.inl (none), layC o T2))   (T T1 T2 : qT) (rr : qJ ⊕ Unit) (v : Unit) (h : k_Wk_keepMatch_0 o T = some (rr, T1)) (hE : w_end (b_Wk_keepMatch o) n rr T1 = some (v, T2)) : q_out (q_ev q_Mt D) q_mWk_keepMatch (0, [some (.ref (o + 9)), none], [], layC o T) = some (.inl (none), layC o T2) := by
  unfold k_Wk_keepMatch_0 at h
  refine Eq.trans (o_aload_n d_Wk_keepMatch_0 rfl) ?_
  refine Eq.trans (o_iconst (v := 1) d_Wk_keepMatch_1 (by decide)) ?_
  refine s_putZ d_Wk_keepMatch_2 pF_Wk_48 (zC_Wk_found o) h (fun T h => ?_)
  refine Eq.trans (o_aload_n d_Wk_keepMatch_5 rfl) ?_
  refine Eq.trans (o_aload_n d_Wk_keepMatch_6 rfl) ?_
  refine s_get d_Wk_keepMatch_7 pF_Wk_45 (zC_Wk_searching o) h (fun x1 h => ?_)
  refine s_putZ d_Wk_keepMatch_10 pF_Wk_51 (zC_Wk_cut o) h (fun T h => ?_)
  refine Eq.trans (o_iconst (v := 0) d_Wk_keepMatch_13 (by decide)) ?_
  refine Eq.trans (o_istore_n (lo' := [some (.ref (o + 9)), some (.int 0)]) d_Wk_keepMatch_14 (Nat.le_of_ble_eq_true rfl) rfl) ?_
  exact ih_15 _ _ _ _ (s_jump h hE)
theorem c_Wk_keepMatch_lp (D : Nat) (hD : 0 ≤ D) (o : Nat) : ∀ n : Nat, (∀ (v1 : Int32)  (T T2 : qT) (v : Unit), w_run (b_Wk_keepMatch o) n (15, [.int v1], []) T = some (v, T2) → q_out (q_ev q_Mt D) q_mWk_keepMatch (15, [some (.ref (o + 9)), some (.int v1)], [], layC o T) = some (.inl (none), layC o T2)) := by
  intro n
  induction n with
  | zero => exact (fun v1 T T2 v h => by cases h)
  | succ n ih =>
    have ih_15 := ih
    · intro v1 T T2 v h
      obtain ⟨rr, T1, hb, hE⟩ := w_run_succ h
      exact c_Wk_keepMatch_15 D hD o n ih_15 v1 T T1 T2 rr v hb hE
theorem c_Wk_keepMatch (D : Nat) (hD : 1 ≤ D) (o : Nat)  (T T2 : qT) (v : Unit) (h : f_Wk_keepMatch o  T = some (v, T2)) : q_ev q_Mt D 66 [.ref (o + 9)] (layC o T) = some (.inl (none), layC o T2) := by
  obtain ⟨D, rfl⟩ : ∃ D', D = D' + 1 := ⟨D - 1, by omega⟩
  obtain ⟨n, hn⟩ := w_fix_iff.mp h
  cases n with
  | zero => cases hn
  | succ n =>
    obtain ⟨rr, T1, hb, hE⟩ := w_run_succ hn
    have hl := c_Wk_keepMatch_lp D (by omega) o n
    have ih_15 := hl
    rw [o_ev (M := q_mWk_keepMatch) (lo := [some (.ref (o + 9)), none]) rfl (Nat.le_of_ble_eq_true rfl) rfl]
    exact c_Wk_keepMatch_0 D (by omega) o n ih_15  T T1 T2 rr v hb hE
noncomputable def f_Wk_passMark (o : Nat) (a1 : Int32) : qW Unit :=
  w_if (a1 < 0) (
    w_pure ()) (
    w_if (a1 < 14) (
      w_A 19 14 a1 fun x1 =>
      w_C (f_Wk_push o (((-1) - a1)) x1) fun _ =>
      w_S 194 fun x2 =>
      w_a 19 14 a1 x2 <|
      w_pure ()) (
      w_pure ()))
set_option maxRecDepth 100000 in
set_option maxHeartbeats 4000000 in
theorem c_Wk_passMark_0 (D : Nat) (hD : 1 ≤ D) (o : Nat) (a1 : Int32)  (T T1 : qT) (v : Unit) (h : f_Wk_passMark o a1 T = some (v, T1)) : q_out (q_ev q_Mt D) q_mWk_passMark (0, [some (.ref (o + 9)), some (.int a1)], [], layC o T) = some (.inl (none), layC o T1) := by
  unfold f_Wk_passMark at h
  refine Eq.trans (o_iload_n d_Wk_passMark_0 rfl) ?_
  refine s_if_lt (t := 10) d_Wk_passMark_1 (by decide) h (fun h => ?_) (fun h => ?_)
  · exact s_vret d_Wk_passMark_10 rfl h
  · refine Eq.trans (o_iload_n d_Wk_passMark_4 rfl) ?_
    refine Eq.trans (o_bipush (v := 14) d_Wk_passMark_5 (by decide)) ?_
    refine s_icmp_lt (t := 11) d_Wk_passMark_7 (by decide) h (fun h => ?_) (fun h => ?_)
    · refine Eq.trans (o_aload_n d_Wk_passMark_11 rfl) ?_
      refine Eq.trans (o_iconst (v := (-1)) d_Wk_passMark_12 (by decide)) ?_
      refine Eq.trans (o_iload_n d_Wk_passMark_13 rfl) ?_
      refine Eq.trans (o_isub d_Wk_passMark_14) ?_
      refine Eq.trans (o_aload_n d_Wk_passMark_15 rfl) ?_
      refine s_ref d_Wk_passMark_16 pF_Wk_35 (zC_Wk_marks o) ?_
      refine Eq.trans (o_iload_n d_Wk_passMark_19 rfl) ?_
      refine s_iald d_Wk_passMark_20 (rC_19 o) h (fun x1 h => ?_)
      obtain ⟨u9, T2, h1, h⟩ := w_C_of h
      refine s_cV2v d_Wk_passMark_21 pM_Wk_100 (Nat.le_of_ble_eq_true rfl) (obC_9 o) (c_Wk_push D (by omega) o _ _ _ _ _ h1) ?_
      replace h1 := trivial; revert h; generalize T2 = T; intro h
      refine Eq.trans (o_aload_n d_Wk_passMark_24 rfl) ?_
      refine s_ref d_Wk_passMark_25 pF_Wk_35 (zC_Wk_marks o) ?_
      refine Eq.trans (o_iload_n d_Wk_passMark_28 rfl) ?_
      refine Eq.trans (o_aload_n d_Wk_passMark_29 rfl) ?_
      refine s_get d_Wk_passMark_30 pF_Wk_54 (zC_Wk_place o) h (fun x2 h => ?_)
      refine s_iast d_Wk_passMark_33 (rC_19 o) h (fun T h => ?_)
      exact s_vret d_Wk_passMark_34 rfl h
    · exact s_vret d_Wk_passMark_10 rfl h
theorem c_Wk_passMark (D : Nat) (hD : 2 ≤ D) (o : Nat) (a1 : Int32) (T T1 : qT) (v : Unit) (h : f_Wk_passMark o a1 T = some (v, T1)) : q_ev q_Mt D 65 [.ref (o + 9), .int a1] (layC o T) = some (.inl (none), layC o T1) := by
  obtain ⟨D, rfl⟩ : ∃ D', D = D' + 1 := ⟨D - 1, by omega⟩
  rw [o_ev (M := q_mWk_passMark) (lo := [some (.ref (o + 9)), some (.int a1)]) rfl (Nat.le_of_ble_eq_true rfl) rfl]
  exact c_Wk_passMark_0 D (by omega) o a1 T T1 v h
