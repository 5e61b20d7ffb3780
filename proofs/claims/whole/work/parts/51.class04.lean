noncomputable def f_Pa_readMost (o : Nat) (a1 : (Option Nat)) : qW Unit :=
  w_C (f_Pa_peek o) fun x1 =>
  w_if (¬ x1 = 125) (
    w_C (f_Pa_peek o) fun x2 =>
    w_C (f_Pa_digit o x2) fun x3 =>
    w_nn a1 fun p4 =>
    w_DI o p4 4 4 fun x5 =>
    w_if (x5 ≤ x3) (
      w_S 83 fun x6 =>
      w_s 83 ((x6 + 1)) <|
      w_d o p4 4 5 .int (.int x3) <|
      w_pure ()) (
      w_C (f_Pa_fail o) fun _ =>
      w_pure ())) (
    w_nn a1 fun p7 =>
    w_d o p7 4 6 .boolean (.int 1) <|
    w_pure ())
set_option maxRecDepth 100000 in
set_option maxHeartbeats 4000000 in
theorem c_Pa_readMost_0 (D : Nat) (hD : 1 ≤ D) (o : Nat) (a1 : (Option Nat))  (T T1 : qT) (v : Unit) (h : f_Pa_readMost o a1 T = some (v, T1)) : q_out (q_ev q_Mt D) q_mPa_readMost (0, [some (.ref (o + 4)), some (va_rf a1), none], [], layC o T) = some (.inl (none), layC o T1) := by
  unfold f_Pa_readMost at h
  refine Eq.trans (o_aload_n d_Pa_readMost_0 rfl) ?_
  obtain ⟨x1, T2, h1, h⟩ := w_C_of h
  refine s_cV0i d_Pa_readMost_1 pM_Pa_53 (Nat.le_of_ble_eq_true rfl) (obC_4 o) (c_Pa_peek D (by omega) o _ _ _ h1) ?_
  replace h1 := trivial; revert h; generalize T2 = T; intro h
  refine Eq.trans (o_bipush (v := 125) d_Pa_readMost_4 (by decide)) ?_
  refine s_icmp_ne (t := 15) d_Pa_readMost_6 (by decide) h (fun h => ?_) (fun h => ?_)
  · refine Eq.trans (o_aload_n d_Pa_readMost_15 rfl) ?_
    obtain ⟨x2, T2, h1, h⟩ := w_C_of h
    refine s_cV0i d_Pa_readMost_16 pM_Pa_53 (Nat.le_of_ble_eq_true rfl) (obC_4 o) (c_Pa_peek D (by omega) o _ _ _ h1) ?_
    replace h1 := trivial; revert h; generalize T2 = T; intro h
    obtain ⟨x3, T2, h1, h⟩ := w_C_of h
    refine s_cS1i d_Pa_readMost_19 pM_Pa_143 (Nat.le_of_ble_eq_true rfl) (c_Pa_digit D (by omega) o _ _ _ _ h1) ?_
    replace h1 := trivial; revert h; generalize T2 = T; intro h
    refine Eq.trans (o_istore_n (lo' := [some (.ref (o + 4)), some (va_rf a1), some (.int x3)]) d_Pa_readMost_22 (Nat.le_of_ble_eq_true rfl) (by cases a1 <;> rfl)) ?_
    refine Eq.trans (o_iload_n d_Pa_readMost_23 rfl) ?_
    refine Eq.trans (o_aload_nR d_Pa_readMost_24 rfl) ?_
    obtain ⟨p4, e9, h2⟩ := w_nn_of h
    clear h; subst e9; have h := h2; clear h2
    refine s_DI d_Pa_readMost_25 pF_Pa_127 (dyC o) h (fun x5 h => ?_)
    refine s_icmp_ge (t := 36) d_Pa_readMost_28 (by decide) h (fun h => ?_) (fun h => ?_)
    · refine Eq.trans (o_aload_n d_Pa_readMost_36 rfl) ?_
      refine Eq.trans (o_dup d_Pa_readMost_37 rfl) ?_
      refine s_get d_Pa_readMost_38 pF_Pa_15 (zC_Pa_at o) h (fun x6 h => ?_)
      refine Eq.trans (o_iconst (v := 1) d_Pa_readMost_41 (by decide)) ?_
      refine Eq.trans (o_iadd d_Pa_readMost_42) ?_
      refine s_put d_Pa_readMost_43 pF_Pa_15 (zC_Pa_at o) h (fun T h => ?_)
      refine Eq.trans (o_aload_n d_Pa_readMost_46 rfl) ?_
      refine Eq.trans (o_iload_n d_Pa_readMost_47 rfl) ?_
      refine s_d d_Pa_readMost_48 pF_Pa_147 (dyC o) h (fun T h => ?_)
      exact s_vret d_Pa_readMost_51 rfl h
    · refine Eq.trans (o_aload_n d_Pa_readMost_31 rfl) ?_
      obtain ⟨u9, T2, h1, h⟩ := w_C_of h
      refine s_cV0v d_Pa_readMost_32 pM_Pa_47 (Nat.le_of_ble_eq_true rfl) (obC_4 o) (c_Pa_fail D (by omega) o _ _ _ h1) ?_
      replace h1 := trivial; revert h; generalize T2 = T; intro h
      exact s_vret d_Pa_readMost_35 rfl h
  · refine Eq.trans (o_aload_nR d_Pa_readMost_9 rfl) ?_
    refine Eq.trans (o_iconst (v := 1) d_Pa_readMost_10 (by decide)) ?_
    obtain ⟨p7, e9, h2⟩ := w_nn_of h
    clear h; subst e9; have h := h2; clear h2
    refine s_d d_Pa_readMost_11 pF_Pa_130 (dyC o) h (fun T h => ?_)
    exact s_vret d_Pa_readMost_14 rfl h
theorem c_Pa_readMost (D : Nat) (hD : 2 ≤ D) (o : Nat) (a1 : (Option Nat)) (T T1 : qT) (v : Unit) (h : f_Pa_readMost o a1 T = some (v, T1)) : q_ev q_Mt D 39 [.ref (o + 4), va_rf a1] (layC o T) = some (.inl (none), layC o T1) := by
  obtain ⟨D, rfl⟩ : ∃ D', D = D' + 1 := ⟨D - 1, by omega⟩
  rw [o_ev (M := q_mPa_readMost) (lo := [some (.ref (o + 4)), some (va_rf a1), none]) rfl (by cases a1 <;> exact Nat.le_of_ble_eq_true rfl) (by cases a1 <;> rfl)]
  exact c_Pa_readMost_0 D (by omega) o a1 T T1 v h
noncomputable def f_Pa_readBraces (o : Nat) (a1 : (Option Nat)) : qW Unit :=
  w_C (f_Pa_peek o) fun x1 =>
  w_C (f_Pa_digit o x1) fun x2 =>
  w_if (¬ x2 = ((-1))) (
    w_S 83 fun x3 =>
    w_s 83 ((x3 + 1)) <|
    w_nn a1 fun p4 =>
    w_d o p4 4 4 .int (.int x2) <|
    w_d o p4 4 5 .int (.int x2) <|
    w_C (f_Pa_peek o) fun x5 =>
    w_if (¬ x5 = 44) (
      w_C (f_Pa_expect o 125) fun _ =>
      w_pure ()) (
      w_S 83 fun x6 =>
      w_s 83 ((x6 + 1)) <|
      w_C (f_Pa_readMost o (some p4)) fun _ =>
      w_C (f_Pa_expect o 125) fun _ =>
      w_pure ())) (
    w_C (f_Pa_fail o) fun _ =>
    w_pure ())
set_option maxRecDepth 100000 in
set_option maxHeartbeats 4000000 in
theorem c_Pa_readBraces_0 (D : Nat) (hD : 2 ≤ D) (o : Nat) (a1 : (Option Nat))  (T T1 : qT) (v : Unit) (h : f_Pa_readBraces o a1 T = some (v, T1)) : q_out (q_ev q_Mt D) q_mPa_readBraces (0, [some (.ref (o + 4)), some (va_rf a1), none], [], layC o T) = some (.inl (none), layC o T1) := by
  unfold f_Pa_readBraces at h
  refine Eq.trans (o_aload_n d_Pa_readBraces_0 rfl) ?_
  obtain ⟨x1, T2, h1, h⟩ := w_C_of h
  refine s_cV0i d_Pa_readBraces_1 pM_Pa_53 (Nat.le_of_ble_eq_true rfl) (obC_4 o) (c_Pa_peek D (by omega) o _ _ _ h1) ?_
  replace h1 := trivial; revert h; generalize T2 = T; intro h
  obtain ⟨x2, T2, h1, h⟩ := w_C_of h
  refine s_cS1i d_Pa_readBraces_4 pM_Pa_143 (Nat.le_of_ble_eq_true rfl) (c_Pa_digit D (by omega) o _ _ _ _ h1) ?_
  replace h1 := trivial; revert h; generalize T2 = T; intro h
  refine Eq.trans (o_istore_n (lo' := [some (.ref (o + 4)), some (va_rf a1), some (.int x2)]) d_Pa_readBraces_7 (Nat.le_of_ble_eq_true rfl) (by cases a1 <;> rfl)) ?_
  refine Eq.trans (o_iload_n d_Pa_readBraces_8 rfl) ?_
  refine Eq.trans (o_iconst (v := (-1)) d_Pa_readBraces_9 (by decide)) ?_
  refine s_icmp_ne (t := 18) d_Pa_readBraces_10 (by decide) h (fun h => ?_) (fun h => ?_)
  · refine Eq.trans (o_aload_n d_Pa_readBraces_18 rfl) ?_
    refine Eq.trans (o_dup d_Pa_readBraces_19 rfl) ?_
    refine s_get d_Pa_readBraces_20 pF_Pa_15 (zC_Pa_at o) h (fun x3 h => ?_)
    refine Eq.trans (o_iconst (v := 1) d_Pa_readBraces_23 (by decide)) ?_
    refine Eq.trans (o_iadd d_Pa_readBraces_24) ?_
    refine s_put d_Pa_readBraces_25 pF_Pa_15 (zC_Pa_at o) h (fun T h => ?_)
    refine Eq.trans (o_aload_nR d_Pa_readBraces_28 rfl) ?_
    refine Eq.trans (o_iload_n d_Pa_readBraces_29 rfl) ?_
    obtain ⟨p4, e9, h2⟩ := w_nn_of h
    clear h; subst e9; have h := h2; clear h2
    refine s_d d_Pa_readBraces_30 pF_Pa_127 (dyC o) h (fun T h => ?_)
    refine Eq.trans (o_aload_n d_Pa_readBraces_33 rfl) ?_
    refine Eq.trans (o_iload_n d_Pa_readBraces_34 rfl) ?_
    refine s_d d_Pa_readBraces_35 pF_Pa_147 (dyC o) h (fun T h => ?_)
    refine Eq.trans (o_aload_n d_Pa_readBraces_38 rfl) ?_
    obtain ⟨x5, T2, h1, h⟩ := w_C_of h
    refine s_cV0i d_Pa_readBraces_39 pM_Pa_53 (Nat.le_of_ble_eq_true rfl) (obC_4 o) (c_Pa_peek D (by omega) o _ _ _ h1) ?_
    replace h1 := trivial; revert h; generalize T2 = T; intro h
    refine Eq.trans (o_bipush (v := 44) d_Pa_readBraces_42 (by decide)) ?_
    refine s_icmp_ne (t := 62) d_Pa_readBraces_44 (by decide) h (fun h => ?_) (fun h => ?_)
    · refine Eq.trans (o_aload_n d_Pa_readBraces_62 rfl) ?_
      refine Eq.trans (o_bipush (v := 125) d_Pa_readBraces_63 (by decide)) ?_
      obtain ⟨u9, T2, h1, h⟩ := w_C_of h
      refine s_cV1v d_Pa_readBraces_65 pM_Pa_89 (Nat.le_of_ble_eq_true rfl) (obC_4 o) (c_Pa_expect D (by omega) o _ _ _ _ h1) ?_
      replace h1 := trivial; revert h; generalize T2 = T; intro h
      exact s_vret d_Pa_readBraces_68 rfl h
    · refine Eq.trans (o_aload_n d_Pa_readBraces_47 rfl) ?_
      refine Eq.trans (o_dup d_Pa_readBraces_48 rfl) ?_
      refine s_get d_Pa_readBraces_49 pF_Pa_15 (zC_Pa_at o) h (fun x6 h => ?_)
      refine Eq.trans (o_iconst (v := 1) d_Pa_readBraces_52 (by decide)) ?_
      refine Eq.trans (o_iadd d_Pa_readBraces_53) ?_
      refine s_put d_Pa_readBraces_54 pF_Pa_15 (zC_Pa_at o) h (fun T h => ?_)
      refine Eq.trans (o_aload_n d_Pa_readBraces_57 rfl) ?_
      refine Eq.trans (o_aload_n d_Pa_readBraces_58 rfl) ?_
      obtain ⟨u9, T2, h1, h⟩ := w_C_of h
      refine s_cV1v d_Pa_readBraces_59 pM_Pa_150 (Nat.le_of_ble_eq_true rfl) (obC_4 o) (c_Pa_readMost D (by omega) o _ _ _ _ h1) ?_
      replace h1 := trivial; revert h; generalize T2 = T; intro h
      refine Eq.trans (o_aload_n d_Pa_readBraces_62 rfl) ?_
      refine Eq.trans (o_bipush (v := 125) d_Pa_readBraces_63 (by decide)) ?_
      obtain ⟨u9, T2, h1, h⟩ := w_C_of h
      refine s_cV1v d_Pa_readBraces_65 pM_Pa_89 (Nat.le_of_ble_eq_true rfl) (obC_4 o) (c_Pa_expect D (by omega) o _ _ _ _ h1) ?_
      replace h1 := trivial; revert h; generalize T2 = T; intro h
      exact s_vret d_Pa_readBraces_68 rfl h
  · refine Eq.trans (o_aload_n d_Pa_readBraces_13 rfl) ?_
    obtain ⟨u9, T2, h1, h⟩ := w_C_of h
    refine s_cV0v d_Pa_readBraces_14 pM_Pa_47 (Nat.le_of_ble_eq_true rfl) (obC_4 o) (c_Pa_fail D (by omega) o _ _ _ h1) ?_
    replace h1 := trivial; revert h; generalize T2 = T; intro h
    exact s_vret d_Pa_readBraces_17 rfl h
theorem c_Pa_readBraces (D : Nat) (hD : 3 ≤ D) (o : Nat) (a1 : (Option Nat)) (T T1 : qT) (v : Unit) (h : f_Pa_readBraces o a1 T = some (v, T1)) : q_ev q_Mt D 37 [.ref (o + 4), va_rf a1] (layC o T) = some (.inl (none), layC o T1) := by
  obtain ⟨D, rfl⟩ : ∃ D', D = D' + 1 := ⟨D - 1, by omega⟩
  rw [o_ev (M := q_mPa_readBraces) (lo := [some (.ref (o + 4)), some (va_rf a1), none]) rfl (by cases a1 <;> exact Nat.le_of_ble_eq_true rfl) (by cases a1 <;> rfl)]
  exact c_Pa_readBraces_0 D (by omega) o a1 T T1 v h
noncomputable def k_Pa_readCount_131 (o : Nat) (v1 : (Option Nat)) : qW Unit :=
  w_S 85 fun x1 =>
  w_if (¬ x1 = ((-1))) (
    w_pure ()) (
    w_C (f_Pa_peek o) fun x2 =>
    w_if (¬ x2 = 63) (
      w_pure ()) (
      w_nn v1 fun p3 =>
      w_d o p3 4 8 .boolean (.int 1) <|
      w_S 83 fun x4 =>
      w_s 83 ((x4 + 1)) <|
      w_pure ()))
noncomputable def f_Pa_readCount (o : Nat) (a1 : (Option Nat)) : qW Unit :=
  w_C (f_Pa_peek o) fun x1 =>
  w_if (x1 = 42) (
    w_nn a1 fun p2 =>
    w_d o p2 4 4 .int (.int 0) <|
    w_d o p2 4 6 .boolean (.int 1) <|
    w_S 83 fun x3 =>
    w_s 83 ((x3 + 1)) <|
    k_Pa_readCount_131 o (some p2)) (
    w_if (x1 = 43) (
      w_nn a1 fun p4 =>
      w_d o p4 4 4 .int (.int 0) <|
      w_d o p4 4 7 .boolean (.int 1) <|
      w_S 83 fun x5 =>
      w_s 83 ((x5 + 1)) <|
      k_Pa_readCount_131 o (some p4)) (
      w_if (x1 = 63) (
        w_nn a1 fun p6 =>
        w_d o p6 4 4 .int (.int 0) <|
        w_S 83 fun x7 =>
        w_s 83 ((x7 + 1)) <|
        k_Pa_readCount_131 o (some p6)) (
        w_if (x1 = 123) (
          w_S 83 fun x8 =>
          w_s 83 ((x8 + 1)) <|
          w_C (f_Pa_readBraces o a1) fun _ =>
          k_Pa_readCount_131 o a1) (
          w_pure ()))))
set_option maxRecDepth 100000 in
set_option maxHeartbeats 4000000 in
theorem c_Pa_readCount_131 (D : Nat) (hD : 3 ≤ D) (o : Nat) (v1 : (Option Nat))  (T T1 : qT) (v : Unit) (h : k_Pa_readCount_131 o v1 T = some (v, T1)) : q_out (q_ev q_Mt D) q_mPa_readCount (131, [some (.ref (o + 4)), some (va_rf v1)], [], layC o T) = some (.inl (none), layC o T1) := by
  unfold k_Pa_readCount_131 at h
  refine Eq.trans (o_aload_n d_Pa_readCount_131 rfl) ?_
  refine s_get d_Pa_readCount_132 pF_Pa_21 (zC_Pa_error o) h (fun x1 h => ?_)
  refine Eq.trans (o_iconst (v := (-1)) d_Pa_readCount_135 (by decide)) ?_
  refine s_icmp_ne (t := 163) d_Pa_readCount_136 (by decide) h (fun h => ?_) (fun h => ?_)
  · exact s_vret d_Pa_readCount_163 rfl h
  · refine Eq.trans (o_aload_n d_Pa_readCount_139 rfl) ?_
    obtain ⟨x2, T2, h1, h⟩ := w_C_of h
    refine s_cV0i d_Pa_readCount_140 pM_Pa_53 (Nat.le_of_ble_eq_true rfl) (obC_4 o) (c_Pa_peek D (by omega) o _ _ _ h1) ?_
    replace h1 := trivial; revert h; generalize T2 = T; intro h
    refine Eq.trans (o_bipush (v := 63) d_Pa_readCount_143 (by decide)) ?_
    refine s_icmp_ne (t := 163) d_Pa_readCount_145 (by decide) h (fun h => ?_) (fun h => ?_)
    · exact s_vret d_Pa_readCount_163 rfl h
    · refine Eq.trans (o_aload_nR d_Pa_readCount_148 rfl) ?_
      refine Eq.trans (o_iconst (v := 1) d_Pa_readCount_149 (by decide)) ?_
      obtain ⟨p3, e9, h2⟩ := w_nn_of h
      clear h; subst e9; have h := h2; clear h2
      refine s_d d_Pa_readCount_150 pF_Pa_140 (dyC o) h (fun T h => ?_)
      refine Eq.trans (o_aload_n d_Pa_readCount_153 rfl) ?_
      refine Eq.trans (o_dup d_Pa_readCount_154 rfl) ?_
      refine s_get d_Pa_readCount_155 pF_Pa_15 (zC_Pa_at o) h (fun x4 h => ?_)
      refine Eq.trans (o_iconst (v := 1) d_Pa_readCount_158 (by decide)) ?_
      refine Eq.trans (o_iadd d_Pa_readCount_159) ?_
      refine s_put d_Pa_readCount_160 pF_Pa_15 (zC_Pa_at o) h (fun T h => ?_)
      exact s_vret d_Pa_readCount_163 rfl h
set_option maxRecDepth 100000 in
set_option maxHeartbeats 4000000 in
theorem c_Pa_readCount_0 (D : Nat) (hD : 3 ≤ D) (o : Nat) (a1 : (Option Nat))  (T T1 : qT) (v : Unit) (h : f_Pa_readCount o a1 T = some (v, T1)) : q_out (q_ev q_Mt D) q_mPa_readCount (0, [some (.ref (o + 4)), some (va_rf a1)], [], layC o T) = some (.inl (none), layC o T1) := by
  unfold f_Pa_readCount at h
  refine Eq.trans (o_aload_n d_Pa_readCount_0 rfl) ?_
  obtain ⟨x1, T2, h1, h⟩ := w_C_of h
  refine s_cV0i d_Pa_readCount_1 pM_Pa_53 (Nat.le_of_ble_eq_true rfl) (obC_4 o) (c_Pa_peek D (by omega) o _ _ _ h1) ?_
  replace h1 := trivial; revert h; generalize T2 = T; intro h
  by_cases g0 : x1 = 42
  · have h := w_if_t h g0
    refine Eq.trans (o_lookup (off := 44) (t := 48) d_Pa_readCount_4 (by decide) (by rw [g0]; decide) (by decide)) ?_
    refine Eq.trans (o_aload_nR d_Pa_readCount_48 rfl) ?_
    refine Eq.trans (o_iconst (v := 0) d_Pa_readCount_49 (by decide)) ?_
    obtain ⟨p2, e9, h2⟩ := w_nn_of h
    clear h; subst e9; have h := h2; clear h2
    refine s_d d_Pa_readCount_50 pF_Pa_127 (dyC o) h (fun T h => ?_)
    refine Eq.trans (o_aload_n d_Pa_readCount_53 rfl) ?_
    refine Eq.trans (o_iconst (v := 1) d_Pa_readCount_54 (by decide)) ?_
    refine s_d d_Pa_readCount_55 pF_Pa_130 (dyC o) h (fun T h => ?_)
    refine Eq.trans (o_aload_n d_Pa_readCount_58 rfl) ?_
    refine Eq.trans (o_dup d_Pa_readCount_59 rfl) ?_
    refine s_get d_Pa_readCount_60 pF_Pa_15 (zC_Pa_at o) h (fun x3 h => ?_)
    refine Eq.trans (o_iconst (v := 1) d_Pa_readCount_63 (by decide)) ?_
    refine Eq.trans (o_iadd d_Pa_readCount_64) ?_
    refine s_put d_Pa_readCount_65 pF_Pa_15 (zC_Pa_at o) h (fun T h => ?_)
    refine Eq.trans (o_goto (t := 131) d_Pa_readCount_68 (by decide)) ?_
    exact c_Pa_readCount_131 D hD o _ _ _ _ h
  · have h := w_if_f h g0
    by_cases g1 : x1 = 43
    · have h := w_if_t h g1
      refine Eq.trans (o_lookup (off := 67) (t := 71) d_Pa_readCount_4 (by decide) (by rw [g1]; decide) (by decide)) ?_
      refine Eq.trans (o_aload_nR d_Pa_readCount_71 rfl) ?_
      refine Eq.trans (o_iconst (v := 0) d_Pa_readCount_72 (by decide)) ?_
      obtain ⟨p4, e9, h2⟩ := w_nn_of h
      clear h; subst e9; have h := h2; clear h2
      refine s_d d_Pa_readCount_73 pF_Pa_127 (dyC o) h (fun T h => ?_)
      refine Eq.trans (o_aload_n d_Pa_readCount_76 rfl) ?_
      refine Eq.trans (o_iconst (v := 1) d_Pa_readCount_77 (by decide)) ?_
      refine s_d d_Pa_readCount_78 pF_Pa_134 (dyC o) h (fun T h => ?_)
      refine Eq.trans (o_aload_n d_Pa_readCount_81 rfl) ?_
      refine Eq.trans (o_dup d_Pa_readCount_82 rfl) ?_
      refine s_get d_Pa_readCount_83 pF_Pa_15 (zC_Pa_at o) h (fun x5 h => ?_)
      refine Eq.trans (o_iconst (v := 1) d_Pa_readCount_86 (by decide)) ?_
      refine Eq.trans (o_iadd d_Pa_readCount_87) ?_
      refine s_put d_Pa_readCount_88 pF_Pa_15 (zC_Pa_at o) h (fun T h => ?_)
      refine Eq.trans (o_goto (t := 131) d_Pa_readCount_91 (by decide)) ?_
      exact c_Pa_readCount_131 D hD o _ _ _ _ h
    · have h := w_if_f h g1
      by_cases g2 : x1 = 63
      · have h := w_if_t h g2
        refine Eq.trans (o_lookup (off := 90) (t := 94) d_Pa_readCount_4 (by decide) (by rw [g2]; decide) (by decide)) ?_
        refine Eq.trans (o_aload_nR d_Pa_readCount_94 rfl) ?_
        refine Eq.trans (o_iconst (v := 0) d_Pa_readCount_95 (by decide)) ?_
        obtain ⟨p6, e9, h2⟩ := w_nn_of h
        clear h; subst e9; have h := h2; clear h2
        refine s_d d_Pa_readCount_96 pF_Pa_127 (dyC o) h (fun T h => ?_)
        refine Eq.trans (o_aload_n d_Pa_readCount_99 rfl) ?_
        refine Eq.trans (o_dup d_Pa_readCount_100 rfl) ?_
        refine s_get d_Pa_readCount_101 pF_Pa_15 (zC_Pa_at o) h (fun x7 h => ?_)
        refine Eq.trans (o_iconst (v := 1) d_Pa_readCount_104 (by decide)) ?_
        refine Eq.trans (o_iadd d_Pa_readCount_105) ?_
        refine s_put d_Pa_readCount_106 pF_Pa_15 (zC_Pa_at o) h (fun T h => ?_)
        refine Eq.trans (o_goto (t := 131) d_Pa_readCount_109 (by decide)) ?_
        exact c_Pa_readCount_131 D hD o _ _ _ _ h
      · have h := w_if_f h g2
        by_cases g3 : x1 = 123
        · have h := w_if_t h g3
          refine Eq.trans (o_lookup (off := 108) (t := 112) d_Pa_readCount_4 (by decide) (by rw [g3]; decide) (by decide)) ?_
          refine Eq.trans (o_aload_n d_Pa_readCount_112 rfl) ?_
          refine Eq.trans (o_dup d_Pa_readCount_113 rfl) ?_
          refine s_get d_Pa_readCount_114 pF_Pa_15 (zC_Pa_at o) h (fun x8 h => ?_)
          refine Eq.trans (o_iconst (v := 1) d_Pa_readCount_117 (by decide)) ?_
          refine Eq.trans (o_iadd d_Pa_readCount_118) ?_
          refine s_put d_Pa_readCount_119 pF_Pa_15 (zC_Pa_at o) h (fun T h => ?_)
          refine Eq.trans (o_aload_n d_Pa_readCount_122 rfl) ?_
          refine Eq.trans (o_aload_nR d_Pa_readCount_123 rfl) ?_
          obtain ⟨u9, T2, h1, h⟩ := w_C_of h
          refine s_cV1v d_Pa_readCount_124 pM_Pa_137 (Nat.le_of_ble_eq_true rfl) (obC_4 o) (c_Pa_readBraces D (by omega) o _ _ _ _ h1) ?_
          replace h1 := trivial; revert h; generalize T2 = T; intro h
          refine Eq.trans (o_goto (t := 131) d_Pa_readCount_127 (by decide)) ?_
          exact c_Pa_readCount_131 D hD o _ _ _ _ h
        · have h := w_if_f h g3
          refine Eq.trans (o_lookup (off := 126) (t := 130) d_Pa_readCount_4 (by decide) (by
            show Op.lookupswitch.offset [(42, 44), (43, 67), (63, 90), (123, 108)] 126 _ = 126
            rw [Op.lookupswitch.offset_cons, if_neg (i32_ne (x := x1) (c := 42) (k := 42) (by decide) g0)]
            rw [Op.lookupswitch.offset_cons, if_neg (i32_ne (x := x1) (c := 43) (k := 43) (by decide) g1)]
            rw [Op.lookupswitch.offset_cons, if_neg (i32_ne (x := x1) (c := 63) (k := 63) (by decide) g2)]
            rw [Op.lookupswitch.offset_cons, if_neg (i32_ne (x := x1) (c := 123) (k := 123) (by decide) g3)]
            rfl) (by decide)) ?_
          exact s_vret d_Pa_readCount_130 rfl h
theorem c_Pa_readCount (D : Nat) (hD : 4 ≤ D) (o : Nat) (a1 : (Option Nat)) (T T1 : qT) (v : Unit) (h : f_Pa_readCount o a1 T = some (v, T1)) : q_ev q_Mt D 36 [.ref (o + 4), va_rf a1] (layC o T) = some (.inl (none), layC o T1) := by
  obtain ⟨D, rfl⟩ : ∃ D', D = D' + 1 := ⟨D - 1, by omega⟩
  rw [o_ev (M := q_mPa_readCount) (lo := [some (.ref (o + 4)), some (va_rf a1)]) rfl (by cases a1 <;> exact Nat.le_of_ble_eq_true rfl) (by cases a1 <;> rfl)]
  exact c_Pa_readCount_0 D (by omega) o a1 T T1 v h
noncomputable def f_Rp_init (o : Nat) (p0 : Nat) : qW Unit :=
  w_d o p0 4 0 .int (.int (-1)) <|
  w_d o p0 4 1 (.object "PatternWalk$Row") (.null) <|
  w_d o p0 4 2 .int (.int 0) <|
  w_d o p0 4 3 .int (.int 1) <|
  w_d o p0 4 4 .int (.int 1) <|
  w_d o p0 4 5 .int (.int 1) <|
  w_d o p0 4 6 .boolean (.int 0) <|
  w_d o p0 4 7 .boolean (.int 0) <|
  w_d o p0 4 8 .boolean (.int 0) <|
  w_d o p0 4 9 (.object "PatternWalk$Repeat") (.null) <|
  w_pure ()
set_option maxRecDepth 100000 in
set_option maxHeartbeats 4000000 in
theorem c_Rp_init_0 (D : Nat) (hD : 0 ≤ D) (o : Nat) (p0 : Nat)  (T T1 : qT) (v : Unit) (h : f_Rp_init o p0 T = some (v, T1)) : q_out (q_ev q_Mt D) q_mRp_init (0, [some (.ref p0)], [], layC o T) = some (.inl (none), layC o T1) := by
  unfold f_Rp_init at h
  refine Eq.trans (o_aload_n d_Rp_init_0 rfl) ?_
  refine Eq.trans (o_objInit d_Rp_init_1 pM_Rp_3 (Nat.le_of_ble_eq_true rfl)) ?_
  refine Eq.trans (o_aload_n d_Rp_init_4 rfl) ?_
  refine Eq.trans (o_iconst (v := (-1)) d_Rp_init_5 (by decide)) ?_
  refine s_d d_Rp_init_6 pF_Rp_9 (dyC o) h (fun T h => ?_)
  refine Eq.trans (o_aload_n d_Rp_init_9 rfl) ?_
  refine Eq.trans (o_null d_Rp_init_10) ?_
  refine s_d d_Rp_init_11 pF_Rp_15 (dyC o) h (fun T h => ?_)
  refine Eq.trans (o_aload_n d_Rp_init_14 rfl) ?_
  refine Eq.trans (o_iconst (v := 0) d_Rp_init_15 (by decide)) ?_
  refine s_d d_Rp_init_16 pF_Rp_19 (dyC o) h (fun T h => ?_)
  refine Eq.trans (o_aload_n d_Rp_init_19 rfl) ?_
  refine Eq.trans (o_iconst (v := 1) d_Rp_init_20 (by decide)) ?_
  refine s_d d_Rp_init_21 pF_Rp_22 (dyC o) h (fun T h => ?_)
  refine Eq.trans (o_aload_n d_Rp_init_24 rfl) ?_
  refine Eq.trans (o_iconst (v := 1) d_Rp_init_25 (by decide)) ?_
  refine s_d d_Rp_init_26 pF_Rp_25 (dyC o) h (fun T h => ?_)
  refine Eq.trans (o_aload_n d_Rp_init_29 rfl) ?_
  refine Eq.trans (o_iconst (v := 1) d_Rp_init_30 (by decide)) ?_
  refine s_d d_Rp_init_31 pF_Rp_28 (dyC o) h (fun T h => ?_)
  refine Eq.trans (o_aload_n d_Rp_init_34 rfl) ?_
  refine Eq.trans (o_iconst (v := 0) d_Rp_init_35 (by decide)) ?_
  refine s_d d_Rp_init_36 pF_Rp_31 (dyC o) h (fun T h => ?_)
  refine Eq.trans (o_aload_n d_Rp_init_39 rfl) ?_
  refine Eq.trans (o_iconst (v := 0) d_Rp_init_40 (by decide)) ?_
  refine s_d d_Rp_init_41 pF_Rp_35 (dyC o) h (fun T h => ?_)
  refine Eq.trans (o_aload_n d_Rp_init_44 rfl) ?_
  refine Eq.trans (o_iconst (v := 0) d_Rp_init_45 (by decide)) ?_
  refine s_d d_Rp_init_46 pF_Rp_38 (dyC o) h (fun T h => ?_)
  refine Eq.trans (o_aload_n d_Rp_init_49 rfl) ?_
  refine Eq.trans (o_null d_Rp_init_50) ?_
  refine s_d d_Rp_init_51 pF_Rp_41 (dyC o) h (fun T h => ?_)
  exact s_vret d_Rp_init_54 rfl h
theorem c_Rp_init (D : Nat) (hD : 1 ≤ D) (o : Nat) (p0 : Nat) (T T1 : qT) (v : Unit) (h : f_Rp_init o p0 T = some (v, T1)) : q_ev q_Mt D 53 [.ref p0] (layC o T) = some (.inl (none), layC o T1) := by
  obtain ⟨D, rfl⟩ : ∃ D', D = D' + 1 := ⟨D - 1, by omega⟩
  rw [o_ev (M := q_mRp_init) (lo := [some (.ref p0)]) rfl (Nat.le_of_ble_eq_true rfl) rfl]
  exact c_Rp_init_0 D (by omega) o p0 T T1 v h
noncomputable def k_Rw_sizeAsChoice_10 (o : Nat) (v1 : Int32) (v2 : (Option Nat)) : qW (qJ ⊕ Int32) :=
  w_nul v2 (
    w_ri .int v1) fun p1 =>
    w_DI o p1 5 3 fun x2 =>
    w_DR o p1 5 2 fun u3 =>
    w_go 10 [.int (if ((v1 + 2) + x2) < 1000 then ((v1 + 2) + x2) else 1000)] [u3]
noncomputable def k_Rw_sizeAsChoice_0 (o : Nat) (p0 : Nat) : qW (qJ ⊕ Int32) :=
  w_DI o p0 5 3 fun x1 =>
  w_DR o p0 5 2 fun u2 =>
  w_go 10 [.int x1] [u2]
noncomputable def b_Rw_sizeAsChoice (o : Nat) : qJ → qW (qJ ⊕ Int32) := fun x => match x with
  | (0, [], [some p0]) => k_Rw_sizeAsChoice_0 o p0
  | (10, [.int v1], [v2]) => k_Rw_sizeAsChoice_10 o v1 v2
  | _ => w_no
noncomputable def f_Rw_sizeAsChoice (o : Nat) (p0 : Nat) : qW Int32 := w_fix (b_Rw_sizeAsChoice o) (0, [], [some p0])
set_option maxRecDepth 100000 in
set_option maxHeartbeats 4000000 in
theorem c_Rw_sizeAsChoice_10 (D : Nat) (hD : 0 ≤ D) (o : Nat) (n : Nat) (ih_10 : ∀ (v1 : Int32) (v2 : (Option Nat)) (e0 : Option Value) (T T2 : qT) (v : Int32), w_run (b_Rw_sizeAsChoice o) n (10, [.int v1], [v2]) T = some (v, T2) → q_out (q_ev q_Mt D) q_mRw_sizeAsChoice (10, [e0, some (.int v1), some (va_rf v2)], [], layC o T) = some (.inl (some (.int v)), layC o T2)) (v1 : Int32) (v2 : (Option Nat)) (e0 : Option Value) (T T1 T2 : qT) (rr : qJ ⊕ Int32) (v : Int32) (h : k_Rw_sizeAsChoice_10 o v1 v2 T = some (rr, T1)) (hE : w_end (b_Rw_sizeAsChoice o) n rr T1 = some (v, T2)) : q_out (q_ev q_Mt D) q_mRw_sizeAsChoice (10, [e0, some (.int v1), some (va_rf v2)], [], layC o T) = some (.inl (some (.int v)), layC o T2) := by
  unfold k_Rw_sizeAsChoice_10 at h
  refine Eq.trans (o_aload_nR d_Rw_sizeAsChoice_10 rfl) ?_
  refine s_ifnull (t := 37) d_Rw_sizeAsChoice_11 (by decide) h (fun e9 h2 => ?_) (fun p1 e9 h2 => ?_)
  · clear h; subst e9; have h := h2; clear h2
    refine Eq.trans (o_iload_n d_Rw_sizeAsChoice_37 rfl) ?_
    exact s_iretJ d_Rw_sizeAsChoice_38 rfl h hE
  · clear h; subst e9; have h := h2; clear h2
    refine Eq.trans (o_sipush (v := 1000) d_Rw_sizeAsChoice_14 (by decide)) ?_
    refine Eq.trans (o_iload_n d_Rw_sizeAsChoice_17 rfl) ?_
    refine Eq.trans (o_iconst (v := 2) d_Rw_sizeAsChoice_18 (by decide)) ?_
    refine Eq.trans (o_iadd d_Rw_sizeAsChoice_19) ?_
    refine Eq.trans (o_aload_n d_Rw_sizeAsChoice_20 rfl) ?_
    refine s_DI d_Rw_sizeAsChoice_21 pF_Rw_20 (dyC o) h (fun x2 h => ?_)
    refine Eq.trans (o_iadd d_Rw_sizeAsChoice_24) ?_
    refine Eq.trans (o_min d_Rw_sizeAsChoice_25 pM_Rw_31 (Nat.le_of_ble_eq_true rfl)) ?_
    refine Eq.trans (o_istore_n (lo' := [(q_dk e0), some (.int (if ((v1 + 2) + x2) < 1000 then ((v1 + 2) + x2) else 1000)), some (.ref p1)]) d_Rw_sizeAsChoice_28 (Nat.le_of_ble_eq_true rfl) ((q_st1_dk (j := 0) (Nat.le_of_ble_eq_true rfl)).trans rfl)) ?_
    refine Eq.trans (o_aload_n d_Rw_sizeAsChoice_29 rfl) ?_
    refine s_DR d_Rw_sizeAsChoice_30 pF_Rw_16 (dyC o) h (fun u3 h => ?_)
    refine Eq.trans (o_astore_nR (lo' := [(q_dk e0), some (.int (if ((v1 + 2) + x2) < 1000 then ((v1 + 2) + x2) else 1000)), some (va_rf u3)]) d_Rw_sizeAsChoice_33 (Nat.le_of_ble_eq_true rfl) rfl) ?_
    refine Eq.trans (o_goto (t := 10) d_Rw_sizeAsChoice_34 (by decide)) ?_
    exact ih_10 _ _ _ _ _ _ (s_jump h hE)
set_option maxRecDepth 100000 in
set_option maxHeartbeats 4000000 in
theorem c_Rw_sizeAsChoice_0 (D : Nat) (hD : 0 ≤ D) (o : Nat) (n : Nat) (ih_10 : ∀ (v1 : Int32) (v2 : (Option Nat)) (e0 : Option Value) (T T2 : qT) (v : Int32), w_run (b_Rw_sizeAsChoice o) n (10, [.int v1], [v2]) T = some (v, T2) → q_out (q_ev q_Mt D) q_mRw_sizeAsChoice (10, [e0, some (.int v1), some (va_rf v2)], [], layC o T) = some (.inl (some (.int v)), layC o T2)) (p0 : Nat)  (T T1 T2 : qT) (rr : qJ ⊕ Int32) (v : Int32) (h : k_Rw_sizeAsChoice_0 o p0 T = some (rr, T1)) (hE : w_end (b_Rw_sizeAsChoice o) n rr T1 = some (v, T2)) : q_out (q_ev q_Mt D) q_mRw_sizeAsChoice (0, [some (.ref p0), none, none], [], layC o T) = some (.inl (some (.int v)), layC o T2) := by
  unfold k_Rw_sizeAsChoice_0 at h
  refine Eq.trans (o_aload_n d_Rw_sizeAsChoice_0 rfl) ?_
  refine s_DI d_Rw_sizeAsChoice_1 pF_Rw_20 (dyC o) h (fun x1 h => ?_)
  refine Eq.trans (o_istore_n (lo' := [some (.ref p0), some (.int x1), none]) d_Rw_sizeAsChoice_4 (Nat.le_of_ble_eq_true rfl) rfl) ?_
  refine Eq.trans (o_aload_n d_Rw_sizeAsChoice_5 rfl) ?_
  refine s_DR d_Rw_sizeAsChoice_6 pF_Rw_16 (dyC o) h (fun u2 h => ?_)
  refine Eq.trans (o_astore_nR (lo' := [some (.ref p0), some (.int x1), some (va_rf u2)]) d_Rw_sizeAsChoice_9 (Nat.le_of_ble_eq_true rfl) rfl) ?_
  exact ih_10 _ _ _ _ _ _ (s_jump h hE)
theorem c_Rw_sizeAsChoice_lp (D : Nat) (hD : 0 ≤ D) (o : Nat) : ∀ n : Nat, (∀ (v1 : Int32) (v2 : (Option Nat)) (e0 : Option Value) (T T2 : qT) (v : Int32), w_run (b_Rw_sizeAsChoice o) n (10, [.int v1], [v2]) T = some (v, T2) → q_out (q_ev q_Mt D) q_mRw_sizeAsChoice (10, [e0, some (.int v1), some (va_rf v2)], [], layC o T) = some (.inl (some (.int v)), layC o T2)) := by
  intro n
  induction n with
  | zero => exact (fun v1 v2 e0 T T2 v h => by cases h)
  | succ n ih =>
    have ih_10 := ih
    · intro v1 v2 e0 T T2 v h
      obtain ⟨rr, T1, hb, hE⟩ := w_run_succ h
      exact c_Rw_sizeAsChoice_10 D hD o n ih_10 v1 v2 e0 T T1 T2 rr v hb hE
theorem c_Rw_sizeAsChoice (D : Nat) (hD : 1 ≤ D) (o : Nat) (p0 : Nat) (T T2 : qT) (v : Int32) (h : f_Rw_sizeAsChoice o p0 T = some (v, T2)) : q_ev q_Mt D 56 [.ref p0] (layC o T) = some (.inl (some (.int v)), layC o T2) := by
  obtain ⟨D, rfl⟩ : ∃ D', D = D' + 1 := ⟨D - 1, by omega⟩
  obtain ⟨n, hn⟩ := w_fix_iff.mp h
  cases n with
  | zero => cases hn
  | succ n =>
    obtain ⟨rr, T1, hb, hE⟩ := w_run_succ hn
    have hl := c_Rw_sizeAsChoice_lp D (by omega) o n
    have ih_10 := hl
    rw [o_ev (M := q_mRw_sizeAsChoice) (lo := [some (.ref p0), none, none]) rfl (Nat.le_of_ble_eq_true rfl) rfl]
    exact c_Rw_sizeAsChoice_0 D (by omega) o n ih_10 p0 T T1 T2 rr v hb hE
noncomputable def k_Pa_readChoice_13 (o : Nat) (G : Nat → Option Nat → Int32 → qW (Option Nat)) (v1 : Int32) (v2 : (Option Nat)) (v3 : (Option Nat)) (v4 : Int32) : qW (qJ ⊕ (Option Nat)) :=
  w_if (48 ≤ v4) (
    w_rt v2) (
    w_S 85 fun x1 =>
    w_if (¬ x1 = ((-1))) (
      w_rt v2) (
      w_C (f_Pa_peek o) fun x2 =>
      w_if (x2 = ((-1))) (
        w_rt v2) (
        w_if (¬ x2 = 41) (
          w_if (¬ x2 = 124) (
            w_C (G 1 none v1) fun u3 =>
            w_nn v3 fun p4 =>
            w_is p4 o 5 <|
            w_C (f_Rw_append o p4 u3) fun _ =>
            w_go 13 [.int v1, .int (v4 + 1)] [v2, (some p4)]) (
            w_S 83 fun x5 =>
            w_s 83 ((x5 + 1)) <|
            w_new o 5 [.null, .null, .null, .int 0] fun p6 =>
            w_C (f_Rw_init o p6) fun _ =>
            w_nn v3 fun p7 =>
            w_d o p7 5 2 (.object "PatternWalk$Row") (.ref p6) <|
            w_DR o p7 5 2 fun u8 =>
            w_go 13 [.int v1, .int (v4 + 1)] [v2, u8])) (
          w_rt v2))))
noncomputable def k_Pa_readChoice_0 (o : Nat) (G : Nat → Option Nat → Int32 → qW (Option Nat)) (a1 : Int32) : qW (qJ ⊕ (Option Nat)) :=
  w_new o 5 [.null, .null, .null, .int 0] fun p1 =>
  w_C (f_Rw_init o p1) fun _ =>
  w_go 13 [.int a1, .int 0] [(some p1), (some p1)]
noncomputable def b_Pa_readChoice (o : Nat) (G : Nat → Option Nat → Int32 → qW (Option Nat)) : qJ → qW (qJ ⊕ (Option Nat)) := fun x => match x with
  | (0, [.int a1], []) => k_Pa_readChoice_0 o G a1
  | (13, [.int v1, .int v4], [v2, v3]) => k_Pa_readChoice_13 o G v1 v2 v3 v4
  | _ => w_no
noncomputable def f_Pa_readChoice (o : Nat) (G : Nat → Option Nat → Int32 → qW (Option Nat)) (a1 : Int32) : qW (Option Nat) := w_fix (b_Pa_readChoice o G) (0, [.int a1], [])
set_option maxRecDepth 100000 in
set_option maxHeartbeats 4000000 in
theorem c_Pa_readChoice_13 (D : Nat) (hD : 6 ≤ D) (o : Nat) (G : Nat → Option Nat → Int32 → qW (Option Nat)) (hG0 : ∀ (p : Option Nat) (x : Int32) (T T1 : qT) (v : Option Nat), G 0 p x T = some (v, T1) → q_ev q_Mt D 24 [.ref (o + 4), .int x] (layC o T) = some (.inl (some (va_rf v)), layC o T1)) (hG1 : ∀ (p : Option Nat) (x : Int32) (T T1 : qT) (v : Option Nat), G 1 p x T = some (v, T1) → q_ev q_Mt D 26 [.ref (o + 4), .int x] (layC o T) = some (.inl (some (va_rf v)), layC o T1)) (hG2 : ∀ (p : Option Nat) (x : Int32) (T T1 : qT) (v : Option Nat), G 2 p x T = some (v, T1) → q_ev q_Mt D 27 [.ref (o + 4), va_rf p, .int x] (layC o T) = some (.inl (none), layC o T1)) (n : Nat) (ih_13 : ∀ (v1 : Int32) (v2 : (Option Nat)) (v3 : (Option Nat)) (v4 : Int32) (e5 : Option Value) (T T2 : qT) (v : (Option Nat)), w_run (b_Pa_readChoice o G) n (13, [.int v1, .int v4], [v2, v3]) T = some (v, T2) → q_out (q_ev q_Mt D) q_mPa_readChoice (13, [some (.ref (o + 4)), some (.int v1), some (va_rf v2), some (va_rf v3), some (.int v4), e5], [], layC o T) = some (.inl (some (va_rf v)), layC o T2)) (v1 : Int32) (v2 : (Option Nat)) (v3 : (Option Nat)) (v4 : Int32) (e5 : Option Value) (T T1 T2 : qT) (rr : qJ ⊕ (Option Nat)) (v : (Option Nat)) (h : k_Pa_readChoice_13 o G v1 v2 v3 v4 T = some (rr, T1)) (hE : w_end (b_Pa_readChoice o G) n rr T1 = some (v, T2)) : q_out (q_ev q_Mt D) q_mPa_readChoice (13, [some (.ref (o + 4)), some (.int v1), some (va_rf v2), some (va_rf v3), some (.int v4), e5], [], layC o T) = some (.inl (some (va_rf v)), layC o T2) := by
  unfold k_Pa_readChoice_13 at h
  refine Eq.trans (o_iload d_Pa_readChoice_13 rfl) ?_
  refine Eq.trans (o_bipush (v := 48) d_Pa_readChoice_15 (by decide)) ?_
  refine s_icmp_ge (t := 101) d_Pa_readChoice_17 (by decide) h (fun h => ?_) (fun h => ?_)
  · refine Eq.trans (o_aload_nR d_Pa_readChoice_101 rfl) ?_
    exact s_aretJ d_Pa_readChoice_102 rfl h hE
  · refine Eq.trans (o_aload_n d_Pa_readChoice_20 rfl) ?_
    refine s_get d_Pa_readChoice_21 pF_Pa_21 (zC_Pa_error o) h (fun x1 h => ?_)
    refine Eq.trans (o_iconst (v := (-1)) d_Pa_readChoice_24 (by decide)) ?_
    refine s_icmp_ne (t := 101) d_Pa_readChoice_25 (by decide) h (fun h => ?_) (fun h => ?_)
    · refine Eq.trans (o_aload_nR d_Pa_readChoice_101 rfl) ?_
      exact s_aretJ d_Pa_readChoice_102 rfl h hE
    · refine Eq.trans (o_aload_n d_Pa_readChoice_28 rfl) ?_
      obtain ⟨x2, T2, h1, h⟩ := w_C_of h
      refine s_cV0i d_Pa_readChoice_29 pM_Pa_53 (Nat.le_of_ble_eq_true rfl) (obC_4 o) (c_Pa_peek D (by omega) o _ _ _ h1) ?_
      replace h1 := trivial; revert h; generalize T2 = T; intro h
      refine Eq.trans (o_istore (lo' := [some (.ref (o + 4)), some (.int v1), some (va_rf v2), some (va_rf v3), some (.int v4), some (.int x2)]) d_Pa_readChoice_32 (Nat.le_of_ble_eq_true rfl) rfl) ?_
      refine Eq.trans (o_iload d_Pa_readChoice_34 rfl) ?_
      refine Eq.trans (o_iconst (v := (-1)) d_Pa_readChoice_36 (by decide)) ?_
      refine s_icmp_eq (t := 101) d_Pa_readChoice_37 (by decide) h (fun h => ?_) (fun h => ?_)
      · refine Eq.trans (o_aload_nR d_Pa_readChoice_101 rfl) ?_
        exact s_aretJ d_Pa_readChoice_102 rfl h hE
      · refine Eq.trans (o_iload d_Pa_readChoice_40 rfl) ?_
        refine Eq.trans (o_bipush (v := 41) d_Pa_readChoice_42 (by decide)) ?_
        refine s_icmp_ne (t := 50) d_Pa_readChoice_44 (by decide) h (fun h => ?_) (fun h => ?_)
        · refine Eq.trans (o_iload d_Pa_readChoice_50 rfl) ?_
          refine Eq.trans (o_bipush (v := 124) d_Pa_readChoice_52 (by decide)) ?_
          refine s_icmp_ne (t := 86) d_Pa_readChoice_54 (by decide) h (fun h => ?_) (fun h => ?_)
          · refine Eq.trans (o_aload_nR d_Pa_readChoice_86 rfl) ?_
            refine Eq.trans (o_aload_n d_Pa_readChoice_87 rfl) ?_
            refine Eq.trans (o_iload_n d_Pa_readChoice_88 rfl) ?_
            obtain ⟨u3, T2, h1, h⟩ := w_C_of h
            refine s_cV1r d_Pa_readChoice_89 pM_Pa_61 (by cases v3 <;> exact Nat.le_of_ble_eq_true rfl) (obC_4 o) (hG1 _ _ _ _ _ h1) ?_
            replace h1 := trivial; revert h; generalize T2 = T; intro h
            obtain ⟨p4, e9, h2⟩ := w_nn_of h
            clear h; subst e9; have h := h2; clear h2
            obtain ⟨⟨fs9, hb9⟩, h⟩ := w_is_of (dyC o) h
            obtain ⟨u9, T2, h1, h⟩ := w_C_of h
            refine Eq.trans (o_callV1 d_Pa_readChoice_92 pM_Pa_65 (Nat.le_of_ble_eq_true rfl) hb9 (c_Rw_append D (by omega) o _ _ _ _ _ h1)) ?_
            replace h1 := trivial; revert h; generalize T2 = T; intro h
            refine Eq.trans (o_iinc (v := (v4 + 1)) (lo' := [some (.ref (o + 4)), some (.int v1), some (va_rf v2), some (.ref p4), some (.int (v4 + 1)), some (.int x2)]) d_Pa_readChoice_95 rfl (by rw [show Int32.ofInt 1 = 1 from by decide]) (Nat.le_of_ble_eq_true rfl) rfl) ?_
            refine Eq.trans (o_goto (t := 13) d_Pa_readChoice_98 (by decide)) ?_
            exact ih_13 _ _ _ _ _ _ _ _ (s_jump h hE)
          · refine Eq.trans (o_aload_n d_Pa_readChoice_57 rfl) ?_
            refine Eq.trans (o_dup d_Pa_readChoice_58 rfl) ?_
            refine s_get d_Pa_readChoice_59 pF_Pa_15 (zC_Pa_at o) h (fun x5 h => ?_)
            refine Eq.trans (o_iconst (v := 1) d_Pa_readChoice_62 (by decide)) ?_
            refine Eq.trans (o_iadd d_Pa_readChoice_63) ?_
            refine s_put d_Pa_readChoice_64 pF_Pa_15 (zC_Pa_at o) h (fun T h => ?_)
            refine Eq.trans (o_aload_nR d_Pa_readChoice_67 rfl) ?_
            refine s_new d_Pa_readChoice_68 rfl (dyC o) (cnC o) h (fun p6 T h => ?_)
            refine Eq.trans (o_dup d_Pa_readChoice_71 rfl) ?_
            obtain ⟨u9, T2, h1, h⟩ := w_C_of h
            refine s_cI0v d_Pa_readChoice_72 pM_Pa_52 (by cases v3 <;> exact Nat.le_of_ble_eq_true rfl) (c_Rw_init D (by omega) o _ _ _ _ h1) ?_
            replace h1 := trivial; revert h; generalize T2 = T; intro h
            obtain ⟨p7, e9, h2⟩ := w_nn_of h
            clear h; subst e9; have h := h2; clear h2
            refine s_d d_Pa_readChoice_75 pF_Pa_57 (dyC o) h (fun T h => ?_)
            refine Eq.trans (o_aload_n d_Pa_readChoice_78 rfl) ?_
            refine s_DR d_Pa_readChoice_79 pF_Pa_57 (dyC o) h (fun u8 h => ?_)
            refine Eq.trans (o_astore_nR (lo' := [some (.ref (o + 4)), some (.int v1), some (va_rf v2), some (va_rf u8), some (.int v4), some (.int x2)]) d_Pa_readChoice_82 (Nat.le_of_ble_eq_true rfl) (by cases v2 <;> rfl)) ?_
            refine Eq.trans (o_goto (t := 95) d_Pa_readChoice_83 (by decide)) ?_
            refine Eq.trans (o_iinc (v := (v4 + 1)) (lo' := [some (.ref (o + 4)), some (.int v1), some (va_rf v2), some (va_rf u8), some (.int (v4 + 1)), some (.int x2)]) d_Pa_readChoice_95 rfl (by rw [show Int32.ofInt 1 = 1 from by decide]) (Nat.le_of_ble_eq_true rfl) (by cases u8 <;> rfl)) ?_
            refine Eq.trans (o_goto (t := 13) d_Pa_readChoice_98 (by decide)) ?_
            exact ih_13 _ _ _ _ _ _ _ _ (s_jump h hE)
        · refine Eq.trans (o_goto (t := 101) d_Pa_readChoice_47 (by decide)) ?_
          refine Eq.trans (o_aload_nR d_Pa_readChoice_101 rfl) ?_
          exact s_aretJ d_Pa_readChoice_102 rfl h hE
set_option maxRecDepth 100000 in
set_option maxHeartbeats 4000000 in
theorem c_Pa_readChoice_0 (D : Nat) (hD : 6 ≤ D) (o : Nat) (G : Nat → Option Nat → Int32 → qW (Option Nat)) (hG0 : ∀ (p : Option Nat) (x : Int32) (T T1 : qT) (v : Option Nat), G 0 p x T = some (v, T1) → q_ev q_Mt D 24 [.ref (o + 4), .int x] (layC o T) = some (.inl (some (va_rf v)), layC o T1)) (hG1 : ∀ (p : Option Nat) (x : Int32) (T T1 : qT) (v : Option Nat), G 1 p x T = some (v, T1) → q_ev q_Mt D 26 [.ref (o + 4), .int x] (layC o T) = some (.inl (some (va_rf v)), layC o T1)) (hG2 : ∀ (p : Option Nat) (x : Int32) (T T1 : qT) (v : Option Nat), G 2 p x T = some (v, T1) → q_ev q_Mt D 27 [.ref (o + 4), va_rf p, .int x] (layC o T) = some (.inl (none), layC o T1)) (n : Nat) (ih_13 : ∀ (v1 : Int32) (v2 : (Option Nat)) (v3 : (Option Nat)) (v4 : Int32) (e5 : Option Value) (T T2 : qT) (v : (Option Nat)), w_run (b_Pa_readChoice o G) n (13, [.int v1, .int v4], [v2, v3]) T = some (v, T2) → q_out (q_ev q_Mt D) q_mPa_readChoice (13, [some (.ref (o + 4)), some (.int v1), some (va_rf v2), some (va_rf v3), some (.int v4), e5], [], layC o T) = some (.inl (some (va_rf v)), layC o T2)) (a1 : Int32)  (T T1 T2 : qT) (rr : qJ ⊕ (Option Nat)) (v : (Option Nat)) (h : k_Pa_readChoice_0 o G a1 T = some (rr, T1)) (hE : w_end (b_Pa_readChoice o G) n rr T1 = some (v, T2)) : q_out (q_ev q_Mt D) q_mPa_readChoice (0, [some (.ref (o + 4)), some (.int a1), none, none, none, none], [], layC o T) = some (.inl (some (va_rf v)), layC o T2) := by
  unfold k_Pa_readChoice_0 at h
  refine s_new d_Pa_readChoice_0 rfl (dyC o) (cnC o) h (fun p1 T h => ?_)
  refine Eq.trans (o_dup d_Pa_readChoice_3 rfl) ?_
  obtain ⟨u9, T2, h1, h⟩ := w_C_of h
  refine s_cI0v d_Pa_readChoice_4 pM_Pa_52 (Nat.le_of_ble_eq_true rfl) (c_Rw_init D (by omega) o _ _ _ _ h1) ?_
  replace h1 := trivial; revert h; generalize T2 = T; intro h
  refine Eq.trans (o_astore_n (lo' := [some (.ref (o + 4)), some (.int a1), some (.ref p1), none, none, none]) d_Pa_readChoice_7 (Nat.le_of_ble_eq_true rfl) rfl) ?_
  refine Eq.trans (o_aload_n d_Pa_readChoice_8 rfl) ?_
  refine Eq.trans (o_astore_n (lo' := [some (.ref (o + 4)), some (.int a1), some (.ref p1), some (.ref p1), none, none]) d_Pa_readChoice_9 (Nat.le_of_ble_eq_true rfl) rfl) ?_
  refine Eq.trans (o_iconst (v := 0) d_Pa_readChoice_10 (by decide)) ?_
  refine Eq.trans (o_istore (lo' := [some (.ref (o + 4)), some (.int a1), some (.ref p1), some (.ref p1), some (.int 0), none]) d_Pa_readChoice_11 (Nat.le_of_ble_eq_true rfl) rfl) ?_
  exact ih_13 _ _ _ _ _ _ _ _ (s_jump h hE)
theorem c_Pa_readChoice_lp (D : Nat) (hD : 6 ≤ D) (o : Nat) (G : Nat → Option Nat → Int32 → qW (Option Nat)) (hG0 : ∀ (p : Option Nat) (x : Int32) (T T1 : qT) (v : Option Nat), G 0 p x T = some (v, T1) → q_ev q_Mt D 24 [.ref (o + 4), .int x] (layC o T) = some (.inl (some (va_rf v)), layC o T1)) (hG1 : ∀ (p : Option Nat) (x : Int32) (T T1 : qT) (v : Option Nat), G 1 p x T = some (v, T1) → q_ev q_Mt D 26 [.ref (o + 4), .int x] (layC o T) = some (.inl (some (va_rf v)), layC o T1)) (hG2 : ∀ (p : Option Nat) (x : Int32) (T T1 : qT) (v : Option Nat), G 2 p x T = some (v, T1) → q_ev q_Mt D 27 [.ref (o + 4), va_rf p, .int x] (layC o T) = some (.inl (none), layC o T1)) : ∀ n : Nat, (∀ (v1 : Int32) (v2 : (Option Nat)) (v3 : (Option Nat)) (v4 : Int32) (e5 : Option Value) (T T2 : qT) (v : (Option Nat)), w_run (b_Pa_readChoice o G) n (13, [.int v1, .int v4], [v2, v3]) T = some (v, T2) → q_out (q_ev q_Mt D) q_mPa_readChoice (13, [some (.ref (o + 4)), some (.int v1), some (va_rf v2), some (va_rf v3), some (.int v4), e5], [], layC o T) = some (.inl (some (va_rf v)), layC o T2)) := by
  intro n
  induction n with
  | zero => exact (fun v1 v2 v3 v4 e5 T T2 v h => by cases h)
  | succ n ih =>
    have ih_13 := ih
    · intro v1 v2 v3 v4 e5 T T2 v h
      obtain ⟨rr, T1, hb, hE⟩ := w_run_succ h
      exact c_Pa_readChoice_13 D hD o G hG0 hG1 hG2 n ih_13 v1 v2 v3 v4 e5 T T1 T2 rr v hb hE
theorem c_Pa_readChoice (D : Nat) (hD : 6 ≤ D) (o : Nat) (G : Nat → Option Nat → Int32 → qW (Option Nat)) (hG0 : ∀ (p : Option Nat) (x : Int32) (T T1 : qT) (v : Option Nat), G 0 p x T = some (v, T1) → q_ev q_Mt D 24 [.ref (o + 4), .int x] (layC o T) = some (.inl (some (va_rf v)), layC o T1)) (hG1 : ∀ (p : Option Nat) (x : Int32) (T T1 : qT) (v : Option Nat), G 1 p x T = some (v, T1) → q_ev q_Mt D 26 [.ref (o + 4), .int x] (layC o T) = some (.inl (some (va_rf v)), layC o T1)) (hG2 : ∀ (p : Option Nat) (x : Int32) (T T1 : qT) (v : Option Nat), G 2 p x T = some (v, T1) → q_ev q_Mt D 27 [.ref (o + 4), va_rf p, .int x] (layC o T) = some (.inl (none), layC o T1)) (a1 : Int32) (T T2 : qT) (v : (Option Nat)) (h : f_Pa_readChoice o G a1 T = some (v, T2)) : q_ev q_Mt (D + 1) 24 [.ref (o + 4), .int a1] (layC o T) = some (.inl (some (va_rf v)), layC o T2) := by
  obtain ⟨n, hn⟩ := w_fix_iff.mp h
  cases n with
  | zero => cases hn
  | succ n =>
    obtain ⟨rr, T1, hb, hE⟩ := w_run_succ hn
    have hl := c_Pa_readChoice_lp D (by omega) o G hG0 hG1 hG2 n
    have ih_13 := hl
    rw [o_ev (M := q_mPa_readChoice) (lo := [some (.ref (o + 4)), some (.int a1), none, none, none, none]) rfl (Nat.le_of_ble_eq_true rfl) rfl]
    exact c_Pa_readChoice_0 D (by omega) o G hG0 hG1 hG2 n ih_13 a1 T T1 T2 rr v hb hE
noncomputable def k_Pa_readRepeat_45 (o : Nat) (G : Nat → Option Nat → Int32 → qW (Option Nat)) (v2 : (Option Nat)) : qW (Option Nat) :=
  w_S 85 fun x1 =>
  w_if (¬ x1 = ((-1))) (
    w_pure v2) (
    w_C (f_Pa_readCount o v2) fun _ =>
    w_pure v2)
noncomputable def f_Pa_readRepeat (o : Nat) (G : Nat → Option Nat → Int32 → qW (Option Nat)) (a1 : Int32) : qW (Option Nat) :=
  w_new o 4 [.int 0, .null, .int 0, .int 0, .int 0, .int 0, .int 0, .int 0, .int 0, .null] fun p1 =>
  w_C (f_Rp_init o p1) fun _ =>
  w_C (f_Pa_peek o) fun x2 =>
  w_if (¬ x2 = 40) (
    w_C (f_Cs_open o) fun x3 =>
    w_d o p1 4 0 .int (.int x3) <|
    w_DI o p1 4 0 fun x4 =>
    w_C (f_Pa_readCharacters o x4) fun _ =>
    k_Pa_readRepeat_45 o G (some p1)) (
    w_C (G 2 (some p1) a1) fun _ =>
    k_Pa_readRepeat_45 o G (some p1))
set_option maxRecDepth 100000 in
set_option maxHeartbeats 4000000 in
theorem c_Pa_readRepeat_45 (D : Nat) (hD : 6 ≤ D) (o : Nat) (G : Nat → Option Nat → Int32 → qW (Option Nat)) (hG0 : ∀ (p : Option Nat) (x : Int32) (T T1 : qT) (v : Option Nat), G 0 p x T = some (v, T1) → q_ev q_Mt D 24 [.ref (o + 4), .int x] (layC o T) = some (.inl (some (va_rf v)), layC o T1)) (hG1 : ∀ (p : Option Nat) (x : Int32) (T T1 : qT) (v : Option Nat), G 1 p x T = some (v, T1) → q_ev q_Mt D 26 [.ref (o + 4), .int x] (layC o T) = some (.inl (some (va_rf v)), layC o T1)) (hG2 : ∀ (p : Option Nat) (x : Int32) (T T1 : qT) (v : Option Nat), G 2 p x T = some (v, T1) → q_ev q_Mt D 27 [.ref (o + 4), va_rf p, .int x] (layC o T) = some (.inl (none), layC o T1)) (v2 : (Option Nat)) (e1 : Option Value) (T T1 : qT) (v : (Option Nat)) (h : k_Pa_readRepeat_45 o G v2 T = some (v, T1)) : q_out (q_ev q_Mt D) q_mPa_readRepeat (45, [some (.ref (o + 4)), e1, some (va_rf v2)], [], layC o T) = some (.inl (some (va_rf v)), layC o T1) := by
  unfold k_Pa_readRepeat_45 at h
  refine Eq.trans (o_aload_n d_Pa_readRepeat_45 rfl) ?_
  refine s_get d_Pa_readRepeat_46 pF_Pa_21 (zC_Pa_error o) h (fun x1 h => ?_)
  refine Eq.trans (o_iconst (v := (-1)) d_Pa_readRepeat_49 (by decide)) ?_
  refine s_icmp_ne (t := 58) d_Pa_readRepeat_50 (by decide) h (fun h => ?_) (fun h => ?_)
  · refine Eq.trans (o_aload_nR d_Pa_readRepeat_58 rfl) ?_
    exact s_aret d_Pa_readRepeat_59 rfl h
  · refine Eq.trans (o_aload_n d_Pa_readRepeat_53 rfl) ?_
    refine Eq.trans (o_aload_nR d_Pa_readRepeat_54 rfl) ?_
    obtain ⟨u9, T2, h1, h⟩ := w_C_of h
    refine s_cV1v d_Pa_readRepeat_55 pM_Pa_86 (Nat.le_of_ble_eq_true rfl) (obC_4 o) (c_Pa_readCount D (by omega) o _ _ _ _ h1) ?_
    replace h1 := trivial; revert h; generalize T2 = T; intro h
    refine Eq.trans (o_aload_nR d_Pa_readRepeat_58 rfl) ?_
    exact s_aret d_Pa_readRepeat_59 rfl h
set_option maxRecDepth 100000 in
set_option maxHeartbeats 4000000 in
theorem c_Pa_readRepeat_0 (D : Nat) (hD : 6 ≤ D) (o : Nat) (G : Nat → Option Nat → Int32 → qW (Option Nat)) (hG0 : ∀ (p : Option Nat) (x : Int32) (T T1 : qT) (v : Option Nat), G 0 p x T = some (v, T1) → q_ev q_Mt D 24 [.ref (o + 4), .int x] (layC o T) = some (.inl (some (va_rf v)), layC o T1)) (hG1 : ∀ (p : Option Nat) (x : Int32) (T T1 : qT) (v : Option Nat), G 1 p x T = some (v, T1) → q_ev q_Mt D 26 [.ref (o + 4), .int x] (layC o T) = some (.inl (some (va_rf v)), layC o T1)) (hG2 : ∀ (p : Option Nat) (x : Int32) (T T1 : qT) (v : Option Nat), G 2 p x T = some (v, T1) → q_ev q_Mt D 27 [.ref (o + 4), va_rf p, .int x] (layC o T) = some (.inl (none), layC o T1)) (a1 : Int32)  (T T1 : qT) (v : (Option Nat)) (h : f_Pa_readRepeat o G a1 T = some (v, T1)) : q_out (q_ev q_Mt D) q_mPa_readRepeat (0, [some (.ref (o + 4)), some (.int a1), none], [], layC o T) = some (.inl (some (va_rf v)), layC o T1) := by
  unfold f_Pa_readRepeat at h
  refine s_new d_Pa_readRepeat_0 rfl (dyC o) (cnC o) h (fun p1 T h => ?_)
  refine Eq.trans (o_dup d_Pa_readRepeat_3 rfl) ?_
  obtain ⟨u9, T2, h1, h⟩ := w_C_of h
  refine s_cI0v d_Pa_readRepeat_4 pM_Pa_71 (Nat.le_of_ble_eq_true rfl) (c_Rp_init D (by omega) o _ _ _ _ h1) ?_
  replace h1 := trivial; revert h; generalize T2 = T; intro h
  refine Eq.trans (o_astore_n (lo' := [some (.ref (o + 4)), some (.int a1), some (.ref p1)]) d_Pa_readRepeat_7 (Nat.le_of_ble_eq_true rfl) rfl) ?_
  refine Eq.trans (o_aload_n d_Pa_readRepeat_8 rfl) ?_
  obtain ⟨x2, T2, h1, h⟩ := w_C_of h
  refine s_cV0i d_Pa_readRepeat_9 pM_Pa_53 (Nat.le_of_ble_eq_true rfl) (obC_4 o) (c_Pa_peek D (by omega) o _ _ _ h1) ?_
  replace h1 := trivial; revert h; generalize T2 = T; intro h
  refine Eq.trans (o_bipush (v := 40) d_Pa_readRepeat_12 (by decide)) ?_
  refine s_icmp_ne (t := 26) d_Pa_readRepeat_14 (by decide) h (fun h => ?_) (fun h => ?_)
  · refine Eq.trans (o_aload_n d_Pa_readRepeat_26 rfl) ?_
    refine Eq.trans (o_aload_n d_Pa_readRepeat_27 rfl) ?_
    refine s_ref d_Pa_readRepeat_28 pF_Pa_28 (zC_Pa_sets o) ?_
    obtain ⟨x3, T2, h1, h⟩ := w_C_of h
    refine s_cV0i d_Pa_readRepeat_31 pM_Pa_76 (Nat.le_of_ble_eq_true rfl) (obC_2 o) (c_Cs_open D (by omega) o _ _ _ h1) ?_
    replace h1 := trivial; revert h; generalize T2 = T; intro h
    refine s_d d_Pa_readRepeat_34 pF_Pa_79 (dyC o) h (fun T h => ?_)
    refine Eq.trans (o_aload_n d_Pa_readRepeat_37 rfl) ?_
    refine Eq.trans (o_aload_n d_Pa_readRepeat_38 rfl) ?_
    refine s_DI d_Pa_readRepeat_39 pF_Pa_79 (dyC o) h (fun x4 h => ?_)
    obtain ⟨u9, T2, h1, h⟩ := w_C_of h
    refine s_cV1v d_Pa_readRepeat_42 pM_Pa_82 (Nat.le_of_ble_eq_true rfl) (obC_4 o) (c_Pa_readCharacters D (by omega) o _ _ _ _ h1) ?_
    replace h1 := trivial; revert h; generalize T2 = T; intro h
    exact c_Pa_readRepeat_45 D hD o G hG0 hG1 hG2 _ _ _ _ _ h
  · refine Eq.trans (o_aload_n d_Pa_readRepeat_17 rfl) ?_
    refine Eq.trans (o_aload_n d_Pa_readRepeat_18 rfl) ?_
    refine Eq.trans (o_iload_n d_Pa_readRepeat_19 rfl) ?_
    obtain ⟨u9, T2, h1, h⟩ := w_C_of h
    refine s_cV2v d_Pa_readRepeat_20 pM_Pa_72 (Nat.le_of_ble_eq_true rfl) (obC_4 o) (hG2 _ _ _ _ _ h1) ?_
    replace h1 := trivial; revert h; generalize T2 = T; intro h
    refine Eq.trans (o_goto (t := 45) d_Pa_readRepeat_23 (by decide)) ?_
    exact c_Pa_readRepeat_45 D hD o G hG0 hG1 hG2 _ _ _ _ _ h
theorem c_Pa_readRepeat (D : Nat) (hD : 6 ≤ D) (o : Nat) (G : Nat → Option Nat → Int32 → qW (Option Nat)) (hG0 : ∀ (p : Option Nat) (x : Int32) (T T1 : qT) (v : Option Nat), G 0 p x T = some (v, T1) → q_ev q_Mt D 24 [.ref (o + 4), .int x] (layC o T) = some (.inl (some (va_rf v)), layC o T1)) (hG1 : ∀ (p : Option Nat) (x : Int32) (T T1 : qT) (v : Option Nat), G 1 p x T = some (v, T1) → q_ev q_Mt D 26 [.ref (o + 4), .int x] (layC o T) = some (.inl (some (va_rf v)), layC o T1)) (hG2 : ∀ (p : Option Nat) (x : Int32) (T T1 : qT) (v : Option Nat), G 2 p x T = some (v, T1) → q_ev q_Mt D 27 [.ref (o + 4), va_rf p, .int x] (layC o T) = some (.inl (none), layC o T1)) (a1 : Int32) (T T1 : qT) (v : (Option Nat)) (h : f_Pa_readRepeat o G a1 T = some (v, T1)) : q_ev q_Mt (D + 1) 26 [.ref (o + 4), .int a1] (layC o T) = some (.inl (some (va_rf v)), layC o T1) := by
  rw [o_ev (M := q_mPa_readRepeat) (lo := [some (.ref (o + 4)), some (.int a1), none]) rfl (Nat.le_of_ble_eq_true rfl) rfl]
  exact c_Pa_readRepeat_0 D (by omega) o G hG0 hG1 hG2 a1 T T1 v h
noncomputable def k_Pa_readGroup_83 (o : Nat) (G : Nat → Option Nat → Int32 → qW (Option Nat)) (v1 : (Option Nat)) (v2 : Int32) : qW Unit :=
  w_S 85 fun x1 =>
  w_if (x1 = ((-1))) (
    w_C (G 0 none ((v2 + 1))) fun u2 =>
    w_C (f_Pa_expect o 41) fun _ =>
    w_nn v1 fun p3 =>
    w_d o p3 4 1 (.object "PatternWalk$Row") (va_rf u2) <|
    w_nn u2 fun p4 =>
    w_is p4 o 5 <|
    w_C (f_Rw_sizeAsChoice o p4) fun x5 =>
    w_DI o p3 4 2 fun x6 =>
    w_if (x6 ≤ 0) (
      w_d o p3 4 3 .int (.int (x5 + 0)) <|
      w_pure ()) (
      w_d o p3 4 3 .int (.int (x5 + 2)) <|
      w_pure ())) (
    w_pure ())
noncomputable def f_Pa_readGroup (o : Nat) (G : Nat → Option Nat → Int32 → qW (Option Nat)) (a1 : (Option Nat)) (a2 : Int32) : qW Unit :=
  w_if (a2 < 8) (
    w_S 83 fun x1 =>
    w_s 83 ((x1 + 1)) <|
    w_C (f_Pa_peek o) fun x2 =>
    w_if (¬ x2 = 63) (
      w_S 84 fun x3 =>
      w_if (x3 < 6) (
        w_S 84 fun x4 =>
        w_s 84 ((x4 + 1)) <|
        w_S 84 fun x5 =>
        w_nn a1 fun p6 =>
        w_d o p6 4 2 .int (.int x5) <|
        k_Pa_readGroup_83 o G (some p6) a2) (
        w_C (f_Pa_fail o) fun _ =>
        k_Pa_readGroup_83 o G a1 a2)) (
      w_S 83 fun x7 =>
      w_s 83 ((x7 + 1)) <|
      w_C (f_Pa_expect o 58) fun _ =>
      k_Pa_readGroup_83 o G a1 a2)) (
    w_C (f_Pa_fail o) fun _ =>
    w_pure ())
set_option maxRecDepth 100000 in
set_option maxHeartbeats 4000000 in
theorem c_Pa_readGroup_83 (D : Nat) (hD : 6 ≤ D) (o : Nat) (G : Nat → Option Nat → Int32 → qW (Option Nat)) (hG0 : ∀ (p : Option Nat) (x : Int32) (T T1 : qT) (v : Option Nat), G 0 p x T = some (v, T1) → q_ev q_Mt D 24 [.ref (o + 4), .int x] (layC o T) = some (.inl (some (va_rf v)), layC o T1)) (hG1 : ∀ (p : Option Nat) (x : Int32) (T T1 : qT) (v : Option Nat), G 1 p x T = some (v, T1) → q_ev q_Mt D 26 [.ref (o + 4), .int x] (layC o T) = some (.inl (some (va_rf v)), layC o T1)) (hG2 : ∀ (p : Option Nat) (x : Int32) (T T1 : qT) (v : Option Nat), G 2 p x T = some (v, T1) → q_ev q_Mt D 27 [.ref (o + 4), va_rf p, .int x] (layC o T) = some (.inl (none), layC o T1)) (v1 : (Option Nat)) (v2 : Int32) (e3 : Option Value) (T T1 : qT) (v : Unit) (h : k_Pa_readGroup_83 o G v1 v2 T = some (v, T1)) : q_out (q_ev q_Mt D) q_mPa_readGroup (83, [some (.ref (o + 4)), some (va_rf v1), some (.int v2), e3], [], layC o T) = some (.inl (none), layC o T1) := by
  unfold k_Pa_readGroup_83 at h
  refine Eq.trans (o_aload_n d_Pa_readGroup_83 rfl) ?_
  refine s_get d_Pa_readGroup_84 pF_Pa_21 (zC_Pa_error o) h (fun x1 h => ?_)
  refine Eq.trans (o_iconst (v := (-1)) d_Pa_readGroup_87 (by decide)) ?_
  refine s_icmp_eq (t := 92) d_Pa_readGroup_88 (by decide) h (fun h => ?_) (fun h => ?_)
  · refine Eq.trans (o_aload_n d_Pa_readGroup_92 rfl) ?_
    refine Eq.trans (o_iload_n d_Pa_readGroup_93 rfl) ?_
    refine Eq.trans (o_iconst (v := 1) d_Pa_readGroup_94 (by decide)) ?_
    refine Eq.trans (o_iadd d_Pa_readGroup_95) ?_
    obtain ⟨u2, T2, h1, h⟩ := w_C_of h
    refine s_cV1r d_Pa_readGroup_96 pM_Pa_43 (Nat.le_of_ble_eq_true rfl) (obC_4 o) (hG0 _ _ _ _ _ h1) ?_
    replace h1 := trivial; revert h; generalize T2 = T; intro h
    refine Eq.trans (o_astore_nR (lo' := [some (.ref (o + 4)), some (va_rf v1), some (.int v2), some (va_rf u2)]) d_Pa_readGroup_99 (Nat.le_of_ble_eq_true rfl) rfl) ?_
    refine Eq.trans (o_aload_n d_Pa_readGroup_100 rfl) ?_
    refine Eq.trans (o_bipush (v := 41) d_Pa_readGroup_101 (by decide)) ?_
    obtain ⟨u9, T2, h1, h⟩ := w_C_of h
    refine s_cV1v d_Pa_readGroup_103 pM_Pa_89 (Nat.le_of_ble_eq_true rfl) (obC_4 o) (c_Pa_expect D (by omega) o _ _ _ _ h1) ?_
    replace h1 := trivial; revert h; generalize T2 = T; intro h
    refine Eq.trans (o_aload_nR d_Pa_readGroup_106 rfl) ?_
    refine Eq.trans (o_aload_nR d_Pa_readGroup_107 rfl) ?_
    obtain ⟨p3, e9, h2⟩ := w_nn_of h
    clear h; subst e9; have h := h2; clear h2
    refine s_d d_Pa_readGroup_108 pF_Pa_95 (dyC o) h (fun T h => ?_)
    refine Eq.trans (o_aload_n d_Pa_readGroup_111 rfl) ?_
    refine Eq.trans (o_aload_nR d_Pa_readGroup_112 rfl) ?_
    obtain ⟨p4, e9, h2⟩ := w_nn_of h
    clear h; subst e9; have h := h2; clear h2
    obtain ⟨⟨fs9, hb9⟩, h⟩ := w_is_of (dyC o) h
    obtain ⟨x5, T2, h1, h⟩ := w_C_of h
    refine Eq.trans (o_callV0 d_Pa_readGroup_113 pM_Pa_98 (Nat.le_of_ble_eq_true rfl) hb9 (c_Rw_sizeAsChoice D (by omega) o _ _ _ _ h1)) ?_
    replace h1 := trivial; revert h; generalize T2 = T; intro h
    refine Eq.trans (o_aload_n d_Pa_readGroup_116 rfl) ?_
    refine s_DI d_Pa_readGroup_117 pF_Pa_92 (dyC o) h (fun x6 h => ?_)
    refine s_if_le (t := 127) d_Pa_readGroup_120 (by decide) h (fun h => ?_) (fun h => ?_)
    · refine Eq.trans (o_iconst (v := 0) d_Pa_readGroup_127 (by decide)) ?_
      refine Eq.trans (o_iadd d_Pa_readGroup_128) ?_
      refine s_d d_Pa_readGroup_129 pF_Pa_101 (dyC o) h (fun T h => ?_)
      exact s_vret d_Pa_readGroup_132 rfl h
    · refine Eq.trans (o_iconst (v := 2) d_Pa_readGroup_123 (by decide)) ?_
      refine Eq.trans (o_goto (t := 128) d_Pa_readGroup_124 (by decide)) ?_
      refine Eq.trans (o_iadd d_Pa_readGroup_128) ?_
      refine s_d d_Pa_readGroup_129 pF_Pa_101 (dyC o) h (fun T h => ?_)
      exact s_vret d_Pa_readGroup_132 rfl h
  · exact s_vret d_Pa_readGroup_91 rfl h
set_option maxRecDepth 100000 in
set_option maxHeartbeats 4000000 in
theorem c_Pa_readGroup_0 (D : Nat) (hD : 6 ≤ D) (o : Nat) (G : Nat → Option Nat → Int32 → qW (Option Nat)) (hG0 : ∀ (p : Option Nat) (x : Int32) (T T1 : qT) (v : Option Nat), G 0 p x T = some (v, T1) → q_ev q_Mt D 24 [.ref (o + 4), .int x] (layC o T) = some (.inl (some (va_rf v)), layC o T1)) (hG1 : ∀ (p : Option Nat) (x : Int32) (T T1 : qT) (v : Option Nat), G 1 p x T = some (v, T1) → q_ev q_Mt D 26 [.ref (o + 4), .int x] (layC o T) = some (.inl (some (va_rf v)), layC o T1)) (hG2 : ∀ (p : Option Nat) (x : Int32) (T T1 : qT) (v : Option Nat), G 2 p x T = some (v, T1) → q_ev q_Mt D 27 [.ref (o + 4), va_rf p, .int x] (layC o T) = some (.inl (none), layC o T1)) (a1 : (Option Nat)) (a2 : Int32)  (T T1 : qT) (v : Unit) (h : f_Pa_readGroup o G a1 a2 T = some (v, T1)) : q_out (q_ev q_Mt D) q_mPa_readGroup (0, [some (.ref (o + 4)), some (va_rf a1), some (.int a2), none], [], layC o T) = some (.inl (none), layC o T1) := by
  unfold f_Pa_readGroup at h
  refine Eq.trans (o_iload_n d_Pa_readGroup_0 rfl) ?_
  refine Eq.trans (o_bipush (v := 8) d_Pa_readGroup_1 (by decide)) ?_
  refine s_icmp_lt (t := 11) d_Pa_readGroup_3 (by decide) h (fun h => ?_) (fun h => ?_)
  · refine Eq.trans (o_aload_n d_Pa_readGroup_11 rfl) ?_
    refine Eq.trans (o_dup d_Pa_readGroup_12 rfl) ?_
    refine s_get d_Pa_readGroup_13 pF_Pa_15 (zC_Pa_at o) h (fun x1 h => ?_)
    refine Eq.trans (o_iconst (v := 1) d_Pa_readGroup_16 (by decide)) ?_
    refine Eq.trans (o_iadd d_Pa_readGroup_17) ?_
    refine s_put d_Pa_readGroup_18 pF_Pa_15 (zC_Pa_at o) h (fun T h => ?_)
    refine Eq.trans (o_aload_n d_Pa_readGroup_21 rfl) ?_
    obtain ⟨x2, T2, h1, h⟩ := w_C_of h
    refine s_cV0i d_Pa_readGroup_22 pM_Pa_53 (Nat.le_of_ble_eq_true rfl) (obC_4 o) (c_Pa_peek D (by omega) o _ _ _ h1) ?_
    replace h1 := trivial; revert h; generalize T2 = T; intro h
    refine Eq.trans (o_bipush (v := 63) d_Pa_readGroup_25 (by decide)) ?_
    refine s_icmp_ne (t := 49) d_Pa_readGroup_27 (by decide) h (fun h => ?_) (fun h => ?_)
    · refine Eq.trans (o_aload_n d_Pa_readGroup_49 rfl) ?_
      refine s_get d_Pa_readGroup_50 pF_Pa_18 (zC_Pa_groups o) h (fun x3 h => ?_)
      refine Eq.trans (o_bipush (v := 6) d_Pa_readGroup_53 (by decide)) ?_
      refine s_icmp_lt (t := 65) d_Pa_readGroup_55 (by decide) h (fun h => ?_) (fun h => ?_)
      · refine Eq.trans (o_aload_n d_Pa_readGroup_65 rfl) ?_
        refine Eq.trans (o_dup d_Pa_readGroup_66 rfl) ?_
        refine s_get d_Pa_readGroup_67 pF_Pa_18 (zC_Pa_groups o) h (fun x4 h => ?_)
        refine Eq.trans (o_iconst (v := 1) d_Pa_readGroup_70 (by decide)) ?_
        refine Eq.trans (o_iadd d_Pa_readGroup_71) ?_
        refine s_put d_Pa_readGroup_72 pF_Pa_18 (zC_Pa_groups o) h (fun T h => ?_)
        refine Eq.trans (o_aload_nR d_Pa_readGroup_75 rfl) ?_
        refine Eq.trans (o_aload_n d_Pa_readGroup_76 rfl) ?_
        refine s_get d_Pa_readGroup_77 pF_Pa_18 (zC_Pa_groups o) h (fun x5 h => ?_)
        obtain ⟨p6, e9, h2⟩ := w_nn_of h
        clear h; subst e9; have h := h2; clear h2
        refine s_d d_Pa_readGroup_80 pF_Pa_92 (dyC o) h (fun T h => ?_)
        exact c_Pa_readGroup_83 D hD o G hG0 hG1 hG2 _ _ _ _ _ _ h
      · refine Eq.trans (o_aload_n d_Pa_readGroup_58 rfl) ?_
        obtain ⟨u9, T2, h1, h⟩ := w_C_of h
        refine s_cV0v d_Pa_readGroup_59 pM_Pa_47 (Nat.le_of_ble_eq_true rfl) (obC_4 o) (c_Pa_fail D (by omega) o _ _ _ h1) ?_
        replace h1 := trivial; revert h; generalize T2 = T; intro h
        refine Eq.trans (o_goto (t := 83) d_Pa_readGroup_62 (by decide)) ?_
        exact c_Pa_readGroup_83 D hD o G hG0 hG1 hG2 _ _ _ _ _ _ h
    · refine Eq.trans (o_aload_n d_Pa_readGroup_30 rfl) ?_
      refine Eq.trans (o_dup d_Pa_readGroup_31 rfl) ?_
      refine s_get d_Pa_readGroup_32 pF_Pa_15 (zC_Pa_at o) h (fun x7 h => ?_)
      refine Eq.trans (o_iconst (v := 1) d_Pa_readGroup_35 (by decide)) ?_
      refine Eq.trans (o_iadd d_Pa_readGroup_36) ?_
      refine s_put d_Pa_readGroup_37 pF_Pa_15 (zC_Pa_at o) h (fun T h => ?_)
      refine Eq.trans (o_aload_n d_Pa_readGroup_40 rfl) ?_
      refine Eq.trans (o_bipush (v := 58) d_Pa_readGroup_41 (by decide)) ?_
      obtain ⟨u9, T2, h1, h⟩ := w_C_of h
      refine s_cV1v d_Pa_readGroup_43 pM_Pa_89 (Nat.le_of_ble_eq_true rfl) (obC_4 o) (c_Pa_expect D (by omega) o _ _ _ _ h1) ?_
      replace h1 := trivial; revert h; generalize T2 = T; intro h
      refine Eq.trans (o_goto (t := 83) d_Pa_readGroup_46 (by decide)) ?_
      exact c_Pa_readGroup_83 D hD o G hG0 hG1 hG2 _ _ _ _ _ _ h
  · refine Eq.trans (o_aload_n d_Pa_readGroup_6 rfl) ?_
    obtain ⟨u9, T2, h1, h⟩ := w_C_of h
    refine s_cV0v d_Pa_readGroup_7 pM_Pa_47 (Nat.le_of_ble_eq_true rfl) (obC_4 o) (c_Pa_fail D (by omega) o _ _ _ h1) ?_
    replace h1 := trivial; revert h; generalize T2 = T; intro h
    exact s_vret d_Pa_readGroup_10 rfl h
theorem c_Pa_readGroup (D : Nat) (hD : 6 ≤ D) (o : Nat) (G : Nat → Option Nat → Int32 → qW (Option Nat)) (hG0 : ∀ (p : Option Nat) (x : Int32) (T T1 : qT) (v : Option Nat), G 0 p x T = some (v, T1) → q_ev q_Mt D 24 [.ref (o + 4), .int x] (layC o T) = some (.inl (some (va_rf v)), layC o T1)) (hG1 : ∀ (p : Option Nat) (x : Int32) (T T1 : qT) (v : Option Nat), G 1 p x T = some (v, T1) → q_ev q_Mt D 26 [.ref (o + 4), .int x] (layC o T) = some (.inl (some (va_rf v)), layC o T1)) (hG2 : ∀ (p : Option Nat) (x : Int32) (T T1 : qT) (v : Option Nat), G 2 p x T = some (v, T1) → q_ev q_Mt D 27 [.ref (o + 4), va_rf p, .int x] (layC o T) = some (.inl (none), layC o T1)) (a1 : (Option Nat)) (a2 : Int32) (T T1 : qT) (v : Unit) (h : f_Pa_readGroup o G a1 a2 T = some (v, T1)) : q_ev q_Mt (D + 1) 27 [.ref (o + 4), va_rf a1, .int a2] (layC o T) = some (.inl (none), layC o T1) := by
  rw [o_ev (M := q_mPa_readGroup) (lo := [some (.ref (o + 4)), some (va_rf a1), some (.int a2), none]) rfl (by cases a1 <;> exact Nat.le_of_ble_eq_true rfl) (by cases a1 <;> rfl)]
  exact c_Pa_readGroup_0 D (by omega) o G hG0 hG1 hG2 a1 a2 T T1 v h
noncomputable def g_rd (o : Nat) : Nat → Nat → Option Nat → Int32 → qW (Option Nat)
  | 0 => fun _ _ _ => w_no
  | d + 1 => fun t p x => match t with
    | 0 => f_Pa_readChoice o (g_rd o d) x
    | 1 => f_Pa_readRepeat o (g_rd o d) x
    | 2 => w_C (f_Pa_readGroup o (g_rd o d) p x) fun _ => w_pure none
    | _ => w_no
theorem c_g_rd (o : Nat) : ∀ d D : Nat, d + 6 ≤ D → (∀ (p : Option Nat) (x : Int32) (T T1 : qT) (v : Option Nat), g_rd o d 0 p x T = some (v, T1) → q_ev q_Mt D 24 [.ref (o + 4), .int x] (layC o T) = some (.inl (some (va_rf v)), layC o T1)) ∧ (∀ (p : Option Nat) (x : Int32) (T T1 : qT) (v : Option Nat), g_rd o d 1 p x T = some (v, T1) → q_ev q_Mt D 26 [.ref (o + 4), .int x] (layC o T) = some (.inl (some (va_rf v)), layC o T1)) ∧ (∀ (p : Option Nat) (x : Int32) (T T1 : qT) (v : Option Nat), g_rd o d 2 p x T = some (v, T1) → q_ev q_Mt D 27 [.ref (o + 4), va_rf p, .int x] (layC o T) = some (.inl (none), layC o T1)) := by
  intro d
  induction d with
  | zero => intro D hD; exact ⟨fun p x T T1 v h => (by cases h), fun p x T T1 v h => (by cases h), fun p x T T1 v h => (by cases h)⟩
  | succ d ih =>
    intro D hD
    obtain ⟨D, rfl⟩ : ∃ D', D = D' + 1 := ⟨D - 1, by omega⟩
    obtain ⟨i0, i1, i2⟩ := ih D (by omega)
    refine ⟨fun p x T T1 v h => ?_, fun p x T T1 v h => ?_, fun p x T T1 v h => ?_⟩
    · exact c_Pa_readChoice D (by omega) o (g_rd o d) i0 i1 i2 x T T1 v h
    · exact c_Pa_readRepeat D (by omega) o (g_rd o d) i0 i1 i2 x T T1 v h
    · obtain ⟨u9, T2, h1, h⟩ := w_C_of h
      cases h
      exact c_Pa_readGroup D (by omega) o (g_rd o d) i0 i1 i2 p x T _ u9 h1
noncomputable def k_Ar_fill3_6 (o : Nat) (v1 : Int64) (v3 : Int32) (v4 : Int32) : qW (qJ ⊕ Unit) :=
  w_if (v4 ≤ v3) (
    w_rt ()) (
    w_l 192 v3 v1 <|
    w_go 6 [.long v1, .int (v3 + 1), .int v4] [])
noncomputable def k_Ar_fill3_0 (o : Nat) (a2 : Int64) : qW (qJ ⊕ Unit) :=
  w_go 6 [.long a2, .int 0, .int 192] []
noncomputable def b_Ar_fill3 (o : Nat) : qJ → qW (qJ ⊕ Unit) := fun x => match x with
  | (0, [.long a2], []) => k_Ar_fill3_0 o a2
  | (6, [.long v1, .int v3, .int v4], []) => k_Ar_fill3_6 o v1 v3 v4
  | _ => w_no
noncomputable def f_Ar_fill3 (o : Nat) (a2 : Int64) : qW Unit := w_fix (b_Ar_fill3 o) (0, [.long a2], [])
set_option maxRecDepth 100000 in
set_option maxHeartbeats 4000000 in
theorem c_Ar_fill3_6 (D : Nat) (hD : 0 ≤ D) (o : Nat) (n : Nat) (ih_6 : ∀ (v1 : Int64) (v3 : Int32) (v4 : Int32) (e2 : Option Value) (T T2 : qT) (v : Unit), w_run (b_Ar_fill3 o) n (6, [.long v1, .int v3, .int v4], []) T = some (v, T2) → q_out (q_ev q_Mt D) q_mAr_fill2 (6, [some (.ref (o + 3)), some (.long v1), e2, some (.int v3), some (.int v4)], [], layC o T) = some (.inl (none), layC o T2)) (v1 : Int64) (v3 : Int32) (v4 : Int32) (e2 : Option Value) (T T1 T2 : qT) (rr : qJ ⊕ Unit) (v : Unit) (h : k_Ar_fill3_6 o v1 v3 v4 T = some (rr, T1)) (hE : w_end (b_Ar_fill3 o) n rr T1 = some (v, T2)) : q_out (q_ev q_Mt D) q_mAr_fill2 (6, [some (.ref (o + 3)), some (.long v1), e2, some (.int v3), some (.int v4)], [], layC o T) = some (.inl (none), layC o T2) := by
  unfold k_Ar_fill3_6 at h
  refine Eq.trans (o_iload_n d_Ar_fill2_6 rfl) ?_
  refine Eq.trans (o_iload d_Ar_fill2_7 rfl) ?_
  refine s_icmp_ge (t := 22) d_Ar_fill2_9 (by decide) h (fun h => ?_) (fun h => ?_)
  · exact s_vretJ d_Ar_fill2_22 rfl h hE
  · refine Eq.trans (o_aload_n d_Ar_fill2_12 rfl) ?_
    refine Eq.trans (o_iload_n d_Ar_fill2_13 rfl) ?_
    refine Eq.trans (o_lload_n d_Ar_fill2_14 rfl) ?_
    refine s_last d_Ar_fill2_15 (rC_3 o) h (fun T h => ?_)
    refine Eq.trans (o_iinc (v := (v3 + 1)) (lo' := [some (.ref (o + 3)), some (.long v1), (q_dk e2), some (.int (v3 + 1)), some (.int v4)]) d_Ar_fill2_16 rfl (by rw [show Int32.ofInt 1 = 1 from by decide]) (Nat.le_of_ble_eq_true rfl) ((q_st1_dk (j := 2) (Nat.le_of_ble_eq_true rfl)).trans rfl)) ?_
    refine Eq.trans (o_goto (t := 6) d_Ar_fill2_19 (by decide)) ?_
    exact ih_6 _ _ _ _ _ _ _ (s_jump h hE)
set_option maxRecDepth 100000 in
set_option maxHeartbeats 4000000 in
theorem c_Ar_fill3_0 (D : Nat) (hD : 0 ≤ D) (o : Nat) (n : Nat) (ih_6 : ∀ (v1 : Int64) (v3 : Int32) (v4 : Int32) (e2 : Option Value) (T T2 : qT) (v : Unit), w_run (b_Ar_fill3 o) n (6, [.long v1, .int v3, .int v4], []) T = some (v, T2) → q_out (q_ev q_Mt D) q_mAr_fill2 (6, [some (.ref (o + 3)), some (.long v1), e2, some (.int v3), some (.int v4)], [], layC o T) = some (.inl (none), layC o T2)) (a2 : Int64)  (T T1 T2 : qT) (rr : qJ ⊕ Unit) (v : Unit) (h : k_Ar_fill3_0 o a2 T = some (rr, T1)) (hE : w_end (b_Ar_fill3 o) n rr T1 = some (v, T2)) : q_out (q_ev q_Mt D) q_mAr_fill2 (0, [some (.ref (o + 3)), some (.long a2), none, none, none], [], layC o T) = some (.inl (none), layC o T2) := by
  unfold k_Ar_fill3_0 at h
  refine Eq.trans (o_iconst (v := 0) d_Ar_fill2_0 (by decide)) ?_
  refine Eq.trans (o_istore_n (lo' := [some (.ref (o + 3)), some (.long a2), none, some (.int 0), none]) d_Ar_fill2_1 (Nat.le_of_ble_eq_true rfl) rfl) ?_
  refine Eq.trans (o_aload_n d_Ar_fill2_2 rfl) ?_
  refine Eq.trans (o_alen (v := 192) d_Ar_fill2_3 ((rC_3 o _).1) (by decide) (by decide)) ?_
  refine Eq.trans (o_istore (lo' := [some (.ref (o + 3)), some (.long a2), none, some (.int 0), some (.int 192)]) d_Ar_fill2_4 (Nat.le_of_ble_eq_true rfl) rfl) ?_
  exact ih_6 _ _ _ _ _ _ _ (s_jump h hE)
theorem c_Ar_fill3_lp (D : Nat) (hD : 0 ≤ D) (o : Nat) : ∀ n : Nat, (∀ (v1 : Int64) (v3 : Int32) (v4 : Int32) (e2 : Option Value) (T T2 : qT) (v : Unit), w_run (b_Ar_fill3 o) n (6, [.long v1, .int v3, .int v4], []) T = some (v, T2) → q_out (q_ev q_Mt D) q_mAr_fill2 (6, [some (.ref (o + 3)), some (.long v1), e2, some (.int v3), some (.int v4)], [], layC o T) = some (.inl (none), layC o T2)) := by
  intro n
  induction n with
  | zero => exact (fun v1 v3 v4 e2 T T2 v h => by cases h)
  | succ n ih =>
    have ih_6 := ih
    · intro v1 v3 v4 e2 T T2 v h
      obtain ⟨rr, T1, hb, hE⟩ := w_run_succ h
      exact c_Ar_fill3_6 D hD o n ih_6 v1 v3 v4 e2 T T1 T2 rr v hb hE
theorem c_Ar_fill3 (D : Nat) (hD : 1 ≤ D) (o : Nat) (a2 : Int64) (T T2 : qT) (v : Unit) (h : f_Ar_fill3 o a2 T = some (v, T2)) : q_ev q_Mt D 124 [.ref (o + 3), .long a2] (layC o T) = some (.inl (none), layC o T2) := by
  obtain ⟨D, rfl⟩ : ∃ D', D = D' + 1 := ⟨D - 1, by omega⟩
  obtain ⟨n, hn⟩ := w_fix_iff.mp h
  cases n with
  | zero => cases hn
  | succ n =>
    obtain ⟨rr, T1, hb, hE⟩ := w_run_succ hn
    have hl := c_Ar_fill3_lp D (by omega) o n
    have ih_6 := hl
    rw [o_ev (M := q_mAr_fill2) (lo := [some (.ref (o + 3)), some (.long a2), none, none, none]) rfl (Nat.le_of_ble_eq_true rfl) rfl]
    exact c_Ar_fill3_0 D (by omega) o n ih_6 a2 T T1 T2 rr v hb hE
