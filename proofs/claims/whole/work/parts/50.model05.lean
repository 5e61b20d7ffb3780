noncomputable def f_Md_feed (a1 : Int32) : qW Int32 :=
  w_s 0 0 <|
  w_S 29 fun x1 =>
  w_if (x1 = 0) (
    w_ret .boolean 0) (
    w_if (255 < a1) (
      w_ret .boolean 0) (
      w_S 31 fun x2 =>
      w_if (¬ x2 = 200) (
        w_S 31 fun x3 =>
        w_a 20 200 x3 a1 <|
        w_S 31 fun x4 =>
        w_s 31 ((x4 + 1)) <|
        w_z 33 0 <|
        w_ret .boolean 1) (
        w_ret .boolean 0)))
set_option maxRecDepth 100000 in
set_option maxHeartbeats 4000000 in
theorem c_Md_feed_0 (D : Nat) (hD : 0 ≤ D) (r : Nat) (a1 : Int32)  (T T1 : qT) (v : Int32) (h : f_Md_feed a1 T = some (v, T1)) : q_out (q_ev q_Mt D) q_mMd_feed (0, [some (.ref (r + 0)), some (.int a1)], [], layM r T) = some (.inl (some (.int v)), layM r T1) := by
  unfold f_Md_feed at h
  refine Eq.trans (o_aload_n d_Md_feed_0 rfl) ?_
  refine Eq.trans (o_iconst (v := 0) d_Md_feed_1 (by decide)) ?_
  refine s_put d_Md_feed_2 pF_Md_103 (zM_Md_thrown r) h (fun T h => ?_)
  refine Eq.trans (o_aload_n d_Md_feed_5 rfl) ?_
  refine s_get d_Md_feed_6 pF_Md_212 (zM_Md_begun r) h (fun x1 h => ?_)
  refine s_if_eq (t := 29) d_Md_feed_9 (by decide) h (fun h => ?_) (fun h => ?_)
  · refine Eq.trans (o_iconst (v := 0) d_Md_feed_29 (by decide)) ?_
    exact s_iret d_Md_feed_30 rfl h
  · refine Eq.trans (o_iload_n d_Md_feed_12 rfl) ?_
    refine Eq.trans (o_sipush (v := 255) d_Md_feed_13 (by decide)) ?_
    refine s_icmp_gt (t := 29) d_Md_feed_16 (by decide) h (fun h => ?_) (fun h => ?_)
    · refine Eq.trans (o_iconst (v := 0) d_Md_feed_29 (by decide)) ?_
      exact s_iret d_Md_feed_30 rfl h
    · refine Eq.trans (o_aload_n d_Md_feed_19 rfl) ?_
      refine s_get d_Md_feed_20 pF_Md_222 (zM_Md_fed r) h (fun x2 h => ?_)
      refine Eq.trans (o_sipush (v := 200) d_Md_feed_23 (by decide)) ?_
      refine s_icmp_ne (t := 31) d_Md_feed_26 (by decide) h (fun h => ?_) (fun h => ?_)
      · refine Eq.trans (o_aload_n d_Md_feed_31 rfl) ?_
        refine s_ref d_Md_feed_32 pF_Md_73 (zM_Md_word r) ?_
        refine Eq.trans (o_aload_n d_Md_feed_35 rfl) ?_
        refine s_get d_Md_feed_36 pF_Md_222 (zM_Md_fed r) h (fun x3 h => ?_)
        refine Eq.trans (o_iload_n d_Md_feed_39 rfl) ?_
        refine s_iast d_Md_feed_40 (rM_20 r) h (fun T h => ?_)
        refine Eq.trans (o_aload_n d_Md_feed_41 rfl) ?_
        refine Eq.trans (o_dup d_Md_feed_42 rfl) ?_
        refine s_get d_Md_feed_43 pF_Md_222 (zM_Md_fed r) h (fun x4 h => ?_)
        refine Eq.trans (o_iconst (v := 1) d_Md_feed_46 (by decide)) ?_
        refine Eq.trans (o_iadd d_Md_feed_47) ?_
        refine s_put d_Md_feed_48 pF_Md_222 (zM_Md_fed r) h (fun T h => ?_)
        refine Eq.trans (o_aload_n d_Md_feed_51 rfl) ?_
        refine Eq.trans (o_iconst (v := 0) d_Md_feed_52 (by decide)) ?_
        refine s_putZ d_Md_feed_53 pF_Md_225 (zM_Md_known r) h (fun T h => ?_)
        refine Eq.trans (o_iconst (v := 1) d_Md_feed_56 (by decide)) ?_
        exact s_iret d_Md_feed_57 rfl h
      · refine Eq.trans (o_iconst (v := 0) d_Md_feed_29 (by decide)) ?_
        exact s_iret d_Md_feed_30 rfl h
theorem c_Md_feed (D : Nat) (hD : 1 ≤ D) (r : Nat) (a1 : Int32) (T T1 : qT) (v : Int32) (h : f_Md_feed a1 T = some (v, T1)) : q_ev q_Mt D 107 [.ref (r + 0), .int a1] (layM r T) = some (.inl (some (.int v)), layM r T1) := by
  obtain ⟨D, rfl⟩ : ∃ D', D = D' + 1 := ⟨D - 1, by omega⟩
  rw [o_ev (M := q_mMd_feed) (lo := [some (.ref (r + 0)), some (.int a1)]) rfl (Nat.le_of_ble_eq_true rfl) rfl]
  exact c_Md_feed_0 D (by omega) r a1 T T1 v h
noncomputable def f_Md_isMatch (a1 : Int32) : qW Int32 :=
  w_S 30 fun x1 =>
  w_if (¬ x1 = 0) (
    w_ret .boolean 1) (
    w_S 31 fun x2 =>
    w_if (¬ a1 = x2) (
      w_ret .boolean 0) (
      w_ret .boolean 1))
set_option maxRecDepth 100000 in
set_option maxHeartbeats 4000000 in
theorem c_Md_isMatch_0 (D : Nat) (hD : 0 ≤ D) (r : Nat) (a1 : Int32)  (T T1 : qT) (v : Int32) (h : f_Md_isMatch a1 T = some (v, T1)) : q_out (q_ev q_Mt D) q_mMd_isMatch (0, [some (.ref (r + 0)), some (.int a1)], [], layM r T) = some (.inl (some (.int v)), layM r T1) := by
  unfold f_Md_isMatch at h
  refine Eq.trans (o_aload_n d_Md_isMatch_0 rfl) ?_
  refine s_get d_Md_isMatch_1 pF_Md_219 (zM_Md_search r) h (fun x1 h => ?_)
  refine s_if_ne (t := 15) d_Md_isMatch_4 (by decide) h (fun h => ?_) (fun h => ?_)
  · refine Eq.trans (o_iconst (v := 1) d_Md_isMatch_15 (by decide)) ?_
    refine Eq.trans (o_goto (t := 20) d_Md_isMatch_16 (by decide)) ?_
    exact s_iret d_Md_isMatch_20 rfl h
  · refine Eq.trans (o_iload_n d_Md_isMatch_7 rfl) ?_
    refine Eq.trans (o_aload_n d_Md_isMatch_8 rfl) ?_
    refine s_get d_Md_isMatch_9 pF_Md_222 (zM_Md_fed r) h (fun x2 h => ?_)
    refine s_icmp_ne (t := 19) d_Md_isMatch_12 (by decide) h (fun h => ?_) (fun h => ?_)
    · refine Eq.trans (o_iconst (v := 0) d_Md_isMatch_19 (by decide)) ?_
      exact s_iret d_Md_isMatch_20 rfl h
    · refine Eq.trans (o_iconst (v := 1) d_Md_isMatch_15 (by decide)) ?_
      refine Eq.trans (o_goto (t := 20) d_Md_isMatch_16 (by decide)) ?_
      exact s_iret d_Md_isMatch_20 rfl h
theorem c_Md_isMatch (D : Nat) (hD : 1 ≤ D) (r : Nat) (a1 : Int32) (T T1 : qT) (v : Int32) (h : f_Md_isMatch a1 T = some (v, T1)) : q_ev q_Mt D 114 [.ref (r + 0), .int a1] (layM r T) = some (.inl (some (.int v)), layM r T1) := by
  obtain ⟨D, rfl⟩ : ∃ D', D = D' + 1 := ⟨D - 1, by omega⟩
  rw [o_ev (M := q_mMd_isMatch) (lo := [some (.ref (r + 0)), some (.int a1)]) rfl (Nat.le_of_ble_eq_true rfl) rfl]
  exact c_Md_isMatch_0 D (by omega) r a1 T T1 v h
noncomputable def f_Md_reaches (a1 : Int32) (a2 : Int32) : qW Int32 :=
  w_A 21 1120 (((7 * a1) + (a2 / 32))) fun x1 =>
  w_if (¬ ((((x1 : Int32) >>> (((a2 - a2 / 32 * 32) : Int32) &&& 31)) &&& 1)) = 1) (
    w_ret .boolean 0) (
    w_ret .boolean 1)
set_option maxRecDepth 100000 in
set_option maxHeartbeats 4000000 in
theorem c_Md_reaches_0 (D : Nat) (hD : 0 ≤ D) (r : Nat) (a1 : Int32) (a2 : Int32)  (T T1 : qT) (v : Int32) (h : f_Md_reaches a1 a2 T = some (v, T1)) : q_out (q_ev q_Mt D) q_mMd_reaches (0, [some (.ref (r + 0)), some (.int a1), some (.int a2)], [], layM r T) = some (.inl (some (.int v)), layM r T1) := by
  unfold f_Md_reaches at h
  refine Eq.trans (o_aload_n d_Md_reaches_0 rfl) ?_
  refine s_ref d_Md_reaches_1 pF_Md_76 (zM_Md_can r) ?_
  refine Eq.trans (o_bipush (v := 7) d_Md_reaches_4 (by decide)) ?_
  refine Eq.trans (o_iload_n d_Md_reaches_6 rfl) ?_
  refine Eq.trans (o_imul d_Md_reaches_7) ?_
  refine Eq.trans (o_iload_n d_Md_reaches_8 rfl) ?_
  refine Eq.trans (o_bipush (v := 32) d_Md_reaches_9 (by decide)) ?_
  refine Eq.trans (o_idiv d_Md_reaches_11 (by decide)) ?_
  refine Eq.trans (o_iadd d_Md_reaches_12) ?_
  refine s_iald d_Md_reaches_13 (rM_21 r) h (fun x1 h => ?_)
  refine Eq.trans (o_iload_n d_Md_reaches_14 rfl) ?_
  refine Eq.trans (o_bipush (v := 32) d_Md_reaches_15 (by decide)) ?_
  refine Eq.trans (o_irem d_Md_reaches_17 (by decide)) ?_
  refine Eq.trans (o_ishr d_Md_reaches_18) ?_
  refine Eq.trans (o_iconst (v := 1) d_Md_reaches_19 (by decide)) ?_
  refine Eq.trans (o_iand d_Md_reaches_20) ?_
  refine Eq.trans (o_iconst (v := 1) d_Md_reaches_21 (by decide)) ?_
  refine s_icmp_ne (t := 29) d_Md_reaches_22 (by decide) h (fun h => ?_) (fun h => ?_)
  · refine Eq.trans (o_iconst (v := 0) d_Md_reaches_29 (by decide)) ?_
    exact s_iret d_Md_reaches_30 rfl h
  · refine Eq.trans (o_iconst (v := 1) d_Md_reaches_25 (by decide)) ?_
    refine Eq.trans (o_goto (t := 30) d_Md_reaches_26 (by decide)) ?_
    exact s_iret d_Md_reaches_30 rfl h
theorem c_Md_reaches (D : Nat) (hD : 1 ≤ D) (r : Nat) (a1 : Int32) (a2 : Int32) (T T1 : qT) (v : Int32) (h : f_Md_reaches a1 a2 T = some (v, T1)) : q_ev q_Mt D 111 [.ref (r + 0), .int a1, .int a2] (layM r T) = some (.inl (some (.int v)), layM r T1) := by
  obtain ⟨D, rfl⟩ : ∃ D', D = D' + 1 := ⟨D - 1, by omega⟩
  rw [o_ev (M := q_mMd_reaches) (lo := [some (.ref (r + 0)), some (.int a1), some (.int a2)]) rfl (Nat.le_of_ble_eq_true rfl) rfl]
  exact c_Md_reaches_0 D (by omega) r a1 a2 T T1 v h
noncomputable def f_Md_takes (a1 : Int32) (a2 : Int32) : qW Int32 :=
  w_S 31 fun x1 =>
  w_if (x1 ≤ a2) (
    w_ret .boolean 0) (
    w_A 16 160 a1 fun x2 =>
    w_A 20 200 a2 fun x3 =>
    w_C (f_Md_has x2 x3) fun x4 =>
    w_if (x4 = 0) (
      w_ret .boolean 0) (
      w_ret .boolean 1))
set_option maxRecDepth 100000 in
set_option maxHeartbeats 4000000 in
theorem c_Md_takes_0 (D : Nat) (hD : 1 ≤ D) (r : Nat) (a1 : Int32) (a2 : Int32)  (T T1 : qT) (v : Int32) (h : f_Md_takes a1 a2 T = some (v, T1)) : q_out (q_ev q_Mt D) q_mMd_takes (0, [some (.ref (r + 0)), some (.int a1), some (.int a2)], [], layM r T) = some (.inl (some (.int v)), layM r T1) := by
  unfold f_Md_takes at h
  refine Eq.trans (o_iload_n d_Md_takes_0 rfl) ?_
  refine Eq.trans (o_aload_n d_Md_takes_1 rfl) ?_
  refine s_get d_Md_takes_2 pF_Md_222 (zM_Md_fed r) h (fun x1 h => ?_)
  refine s_icmp_ge (t := 31) d_Md_takes_5 (by decide) h (fun h => ?_) (fun h => ?_)
  · refine Eq.trans (o_iconst (v := 0) d_Md_takes_31 (by decide)) ?_
    exact s_iret d_Md_takes_32 rfl h
  · refine Eq.trans (o_aload_n d_Md_takes_8 rfl) ?_
    refine Eq.trans (o_aload_n d_Md_takes_9 rfl) ?_
    refine s_ref d_Md_takes_10 pF_Md_61 (zM_Md_x r) ?_
    refine Eq.trans (o_iload_n d_Md_takes_13 rfl) ?_
    refine s_iald d_Md_takes_14 (rM_16 r) h (fun x2 h => ?_)
    refine Eq.trans (o_aload_n d_Md_takes_15 rfl) ?_
    refine s_ref d_Md_takes_16 pF_Md_73 (zM_Md_word r) ?_
    refine Eq.trans (o_iload_n d_Md_takes_19 rfl) ?_
    refine s_iald d_Md_takes_20 (rM_20 r) h (fun x3 h => ?_)
    obtain ⟨x4, T2, h1, h⟩ := w_C_of h
    refine s_cV2i d_Md_takes_21 pM_Md_122 (Nat.le_of_ble_eq_true rfl) (obM_0 r) (c_Md_has D (by omega) r _ _ _ _ _ h1) ?_
    replace h1 := trivial; revert h; generalize T2 = T; intro h
    refine s_if_eq (t := 31) d_Md_takes_24 (by decide) h (fun h => ?_) (fun h => ?_)
    · refine Eq.trans (o_iconst (v := 0) d_Md_takes_31 (by decide)) ?_
      exact s_iret d_Md_takes_32 rfl h
    · refine Eq.trans (o_iconst (v := 1) d_Md_takes_27 (by decide)) ?_
      refine Eq.trans (o_goto (t := 32) d_Md_takes_28 (by decide)) ?_
      exact s_iret d_Md_takes_32 rfl h
theorem c_Md_takes (D : Nat) (hD : 2 ≤ D) (r : Nat) (a1 : Int32) (a2 : Int32) (T T1 : qT) (v : Int32) (h : f_Md_takes a1 a2 T = some (v, T1)) : q_ev q_Mt D 113 [.ref (r + 0), .int a1, .int a2] (layM r T) = some (.inl (some (.int v)), layM r T1) := by
  obtain ⟨D, rfl⟩ : ∃ D', D = D' + 1 := ⟨D - 1, by omega⟩
  rw [o_ev (M := q_mMd_takes) (lo := [some (.ref (r + 0)), some (.int a1), some (.int a2)]) rfl (Nat.le_of_ble_eq_true rfl) rfl]
  exact c_Md_takes_0 D (by omega) r a1 a2 T T1 v h
noncomputable def f_Md_may (a1 : Int32) (a2 : Int32) : qW Int32 :=
  w_A 15 160 a1 fun x1 =>
  w_if (¬ x1 = 0) (
    w_A 15 160 a1 fun x2 =>
    w_if (¬ x2 = 1) (
      w_A 15 160 a1 fun x3 =>
      w_if (¬ x3 = 4) (
        w_A 15 160 a1 fun x4 =>
        w_if (¬ x4 = 2) (
          w_C (f_Md_reaches ((a1 + 1)) a2) fun x5 =>
          w_ret .boolean x5) (
          w_A 16 160 a1 fun x6 =>
          w_C (f_Md_reaches x6 a2) fun x7 =>
          w_ret .boolean x7)) (
        w_C (f_Md_isMatch a2) fun x8 =>
        w_ret .boolean x8)) (
      w_A 16 160 a1 fun x9 =>
      w_C (f_Md_reaches x9 a2) fun x10 =>
      w_if (¬ x10 = 0) (
        w_ret .boolean 1) (
        w_A 17 160 a1 fun x11 =>
        w_C (f_Md_reaches x11 a2) fun x12 =>
        w_if (x12 = 0) (
          w_ret .boolean 0) (
          w_ret .boolean 1)))) (
    w_C (f_Md_takes a1 a2) fun x13 =>
    w_if (x13 = 0) (
      w_ret .boolean 0) (
      w_C (f_Md_reaches ((a1 + 1)) ((a2 + 1))) fun x14 =>
      w_if (x14 = 0) (
        w_ret .boolean 0) (
        w_ret .boolean 1)))
set_option maxRecDepth 100000 in
set_option maxHeartbeats 4000000 in
theorem c_Md_may_0 (D : Nat) (hD : 2 ≤ D) (r : Nat) (a1 : Int32) (a2 : Int32)  (T T1 : qT) (v : Int32) (h : f_Md_may a1 a2 T = some (v, T1)) : q_out (q_ev q_Mt D) q_mMd_may (0, [some (.ref (r + 0)), some (.int a1), some (.int a2)], [], layM r T) = some (.inl (some (.int v)), layM r T1) := by
  unfold f_Md_may at h
  refine Eq.trans (o_aload_n d_Md_may_0 rfl) ?_
  refine s_ref d_Md_may_1 pF_Md_58 (zM_Md_code r) ?_
  refine Eq.trans (o_iload_n d_Md_may_4 rfl) ?_
  refine s_iald d_Md_may_5 (rM_15 r) h (fun x1 h => ?_)
  refine s_if_ne (t := 37) d_Md_may_6 (by decide) h (fun h => ?_) (fun h => ?_)
  · refine Eq.trans (o_aload_n d_Md_may_37 rfl) ?_
    refine s_ref d_Md_may_38 pF_Md_58 (zM_Md_code r) ?_
    refine Eq.trans (o_iload_n d_Md_may_41 rfl) ?_
    refine s_iald d_Md_may_42 (rM_15 r) h (fun x2 h => ?_)
    refine Eq.trans (o_iconst (v := 1) d_Md_may_43 (by decide)) ?_
    refine s_icmp_ne (t := 81) d_Md_may_44 (by decide) h (fun h => ?_) (fun h => ?_)
    · refine Eq.trans (o_aload_n d_Md_may_81 rfl) ?_
      refine s_ref d_Md_may_82 pF_Md_58 (zM_Md_code r) ?_
      refine Eq.trans (o_iload_n d_Md_may_85 rfl) ?_
      refine s_iald d_Md_may_86 (rM_15 r) h (fun x3 h => ?_)
      refine Eq.trans (o_iconst (v := 4) d_Md_may_87 (by decide)) ?_
      refine s_icmp_ne (t := 99) d_Md_may_88 (by decide) h (fun h => ?_) (fun h => ?_)
      · refine Eq.trans (o_aload_n d_Md_may_99 rfl) ?_
        refine s_ref d_Md_may_100 pF_Md_58 (zM_Md_code r) ?_
        refine Eq.trans (o_iload_n d_Md_may_103 rfl) ?_
        refine s_iald d_Md_may_104 (rM_15 r) h (fun x4 h => ?_)
        refine Eq.trans (o_iconst (v := 2) d_Md_may_105 (by decide)) ?_
        refine s_icmp_ne (t := 123) d_Md_may_106 (by decide) h (fun h => ?_) (fun h => ?_)
        · refine Eq.trans (o_aload_n d_Md_may_123 rfl) ?_
          refine Eq.trans (o_iload_n d_Md_may_124 rfl) ?_
          refine Eq.trans (o_iconst (v := 1) d_Md_may_125 (by decide)) ?_
          refine Eq.trans (o_iadd d_Md_may_126) ?_
          refine Eq.trans (o_iload_n d_Md_may_127 rfl) ?_
          obtain ⟨x5, T2, h1, h⟩ := w_C_of h
          refine s_cV2i d_Md_may_128 pM_Md_231 (Nat.le_of_ble_eq_true rfl) (obM_0 r) (c_Md_reaches D (by omega) r _ _ _ _ _ h1) ?_
          replace h1 := trivial; revert h; generalize T2 = T; intro h
          exact s_iret d_Md_may_131 rfl h
        · refine Eq.trans (o_aload_n d_Md_may_109 rfl) ?_
          refine Eq.trans (o_aload_n d_Md_may_110 rfl) ?_
          refine s_ref d_Md_may_111 pF_Md_61 (zM_Md_x r) ?_
          refine Eq.trans (o_iload_n d_Md_may_114 rfl) ?_
          refine s_iald d_Md_may_115 (rM_16 r) h (fun x6 h => ?_)
          refine Eq.trans (o_iload_n d_Md_may_116 rfl) ?_
          obtain ⟨x7, T2, h1, h⟩ := w_C_of h
          refine s_cV2i d_Md_may_117 pM_Md_231 (Nat.le_of_ble_eq_true rfl) (obM_0 r) (c_Md_reaches D (by omega) r _ _ _ _ _ h1) ?_
          replace h1 := trivial; revert h; generalize T2 = T; intro h
          refine Eq.trans (o_goto (t := 131) d_Md_may_120 (by decide)) ?_
          exact s_iret d_Md_may_131 rfl h
      · refine Eq.trans (o_aload_n d_Md_may_91 rfl) ?_
        refine Eq.trans (o_iload_n d_Md_may_92 rfl) ?_
        obtain ⟨x8, T2, h1, h⟩ := w_C_of h
        refine s_cV1i d_Md_may_93 pM_Md_234 (Nat.le_of_ble_eq_true rfl) (obM_0 r) (c_Md_isMatch D (by omega) r _ _ _ _ h1) ?_
        replace h1 := trivial; revert h; generalize T2 = T; intro h
        refine Eq.trans (o_goto (t := 131) d_Md_may_96 (by decide)) ?_
        exact s_iret d_Md_may_131 rfl h
    · refine Eq.trans (o_aload_n d_Md_may_47 rfl) ?_
      refine Eq.trans (o_aload_n d_Md_may_48 rfl) ?_
      refine s_ref d_Md_may_49 pF_Md_61 (zM_Md_x r) ?_
      refine Eq.trans (o_iload_n d_Md_may_52 rfl) ?_
      refine s_iald d_Md_may_53 (rM_16 r) h (fun x9 h => ?_)
      refine Eq.trans (o_iload_n d_Md_may_54 rfl) ?_
      obtain ⟨x10, T2, h1, h⟩ := w_C_of h
      refine s_cV2i d_Md_may_55 pM_Md_231 (Nat.le_of_ble_eq_true rfl) (obM_0 r) (c_Md_reaches D (by omega) r _ _ _ _ _ h1) ?_
      replace h1 := trivial; revert h; generalize T2 = T; intro h
      refine s_if_ne (t := 75) d_Md_may_58 (by decide) h (fun h => ?_) (fun h => ?_)
      · refine Eq.trans (o_iconst (v := 1) d_Md_may_75 (by decide)) ?_
        refine Eq.trans (o_goto (t := 80) d_Md_may_76 (by decide)) ?_
        exact s_iret d_Md_may_80 rfl h
      · refine Eq.trans (o_aload_n d_Md_may_61 rfl) ?_
        refine Eq.trans (o_aload_n d_Md_may_62 rfl) ?_
        refine s_ref d_Md_may_63 pF_Md_64 (zM_Md_y r) ?_
        refine Eq.trans (o_iload_n d_Md_may_66 rfl) ?_
        refine s_iald d_Md_may_67 (rM_17 r) h (fun x11 h => ?_)
        refine Eq.trans (o_iload_n d_Md_may_68 rfl) ?_
        obtain ⟨x12, T2, h1, h⟩ := w_C_of h
        refine s_cV2i d_Md_may_69 pM_Md_231 (Nat.le_of_ble_eq_true rfl) (obM_0 r) (c_Md_reaches D (by omega) r _ _ _ _ _ h1) ?_
        replace h1 := trivial; revert h; generalize T2 = T; intro h
        refine s_if_eq (t := 79) d_Md_may_72 (by decide) h (fun h => ?_) (fun h => ?_)
        · refine Eq.trans (o_iconst (v := 0) d_Md_may_79 (by decide)) ?_
          exact s_iret d_Md_may_80 rfl h
        · refine Eq.trans (o_iconst (v := 1) d_Md_may_75 (by decide)) ?_
          refine Eq.trans (o_goto (t := 80) d_Md_may_76 (by decide)) ?_
          exact s_iret d_Md_may_80 rfl h
  · refine Eq.trans (o_aload_n d_Md_may_9 rfl) ?_
    refine Eq.trans (o_iload_n d_Md_may_10 rfl) ?_
    refine Eq.trans (o_iload_n d_Md_may_11 rfl) ?_
    obtain ⟨x13, T2, h1, h⟩ := w_C_of h
    refine s_cV2i d_Md_may_12 pM_Md_228 (Nat.le_of_ble_eq_true rfl) (obM_0 r) (c_Md_takes D (by omega) r _ _ _ _ _ h1) ?_
    replace h1 := trivial; revert h; generalize T2 = T; intro h
    refine s_if_eq (t := 35) d_Md_may_15 (by decide) h (fun h => ?_) (fun h => ?_)
    · refine Eq.trans (o_iconst (v := 0) d_Md_may_35 (by decide)) ?_
      exact s_iret d_Md_may_36 rfl h
    · refine Eq.trans (o_aload_n d_Md_may_18 rfl) ?_
      refine Eq.trans (o_iload_n d_Md_may_19 rfl) ?_
      refine Eq.trans (o_iconst (v := 1) d_Md_may_20 (by decide)) ?_
      refine Eq.trans (o_iadd d_Md_may_21) ?_
      refine Eq.trans (o_iload_n d_Md_may_22 rfl) ?_
      refine Eq.trans (o_iconst (v := 1) d_Md_may_23 (by decide)) ?_
      refine Eq.trans (o_iadd d_Md_may_24) ?_
      obtain ⟨x14, T2, h1, h⟩ := w_C_of h
      refine s_cV2i d_Md_may_25 pM_Md_231 (Nat.le_of_ble_eq_true rfl) (obM_0 r) (c_Md_reaches D (by omega) r _ _ _ _ _ h1) ?_
      replace h1 := trivial; revert h; generalize T2 = T; intro h
      refine s_if_eq (t := 35) d_Md_may_28 (by decide) h (fun h => ?_) (fun h => ?_)
      · refine Eq.trans (o_iconst (v := 0) d_Md_may_35 (by decide)) ?_
        exact s_iret d_Md_may_36 rfl h
      · refine Eq.trans (o_iconst (v := 1) d_Md_may_31 (by decide)) ?_
        refine Eq.trans (o_goto (t := 36) d_Md_may_32 (by decide)) ?_
        exact s_iret d_Md_may_36 rfl h
theorem c_Md_may (D : Nat) (hD : 3 ≤ D) (r : Nat) (a1 : Int32) (a2 : Int32) (T T1 : qT) (v : Int32) (h : f_Md_may a1 a2 T = some (v, T1)) : q_ev q_Mt D 112 [.ref (r + 0), .int a1, .int a2] (layM r T) = some (.inl (some (.int v)), layM r T1) := by
  obtain ⟨D, rfl⟩ : ∃ D', D = D' + 1 := ⟨D - 1, by omega⟩
  rw [o_ev (M := q_mMd_may) (lo := [some (.ref (r + 0)), some (.int a1), some (.int a2)]) rfl (Nat.le_of_ble_eq_true rfl) rfl]
  exact c_Md_may_0 D (by omega) r a1 a2 T T1 v h
noncomputable def k_Md_choose_294 (v2 : Int32) (v3 : Int32) (s0 : Int32) (s1 : Int32) : qW (qJ ⊕ Int32) :=
  w_a 26 330 s1 s0 <|
  w_S 40 fun x1 =>
  w_a 27 330 x1 v3 <|
  w_S 40 fun x2 =>
  w_s 40 ((x2 + 1)) <|
  w_go 42 [.int v2] []
noncomputable def k_Md_choose_264 (v2 : Int32) (v3 : Int32) : qW (qJ ⊕ Int32) :=
  w_S 40 fun x1 =>
  w_A 15 160 v3 fun x2 =>
  w_if (¬ x2 = 2) (
    k_Md_choose_294 v2 v3 ((v3 + 1)) x1) (
    w_A 16 160 v3 fun x3 =>
    k_Md_choose_294 v2 v3 x3 x1)
noncomputable def k_Md_choose_166 (v2 : Int32) (v3 : Int32) (s0 : Int32) (s1 : Int32) : qW (qJ ⊕ Int32) :=
  w_a 24 160 s1 ((vp_nar .boolean s0)) <|
  w_A 15 160 v3 fun x1 =>
  w_if (¬ x1 = 1) (
    w_A 15 160 v3 fun x2 =>
    w_if (x2 = 2) (
      k_Md_choose_264 v2 v3) (
      w_A 15 160 v3 fun x3 =>
      w_if (¬ x3 = 3) (
        w_go 42 [.int v2] []) (
        k_Md_choose_264 v2 v3))) (
    w_S 40 fun x4 =>
    w_A 17 160 v3 fun x5 =>
    w_a 26 330 x4 x5 <|
    w_S 40 fun x6 =>
    w_a 27 330 x6 v3 <|
    w_S 40 fun x7 =>
    w_A 16 160 v3 fun x8 =>
    w_a 26 330 ((x7 + 1)) x8 <|
    w_S 40 fun x9 =>
    w_a 27 330 ((x9 + 1)) v3 <|
    w_S 40 fun x10 =>
    w_s 40 ((x10 + 2)) <|
    w_go 42 [.int v2] [])
noncomputable def k_Md_choose_161 (v2 : Int32) (v3 : Int32) (s0 : Int32) : qW (qJ ⊕ Int32) :=
  k_Md_choose_166 v2 v3 1 s0
noncomputable def k_Md_choose_138 (v2 : Int32) (v3 : Int32) : qW (qJ ⊕ Int32) :=
  w_A 24 160 v3 fun x1 =>
  w_if (¬ x1 = 0) (
    k_Md_choose_161 v2 v3 v3) (
    w_A 15 160 v3 fun x2 =>
    w_if (¬ x2 = 0) (
      k_Md_choose_166 v2 v3 0 v3) (
      k_Md_choose_161 v2 v3 v3))
noncomputable def k_Md_choose_118 (v2 : Int32) (v3 : Int32) : qW (qJ ⊕ Int32) :=
  w_A 15 160 v3 fun x1 =>
  w_if (¬ x1 = 0) (
    k_Md_choose_138 v2 v3) (
    w_C (f_Md_may v3 v2) fun x2 =>
    w_if (x2 = 0) (
      k_Md_choose_138 v2 v3) (
      w_ri .int v3))
noncomputable def k_Md_choose_42 (v2 : Int32) : qW (qJ ⊕ Int32) :=
  w_S 40 fun x1 =>
  w_if (x1 ≤ 0) (
    w_ri .int ((-1))) (
    w_S 40 fun x2 =>
    w_s 40 ((x2 - 1)) <|
    w_S 40 fun x3 =>
    w_A 26 330 x3 fun x4 =>
    w_A 28 160 x4 fun x5 =>
    w_if (¬ x5 = 0) (
      w_go 42 [.int v2] []) (
      w_a 28 160 x4 ((vp_nar .boolean 1)) <|
      w_S 40 fun x6 =>
      w_A 27 330 x6 fun x7 =>
      w_a 29 160 x4 x7 <|
      w_A 15 160 x4 fun x8 =>
      w_if (¬ x8 = 4) (
        k_Md_choose_118 v2 x4) (
        w_C (f_Md_isMatch v2) fun x9 =>
        w_if (¬ x9 = 0) (
          w_ri .int x4) (
          k_Md_choose_118 v2 x4))))
noncomputable def k_Md_choose_2 (v1 : Int32) (v2 : Int32) (v3 : Int32) : qW (qJ ⊕ Int32) :=
  w_S 22 fun x1 =>
  w_if (x1 ≤ v3) (
    w_s 40 1 <|
    w_a 26 330 0 v1 <|
    w_a 27 330 0 ((-1)) <|
    w_go 42 [.int v2] []) (
    w_a 28 160 v3 ((vp_nar .boolean 0)) <|
    w_go 2 [.int v1, .int v2, .int (v3 + 1)] [])
noncomputable def k_Md_choose_0 (a1 : Int32) (a2 : Int32) : qW (qJ ⊕ Int32) :=
  w_go 2 [.int a1, .int a2, .int 0] []
noncomputable def b_Md_choose : qJ → qW (qJ ⊕ Int32) := fun x => match x with
  | (0, [.int a1, .int a2], []) => k_Md_choose_0 a1 a2
  | (2, [.int v1, .int v2, .int v3], []) => k_Md_choose_2 v1 v2 v3
  | (42, [.int v2], []) => k_Md_choose_42 v2
  | _ => w_no
noncomputable def f_Md_choose (a1 : Int32) (a2 : Int32) : qW Int32 := w_fix b_Md_choose (0, [.int a1, .int a2], [])
set_option maxRecDepth 100000 in
set_option maxHeartbeats 4000000 in
theorem c_Md_choose_294 (D : Nat) (hD : 3 ≤ D) (r : Nat) (n : Nat) (ih_2 : ∀ (v1 : Int32) (v2 : Int32) (v3 : Int32)  (T T2 : qT) (v : Int32), w_run b_Md_choose n (2, [.int v1, .int v2, .int v3], []) T = some (v, T2) → q_out (q_ev q_Mt D) q_mMd_choose (2, [some (.ref (r + 0)), some (.int v1), some (.int v2), some (.int v3)], [], layM r T) = some (.inl (some (.int v)), layM r T2)) (ih_42 : ∀ (v2 : Int32) (e1 : Option Value) (e3 : Option Value) (T T2 : qT) (v : Int32), w_run b_Md_choose n (42, [.int v2], []) T = some (v, T2) → q_out (q_ev q_Mt D) q_mMd_choose (42, [some (.ref (r + 0)), e1, some (.int v2), e3], [], layM r T) = some (.inl (some (.int v)), layM r T2)) (v2 : Int32) (v3 : Int32) (s0 : Int32) (s1 : Int32) (e1 : Option Value) (T T1 T2 : qT) (rr : qJ ⊕ Int32) (v : Int32) (h : k_Md_choose_294 v2 v3 s0 s1 T = some (rr, T1)) (hE : w_end b_Md_choose n rr T1 = some (v, T2)) : q_out (q_ev q_Mt D) q_mMd_choose (294, [some (.ref (r + 0)), e1, some (.int v2), some (.int v3)], [.int s0, .int s1, .ref (r + 26)], layM r T) = some (.inl (some (.int v)), layM r T2) := by
  unfold k_Md_choose_294 at h
  refine s_iast d_Md_choose_294 (rM_26 r) h (fun T h => ?_)
  refine Eq.trans (o_aload_n d_Md_choose_295 rfl) ?_
  refine s_ref d_Md_choose_296 pF_Md_94 (zM_Md_from r) ?_
  refine Eq.trans (o_aload_n d_Md_choose_299 rfl) ?_
  refine s_get d_Md_choose_300 pF_Md_240 (zM_Md_piled r) h (fun x1 h => ?_)
  refine Eq.trans (o_iload_n d_Md_choose_303 rfl) ?_
  refine s_iast d_Md_choose_304 (rM_27 r) h (fun T h => ?_)
  refine Eq.trans (o_aload_n d_Md_choose_305 rfl) ?_
  refine Eq.trans (o_dup d_Md_choose_306 rfl) ?_
  refine s_get d_Md_choose_307 pF_Md_240 (zM_Md_piled r) h (fun x2 h => ?_)
  refine Eq.trans (o_iconst (v := 1) d_Md_choose_310 (by decide)) ?_
  refine Eq.trans (o_iadd d_Md_choose_311) ?_
  refine s_put d_Md_choose_312 pF_Md_240 (zM_Md_piled r) h (fun T h => ?_)
  refine Eq.trans (o_goto (t := 42) d_Md_choose_315 (by decide)) ?_
  exact ih_42 _ _ _ _ _ _ (s_jump h hE)
set_option maxRecDepth 100000 in
set_option maxHeartbeats 4000000 in
theorem c_Md_choose_264 (D : Nat) (hD : 3 ≤ D) (r : Nat) (n : Nat) (ih_2 : ∀ (v1 : Int32) (v2 : Int32) (v3 : Int32)  (T T2 : qT) (v : Int32), w_run b_Md_choose n (2, [.int v1, .int v2, .int v3], []) T = some (v, T2) → q_out (q_ev q_Mt D) q_mMd_choose (2, [some (.ref (r + 0)), some (.int v1), some (.int v2), some (.int v3)], [], layM r T) = some (.inl (some (.int v)), layM r T2)) (ih_42 : ∀ (v2 : Int32) (e1 : Option Value) (e3 : Option Value) (T T2 : qT) (v : Int32), w_run b_Md_choose n (42, [.int v2], []) T = some (v, T2) → q_out (q_ev q_Mt D) q_mMd_choose (42, [some (.ref (r + 0)), e1, some (.int v2), e3], [], layM r T) = some (.inl (some (.int v)), layM r T2)) (v2 : Int32) (v3 : Int32) (e1 : Option Value) (T T1 T2 : qT) (rr : qJ ⊕ Int32) (v : Int32) (h : k_Md_choose_264 v2 v3 T = some (rr, T1)) (hE : w_end b_Md_choose n rr T1 = some (v, T2)) : q_out (q_ev q_Mt D) q_mMd_choose (264, [some (.ref (r + 0)), e1, some (.int v2), some (.int v3)], [], layM r T) = some (.inl (some (.int v)), layM r T2) := by
  unfold k_Md_choose_264 at h
  refine Eq.trans (o_aload_n d_Md_choose_264 rfl) ?_
  refine s_ref d_Md_choose_265 pF_Md_91 (zM_Md_pile r) ?_
  refine Eq.trans (o_aload_n d_Md_choose_268 rfl) ?_
  refine s_get d_Md_choose_269 pF_Md_240 (zM_Md_piled r) h (fun x1 h => ?_)
  refine Eq.trans (o_aload_n d_Md_choose_272 rfl) ?_
  refine s_ref d_Md_choose_273 pF_Md_58 (zM_Md_code r) ?_
  refine Eq.trans (o_iload_n d_Md_choose_276 rfl) ?_
  refine s_iald d_Md_choose_277 (rM_15 r) h (fun x2 h => ?_)
  refine Eq.trans (o_iconst (v := 2) d_Md_choose_278 (by decide)) ?_
  refine s_icmp_ne (t := 291) d_Md_choose_279 (by decide) h (fun h => ?_) (fun h => ?_)
  · refine Eq.trans (o_iload_n d_Md_choose_291 rfl) ?_
    refine Eq.trans (o_iconst (v := 1) d_Md_choose_292 (by decide)) ?_
    refine Eq.trans (o_iadd d_Md_choose_293) ?_
    exact c_Md_choose_294 D hD r n ih_2 ih_42 _ _ _ _ _ _ _ _ _ _ h hE
  · refine Eq.trans (o_aload_n d_Md_choose_282 rfl) ?_
    refine s_ref d_Md_choose_283 pF_Md_61 (zM_Md_x r) ?_
    refine Eq.trans (o_iload_n d_Md_choose_286 rfl) ?_
    refine s_iald d_Md_choose_287 (rM_16 r) h (fun x3 h => ?_)
    refine Eq.trans (o_goto (t := 294) d_Md_choose_288 (by decide)) ?_
    exact c_Md_choose_294 D hD r n ih_2 ih_42 _ _ _ _ _ _ _ _ _ _ h hE
set_option maxRecDepth 100000 in
set_option maxHeartbeats 4000000 in
theorem c_Md_choose_166 (D : Nat) (hD : 3 ≤ D) (r : Nat) (n : Nat) (ih_2 : ∀ (v1 : Int32) (v2 : Int32) (v3 : Int32)  (T T2 : qT) (v : Int32), w_run b_Md_choose n (2, [.int v1, .int v2, .int v3], []) T = some (v, T2) → q_out (q_ev q_Mt D) q_mMd_choose (2, [some (.ref (r + 0)), some (.int v1), some (.int v2), some (.int v3)], [], layM r T) = some (.inl (some (.int v)), layM r T2)) (ih_42 : ∀ (v2 : Int32) (e1 : Option Value) (e3 : Option Value) (T T2 : qT) (v : Int32), w_run b_Md_choose n (42, [.int v2], []) T = some (v, T2) → q_out (q_ev q_Mt D) q_mMd_choose (42, [some (.ref (r + 0)), e1, some (.int v2), e3], [], layM r T) = some (.inl (some (.int v)), layM r T2)) (v2 : Int32) (v3 : Int32) (s0 : Int32) (s1 : Int32) (e1 : Option Value) (T T1 T2 : qT) (rr : qJ ⊕ Int32) (v : Int32) (h : k_Md_choose_166 v2 v3 s0 s1 T = some (rr, T1)) (hE : w_end b_Md_choose n rr T1 = some (v, T2)) : q_out (q_ev q_Mt D) q_mMd_choose (166, [some (.ref (r + 0)), e1, some (.int v2), some (.int v3)], [.int s0, .int s1, .ref (r + 24)], layM r T) = some (.inl (some (.int v)), layM r T2) := by
  unfold k_Md_choose_166 at h
  refine s_zast d_Md_choose_166 (rM_24 r) h (fun T h => ?_)
  refine Eq.trans (o_aload_n d_Md_choose_167 rfl) ?_
  refine s_ref d_Md_choose_168 pF_Md_58 (zM_Md_code r) ?_
  refine Eq.trans (o_iload_n d_Md_choose_171 rfl) ?_
  refine s_iald d_Md_choose_172 (rM_15 r) h (fun x1 h => ?_)
  refine Eq.trans (o_iconst (v := 1) d_Md_choose_173 (by decide)) ?_
  refine s_icmp_ne (t := 244) d_Md_choose_174 (by decide) h (fun h => ?_) (fun h => ?_)
  · refine Eq.trans (o_aload_n d_Md_choose_244 rfl) ?_
    refine s_ref d_Md_choose_245 pF_Md_58 (zM_Md_code r) ?_
    refine Eq.trans (o_iload_n d_Md_choose_248 rfl) ?_
    refine s_iald d_Md_choose_249 (rM_15 r) h (fun x2 h => ?_)
    refine Eq.trans (o_iconst (v := 2) d_Md_choose_250 (by decide)) ?_
    refine s_icmp_eq (t := 264) d_Md_choose_251 (by decide) h (fun h => ?_) (fun h => ?_)
    · exact c_Md_choose_264 D hD r n ih_2 ih_42 _ _ _ _ _ _ _ _ h hE
    · refine Eq.trans (o_aload_n d_Md_choose_254 rfl) ?_
      refine s_ref d_Md_choose_255 pF_Md_58 (zM_Md_code r) ?_
      refine Eq.trans (o_iload_n d_Md_choose_258 rfl) ?_
      refine s_iald d_Md_choose_259 (rM_15 r) h (fun x3 h => ?_)
      refine Eq.trans (o_iconst (v := 3) d_Md_choose_260 (by decide)) ?_
      refine s_icmp_ne (t := 315) d_Md_choose_261 (by decide) h (fun h => ?_) (fun h => ?_)
      · refine Eq.trans (o_goto (t := 42) d_Md_choose_315 (by decide)) ?_
        exact ih_42 _ _ _ _ _ _ (s_jump h hE)
      · exact c_Md_choose_264 D hD r n ih_2 ih_42 _ _ _ _ _ _ _ _ h hE
  · refine Eq.trans (o_aload_n d_Md_choose_177 rfl) ?_
    refine s_ref d_Md_choose_178 pF_Md_91 (zM_Md_pile r) ?_
    refine Eq.trans (o_aload_n d_Md_choose_181 rfl) ?_
    refine s_get d_Md_choose_182 pF_Md_240 (zM_Md_piled r) h (fun x4 h => ?_)
    refine Eq.trans (o_aload_n d_Md_choose_185 rfl) ?_
    refine s_ref d_Md_choose_186 pF_Md_64 (zM_Md_y r) ?_
    refine Eq.trans (o_iload_n d_Md_choose_189 rfl) ?_
    refine s_iald d_Md_choose_190 (rM_17 r) h (fun x5 h => ?_)
    refine s_iast d_Md_choose_191 (rM_26 r) h (fun T h => ?_)
    refine Eq.trans (o_aload_n d_Md_choose_192 rfl) ?_
    refine s_ref d_Md_choose_193 pF_Md_94 (zM_Md_from r) ?_
    refine Eq.trans (o_aload_n d_Md_choose_196 rfl) ?_
    refine s_get d_Md_choose_197 pF_Md_240 (zM_Md_piled r) h (fun x6 h => ?_)
    refine Eq.trans (o_iload_n d_Md_choose_200 rfl) ?_
    refine s_iast d_Md_choose_201 (rM_27 r) h (fun T h => ?_)
    refine Eq.trans (o_aload_n d_Md_choose_202 rfl) ?_
    refine s_ref d_Md_choose_203 pF_Md_91 (zM_Md_pile r) ?_
    refine Eq.trans (o_aload_n d_Md_choose_206 rfl) ?_
    refine s_get d_Md_choose_207 pF_Md_240 (zM_Md_piled r) h (fun x7 h => ?_)
    refine Eq.trans (o_iconst (v := 1) d_Md_choose_210 (by decide)) ?_
    refine Eq.trans (o_iadd d_Md_choose_211) ?_
    refine Eq.trans (o_aload_n d_Md_choose_212 rfl) ?_
    refine s_ref d_Md_choose_213 pF_Md_61 (zM_Md_x r) ?_
    refine Eq.trans (o_iload_n d_Md_choose_216 rfl) ?_
    refine s_iald d_Md_choose_217 (rM_16 r) h (fun x8 h => ?_)
    refine s_iast d_Md_choose_218 (rM_26 r) h (fun T h => ?_)
    refine Eq.trans (o_aload_n d_Md_choose_219 rfl) ?_
    refine s_ref d_Md_choose_220 pF_Md_94 (zM_Md_from r) ?_
    refine Eq.trans (o_aload_n d_Md_choose_223 rfl) ?_
    refine s_get d_Md_choose_224 pF_Md_240 (zM_Md_piled r) h (fun x9 h => ?_)
    refine Eq.trans (o_iconst (v := 1) d_Md_choose_227 (by decide)) ?_
    refine Eq.trans (o_iadd d_Md_choose_228) ?_
    refine Eq.trans (o_iload_n d_Md_choose_229 rfl) ?_
    refine s_iast d_Md_choose_230 (rM_27 r) h (fun T h => ?_)
    refine Eq.trans (o_aload_n d_Md_choose_231 rfl) ?_
    refine Eq.trans (o_dup d_Md_choose_232 rfl) ?_
    refine s_get d_Md_choose_233 pF_Md_240 (zM_Md_piled r) h (fun x10 h => ?_)
    refine Eq.trans (o_iconst (v := 2) d_Md_choose_236 (by decide)) ?_
    refine Eq.trans (o_iadd d_Md_choose_237) ?_
    refine s_put d_Md_choose_238 pF_Md_240 (zM_Md_piled r) h (fun T h => ?_)
    refine Eq.trans (o_goto (t := 315) d_Md_choose_241 (by decide)) ?_
    refine Eq.trans (o_goto (t := 42) d_Md_choose_315 (by decide)) ?_
    exact ih_42 _ _ _ _ _ _ (s_jump h hE)
set_option maxRecDepth 100000 in
set_option maxHeartbeats 4000000 in
theorem c_Md_choose_161 (D : Nat) (hD : 3 ≤ D) (r : Nat) (n : Nat) (ih_2 : ∀ (v1 : Int32) (v2 : Int32) (v3 : Int32)  (T T2 : qT) (v : Int32), w_run b_Md_choose n (2, [.int v1, .int v2, .int v3], []) T = some (v, T2) → q_out (q_ev q_Mt D) q_mMd_choose (2, [some (.ref (r + 0)), some (.int v1), some (.int v2), some (.int v3)], [], layM r T) = some (.inl (some (.int v)), layM r T2)) (ih_42 : ∀ (v2 : Int32) (e1 : Option Value) (e3 : Option Value) (T T2 : qT) (v : Int32), w_run b_Md_choose n (42, [.int v2], []) T = some (v, T2) → q_out (q_ev q_Mt D) q_mMd_choose (42, [some (.ref (r + 0)), e1, some (.int v2), e3], [], layM r T) = some (.inl (some (.int v)), layM r T2)) (v2 : Int32) (v3 : Int32) (s0 : Int32) (e1 : Option Value) (T T1 T2 : qT) (rr : qJ ⊕ Int32) (v : Int32) (h : k_Md_choose_161 v2 v3 s0 T = some (rr, T1)) (hE : w_end b_Md_choose n rr T1 = some (v, T2)) : q_out (q_ev q_Mt D) q_mMd_choose (161, [some (.ref (r + 0)), e1, some (.int v2), some (.int v3)], [.int s0, .ref (r + 24)], layM r T) = some (.inl (some (.int v)), layM r T2) := by
  unfold k_Md_choose_161 at h
  refine Eq.trans (o_iconst (v := 1) d_Md_choose_161 (by decide)) ?_
  refine Eq.trans (o_goto (t := 166) d_Md_choose_162 (by decide)) ?_
  exact c_Md_choose_166 D hD r n ih_2 ih_42 _ _ _ _ _ _ _ _ _ _ h hE
set_option maxRecDepth 100000 in
set_option maxHeartbeats 4000000 in
theorem c_Md_choose_138 (D : Nat) (hD : 3 ≤ D) (r : Nat) (n : Nat) (ih_2 : ∀ (v1 : Int32) (v2 : Int32) (v3 : Int32)  (T T2 : qT) (v : Int32), w_run b_Md_choose n (2, [.int v1, .int v2, .int v3], []) T = some (v, T2) → q_out (q_ev q_Mt D) q_mMd_choose (2, [some (.ref (r + 0)), some (.int v1), some (.int v2), some (.int v3)], [], layM r T) = some (.inl (some (.int v)), layM r T2)) (ih_42 : ∀ (v2 : Int32) (e1 : Option Value) (e3 : Option Value) (T T2 : qT) (v : Int32), w_run b_Md_choose n (42, [.int v2], []) T = some (v, T2) → q_out (q_ev q_Mt D) q_mMd_choose (42, [some (.ref (r + 0)), e1, some (.int v2), e3], [], layM r T) = some (.inl (some (.int v)), layM r T2)) (v2 : Int32) (v3 : Int32) (e1 : Option Value) (T T1 T2 : qT) (rr : qJ ⊕ Int32) (v : Int32) (h : k_Md_choose_138 v2 v3 T = some (rr, T1)) (hE : w_end b_Md_choose n rr T1 = some (v, T2)) : q_out (q_ev q_Mt D) q_mMd_choose (138, [some (.ref (r + 0)), e1, some (.int v2), some (.int v3)], [], layM r T) = some (.inl (some (.int v)), layM r T2) := by
  unfold k_Md_choose_138 at h
  refine Eq.trans (o_aload_n d_Md_choose_138 rfl) ?_
  refine s_ref d_Md_choose_139 pF_Md_85 (zM_Md_here r) ?_
  refine Eq.trans (o_iload_n d_Md_choose_142 rfl) ?_
  refine Eq.trans (o_aload_n d_Md_choose_143 rfl) ?_
  refine s_ref d_Md_choose_144 pF_Md_85 (zM_Md_here r) ?_
  refine Eq.trans (o_iload_n d_Md_choose_147 rfl) ?_
  refine s_zald d_Md_choose_148 (rM_24 r) h (fun x1 h => ?_)
  refine s_if_ne (t := 161) d_Md_choose_149 (by decide) h (fun h => ?_) (fun h => ?_)
  · exact c_Md_choose_161 D hD r n ih_2 ih_42 _ _ _ _ _ _ _ _ _ h hE
  · refine Eq.trans (o_aload_n d_Md_choose_152 rfl) ?_
    refine s_ref d_Md_choose_153 pF_Md_58 (zM_Md_code r) ?_
    refine Eq.trans (o_iload_n d_Md_choose_156 rfl) ?_
    refine s_iald d_Md_choose_157 (rM_15 r) h (fun x2 h => ?_)
    refine s_if_ne (t := 165) d_Md_choose_158 (by decide) h (fun h => ?_) (fun h => ?_)
    · refine Eq.trans (o_iconst (v := 0) d_Md_choose_165 (by decide)) ?_
      exact c_Md_choose_166 D hD r n ih_2 ih_42 _ _ _ _ _ _ _ _ _ _ h hE
    · exact c_Md_choose_161 D hD r n ih_2 ih_42 _ _ _ _ _ _ _ _ _ h hE
set_option maxRecDepth 100000 in
set_option maxHeartbeats 4000000 in
theorem c_Md_choose_118 (D : Nat) (hD : 3 ≤ D) (r : Nat) (n : Nat) (ih_2 : ∀ (v1 : Int32) (v2 : Int32) (v3 : Int32)  (T T2 : qT) (v : Int32), w_run b_Md_choose n (2, [.int v1, .int v2, .int v3], []) T = some (v, T2) → q_out (q_ev q_Mt D) q_mMd_choose (2, [some (.ref (r + 0)), some (.int v1), some (.int v2), some (.int v3)], [], layM r T) = some (.inl (some (.int v)), layM r T2)) (ih_42 : ∀ (v2 : Int32) (e1 : Option Value) (e3 : Option Value) (T T2 : qT) (v : Int32), w_run b_Md_choose n (42, [.int v2], []) T = some (v, T2) → q_out (q_ev q_Mt D) q_mMd_choose (42, [some (.ref (r + 0)), e1, some (.int v2), e3], [], layM r T) = some (.inl (some (.int v)), layM r T2)) (v2 : Int32) (v3 : Int32) (e1 : Option Value) (T T1 T2 : qT) (rr : qJ ⊕ Int32) (v : Int32) (h : k_Md_choose_118 v2 v3 T = some (rr, T1)) (hE : w_end b_Md_choose n rr T1 = some (v, T2)) : q_out (q_ev q_Mt D) q_mMd_choose (118, [some (.ref (r + 0)), e1, some (.int v2), some (.int v3)], [], layM r T) = some (.inl (some (.int v)), layM r T2) := by
  unfold k_Md_choose_118 at h
  refine Eq.trans (o_aload_n d_Md_choose_118 rfl) ?_
  refine s_ref d_Md_choose_119 pF_Md_58 (zM_Md_code r) ?_
  refine Eq.trans (o_iload_n d_Md_choose_122 rfl) ?_
  refine s_iald d_Md_choose_123 (rM_15 r) h (fun x1 h => ?_)
  refine s_if_ne (t := 138) d_Md_choose_124 (by decide) h (fun h => ?_) (fun h => ?_)
  · exact c_Md_choose_138 D hD r n ih_2 ih_42 _ _ _ _ _ _ _ _ h hE
  · refine Eq.trans (o_aload_n d_Md_choose_127 rfl) ?_
    refine Eq.trans (o_iload_n d_Md_choose_128 rfl) ?_
    refine Eq.trans (o_iload_n d_Md_choose_129 rfl) ?_
    obtain ⟨x2, T2, h1, h⟩ := w_C_of h
    refine s_cV2i d_Md_choose_130 pM_Md_237 (Nat.le_of_ble_eq_true rfl) (obM_0 r) (c_Md_may D (by omega) r _ _ _ _ _ h1) ?_
    replace h1 := trivial; revert h; generalize T2 = T; intro h
    refine s_if_eq (t := 138) d_Md_choose_133 (by decide) h (fun h => ?_) (fun h => ?_)
    · exact c_Md_choose_138 D hD r n ih_2 ih_42 _ _ _ _ _ _ _ _ h hE
    · refine Eq.trans (o_iload_n d_Md_choose_136 rfl) ?_
      exact s_iretJ d_Md_choose_137 rfl h hE
set_option maxRecDepth 100000 in
set_option maxHeartbeats 4000000 in
theorem c_Md_choose_42 (D : Nat) (hD : 3 ≤ D) (r : Nat) (n : Nat) (ih_2 : ∀ (v1 : Int32) (v2 : Int32) (v3 : Int32)  (T T2 : qT) (v : Int32), w_run b_Md_choose n (2, [.int v1, .int v2, .int v3], []) T = some (v, T2) → q_out (q_ev q_Mt D) q_mMd_choose (2, [some (.ref (r + 0)), some (.int v1), some (.int v2), some (.int v3)], [], layM r T) = some (.inl (some (.int v)), layM r T2)) (ih_42 : ∀ (v2 : Int32) (e1 : Option Value) (e3 : Option Value) (T T2 : qT) (v : Int32), w_run b_Md_choose n (42, [.int v2], []) T = some (v, T2) → q_out (q_ev q_Mt D) q_mMd_choose (42, [some (.ref (r + 0)), e1, some (.int v2), e3], [], layM r T) = some (.inl (some (.int v)), layM r T2)) (v2 : Int32) (e1 : Option Value) (e3 : Option Value) (T T1 T2 : qT) (rr : qJ ⊕ Int32) (v : Int32) (h : k_Md_choose_42 v2 T = some (rr, T1)) (hE : w_end b_Md_choose n rr T1 = some (v, T2)) : q_out (q_ev q_Mt D) q_mMd_choose (42, [some (.ref (r + 0)), e1, some (.int v2), e3], [], layM r T) = some (.inl (some (.int v)), layM r T2) := by
  unfold k_Md_choose_42 at h
  refine Eq.trans (o_aload_n d_Md_choose_42 rfl) ?_
  refine s_get d_Md_choose_43 pF_Md_240 (zM_Md_piled r) h (fun x1 h => ?_)
  refine s_if_le (t := 318) d_Md_choose_46 (by decide) h (fun h => ?_) (fun h => ?_)
  · refine Eq.trans (o_iconst (v := (-1)) d_Md_choose_318 (by decide)) ?_
    exact s_iretJ d_Md_choose_319 rfl h hE
  · refine Eq.trans (o_aload_n d_Md_choose_49 rfl) ?_
    refine Eq.trans (o_dup d_Md_choose_50 rfl) ?_
    refine s_get d_Md_choose_51 pF_Md_240 (zM_Md_piled r) h (fun x2 h => ?_)
    refine Eq.trans (o_iconst (v := 1) d_Md_choose_54 (by decide)) ?_
    refine Eq.trans (o_isub d_Md_choose_55) ?_
    refine s_put d_Md_choose_56 pF_Md_240 (zM_Md_piled r) h (fun T h => ?_)
    refine Eq.trans (o_aload_n d_Md_choose_59 rfl) ?_
    refine s_ref d_Md_choose_60 pF_Md_91 (zM_Md_pile r) ?_
    refine Eq.trans (o_aload_n d_Md_choose_63 rfl) ?_
    refine s_get d_Md_choose_64 pF_Md_240 (zM_Md_piled r) h (fun x3 h => ?_)
    refine s_iald d_Md_choose_67 (rM_26 r) h (fun x4 h => ?_)
    refine Eq.trans (o_istore_n (lo' := [some (.ref (r + 0)), e1, some (.int v2), some (.int x4)]) d_Md_choose_68 (Nat.le_of_ble_eq_true rfl) rfl) ?_
    refine Eq.trans (o_aload_n d_Md_choose_69 rfl) ?_
    refine s_ref d_Md_choose_70 pF_Md_97 (zM_Md_seen r) ?_
    refine Eq.trans (o_iload_n d_Md_choose_73 rfl) ?_
    refine s_zald d_Md_choose_74 (rM_28 r) h (fun x5 h => ?_)
    refine s_if_ne (t := 315) d_Md_choose_75 (by decide) h (fun h => ?_) (fun h => ?_)
    · refine Eq.trans (o_goto (t := 42) d_Md_choose_315 (by decide)) ?_
      exact ih_42 _ _ _ _ _ _ (s_jump h hE)
    · refine Eq.trans (o_aload_n d_Md_choose_78 rfl) ?_
      refine s_ref d_Md_choose_79 pF_Md_97 (zM_Md_seen r) ?_
      refine Eq.trans (o_iload_n d_Md_choose_82 rfl) ?_
      refine Eq.trans (o_iconst (v := 1) d_Md_choose_83 (by decide)) ?_
      refine s_zast d_Md_choose_84 (rM_28 r) h (fun T h => ?_)
      refine Eq.trans (o_aload_n d_Md_choose_85 rfl) ?_
      refine s_ref d_Md_choose_86 pF_Md_100 (zM_Md_parent r) ?_
      refine Eq.trans (o_iload_n d_Md_choose_89 rfl) ?_
      refine Eq.trans (o_aload_n d_Md_choose_90 rfl) ?_
      refine s_ref d_Md_choose_91 pF_Md_94 (zM_Md_from r) ?_
      refine Eq.trans (o_aload_n d_Md_choose_94 rfl) ?_
      refine s_get d_Md_choose_95 pF_Md_240 (zM_Md_piled r) h (fun x6 h => ?_)
      refine s_iald d_Md_choose_98 (rM_27 r) h (fun x7 h => ?_)
      refine s_iast d_Md_choose_99 (rM_29 r) h (fun T h => ?_)
      refine Eq.trans (o_aload_n d_Md_choose_100 rfl) ?_
      refine s_ref d_Md_choose_101 pF_Md_58 (zM_Md_code r) ?_
      refine Eq.trans (o_iload_n d_Md_choose_104 rfl) ?_
      refine s_iald d_Md_choose_105 (rM_15 r) h (fun x8 h => ?_)
      refine Eq.trans (o_iconst (v := 4) d_Md_choose_106 (by decide)) ?_
      refine s_icmp_ne (t := 118) d_Md_choose_107 (by decide) h (fun h => ?_) (fun h => ?_)
      · exact c_Md_choose_118 D hD r n ih_2 ih_42 _ _ _ _ _ _ _ _ h hE
      · refine Eq.trans (o_aload_n d_Md_choose_110 rfl) ?_
        refine Eq.trans (o_iload_n d_Md_choose_111 rfl) ?_
        obtain ⟨x9, T2, h1, h⟩ := w_C_of h
        refine s_cV1i d_Md_choose_112 pM_Md_234 (Nat.le_of_ble_eq_true rfl) (obM_0 r) (c_Md_isMatch D (by omega) r _ _ _ _ h1) ?_
        replace h1 := trivial; revert h; generalize T2 = T; intro h
        refine s_if_ne (t := 136) d_Md_choose_115 (by decide) h (fun h => ?_) (fun h => ?_)
        · refine Eq.trans (o_iload_n d_Md_choose_136 rfl) ?_
          exact s_iretJ d_Md_choose_137 rfl h hE
        · exact c_Md_choose_118 D hD r n ih_2 ih_42 _ _ _ _ _ _ _ _ h hE
set_option maxRecDepth 100000 in
set_option maxHeartbeats 4000000 in
theorem c_Md_choose_2 (D : Nat) (hD : 3 ≤ D) (r : Nat) (n : Nat) (ih_2 : ∀ (v1 : Int32) (v2 : Int32) (v3 : Int32)  (T T2 : qT) (v : Int32), w_run b_Md_choose n (2, [.int v1, .int v2, .int v3], []) T = some (v, T2) → q_out (q_ev q_Mt D) q_mMd_choose (2, [some (.ref (r + 0)), some (.int v1), some (.int v2), some (.int v3)], [], layM r T) = some (.inl (some (.int v)), layM r T2)) (ih_42 : ∀ (v2 : Int32) (e1 : Option Value) (e3 : Option Value) (T T2 : qT) (v : Int32), w_run b_Md_choose n (42, [.int v2], []) T = some (v, T2) → q_out (q_ev q_Mt D) q_mMd_choose (42, [some (.ref (r + 0)), e1, some (.int v2), e3], [], layM r T) = some (.inl (some (.int v)), layM r T2)) (v1 : Int32) (v2 : Int32) (v3 : Int32)  (T T1 T2 : qT) (rr : qJ ⊕ Int32) (v : Int32) (h : k_Md_choose_2 v1 v2 v3 T = some (rr, T1)) (hE : w_end b_Md_choose n rr T1 = some (v, T2)) : q_out (q_ev q_Mt D) q_mMd_choose (2, [some (.ref (r + 0)), some (.int v1), some (.int v2), some (.int v3)], [], layM r T) = some (.inl (some (.int v)), layM r T2) := by
  unfold k_Md_choose_2 at h
  refine Eq.trans (o_iload_n d_Md_choose_2 rfl) ?_
  refine Eq.trans (o_aload_n d_Md_choose_3 rfl) ?_
  refine s_get d_Md_choose_4 pF_Md_109 (zM_Md_length r) h (fun x1 h => ?_)
  refine s_icmp_ge (t := 23) d_Md_choose_7 (by decide) h (fun h => ?_) (fun h => ?_)
  · refine Eq.trans (o_aload_n d_Md_choose_23 rfl) ?_
    refine Eq.trans (o_iconst (v := 1) d_Md_choose_24 (by decide)) ?_
    refine s_put d_Md_choose_25 pF_Md_240 (zM_Md_piled r) h (fun T h => ?_)
    refine Eq.trans (o_aload_n d_Md_choose_28 rfl) ?_
    refine s_ref d_Md_choose_29 pF_Md_91 (zM_Md_pile r) ?_
    refine Eq.trans (o_iconst (v := 0) d_Md_choose_32 (by decide)) ?_
    refine Eq.trans (o_iload_n d_Md_choose_33 rfl) ?_
    refine s_iast d_Md_choose_34 (rM_26 r) h (fun T h => ?_)
    refine Eq.trans (o_aload_n d_Md_choose_35 rfl) ?_
    refine s_ref d_Md_choose_36 pF_Md_94 (zM_Md_from r) ?_
    refine Eq.trans (o_iconst (v := 0) d_Md_choose_39 (by decide)) ?_
    refine Eq.trans (o_iconst (v := (-1)) d_Md_choose_40 (by decide)) ?_
    refine s_iast d_Md_choose_41 (rM_27 r) h (fun T h => ?_)
    exact ih_42 _ _ _ _ _ _ (s_jump h hE)
  · refine Eq.trans (o_aload_n d_Md_choose_10 rfl) ?_
    refine s_ref d_Md_choose_11 pF_Md_97 (zM_Md_seen r) ?_
    refine Eq.trans (o_iload_n d_Md_choose_14 rfl) ?_
    refine Eq.trans (o_iconst (v := 0) d_Md_choose_15 (by decide)) ?_
    refine s_zast d_Md_choose_16 (rM_28 r) h (fun T h => ?_)
    refine Eq.trans (o_iinc (v := (v3 + 1)) (lo' := [some (.ref (r + 0)), some (.int v1), some (.int v2), some (.int (v3 + 1))]) d_Md_choose_17 rfl (by rw [show Int32.ofInt 1 = 1 from by decide]) (Nat.le_of_ble_eq_true rfl) rfl) ?_
    refine Eq.trans (o_goto (t := 2) d_Md_choose_20 (by decide)) ?_
    exact ih_2 _ _ _ _ _ _ (s_jump h hE)
set_option maxRecDepth 100000 in
set_option maxHeartbeats 4000000 in
theorem c_Md_choose_0 (D : Nat) (hD : 3 ≤ D) (r : Nat) (n : Nat) (ih_2 : ∀ (v1 : Int32) (v2 : Int32) (v3 : Int32)  (T T2 : qT) (v : Int32), w_run b_Md_choose n (2, [.int v1, .int v2, .int v3], []) T = some (v, T2) → q_out (q_ev q_Mt D) q_mMd_choose (2, [some (.ref (r + 0)), some (.int v1), some (.int v2), some (.int v3)], [], layM r T) = some (.inl (some (.int v)), layM r T2)) (ih_42 : ∀ (v2 : Int32) (e1 : Option Value) (e3 : Option Value) (T T2 : qT) (v : Int32), w_run b_Md_choose n (42, [.int v2], []) T = some (v, T2) → q_out (q_ev q_Mt D) q_mMd_choose (42, [some (.ref (r + 0)), e1, some (.int v2), e3], [], layM r T) = some (.inl (some (.int v)), layM r T2)) (a1 : Int32) (a2 : Int32)  (T T1 T2 : qT) (rr : qJ ⊕ Int32) (v : Int32) (h : k_Md_choose_0 a1 a2 T = some (rr, T1)) (hE : w_end b_Md_choose n rr T1 = some (v, T2)) : q_out (q_ev q_Mt D) q_mMd_choose (0, [some (.ref (r + 0)), some (.int a1), some (.int a2), none], [], layM r T) = some (.inl (some (.int v)), layM r T2) := by
  unfold k_Md_choose_0 at h
  refine Eq.trans (o_iconst (v := 0) d_Md_choose_0 (by decide)) ?_
  refine Eq.trans (o_istore_n (lo' := [some (.ref (r + 0)), some (.int a1), some (.int a2), some (.int 0)]) d_Md_choose_1 (Nat.le_of_ble_eq_true rfl) rfl) ?_
  exact ih_2 _ _ _ _ _ _ (s_jump h hE)
theorem c_Md_choose_lp (D : Nat) (hD : 3 ≤ D) (r : Nat) : ∀ n : Nat, (∀ (v1 : Int32) (v2 : Int32) (v3 : Int32)  (T T2 : qT) (v : Int32), w_run b_Md_choose n (2, [.int v1, .int v2, .int v3], []) T = some (v, T2) → q_out (q_ev q_Mt D) q_mMd_choose (2, [some (.ref (r + 0)), some (.int v1), some (.int v2), some (.int v3)], [], layM r T) = some (.inl (some (.int v)), layM r T2)) ∧ (∀ (v2 : Int32) (e1 : Option Value) (e3 : Option Value) (T T2 : qT) (v : Int32), w_run b_Md_choose n (42, [.int v2], []) T = some (v, T2) → q_out (q_ev q_Mt D) q_mMd_choose (42, [some (.ref (r + 0)), e1, some (.int v2), e3], [], layM r T) = some (.inl (some (.int v)), layM r T2)) := by
  intro n
  induction n with
  | zero => exact ⟨(fun v1 v2 v3 T T2 v h => by cases h), (fun v2 e1 e3 T T2 v h => by cases h)⟩
  | succ n ih =>
    obtain ⟨ih_2, ih_42⟩ := ih
    refine ⟨?_, ?_⟩
    · intro v1 v2 v3 T T2 v h
      obtain ⟨rr, T1, hb, hE⟩ := w_run_succ h
      exact c_Md_choose_2 D hD r n ih_2 ih_42 v1 v2 v3 T T1 T2 rr v hb hE
    · intro v2 e1 e3 T T2 v h
      obtain ⟨rr, T1, hb, hE⟩ := w_run_succ h
      exact c_Md_choose_42 D hD r n ih_2 ih_42 v2 e1 e3 T T1 T2 rr v hb hE
theorem c_Md_choose (D : Nat) (hD : 4 ≤ D) (r : Nat) (a1 : Int32) (a2 : Int32) (T T2 : qT) (v : Int32) (h : f_Md_choose a1 a2 T = some (v, T2)) : q_ev q_Mt D 116 [.ref (r + 0), .int a1, .int a2] (layM r T) = some (.inl (some (.int v)), layM r T2) := by
  obtain ⟨D, rfl⟩ : ∃ D', D = D' + 1 := ⟨D - 1, by omega⟩
  obtain ⟨n, hn⟩ := w_fix_iff.mp h
  cases n with
  | zero => cases hn
  | succ n =>
    obtain ⟨rr, T1, hb, hE⟩ := w_run_succ hn
    have hl := c_Md_choose_lp D (by omega) r n
    obtain ⟨ih_2, ih_42⟩ := hl
    rw [o_ev (M := q_mMd_choose) (lo := [some (.ref (r + 0)), some (.int a1), some (.int a2), none]) rfl (Nat.le_of_ble_eq_true rfl) rfl]
    exact c_Md_choose_0 D (by omega) r n ih_2 ih_42 a1 a2 T T1 T2 rr v hb hE
noncomputable def k_Md_fill_57 (v1 : Int32) (v2 : Int32) (v3 : Int32) (v4 : Int32) : qW (qJ ⊕ Unit) :=
  w_if (v4 < 0) (
    w_go 35 [.int v1, .int v2, .int (v3 + 1)] []) (
    w_C (f_Md_reaches v4 v1) fun x1 =>
    w_if (¬ x1 = 0) (
      w_go 57 [.int v1, .int v2, .int v3, .int (v4 + (-1))] []) (
      w_C (f_Md_may v4 v1) fun x2 =>
      w_if (x2 = 0) (
        w_go 57 [.int v1, .int v2, .int v3, .int (v4 + (-1))] []) (
        w_A 21 1120 (((7 * v4) + (v1 / 32))) fun x3 =>
        w_a 21 1120 (((7 * v4) + (v1 / 32))) ((x3 ||| ((1 : Int32) <<< (((v1 - v1 / 32 * 32) : Int32) &&& 31)))) <|
        w_go 57 [.int v1, .int 1, .int v3, .int (v4 + (-1))] [])))
noncomputable def k_Md_fill_35 (v1 : Int32) (v2 : Int32) (v3 : Int32) : qW (qJ ⊕ Unit) :=
  w_S 22 fun x1 =>
  w_if (x1 < v3) (
    w_go 27 [.int (v1 + (-1))] []) (
    w_if (v2 = 0) (
      w_go 27 [.int (v1 + (-1))] []) (
      w_S 22 fun x2 =>
      w_go 57 [.int v1, .int 0, .int v3, .int (x2 - 1)] []))
noncomputable def k_Md_fill_27 (v1 : Int32) : qW (qJ ⊕ Unit) :=
  w_if (v1 < 0) (
    w_rt ()) (
    w_go 35 [.int v1, .int 1, .int 0] [])
noncomputable def k_Md_fill_2 (v1 : Int32) : qW (qJ ⊕ Unit) :=
  w_if (1120 ≤ v1) (
    w_S 31 fun x1 =>
    w_go 27 [.int x1] []) (
    w_a 21 1120 v1 0 <|
    w_go 2 [.int (v1 + 1)] [])
noncomputable def k_Md_fill_0  : qW (qJ ⊕ Unit) :=
  w_go 2 [.int 0] []
noncomputable def b_Md_fill : qJ → qW (qJ ⊕ Unit) := fun x => match x with
  | (0, [], []) => k_Md_fill_0 
  | (2, [.int v1], []) => k_Md_fill_2 v1
  | (27, [.int v1], []) => k_Md_fill_27 v1
  | (35, [.int v1, .int v2, .int v3], []) => k_Md_fill_35 v1 v2 v3
  | (57, [.int v1, .int v2, .int v3, .int v4], []) => k_Md_fill_57 v1 v2 v3 v4
  | _ => w_no
noncomputable def f_Md_fill  : qW Unit := w_fix b_Md_fill (0, [], [])
set_option maxRecDepth 100000 in
set_option maxHeartbeats 4000000 in
theorem c_Md_fill_57 (D : Nat) (hD : 3 ≤ D) (r : Nat) (n : Nat) (ih_2 : ∀ (v1 : Int32) (e2 : Option Value) (e3 : Option Value) (e4 : Option Value) (T T2 : qT) (v : Unit), w_run b_Md_fill n (2, [.int v1], []) T = some (v, T2) → q_out (q_ev q_Mt D) q_mMd_fill (2, [some (.ref (r + 0)), some (.int v1), e2, e3, e4], [], layM r T) = some (.inl (none), layM r T2)) (ih_27 : ∀ (v1 : Int32) (e2 : Option Value) (e3 : Option Value) (e4 : Option Value) (T T2 : qT) (v : Unit), w_run b_Md_fill n (27, [.int v1], []) T = some (v, T2) → q_out (q_ev q_Mt D) q_mMd_fill (27, [some (.ref (r + 0)), some (.int v1), e2, e3, e4], [], layM r T) = some (.inl (none), layM r T2)) (ih_35 : ∀ (v1 : Int32) (v2 : Int32) (v3 : Int32) (e4 : Option Value) (T T2 : qT) (v : Unit), w_run b_Md_fill n (35, [.int v1, .int v2, .int v3], []) T = some (v, T2) → q_out (q_ev q_Mt D) q_mMd_fill (35, [some (.ref (r + 0)), some (.int v1), some (.int v2), some (.int v3), e4], [], layM r T) = some (.inl (none), layM r T2)) (ih_57 : ∀ (v1 : Int32) (v2 : Int32) (v3 : Int32) (v4 : Int32)  (T T2 : qT) (v : Unit), w_run b_Md_fill n (57, [.int v1, .int v2, .int v3, .int v4], []) T = some (v, T2) → q_out (q_ev q_Mt D) q_mMd_fill (57, [some (.ref (r + 0)), some (.int v1), some (.int v2), some (.int v3), some (.int v4)], [], layM r T) = some (.inl (none), layM r T2)) (v1 : Int32) (v2 : Int32) (v3 : Int32) (v4 : Int32)  (T T1 T2 : qT) (rr : qJ ⊕ Unit) (v : Unit) (h : k_Md_fill_57 v1 v2 v3 v4 T = some (rr, T1)) (hE : w_end b_Md_fill n rr T1 = some (v, T2)) : q_out (q_ev q_Mt D) q_mMd_fill (57, [some (.ref (r + 0)), some (.int v1), some (.int v2), some (.int v3), some (.int v4)], [], layM r T) = some (.inl (none), layM r T2) := by
  unfold k_Md_fill_57 at h
  refine Eq.trans (o_iload d_Md_fill_57 rfl) ?_
  refine s_if_lt (t := 127) d_Md_fill_59 (by decide) h (fun h => ?_) (fun h => ?_)
  · refine Eq.trans (o_iinc (v := (v3 + 1)) (lo' := [some (.ref (r + 0)), some (.int v1), some (.int v2), some (.int (v3 + 1)), some (.int v4)]) d_Md_fill_127 rfl (by rw [show Int32.ofInt 1 = 1 from by decide]) (Nat.le_of_ble_eq_true rfl) rfl) ?_
    refine Eq.trans (o_goto (t := 35) d_Md_fill_130 (by decide)) ?_
    exact ih_35 _ _ _ _ _ _ _ (s_jump h hE)
  · refine Eq.trans (o_aload_n d_Md_fill_62 rfl) ?_
    refine Eq.trans (o_iload d_Md_fill_63 rfl) ?_
    refine Eq.trans (o_iload_n d_Md_fill_65 rfl) ?_
    obtain ⟨x1, T2, h1, h⟩ := w_C_of h
    refine s_cV2i d_Md_fill_66 pM_Md_231 (Nat.le_of_ble_eq_true rfl) (obM_0 r) (c_Md_reaches D (by omega) r _ _ _ _ _ h1) ?_
    replace h1 := trivial; revert h; generalize T2 = T; intro h
    refine s_if_ne (t := 121) d_Md_fill_69 (by decide) h (fun h => ?_) (fun h => ?_)
    · refine Eq.trans (o_iinc (v := (v4 + (-1))) (lo' := [some (.ref (r + 0)), some (.int v1), some (.int v2), some (.int v3), some (.int (v4 + (-1)))]) d_Md_fill_121 rfl (by rw [show Int32.ofInt (-1) = (-1) from by decide]) (Nat.le_of_ble_eq_true rfl) rfl) ?_
      refine Eq.trans (o_goto (t := 57) d_Md_fill_124 (by decide)) ?_
      exact ih_57 _ _ _ _ _ _ _ (s_jump h hE)
    · refine Eq.trans (o_aload_n d_Md_fill_72 rfl) ?_
      refine Eq.trans (o_iload d_Md_fill_73 rfl) ?_
      refine Eq.trans (o_iload_n d_Md_fill_75 rfl) ?_
      obtain ⟨x2, T2, h1, h⟩ := w_C_of h
      refine s_cV2i d_Md_fill_76 pM_Md_237 (Nat.le_of_ble_eq_true rfl) (obM_0 r) (c_Md_may D (by omega) r _ _ _ _ _ h1) ?_
      replace h1 := trivial; revert h; generalize T2 = T; intro h
      refine s_if_eq (t := 121) d_Md_fill_79 (by decide) h (fun h => ?_) (fun h => ?_)
      · refine Eq.trans (o_iinc (v := (v4 + (-1))) (lo' := [some (.ref (r + 0)), some (.int v1), some (.int v2), some (.int v3), some (.int (v4 + (-1)))]) d_Md_fill_121 rfl (by rw [show Int32.ofInt (-1) = (-1) from by decide]) (Nat.le_of_ble_eq_true rfl) rfl) ?_
        refine Eq.trans (o_goto (t := 57) d_Md_fill_124 (by decide)) ?_
        exact ih_57 _ _ _ _ _ _ _ (s_jump h hE)
      · refine Eq.trans (o_aload_n d_Md_fill_82 rfl) ?_
        refine s_ref d_Md_fill_83 pF_Md_76 (zM_Md_can r) ?_
        refine Eq.trans (o_bipush (v := 7) d_Md_fill_86 (by decide)) ?_
        refine Eq.trans (o_iload d_Md_fill_88 rfl) ?_
        refine Eq.trans (o_imul d_Md_fill_90) ?_
        refine Eq.trans (o_iload_n d_Md_fill_91 rfl) ?_
        refine Eq.trans (o_bipush (v := 32) d_Md_fill_92 (by decide)) ?_
        refine Eq.trans (o_idiv d_Md_fill_94 (by decide)) ?_
        refine Eq.trans (o_iadd d_Md_fill_95) ?_
        refine Eq.trans (o_aload_n d_Md_fill_96 rfl) ?_
        refine s_ref d_Md_fill_97 pF_Md_76 (zM_Md_can r) ?_
        refine Eq.trans (o_bipush (v := 7) d_Md_fill_100 (by decide)) ?_
        refine Eq.trans (o_iload d_Md_fill_102 rfl) ?_
        refine Eq.trans (o_imul d_Md_fill_104) ?_
        refine Eq.trans (o_iload_n d_Md_fill_105 rfl) ?_
        refine Eq.trans (o_bipush (v := 32) d_Md_fill_106 (by decide)) ?_
        refine Eq.trans (o_idiv d_Md_fill_108 (by decide)) ?_
        refine Eq.trans (o_iadd d_Md_fill_109) ?_
        refine s_iald d_Md_fill_110 (rM_21 r) h (fun x3 h => ?_)
        refine Eq.trans (o_iconst (v := 1) d_Md_fill_111 (by decide)) ?_
        refine Eq.trans (o_iload_n d_Md_fill_112 rfl) ?_
        refine Eq.trans (o_bipush (v := 32) d_Md_fill_113 (by decide)) ?_
        refine Eq.trans (o_irem d_Md_fill_115 (by decide)) ?_
        refine Eq.trans (o_ishl d_Md_fill_116) ?_
        refine Eq.trans (o_ior d_Md_fill_117) ?_
        refine s_iast d_Md_fill_118 (rM_21 r) h (fun T h => ?_)
        refine Eq.trans (o_iconst (v := 1) d_Md_fill_119 (by decide)) ?_
        refine Eq.trans (o_istore_n (lo' := [some (.ref (r + 0)), some (.int v1), some (.int 1), some (.int v3), some (.int v4)]) d_Md_fill_120 (Nat.le_of_ble_eq_true rfl) rfl) ?_
        refine Eq.trans (o_iinc (v := (v4 + (-1))) (lo' := [some (.ref (r + 0)), some (.int v1), some (.int 1), some (.int v3), some (.int (v4 + (-1)))]) d_Md_fill_121 rfl (by rw [show Int32.ofInt (-1) = (-1) from by decide]) (Nat.le_of_ble_eq_true rfl) rfl) ?_
        refine Eq.trans (o_goto (t := 57) d_Md_fill_124 (by decide)) ?_
        exact ih_57 _ _ _ _ _ _ _ (s_jump h hE)
set_option maxRecDepth 100000 in
set_option maxHeartbeats 4000000 in
theorem c_Md_fill_35 (D : Nat) (hD : 3 ≤ D) (r : Nat) (n : Nat) (ih_2 : ∀ (v1 : Int32) (e2 : Option Value) (e3 : Option Value) (e4 : Option Value) (T T2 : qT) (v : Unit), w_run b_Md_fill n (2, [.int v1], []) T = some (v, T2) → q_out (q_ev q_Mt D) q_mMd_fill (2, [some (.ref (r + 0)), some (.int v1), e2, e3, e4], [], layM r T) = some (.inl (none), layM r T2)) (ih_27 : ∀ (v1 : Int32) (e2 : Option Value) (e3 : Option Value) (e4 : Option Value) (T T2 : qT) (v : Unit), w_run b_Md_fill n (27, [.int v1], []) T = some (v, T2) → q_out (q_ev q_Mt D) q_mMd_fill (27, [some (.ref (r + 0)), some (.int v1), e2, e3, e4], [], layM r T) = some (.inl (none), layM r T2)) (ih_35 : ∀ (v1 : Int32) (v2 : Int32) (v3 : Int32) (e4 : Option Value) (T T2 : qT) (v : Unit), w_run b_Md_fill n (35, [.int v1, .int v2, .int v3], []) T = some (v, T2) → q_out (q_ev q_Mt D) q_mMd_fill (35, [some (.ref (r + 0)), some (.int v1), some (.int v2), some (.int v3), e4], [], layM r T) = some (.inl (none), layM r T2)) (ih_57 : ∀ (v1 : Int32) (v2 : Int32) (v3 : Int32) (v4 : Int32)  (T T2 : qT) (v : Unit), w_run b_Md_fill n (57, [.int v1, .int v2, .int v3, .int v4], []) T = some (v, T2) → q_out (q_ev q_Mt D) q_mMd_fill (57, [some (.ref (r + 0)), some (.int v1), some (.int v2), some (.int v3), some (.int v4)], [], layM r T) = some (.inl (none), layM r T2)) (v1 : Int32) (v2 : Int32) (v3 : Int32) (e4 : Option Value) (T T1 T2 : qT) (rr : qJ ⊕ Unit) (v : Unit) (h : k_Md_fill_35 v1 v2 v3 T = some (rr, T1)) (hE : w_end b_Md_fill n rr T1 = some (v, T2)) : q_out (q_ev q_Mt D) q_mMd_fill (35, [some (.ref (r + 0)), some (.int v1), some (.int v2), some (.int v3), e4], [], layM r T) = some (.inl (none), layM r T2) := by
  unfold k_Md_fill_35 at h
  refine Eq.trans (o_iload_n d_Md_fill_35 rfl) ?_
  refine Eq.trans (o_aload_n d_Md_fill_36 rfl) ?_
  refine s_get d_Md_fill_37 pF_Md_109 (zM_Md_length r) h (fun x1 h => ?_)
  refine s_icmp_gt (t := 133) d_Md_fill_40 (by decide) h (fun h => ?_) (fun h => ?_)
  · refine Eq.trans (o_iinc (v := (v1 + (-1))) (lo' := [some (.ref (r + 0)), some (.int (v1 + (-1))), some (.int v2), some (.int v3), e4]) d_Md_fill_133 rfl (by rw [show Int32.ofInt (-1) = (-1) from by decide]) (Nat.le_of_ble_eq_true rfl) rfl) ?_
    refine Eq.trans (o_goto (t := 27) d_Md_fill_136 (by decide)) ?_
    exact ih_27 _ _ _ _ _ _ _ (s_jump h hE)
  · refine Eq.trans (o_iload_n d_Md_fill_43 rfl) ?_
    refine s_if_eq (t := 133) d_Md_fill_44 (by decide) h (fun h => ?_) (fun h => ?_)
    · refine Eq.trans (o_iinc (v := (v1 + (-1))) (lo' := [some (.ref (r + 0)), some (.int (v1 + (-1))), some (.int v2), some (.int v3), e4]) d_Md_fill_133 rfl (by rw [show Int32.ofInt (-1) = (-1) from by decide]) (Nat.le_of_ble_eq_true rfl) rfl) ?_
      refine Eq.trans (o_goto (t := 27) d_Md_fill_136 (by decide)) ?_
      exact ih_27 _ _ _ _ _ _ _ (s_jump h hE)
    · refine Eq.trans (o_iconst (v := 0) d_Md_fill_47 (by decide)) ?_
      refine Eq.trans (o_istore_n (lo' := [some (.ref (r + 0)), some (.int v1), some (.int 0), some (.int v3), e4]) d_Md_fill_48 (Nat.le_of_ble_eq_true rfl) rfl) ?_
      refine Eq.trans (o_aload_n d_Md_fill_49 rfl) ?_
      refine s_get d_Md_fill_50 pF_Md_109 (zM_Md_length r) h (fun x2 h => ?_)
      refine Eq.trans (o_iconst (v := 1) d_Md_fill_53 (by decide)) ?_
      refine Eq.trans (o_isub d_Md_fill_54) ?_
      refine Eq.trans (o_istore (lo' := [some (.ref (r + 0)), some (.int v1), some (.int 0), some (.int v3), some (.int (x2 - 1))]) d_Md_fill_55 (Nat.le_of_ble_eq_true rfl) rfl) ?_
      exact ih_57 _ _ _ _ _ _ _ (s_jump h hE)
set_option maxRecDepth 100000 in
set_option maxHeartbeats 4000000 in
theorem c_Md_fill_27 (D : Nat) (hD : 3 ≤ D) (r : Nat) (n : Nat) (ih_2 : ∀ (v1 : Int32) (e2 : Option Value) (e3 : Option Value) (e4 : Option Value) (T T2 : qT) (v : Unit), w_run b_Md_fill n (2, [.int v1], []) T = some (v, T2) → q_out (q_ev q_Mt D) q_mMd_fill (2, [some (.ref (r + 0)), some (.int v1), e2, e3, e4], [], layM r T) = some (.inl (none), layM r T2)) (ih_27 : ∀ (v1 : Int32) (e2 : Option Value) (e3 : Option Value) (e4 : Option Value) (T T2 : qT) (v : Unit), w_run b_Md_fill n (27, [.int v1], []) T = some (v, T2) → q_out (q_ev q_Mt D) q_mMd_fill (27, [some (.ref (r + 0)), some (.int v1), e2, e3, e4], [], layM r T) = some (.inl (none), layM r T2)) (ih_35 : ∀ (v1 : Int32) (v2 : Int32) (v3 : Int32) (e4 : Option Value) (T T2 : qT) (v : Unit), w_run b_Md_fill n (35, [.int v1, .int v2, .int v3], []) T = some (v, T2) → q_out (q_ev q_Mt D) q_mMd_fill (35, [some (.ref (r + 0)), some (.int v1), some (.int v2), some (.int v3), e4], [], layM r T) = some (.inl (none), layM r T2)) (ih_57 : ∀ (v1 : Int32) (v2 : Int32) (v3 : Int32) (v4 : Int32)  (T T2 : qT) (v : Unit), w_run b_Md_fill n (57, [.int v1, .int v2, .int v3, .int v4], []) T = some (v, T2) → q_out (q_ev q_Mt D) q_mMd_fill (57, [some (.ref (r + 0)), some (.int v1), some (.int v2), some (.int v3), some (.int v4)], [], layM r T) = some (.inl (none), layM r T2)) (v1 : Int32) (e2 : Option Value) (e3 : Option Value) (e4 : Option Value) (T T1 T2 : qT) (rr : qJ ⊕ Unit) (v : Unit) (h : k_Md_fill_27 v1 T = some (rr, T1)) (hE : w_end b_Md_fill n rr T1 = some (v, T2)) : q_out (q_ev q_Mt D) q_mMd_fill (27, [some (.ref (r + 0)), some (.int v1), e2, e3, e4], [], layM r T) = some (.inl (none), layM r T2) := by
  unfold k_Md_fill_27 at h
  refine Eq.trans (o_iload_n d_Md_fill_27 rfl) ?_
  refine s_if_lt (t := 139) d_Md_fill_28 (by decide) h (fun h => ?_) (fun h => ?_)
  · exact s_vretJ d_Md_fill_139 rfl h hE
  · refine Eq.trans (o_iconst (v := 1) d_Md_fill_31 (by decide)) ?_
    refine Eq.trans (o_istore_n (lo' := [some (.ref (r + 0)), some (.int v1), some (.int 1), e3, e4]) d_Md_fill_32 (Nat.le_of_ble_eq_true rfl) rfl) ?_
    refine Eq.trans (o_iconst (v := 0) d_Md_fill_33 (by decide)) ?_
    refine Eq.trans (o_istore_n (lo' := [some (.ref (r + 0)), some (.int v1), some (.int 1), some (.int 0), e4]) d_Md_fill_34 (Nat.le_of_ble_eq_true rfl) rfl) ?_
    exact ih_35 _ _ _ _ _ _ _ (s_jump h hE)
set_option maxRecDepth 100000 in
set_option maxHeartbeats 4000000 in
theorem c_Md_fill_2 (D : Nat) (hD : 3 ≤ D) (r : Nat) (n : Nat) (ih_2 : ∀ (v1 : Int32) (e2 : Option Value) (e3 : Option Value) (e4 : Option Value) (T T2 : qT) (v : Unit), w_run b_Md_fill n (2, [.int v1], []) T = some (v, T2) → q_out (q_ev q_Mt D) q_mMd_fill (2, [some (.ref (r + 0)), some (.int v1), e2, e3, e4], [], layM r T) = some (.inl (none), layM r T2)) (ih_27 : ∀ (v1 : Int32) (e2 : Option Value) (e3 : Option Value) (e4 : Option Value) (T T2 : qT) (v : Unit), w_run b_Md_fill n (27, [.int v1], []) T = some (v, T2) → q_out (q_ev q_Mt D) q_mMd_fill (27, [some (.ref (r + 0)), some (.int v1), e2, e3, e4], [], layM r T) = some (.inl (none), layM r T2)) (ih_35 : ∀ (v1 : Int32) (v2 : Int32) (v3 : Int32) (e4 : Option Value) (T T2 : qT) (v : Unit), w_run b_Md_fill n (35, [.int v1, .int v2, .int v3], []) T = some (v, T2) → q_out (q_ev q_Mt D) q_mMd_fill (35, [some (.ref (r + 0)), some (.int v1), some (.int v2), some (.int v3), e4], [], layM r T) = some (.inl (none), layM r T2)) (ih_57 : ∀ (v1 : Int32) (v2 : Int32) (v3 : Int32) (v4 : Int32)  (T T2 : qT) (v : Unit), w_run b_Md_fill n (57, [.int v1, .int v2, .int v3, .int v4], []) T = some (v, T2) → q_out (q_ev q_Mt D) q_mMd_fill (57, [some (.ref (r + 0)), some (.int v1), some (.int v2), some (.int v3), some (.int v4)], [], layM r T) = some (.inl (none), layM r T2)) (v1 : Int32) (e2 : Option Value) (e3 : Option Value) (e4 : Option Value) (T T1 T2 : qT) (rr : qJ ⊕ Unit) (v : Unit) (h : k_Md_fill_2 v1 T = some (rr, T1)) (hE : w_end b_Md_fill n rr T1 = some (v, T2)) : q_out (q_ev q_Mt D) q_mMd_fill (2, [some (.ref (r + 0)), some (.int v1), e2, e3, e4], [], layM r T) = some (.inl (none), layM r T2) := by
  unfold k_Md_fill_2 at h
  refine Eq.trans (o_iload_n d_Md_fill_2 rfl) ?_
  refine Eq.trans (o_sipush (v := 1120) d_Md_fill_3 (by decide)) ?_
  refine s_icmp_ge (t := 22) d_Md_fill_6 (by decide) h (fun h => ?_) (fun h => ?_)
  · refine Eq.trans (o_aload_n d_Md_fill_22 rfl) ?_
    refine s_get d_Md_fill_23 pF_Md_222 (zM_Md_fed r) h (fun x1 h => ?_)
    refine Eq.trans (o_istore_n (lo' := [some (.ref (r + 0)), some (.int x1), e2, e3, e4]) d_Md_fill_26 (Nat.le_of_ble_eq_true rfl) rfl) ?_
    exact ih_27 _ _ _ _ _ _ _ (s_jump h hE)
  · refine Eq.trans (o_aload_n d_Md_fill_9 rfl) ?_
    refine s_ref d_Md_fill_10 pF_Md_76 (zM_Md_can r) ?_
    refine Eq.trans (o_iload_n d_Md_fill_13 rfl) ?_
    refine Eq.trans (o_iconst (v := 0) d_Md_fill_14 (by decide)) ?_
    refine s_iast d_Md_fill_15 (rM_21 r) h (fun T h => ?_)
    refine Eq.trans (o_iinc (v := (v1 + 1)) (lo' := [some (.ref (r + 0)), some (.int (v1 + 1)), e2, e3, e4]) d_Md_fill_16 rfl (by rw [show Int32.ofInt 1 = 1 from by decide]) (Nat.le_of_ble_eq_true rfl) rfl) ?_
    refine Eq.trans (o_goto (t := 2) d_Md_fill_19 (by decide)) ?_
    exact ih_2 _ _ _ _ _ _ _ (s_jump h hE)
set_option maxRecDepth 100000 in
set_option maxHeartbeats 4000000 in
theorem c_Md_fill_0 (D : Nat) (hD : 3 ≤ D) (r : Nat) (n : Nat) (ih_2 : ∀ (v1 : Int32) (e2 : Option Value) (e3 : Option Value) (e4 : Option Value) (T T2 : qT) (v : Unit), w_run b_Md_fill n (2, [.int v1], []) T = some (v, T2) → q_out (q_ev q_Mt D) q_mMd_fill (2, [some (.ref (r + 0)), some (.int v1), e2, e3, e4], [], layM r T) = some (.inl (none), layM r T2)) (ih_27 : ∀ (v1 : Int32) (e2 : Option Value) (e3 : Option Value) (e4 : Option Value) (T T2 : qT) (v : Unit), w_run b_Md_fill n (27, [.int v1], []) T = some (v, T2) → q_out (q_ev q_Mt D) q_mMd_fill (27, [some (.ref (r + 0)), some (.int v1), e2, e3, e4], [], layM r T) = some (.inl (none), layM r T2)) (ih_35 : ∀ (v1 : Int32) (v2 : Int32) (v3 : Int32) (e4 : Option Value) (T T2 : qT) (v : Unit), w_run b_Md_fill n (35, [.int v1, .int v2, .int v3], []) T = some (v, T2) → q_out (q_ev q_Mt D) q_mMd_fill (35, [some (.ref (r + 0)), some (.int v1), some (.int v2), some (.int v3), e4], [], layM r T) = some (.inl (none), layM r T2)) (ih_57 : ∀ (v1 : Int32) (v2 : Int32) (v3 : Int32) (v4 : Int32)  (T T2 : qT) (v : Unit), w_run b_Md_fill n (57, [.int v1, .int v2, .int v3, .int v4], []) T = some (v, T2) → q_out (q_ev q_Mt D) q_mMd_fill (57, [some (.ref (r + 0)), some (.int v1), some (.int v2), some (.int v3), some (.int v4)], [], layM r T) = some (.inl (none), layM r T2))   (T T1 T2 : qT) (rr : qJ ⊕ Unit) (v : Unit) (h : k_Md_fill_0 T = some (rr, T1)) (hE : w_end b_Md_fill n rr T1 = some (v, T2)) : q_out (q_ev q_Mt D) q_mMd_fill (0, [some (.ref (r + 0)), none, none, none, none], [], layM r T) = some (.inl (none), layM r T2) := by
  unfold k_Md_fill_0 at h
  refine Eq.trans (o_iconst (v := 0) d_Md_fill_0 (by decide)) ?_
  refine Eq.trans (o_istore_n (lo' := [some (.ref (r + 0)), some (.int 0), none, none, none]) d_Md_fill_1 (Nat.le_of_ble_eq_true rfl) rfl) ?_
  exact ih_2 _ _ _ _ _ _ _ (s_jump h hE)
theorem c_Md_fill_lp (D : Nat) (hD : 3 ≤ D) (r : Nat) : ∀ n : Nat, (∀ (v1 : Int32) (e2 : Option Value) (e3 : Option Value) (e4 : Option Value) (T T2 : qT) (v : Unit), w_run b_Md_fill n (2, [.int v1], []) T = some (v, T2) → q_out (q_ev q_Mt D) q_mMd_fill (2, [some (.ref (r + 0)), some (.int v1), e2, e3, e4], [], layM r T) = some (.inl (none), layM r T2)) ∧ (∀ (v1 : Int32) (e2 : Option Value) (e3 : Option Value) (e4 : Option Value) (T T2 : qT) (v : Unit), w_run b_Md_fill n (27, [.int v1], []) T = some (v, T2) → q_out (q_ev q_Mt D) q_mMd_fill (27, [some (.ref (r + 0)), some (.int v1), e2, e3, e4], [], layM r T) = some (.inl (none), layM r T2)) ∧ (∀ (v1 : Int32) (v2 : Int32) (v3 : Int32) (e4 : Option Value) (T T2 : qT) (v : Unit), w_run b_Md_fill n (35, [.int v1, .int v2, .int v3], []) T = some (v, T2) → q_out (q_ev q_Mt D) q_mMd_fill (35, [some (.ref (r + 0)), some (.int v1), some (.int v2), some (.int v3), e4], [], layM r T) = some (.inl (none), layM r T2)) ∧ (∀ (v1 : Int32) (v2 : Int32) (v3 : Int32) (v4 : Int32)  (T T2 : qT) (v : Unit), w_run b_Md_fill n (57, [.int v1, .int v2, .int v3, .int v4], []) T = some (v, T2) → q_out (q_ev q_Mt D) q_mMd_fill (57, [some (.ref (r + 0)), some (.int v1), some (.int v2), some (.int v3), some (.int v4)], [], layM r T) = some (.inl (none), layM r T2)) := by
  intro n
  induction n with
  | zero => exact ⟨(fun v1 e2 e3 e4 T T2 v h => by cases h), (fun v1 e2 e3 e4 T T2 v h => by cases h), (fun v1 v2 v3 e4 T T2 v h => by cases h), (fun v1 v2 v3 v4 T T2 v h => by cases h)⟩
  | succ n ih =>
    obtain ⟨ih_2, ih_27, ih_35, ih_57⟩ := ih
    refine ⟨?_, ?_, ?_, ?_⟩
    · intro v1 e2 e3 e4 T T2 v h
      obtain ⟨rr, T1, hb, hE⟩ := w_run_succ h
      exact c_Md_fill_2 D hD r n ih_2 ih_27 ih_35 ih_57 v1 e2 e3 e4 T T1 T2 rr v hb hE
    · intro v1 e2 e3 e4 T T2 v h
      obtain ⟨rr, T1, hb, hE⟩ := w_run_succ h
      exact c_Md_fill_27 D hD r n ih_2 ih_27 ih_35 ih_57 v1 e2 e3 e4 T T1 T2 rr v hb hE
    · intro v1 v2 v3 e4 T T2 v h
      obtain ⟨rr, T1, hb, hE⟩ := w_run_succ h
      exact c_Md_fill_35 D hD r n ih_2 ih_27 ih_35 ih_57 v1 v2 v3 e4 T T1 T2 rr v hb hE
    · intro v1 v2 v3 v4 T T2 v h
      obtain ⟨rr, T1, hb, hE⟩ := w_run_succ h
      exact c_Md_fill_57 D hD r n ih_2 ih_27 ih_35 ih_57 v1 v2 v3 v4 T T1 T2 rr v hb hE
theorem c_Md_fill (D : Nat) (hD : 4 ≤ D) (r : Nat)  (T T2 : qT) (v : Unit) (h : f_Md_fill  T = some (v, T2)) : q_ev q_Mt D 110 [.ref (r + 0)] (layM r T) = some (.inl (none), layM r T2) := by
  obtain ⟨D, rfl⟩ : ∃ D', D = D' + 1 := ⟨D - 1, by omega⟩
  obtain ⟨n, hn⟩ := w_fix_iff.mp h
  cases n with
  | zero => cases hn
  | succ n =>
    obtain ⟨rr, T1, hb, hE⟩ := w_run_succ hn
    have hl := c_Md_fill_lp D (by omega) r n
    obtain ⟨ih_2, ih_27, ih_35, ih_57⟩ := hl
    rw [o_ev (M := q_mMd_fill) (lo := [some (.ref (r + 0)), none, none, none, none]) rfl (Nat.le_of_ble_eq_true rfl) rfl]
    exact c_Md_fill_0 D (by omega) r n ih_2 ih_27 ih_35 ih_57  T T1 T2 rr v hb hE
