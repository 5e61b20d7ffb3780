noncomputable def f_Pa_readEscaped (o : Nat) (a1 : Int32) : qW Unit :=
  w_S 83 fun x1 =>
  w_s 83 ((x1 + 1)) <|
  w_C (f_Pa_peek o) fun x2 =>
  w_if (¬ x2 = ((-1))) (
    w_S 83 fun x3 =>
    w_s 83 ((x3 + 1)) <|
    w_if (¬ x2 = 100) (
      w_if (¬ x2 = 119) (
        w_C (f_Cs_addRange o a1 x2 x2) fun _ =>
        w_pure ()) (
        w_C (f_Cs_addRange o a1 97 122) fun _ =>
        w_C (f_Cs_addRange o a1 65 90) fun _ =>
        w_C (f_Cs_addRange o a1 48 57) fun _ =>
        w_C (f_Cs_addRange o a1 95 95) fun _ =>
        w_pure ())) (
      w_C (f_Cs_addRange o a1 48 57) fun _ =>
      w_pure ())) (
    w_C (f_Pa_fail o) fun _ =>
    w_pure ())
set_option maxRecDepth 100000 in
set_option maxHeartbeats 4000000 in
theorem c_Pa_readEscaped_0 (D : Nat) (hD : 2 ≤ D) (o : Nat) (a1 : Int32)  (T T1 : qT) (v : Unit) (h : f_Pa_readEscaped o a1 T = some (v, T1)) : q_out (q_ev q_Mt D) q_mPa_readEscaped (0, [some (.ref (o + 4)), some (.int a1), none], [], layC o T) = some (.inl (none), layC o T1) := by
  unfold f_Pa_readEscaped at h
  refine Eq.trans (o_aload_n d_Pa_readEscaped_0 rfl) ?_
  refine Eq.trans (o_dup d_Pa_readEscaped_1 rfl) ?_
  refine s_get d_Pa_readEscaped_2 pF_Pa_15 (zC_Pa_at o) h (fun x1 h => ?_)
  refine Eq.trans (o_iconst (v := 1) d_Pa_readEscaped_5 (by decide)) ?_
  refine Eq.trans (o_iadd d_Pa_readEscaped_6) ?_
  refine s_put d_Pa_readEscaped_7 pF_Pa_15 (zC_Pa_at o) h (fun T h => ?_)
  refine Eq.trans (o_aload_n d_Pa_readEscaped_10 rfl) ?_
  obtain ⟨x2, T2, h1, h⟩ := w_C_of h
  refine s_cV0i d_Pa_readEscaped_11 pM_Pa_53 (Nat.le_of_ble_eq_true rfl) (obC_4 o) (c_Pa_peek D (by omega) o _ _ _ h1) ?_
  replace h1 := trivial; revert h; generalize T2 = T; intro h
  refine Eq.trans (o_istore_n (lo' := [some (.ref (o + 4)), some (.int a1), some (.int x2)]) d_Pa_readEscaped_14 (Nat.le_of_ble_eq_true rfl) rfl) ?_
  refine Eq.trans (o_iload_n d_Pa_readEscaped_15 rfl) ?_
  refine Eq.trans (o_iconst (v := (-1)) d_Pa_readEscaped_16 (by decide)) ?_
  refine s_icmp_ne (t := 25) d_Pa_readEscaped_17 (by decide) h (fun h => ?_) (fun h => ?_)
  · refine Eq.trans (o_aload_n d_Pa_readEscaped_25 rfl) ?_
    refine Eq.trans (o_dup d_Pa_readEscaped_26 rfl) ?_
    refine s_get d_Pa_readEscaped_27 pF_Pa_15 (zC_Pa_at o) h (fun x3 h => ?_)
    refine Eq.trans (o_iconst (v := 1) d_Pa_readEscaped_30 (by decide)) ?_
    refine Eq.trans (o_iadd d_Pa_readEscaped_31) ?_
    refine s_put d_Pa_readEscaped_32 pF_Pa_15 (zC_Pa_at o) h (fun T h => ?_)
    refine Eq.trans (o_iload_n d_Pa_readEscaped_35 rfl) ?_
    refine Eq.trans (o_bipush (v := 100) d_Pa_readEscaped_36 (by decide)) ?_
    refine s_icmp_ne (t := 56) d_Pa_readEscaped_38 (by decide) h (fun h => ?_) (fun h => ?_)
    · refine Eq.trans (o_iload_n d_Pa_readEscaped_56 rfl) ?_
      refine Eq.trans (o_bipush (v := 119) d_Pa_readEscaped_57 (by decide)) ?_
      refine s_icmp_ne (t := 113) d_Pa_readEscaped_59 (by decide) h (fun h => ?_) (fun h => ?_)
      · refine Eq.trans (o_aload_n d_Pa_readEscaped_113 rfl) ?_
        refine s_ref d_Pa_readEscaped_114 pF_Pa_28 (zC_Pa_sets o) ?_
        refine Eq.trans (o_iload_n d_Pa_readEscaped_117 rfl) ?_
        refine Eq.trans (o_iload_n d_Pa_readEscaped_118 rfl) ?_
        refine Eq.trans (o_iload_n d_Pa_readEscaped_119 rfl) ?_
        obtain ⟨u9, T2, h1, h⟩ := w_C_of h
        refine s_cV3v d_Pa_readEscaped_120 pM_Pa_110 (Nat.le_of_ble_eq_true rfl) (obC_2 o) (c_Cs_addRange D (by omega) o _ _ _ _ _ _ h1) ?_
        replace h1 := trivial; revert h; generalize T2 = T; intro h
        exact s_vret d_Pa_readEscaped_123 rfl h
      · refine Eq.trans (o_aload_n d_Pa_readEscaped_62 rfl) ?_
        refine s_ref d_Pa_readEscaped_63 pF_Pa_28 (zC_Pa_sets o) ?_
        refine Eq.trans (o_iload_n d_Pa_readEscaped_66 rfl) ?_
        refine Eq.trans (o_bipush (v := 97) d_Pa_readEscaped_67 (by decide)) ?_
        refine Eq.trans (o_bipush (v := 122) d_Pa_readEscaped_69 (by decide)) ?_
        obtain ⟨u9, T2, h1, h⟩ := w_C_of h
        refine s_cV3v d_Pa_readEscaped_71 pM_Pa_110 (Nat.le_of_ble_eq_true rfl) (obC_2 o) (c_Cs_addRange D (by omega) o _ _ _ _ _ _ h1) ?_
        replace h1 := trivial; revert h; generalize T2 = T; intro h
        refine Eq.trans (o_aload_n d_Pa_readEscaped_74 rfl) ?_
        refine s_ref d_Pa_readEscaped_75 pF_Pa_28 (zC_Pa_sets o) ?_
        refine Eq.trans (o_iload_n d_Pa_readEscaped_78 rfl) ?_
        refine Eq.trans (o_bipush (v := 65) d_Pa_readEscaped_79 (by decide)) ?_
        refine Eq.trans (o_bipush (v := 90) d_Pa_readEscaped_81 (by decide)) ?_
        obtain ⟨u9, T2, h1, h⟩ := w_C_of h
        refine s_cV3v d_Pa_readEscaped_83 pM_Pa_110 (Nat.le_of_ble_eq_true rfl) (obC_2 o) (c_Cs_addRange D (by omega) o _ _ _ _ _ _ h1) ?_
        replace h1 := trivial; revert h; generalize T2 = T; intro h
        refine Eq.trans (o_aload_n d_Pa_readEscaped_86 rfl) ?_
        refine s_ref d_Pa_readEscaped_87 pF_Pa_28 (zC_Pa_sets o) ?_
        refine Eq.trans (o_iload_n d_Pa_readEscaped_90 rfl) ?_
        refine Eq.trans (o_bipush (v := 48) d_Pa_readEscaped_91 (by decide)) ?_
        refine Eq.trans (o_bipush (v := 57) d_Pa_readEscaped_93 (by decide)) ?_
        obtain ⟨u9, T2, h1, h⟩ := w_C_of h
        refine s_cV3v d_Pa_readEscaped_95 pM_Pa_110 (Nat.le_of_ble_eq_true rfl) (obC_2 o) (c_Cs_addRange D (by omega) o _ _ _ _ _ _ h1) ?_
        replace h1 := trivial; revert h; generalize T2 = T; intro h
        refine Eq.trans (o_aload_n d_Pa_readEscaped_98 rfl) ?_
        refine s_ref d_Pa_readEscaped_99 pF_Pa_28 (zC_Pa_sets o) ?_
        refine Eq.trans (o_iload_n d_Pa_readEscaped_102 rfl) ?_
        refine Eq.trans (o_bipush (v := 95) d_Pa_readEscaped_103 (by decide)) ?_
        refine Eq.trans (o_bipush (v := 95) d_Pa_readEscaped_105 (by decide)) ?_
        obtain ⟨u9, T2, h1, h⟩ := w_C_of h
        refine s_cV3v d_Pa_readEscaped_107 pM_Pa_110 (Nat.le_of_ble_eq_true rfl) (obC_2 o) (c_Cs_addRange D (by omega) o _ _ _ _ _ _ h1) ?_
        replace h1 := trivial; revert h; generalize T2 = T; intro h
        refine Eq.trans (o_goto (t := 123) d_Pa_readEscaped_110 (by decide)) ?_
        exact s_vret d_Pa_readEscaped_123 rfl h
    · refine Eq.trans (o_aload_n d_Pa_readEscaped_41 rfl) ?_
      refine s_ref d_Pa_readEscaped_42 pF_Pa_28 (zC_Pa_sets o) ?_
      refine Eq.trans (o_iload_n d_Pa_readEscaped_45 rfl) ?_
      refine Eq.trans (o_bipush (v := 48) d_Pa_readEscaped_46 (by decide)) ?_
      refine Eq.trans (o_bipush (v := 57) d_Pa_readEscaped_48 (by decide)) ?_
      obtain ⟨u9, T2, h1, h⟩ := w_C_of h
      refine s_cV3v d_Pa_readEscaped_50 pM_Pa_110 (Nat.le_of_ble_eq_true rfl) (obC_2 o) (c_Cs_addRange D (by omega) o _ _ _ _ _ _ h1) ?_
      replace h1 := trivial; revert h; generalize T2 = T; intro h
      refine Eq.trans (o_goto (t := 123) d_Pa_readEscaped_53 (by decide)) ?_
      exact s_vret d_Pa_readEscaped_123 rfl h
  · refine Eq.trans (o_aload_n d_Pa_readEscaped_20 rfl) ?_
    obtain ⟨u9, T2, h1, h⟩ := w_C_of h
    refine s_cV0v d_Pa_readEscaped_21 pM_Pa_47 (Nat.le_of_ble_eq_true rfl) (obC_4 o) (c_Pa_fail D (by omega) o _ _ _ h1) ?_
    replace h1 := trivial; revert h; generalize T2 = T; intro h
    exact s_vret d_Pa_readEscaped_24 rfl h
theorem c_Pa_readEscaped (D : Nat) (hD : 3 ≤ D) (o : Nat) (a1 : Int32) (T T1 : qT) (v : Unit) (h : f_Pa_readEscaped o a1 T = some (v, T1)) : q_ev q_Mt D 31 [.ref (o + 4), .int a1] (layC o T) = some (.inl (none), layC o T1) := by
  obtain ⟨D, rfl⟩ : ∃ D', D = D' + 1 := ⟨D - 1, by omega⟩
  rw [o_ev (M := q_mPa_readEscaped) (lo := [some (.ref (o + 4)), some (.int a1), none]) rfl (Nat.le_of_ble_eq_true rfl) rfl]
  exact c_Pa_readEscaped_0 D (by omega) o a1 T T1 v h
noncomputable def f_Pa_standsForItself (o : Nat) (a1 : Int32) : qW Int32 :=
  w_if (a1 = (-1)) (
    w_ret .boolean 0) (
    w_if (a1 = 40) (
      w_ret .boolean 0) (
      w_if (a1 = 41) (
        w_ret .boolean 0) (
        w_if (a1 = 42) (
          w_ret .boolean 0) (
          w_if (a1 = 43) (
            w_ret .boolean 0) (
            w_if (a1 = 46) (
              w_ret .boolean 0) (
              w_if (a1 = 63) (
                w_ret .boolean 0) (
                w_if (a1 = 91) (
                  w_ret .boolean 0) (
                  w_if (a1 = 92) (
                    w_ret .boolean 0) (
                    w_if (a1 = 93) (
                      w_ret .boolean 0) (
                      w_if (a1 = 123) (
                        w_ret .boolean 0) (
                        w_if (a1 = 124) (
                          w_ret .boolean 0) (
                          w_if (a1 = 125) (
                            w_ret .boolean 0) (
                            w_ret .boolean 1)))))))))))))
set_option maxRecDepth 100000 in
set_option maxHeartbeats 4000000 in
theorem c_Pa_standsForItself_0 (D : Nat) (hD : 0 ≤ D) (o : Nat) (a1 : Int32)  (T T1 : qT) (v : Int32) (h : f_Pa_standsForItself o a1 T = some (v, T1)) : q_out (q_ev q_Mt D) q_mPa_standsForItself (0, [some (.int a1)], [], layC o T) = some (.inl (some (.int v)), layC o T1) := by
  unfold f_Pa_standsForItself at h
  refine Eq.trans (o_iload_n d_Pa_standsForItself_0 rfl) ?_
  by_cases g0 : a1 = (-1)
  · have h := w_if_t h g0
    refine Eq.trans (o_lookup (off := 115) (t := 116) d_Pa_standsForItself_1 (by decide) (by rw [g0]; decide) (by decide)) ?_
    refine Eq.trans (o_iconst (v := 0) d_Pa_standsForItself_116 (by decide)) ?_
    exact s_iret d_Pa_standsForItself_117 rfl h
  · have h := w_if_f h g0
    by_cases g1 : a1 = 40
    · have h := w_if_t h g1
      refine Eq.trans (o_lookup (off := 115) (t := 116) d_Pa_standsForItself_1 (by decide) (by rw [g1]; decide) (by decide)) ?_
      refine Eq.trans (o_iconst (v := 0) d_Pa_standsForItself_116 (by decide)) ?_
      exact s_iret d_Pa_standsForItself_117 rfl h
    · have h := w_if_f h g1
      by_cases g2 : a1 = 41
      · have h := w_if_t h g2
        refine Eq.trans (o_lookup (off := 115) (t := 116) d_Pa_standsForItself_1 (by decide) (by rw [g2]; decide) (by decide)) ?_
        refine Eq.trans (o_iconst (v := 0) d_Pa_standsForItself_116 (by decide)) ?_
        exact s_iret d_Pa_standsForItself_117 rfl h
      · have h := w_if_f h g2
        by_cases g3 : a1 = 42
        · have h := w_if_t h g3
          refine Eq.trans (o_lookup (off := 115) (t := 116) d_Pa_standsForItself_1 (by decide) (by rw [g3]; decide) (by decide)) ?_
          refine Eq.trans (o_iconst (v := 0) d_Pa_standsForItself_116 (by decide)) ?_
          exact s_iret d_Pa_standsForItself_117 rfl h
        · have h := w_if_f h g3
          by_cases g4 : a1 = 43
          · have h := w_if_t h g4
            refine Eq.trans (o_lookup (off := 115) (t := 116) d_Pa_standsForItself_1 (by decide) (by rw [g4]; decide) (by decide)) ?_
            refine Eq.trans (o_iconst (v := 0) d_Pa_standsForItself_116 (by decide)) ?_
            exact s_iret d_Pa_standsForItself_117 rfl h
          · have h := w_if_f h g4
            by_cases g5 : a1 = 46
            · have h := w_if_t h g5
              refine Eq.trans (o_lookup (off := 115) (t := 116) d_Pa_standsForItself_1 (by decide) (by rw [g5]; decide) (by decide)) ?_
              refine Eq.trans (o_iconst (v := 0) d_Pa_standsForItself_116 (by decide)) ?_
              exact s_iret d_Pa_standsForItself_117 rfl h
            · have h := w_if_f h g5
              by_cases g6 : a1 = 63
              · have h := w_if_t h g6
                refine Eq.trans (o_lookup (off := 115) (t := 116) d_Pa_standsForItself_1 (by decide) (by rw [g6]; decide) (by decide)) ?_
                refine Eq.trans (o_iconst (v := 0) d_Pa_standsForItself_116 (by decide)) ?_
                exact s_iret d_Pa_standsForItself_117 rfl h
              · have h := w_if_f h g6
                by_cases g7 : a1 = 91
                · have h := w_if_t h g7
                  refine Eq.trans (o_lookup (off := 115) (t := 116) d_Pa_standsForItself_1 (by decide) (by rw [g7]; decide) (by decide)) ?_
                  refine Eq.trans (o_iconst (v := 0) d_Pa_standsForItself_116 (by decide)) ?_
                  exact s_iret d_Pa_standsForItself_117 rfl h
                · have h := w_if_f h g7
                  by_cases g8 : a1 = 92
                  · have h := w_if_t h g8
                    refine Eq.trans (o_lookup (off := 115) (t := 116) d_Pa_standsForItself_1 (by decide) (by rw [g8]; decide) (by decide)) ?_
                    refine Eq.trans (o_iconst (v := 0) d_Pa_standsForItself_116 (by decide)) ?_
                    exact s_iret d_Pa_standsForItself_117 rfl h
                  · have h := w_if_f h g8
                    by_cases g9 : a1 = 93
                    · have h := w_if_t h g9
                      refine Eq.trans (o_lookup (off := 115) (t := 116) d_Pa_standsForItself_1 (by decide) (by rw [g9]; decide) (by decide)) ?_
                      refine Eq.trans (o_iconst (v := 0) d_Pa_standsForItself_116 (by decide)) ?_
                      exact s_iret d_Pa_standsForItself_117 rfl h
                    · have h := w_if_f h g9
                      by_cases g10 : a1 = 123
                      · have h := w_if_t h g10
                        refine Eq.trans (o_lookup (off := 115) (t := 116) d_Pa_standsForItself_1 (by decide) (by rw [g10]; decide) (by decide)) ?_
                        refine Eq.trans (o_iconst (v := 0) d_Pa_standsForItself_116 (by decide)) ?_
                        exact s_iret d_Pa_standsForItself_117 rfl h
                      · have h := w_if_f h g10
                        by_cases g11 : a1 = 124
                        · have h := w_if_t h g11
                          refine Eq.trans (o_lookup (off := 115) (t := 116) d_Pa_standsForItself_1 (by decide) (by rw [g11]; decide) (by decide)) ?_
                          refine Eq.trans (o_iconst (v := 0) d_Pa_standsForItself_116 (by decide)) ?_
                          exact s_iret d_Pa_standsForItself_117 rfl h
                        · have h := w_if_f h g11
                          by_cases g12 : a1 = 125
                          · have h := w_if_t h g12
                            refine Eq.trans (o_lookup (off := 115) (t := 116) d_Pa_standsForItself_1 (by decide) (by rw [g12]; decide) (by decide)) ?_
                            refine Eq.trans (o_iconst (v := 0) d_Pa_standsForItself_116 (by decide)) ?_
                            exact s_iret d_Pa_standsForItself_117 rfl h
                          · have h := w_if_f h g12
                            refine Eq.trans (o_lookup (off := 117) (t := 118) d_Pa_standsForItself_1 (by decide) (by
                              show Op.lookupswitch.offset [(-1, 115), (40, 115), (41, 115), (42, 115), (43, 115), (46, 115), (63, 115), (91, 115), (92, 115), (93, 115), (123, 115), (124, 115), (125, 115)] 117 _ = 117
                              rw [Op.lookupswitch.offset_cons, if_neg (i32_ne (x := a1) (c := (-1)) (k := (-1)) (by decide) g0)]
                              rw [Op.lookupswitch.offset_cons, if_neg (i32_ne (x := a1) (c := 40) (k := 40) (by decide) g1)]
                              rw [Op.lookupswitch.offset_cons, if_neg (i32_ne (x := a1) (c := 41) (k := 41) (by decide) g2)]
                              rw [Op.lookupswitch.offset_cons, if_neg (i32_ne (x := a1) (c := 42) (k := 42) (by decide) g3)]
                              rw [Op.lookupswitch.offset_cons, if_neg (i32_ne (x := a1) (c := 43) (k := 43) (by decide) g4)]
                              rw [Op.lookupswitch.offset_cons, if_neg (i32_ne (x := a1) (c := 46) (k := 46) (by decide) g5)]
                              rw [Op.lookupswitch.offset_cons, if_neg (i32_ne (x := a1) (c := 63) (k := 63) (by decide) g6)]
                              rw [Op.lookupswitch.offset_cons, if_neg (i32_ne (x := a1) (c := 91) (k := 91) (by decide) g7)]
                              rw [Op.lookupswitch.offset_cons, if_neg (i32_ne (x := a1) (c := 92) (k := 92) (by decide) g8)]
                              rw [Op.lookupswitch.offset_cons, if_neg (i32_ne (x := a1) (c := 93) (k := 93) (by decide) g9)]
                              rw [Op.lookupswitch.offset_cons, if_neg (i32_ne (x := a1) (c := 123) (k := 123) (by decide) g10)]
                              rw [Op.lookupswitch.offset_cons, if_neg (i32_ne (x := a1) (c := 124) (k := 124) (by decide) g11)]
                              rw [Op.lookupswitch.offset_cons, if_neg (i32_ne (x := a1) (c := 125) (k := 125) (by decide) g12)]
                              rfl) (by decide)) ?_
                            refine Eq.trans (o_iconst (v := 1) d_Pa_standsForItself_118 (by decide)) ?_
                            exact s_iret d_Pa_standsForItself_119 rfl h
theorem c_Pa_standsForItself (D : Nat) (hD : 1 ≤ D) (o : Nat) (a1 : Int32) (T T1 : qT) (v : Int32) (h : f_Pa_standsForItself o a1 T = some (v, T1)) : q_ev q_Mt D 35 [.int a1] (layC o T) = some (.inl (some (.int v)), layC o T1) := by
  obtain ⟨D, rfl⟩ : ∃ D', D = D' + 1 := ⟨D - 1, by omega⟩
  rw [o_ev (M := q_mPa_standsForItself) (lo := [some (.int a1)]) rfl (Nat.le_of_ble_eq_true rfl) rfl]
  exact c_Pa_standsForItself_0 D (by omega) o a1 T T1 v h
noncomputable def f_Pa_readCharacter (o : Nat) (a1 : Int32) : qW Unit :=
  w_C (f_Pa_peek o) fun x1 =>
  w_if (¬ x1 = 92) (
    w_if (¬ x1 = 46) (
      w_C (f_Pa_standsForItself o x1) fun x2 =>
      w_if (x2 = 0) (
        w_C (f_Pa_fail o) fun _ =>
        w_pure ()) (
        w_S 83 fun x3 =>
        w_s 83 ((x3 + 1)) <|
        w_C (f_Cs_addRange o a1 x1 x1) fun _ =>
        w_pure ())) (
      w_S 83 fun x4 =>
      w_s 83 ((x4 + 1)) <|
      w_C (f_Cs_addRange o a1 0 255) fun _ =>
      w_pure ())) (
    w_C (f_Pa_readEscaped o a1) fun _ =>
    w_pure ())
set_option maxRecDepth 100000 in
set_option maxHeartbeats 4000000 in
theorem c_Pa_readCharacter_0 (D : Nat) (hD : 3 ≤ D) (o : Nat) (a1 : Int32)  (T T1 : qT) (v : Unit) (h : f_Pa_readCharacter o a1 T = some (v, T1)) : q_out (q_ev q_Mt D) q_mPa_readCharacter (0, [some (.ref (o + 4)), some (.int a1), none], [], layC o T) = some (.inl (none), layC o T1) := by
  unfold f_Pa_readCharacter at h
  refine Eq.trans (o_aload_n d_Pa_readCharacter_0 rfl) ?_
  obtain ⟨x1, T2, h1, h⟩ := w_C_of h
  refine s_cV0i d_Pa_readCharacter_1 pM_Pa_53 (Nat.le_of_ble_eq_true rfl) (obC_4 o) (c_Pa_peek D (by omega) o _ _ _ h1) ?_
  replace h1 := trivial; revert h; generalize T2 = T; intro h
  refine Eq.trans (o_istore_n (lo' := [some (.ref (o + 4)), some (.int a1), some (.int x1)]) d_Pa_readCharacter_4 (Nat.le_of_ble_eq_true rfl) rfl) ?_
  refine Eq.trans (o_iload_n d_Pa_readCharacter_5 rfl) ?_
  refine Eq.trans (o_bipush (v := 92) d_Pa_readCharacter_6 (by decide)) ?_
  refine s_icmp_ne (t := 19) d_Pa_readCharacter_8 (by decide) h (fun h => ?_) (fun h => ?_)
  · refine Eq.trans (o_iload_n d_Pa_readCharacter_19 rfl) ?_
    refine Eq.trans (o_bipush (v := 46) d_Pa_readCharacter_20 (by decide)) ?_
    refine s_icmp_ne (t := 50) d_Pa_readCharacter_22 (by decide) h (fun h => ?_) (fun h => ?_)
    · refine Eq.trans (o_iload_n d_Pa_readCharacter_50 rfl) ?_
      obtain ⟨x2, T2, h1, h⟩ := w_C_of h
      refine s_cS1i d_Pa_readCharacter_51 pM_Pa_114 (Nat.le_of_ble_eq_true rfl) (c_Pa_standsForItself D (by omega) o _ _ _ _ h1) ?_
      replace h1 := trivial; revert h; generalize T2 = T; intro h
      refine s_if_eq (t := 80) d_Pa_readCharacter_54 (by decide) h (fun h => ?_) (fun h => ?_)
      · refine Eq.trans (o_aload_n d_Pa_readCharacter_80 rfl) ?_
        obtain ⟨u9, T2, h1, h⟩ := w_C_of h
        refine s_cV0v d_Pa_readCharacter_81 pM_Pa_47 (Nat.le_of_ble_eq_true rfl) (obC_4 o) (c_Pa_fail D (by omega) o _ _ _ h1) ?_
        replace h1 := trivial; revert h; generalize T2 = T; intro h
        exact s_vret d_Pa_readCharacter_84 rfl h
      · refine Eq.trans (o_aload_n d_Pa_readCharacter_57 rfl) ?_
        refine Eq.trans (o_dup d_Pa_readCharacter_58 rfl) ?_
        refine s_get d_Pa_readCharacter_59 pF_Pa_15 (zC_Pa_at o) h (fun x3 h => ?_)
        refine Eq.trans (o_iconst (v := 1) d_Pa_readCharacter_62 (by decide)) ?_
        refine Eq.trans (o_iadd d_Pa_readCharacter_63) ?_
        refine s_put d_Pa_readCharacter_64 pF_Pa_15 (zC_Pa_at o) h (fun T h => ?_)
        refine Eq.trans (o_aload_n d_Pa_readCharacter_67 rfl) ?_
        refine s_ref d_Pa_readCharacter_68 pF_Pa_28 (zC_Pa_sets o) ?_
        refine Eq.trans (o_iload_n d_Pa_readCharacter_71 rfl) ?_
        refine Eq.trans (o_iload_n d_Pa_readCharacter_72 rfl) ?_
        refine Eq.trans (o_iload_n d_Pa_readCharacter_73 rfl) ?_
        obtain ⟨u9, T2, h1, h⟩ := w_C_of h
        refine s_cV3v d_Pa_readCharacter_74 pM_Pa_110 (Nat.le_of_ble_eq_true rfl) (obC_2 o) (c_Cs_addRange D (by omega) o _ _ _ _ _ _ h1) ?_
        replace h1 := trivial; revert h; generalize T2 = T; intro h
        refine Eq.trans (o_goto (t := 84) d_Pa_readCharacter_77 (by decide)) ?_
        exact s_vret d_Pa_readCharacter_84 rfl h
    · refine Eq.trans (o_aload_n d_Pa_readCharacter_25 rfl) ?_
      refine Eq.trans (o_dup d_Pa_readCharacter_26 rfl) ?_
      refine s_get d_Pa_readCharacter_27 pF_Pa_15 (zC_Pa_at o) h (fun x4 h => ?_)
      refine Eq.trans (o_iconst (v := 1) d_Pa_readCharacter_30 (by decide)) ?_
      refine Eq.trans (o_iadd d_Pa_readCharacter_31) ?_
      refine s_put d_Pa_readCharacter_32 pF_Pa_15 (zC_Pa_at o) h (fun T h => ?_)
      refine Eq.trans (o_aload_n d_Pa_readCharacter_35 rfl) ?_
      refine s_ref d_Pa_readCharacter_36 pF_Pa_28 (zC_Pa_sets o) ?_
      refine Eq.trans (o_iload_n d_Pa_readCharacter_39 rfl) ?_
      refine Eq.trans (o_iconst (v := 0) d_Pa_readCharacter_40 (by decide)) ?_
      refine Eq.trans (o_sipush (v := 255) d_Pa_readCharacter_41 (by decide)) ?_
      obtain ⟨u9, T2, h1, h⟩ := w_C_of h
      refine s_cV3v d_Pa_readCharacter_44 pM_Pa_110 (Nat.le_of_ble_eq_true rfl) (obC_2 o) (c_Cs_addRange D (by omega) o _ _ _ _ _ _ h1) ?_
      replace h1 := trivial; revert h; generalize T2 = T; intro h
      refine Eq.trans (o_goto (t := 84) d_Pa_readCharacter_47 (by decide)) ?_
      exact s_vret d_Pa_readCharacter_84 rfl h
  · refine Eq.trans (o_aload_n d_Pa_readCharacter_11 rfl) ?_
    refine Eq.trans (o_iload_n d_Pa_readCharacter_12 rfl) ?_
    obtain ⟨u9, T2, h1, h⟩ := w_C_of h
    refine s_cV1v d_Pa_readCharacter_13 pM_Pa_107 (Nat.le_of_ble_eq_true rfl) (obC_4 o) (c_Pa_readEscaped D (by omega) o _ _ _ _ h1) ?_
    replace h1 := trivial; revert h; generalize T2 = T; intro h
    refine Eq.trans (o_goto (t := 84) d_Pa_readCharacter_16 (by decide)) ?_
    exact s_vret d_Pa_readCharacter_84 rfl h
theorem c_Pa_readCharacter (D : Nat) (hD : 4 ≤ D) (o : Nat) (a1 : Int32) (T T1 : qT) (v : Unit) (h : f_Pa_readCharacter o a1 T = some (v, T1)) : q_ev q_Mt D 34 [.ref (o + 4), .int a1] (layC o T) = some (.inl (none), layC o T1) := by
  obtain ⟨D, rfl⟩ : ∃ D', D = D' + 1 := ⟨D - 1, by omega⟩
  rw [o_ev (M := q_mPa_readCharacter) (lo := [some (.ref (o + 4)), some (.int a1), none]) rfl (Nat.le_of_ble_eq_true rfl) rfl]
  exact c_Pa_readCharacter_0 D (by omega) o a1 T T1 v h
noncomputable def f_Pa_digit (o : Nat) (a1 : Int32) : qW Int32 :=
  w_if (a1 < 48) (
    w_ret .int ((-1))) (
    w_if (57 < a1) (
      w_ret .int ((-1))) (
      w_ret .int ((a1 - 48))))
set_option maxRecDepth 100000 in
set_option maxHeartbeats 4000000 in
theorem c_Pa_digit_0 (D : Nat) (hD : 0 ≤ D) (o : Nat) (a1 : Int32)  (T T1 : qT) (v : Int32) (h : f_Pa_digit o a1 T = some (v, T1)) : q_out (q_ev q_Mt D) q_mPa_digit (0, [some (.int a1)], [], layC o T) = some (.inl (some (.int v)), layC o T1) := by
  unfold f_Pa_digit at h
  refine Eq.trans (o_iload_n d_Pa_digit_0 rfl) ?_
  refine Eq.trans (o_bipush (v := 48) d_Pa_digit_1 (by decide)) ?_
  refine s_icmp_lt (t := 19) d_Pa_digit_3 (by decide) h (fun h => ?_) (fun h => ?_)
  · refine Eq.trans (o_iconst (v := (-1)) d_Pa_digit_19 (by decide)) ?_
    exact s_iret d_Pa_digit_20 rfl h
  · refine Eq.trans (o_iload_n d_Pa_digit_6 rfl) ?_
    refine Eq.trans (o_bipush (v := 57) d_Pa_digit_7 (by decide)) ?_
    refine s_icmp_gt (t := 19) d_Pa_digit_9 (by decide) h (fun h => ?_) (fun h => ?_)
    · refine Eq.trans (o_iconst (v := (-1)) d_Pa_digit_19 (by decide)) ?_
      exact s_iret d_Pa_digit_20 rfl h
    · refine Eq.trans (o_iload_n d_Pa_digit_12 rfl) ?_
      refine Eq.trans (o_bipush (v := 48) d_Pa_digit_13 (by decide)) ?_
      refine Eq.trans (o_isub d_Pa_digit_15) ?_
      refine Eq.trans (o_goto (t := 20) d_Pa_digit_16 (by decide)) ?_
      exact s_iret d_Pa_digit_20 rfl h
theorem c_Pa_digit (D : Nat) (hD : 1 ≤ D) (o : Nat) (a1 : Int32) (T T1 : qT) (v : Int32) (h : f_Pa_digit o a1 T = some (v, T1)) : q_ev q_Mt D 38 [.int a1] (layC o T) = some (.inl (some (.int v)), layC o T1) := by
  obtain ⟨D, rfl⟩ : ∃ D', D = D' + 1 := ⟨D - 1, by omega⟩
  rw [o_ev (M := q_mPa_digit) (lo := [some (.int a1)]) rfl (Nat.le_of_ble_eq_true rfl) rfl]
  exact c_Pa_digit_0 D (by omega) o a1 T T1 v h
noncomputable def f_Pa_expect (o : Nat) (a1 : Int32) : qW Unit :=
  w_C (f_Pa_peek o) fun x1 =>
  w_if (¬ x1 = a1) (
    w_C (f_Pa_fail o) fun _ =>
    w_pure ()) (
    w_S 83 fun x2 =>
    w_s 83 ((x2 + 1)) <|
    w_pure ())
set_option maxRecDepth 100000 in
set_option maxHeartbeats 4000000 in
theorem c_Pa_expect_0 (D : Nat) (hD : 1 ≤ D) (o : Nat) (a1 : Int32)  (T T1 : qT) (v : Unit) (h : f_Pa_expect o a1 T = some (v, T1)) : q_out (q_ev q_Mt D) q_mPa_expect (0, [some (.ref (o + 4)), some (.int a1)], [], layC o T) = some (.inl (none), layC o T1) := by
  unfold f_Pa_expect at h
  refine Eq.trans (o_aload_n d_Pa_expect_0 rfl) ?_
  obtain ⟨x1, T2, h1, h⟩ := w_C_of h
  refine s_cV0i d_Pa_expect_1 pM_Pa_53 (Nat.le_of_ble_eq_true rfl) (obC_4 o) (c_Pa_peek D (by omega) o _ _ _ h1) ?_
  replace h1 := trivial; revert h; generalize T2 = T; intro h
  refine Eq.trans (o_iload_n d_Pa_expect_4 rfl) ?_
  refine s_icmp_ne (t := 21) d_Pa_expect_5 (by decide) h (fun h => ?_) (fun h => ?_)
  · refine Eq.trans (o_aload_n d_Pa_expect_21 rfl) ?_
    obtain ⟨u9, T2, h1, h⟩ := w_C_of h
    refine s_cV0v d_Pa_expect_22 pM_Pa_47 (Nat.le_of_ble_eq_true rfl) (obC_4 o) (c_Pa_fail D (by omega) o _ _ _ h1) ?_
    replace h1 := trivial; revert h; generalize T2 = T; intro h
    exact s_vret d_Pa_expect_25 rfl h
  · refine Eq.trans (o_aload_n d_Pa_expect_8 rfl) ?_
    refine Eq.trans (o_dup d_Pa_expect_9 rfl) ?_
    refine s_get d_Pa_expect_10 pF_Pa_15 (zC_Pa_at o) h (fun x2 h => ?_)
    refine Eq.trans (o_iconst (v := 1) d_Pa_expect_13 (by decide)) ?_
    refine Eq.trans (o_iadd d_Pa_expect_14) ?_
    refine s_put d_Pa_expect_15 pF_Pa_15 (zC_Pa_at o) h (fun T h => ?_)
    refine Eq.trans (o_goto (t := 25) d_Pa_expect_18 (by decide)) ?_
    exact s_vret d_Pa_expect_25 rfl h
theorem c_Pa_expect (D : Nat) (hD : 2 ≤ D) (o : Nat) (a1 : Int32) (T T1 : qT) (v : Unit) (h : f_Pa_expect o a1 T = some (v, T1)) : q_ev q_Mt D 29 [.ref (o + 4), .int a1] (layC o T) = some (.inl (none), layC o T1) := by
  obtain ⟨D, rfl⟩ : ∃ D', D = D' + 1 := ⟨D - 1, by omega⟩
  rw [o_ev (M := q_mPa_expect) (lo := [some (.ref (o + 4)), some (.int a1)]) rfl (Nat.le_of_ble_eq_true rfl) rfl]
  exact c_Pa_expect_0 D (by omega) o a1 T T1 v h
noncomputable def f_Pa_readMost (o : Nat) (a1 : (Option Nat)) : qW Unit :=
  w_C (f_Pa_peek o) fun x1 =>
  w_if (¬ x1 = 125) (
    w_C (f_Pa_peek o) fun x2 =>
    w_C (f_Pa_digit o x2) fun x3 =>
    w_nn a1 fun p4 =>
    w_DI o p4 4 4 fun x5 =>
    w_if (x5 ≤ x3) (
      w_S 83 fun x6 =>
      w_s 83 ((x6 + 1)) <|
      w_d o p4 4 5 .int (.int x3) <|
      w_pure ()) (
      w_C (f_Pa_fail o) fun _ =>
      w_pure ())) (
    w_nn a1 fun p7 =>
    w_d o p7 4 6 .boolean (.int 1) <|
    w_pure ())
set_option maxRecDepth 100000 in
set_option maxHeartbeats 4000000 in
theorem c_Pa_readMost_0 (D : Nat) (hD : 1 ≤ D) (o : Nat) (a1 : (Option Nat))  (T T1 : qT) (v : Unit) (h : f_Pa_readMost o a1 T = some (v, T1)) : q_out (q_ev q_Mt D) q_mPa_readMost (0, [some (.ref (o + 4)), some (va_rf a1), none], [], layC o T) = some (.inl (none), layC o T1) := by
  unfold f_Pa_readMost at h
  refine Eq.trans (o_aload_n d_Pa_readMost_0 rfl) ?_
  obtain ⟨x1, T2, h1, h⟩ := w_C_of h
  refine s_cV0i d_Pa_readMost_1 pM_Pa_53 (Nat.le_of_ble_eq_true rfl) (obC_4 o) (c_Pa_peek D (by omega) o _ _ _ h1) ?_
  replace h1 := trivial; revert h; generalize T2 = T; intro h
  refine Eq.trans (o_bipush (v := 125) d_Pa_readMost_4 (by decide)) ?_
  refine s_icmp_ne (t := 15) d_Pa_readMost_6 (by decide) h (fun h => ?_) (fun h => ?_)
  · refine Eq.trans (o_aload_n d_Pa_readMost_15 rfl) ?_
    obtain ⟨x2, T2, h1, h⟩ := w_C_of h
    refine s_cV0i d_Pa_readMost_16 pM_Pa_53 (Nat.le_of_ble_eq_true rfl) (obC_4 o) (c_Pa_peek D (by omega) o _ _ _ h1) ?_
    replace h1 := trivial; revert h; generalize T2 = T; intro h
    obtain ⟨x3, T2, h1, h⟩ := w_C_of h
    refine s_cS1i d_Pa_readMost_19 pM_Pa_143 (Nat.le_of_ble_eq_true rfl) (c_Pa_digit D (by omega) o _ _ _ _ h1) ?_
    replace h1 := trivial; revert h; generalize T2 = T; intro h
    refine Eq.trans (o_istore_n (lo' := [some (.ref (o + 4)), some (va_rf a1), some (.int x3)]) d_Pa_readMost_22 (Nat.le_of_ble_eq_true rfl) (by cases a1 <;> rfl)) ?_
    refine Eq.trans (o_iload_n d_Pa_readMost_23 rfl) ?_
    refine Eq.trans (o_aload_nR d_Pa_readMost_24 rfl) ?_
    obtain ⟨p4, e9, h2⟩ := w_nn_of h
    clear h; subst e9; have h := h2; clear h2
    refine s_DI d_Pa_readMost_25 pF_Pa_127 (dyC o) h (fun x5 h => ?_)
    refine s_icmp_ge (t := 36) d_Pa_readMost_28 (by decide) h (fun h => ?_) (fun h => ?_)
    · refine Eq.trans (o_aload_n d_Pa_readMost_36 rfl) ?_
      refine Eq.trans (o_dup d_Pa_readMost_37 rfl) ?_
      refine s_get d_Pa_readMost_38 pF_Pa_15 (zC_Pa_at o) h (fun x6 h => ?_)
      refine Eq.trans (o_iconst (v := 1) d_Pa_readMost_41 (by decide)) ?_
      refine Eq.trans (o_iadd d_Pa_readMost_42) ?_
      refine s_put d_Pa_readMost_43 pF_Pa_15 (zC_Pa_at o) h (fun T h => ?_)
      refine Eq.trans (o_aload_n d_Pa_readMost_46 rfl) ?_
      refine Eq.trans (o_iload_n d_Pa_readMost_47 rfl) ?_
      refine s_d d_Pa_readMost_48 pF_Pa_147 (dyC o) h (fun T h => ?_)
      exact s_vret d_Pa_readMost_51 rfl h
    · refine Eq.trans (o_aload_n d_Pa_readMost_31 rfl) ?_
      obtain ⟨u9, T2, h1, h⟩ := w_C_of h
      refine s_cV0v d_Pa_readMost_32 pM_Pa_47 (Nat.le_of_ble_eq_true rfl) (obC_4 o) (c_Pa_fail D (by omega) o _ _ _ h1) ?_
      replace h1 := trivial; revert h; generalize T2 = T; intro h
      exact s_vret d_Pa_readMost_35 rfl h
  · refine Eq.trans (o_aload_nR d_Pa_readMost_9 rfl) ?_
    refine Eq.trans (o_iconst (v := 1) d_Pa_readMost_10 (by decide)) ?_
    obtain ⟨p7, e9, h2⟩ := w_nn_of h
    clear h; subst e9; have h := h2; clear h2
    refine s_d d_Pa_readMost_11 pF_Pa_130 (dyC o) h (fun T h => ?_)
    exact s_vret d_Pa_readMost_14 rfl h
theorem c_Pa_readMost (D : Nat) (hD : 2 ≤ D) (o : Nat) (a1 : (Option Nat)) (T T1 : qT) (v : Unit) (h : f_Pa_readMost o a1 T = some (v, T1)) : q_ev q_Mt D 39 [.ref (o + 4), va_rf a1] (layC o T) = some (.inl (none), layC o T1) := by
  obtain ⟨D, rfl⟩ : ∃ D', D = D' + 1 := ⟨D - 1, by omega⟩
  rw [o_ev (M := q_mPa_readMost) (lo := [some (.ref (o + 4)), some (va_rf a1), none]) rfl (by cases a1 <;> exact Nat.le_of_ble_eq_true rfl) (by cases a1 <;> rfl)]
  exact c_Pa_readMost_0 D (by omega) o a1 T T1 v h
noncomputable def f_Pa_readBraces (o : Nat) (a1 : (Option Nat)) : qW Unit :=
  w_C (f_Pa_peek o) fun x1 =>
  w_C (f_Pa_digit o x1) fun x2 =>
  w_if (¬ x2 = ((-1))) (
    w_S 83 fun x3 =>
    w_s 83 ((x3 + 1)) <|
    w_nn a1 fun p4 =>
    w_d o p4 4 4 .int (.int x2) <|
    w_d o p4 4 5 .int (.int x2) <|
    w_C (f_Pa_peek o) fun x5 =>
    w_if (¬ x5 = 44) (
      w_C (f_Pa_expect o 125) fun _ =>
      w_pure ()) (
      w_S 83 fun x6 =>
      w_s 83 ((x6 + 1)) <|
      w_C (f_Pa_readMost o (some p4)) fun _ =>
      w_C (f_Pa_expect o 125) fun _ =>
      w_pure ())) (
    w_C (f_Pa_fail o) fun _ =>
    w_pure ())
set_option maxRecDepth 100000 in
set_option maxHeartbeats 4000000 in
theorem c_Pa_readBraces_0 (D : Nat) (hD : 2 ≤ D) (o : Nat) (a1 : (Option Nat))  (T T1 : qT) (v : Unit) (h : f_Pa_readBraces o a1 T = some (v, T1)) : q_out (q_ev q_Mt D) q_mPa_readBraces (0, [some (.ref (o + 4)), some (va_rf a1), none], [], layC o T) = some (.inl (none), layC o T1) := by
  unfold f_Pa_readBraces at h
  refine Eq.trans (o_aload_n d_Pa_readBraces_0 rfl) ?_
  obtain ⟨x1, T2, h1, h⟩ := w_C_of h
  refine s_cV0i d_Pa_readBraces_1 pM_Pa_53 (Nat.le_of_ble_eq_true rfl) (obC_4 o) (c_Pa_peek D (by omega) o _ _ _ h1) ?_
  replace h1 := trivial; revert h; generalize T2 = T; intro h
  obtain ⟨x2, T2, h1, h⟩ := w_C_of h
  refine s_cS1i d_Pa_readBraces_4 pM_Pa_143 (Nat.le_of_ble_eq_true rfl) (c_Pa_digit D (by omega) o _ _ _ _ h1) ?_
  replace h1 := trivial; revert h; generalize T2 = T; intro h
  refine Eq.trans (o_istore_n (lo' := [some (.ref (o + 4)), some (va_rf a1), some (.int x2)]) d_Pa_readBraces_7 (Nat.le_of_ble_eq_true rfl) (by cases a1 <;> rfl)) ?_
  refine Eq.trans (o_iload_n d_Pa_readBraces_8 rfl) ?_
  refine Eq.trans (o_iconst (v := (-1)) d_Pa_readBraces_9 (by decide)) ?_
  refine s_icmp_ne (t := 18) d_Pa_readBraces_10 (by decide) h (fun h => ?_) (fun h => ?_)
  · refine Eq.trans (o_aload_n d_Pa_readBraces_18 rfl) ?_
    refine Eq.trans (o_dup d_Pa_readBraces_19 rfl) ?_
    refine s_get d_Pa_readBraces_20 pF_Pa_15 (zC_Pa_at o) h (fun x3 h => ?_)
    refine Eq.trans (o_iconst (v := 1) d_Pa_readBraces_23 (by decide)) ?_
    refine Eq.trans (o_iadd d_Pa_readBraces_24) ?_
    refine s_put d_Pa_readBraces_25 pF_Pa_15 (zC_Pa_at o) h (fun T h => ?_)
    refine Eq.trans (o_aload_nR d_Pa_readBraces_28 rfl) ?_
    refine Eq.trans (o_iload_n d_Pa_readBraces_29 rfl) ?_
    obtain ⟨p4, e9, h2⟩ := w_nn_of h
    clear h; subst e9; have h := h2; clear h2
    refine s_d d_Pa_readBraces_30 pF_Pa_127 (dyC o) h (fun T h => ?_)
    refine Eq.trans (o_aload_n d_Pa_readBraces_33 rfl) ?_
    refine Eq.trans (o_iload_n d_Pa_readBraces_34 rfl) ?_
    refine s_d d_Pa_readBraces_35 pF_Pa_147 (dyC o) h (fun T h => ?_)
    refine Eq.trans (o_aload_n d_Pa_readBraces_38 rfl) ?_
    obtain ⟨x5, T2, h1, h⟩ := w_C_of h
    refine s_cV0i d_Pa_readBraces_39 pM_Pa_53 (Nat.le_of_ble_eq_true rfl) (obC_4 o) (c_Pa_peek D (by omega) o _ _ _ h1) ?_
    replace h1 := trivial; revert h; generalize T2 = T; intro h
    refine Eq.trans (o_bipush (v := 44) d_Pa_readBraces_42 (by decide)) ?_
    refine s_icmp_ne (t := 62) d_Pa_readBraces_44 (by decide) h (fun h => ?_) (fun h => ?_)
    · refine Eq.trans (o_aload_n d_Pa_readBraces_62 rfl) ?_
      refine Eq.trans (o_bipush (v := 125) d_Pa_readBraces_63 (by decide)) ?_
      obtain ⟨u9, T2, h1, h⟩ := w_C_of h
      refine s_cV1v d_Pa_readBraces_65 pM_Pa_92 (Nat.le_of_ble_eq_true rfl) (obC_4 o) (c_Pa_expect D (by omega) o _ _ _ _ h1) ?_
      replace h1 := trivial; revert h; generalize T2 = T; intro h
      exact s_vret d_Pa_readBraces_68 rfl h
    · refine Eq.trans (o_aload_n d_Pa_readBraces_47 rfl) ?_
      refine Eq.trans (o_dup d_Pa_readBraces_48 rfl) ?_
      refine s_get d_Pa_readBraces_49 pF_Pa_15 (zC_Pa_at o) h (fun x6 h => ?_)
      refine Eq.trans (o_iconst (v := 1) d_Pa_readBraces_52 (by decide)) ?_
      refine Eq.trans (o_iadd d_Pa_readBraces_53) ?_
      refine s_put d_Pa_readBraces_54 pF_Pa_15 (zC_Pa_at o) h (fun T h => ?_)
      refine Eq.trans (o_aload_n d_Pa_readBraces_57 rfl) ?_
      refine Eq.trans (o_aload_n d_Pa_readBraces_58 rfl) ?_
      obtain ⟨u9, T2, h1, h⟩ := w_C_of h
      refine s_cV1v d_Pa_readBraces_59 pM_Pa_150 (Nat.le_of_ble_eq_true rfl) (obC_4 o) (c_Pa_readMost D (by omega) o _ _ _ _ h1) ?_
      replace h1 := trivial; revert h; generalize T2 = T; intro h
      refine Eq.trans (o_aload_n d_Pa_readBraces_62 rfl) ?_
      refine Eq.trans (o_bipush (v := 125) d_Pa_readBraces_63 (by decide)) ?_
      obtain ⟨u9, T2, h1, h⟩ := w_C_of h
      refine s_cV1v d_Pa_readBraces_65 pM_Pa_92 (Nat.le_of_ble_eq_true rfl) (obC_4 o) (c_Pa_expect D (by omega) o _ _ _ _ h1) ?_
      replace h1 := trivial; revert h; generalize T2 = T; intro h
      exact s_vret d_Pa_readBraces_68 rfl h
  · refine Eq.trans (o_aload_n d_Pa_readBraces_13 rfl) ?_
    obtain ⟨u9, T2, h1, h⟩ := w_C_of h
    refine s_cV0v d_Pa_readBraces_14 pM_Pa_47 (Nat.le_of_ble_eq_true rfl) (obC_4 o) (c_Pa_fail D (by omega) o _ _ _ h1) ?_
    replace h1 := trivial; revert h; generalize T2 = T; intro h
    exact s_vret d_Pa_readBraces_17 rfl h
theorem c_Pa_readBraces (D : Nat) (hD : 3 ≤ D) (o : Nat) (a1 : (Option Nat)) (T T1 : qT) (v : Unit) (h : f_Pa_readBraces o a1 T = some (v, T1)) : q_ev q_Mt D 37 [.ref (o + 4), va_rf a1] (layC o T) = some (.inl (none), layC o T1) := by
  obtain ⟨D, rfl⟩ : ∃ D', D = D' + 1 := ⟨D - 1, by omega⟩
  rw [o_ev (M := q_mPa_readBraces) (lo := [some (.ref (o + 4)), some (va_rf a1), none]) rfl (by cases a1 <;> exact Nat.le_of_ble_eq_true rfl) (by cases a1 <;> rfl)]
  exact c_Pa_readBraces_0 D (by omega) o a1 T T1 v h
noncomputable def k_Pa_readCount_131 (o : Nat) (v1 : (Option Nat)) : qW Unit :=
  w_S 85 fun x1 =>
  w_if (¬ x1 = ((-1))) (
    w_pure ()) (
    w_C (f_Pa_peek o) fun x2 =>
    w_if (¬ x2 = 63) (
      w_pure ()) (
      w_nn v1 fun p3 =>
      w_d o p3 4 8 .boolean (.int 1) <|
      w_S 83 fun x4 =>
      w_s 83 ((x4 + 1)) <|
      w_pure ()))
noncomputable def f_Pa_readCount (o : Nat) (a1 : (Option Nat)) : qW Unit :=
  w_C (f_Pa_peek o) fun x1 =>
  w_if (x1 = 42) (
    w_nn a1 fun p2 =>
    w_d o p2 4 4 .int (.int 0) <|
    w_d o p2 4 6 .boolean (.int 1) <|
    w_S 83 fun x3 =>
    w_s 83 ((x3 + 1)) <|
    k_Pa_readCount_131 o (some p2)) (
    w_if (x1 = 43) (
      w_nn a1 fun p4 =>
      w_d o p4 4 4 .int (.int 0) <|
      w_d o p4 4 7 .boolean (.int 1) <|
      w_S 83 fun x5 =>
      w_s 83 ((x5 + 1)) <|
      k_Pa_readCount_131 o (some p4)) (
      w_if (x1 = 63) (
        w_nn a1 fun p6 =>
        w_d o p6 4 4 .int (.int 0) <|
        w_S 83 fun x7 =>
        w_s 83 ((x7 + 1)) <|
        k_Pa_readCount_131 o (some p6)) (
        w_if (x1 = 123) (
          w_S 83 fun x8 =>
          w_s 83 ((x8 + 1)) <|
          w_C (f_Pa_readBraces o a1) fun _ =>
          k_Pa_readCount_131 o a1) (
          w_pure ()))))
set_option maxRecDepth 100000 in
set_option maxHeartbeats 4000000 in
theorem c_Pa_readCount_131 (D : Nat) (hD : 3 ≤ D) (o : Nat) (v1 : (Option Nat))  (T T1 : qT) (v : Unit) (h : k_Pa_readCount_131 o v1 T = some (v, T1)) : q_out (q_ev q_Mt D) q_mPa_readCount (131, [some (.ref (o + 4)), some (va_rf v1)], [], layC o T) = some (.inl (none), layC o T1) := by
  unfold k_Pa_readCount_131 at h
  refine Eq.trans (o_aload_n d_Pa_readCount_131 rfl) ?_
  refine s_get d_Pa_readCount_132 pF_Pa_21 (zC_Pa_error o) h (fun x1 h => ?_)
  refine Eq.trans (o_iconst (v := (-1)) d_Pa_readCount_135 (by decide)) ?_
  refine s_icmp_ne (t := 163) d_Pa_readCount_136 (by decide) h (fun h => ?_) (fun h => ?_)
  · exact s_vret d_Pa_readCount_163 rfl h
  · refine Eq.trans (o_aload_n d_Pa_readCount_139 rfl) ?_
    obtain ⟨x2, T2, h1, h⟩ := w_C_of h
    refine s_cV0i d_Pa_readCount_140 pM_Pa_53 (Nat.le_of_ble_eq_true rfl) (obC_4 o) (c_Pa_peek D (by omega) o _ _ _ h1) ?_
    replace h1 := trivial; revert h; generalize T2 = T; intro h
    refine Eq.trans (o_bipush (v := 63) d_Pa_readCount_143 (by decide)) ?_
    refine s_icmp_ne (t := 163) d_Pa_readCount_145 (by decide) h (fun h => ?_) (fun h => ?_)
    · exact s_vret d_Pa_readCount_163 rfl h
    · refine Eq.trans (o_aload_nR d_Pa_readCount_148 rfl) ?_
      refine Eq.trans (o_iconst (v := 1) d_Pa_readCount_149 (by decide)) ?_
      obtain ⟨p3, e9, h2⟩ := w_nn_of h
      clear h; subst e9; have h := h2; clear h2
      refine s_d d_Pa_readCount_150 pF_Pa_140 (dyC o) h (fun T h => ?_)
      refine Eq.trans (o_aload_n d_Pa_readCount_153 rfl) ?_
      refine Eq.trans (o_dup d_Pa_readCount_154 rfl) ?_
      refine s_get d_Pa_readCount_155 pF_Pa_15 (zC_Pa_at o) h (fun x4 h => ?_)
      refine Eq.trans (o_iconst (v := 1) d_Pa_readCount_158 (by decide)) ?_
      refine Eq.trans (o_iadd d_Pa_readCount_159) ?_
      refine s_put d_Pa_readCount_160 pF_Pa_15 (zC_Pa_at o) h (fun T h => ?_)
      exact s_vret d_Pa_readCount_163 rfl h
set_option maxRecDepth 100000 in
set_option maxHeartbeats 4000000 in
theorem c_Pa_readCount_0 (D : Nat) (hD : 3 ≤ D) (o : Nat) (a1 : (Option Nat))  (T T1 : qT) (v : Unit) (h : f_Pa_readCount o a1 T = some (v, T1)) : q_out (q_ev q_Mt D) q_mPa_readCount (0, [some (.ref (o + 4)), some (va_rf a1)], [], layC o T) = some (.inl (none), layC o T1) := by
  unfold f_Pa_readCount at h
  refine Eq.trans (o_aload_n d_Pa_readCount_0 rfl) ?_
  obtain ⟨x1, T2, h1, h⟩ := w_C_of h
  refine s_cV0i d_Pa_readCount_1 pM_Pa_53 (Nat.le_of_ble_eq_true rfl) (obC_4 o) (c_Pa_peek D (by omega) o _ _ _ h1) ?_
  replace h1 := trivial; revert h; generalize T2 = T; intro h
  by_cases g0 : x1 = 42
  · have h := w_if_t h g0
    refine Eq.trans (o_lookup (off := 44) (t := 48) d_Pa_readCount_4 (by decide) (by rw [g0]; decide) (by decide)) ?_
    refine Eq.trans (o_aload_nR d_Pa_readCount_48 rfl) ?_
    refine Eq.trans (o_iconst (v := 0) d_Pa_readCount_49 (by decide)) ?_
    obtain ⟨p2, e9, h2⟩ := w_nn_of h
    clear h; subst e9; have h := h2; clear h2
    refine s_d d_Pa_readCount_50 pF_Pa_127 (dyC o) h (fun T h => ?_)
    refine Eq.trans (o_aload_n d_Pa_readCount_53 rfl) ?_
    refine Eq.trans (o_iconst (v := 1) d_Pa_readCount_54 (by decide)) ?_
    refine s_d d_Pa_readCount_55 pF_Pa_130 (dyC o) h (fun T h => ?_)
    refine Eq.trans (o_aload_n d_Pa_readCount_58 rfl) ?_
    refine Eq.trans (o_dup d_Pa_readCount_59 rfl) ?_
    refine s_get d_Pa_readCount_60 pF_Pa_15 (zC_Pa_at o) h (fun x3 h => ?_)
    refine Eq.trans (o_iconst (v := 1) d_Pa_readCount_63 (by decide)) ?_
    refine Eq.trans (o_iadd d_Pa_readCount_64) ?_
    refine s_put d_Pa_readCount_65 pF_Pa_15 (zC_Pa_at o) h (fun T h => ?_)
    refine Eq.trans (o_goto (t := 131) d_Pa_readCount_68 (by decide)) ?_
    exact c_Pa_readCount_131 D hD o _ _ _ _ h
  · have h := w_if_f h g0
    by_cases g1 : x1 = 43
    · have h := w_if_t h g1
      refine Eq.trans (o_lookup (off := 67) (t := 71) d_Pa_readCount_4 (by decide) (by rw [g1]; decide) (by decide)) ?_
      refine Eq.trans (o_aload_nR d_Pa_readCount_71 rfl) ?_
      refine Eq.trans (o_iconst (v := 0) d_Pa_readCount_72 (by decide)) ?_
      obtain ⟨p4, e9, h2⟩ := w_nn_of h
      clear h; subst e9; have h := h2; clear h2
      refine s_d d_Pa_readCount_73 pF_Pa_127 (dyC o) h (fun T h => ?_)
      refine Eq.trans (o_aload_n d_Pa_readCount_76 rfl) ?_
      refine Eq.trans (o_iconst (v := 1) d_Pa_readCount_77 (by decide)) ?_
      refine s_d d_Pa_readCount_78 pF_Pa_134 (dyC o) h (fun T h => ?_)
      refine Eq.trans (o_aload_n d_Pa_readCount_81 rfl) ?_
      refine Eq.trans (o_dup d_Pa_readCount_82 rfl) ?_
      refine s_get d_Pa_readCount_83 pF_Pa_15 (zC_Pa_at o) h (fun x5 h => ?_)
      refine Eq.trans (o_iconst (v := 1) d_Pa_readCount_86 (by decide)) ?_
      refine Eq.trans (o_iadd d_Pa_readCount_87) ?_
      refine s_put d_Pa_readCount_88 pF_Pa_15 (zC_Pa_at o) h (fun T h => ?_)
      refine Eq.trans (o_goto (t := 131) d_Pa_readCount_91 (by decide)) ?_
      exact c_Pa_readCount_131 D hD o _ _ _ _ h
    · have h := w_if_f h g1
      by_cases g2 : x1 = 63
      · have h := w_if_t h g2
        refine Eq.trans (o_lookup (off := 90) (t := 94) d_Pa_readCount_4 (by decide) (by rw [g2]; decide) (by decide)) ?_
        refine Eq.trans (o_aload_nR d_Pa_readCount_94 rfl) ?_
        refine Eq.trans (o_iconst (v := 0) d_Pa_readCount_95 (by decide)) ?_
        obtain ⟨p6, e9, h2⟩ := w_nn_of h
        clear h; subst e9; have h := h2; clear h2
        refine s_d d_Pa_readCount_96 pF_Pa_127 (dyC o) h (fun T h => ?_)
        refine Eq.trans (o_aload_n d_Pa_readCount_99 rfl) ?_
        refine Eq.trans (o_dup d_Pa_readCount_100 rfl) ?_
        refine s_get d_Pa_readCount_101 pF_Pa_15 (zC_Pa_at o) h (fun x7 h => ?_)
        refine Eq.trans (o_iconst (v := 1) d_Pa_readCount_104 (by decide)) ?_
        refine Eq.trans (o_iadd d_Pa_readCount_105) ?_
        refine s_put d_Pa_readCount_106 pF_Pa_15 (zC_Pa_at o) h (fun T h => ?_)
        refine Eq.trans (o_goto (t := 131) d_Pa_readCount_109 (by decide)) ?_
        exact c_Pa_readCount_131 D hD o _ _ _ _ h
      · have h := w_if_f h g2
        by_cases g3 : x1 = 123
        · have h := w_if_t h g3
          refine Eq.trans (o_lookup (off := 108) (t := 112) d_Pa_readCount_4 (by decide) (by rw [g3]; decide) (by decide)) ?_
          refine Eq.trans (o_aload_n d_Pa_readCount_112 rfl) ?_
          refine Eq.trans (o_dup d_Pa_readCount_113 rfl) ?_
          refine s_get d_Pa_readCount_114 pF_Pa_15 (zC_Pa_at o) h (fun x8 h => ?_)
          refine Eq.trans (o_iconst (v := 1) d_Pa_readCount_117 (by decide)) ?_
          refine Eq.trans (o_iadd d_Pa_readCount_118) ?_
          refine s_put d_Pa_readCount_119 pF_Pa_15 (zC_Pa_at o) h (fun T h => ?_)
          refine Eq.trans (o_aload_n d_Pa_readCount_122 rfl) ?_
          refine Eq.trans (o_aload_nR d_Pa_readCount_123 rfl) ?_
          obtain ⟨u9, T2, h1, h⟩ := w_C_of h
          refine s_cV1v d_Pa_readCount_124 pM_Pa_137 (Nat.le_of_ble_eq_true rfl) (obC_4 o) (c_Pa_readBraces D (by omega) o _ _ _ _ h1) ?_
          replace h1 := trivial; revert h; generalize T2 = T; intro h
          refine Eq.trans (o_goto (t := 131) d_Pa_readCount_127 (by decide)) ?_
          exact c_Pa_readCount_131 D hD o _ _ _ _ h
        · have h := w_if_f h g3
          refine Eq.trans (o_lookup (off := 126) (t := 130) d_Pa_readCount_4 (by decide) (by
            show Op.lookupswitch.offset [(42, 44), (43, 67), (63, 90), (123, 108)] 126 _ = 126
            rw [Op.lookupswitch.offset_cons, if_neg (i32_ne (x := x1) (c := 42) (k := 42) (by decide) g0)]
            rw [Op.lookupswitch.offset_cons, if_neg (i32_ne (x := x1) (c := 43) (k := 43) (by decide) g1)]
            rw [Op.lookupswitch.offset_cons, if_neg (i32_ne (x := x1) (c := 63) (k := 63) (by decide) g2)]
            rw [Op.lookupswitch.offset_cons, if_neg (i32_ne (x := x1) (c := 123) (k := 123) (by decide) g3)]
            rfl) (by decide)) ?_
          exact s_vret d_Pa_readCount_130 rfl h
theorem c_Pa_readCount (D : Nat) (hD : 4 ≤ D) (o : Nat) (a1 : (Option Nat)) (T T1 : qT) (v : Unit) (h : f_Pa_readCount o a1 T = some (v, T1)) : q_ev q_Mt D 36 [.ref (o + 4), va_rf a1] (layC o T) = some (.inl (none), layC o T1) := by
  obtain ⟨D, rfl⟩ : ∃ D', D = D' + 1 := ⟨D - 1, by omega⟩
  rw [o_ev (M := q_mPa_readCount) (lo := [some (.ref (o + 4)), some (va_rf a1)]) rfl (by cases a1 <;> exact Nat.le_of_ble_eq_true rfl) (by cases a1 <;> rfl)]
  exact c_Pa_readCount_0 D (by omega) o a1 T T1 v h
noncomputable def k_Cs_invert_11 (o : Nat) (v1 : Int32) (v2 : Int32) : qW (qJ ⊕ Unit) :=
  w_if (4 ≤ v2) (
    w_rt ()) (
    w_L 192 (((v1 * 4) + v2)) fun y1 =>
    w_l 192 (((v1 * 4) + v2)) ((y1 ^^^ (-1 : Int64))) <|
    w_go 11 [.int v1, .int (v2 + 1)] [])
noncomputable def k_Cs_invert_0 (o : Nat) (a1 : Int32) : qW (qJ ⊕ Unit) :=
  w_C (f_Cs_isOpen o a1) fun x1 =>
  w_if (¬ x1 = 0) (
    w_go 11 [.int a1, .int 0] []) (
    w_rt ())
noncomputable def b_Cs_invert (o : Nat) : qJ → qW (qJ ⊕ Unit) := fun x => match x with
  | (0, [.int a1], []) => k_Cs_invert_0 o a1
  | (11, [.int v1, .int v2], []) => k_Cs_invert_11 o v1 v2
  | _ => w_no
noncomputable def f_Cs_invert (o : Nat) (a1 : Int32) : qW Unit := w_fix (b_Cs_invert o) (0, [.int a1], [])
set_option maxRecDepth 100000 in
set_option maxHeartbeats 4000000 in
theorem c_Cs_invert_11 (D : Nat) (hD : 1 ≤ D) (o : Nat) (n : Nat) (ih_11 : ∀ (v1 : Int32) (v2 : Int32)  (T T2 : qT) (v : Unit), w_run (b_Cs_invert o) n (11, [.int v1, .int v2], []) T = some (v, T2) → q_out (q_ev q_Mt D) q_mCs_invert (11, [some (.ref (o + 2)), some (.int v1), some (.int v2)], [], layC o T) = some (.inl (none), layC o T2)) (v1 : Int32) (v2 : Int32)  (T T1 T2 : qT) (rr : qJ ⊕ Unit) (v : Unit) (h : k_Cs_invert_11 o v1 v2 T = some (rr, T1)) (hE : w_end (b_Cs_invert o) n rr T1 = some (v, T2)) : q_out (q_ev q_Mt D) q_mCs_invert (11, [some (.ref (o + 2)), some (.int v1), some (.int v2)], [], layC o T) = some (.inl (none), layC o T2) := by
  unfold k_Cs_invert_11 at h
  refine Eq.trans (o_iload_n d_Cs_invert_11 rfl) ?_
  refine Eq.trans (o_iconst (v := 4) d_Cs_invert_12 (by decide)) ?_
  refine s_icmp_ge (t := 46) d_Cs_invert_13 (by decide) h (fun h => ?_) (fun h => ?_)
  · exact s_vretJ d_Cs_invert_46 rfl h hE
  · refine Eq.trans (o_aload_n d_Cs_invert_16 rfl) ?_
    refine s_ref d_Cs_invert_17 pF_Cs_11 (zC_Cs_bits o) ?_
    refine Eq.trans (o_iload_n d_Cs_invert_20 rfl) ?_
    refine Eq.trans (o_iconst (v := 4) d_Cs_invert_21 (by decide)) ?_
    refine Eq.trans (o_imul d_Cs_invert_22) ?_
    refine Eq.trans (o_iload_n d_Cs_invert_23 rfl) ?_
    refine Eq.trans (o_iadd d_Cs_invert_24) ?_
    refine Eq.trans (o_aload_n d_Cs_invert_25 rfl) ?_
    refine s_ref d_Cs_invert_26 pF_Cs_11 (zC_Cs_bits o) ?_
    refine Eq.trans (o_iload_n d_Cs_invert_29 rfl) ?_
    refine Eq.trans (o_iconst (v := 4) d_Cs_invert_30 (by decide)) ?_
    refine Eq.trans (o_imul d_Cs_invert_31) ?_
    refine Eq.trans (o_iload_n d_Cs_invert_32 rfl) ?_
    refine Eq.trans (o_iadd d_Cs_invert_33) ?_
    refine s_lald d_Cs_invert_34 (rC_3 o) h (fun y1 h => ?_)
    refine Eq.trans (o_ldc2 d_Cs_invert_35 pL_Cs_35) ?_
    refine Eq.trans (o_lxor d_Cs_invert_38) ?_
    refine s_last d_Cs_invert_39 (rC_3 o) h (fun T h => ?_)
    refine Eq.trans (o_iinc (v := (v2 + 1)) (lo' := [some (.ref (o + 2)), some (.int v1), some (.int (v2 + 1))]) d_Cs_invert_40 rfl (by rw [show Int32.ofInt 1 = 1 from by decide]) (Nat.le_of_ble_eq_true rfl) rfl) ?_
    refine Eq.trans (o_goto (t := 11) d_Cs_invert_43 (by decide)) ?_
    exact ih_11 _ _ _ _ _ (s_jump h hE)
set_option maxRecDepth 100000 in
set_option maxHeartbeats 4000000 in
theorem c_Cs_invert_0 (D : Nat) (hD : 1 ≤ D) (o : Nat) (n : Nat) (ih_11 : ∀ (v1 : Int32) (v2 : Int32)  (T T2 : qT) (v : Unit), w_run (b_Cs_invert o) n (11, [.int v1, .int v2], []) T = some (v, T2) → q_out (q_ev q_Mt D) q_mCs_invert (11, [some (.ref (o + 2)), some (.int v1), some (.int v2)], [], layC o T) = some (.inl (none), layC o T2)) (a1 : Int32)  (T T1 T2 : qT) (rr : qJ ⊕ Unit) (v : Unit) (h : k_Cs_invert_0 o a1 T = some (rr, T1)) (hE : w_end (b_Cs_invert o) n rr T1 = some (v, T2)) : q_out (q_ev q_Mt D) q_mCs_invert (0, [some (.ref (o + 2)), some (.int a1), none], [], layC o T) = some (.inl (none), layC o T2) := by
  unfold k_Cs_invert_0 at h
  refine Eq.trans (o_aload_n d_Cs_invert_0 rfl) ?_
  refine Eq.trans (o_iload_n d_Cs_invert_1 rfl) ?_
  obtain ⟨x1, T2, h1, h⟩ := w_C_of h
  refine s_cV1i d_Cs_invert_2 pM_Cs_25 (Nat.le_of_ble_eq_true rfl) (obC_2 o) (c_Cs_isOpen D (by omega) o _ _ _ _ h1) ?_
  replace h1 := trivial; revert h; generalize T2 = T; intro h
  refine s_if_ne (t := 9) d_Cs_invert_5 (by decide) h (fun h => ?_) (fun h => ?_)
  · refine Eq.trans (o_iconst (v := 0) d_Cs_invert_9 (by decide)) ?_
    refine Eq.trans (o_istore_n (lo' := [some (.ref (o + 2)), some (.int a1), some (.int 0)]) d_Cs_invert_10 (Nat.le_of_ble_eq_true rfl) rfl) ?_
    exact ih_11 _ _ _ _ _ (s_jump h hE)
  · exact s_vretJ d_Cs_invert_8 rfl h hE
theorem c_Cs_invert_lp (D : Nat) (hD : 1 ≤ D) (o : Nat) : ∀ n : Nat, (∀ (v1 : Int32) (v2 : Int32)  (T T2 : qT) (v : Unit), w_run (b_Cs_invert o) n (11, [.int v1, .int v2], []) T = some (v, T2) → q_out (q_ev q_Mt D) q_mCs_invert (11, [some (.ref (o + 2)), some (.int v1), some (.int v2)], [], layC o T) = some (.inl (none), layC o T2)) := by
  intro n
  induction n with
  | zero => exact (fun v1 v2 T T2 v h => by cases h)
  | succ n ih =>
    have ih_11 := ih
    · intro v1 v2 T T2 v h
      obtain ⟨rr, T1, hb, hE⟩ := w_run_succ h
      exact c_Cs_invert_11 D hD o n ih_11 v1 v2 T T1 T2 rr v hb hE
theorem c_Cs_invert (D : Nat) (hD : 2 ≤ D) (o : Nat) (a1 : Int32) (T T2 : qT) (v : Unit) (h : f_Cs_invert o a1 T = some (v, T2)) : q_ev q_Mt D 21 [.ref (o + 2), .int a1] (layC o T) = some (.inl (none), layC o T2) := by
  obtain ⟨D, rfl⟩ : ∃ D', D = D' + 1 := ⟨D - 1, by omega⟩
  obtain ⟨n, hn⟩ := w_fix_iff.mp h
  cases n with
  | zero => cases hn
  | succ n =>
    obtain ⟨rr, T1, hb, hE⟩ := w_run_succ hn
    have hl := c_Cs_invert_lp D (by omega) o n
    have ih_11 := hl
    rw [o_ev (M := q_mCs_invert) (lo := [some (.ref (o + 2)), some (.int a1), none]) rfl (Nat.le_of_ble_eq_true rfl) rfl]
    exact c_Cs_invert_0 D (by omega) o n ih_11 a1 T T1 T2 rr v hb hE
noncomputable def f_Pa_isItem (o : Nat) (a1 : Int32) : qW Int32 :=
  w_if (a1 = ((-1))) (
    w_ret .boolean 0) (
    w_if (a1 = 93) (
      w_ret .boolean 0) (
      w_if (a1 = 91) (
        w_ret .boolean 0) (
        w_if (a1 = 92) (
          w_ret .boolean 0) (
          w_if (a1 = 45) (
            w_ret .boolean 0) (
            w_if (a1 = 94) (
              w_ret .boolean 0) (
              w_ret .boolean 1))))))
set_option maxRecDepth 100000 in
set_option maxHeartbeats 4000000 in
theorem c_Pa_isItem_0 (D : Nat) (hD : 0 ≤ D) (o : Nat) (a1 : Int32)  (T T1 : qT) (v : Int32) (h : f_Pa_isItem o a1 T = some (v, T1)) : q_out (q_ev q_Mt D) q_mPa_isItem (0, [some (.int a1)], [], layC o T) = some (.inl (some (.int v)), layC o T1) := by
  unfold f_Pa_isItem at h
  refine Eq.trans (o_iload_n d_Pa_isItem_0 rfl) ?_
  refine Eq.trans (o_iconst (v := (-1)) d_Pa_isItem_1 (by decide)) ?_
  refine s_icmp_eq (t := 39) d_Pa_isItem_2 (by decide) h (fun h => ?_) (fun h => ?_)
  · refine Eq.trans (o_iconst (v := 0) d_Pa_isItem_39 (by decide)) ?_
    exact s_iret d_Pa_isItem_40 rfl h
  · refine Eq.trans (o_iload_n d_Pa_isItem_5 rfl) ?_
    refine Eq.trans (o_bipush (v := 93) d_Pa_isItem_6 (by decide)) ?_
    refine s_icmp_eq (t := 39) d_Pa_isItem_8 (by decide) h (fun h => ?_) (fun h => ?_)
    · refine Eq.trans (o_iconst (v := 0) d_Pa_isItem_39 (by decide)) ?_
      exact s_iret d_Pa_isItem_40 rfl h
    · refine Eq.trans (o_iload_n d_Pa_isItem_11 rfl) ?_
      refine Eq.trans (o_bipush (v := 91) d_Pa_isItem_12 (by decide)) ?_
      refine s_icmp_eq (t := 39) d_Pa_isItem_14 (by decide) h (fun h => ?_) (fun h => ?_)
      · refine Eq.trans (o_iconst (v := 0) d_Pa_isItem_39 (by decide)) ?_
        exact s_iret d_Pa_isItem_40 rfl h
      · refine Eq.trans (o_iload_n d_Pa_isItem_17 rfl) ?_
        refine Eq.trans (o_bipush (v := 92) d_Pa_isItem_18 (by decide)) ?_
        refine s_icmp_eq (t := 39) d_Pa_isItem_20 (by decide) h (fun h => ?_) (fun h => ?_)
        · refine Eq.trans (o_iconst (v := 0) d_Pa_isItem_39 (by decide)) ?_
          exact s_iret d_Pa_isItem_40 rfl h
        · refine Eq.trans (o_iload_n d_Pa_isItem_23 rfl) ?_
          refine Eq.trans (o_bipush (v := 45) d_Pa_isItem_24 (by decide)) ?_
          refine s_icmp_eq (t := 39) d_Pa_isItem_26 (by decide) h (fun h => ?_) (fun h => ?_)
          · refine Eq.trans (o_iconst (v := 0) d_Pa_isItem_39 (by decide)) ?_
            exact s_iret d_Pa_isItem_40 rfl h
          · refine Eq.trans (o_iload_n d_Pa_isItem_29 rfl) ?_
            refine Eq.trans (o_bipush (v := 94) d_Pa_isItem_30 (by decide)) ?_
            refine s_icmp_eq (t := 39) d_Pa_isItem_32 (by decide) h (fun h => ?_) (fun h => ?_)
            · refine Eq.trans (o_iconst (v := 0) d_Pa_isItem_39 (by decide)) ?_
              exact s_iret d_Pa_isItem_40 rfl h
            · refine Eq.trans (o_iconst (v := 1) d_Pa_isItem_35 (by decide)) ?_
              refine Eq.trans (o_goto (t := 40) d_Pa_isItem_36 (by decide)) ?_
              exact s_iret d_Pa_isItem_40 rfl h
theorem c_Pa_isItem (D : Nat) (hD : 1 ≤ D) (o : Nat) (a1 : Int32) (T T1 : qT) (v : Int32) (h : f_Pa_isItem o a1 T = some (v, T1)) : q_ev q_Mt D 33 [.int a1] (layC o T) = some (.inl (some (.int v)), layC o T1) := by
  obtain ⟨D, rfl⟩ : ∃ D', D = D' + 1 := ⟨D - 1, by omega⟩
  rw [o_ev (M := q_mPa_isItem) (lo := [some (.int a1)]) rfl (Nat.le_of_ble_eq_true rfl) rfl]
  exact c_Pa_isItem_0 D (by omega) o a1 T T1 v h
