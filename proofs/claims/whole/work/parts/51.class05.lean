noncomputable def f_Cs_forgetAll (o : Nat)  : qW Unit :=
  w_s 41 0 <|
  w_C (f_Ar_fill3 o ((0 : Int64))) fun _ =>
  w_pure ()
set_option maxRecDepth 100000 in
set_option maxHeartbeats 4000000 in
theorem c_Cs_forgetAll_0 (D : Nat) (hD : 1 ≤ D) (o : Nat)   (T T1 : qT) (v : Unit) (h : f_Cs_forgetAll o T = some (v, T1)) : q_out (q_ev q_Mt D) q_mCs_forgetAll (0, [some (.ref (o + 2))], [], layC o T) = some (.inl (none), layC o T1) := by
  unfold f_Cs_forgetAll at h
  refine Eq.trans (o_aload_n d_Cs_forgetAll_0 rfl) ?_
  refine Eq.trans (o_iconst (v := 0) d_Cs_forgetAll_1 (by decide)) ?_
  refine s_put d_Cs_forgetAll_2 pF_Cs_15 (zC_Cs_used o) h (fun T h => ?_)
  refine Eq.trans (o_aload_n d_Cs_forgetAll_5 rfl) ?_
  refine s_ref d_Cs_forgetAll_6 pF_Cs_11 (zC_Cs_bits o) ?_
  refine Eq.trans (o_lconst (v := 0) d_Cs_forgetAll_9 (by decide)) ?_
  obtain ⟨u9, T2, h1, h⟩ := w_C_of h
  refine s_cS2v d_Cs_forgetAll_10 pM_Cs_19 (Nat.le_of_ble_eq_true rfl) (c_Ar_fill3 D (by omega) o _ _ _ _ h1) ?_
  replace h1 := trivial; revert h; generalize T2 = T; intro h
  exact s_vret d_Cs_forgetAll_13 rfl h
theorem c_Cs_forgetAll (D : Nat) (hD : 2 ≤ D) (o : Nat)  (T T1 : qT) (v : Unit) (h : f_Cs_forgetAll o  T = some (v, T1)) : q_ev q_Mt D 18 [.ref (o + 2)] (layC o T) = some (.inl (none), layC o T1) := by
  obtain ⟨D, rfl⟩ : ∃ D', D = D' + 1 := ⟨D - 1, by omega⟩
  rw [o_ev (M := q_mCs_forgetAll) (lo := [some (.ref (o + 2))]) rfl (Nat.le_of_ble_eq_true rfl) rfl]
  exact c_Cs_forgetAll_0 D (by omega) o  T T1 v h
noncomputable def f_Pa_parse (o : Nat) (a1 : Int32) : qW (Option Nat) :=
  w_s 82 ((if 48 < a1 then 48 else a1)) <|
  w_s 83 0 <|
  w_s 84 0 <|
  w_s 85 ((-1)) <|
  w_C (f_Cs_forgetAll o) fun _ =>
  w_C (g_rd o 40 0 none 0) fun u1 =>
  w_S 83 fun x2 =>
  w_S 82 fun x3 =>
  w_if (x3 ≤ x2) (
    w_pure u1) (
    w_C (f_Pa_fail o) fun _ =>
    w_pure u1)
set_option maxRecDepth 100000 in
set_option maxHeartbeats 4000000 in
theorem c_Pa_parse_0 (D : Nat) (hD : 44 ≤ D) (o : Nat) (a1 : Int32)  (T T1 : qT) (v : (Option Nat)) (h : f_Pa_parse o a1 T = some (v, T1)) : q_out (q_ev q_Mt D) q_mPa_parse (0, [some (.ref (o + 4)), some (.int a1), none], [], layC o T) = some (.inl (some (va_rf v)), layC o T1) := by
  unfold f_Pa_parse at h
  refine Eq.trans (o_aload_n d_Pa_parse_0 rfl) ?_
  refine Eq.trans (o_iload_n d_Pa_parse_1 rfl) ?_
  refine Eq.trans (o_aload_n d_Pa_parse_2 rfl) ?_
  refine s_ref d_Pa_parse_3 pF_Pa_24 (zC_Pa_text o) ?_
  refine Eq.trans (o_alen (v := 48) d_Pa_parse_6 ((rC_1 o _).1) (by decide) (by decide)) ?_
  refine Eq.trans (o_min d_Pa_parse_7 pM_Pa_32 (Nat.le_of_ble_eq_true rfl)) ?_
  refine s_put d_Pa_parse_10 pF_Pa_9 (zC_Pa_length o) h (fun T h => ?_)
  refine Eq.trans (o_aload_n d_Pa_parse_13 rfl) ?_
  refine Eq.trans (o_iconst (v := 0) d_Pa_parse_14 (by decide)) ?_
  refine s_put d_Pa_parse_15 pF_Pa_15 (zC_Pa_at o) h (fun T h => ?_)
  refine Eq.trans (o_aload_n d_Pa_parse_18 rfl) ?_
  refine Eq.trans (o_iconst (v := 0) d_Pa_parse_19 (by decide)) ?_
  refine s_put d_Pa_parse_20 pF_Pa_18 (zC_Pa_groups o) h (fun T h => ?_)
  refine Eq.trans (o_aload_n d_Pa_parse_23 rfl) ?_
  refine Eq.trans (o_iconst (v := (-1)) d_Pa_parse_24 (by decide)) ?_
  refine s_put d_Pa_parse_25 pF_Pa_21 (zC_Pa_error o) h (fun T h => ?_)
  refine Eq.trans (o_aload_n d_Pa_parse_28 rfl) ?_
  refine s_ref d_Pa_parse_29 pF_Pa_28 (zC_Pa_sets o) ?_
  obtain ⟨u9, T2, h1, h⟩ := w_C_of h
  refine s_cV0v d_Pa_parse_32 pM_Pa_38 (Nat.le_of_ble_eq_true rfl) (obC_2 o) (c_Cs_forgetAll D (by omega) o _ _ _ h1) ?_
  replace h1 := trivial; revert h; generalize T2 = T; intro h
  refine Eq.trans (o_aload_n d_Pa_parse_35 rfl) ?_
  refine Eq.trans (o_iconst (v := 0) d_Pa_parse_36 (by decide)) ?_
  obtain ⟨u1, T2, h1, h⟩ := w_C_of h
  refine s_cV1r d_Pa_parse_37 pM_Pa_43 (Nat.le_of_ble_eq_true rfl) (obC_4 o) ((c_g_rd o 40 D (by omega)).1 _ _ _ _ _ h1) ?_
  replace h1 := trivial; revert h; generalize T2 = T; intro h
  refine Eq.trans (o_astore_nR (lo' := [some (.ref (o + 4)), some (.int a1), some (va_rf u1)]) d_Pa_parse_40 (Nat.le_of_ble_eq_true rfl) rfl) ?_
  refine Eq.trans (o_aload_n d_Pa_parse_41 rfl) ?_
  refine s_get d_Pa_parse_42 pF_Pa_15 (zC_Pa_at o) h (fun x2 h => ?_)
  refine Eq.trans (o_aload_n d_Pa_parse_45 rfl) ?_
  refine s_get d_Pa_parse_46 pF_Pa_9 (zC_Pa_length o) h (fun x3 h => ?_)
  refine s_icmp_ge (t := 56) d_Pa_parse_49 (by decide) h (fun h => ?_) (fun h => ?_)
  · refine Eq.trans (o_aload_nR d_Pa_parse_56 rfl) ?_
    exact s_aret d_Pa_parse_57 rfl h
  · refine Eq.trans (o_aload_n d_Pa_parse_52 rfl) ?_
    obtain ⟨u9, T2, h1, h⟩ := w_C_of h
    refine s_cV0v d_Pa_parse_53 pM_Pa_47 (Nat.le_of_ble_eq_true rfl) (obC_4 o) (c_Pa_fail D (by omega) o _ _ _ h1) ?_
    replace h1 := trivial; revert h; generalize T2 = T; intro h
    refine Eq.trans (o_aload_nR d_Pa_parse_56 rfl) ?_
    exact s_aret d_Pa_parse_57 rfl h
theorem c_Pa_parse (D : Nat) (hD : 45 ≤ D) (o : Nat) (a1 : Int32) (T T1 : qT) (v : (Option Nat)) (h : f_Pa_parse o a1 T = some (v, T1)) : q_ev q_Mt D 23 [.ref (o + 4), .int a1] (layC o T) = some (.inl (some (va_rf v)), layC o T1) := by
  obtain ⟨D, rfl⟩ : ∃ D', D = D' + 1 := ⟨D - 1, by omega⟩
  rw [o_ev (M := q_mPa_parse) (lo := [some (.ref (o + 4)), some (.int a1), none]) rfl (Nat.le_of_ble_eq_true rfl) rfl]
  exact c_Pa_parse_0 D (by omega) o a1 T T1 v h
noncomputable def f_Pr_add (o : Nat) (a1 : Int32) (a2 : Int32) (a3 : Int32) : qW Unit :=
  w_S 103 fun x1 =>
  w_if (x1 < 0) (
    w_pure ()) (
    w_S 103 fun x2 =>
    w_if (x2 < 160) (
      w_S 103 fun x3 =>
      w_a 6 160 x3 a1 <|
      w_S 103 fun x4 =>
      w_a 7 160 x4 a2 <|
      w_S 103 fun x5 =>
      w_a 8 160 x5 a3 <|
      w_S 103 fun x6 =>
      w_s 103 ((x6 + 1)) <|
      w_pure ()) (
      w_pure ()))
set_option maxRecDepth 100000 in
set_option maxHeartbeats 4000000 in
theorem c_Pr_add_0 (D : Nat) (hD : 0 ≤ D) (o : Nat) (a1 : Int32) (a2 : Int32) (a3 : Int32)  (T T1 : qT) (v : Unit) (h : f_Pr_add o a1 a2 a3 T = some (v, T1)) : q_out (q_ev q_Mt D) q_mPr_add (0, [some (.ref (o + 5)), some (.int a1), some (.int a2), some (.int a3)], [], layC o T) = some (.inl (none), layC o T1) := by
  unfold f_Pr_add at h
  refine Eq.trans (o_aload_n d_Pr_add_0 rfl) ?_
  refine s_get d_Pr_add_1 pF_Pr_21 (zC_Pr_size o) h (fun x1 h => ?_)
  refine s_if_lt (t := 17) d_Pr_add_4 (by decide) h (fun h => ?_) (fun h => ?_)
  · exact s_vret d_Pr_add_17 rfl h
  · refine Eq.trans (o_aload_n d_Pr_add_7 rfl) ?_
    refine s_get d_Pr_add_8 pF_Pr_21 (zC_Pr_size o) h (fun x2 h => ?_)
    refine Eq.trans (o_sipush (v := 160) d_Pr_add_11 (by decide)) ?_
    refine s_icmp_lt (t := 18) d_Pr_add_14 (by decide) h (fun h => ?_) (fun h => ?_)
    · refine Eq.trans (o_aload_n d_Pr_add_18 rfl) ?_
      refine s_ref d_Pr_add_19 pF_Pr_9 (zC_Pr_kinds o) ?_
      refine Eq.trans (o_aload_n d_Pr_add_22 rfl) ?_
      refine s_get d_Pr_add_23 pF_Pr_21 (zC_Pr_size o) h (fun x3 h => ?_)
      refine Eq.trans (o_iload_n d_Pr_add_26 rfl) ?_
      refine s_iast d_Pr_add_27 (rC_6 o) h (fun T h => ?_)
      refine Eq.trans (o_aload_n d_Pr_add_28 rfl) ?_
      refine s_ref d_Pr_add_29 pF_Pr_15 (zC_Pr_xs o) ?_
      refine Eq.trans (o_aload_n d_Pr_add_32 rfl) ?_
      refine s_get d_Pr_add_33 pF_Pr_21 (zC_Pr_size o) h (fun x4 h => ?_)
      refine Eq.trans (o_iload_n d_Pr_add_36 rfl) ?_
      refine s_iast d_Pr_add_37 (rC_7 o) h (fun T h => ?_)
      refine Eq.trans (o_aload_n d_Pr_add_38 rfl) ?_
      refine s_ref d_Pr_add_39 pF_Pr_18 (zC_Pr_ys o) ?_
      refine Eq.trans (o_aload_n d_Pr_add_42 rfl) ?_
      refine s_get d_Pr_add_43 pF_Pr_21 (zC_Pr_size o) h (fun x5 h => ?_)
      refine Eq.trans (o_iload_n d_Pr_add_46 rfl) ?_
      refine s_iast d_Pr_add_47 (rC_8 o) h (fun T h => ?_)
      refine Eq.trans (o_aload_n d_Pr_add_48 rfl) ?_
      refine Eq.trans (o_dup d_Pr_add_49 rfl) ?_
      refine s_get d_Pr_add_50 pF_Pr_21 (zC_Pr_size o) h (fun x6 h => ?_)
      refine Eq.trans (o_iconst (v := 1) d_Pr_add_53 (by decide)) ?_
      refine Eq.trans (o_iadd d_Pr_add_54) ?_
      refine s_put d_Pr_add_55 pF_Pr_21 (zC_Pr_size o) h (fun T h => ?_)
      exact s_vret d_Pr_add_58 rfl h
    · exact s_vret d_Pr_add_17 rfl h
theorem c_Pr_add (D : Nat) (hD : 1 ≤ D) (o : Nat) (a1 : Int32) (a2 : Int32) (a3 : Int32) (T T1 : qT) (v : Unit) (h : f_Pr_add o a1 a2 a3 T = some (v, T1)) : q_ev q_Mt D 48 [.ref (o + 5), .int a1, .int a2, .int a3] (layC o T) = some (.inl (none), layC o T1) := by
  obtain ⟨D, rfl⟩ : ∃ D', D = D' + 1 := ⟨D - 1, by omega⟩
  rw [o_ev (M := q_mPr_add) (lo := [some (.ref (o + 5)), some (.int a1), some (.int a2), some (.int a3)]) rfl (Nat.le_of_ble_eq_true rfl) rfl]
  exact c_Pr_add_0 D (by omega) o a1 a2 a3 T T1 v h
noncomputable def k_Pr_addSplit_11 (o : Nat) (v1 : Int32) (v2 : Int32) (v3 : Int32) (s0 : Int32) (s1 : Int32) : qW Unit :=
  w_if (v3 = 0) (
    w_C (f_Pr_add o s1 s0 v2) fun _ =>
    w_pure ()) (
    w_C (f_Pr_add o s1 s0 v1) fun _ =>
    w_pure ())
noncomputable def f_Pr_addSplit (o : Nat) (a1 : Int32) (a2 : Int32) (a3 : Int32) : qW Unit :=
  w_if (a3 = 0) (
    k_Pr_addSplit_11 o a1 a2 a3 a1 1) (
    k_Pr_addSplit_11 o a1 a2 a3 a2 1)
set_option maxRecDepth 100000 in
set_option maxHeartbeats 4000000 in
theorem c_Pr_addSplit_11 (D : Nat) (hD : 1 ≤ D) (o : Nat) (v1 : Int32) (v2 : Int32) (v3 : Int32) (s0 : Int32) (s1 : Int32) (e0 : Option Value) (T T1 : qT) (v : Unit) (h : k_Pr_addSplit_11 o v1 v2 v3 s0 s1 T = some (v, T1)) : q_out (q_ev q_Mt D) q_mPr_addSplit (11, [e0, some (.int v1), some (.int v2), some (.int v3)], [.int s0, .int s1, .ref (o + 5)], layC o T) = some (.inl (none), layC o T1) := by
  unfold k_Pr_addSplit_11 at h
  refine Eq.trans (o_iload_n d_Pr_addSplit_11 rfl) ?_
  refine s_if_eq (t := 19) d_Pr_addSplit_12 (by decide) h (fun h => ?_) (fun h => ?_)
  · refine Eq.trans (o_iload_n d_Pr_addSplit_19 rfl) ?_
    obtain ⟨u9, T2, h1, h⟩ := w_C_of h
    refine s_cV3v d_Pr_addSplit_20 pM_Pr_35 (Nat.le_of_ble_eq_true rfl) (obC_5 o) (c_Pr_add D (by omega) o _ _ _ _ _ _ h1) ?_
    replace h1 := trivial; revert h; generalize T2 = T; intro h
    exact s_vret d_Pr_addSplit_23 rfl h
  · refine Eq.trans (o_iload_n d_Pr_addSplit_15 rfl) ?_
    refine Eq.trans (o_goto (t := 20) d_Pr_addSplit_16 (by decide)) ?_
    obtain ⟨u9, T2, h1, h⟩ := w_C_of h
    refine s_cV3v d_Pr_addSplit_20 pM_Pr_35 (Nat.le_of_ble_eq_true rfl) (obC_5 o) (c_Pr_add D (by omega) o _ _ _ _ _ _ h1) ?_
    replace h1 := trivial; revert h; generalize T2 = T; intro h
    exact s_vret d_Pr_addSplit_23 rfl h
set_option maxRecDepth 100000 in
set_option maxHeartbeats 4000000 in
theorem c_Pr_addSplit_0 (D : Nat) (hD : 1 ≤ D) (o : Nat) (a1 : Int32) (a2 : Int32) (a3 : Int32)  (T T1 : qT) (v : Unit) (h : f_Pr_addSplit o a1 a2 a3 T = some (v, T1)) : q_out (q_ev q_Mt D) q_mPr_addSplit (0, [some (.ref (o + 5)), some (.int a1), some (.int a2), some (.int a3)], [], layC o T) = some (.inl (none), layC o T1) := by
  unfold f_Pr_addSplit at h
  refine Eq.trans (o_aload_n d_Pr_addSplit_0 rfl) ?_
  refine Eq.trans (o_iconst (v := 1) d_Pr_addSplit_1 (by decide)) ?_
  refine Eq.trans (o_iload_n d_Pr_addSplit_2 rfl) ?_
  refine s_if_eq (t := 10) d_Pr_addSplit_3 (by decide) h (fun h => ?_) (fun h => ?_)
  · refine Eq.trans (o_iload_n d_Pr_addSplit_10 rfl) ?_
    exact c_Pr_addSplit_11 D hD o _ _ _ _ _ _ _ _ _ h
  · refine Eq.trans (o_iload_n d_Pr_addSplit_6 rfl) ?_
    refine Eq.trans (o_goto (t := 11) d_Pr_addSplit_7 (by decide)) ?_
    exact c_Pr_addSplit_11 D hD o _ _ _ _ _ _ _ _ _ h
theorem c_Pr_addSplit (D : Nat) (hD : 2 ≤ D) (o : Nat) (a1 : Int32) (a2 : Int32) (a3 : Int32) (T T1 : qT) (v : Unit) (h : f_Pr_addSplit o a1 a2 a3 T = some (v, T1)) : q_ev q_Mt D 52 [.ref (o + 5), .int a1, .int a2, .int a3] (layC o T) = some (.inl (none), layC o T1) := by
  obtain ⟨D, rfl⟩ : ∃ D', D = D' + 1 := ⟨D - 1, by omega⟩
  rw [o_ev (M := q_mPr_addSplit) (lo := [some (.ref (o + 5)), some (.int a1), some (.int a2), some (.int a3)]) rfl (Nat.le_of_ble_eq_true rfl) rfl]
  exact c_Pr_addSplit_0 D (by omega) o a1 a2 a3 T T1 v h
noncomputable def k_Pr_writeChoice_67 (o : Nat) (G : Nat → Option Nat → Int32 → qW (Option Nat)) (v2 : Int32) (v3 : Int32) (v4 : (Option Nat)) (v5 : (Option Nat)) : qW (qJ ⊕ Unit) :=
  w_nul v5 (
    w_nn v4 fun p2 =>
    w_DR o p2 5 2 fun u3 =>
    w_nul u3 (
      w_DR o p2 5 2 fun u5 =>
      w_go 24 [.int v2, .int v3] [u5]) fun p4 =>
      w_C (f_Pr_add o 2 v3 0) fun _ =>
      w_DR o p2 5 2 fun u6 =>
      w_go 24 [.int v2, .int v3] [u6]) fun p1 =>
    w_C (G 1 (some p1) v2) fun _ =>
    w_DR o p1 4 9 fun u7 =>
    w_go 67 [.int v2, .int v3] [v4, u7]
noncomputable def k_Pr_writeChoice_24 (o : Nat) (G : Nat → Option Nat → Int32 → qW (Option Nat)) (v2 : Int32) (v3 : Int32) (v4 : (Option Nat)) : qW (qJ ⊕ Unit) :=
  w_nul v4 (
    w_rt ()) fun p1 =>
    w_DR o p1 5 2 fun u2 =>
    w_nul u2 (
      w_DR o p1 5 0 fun u4 =>
      w_go 67 [.int v2, .int v3] [(some p1), u4]) fun p3 =>
      w_S 103 fun x5 =>
      w_S 103 fun x6 =>
      w_DI o p1 5 3 fun x7 =>
      w_C (f_Pr_add o 1 ((x5 + 1)) (((x6 + x7) + 2))) fun _ =>
      w_DR o p1 5 0 fun u8 =>
      w_go 67 [.int v2, .int v3] [(some p1), u8]
noncomputable def k_Pr_writeChoice_0 (o : Nat) (G : Nat → Option Nat → Int32 → qW (Option Nat)) (a1 : (Option Nat)) (a2 : Int32) : qW (qJ ⊕ Unit) :=
  w_nul a1 (
    w_rt ()) fun p1 =>
    w_if (a2 ≤ 8) (
      w_S 103 fun x2 =>
      w_is p1 o 5 <|
      w_C (f_Rw_sizeAsChoice o p1) fun x3 =>
      w_go 24 [.int a2, .int (x2 + x3)] [(some p1)]) (
      w_rt ())
noncomputable def b_Pr_writeChoice (o : Nat) (G : Nat → Option Nat → Int32 → qW (Option Nat)) : qJ → qW (qJ ⊕ Unit) := fun x => match x with
  | (0, [.int a2], [a1]) => k_Pr_writeChoice_0 o G a1 a2
  | (24, [.int v2, .int v3], [v4]) => k_Pr_writeChoice_24 o G v2 v3 v4
  | (67, [.int v2, .int v3], [v4, v5]) => k_Pr_writeChoice_67 o G v2 v3 v4 v5
  | _ => w_no
noncomputable def f_Pr_writeChoice (o : Nat) (G : Nat → Option Nat → Int32 → qW (Option Nat)) (a1 : (Option Nat)) (a2 : Int32) : qW Unit := w_fix (b_Pr_writeChoice o G) (0, [.int a2], [a1])
set_option maxRecDepth 100000 in
set_option maxHeartbeats 4000000 in
theorem c_Pr_writeChoice_67 (D : Nat) (hD : 2 ≤ D) (o : Nat) (G : Nat → Option Nat → Int32 → qW (Option Nat)) (hG0 : ∀ (p : Option Nat) (x : Int32) (T T1 : qT) (v : Option Nat), G 0 p x T = some (v, T1) → q_ev q_Mt D 49 [.ref (o + 5), va_rf p, .int x] (layC o T) = some (.inl (none), layC o T1)) (hG1 : ∀ (p : Option Nat) (x : Int32) (T T1 : qT) (v : Option Nat), G 1 p x T = some (v, T1) → q_ev q_Mt D 50 [.ref (o + 5), va_rf p, .int x] (layC o T) = some (.inl (none), layC o T1)) (hG2 : ∀ (p : Option Nat) (x : Int32) (T T1 : qT) (v : Option Nat), G 2 p x T = some (v, T1) → q_ev q_Mt D 51 [.ref (o + 5), va_rf p, .int x] (layC o T) = some (.inl (none), layC o T1)) (n : Nat) (ih_24 : ∀ (v2 : Int32) (v3 : Int32) (v4 : (Option Nat)) (e1 : Option Value) (e5 : Option Value) (T T2 : qT) (v : Unit), w_run (b_Pr_writeChoice o G) n (24, [.int v2, .int v3], [v4]) T = some (v, T2) → q_out (q_ev q_Mt D) q_mPr_writeChoice (24, [some (.ref (o + 5)), e1, some (.int v2), some (.int v3), some (va_rf v4), e5], [], layC o T) = some (.inl (none), layC o T2)) (ih_67 : ∀ (v2 : Int32) (v3 : Int32) (v4 : (Option Nat)) (v5 : (Option Nat)) (e1 : Option Value) (T T2 : qT) (v : Unit), w_run (b_Pr_writeChoice o G) n (67, [.int v2, .int v3], [v4, v5]) T = some (v, T2) → q_out (q_ev q_Mt D) q_mPr_writeChoice (67, [some (.ref (o + 5)), e1, some (.int v2), some (.int v3), some (va_rf v4), some (va_rf v5)], [], layC o T) = some (.inl (none), layC o T2)) (v2 : Int32) (v3 : Int32) (v4 : (Option Nat)) (v5 : (Option Nat)) (e1 : Option Value) (T T1 T2 : qT) (rr : qJ ⊕ Unit) (v : Unit) (h : k_Pr_writeChoice_67 o G v2 v3 v4 v5 T = some (rr, T1)) (hE : w_end (b_Pr_writeChoice o G) n rr T1 = some (v, T2)) : q_out (q_ev q_Mt D) q_mPr_writeChoice (67, [some (.ref (o + 5)), e1, some (.int v2), some (.int v3), some (va_rf v4), some (va_rf v5)], [], layC o T) = some (.inl (none), layC o T2) := by
  unfold k_Pr_writeChoice_67 at h
  refine Eq.trans (o_aloadR d_Pr_writeChoice_67 rfl) ?_
  refine s_ifnull (t := 89) d_Pr_writeChoice_69 (by decide) h (fun e9 h2 => ?_) (fun p1 e9 h2 => ?_)
  · clear h; subst e9; have h := h2; clear h2
    refine Eq.trans (o_aloadR d_Pr_writeChoice_89 rfl) ?_
    obtain ⟨p2, e9, h2⟩ := w_nn_of h
    clear h; subst e9; have h := h2; clear h2
    refine s_DR d_Pr_writeChoice_91 pF_Pr_49 (dyC o) h (fun u3 h => ?_)
    refine s_ifnull (t := 104) d_Pr_writeChoice_94 (by decide) h (fun e9 h2 => ?_) (fun p4 e9 h2 => ?_)
    · clear h; subst e9; have h := h2; clear h2
      refine Eq.trans (o_aload d_Pr_writeChoice_104 rfl) ?_
      refine s_DR d_Pr_writeChoice_106 pF_Pr_49 (dyC o) h (fun u5 h => ?_)
      refine Eq.trans (o_astoreR (lo' := [some (.ref (o + 5)), e1, some (.int v2), some (.int v3), some (va_rf u5), some (.null)]) d_Pr_writeChoice_109 (Nat.le_of_ble_eq_true rfl) rfl) ?_
      refine Eq.trans (o_goto (t := 24) d_Pr_writeChoice_111 (by decide)) ?_
      exact ih_24 _ _ _ _ _ _ _ _ (s_jump h hE)
    · clear h; subst e9; have h := h2; clear h2
      refine Eq.trans (o_aload_n d_Pr_writeChoice_97 rfl) ?_
      refine Eq.trans (o_iconst (v := 2) d_Pr_writeChoice_98 (by decide)) ?_
      refine Eq.trans (o_iload_n d_Pr_writeChoice_99 rfl) ?_
      refine Eq.trans (o_iconst (v := 0) d_Pr_writeChoice_100 (by decide)) ?_
      obtain ⟨u9, T2, h1, h⟩ := w_C_of h
      refine s_cV3v d_Pr_writeChoice_101 pM_Pr_35 (Nat.le_of_ble_eq_true rfl) (obC_5 o) (c_Pr_add D (by omega) o _ _ _ _ _ _ h1) ?_
      replace h1 := trivial; revert h; generalize T2 = T; intro h
      refine Eq.trans (o_aload d_Pr_writeChoice_104 rfl) ?_
      refine s_DR d_Pr_writeChoice_106 pF_Pr_49 (dyC o) h (fun u6 h => ?_)
      refine Eq.trans (o_astoreR (lo' := [some (.ref (o + 5)), e1, some (.int v2), some (.int v3), some (va_rf u6), some (.null)]) d_Pr_writeChoice_109 (Nat.le_of_ble_eq_true rfl) rfl) ?_
      refine Eq.trans (o_goto (t := 24) d_Pr_writeChoice_111 (by decide)) ?_
      exact ih_24 _ _ _ _ _ _ _ _ (s_jump h hE)
  · clear h; subst e9; have h := h2; clear h2
    refine Eq.trans (o_aload_n d_Pr_writeChoice_72 rfl) ?_
    refine Eq.trans (o_aload d_Pr_writeChoice_73 rfl) ?_
    refine Eq.trans (o_iload_n d_Pr_writeChoice_75 rfl) ?_
    obtain ⟨u9, T2, h1, h⟩ := w_C_of h
    refine s_cV2v d_Pr_writeChoice_76 pM_Pr_58 (Nat.le_of_ble_eq_true rfl) (obC_5 o) (hG1 _ _ _ _ _ h1) ?_
    replace h1 := trivial; revert h; generalize T2 = T; intro h
    refine Eq.trans (o_aload d_Pr_writeChoice_79 rfl) ?_
    refine s_DR d_Pr_writeChoice_81 pF_Pr_62 (dyC o) h (fun u7 h => ?_)
    refine Eq.trans (o_astoreR (lo' := [some (.ref (o + 5)), e1, some (.int v2), some (.int v3), some (va_rf v4), some (va_rf u7)]) d_Pr_writeChoice_84 (Nat.le_of_ble_eq_true rfl) (by cases v4 <;> rfl)) ?_
    refine Eq.trans (o_goto (t := 67) d_Pr_writeChoice_86 (by decide)) ?_
    exact ih_67 _ _ _ _ _ _ _ _ (s_jump h hE)
set_option maxRecDepth 100000 in
set_option maxHeartbeats 4000000 in
theorem c_Pr_writeChoice_24 (D : Nat) (hD : 2 ≤ D) (o : Nat) (G : Nat → Option Nat → Int32 → qW (Option Nat)) (hG0 : ∀ (p : Option Nat) (x : Int32) (T T1 : qT) (v : Option Nat), G 0 p x T = some (v, T1) → q_ev q_Mt D 49 [.ref (o + 5), va_rf p, .int x] (layC o T) = some (.inl (none), layC o T1)) (hG1 : ∀ (p : Option Nat) (x : Int32) (T T1 : qT) (v : Option Nat), G 1 p x T = some (v, T1) → q_ev q_Mt D 50 [.ref (o + 5), va_rf p, .int x] (layC o T) = some (.inl (none), layC o T1)) (hG2 : ∀ (p : Option Nat) (x : Int32) (T T1 : qT) (v : Option Nat), G 2 p x T = some (v, T1) → q_ev q_Mt D 51 [.ref (o + 5), va_rf p, .int x] (layC o T) = some (.inl (none), layC o T1)) (n : Nat) (ih_24 : ∀ (v2 : Int32) (v3 : Int32) (v4 : (Option Nat)) (e1 : Option Value) (e5 : Option Value) (T T2 : qT) (v : Unit), w_run (b_Pr_writeChoice o G) n (24, [.int v2, .int v3], [v4]) T = some (v, T2) → q_out (q_ev q_Mt D) q_mPr_writeChoice (24, [some (.ref (o + 5)), e1, some (.int v2), some (.int v3), some (va_rf v4), e5], [], layC o T) = some (.inl (none), layC o T2)) (ih_67 : ∀ (v2 : Int32) (v3 : Int32) (v4 : (Option Nat)) (v5 : (Option Nat)) (e1 : Option Value) (T T2 : qT) (v : Unit), w_run (b_Pr_writeChoice o G) n (67, [.int v2, .int v3], [v4, v5]) T = some (v, T2) → q_out (q_ev q_Mt D) q_mPr_writeChoice (67, [some (.ref (o + 5)), e1, some (.int v2), some (.int v3), some (va_rf v4), some (va_rf v5)], [], layC o T) = some (.inl (none), layC o T2)) (v2 : Int32) (v3 : Int32) (v4 : (Option Nat)) (e1 : Option Value) (e5 : Option Value) (T T1 T2 : qT) (rr : qJ ⊕ Unit) (v : Unit) (h : k_Pr_writeChoice_24 o G v2 v3 v4 T = some (rr, T1)) (hE : w_end (b_Pr_writeChoice o G) n rr T1 = some (v, T2)) : q_out (q_ev q_Mt D) q_mPr_writeChoice (24, [some (.ref (o + 5)), e1, some (.int v2), some (.int v3), some (va_rf v4), e5], [], layC o T) = some (.inl (none), layC o T2) := by
  unfold k_Pr_writeChoice_24 at h
  refine Eq.trans (o_aloadR d_Pr_writeChoice_24 rfl) ?_
  refine s_ifnull (t := 114) d_Pr_writeChoice_26 (by decide) h (fun e9 h2 => ?_) (fun p1 e9 h2 => ?_)
  · clear h; subst e9; have h := h2; clear h2
    exact s_vretJ d_Pr_writeChoice_114 rfl h hE
  · clear h; subst e9; have h := h2; clear h2
    refine Eq.trans (o_aload d_Pr_writeChoice_29 rfl) ?_
    refine s_DR d_Pr_writeChoice_31 pF_Pr_49 (dyC o) h (fun u2 h => ?_)
    refine s_ifnull (t := 60) d_Pr_writeChoice_34 (by decide) h (fun e9 h2 => ?_) (fun p3 e9 h2 => ?_)
    · clear h; subst e9; have h := h2; clear h2
      refine Eq.trans (o_aload d_Pr_writeChoice_60 rfl) ?_
      refine s_DR d_Pr_writeChoice_62 pF_Pr_54 (dyC o) h (fun u4 h => ?_)
      refine Eq.trans (o_astoreR (lo' := [some (.ref (o + 5)), e1, some (.int v2), some (.int v3), some (.ref p1), some (va_rf u4)]) d_Pr_writeChoice_65 (Nat.le_of_ble_eq_true rfl) rfl) ?_
      exact ih_67 _ _ _ _ _ _ _ _ (s_jump h hE)
    · clear h; subst e9; have h := h2; clear h2
      refine Eq.trans (o_aload_n d_Pr_writeChoice_37 rfl) ?_
      refine Eq.trans (o_iconst (v := 1) d_Pr_writeChoice_38 (by decide)) ?_
      refine Eq.trans (o_aload_n d_Pr_writeChoice_39 rfl) ?_
      refine s_get d_Pr_writeChoice_40 pF_Pr_21 (zC_Pr_size o) h (fun x5 h => ?_)
      refine Eq.trans (o_iconst (v := 1) d_Pr_writeChoice_43 (by decide)) ?_
      refine Eq.trans (o_iadd d_Pr_writeChoice_44) ?_
      refine Eq.trans (o_aload_n d_Pr_writeChoice_45 rfl) ?_
      refine s_get d_Pr_writeChoice_46 pF_Pr_21 (zC_Pr_size o) h (fun x6 h => ?_)
      refine Eq.trans (o_aload d_Pr_writeChoice_49 rfl) ?_
      refine s_DI d_Pr_writeChoice_51 pF_Pr_53 (dyC o) h (fun x7 h => ?_)
      refine Eq.trans (o_iadd d_Pr_writeChoice_54) ?_
      refine Eq.trans (o_iconst (v := 2) d_Pr_writeChoice_55 (by decide)) ?_
      refine Eq.trans (o_iadd d_Pr_writeChoice_56) ?_
      obtain ⟨u9, T2, h1, h⟩ := w_C_of h
      refine s_cV3v d_Pr_writeChoice_57 pM_Pr_35 (Nat.le_of_ble_eq_true rfl) (obC_5 o) (c_Pr_add D (by omega) o _ _ _ _ _ _ h1) ?_
      replace h1 := trivial; revert h; generalize T2 = T; intro h
      refine Eq.trans (o_aload d_Pr_writeChoice_60 rfl) ?_
      refine s_DR d_Pr_writeChoice_62 pF_Pr_54 (dyC o) h (fun u8 h => ?_)
      refine Eq.trans (o_astoreR (lo' := [some (.ref (o + 5)), e1, some (.int v2), some (.int v3), some (.ref p1), some (va_rf u8)]) d_Pr_writeChoice_65 (Nat.le_of_ble_eq_true rfl) rfl) ?_
      exact ih_67 _ _ _ _ _ _ _ _ (s_jump h hE)
set_option maxRecDepth 100000 in
set_option maxHeartbeats 4000000 in
theorem c_Pr_writeChoice_0 (D : Nat) (hD : 2 ≤ D) (o : Nat) (G : Nat → Option Nat → Int32 → qW (Option Nat)) (hG0 : ∀ (p : Option Nat) (x : Int32) (T T1 : qT) (v : Option Nat), G 0 p x T = some (v, T1) → q_ev q_Mt D 49 [.ref (o + 5), va_rf p, .int x] (layC o T) = some (.inl (none), layC o T1)) (hG1 : ∀ (p : Option Nat) (x : Int32) (T T1 : qT) (v : Option Nat), G 1 p x T = some (v, T1) → q_ev q_Mt D 50 [.ref (o + 5), va_rf p, .int x] (layC o T) = some (.inl (none), layC o T1)) (hG2 : ∀ (p : Option Nat) (x : Int32) (T T1 : qT) (v : Option Nat), G 2 p x T = some (v, T1) → q_ev q_Mt D 51 [.ref (o + 5), va_rf p, .int x] (layC o T) = some (.inl (none), layC o T1)) (n : Nat) (ih_24 : ∀ (v2 : Int32) (v3 : Int32) (v4 : (Option Nat)) (e1 : Option Value) (e5 : Option Value) (T T2 : qT) (v : Unit), w_run (b_Pr_writeChoice o G) n (24, [.int v2, .int v3], [v4]) T = some (v, T2) → q_out (q_ev q_Mt D) q_mPr_writeChoice (24, [some (.ref (o + 5)), e1, some (.int v2), some (.int v3), some (va_rf v4), e5], [], layC o T) = some (.inl (none), layC o T2)) (ih_67 : ∀ (v2 : Int32) (v3 : Int32) (v4 : (Option Nat)) (v5 : (Option Nat)) (e1 : Option Value) (T T2 : qT) (v : Unit), w_run (b_Pr_writeChoice o G) n (67, [.int v2, .int v3], [v4, v5]) T = some (v, T2) → q_out (q_ev q_Mt D) q_mPr_writeChoice (67, [some (.ref (o + 5)), e1, some (.int v2), some (.int v3), some (va_rf v4), some (va_rf v5)], [], layC o T) = some (.inl (none), layC o T2)) (a1 : (Option Nat)) (a2 : Int32)  (T T1 T2 : qT) (rr : qJ ⊕ Unit) (v : Unit) (h : k_Pr_writeChoice_0 o G a1 a2 T = some (rr, T1)) (hE : w_end (b_Pr_writeChoice o G) n rr T1 = some (v, T2)) : q_out (q_ev q_Mt D) q_mPr_writeChoice (0, [some (.ref (o + 5)), some (va_rf a1), some (.int a2), none, none, none], [], layC o T) = some (.inl (none), layC o T2) := by
  unfold k_Pr_writeChoice_0 at h
  refine Eq.trans (o_aload_nR d_Pr_writeChoice_0 rfl) ?_
  refine s_ifnull (t := 10) d_Pr_writeChoice_1 (by decide) h (fun e9 h2 => ?_) (fun p1 e9 h2 => ?_)
  · clear h; subst e9; have h := h2; clear h2
    exact s_vretJ d_Pr_writeChoice_10 rfl h hE
  · clear h; subst e9; have h := h2; clear h2
    refine Eq.trans (o_iload_n d_Pr_writeChoice_4 rfl) ?_
    refine Eq.trans (o_bipush (v := 8) d_Pr_writeChoice_5 (by decide)) ?_
    refine s_icmp_le (t := 11) d_Pr_writeChoice_7 (by decide) h (fun h => ?_) (fun h => ?_)
    · refine Eq.trans (o_aload_n d_Pr_writeChoice_11 rfl) ?_
      refine s_get d_Pr_writeChoice_12 pF_Pr_21 (zC_Pr_size o) h (fun x2 h => ?_)
      refine Eq.trans (o_aload_n d_Pr_writeChoice_15 rfl) ?_
      obtain ⟨⟨fs9, hb9⟩, h⟩ := w_is_of (dyC o) h
      obtain ⟨x3, T2, h1, h⟩ := w_C_of h
      refine Eq.trans (o_callV0 d_Pr_writeChoice_16 pM_Pr_43 (Nat.le_of_ble_eq_true rfl) hb9 (c_Rw_sizeAsChoice D (by omega) o _ _ _ _ h1)) ?_
      replace h1 := trivial; revert h; generalize T2 = T; intro h
      refine Eq.trans (o_iadd d_Pr_writeChoice_19) ?_
      refine Eq.trans (o_istore_n (lo' := [some (.ref (o + 5)), some (.ref p1), some (.int a2), some (.int (x2 + x3)), none, none]) d_Pr_writeChoice_20 (Nat.le_of_ble_eq_true rfl) rfl) ?_
      refine Eq.trans (o_aload_n d_Pr_writeChoice_21 rfl) ?_
      refine Eq.trans (o_astore (lo' := [some (.ref (o + 5)), some (.ref p1), some (.int a2), some (.int (x2 + x3)), some (.ref p1), none]) d_Pr_writeChoice_22 (Nat.le_of_ble_eq_true rfl) rfl) ?_
      exact ih_24 _ _ _ _ _ _ _ _ (s_jump h hE)
    · exact s_vretJ d_Pr_writeChoice_10 rfl h hE
theorem c_Pr_writeChoice_lp (D : Nat) (hD : 2 ≤ D) (o : Nat) (G : Nat → Option Nat → Int32 → qW (Option Nat)) (hG0 : ∀ (p : Option Nat) (x : Int32) (T T1 : qT) (v : Option Nat), G 0 p x T = some (v, T1) → q_ev q_Mt D 49 [.ref (o + 5), va_rf p, .int x] (layC o T) = some (.inl (none), layC o T1)) (hG1 : ∀ (p : Option Nat) (x : Int32) (T T1 : qT) (v : Option Nat), G 1 p x T = some (v, T1) → q_ev q_Mt D 50 [.ref (o + 5), va_rf p, .int x] (layC o T) = some (.inl (none), layC o T1)) (hG2 : ∀ (p : Option Nat) (x : Int32) (T T1 : qT) (v : Option Nat), G 2 p x T = some (v, T1) → q_ev q_Mt D 51 [.ref (o + 5), va_rf p, .int x] (layC o T) = some (.inl (none), layC o T1)) : ∀ n : Nat, (∀ (v2 : Int32) (v3 : Int32) (v4 : (Option Nat)) (e1 : Option Value) (e5 : Option Value) (T T2 : qT) (v : Unit), w_run (b_Pr_writeChoice o G) n (24, [.int v2, .int v3], [v4]) T = some (v, T2) → q_out (q_ev q_Mt D) q_mPr_writeChoice (24, [some (.ref (o + 5)), e1, some (.int v2), some (.int v3), some (va_rf v4), e5], [], layC o T) = some (.inl (none), layC o T2)) ∧ (∀ (v2 : Int32) (v3 : Int32) (v4 : (Option Nat)) (v5 : (Option Nat)) (e1 : Option Value) (T T2 : qT) (v : Unit), w_run (b_Pr_writeChoice o G) n (67, [.int v2, .int v3], [v4, v5]) T = some (v, T2) → q_out (q_ev q_Mt D) q_mPr_writeChoice (67, [some (.ref (o + 5)), e1, some (.int v2), some (.int v3), some (va_rf v4), some (va_rf v5)], [], layC o T) = some (.inl (none), layC o T2)) := by
  intro n
  induction n with
  | zero => exact ⟨(fun v2 v3 v4 e1 e5 T T2 v h => by cases h), (fun v2 v3 v4 v5 e1 T T2 v h => by cases h)⟩
  | succ n ih =>
    obtain ⟨ih_24, ih_67⟩ := ih
    refine ⟨?_, ?_⟩
    · intro v2 v3 v4 e1 e5 T T2 v h
      obtain ⟨rr, T1, hb, hE⟩ := w_run_succ h
      exact c_Pr_writeChoice_24 D hD o G hG0 hG1 hG2 n ih_24 ih_67 v2 v3 v4 e1 e5 T T1 T2 rr v hb hE
    · intro v2 v3 v4 v5 e1 T T2 v h
      obtain ⟨rr, T1, hb, hE⟩ := w_run_succ h
      exact c_Pr_writeChoice_67 D hD o G hG0 hG1 hG2 n ih_24 ih_67 v2 v3 v4 v5 e1 T T1 T2 rr v hb hE
theorem c_Pr_writeChoice (D : Nat) (hD : 2 ≤ D) (o : Nat) (G : Nat → Option Nat → Int32 → qW (Option Nat)) (hG0 : ∀ (p : Option Nat) (x : Int32) (T T1 : qT) (v : Option Nat), G 0 p x T = some (v, T1) → q_ev q_Mt D 49 [.ref (o + 5), va_rf p, .int x] (layC o T) = some (.inl (none), layC o T1)) (hG1 : ∀ (p : Option Nat) (x : Int32) (T T1 : qT) (v : Option Nat), G 1 p x T = some (v, T1) → q_ev q_Mt D 50 [.ref (o + 5), va_rf p, .int x] (layC o T) = some (.inl (none), layC o T1)) (hG2 : ∀ (p : Option Nat) (x : Int32) (T T1 : qT) (v : Option Nat), G 2 p x T = some (v, T1) → q_ev q_Mt D 51 [.ref (o + 5), va_rf p, .int x] (layC o T) = some (.inl (none), layC o T1)) (a1 : (Option Nat)) (a2 : Int32) (T T2 : qT) (v : Unit) (h : f_Pr_writeChoice o G a1 a2 T = some (v, T2)) : q_ev q_Mt (D + 1) 49 [.ref (o + 5), va_rf a1, .int a2] (layC o T) = some (.inl (none), layC o T2) := by
  obtain ⟨n, hn⟩ := w_fix_iff.mp h
  cases n with
  | zero => cases hn
  | succ n =>
    obtain ⟨rr, T1, hb, hE⟩ := w_run_succ hn
    have hl := c_Pr_writeChoice_lp D (by omega) o G hG0 hG1 hG2 n
    obtain ⟨ih_24, ih_67⟩ := hl
    rw [o_ev (M := q_mPr_writeChoice) (lo := [some (.ref (o + 5)), some (va_rf a1), some (.int a2), none, none, none]) rfl (by cases a1 <;> exact Nat.le_of_ble_eq_true rfl) (by cases a1 <;> rfl)]
    exact c_Pr_writeChoice_0 D (by omega) o G hG0 hG1 hG2 n ih_24 ih_67 a1 a2 T T1 T2 rr v hb hE
noncomputable def k_Pr_writeRepeat_133 (o : Nat) (G : Nat → Option Nat → Int32 → qW (Option Nat)) (v1 : (Option Nat)) (v2 : Int32) (v3 : Int32) (v4 : Int32) : qW (qJ ⊕ Unit) :=
  w_nn v1 fun p1 =>
  w_DI o p1 4 5 fun x2 =>
  w_if (x2 ≤ v4) (
    w_rt ()) (
    w_S 103 fun x3 =>
    w_DI o p1 4 8 fun x4 =>
    w_C (f_Pr_addSplit o ((x3 + 1)) v3 x4) fun _ =>
    w_C (G 2 (some p1) v2) fun _ =>
    w_go 133 [.int v2, .int v3, .int (v4 + 1)] [(some p1)])
noncomputable def k_Pr_writeRepeat_2 (o : Nat) (G : Nat → Option Nat → Int32 → qW (Option Nat)) (v1 : (Option Nat)) (v2 : Int32) (v3 : Int32) : qW (qJ ⊕ Unit) :=
  w_nn v1 fun p1 =>
  w_DI o p1 4 4 fun x2 =>
  w_if (x2 ≤ v3) (
    w_DI o p1 4 7 fun x3 =>
    w_if (x3 = 0) (
      w_DI o p1 4 6 fun x4 =>
      w_if (x4 = 0) (
        w_S 103 fun x5 =>
        w_DI o p1 4 5 fun x6 =>
        w_DI o p1 4 4 fun x7 =>
        w_DI o p1 4 3 fun x8 =>
        w_DI o p1 4 4 fun x9 =>
        w_go 133 [.int v2, .int (x5 + ((x6 - x7) * (x8 + 1))), .int x9] [(some p1)]) (
        w_S 103 fun x10 =>
        w_DI o p1 4 3 fun x11 =>
        w_DI o p1 4 8 fun x12 =>
        w_C (f_Pr_addSplit o ((x10 + 1)) (((x10 + x11) + 2)) x12) fun _ =>
        w_C (G 2 (some p1) v2) fun _ =>
        w_C (f_Pr_add o 2 x10 0) fun _ =>
        w_rt ())) (
      w_S 103 fun x13 =>
      w_C (G 2 (some p1) v2) fun _ =>
      w_S 103 fun x14 =>
      w_DI o p1 4 8 fun x15 =>
      w_C (f_Pr_addSplit o x13 ((x14 + 1)) x15) fun _ =>
      w_rt ())) (
    w_C (G 2 (some p1) v2) fun _ =>
    w_go 2 [.int v2, .int (v3 + 1)] [(some p1)])
noncomputable def k_Pr_writeRepeat_0 (o : Nat) (G : Nat → Option Nat → Int32 → qW (Option Nat)) (a1 : (Option Nat)) (a2 : Int32) : qW (qJ ⊕ Unit) :=
  w_go 2 [.int a2, .int 0] [a1]
noncomputable def b_Pr_writeRepeat (o : Nat) (G : Nat → Option Nat → Int32 → qW (Option Nat)) : qJ → qW (qJ ⊕ Unit) := fun x => match x with
  | (0, [.int a2], [a1]) => k_Pr_writeRepeat_0 o G a1 a2
  | (2, [.int v2, .int v3], [v1]) => k_Pr_writeRepeat_2 o G v1 v2 v3
  | (133, [.int v2, .int v3, .int v4], [v1]) => k_Pr_writeRepeat_133 o G v1 v2 v3 v4
  | _ => w_no
noncomputable def f_Pr_writeRepeat (o : Nat) (G : Nat → Option Nat → Int32 → qW (Option Nat)) (a1 : (Option Nat)) (a2 : Int32) : qW Unit := w_fix (b_Pr_writeRepeat o G) (0, [.int a2], [a1])
set_option maxRecDepth 100000 in
set_option maxHeartbeats 4000000 in
theorem c_Pr_writeRepeat_133 (D : Nat) (hD : 2 ≤ D) (o : Nat) (G : Nat → Option Nat → Int32 → qW (Option Nat)) (hG0 : ∀ (p : Option Nat) (x : Int32) (T T1 : qT) (v : Option Nat), G 0 p x T = some (v, T1) → q_ev q_Mt D 49 [.ref (o + 5), va_rf p, .int x] (layC o T) = some (.inl (none), layC o T1)) (hG1 : ∀ (p : Option Nat) (x : Int32) (T T1 : qT) (v : Option Nat), G 1 p x T = some (v, T1) → q_ev q_Mt D 50 [.ref (o + 5), va_rf p, .int x] (layC o T) = some (.inl (none), layC o T1)) (hG2 : ∀ (p : Option Nat) (x : Int32) (T T1 : qT) (v : Option Nat), G 2 p x T = some (v, T1) → q_ev q_Mt D 51 [.ref (o + 5), va_rf p, .int x] (layC o T) = some (.inl (none), layC o T1)) (n : Nat) (ih_2 : ∀ (v1 : (Option Nat)) (v2 : Int32) (v3 : Int32) (e4 : Option Value) (T T2 : qT) (v : Unit), w_run (b_Pr_writeRepeat o G) n (2, [.int v2, .int v3], [v1]) T = some (v, T2) → q_out (q_ev q_Mt D) q_mPr_writeRepeat (2, [some (.ref (o + 5)), some (va_rf v1), some (.int v2), some (.int v3), e4], [], layC o T) = some (.inl (none), layC o T2)) (ih_133 : ∀ (v1 : (Option Nat)) (v2 : Int32) (v3 : Int32) (v4 : Int32)  (T T2 : qT) (v : Unit), w_run (b_Pr_writeRepeat o G) n (133, [.int v2, .int v3, .int v4], [v1]) T = some (v, T2) → q_out (q_ev q_Mt D) q_mPr_writeRepeat (133, [some (.ref (o + 5)), some (va_rf v1), some (.int v2), some (.int v3), some (.int v4)], [], layC o T) = some (.inl (none), layC o T2)) (v1 : (Option Nat)) (v2 : Int32) (v3 : Int32) (v4 : Int32)  (T T1 T2 : qT) (rr : qJ ⊕ Unit) (v : Unit) (h : k_Pr_writeRepeat_133 o G v1 v2 v3 v4 T = some (rr, T1)) (hE : w_end (b_Pr_writeRepeat o G) n rr T1 = some (v, T2)) : q_out (q_ev q_Mt D) q_mPr_writeRepeat (133, [some (.ref (o + 5)), some (va_rf v1), some (.int v2), some (.int v3), some (.int v4)], [], layC o T) = some (.inl (none), layC o T2) := by
  unfold k_Pr_writeRepeat_133 at h
  refine Eq.trans (o_iload d_Pr_writeRepeat_133 rfl) ?_
  refine Eq.trans (o_aload_nR d_Pr_writeRepeat_135 rfl) ?_
  obtain ⟨p1, e9, h2⟩ := w_nn_of h
  clear h; subst e9; have h := h2; clear h2
  refine s_DI d_Pr_writeRepeat_136 pF_Pr_89 (dyC o) h (fun x2 h => ?_)
  refine s_icmp_ge (t := 169) d_Pr_writeRepeat_139 (by decide) h (fun h => ?_) (fun h => ?_)
  · exact s_vretJ d_Pr_writeRepeat_169 rfl h hE
  · refine Eq.trans (o_aload_n d_Pr_writeRepeat_142 rfl) ?_
    refine Eq.trans (o_aload_n d_Pr_writeRepeat_143 rfl) ?_
    refine s_get d_Pr_writeRepeat_144 pF_Pr_21 (zC_Pr_size o) h (fun x3 h => ?_)
    refine Eq.trans (o_iconst (v := 1) d_Pr_writeRepeat_147 (by decide)) ?_
    refine Eq.trans (o_iadd d_Pr_writeRepeat_148) ?_
    refine Eq.trans (o_iload_n d_Pr_writeRepeat_149 rfl) ?_
    refine Eq.trans (o_aload_n d_Pr_writeRepeat_150 rfl) ?_
    refine s_DI d_Pr_writeRepeat_151 pF_Pr_76 (dyC o) h (fun x4 h => ?_)
    obtain ⟨u9, T2, h1, h⟩ := w_C_of h
    refine s_cV3v d_Pr_writeRepeat_154 pM_Pr_79 (Nat.le_of_ble_eq_true rfl) (obC_5 o) (c_Pr_addSplit D (by omega) o _ _ _ _ _ _ h1) ?_
    replace h1 := trivial; revert h; generalize T2 = T; intro h
    refine Eq.trans (o_aload_n d_Pr_writeRepeat_157 rfl) ?_
    refine Eq.trans (o_aload_n d_Pr_writeRepeat_158 rfl) ?_
    refine Eq.trans (o_iload_n d_Pr_writeRepeat_159 rfl) ?_
    obtain ⟨u9, T2, h1, h⟩ := w_C_of h
    refine s_cV2v d_Pr_writeRepeat_160 pM_Pr_69 (Nat.le_of_ble_eq_true rfl) (obC_5 o) (hG2 _ _ _ _ _ h1) ?_
    replace h1 := trivial; revert h; generalize T2 = T; intro h
    refine Eq.trans (o_iinc (v := (v4 + 1)) (lo' := [some (.ref (o + 5)), some (.ref p1), some (.int v2), some (.int v3), some (.int (v4 + 1))]) d_Pr_writeRepeat_163 rfl (by rw [show Int32.ofInt 1 = 1 from by decide]) (Nat.le_of_ble_eq_true rfl) rfl) ?_
    refine Eq.trans (o_goto (t := 133) d_Pr_writeRepeat_166 (by decide)) ?_
    exact ih_133 _ _ _ _ _ _ _ (s_jump h hE)
set_option maxRecDepth 100000 in
set_option maxHeartbeats 4000000 in
theorem c_Pr_writeRepeat_2 (D : Nat) (hD : 2 ≤ D) (o : Nat) (G : Nat → Option Nat → Int32 → qW (Option Nat)) (hG0 : ∀ (p : Option Nat) (x : Int32) (T T1 : qT) (v : Option Nat), G 0 p x T = some (v, T1) → q_ev q_Mt D 49 [.ref (o + 5), va_rf p, .int x] (layC o T) = some (.inl (none), layC o T1)) (hG1 : ∀ (p : Option Nat) (x : Int32) (T T1 : qT) (v : Option Nat), G 1 p x T = some (v, T1) → q_ev q_Mt D 50 [.ref (o + 5), va_rf p, .int x] (layC o T) = some (.inl (none), layC o T1)) (hG2 : ∀ (p : Option Nat) (x : Int32) (T T1 : qT) (v : Option Nat), G 2 p x T = some (v, T1) → q_ev q_Mt D 51 [.ref (o + 5), va_rf p, .int x] (layC o T) = some (.inl (none), layC o T1)) (n : Nat) (ih_2 : ∀ (v1 : (Option Nat)) (v2 : Int32) (v3 : Int32) (e4 : Option Value) (T T2 : qT) (v : Unit), w_run (b_Pr_writeRepeat o G) n (2, [.int v2, .int v3], [v1]) T = some (v, T2) → q_out (q_ev q_Mt D) q_mPr_writeRepeat (2, [some (.ref (o + 5)), some (va_rf v1), some (.int v2), some (.int v3), e4], [], layC o T) = some (.inl (none), layC o T2)) (ih_133 : ∀ (v1 : (Option Nat)) (v2 : Int32) (v3 : Int32) (v4 : Int32)  (T T2 : qT) (v : Unit), w_run (b_Pr_writeRepeat o G) n (133, [.int v2, .int v3, .int v4], [v1]) T = some (v, T2) → q_out (q_ev q_Mt D) q_mPr_writeRepeat (133, [some (.ref (o + 5)), some (va_rf v1), some (.int v2), some (.int v3), some (.int v4)], [], layC o T) = some (.inl (none), layC o T2)) (v1 : (Option Nat)) (v2 : Int32) (v3 : Int32) (e4 : Option Value) (T T1 T2 : qT) (rr : qJ ⊕ Unit) (v : Unit) (h : k_Pr_writeRepeat_2 o G v1 v2 v3 T = some (rr, T1)) (hE : w_end (b_Pr_writeRepeat o G) n rr T1 = some (v, T2)) : q_out (q_ev q_Mt D) q_mPr_writeRepeat (2, [some (.ref (o + 5)), some (va_rf v1), some (.int v2), some (.int v3), e4], [], layC o T) = some (.inl (none), layC o T2) := by
  unfold k_Pr_writeRepeat_2 at h
  refine Eq.trans (o_iload_n d_Pr_writeRepeat_2 rfl) ?_
  refine Eq.trans (o_aload_nR d_Pr_writeRepeat_3 rfl) ?_
  obtain ⟨p1, e9, h2⟩ := w_nn_of h
  clear h; subst e9; have h := h2; clear h2
  refine s_DI d_Pr_writeRepeat_4 pF_Pr_66 (dyC o) h (fun x2 h => ?_)
  refine s_icmp_ge (t := 22) d_Pr_writeRepeat_7 (by decide) h (fun h => ?_) (fun h => ?_)
  · refine Eq.trans (o_aload_n d_Pr_writeRepeat_22 rfl) ?_
    refine s_DI d_Pr_writeRepeat_23 pF_Pr_72 (dyC o) h (fun x3 h => ?_)
    refine s_if_eq (t := 58) d_Pr_writeRepeat_26 (by decide) h (fun h => ?_) (fun h => ?_)
    · refine Eq.trans (o_aload_n d_Pr_writeRepeat_58 rfl) ?_
      refine s_DI d_Pr_writeRepeat_59 pF_Pr_83 (dyC o) h (fun x4 h => ?_)
      refine s_if_eq (t := 105) d_Pr_writeRepeat_62 (by decide) h (fun h => ?_) (fun h => ?_)
      · refine Eq.trans (o_aload_n d_Pr_writeRepeat_105 rfl) ?_
        refine s_get d_Pr_writeRepeat_106 pF_Pr_21 (zC_Pr_size o) h (fun x5 h => ?_)
        refine Eq.trans (o_aload_n d_Pr_writeRepeat_109 rfl) ?_
        refine s_DI d_Pr_writeRepeat_110 pF_Pr_89 (dyC o) h (fun x6 h => ?_)
        refine Eq.trans (o_aload_n d_Pr_writeRepeat_113 rfl) ?_
        refine s_DI d_Pr_writeRepeat_114 pF_Pr_66 (dyC o) h (fun x7 h => ?_)
        refine Eq.trans (o_isub d_Pr_writeRepeat_117) ?_
        refine Eq.trans (o_aload_n d_Pr_writeRepeat_118 rfl) ?_
        refine s_DI d_Pr_writeRepeat_119 pF_Pr_86 (dyC o) h (fun x8 h => ?_)
        refine Eq.trans (o_iconst (v := 1) d_Pr_writeRepeat_122 (by decide)) ?_
        refine Eq.trans (o_iadd d_Pr_writeRepeat_123) ?_
        refine Eq.trans (o_imul d_Pr_writeRepeat_124) ?_
        refine Eq.trans (o_iadd d_Pr_writeRepeat_125) ?_
        refine Eq.trans (o_istore_n (lo' := [some (.ref (o + 5)), some (.ref p1), some (.int v2), some (.int (x5 + ((x6 - x7) * (x8 + 1)))), e4]) d_Pr_writeRepeat_126 (Nat.le_of_ble_eq_true rfl) rfl) ?_
        refine Eq.trans (o_aload_n d_Pr_writeRepeat_127 rfl) ?_
        refine s_DI d_Pr_writeRepeat_128 pF_Pr_66 (dyC o) h (fun x9 h => ?_)
        refine Eq.trans (o_istore (lo' := [some (.ref (o + 5)), some (.ref p1), some (.int v2), some (.int (x5 + ((x6 - x7) * (x8 + 1)))), some (.int x9)]) d_Pr_writeRepeat_131 (Nat.le_of_ble_eq_true rfl) rfl) ?_
        exact ih_133 _ _ _ _ _ _ _ (s_jump h hE)
      · refine Eq.trans (o_aload_n d_Pr_writeRepeat_65 rfl) ?_
        refine s_get d_Pr_writeRepeat_66 pF_Pr_21 (zC_Pr_size o) h (fun x10 h => ?_)
        refine Eq.trans (o_istore_n (lo' := [some (.ref (o + 5)), some (.ref p1), some (.int v2), some (.int x10), e4]) d_Pr_writeRepeat_69 (Nat.le_of_ble_eq_true rfl) rfl) ?_
        refine Eq.trans (o_aload_n d_Pr_writeRepeat_70 rfl) ?_
        refine Eq.trans (o_iload_n d_Pr_writeRepeat_71 rfl) ?_
        refine Eq.trans (o_iconst (v := 1) d_Pr_writeRepeat_72 (by decide)) ?_
        refine Eq.trans (o_iadd d_Pr_writeRepeat_73) ?_
        refine Eq.trans (o_iload_n d_Pr_writeRepeat_74 rfl) ?_
        refine Eq.trans (o_aload_n d_Pr_writeRepeat_75 rfl) ?_
        refine s_DI d_Pr_writeRepeat_76 pF_Pr_86 (dyC o) h (fun x11 h => ?_)
        refine Eq.trans (o_iadd d_Pr_writeRepeat_79) ?_
        refine Eq.trans (o_iconst (v := 2) d_Pr_writeRepeat_80 (by decide)) ?_
        refine Eq.trans (o_iadd d_Pr_writeRepeat_81) ?_
        refine Eq.trans (o_aload_n d_Pr_writeRepeat_82 rfl) ?_
        refine s_DI d_Pr_writeRepeat_83 pF_Pr_76 (dyC o) h (fun x12 h => ?_)
        obtain ⟨u9, T2, h1, h⟩ := w_C_of h
        refine s_cV3v d_Pr_writeRepeat_86 pM_Pr_79 (Nat.le_of_ble_eq_true rfl) (obC_5 o) (c_Pr_addSplit D (by omega) o _ _ _ _ _ _ h1) ?_
        replace h1 := trivial; revert h; generalize T2 = T; intro h
        refine Eq.trans (o_aload_n d_Pr_writeRepeat_89 rfl) ?_
        refine Eq.trans (o_aload_n d_Pr_writeRepeat_90 rfl) ?_
        refine Eq.trans (o_iload_n d_Pr_writeRepeat_91 rfl) ?_
        obtain ⟨u9, T2, h1, h⟩ := w_C_of h
        refine s_cV2v d_Pr_writeRepeat_92 pM_Pr_69 (Nat.le_of_ble_eq_true rfl) (obC_5 o) (hG2 _ _ _ _ _ h1) ?_
        replace h1 := trivial; revert h; generalize T2 = T; intro h
        refine Eq.trans (o_aload_n d_Pr_writeRepeat_95 rfl) ?_
        refine Eq.trans (o_iconst (v := 2) d_Pr_writeRepeat_96 (by decide)) ?_
        refine Eq.trans (o_iload_n d_Pr_writeRepeat_97 rfl) ?_
        refine Eq.trans (o_iconst (v := 0) d_Pr_writeRepeat_98 (by decide)) ?_
        obtain ⟨u9, T2, h1, h⟩ := w_C_of h
        refine s_cV3v d_Pr_writeRepeat_99 pM_Pr_35 (Nat.le_of_ble_eq_true rfl) (obC_5 o) (c_Pr_add D (by omega) o _ _ _ _ _ _ h1) ?_
        replace h1 := trivial; revert h; generalize T2 = T; intro h
        refine Eq.trans (o_goto (t := 169) d_Pr_writeRepeat_102 (by decide)) ?_
        exact s_vretJ d_Pr_writeRepeat_169 rfl h hE
    · refine Eq.trans (o_aload_n d_Pr_writeRepeat_29 rfl) ?_
      refine s_get d_Pr_writeRepeat_30 pF_Pr_21 (zC_Pr_size o) h (fun x13 h => ?_)
      refine Eq.trans (o_istore_n (lo' := [some (.ref (o + 5)), some (.ref p1), some (.int v2), some (.int x13), e4]) d_Pr_writeRepeat_33 (Nat.le_of_ble_eq_true rfl) rfl) ?_
      refine Eq.trans (o_aload_n d_Pr_writeRepeat_34 rfl) ?_
      refine Eq.trans (o_aload_n d_Pr_writeRepeat_35 rfl) ?_
      refine Eq.trans (o_iload_n d_Pr_writeRepeat_36 rfl) ?_
      obtain ⟨u9, T2, h1, h⟩ := w_C_of h
      refine s_cV2v d_Pr_writeRepeat_37 pM_Pr_69 (Nat.le_of_ble_eq_true rfl) (obC_5 o) (hG2 _ _ _ _ _ h1) ?_
      replace h1 := trivial; revert h; generalize T2 = T; intro h
      refine Eq.trans (o_aload_n d_Pr_writeRepeat_40 rfl) ?_
      refine Eq.trans (o_iload_n d_Pr_writeRepeat_41 rfl) ?_
      refine Eq.trans (o_aload_n d_Pr_writeRepeat_42 rfl) ?_
      refine s_get d_Pr_writeRepeat_43 pF_Pr_21 (zC_Pr_size o) h (fun x14 h => ?_)
      refine Eq.trans (o_iconst (v := 1) d_Pr_writeRepeat_46 (by decide)) ?_
      refine Eq.trans (o_iadd d_Pr_writeRepeat_47) ?_
      refine Eq.trans (o_aload_n d_Pr_writeRepeat_48 rfl) ?_
      refine s_DI d_Pr_writeRepeat_49 pF_Pr_76 (dyC o) h (fun x15 h => ?_)
      obtain ⟨u9, T2, h1, h⟩ := w_C_of h
      refine s_cV3v d_Pr_writeRepeat_52 pM_Pr_79 (Nat.le_of_ble_eq_true rfl) (obC_5 o) (c_Pr_addSplit D (by omega) o _ _ _ _ _ _ h1) ?_
      replace h1 := trivial; revert h; generalize T2 = T; intro h
      refine Eq.trans (o_goto (t := 169) d_Pr_writeRepeat_55 (by decide)) ?_
      exact s_vretJ d_Pr_writeRepeat_169 rfl h hE
  · refine Eq.trans (o_aload_n d_Pr_writeRepeat_10 rfl) ?_
    refine Eq.trans (o_aload_n d_Pr_writeRepeat_11 rfl) ?_
    refine Eq.trans (o_iload_n d_Pr_writeRepeat_12 rfl) ?_
    obtain ⟨u9, T2, h1, h⟩ := w_C_of h
    refine s_cV2v d_Pr_writeRepeat_13 pM_Pr_69 (Nat.le_of_ble_eq_true rfl) (obC_5 o) (hG2 _ _ _ _ _ h1) ?_
    replace h1 := trivial; revert h; generalize T2 = T; intro h
    refine Eq.trans (o_iinc (v := (v3 + 1)) (lo' := [some (.ref (o + 5)), some (.ref p1), some (.int v2), some (.int (v3 + 1)), e4]) d_Pr_writeRepeat_16 rfl (by rw [show Int32.ofInt 1 = 1 from by decide]) (Nat.le_of_ble_eq_true rfl) rfl) ?_
    refine Eq.trans (o_goto (t := 2) d_Pr_writeRepeat_19 (by decide)) ?_
    exact ih_2 _ _ _ _ _ _ _ (s_jump h hE)
set_option maxRecDepth 100000 in
set_option maxHeartbeats 4000000 in
theorem c_Pr_writeRepeat_0 (D : Nat) (hD : 2 ≤ D) (o : Nat) (G : Nat → Option Nat → Int32 → qW (Option Nat)) (hG0 : ∀ (p : Option Nat) (x : Int32) (T T1 : qT) (v : Option Nat), G 0 p x T = some (v, T1) → q_ev q_Mt D 49 [.ref (o + 5), va_rf p, .int x] (layC o T) = some (.inl (none), layC o T1)) (hG1 : ∀ (p : Option Nat) (x : Int32) (T T1 : qT) (v : Option Nat), G 1 p x T = some (v, T1) → q_ev q_Mt D 50 [.ref (o + 5), va_rf p, .int x] (layC o T) = some (.inl (none), layC o T1)) (hG2 : ∀ (p : Option Nat) (x : Int32) (T T1 : qT) (v : Option Nat), G 2 p x T = some (v, T1) → q_ev q_Mt D 51 [.ref (o + 5), va_rf p, .int x] (layC o T) = some (.inl (none), layC o T1)) (n : Nat) (ih_2 : ∀ (v1 : (Option Nat)) (v2 : Int32) (v3 : Int32) (e4 : Option Value) (T T2 : qT) (v : Unit), w_run (b_Pr_writeRepeat o G) n (2, [.int v2, .int v3], [v1]) T = some (v, T2) → q_out (q_ev q_Mt D) q_mPr_writeRepeat (2, [some (.ref (o + 5)), some (va_rf v1), some (.int v2), some (.int v3), e4], [], layC o T) = some (.inl (none), layC o T2)) (ih_133 : ∀ (v1 : (Option Nat)) (v2 : Int32) (v3 : Int32) (v4 : Int32)  (T T2 : qT) (v : Unit), w_run (b_Pr_writeRepeat o G) n (133, [.int v2, .int v3, .int v4], [v1]) T = some (v, T2) → q_out (q_ev q_Mt D) q_mPr_writeRepeat (133, [some (.ref (o + 5)), some (va_rf v1), some (.int v2), some (.int v3), some (.int v4)], [], layC o T) = some (.inl (none), layC o T2)) (a1 : (Option Nat)) (a2 : Int32)  (T T1 T2 : qT) (rr : qJ ⊕ Unit) (v : Unit) (h : k_Pr_writeRepeat_0 o G a1 a2 T = some (rr, T1)) (hE : w_end (b_Pr_writeRepeat o G) n rr T1 = some (v, T2)) : q_out (q_ev q_Mt D) q_mPr_writeRepeat (0, [some (.ref (o + 5)), some (va_rf a1), some (.int a2), none, none], [], layC o T) = some (.inl (none), layC o T2) := by
  unfold k_Pr_writeRepeat_0 at h
  refine Eq.trans (o_iconst (v := 0) d_Pr_writeRepeat_0 (by decide)) ?_
  refine Eq.trans (o_istore_n (lo' := [some (.ref (o + 5)), some (va_rf a1), some (.int a2), some (.int 0), none]) d_Pr_writeRepeat_1 (Nat.le_of_ble_eq_true rfl) rfl) ?_
  exact ih_2 _ _ _ _ _ _ _ (s_jump h hE)
theorem c_Pr_writeRepeat_lp (D : Nat) (hD : 2 ≤ D) (o : Nat) (G : Nat → Option Nat → Int32 → qW (Option Nat)) (hG0 : ∀ (p : Option Nat) (x : Int32) (T T1 : qT) (v : Option Nat), G 0 p x T = some (v, T1) → q_ev q_Mt D 49 [.ref (o + 5), va_rf p, .int x] (layC o T) = some (.inl (none), layC o T1)) (hG1 : ∀ (p : Option Nat) (x : Int32) (T T1 : qT) (v : Option Nat), G 1 p x T = some (v, T1) → q_ev q_Mt D 50 [.ref (o + 5), va_rf p, .int x] (layC o T) = some (.inl (none), layC o T1)) (hG2 : ∀ (p : Option Nat) (x : Int32) (T T1 : qT) (v : Option Nat), G 2 p x T = some (v, T1) → q_ev q_Mt D 51 [.ref (o + 5), va_rf p, .int x] (layC o T) = some (.inl (none), layC o T1)) : ∀ n : Nat, (∀ (v1 : (Option Nat)) (v2 : Int32) (v3 : Int32) (e4 : Option Value) (T T2 : qT) (v : Unit), w_run (b_Pr_writeRepeat o G) n (2, [.int v2, .int v3], [v1]) T = some (v, T2) → q_out (q_ev q_Mt D) q_mPr_writeRepeat (2, [some (.ref (o + 5)), some (va_rf v1), some (.int v2), some (.int v3), e4], [], layC o T) = some (.inl (none), layC o T2)) ∧ (∀ (v1 : (Option Nat)) (v2 : Int32) (v3 : Int32) (v4 : Int32)  (T T2 : qT) (v : Unit), w_run (b_Pr_writeRepeat o G) n (133, [.int v2, .int v3, .int v4], [v1]) T = some (v, T2) → q_out (q_ev q_Mt D) q_mPr_writeRepeat (133, [some (.ref (o + 5)), some (va_rf v1), some (.int v2), some (.int v3), some (.int v4)], [], layC o T) = some (.inl (none), layC o T2)) := by
  intro n
  induction n with
  | zero => exact ⟨(fun v1 v2 v3 e4 T T2 v h => by cases h), (fun v1 v2 v3 v4 T T2 v h => by cases h)⟩
  | succ n ih =>
    obtain ⟨ih_2, ih_133⟩ := ih
    refine ⟨?_, ?_⟩
    · intro v1 v2 v3 e4 T T2 v h
      obtain ⟨rr, T1, hb, hE⟩ := w_run_succ h
      exact c_Pr_writeRepeat_2 D hD o G hG0 hG1 hG2 n ih_2 ih_133 v1 v2 v3 e4 T T1 T2 rr v hb hE
    · intro v1 v2 v3 v4 T T2 v h
      obtain ⟨rr, T1, hb, hE⟩ := w_run_succ h
      exact c_Pr_writeRepeat_133 D hD o G hG0 hG1 hG2 n ih_2 ih_133 v1 v2 v3 v4 T T1 T2 rr v hb hE
theorem c_Pr_writeRepeat (D : Nat) (hD : 2 ≤ D) (o : Nat) (G : Nat → Option Nat → Int32 → qW (Option Nat)) (hG0 : ∀ (p : Option Nat) (x : Int32) (T T1 : qT) (v : Option Nat), G 0 p x T = some (v, T1) → q_ev q_Mt D 49 [.ref (o + 5), va_rf p, .int x] (layC o T) = some (.inl (none), layC o T1)) (hG1 : ∀ (p : Option Nat) (x : Int32) (T T1 : qT) (v : Option Nat), G 1 p x T = some (v, T1) → q_ev q_Mt D 50 [.ref (o + 5), va_rf p, .int x] (layC o T) = some (.inl (none), layC o T1)) (hG2 : ∀ (p : Option Nat) (x : Int32) (T T1 : qT) (v : Option Nat), G 2 p x T = some (v, T1) → q_ev q_Mt D 51 [.ref (o + 5), va_rf p, .int x] (layC o T) = some (.inl (none), layC o T1)) (a1 : (Option Nat)) (a2 : Int32) (T T2 : qT) (v : Unit) (h : f_Pr_writeRepeat o G a1 a2 T = some (v, T2)) : q_ev q_Mt (D + 1) 50 [.ref (o + 5), va_rf a1, .int a2] (layC o T) = some (.inl (none), layC o T2) := by
  obtain ⟨n, hn⟩ := w_fix_iff.mp h
  cases n with
  | zero => cases hn
  | succ n =>
    obtain ⟨rr, T1, hb, hE⟩ := w_run_succ hn
    have hl := c_Pr_writeRepeat_lp D (by omega) o G hG0 hG1 hG2 n
    obtain ⟨ih_2, ih_133⟩ := hl
    rw [o_ev (M := q_mPr_writeRepeat) (lo := [some (.ref (o + 5)), some (va_rf a1), some (.int a2), none, none]) rfl (by cases a1 <;> exact Nat.le_of_ble_eq_true rfl) (by cases a1 <;> rfl)]
    exact c_Pr_writeRepeat_0 D (by omega) o G hG0 hG1 hG2 n ih_2 ih_133 a1 a2 T T1 T2 rr v hb hE
noncomputable def k_Pr_writeAtom_45 (o : Nat) (G : Nat → Option Nat → Int32 → qW (Option Nat)) (v1 : (Option Nat)) (v2 : Int32) : qW Unit :=
  w_nn v1 fun p1 =>
  w_DR o p1 4 1 fun u2 =>
  w_C (G 0 u2 ((v2 + 1))) fun _ =>
  w_DI o p1 4 2 fun x3 =>
  w_if (x3 ≤ 0) (
    w_pure ()) (
    w_DI o p1 4 2 fun x4 =>
    w_C (f_Pr_add o 3 (((2 * x4) + 1)) 0) fun _ =>
    w_pure ())
noncomputable def f_Pr_writeAtom (o : Nat) (G : Nat → Option Nat → Int32 → qW (Option Nat)) (a1 : (Option Nat)) (a2 : Int32) : qW Unit :=
  w_nn a1 fun p1 =>
  w_DI o p1 4 3 fun x2 =>
  w_if (¬ x2 = 0) (
    w_DR o p1 4 1 fun u3 =>
    w_nul u3 (
      w_DI o p1 4 0 fun x5 =>
      w_C (f_Pr_add o 0 x5 0) fun _ =>
      w_pure ()) fun p4 =>
      w_DI o p1 4 2 fun x6 =>
      w_if (x6 ≤ 0) (
        k_Pr_writeAtom_45 o G (some p1) a2) (
        w_DI o p1 4 2 fun x7 =>
        w_C (f_Pr_add o 3 ((2 * x7)) 0) fun _ =>
        k_Pr_writeAtom_45 o G (some p1) a2)) (
    w_pure ())
set_option maxRecDepth 100000 in
set_option maxHeartbeats 4000000 in
theorem c_Pr_writeAtom_45 (D : Nat) (hD : 2 ≤ D) (o : Nat) (G : Nat → Option Nat → Int32 → qW (Option Nat)) (hG0 : ∀ (p : Option Nat) (x : Int32) (T T1 : qT) (v : Option Nat), G 0 p x T = some (v, T1) → q_ev q_Mt D 49 [.ref (o + 5), va_rf p, .int x] (layC o T) = some (.inl (none), layC o T1)) (hG1 : ∀ (p : Option Nat) (x : Int32) (T T1 : qT) (v : Option Nat), G 1 p x T = some (v, T1) → q_ev q_Mt D 50 [.ref (o + 5), va_rf p, .int x] (layC o T) = some (.inl (none), layC o T1)) (hG2 : ∀ (p : Option Nat) (x : Int32) (T T1 : qT) (v : Option Nat), G 2 p x T = some (v, T1) → q_ev q_Mt D 51 [.ref (o + 5), va_rf p, .int x] (layC o T) = some (.inl (none), layC o T1)) (v1 : (Option Nat)) (v2 : Int32)  (T T1 : qT) (v : Unit) (h : k_Pr_writeAtom_45 o G v1 v2 T = some (v, T1)) : q_out (q_ev q_Mt D) q_mPr_writeAtom (45, [some (.ref (o + 5)), some (va_rf v1), some (.int v2)], [], layC o T) = some (.inl (none), layC o T1) := by
  unfold k_Pr_writeAtom_45 at h
  refine Eq.trans (o_aload_n d_Pr_writeAtom_45 rfl) ?_
  refine Eq.trans (o_aload_nR d_Pr_writeAtom_46 rfl) ?_
  obtain ⟨p1, e9, h2⟩ := w_nn_of h
  clear h; subst e9; have h := h2; clear h2
  refine s_DR d_Pr_writeAtom_47 pF_Pr_92 (dyC o) h (fun u2 h => ?_)
  refine Eq.trans (o_iload_n d_Pr_writeAtom_50 rfl) ?_
  refine Eq.trans (o_iconst (v := 1) d_Pr_writeAtom_51 (by decide)) ?_
  refine Eq.trans (o_iadd d_Pr_writeAtom_52) ?_
  obtain ⟨u9, T2, h1, h⟩ := w_C_of h
  refine s_cV2v d_Pr_writeAtom_53 pM_Pr_39 (Nat.le_of_ble_eq_true rfl) (obC_5 o) (hG0 _ _ _ _ _ h1) ?_
  replace h1 := trivial; revert h; generalize T2 = T; intro h
  refine Eq.trans (o_aload_n d_Pr_writeAtom_56 rfl) ?_
  refine s_DI d_Pr_writeAtom_57 pF_Pr_98 (dyC o) h (fun x3 h => ?_)
  refine s_if_le (t := 77) d_Pr_writeAtom_60 (by decide) h (fun h => ?_) (fun h => ?_)
  · exact s_vret d_Pr_writeAtom_77 rfl h
  · refine Eq.trans (o_aload_n d_Pr_writeAtom_63 rfl) ?_
    refine Eq.trans (o_iconst (v := 3) d_Pr_writeAtom_64 (by decide)) ?_
    refine Eq.trans (o_iconst (v := 2) d_Pr_writeAtom_65 (by decide)) ?_
    refine Eq.trans (o_aload_n d_Pr_writeAtom_66 rfl) ?_
    refine s_DI d_Pr_writeAtom_67 pF_Pr_98 (dyC o) h (fun x4 h => ?_)
    refine Eq.trans (o_imul d_Pr_writeAtom_70) ?_
    refine Eq.trans (o_iconst (v := 1) d_Pr_writeAtom_71 (by decide)) ?_
    refine Eq.trans (o_iadd d_Pr_writeAtom_72) ?_
    refine Eq.trans (o_iconst (v := 0) d_Pr_writeAtom_73 (by decide)) ?_
    obtain ⟨u9, T2, h1, h⟩ := w_C_of h
    refine s_cV3v d_Pr_writeAtom_74 pM_Pr_35 (Nat.le_of_ble_eq_true rfl) (obC_5 o) (c_Pr_add D (by omega) o _ _ _ _ _ _ h1) ?_
    replace h1 := trivial; revert h; generalize T2 = T; intro h
    exact s_vret d_Pr_writeAtom_77 rfl h
set_option maxRecDepth 100000 in
set_option maxHeartbeats 4000000 in
theorem c_Pr_writeAtom_0 (D : Nat) (hD : 2 ≤ D) (o : Nat) (G : Nat → Option Nat → Int32 → qW (Option Nat)) (hG0 : ∀ (p : Option Nat) (x : Int32) (T T1 : qT) (v : Option Nat), G 0 p x T = some (v, T1) → q_ev q_Mt D 49 [.ref (o + 5), va_rf p, .int x] (layC o T) = some (.inl (none), layC o T1)) (hG1 : ∀ (p : Option Nat) (x : Int32) (T T1 : qT) (v : Option Nat), G 1 p x T = some (v, T1) → q_ev q_Mt D 50 [.ref (o + 5), va_rf p, .int x] (layC o T) = some (.inl (none), layC o T1)) (hG2 : ∀ (p : Option Nat) (x : Int32) (T T1 : qT) (v : Option Nat), G 2 p x T = some (v, T1) → q_ev q_Mt D 51 [.ref (o + 5), va_rf p, .int x] (layC o T) = some (.inl (none), layC o T1)) (a1 : (Option Nat)) (a2 : Int32)  (T T1 : qT) (v : Unit) (h : f_Pr_writeAtom o G a1 a2 T = some (v, T1)) : q_out (q_ev q_Mt D) q_mPr_writeAtom (0, [some (.ref (o + 5)), some (va_rf a1), some (.int a2)], [], layC o T) = some (.inl (none), layC o T1) := by
  unfold f_Pr_writeAtom at h
  refine Eq.trans (o_aload_nR d_Pr_writeAtom_0 rfl) ?_
  obtain ⟨p1, e9, h2⟩ := w_nn_of h
  clear h; subst e9; have h := h2; clear h2
  refine s_DI d_Pr_writeAtom_1 pF_Pr_86 (dyC o) h (fun x2 h => ?_)
  refine s_if_ne (t := 8) d_Pr_writeAtom_4 (by decide) h (fun h => ?_) (fun h => ?_)
  · refine Eq.trans (o_aload_n d_Pr_writeAtom_8 rfl) ?_
    refine s_DR d_Pr_writeAtom_9 pF_Pr_92 (dyC o) h (fun u3 h => ?_)
    refine s_ifnonnull (t := 26) d_Pr_writeAtom_12 (by decide) h (fun e9 h2 => ?_) (fun p4 e9 h2 => ?_)
    · clear h; subst e9; have h := h2; clear h2
      refine Eq.trans (o_aload_n d_Pr_writeAtom_15 rfl) ?_
      refine Eq.trans (o_iconst (v := 0) d_Pr_writeAtom_16 (by decide)) ?_
      refine Eq.trans (o_aload_n d_Pr_writeAtom_17 rfl) ?_
      refine s_DI d_Pr_writeAtom_18 pF_Pr_95 (dyC o) h (fun x5 h => ?_)
      refine Eq.trans (o_iconst (v := 0) d_Pr_writeAtom_21 (by decide)) ?_
      obtain ⟨u9, T2, h1, h⟩ := w_C_of h
      refine s_cV3v d_Pr_writeAtom_22 pM_Pr_35 (Nat.le_of_ble_eq_true rfl) (obC_5 o) (c_Pr_add D (by omega) o _ _ _ _ _ _ h1) ?_
      replace h1 := trivial; revert h; generalize T2 = T; intro h
      exact s_vret d_Pr_writeAtom_25 rfl h
    · clear h; subst e9; have h := h2; clear h2
      refine Eq.trans (o_aload_n d_Pr_writeAtom_26 rfl) ?_
      refine s_DI d_Pr_writeAtom_27 pF_Pr_98 (dyC o) h (fun x6 h => ?_)
      refine s_if_le (t := 45) d_Pr_writeAtom_30 (by decide) h (fun h => ?_) (fun h => ?_)
      · exact c_Pr_writeAtom_45 D hD o G hG0 hG1 hG2 _ _ _ _ _ h
      · refine Eq.trans (o_aload_n d_Pr_writeAtom_33 rfl) ?_
        refine Eq.trans (o_iconst (v := 3) d_Pr_writeAtom_34 (by decide)) ?_
        refine Eq.trans (o_iconst (v := 2) d_Pr_writeAtom_35 (by decide)) ?_
        refine Eq.trans (o_aload_n d_Pr_writeAtom_36 rfl) ?_
        refine s_DI d_Pr_writeAtom_37 pF_Pr_98 (dyC o) h (fun x7 h => ?_)
        refine Eq.trans (o_imul d_Pr_writeAtom_40) ?_
        refine Eq.trans (o_iconst (v := 0) d_Pr_writeAtom_41 (by decide)) ?_
        obtain ⟨u9, T2, h1, h⟩ := w_C_of h
        refine s_cV3v d_Pr_writeAtom_42 pM_Pr_35 (Nat.le_of_ble_eq_true rfl) (obC_5 o) (c_Pr_add D (by omega) o _ _ _ _ _ _ h1) ?_
        replace h1 := trivial; revert h; generalize T2 = T; intro h
        exact c_Pr_writeAtom_45 D hD o G hG0 hG1 hG2 _ _ _ _ _ h
  · exact s_vret d_Pr_writeAtom_7 rfl h
theorem c_Pr_writeAtom (D : Nat) (hD : 2 ≤ D) (o : Nat) (G : Nat → Option Nat → Int32 → qW (Option Nat)) (hG0 : ∀ (p : Option Nat) (x : Int32) (T T1 : qT) (v : Option Nat), G 0 p x T = some (v, T1) → q_ev q_Mt D 49 [.ref (o + 5), va_rf p, .int x] (layC o T) = some (.inl (none), layC o T1)) (hG1 : ∀ (p : Option Nat) (x : Int32) (T T1 : qT) (v : Option Nat), G 1 p x T = some (v, T1) → q_ev q_Mt D 50 [.ref (o + 5), va_rf p, .int x] (layC o T) = some (.inl (none), layC o T1)) (hG2 : ∀ (p : Option Nat) (x : Int32) (T T1 : qT) (v : Option Nat), G 2 p x T = some (v, T1) → q_ev q_Mt D 51 [.ref (o + 5), va_rf p, .int x] (layC o T) = some (.inl (none), layC o T1)) (a1 : (Option Nat)) (a2 : Int32) (T T1 : qT) (v : Unit) (h : f_Pr_writeAtom o G a1 a2 T = some (v, T1)) : q_ev q_Mt (D + 1) 51 [.ref (o + 5), va_rf a1, .int a2] (layC o T) = some (.inl (none), layC o T1) := by
  rw [o_ev (M := q_mPr_writeAtom) (lo := [some (.ref (o + 5)), some (va_rf a1), some (.int a2)]) rfl (by cases a1 <;> exact Nat.le_of_ble_eq_true rfl) (by cases a1 <;> rfl)]
  exact c_Pr_writeAtom_0 D (by omega) o G hG0 hG1 hG2 a1 a2 T T1 v h
noncomputable def g_wr (o : Nat) : Nat → Nat → Option Nat → Int32 → qW (Option Nat)
  | 0 => fun _ _ _ => w_no
  | d + 1 => fun t p x => match t with
    | 0 => w_C (f_Pr_writeChoice o (g_wr o d) p x) fun _ => w_pure none
    | 1 => w_C (f_Pr_writeRepeat o (g_wr o d) p x) fun _ => w_pure none
    | 2 => w_C (f_Pr_writeAtom o (g_wr o d) p x) fun _ => w_pure none
    | _ => w_no
theorem c_g_wr (o : Nat) : ∀ d D : Nat, d + 2 ≤ D → (∀ (p : Option Nat) (x : Int32) (T T1 : qT) (v : Option Nat), g_wr o d 0 p x T = some (v, T1) → q_ev q_Mt D 49 [.ref (o + 5), va_rf p, .int x] (layC o T) = some (.inl (none), layC o T1)) ∧ (∀ (p : Option Nat) (x : Int32) (T T1 : qT) (v : Option Nat), g_wr o d 1 p x T = some (v, T1) → q_ev q_Mt D 50 [.ref (o + 5), va_rf p, .int x] (layC o T) = some (.inl (none), layC o T1)) ∧ (∀ (p : Option Nat) (x : Int32) (T T1 : qT) (v : Option Nat), g_wr o d 2 p x T = some (v, T1) → q_ev q_Mt D 51 [.ref (o + 5), va_rf p, .int x] (layC o T) = some (.inl (none), layC o T1)) := by
  intro d
  induction d with
  | zero => intro D hD; exact ⟨fun p x T T1 v h => (by cases h), fun p x T T1 v h => (by cases h), fun p x T T1 v h => (by cases h)⟩
  | succ d ih =>
    intro D hD
    obtain ⟨D, rfl⟩ : ∃ D', D = D' + 1 := ⟨D - 1, by omega⟩
    obtain ⟨i0, i1, i2⟩ := ih D (by omega)
    refine ⟨fun p x T T1 v h => ?_, fun p x T T1 v h => ?_, fun p x T T1 v h => ?_⟩
    · obtain ⟨u9, T2, h1, h⟩ := w_C_of h
      cases h
      exact c_Pr_writeChoice D (by omega) o (g_wr o d) i0 i1 i2 p x T _ u9 h1
    · obtain ⟨u9, T2, h1, h⟩ := w_C_of h
      cases h
      exact c_Pr_writeRepeat D (by omega) o (g_wr o d) i0 i1 i2 p x T _ u9 h1
    · obtain ⟨u9, T2, h1, h⟩ := w_C_of h
      cases h
      exact c_Pr_writeAtom D (by omega) o (g_wr o d) i0 i1 i2 p x T _ u9 h1
noncomputable def f_Pr_write (o : Nat) (a1 : (Option Nat)) (a2 : Int32) : qW Unit :=
  w_C (f_Pr_erase o) fun _ =>
  w_s 104 a2 <|
  w_C (f_Pr_add o 3 0 0) fun _ =>
  w_C (g_wr o 40 0 a1 0) fun _ =>
  w_C (f_Pr_add o 3 1 0) fun _ =>
  w_C (f_Pr_add o 4 0 0) fun _ =>
  w_pure ()
set_option maxRecDepth 100000 in
set_option maxHeartbeats 4000000 in
theorem c_Pr_write_0 (D : Nat) (hD : 42 ≤ D) (o : Nat) (a1 : (Option Nat)) (a2 : Int32)  (T T1 : qT) (v : Unit) (h : f_Pr_write o a1 a2 T = some (v, T1)) : q_out (q_ev q_Mt D) q_mPr_write (0, [some (.ref (o + 5)), some (va_rf a1), some (.int a2)], [], layC o T) = some (.inl (none), layC o T1) := by
  unfold f_Pr_write at h
  refine Eq.trans (o_aload_n d_Pr_write_0 rfl) ?_
  obtain ⟨u9, T2, h1, h⟩ := w_C_of h
  refine s_cV0v d_Pr_write_1 pM_Pr_32 (Nat.le_of_ble_eq_true rfl) (obC_5 o) (c_Pr_erase D (by omega) o _ _ _ h1) ?_
  replace h1 := trivial; revert h; generalize T2 = T; intro h
  refine Eq.trans (o_aload_n d_Pr_write_4 rfl) ?_
  refine Eq.trans (o_iload_n d_Pr_write_5 rfl) ?_
  refine s_put d_Pr_write_6 pF_Pr_25 (zC_Pr_numbered o) h (fun T h => ?_)
  refine Eq.trans (o_aload_n d_Pr_write_9 rfl) ?_
  refine Eq.trans (o_iconst (v := 3) d_Pr_write_10 (by decide)) ?_
  refine Eq.trans (o_iconst (v := 0) d_Pr_write_11 (by decide)) ?_
  refine Eq.trans (o_iconst (v := 0) d_Pr_write_12 (by decide)) ?_
  obtain ⟨u9, T2, h1, h⟩ := w_C_of h
  refine s_cV3v d_Pr_write_13 pM_Pr_35 (Nat.le_of_ble_eq_true rfl) (obC_5 o) (c_Pr_add D (by omega) o _ _ _ _ _ _ h1) ?_
  replace h1 := trivial; revert h; generalize T2 = T; intro h
  refine Eq.trans (o_aload_n d_Pr_write_16 rfl) ?_
  refine Eq.trans (o_aload_nR d_Pr_write_17 rfl) ?_
  refine Eq.trans (o_iconst (v := 0) d_Pr_write_18 (by decide)) ?_
  obtain ⟨u9, T2, h1, h⟩ := w_C_of h
  refine s_cV2v d_Pr_write_19 pM_Pr_39 (Nat.le_of_ble_eq_true rfl) (obC_5 o) ((c_g_wr o 40 D (by omega)).1 _ _ _ _ _ h1) ?_
  replace h1 := trivial; revert h; generalize T2 = T; intro h
  refine Eq.trans (o_aload_n d_Pr_write_22 rfl) ?_
  refine Eq.trans (o_iconst (v := 3) d_Pr_write_23 (by decide)) ?_
  refine Eq.trans (o_iconst (v := 1) d_Pr_write_24 (by decide)) ?_
  refine Eq.trans (o_iconst (v := 0) d_Pr_write_25 (by decide)) ?_
  obtain ⟨u9, T2, h1, h⟩ := w_C_of h
  refine s_cV3v d_Pr_write_26 pM_Pr_35 (Nat.le_of_ble_eq_true rfl) (obC_5 o) (c_Pr_add D (by omega) o _ _ _ _ _ _ h1) ?_
  replace h1 := trivial; revert h; generalize T2 = T; intro h
  refine Eq.trans (o_aload_n d_Pr_write_29 rfl) ?_
  refine Eq.trans (o_iconst (v := 4) d_Pr_write_30 (by decide)) ?_
  refine Eq.trans (o_iconst (v := 0) d_Pr_write_31 (by decide)) ?_
  refine Eq.trans (o_iconst (v := 0) d_Pr_write_32 (by decide)) ?_
  obtain ⟨u9, T2, h1, h⟩ := w_C_of h
  refine s_cV3v d_Pr_write_33 pM_Pr_35 (Nat.le_of_ble_eq_true rfl) (obC_5 o) (c_Pr_add D (by omega) o _ _ _ _ _ _ h1) ?_
  replace h1 := trivial; revert h; generalize T2 = T; intro h
  exact s_vret d_Pr_write_36 rfl h
theorem c_Pr_write (D : Nat) (hD : 43 ≤ D) (o : Nat) (a1 : (Option Nat)) (a2 : Int32) (T T1 : qT) (v : Unit) (h : f_Pr_write o a1 a2 T = some (v, T1)) : q_ev q_Mt D 47 [.ref (o + 5), va_rf a1, .int a2] (layC o T) = some (.inl (none), layC o T1) := by
  obtain ⟨D, rfl⟩ : ∃ D', D = D' + 1 := ⟨D - 1, by omega⟩
  rw [o_ev (M := q_mPr_write) (lo := [some (.ref (o + 5)), some (va_rf a1), some (.int a2)]) rfl (by cases a1 <;> exact Nat.le_of_ble_eq_true rfl) (by cases a1 <;> rfl)]
  exact c_Pr_write_0 D (by omega) o a1 a2 T T1 v h
noncomputable def f_PW_compile (o : Nat)  : qW (Int32 ⊕ Nat) :=
  w_C (f_Pr_isWritten o) fun x1 =>
  w_if (x1 = 0) (
    w_S 1 fun x2 =>
    w_C (f_Pa_parse o x2) fun u3 =>
    w_S 85 fun x4 =>
    w_s 2 x4 <|
    w_S 2 fun x5 =>
    w_if (x5 = ((-1))) (
      w_nn u3 fun p6 =>
      w_is p6 o 5 <|
      w_C (f_Rw_sizeAsChoice o p6) fun x7 =>
      w_if (((x7 + 3)) ≤ 160) (
        w_S 84 fun x8 =>
        w_C (f_Pr_write o (some p6) x8) fun _ =>
        w_S 103 fun x9 =>
        w_retX .int x9) (
        w_thr 2)) (
      w_thr 1)) (
    w_thr 2)
set_option maxRecDepth 100000 in
set_option maxHeartbeats 4000000 in
theorem c_PW_compile_0 (D : Nat) (hD : 45 ≤ D) (o : Nat)   (T T1 : qT) (v : (Int32 ⊕ Nat)) (h : f_PW_compile o T = some (v, T1)) : q_out (q_ev q_Mt D) q_mPW_compile (0, [some (.ref (o + 0)), none], [], layC o T) = q_resX (layC o) v T1 := by
  unfold f_PW_compile at h
  refine Eq.trans (o_aload_n d_PW_compile_0 rfl) ?_
  refine s_ref d_PW_compile_1 pF_PW_39 (zC_PW_program o) ?_
  obtain ⟨x1, T2, h1, h⟩ := w_C_of h
  refine s_cV0i d_PW_compile_4 pM_PW_52 (Nat.le_of_ble_eq_true rfl) (obC_5 o) (c_Pr_isWritten D (by omega) o _ _ _ h1) ?_
  replace h1 := trivial; revert h; generalize T2 = T; intro h
  refine s_if_eq (t := 20) d_PW_compile_7 (by decide) h (fun h => ?_) (fun h => ?_)
  · refine Eq.trans (o_aload_n d_PW_compile_20 rfl) ?_
    refine s_ref d_PW_compile_21 pF_PW_32 (zC_PW_parser o) ?_
    refine Eq.trans (o_aload_n d_PW_compile_24 rfl) ?_
    refine s_get d_PW_compile_25 pF_PW_13 (zC_PW_length o) h (fun x2 h => ?_)
    obtain ⟨u3, T2, h1, h⟩ := w_C_of h
    refine s_cV1r d_PW_compile_28 pM_PW_63 (Nat.le_of_ble_eq_true rfl) (obC_4 o) (c_Pa_parse D (by omega) o _ _ _ _ h1) ?_
    replace h1 := trivial; revert h; generalize T2 = T; intro h
    refine Eq.trans (o_astore_nR (lo' := [some (.ref (o + 0)), some (va_rf u3)]) d_PW_compile_31 (Nat.le_of_ble_eq_true rfl) rfl) ?_
    refine Eq.trans (o_aload_n d_PW_compile_32 rfl) ?_
    refine Eq.trans (o_aload_n d_PW_compile_33 rfl) ?_
    refine s_ref d_PW_compile_34 pF_PW_32 (zC_PW_parser o) ?_
    refine s_get d_PW_compile_37 pF_PW_67 (zC_Pa_error o) h (fun x4 h => ?_)
    refine s_put d_PW_compile_40 pF_PW_17 (zC_PW_errorAt o) h (fun T h => ?_)
    refine Eq.trans (o_aload_n d_PW_compile_43 rfl) ?_
    refine s_get d_PW_compile_44 pF_PW_17 (zC_PW_errorAt o) h (fun x5 h => ?_)
    refine Eq.trans (o_iconst (v := (-1)) d_PW_compile_47 (by decide)) ?_
    refine s_icmp_eq (t := 61) d_PW_compile_48 (by decide) h (fun h => ?_) (fun h => ?_)
    · refine Eq.trans (o_aload_nR d_PW_compile_61 rfl) ?_
      obtain ⟨p6, e9, h2⟩ := w_nn_of h
      clear h; subst e9; have h := h2; clear h2
      obtain ⟨⟨fs9, hb9⟩, h⟩ := w_is_of (dyC o) h
      obtain ⟨x7, T2, h1, h⟩ := w_C_of h
      refine Eq.trans (o_callV0 d_PW_compile_62 pM_PW_75 (Nat.le_of_ble_eq_true rfl) hb9 (c_Rw_sizeAsChoice D (by omega) o _ _ _ _ h1)) ?_
      replace h1 := trivial; revert h; generalize T2 = T; intro h
      refine Eq.trans (o_iconst (v := 3) d_PW_compile_65 (by decide)) ?_
      refine Eq.trans (o_iadd d_PW_compile_66) ?_
      refine Eq.trans (o_sipush (v := 160) d_PW_compile_67 (by decide)) ?_
      refine s_icmp_le (t := 83) d_PW_compile_70 (by decide) h (fun h => ?_) (fun h => ?_)
      · refine Eq.trans (o_aload_n d_PW_compile_83 rfl) ?_
        refine s_ref d_PW_compile_84 pF_PW_39 (zC_PW_program o) ?_
        refine Eq.trans (o_aload_n d_PW_compile_87 rfl) ?_
        refine Eq.trans (o_aload_n d_PW_compile_88 rfl) ?_
        refine s_ref d_PW_compile_89 pF_PW_32 (zC_PW_parser o) ?_
        refine s_get d_PW_compile_92 pF_PW_83 (zC_Pa_groups o) h (fun x8 h => ?_)
        obtain ⟨u9, T2, h1, h⟩ := w_C_of h
        refine s_cV2v d_PW_compile_95 pM_PW_86 (Nat.le_of_ble_eq_true rfl) (obC_5 o) (c_Pr_write D (by omega) o _ _ _ _ _ h1) ?_
        replace h1 := trivial; revert h; generalize T2 = T; intro h
        refine Eq.trans (o_aload_n d_PW_compile_98 rfl) ?_
        refine s_ref d_PW_compile_99 pF_PW_39 (zC_PW_program o) ?_
        refine s_get d_PW_compile_102 pF_PW_90 (zC_Pr_size o) h (fun x9 h => ?_)
        exact s_iretX d_PW_compile_105 rfl h
      · exact s_thr d_PW_compile_73 rfl (cnC o) h
    · exact s_thr d_PW_compile_51 rfl (cnC o) h
  · exact s_thr d_PW_compile_10 rfl (cnC o) h
theorem c_PW_compile (D : Nat) (hD : 46 ≤ D) (o : Nat)  (T T1 : qT) (v : (Int32 ⊕ Nat)) (h : f_PW_compile o  T = some (v, T1)) : q_ev q_Mt D 13 [.ref (o + 0)] (layC o T) = q_resX (layC o) v T1 := by
  obtain ⟨D, rfl⟩ : ∃ D', D = D' + 1 := ⟨D - 1, by omega⟩
  rw [o_ev (M := q_mPW_compile) (lo := [some (.ref (o + 0)), none]) rfl (Nat.le_of_ble_eq_true rfl) rfl]
  exact c_PW_compile_0 D (by omega) o  T T1 v h
