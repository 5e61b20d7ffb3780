noncomputable def f_Pa_readEscaped (o : Nat) (a1 : Int32) : qW Unit :=
  w_C (f_Pa_peek o) fun x1 =>
  w_if (¬ x1 = ((-1))) (
    w_S 83 fun x2 =>
    w_s 83 ((x2 + 1)) <|
    w_if (¬ x1 = 100) (
      w_if (¬ x1 = 119) (
        w_C (f_Cs_addRange o a1 x1 x1) fun _ =>
        w_pure ()) (
        w_C (f_Cs_addRange o a1 97 122) fun _ =>
        w_C (f_Cs_addRange o a1 65 90) fun _ =>
        w_C (f_Cs_addRange o a1 48 57) fun _ =>
        w_C (f_Cs_addRange o a1 95 95) fun _ =>
        w_pure ())) (
      w_C (f_Cs_addRange o a1 48 57) fun _ =>
      w_pure ())) (
    w_C (f_Pa_fail o) fun _ =>
    w_pure ())
set_option maxRecDepth 100000 in
set_option maxHeartbeats 4000000 in
theorem c_Pa_readEscaped_0 (D : Nat) (hD : 2 ≤ D) (o : Nat) (a1 : Int32)  (T T1 : qT) (v : Unit) (h : f_Pa_readEscaped o a1 T = some (v, T1)) : q_out (q_ev q_Mt D) q_mPa_readEscaped (0, [some (.ref (o + 4)), some (.int a1), none], [], layC o T) = some (.inl (none), layC o T1) := by
  unfold f_Pa_readEscaped at h
  refine Eq.trans (o_aload_n d_Pa_readEscaped_0 rfl) ?_
  obtain ⟨x1, T2, h1, h⟩ := w_C_of h
  refine s_cV0i d_Pa_readEscaped_1 pM_Pa_53 (Nat.le_of_ble_eq_true rfl) (obC_4 o) (c_Pa_peek D (by omega) o _ _ _ h1) ?_
  replace h1 := trivial; revert h; generalize T2 = T; intro h
  refine Eq.trans (o_istore_n (lo' := [some (.ref (o + 4)), some (.int a1), some (.int x1)]) d_Pa_readEscaped_4 (Nat.le_of_ble_eq_true rfl) rfl) ?_
  refine Eq.trans (o_iload_n d_Pa_readEscaped_5 rfl) ?_
  refine Eq.trans (o_iconst (v := (-1)) d_Pa_readEscaped_6 (by decide)) ?_
  refine s_icmp_ne (t := 15) d_Pa_readEscaped_7 (by decide) h (fun h => ?_) (fun h => ?_)
  · refine Eq.trans (o_aload_n d_Pa_readEscaped_15 rfl) ?_
    refine Eq.trans (o_dup d_Pa_readEscaped_16 rfl) ?_
    refine s_get d_Pa_readEscaped_17 pF_Pa_15 (zC_Pa_at o) h (fun x2 h => ?_)
    refine Eq.trans (o_iconst (v := 1) d_Pa_readEscaped_20 (by decide)) ?_
    refine Eq.trans (o_iadd d_Pa_readEscaped_21) ?_
    refine s_put d_Pa_readEscaped_22 pF_Pa_15 (zC_Pa_at o) h (fun T h => ?_)
    refine Eq.trans (o_iload_n d_Pa_readEscaped_25 rfl) ?_
    refine Eq.trans (o_bipush (v := 100) d_Pa_readEscaped_26 (by decide)) ?_
    refine s_icmp_ne (t := 46) d_Pa_readEscaped_28 (by decide) h (fun h => ?_) (fun h => ?_)
    · refine Eq.trans (o_iload_n d_Pa_readEscaped_46 rfl) ?_
      refine Eq.trans (o_bipush (v := 119) d_Pa_readEscaped_47 (by decide)) ?_
      refine s_icmp_ne (t := 103) d_Pa_readEscaped_49 (by decide) h (fun h => ?_) (fun h => ?_)
      · refine Eq.trans (o_aload_n d_Pa_readEscaped_103 rfl) ?_
        refine s_ref d_Pa_readEscaped_104 pF_Pa_28 (zC_Pa_sets o) ?_
        refine Eq.trans (o_iload_n d_Pa_readEscaped_107 rfl) ?_
        refine Eq.trans (o_iload_n d_Pa_readEscaped_108 rfl) ?_
        refine Eq.trans (o_iload_n d_Pa_readEscaped_109 rfl) ?_
        obtain ⟨u9, T2, h1, h⟩ := w_C_of h
        refine s_cV3v d_Pa_readEscaped_110 pM_Pa_110 (Nat.le_of_ble_eq_true rfl) (obC_2 o) (c_Cs_addRange D (by omega) o _ _ _ _ _ _ h1) ?_
        replace h1 := trivial; revert h; generalize T2 = T; intro h
        exact s_vret d_Pa_readEscaped_113 rfl h
      · refine Eq.trans (o_aload_n d_Pa_readEscaped_52 rfl) ?_
        refine s_ref d_Pa_readEscaped_53 pF_Pa_28 (zC_Pa_sets o) ?_
        refine Eq.trans (o_iload_n d_Pa_readEscaped_56 rfl) ?_
        refine Eq.trans (o_bipush (v := 97) d_Pa_readEscaped_57 (by decide)) ?_
        refine Eq.trans (o_bipush (v := 122) d_Pa_readEscaped_59 (by decide)) ?_
        obtain ⟨u9, T2, h1, h⟩ := w_C_of h
        refine s_cV3v d_Pa_readEscaped_61 pM_Pa_110 (Nat.le_of_ble_eq_true rfl) (obC_2 o) (c_Cs_addRange D (by omega) o _ _ _ _ _ _ h1) ?_
        replace h1 := trivial; revert h; generalize T2 = T; intro h
        refine Eq.trans (o_aload_n d_Pa_readEscaped_64 rfl) ?_
        refine s_ref d_Pa_readEscaped_65 pF_Pa_28 (zC_Pa_sets o) ?_
        refine Eq.trans (o_iload_n d_Pa_readEscaped_68 rfl) ?_
        refine Eq.trans (o_bipush (v := 65) d_Pa_readEscaped_69 (by decide)) ?_
        refine Eq.trans (o_bipush (v := 90) d_Pa_readEscaped_71 (by decide)) ?_
        obtain ⟨u9, T2, h1, h⟩ := w_C_of h
        refine s_cV3v d_Pa_readEscaped_73 pM_Pa_110 (Nat.le_of_ble_eq_true rfl) (obC_2 o) (c_Cs_addRange D (by omega) o _ _ _ _ _ _ h1) ?_
        replace h1 := trivial; revert h; generalize T2 = T; intro h
        refine Eq.trans (o_aload_n d_Pa_readEscaped_76 rfl) ?_
        refine s_ref d_Pa_readEscaped_77 pF_Pa_28 (zC_Pa_sets o) ?_
        refine Eq.trans (o_iload_n d_Pa_readEscaped_80 rfl) ?_
        refine Eq.trans (o_bipush (v := 48) d_Pa_readEscaped_81 (by decide)) ?_
        refine Eq.trans (o_bipush (v := 57) d_Pa_readEscaped_83 (by decide)) ?_
        obtain ⟨u9, T2, h1, h⟩ := w_C_of h
        refine s_cV3v d_Pa_readEscaped_85 pM_Pa_110 (Nat.le_of_ble_eq_true rfl) (obC_2 o) (c_Cs_addRange D (by omega) o _ _ _ _ _ _ h1) ?_
        replace h1 := trivial; revert h; generalize T2 = T; intro h
        refine Eq.trans (o_aload_n d_Pa_readEscaped_88 rfl) ?_
        refine s_ref d_Pa_readEscaped_89 pF_Pa_28 (zC_Pa_sets o) ?_
        refine Eq.trans (o_iload_n d_Pa_readEscaped_92 rfl) ?_
        refine Eq.trans (o_bipush (v := 95) d_Pa_readEscaped_93 (by decide)) ?_
        refine Eq.trans (o_bipush (v := 95) d_Pa_readEscaped_95 (by decide)) ?_
        obtain ⟨u9, T2, h1, h⟩ := w_C_of h
        refine s_cV3v d_Pa_readEscaped_97 pM_Pa_110 (Nat.le_of_ble_eq_true rfl) (obC_2 o) (c_Cs_addRange D (by omega) o _ _ _ _ _ _ h1) ?_
        replace h1 := trivial; revert h; generalize T2 = T; intro h
        refine Eq.trans (o_goto (t := 113) d_Pa_readEscaped_100 (by decide)) ?_
        exact s_vret d_Pa_readEscaped_113 rfl h
    · refine Eq.trans (o_aload_n d_Pa_readEscaped_31 rfl) ?_
      refine s_ref d_Pa_readEscaped_32 pF_Pa_28 (zC_Pa_sets o) ?_
      refine Eq.trans (o_iload_n d_Pa_readEscaped_35 rfl) ?_
      refine Eq.trans (o_bipush (v := 48) d_Pa_readEscaped_36 (by decide)) ?_
      refine Eq.trans (o_bipush (v := 57) d_Pa_readEscaped_38 (by decide)) ?_
      obtain ⟨u9, T2, h1, h⟩ := w_C_of h
      refine s_cV3v d_Pa_readEscaped_40 pM_Pa_110 (Nat.le_of_ble_eq_true rfl) (obC_2 o) (c_Cs_addRange D (by omega) o _ _ _ _ _ _ h1) ?_
      replace h1 := trivial; revert h; generalize T2 = T; intro h
      refine Eq.trans (o_goto (t := 113) d_Pa_readEscaped_43 (by decide)) ?_
      exact s_vret d_Pa_readEscaped_113 rfl h
  · refine Eq.trans (o_aload_n d_Pa_readEscaped_10 rfl) ?_
    obtain ⟨u9, T2, h1, h⟩ := w_C_of h
    refine s_cV0v d_Pa_readEscaped_11 pM_Pa_47 (Nat.le_of_ble_eq_true rfl) (obC_4 o) (c_Pa_fail D (by omega) o _ _ _ h1) ?_
    replace h1 := trivial; revert h; generalize T2 = T; intro h
    exact s_vret d_Pa_readEscaped_14 rfl h
theorem c_Pa_readEscaped (D : Nat) (hD : 3 ≤ D) (o : Nat) (a1 : Int32) (T T1 : qT) (v : Unit) (h : f_Pa_readEscaped o a1 T = some (v, T1)) : q_ev q_Mt D 33 [.ref (o + 4), .int a1] (layC o T) = some (.inl (none), layC o T1) := by
  obtain ⟨D, rfl⟩ : ∃ D', D = D' + 1 := ⟨D - 1, by omega⟩
  rw [o_ev (M := q_mPa_readEscaped) (lo := [some (.ref (o + 4)), some (.int a1), none]) rfl (Nat.le_of_ble_eq_true rfl) rfl]
  exact c_Pa_readEscaped_0 D (by omega) o a1 T T1 v h
noncomputable def k_Cs_invert_11 (o : Nat) (v1 : Int32) (v2 : Int32) : qW (qJ ⊕ Unit) :=
  w_if (4 ≤ v2) (
    w_rt ()) (
    w_L 192 (((v1 * 4) + v2)) fun y1 =>
    w_l 192 (((v1 * 4) + v2)) ((y1 ^^^ (-1 : Int64))) <|
    w_go 11 [.int v1, .int (v2 + 1)] [])
noncomputable def k_Cs_invert_0 (o : Nat) (a1 : Int32) : qW (qJ ⊕ Unit) :=
  w_C (f_Cs_isOpen o a1) fun x1 =>
  w_if (¬ x1 = 0) (
    w_go 11 [.int a1, .int 0] []) (
    w_rt ())
noncomputable def b_Cs_invert (o : Nat) : qJ → qW (qJ ⊕ Unit) := fun x => match x with
  | (0, [.int a1], []) => k_Cs_invert_0 o a1
  | (11, [.int v1, .int v2], []) => k_Cs_invert_11 o v1 v2
  | _ => w_no
noncomputable def f_Cs_invert (o : Nat) (a1 : Int32) : qW Unit := w_fix (b_Cs_invert o) (0, [.int a1], [])
set_option maxRecDepth 100000 in
set_option maxHeartbeats 4000000 in
theorem c_Cs_invert_11 (D : Nat) (hD : 1 ≤ D) (o : Nat) (n : Nat) (ih_11 : ∀ (v1 : Int32) (v2 : Int32)  (T T2 : qT) (v : Unit), w_run (b_Cs_invert o) n (11, [.int v1, .int v2], []) T = some (v, T2) → q_out (q_ev q_Mt D) q_mCs_invert (11, [some (.ref (o + 2)), some (.int v1), some (.int v2)], [], layC o T) = some (.inl (none), layC o T2)) (v1 : Int32) (v2 : Int32)  (T T1 T2 : qT) (rr : qJ ⊕ Unit) (v : Unit) (h : k_Cs_invert_11 o v1 v2 T = some (rr, T1)) (hE : w_end (b_Cs_invert o) n rr T1 = some (v, T2)) : q_out (q_ev q_Mt D) q_mCs_invert (11, [some (.ref (o + 2)), some (.int v1), some (.int v2)], [], layC o T) = some (.inl (none), layC o T2) := by
  unfold k_Cs_invert_11 at h
  refine Eq.trans (o_iload_n d_Cs_invert_11 rfl) ?_
  refine Eq.trans (o_iconst (v := 4) d_Cs_invert_12 (by decide)) ?_
  refine s_icmp_ge (t := 46) d_Cs_invert_13 (by decide) h (fun h => ?_) (fun h => ?_)
  · exact s_vretJ d_Cs_invert_46 rfl h hE
  · refine Eq.trans (o_aload_n d_Cs_invert_16 rfl) ?_
    refine s_ref d_Cs_invert_17 pF_Cs_11 (zC_Cs_bits o) ?_
    refine Eq.trans (o_iload_n d_Cs_invert_20 rfl) ?_
    refine Eq.trans (o_iconst (v := 4) d_Cs_invert_21 (by decide)) ?_
    refine Eq.trans (o_imul d_Cs_invert_22) ?_
    refine Eq.trans (o_iload_n d_Cs_invert_23 rfl) ?_
    refine Eq.trans (o_iadd d_Cs_invert_24) ?_
    refine Eq.trans (o_aload_n d_Cs_invert_25 rfl) ?_
    refine s_ref d_Cs_invert_26 pF_Cs_11 (zC_Cs_bits o) ?_
    refine Eq.trans (o_iload_n d_Cs_invert_29 rfl) ?_
    refine Eq.trans (o_iconst (v := 4) d_Cs_invert_30 (by decide)) ?_
    refine Eq.trans (o_imul d_Cs_invert_31) ?_
    refine Eq.trans (o_iload_n d_Cs_invert_32 rfl) ?_
    refine Eq.trans (o_iadd d_Cs_invert_33) ?_
    refine s_lald d_Cs_invert_34 (rC_3 o) h (fun y1 h => ?_)
    refine Eq.trans (o_ldc2 d_Cs_invert_35 pL_Cs_35) ?_
    refine Eq.trans (o_lxor d_Cs_invert_38) ?_
    refine s_last d_Cs_invert_39 (rC_3 o) h (fun T h => ?_)
    refine Eq.trans (o_iinc (v := (v2 + 1)) (lo' := [some (.ref (o + 2)), some (.int v1), some (.int (v2 + 1))]) d_Cs_invert_40 rfl (by rw [show Int32.ofInt 1 = 1 from by decide]) (Nat.le_of_ble_eq_true rfl) rfl) ?_
    refine Eq.trans (o_goto (t := 11) d_Cs_invert_43 (by decide)) ?_
    exact ih_11 _ _ _ _ _ (s_jump h hE)
set_option maxRecDepth 100000 in
set_option maxHeartbeats 4000000 in
theorem c_Cs_invert_0 (D : Nat) (hD : 1 ≤ D) (o : Nat) (n : Nat) (ih_11 : ∀ (v1 : Int32) (v2 : Int32)  (T T2 : qT) (v : Unit), w_run (b_Cs_invert o) n (11, [.int v1, .int v2], []) T = some (v, T2) → q_out (q_ev q_Mt D) q_mCs_invert (11, [some (.ref (o + 2)), some (.int v1), some (.int v2)], [], layC o T) = some (.inl (none), layC o T2)) (a1 : Int32)  (T T1 T2 : qT) (rr : qJ ⊕ Unit) (v : Unit) (h : k_Cs_invert_0 o a1 T = some (rr, T1)) (hE : w_end (b_Cs_invert o) n rr T1 = some (v, T2)) : q_out (q_ev q_Mt D) q_mCs_invert (0, [some (.ref (o + 2)), some (.int a1), none], [], layC o T) = some (.inl (none), layC o T2) := by
  unfold k_Cs_invert_0 at h
  refine Eq.trans (o_aload_n d_Cs_invert_0 rfl) ?_
  refine Eq.trans (o_iload_n d_Cs_invert_1 rfl) ?_
  obtain ⟨x1, T2, h1, h⟩ := w_C_of h
  refine s_cV1i d_Cs_invert_2 pM_Cs_25 (Nat.le_of_ble_eq_true rfl) (obC_2 o) (c_Cs_isOpen D (by omega) o _ _ _ _ h1) ?_
  replace h1 := trivial; revert h; generalize T2 = T; intro h
  refine s_if_ne (t := 9) d_Cs_invert_5 (by decide) h (fun h => ?_) (fun h => ?_)
  · refine Eq.trans (o_iconst (v := 0) d_Cs_invert_9 (by decide)) ?_
    refine Eq.trans (o_istore_n (lo' := [some (.ref (o + 2)), some (.int a1), some (.int 0)]) d_Cs_invert_10 (Nat.le_of_ble_eq_true rfl) rfl) ?_
    exact ih_11 _ _ _ _ _ (s_jump h hE)
  · exact s_vretJ d_Cs_invert_8 rfl h hE
theorem c_Cs_invert_lp (D : Nat) (hD : 1 ≤ D) (o : Nat) : ∀ n : Nat, (∀ (v1 : Int32) (v2 : Int32)  (T T2 : qT) (v : Unit), w_run (b_Cs_invert o) n (11, [.int v1, .int v2], []) T = some (v, T2) → q_out (q_ev q_Mt D) q_mCs_invert (11, [some (.ref (o + 2)), some (.int v1), some (.int v2)], [], layC o T) = some (.inl (none), layC o T2)) := by
  intro n
  induction n with
  | zero => exact (fun v1 v2 T T2 v h => by cases h)
  | succ n ih =>
    have ih_11 := ih
    · intro v1 v2 T T2 v h
      obtain ⟨rr, T1, hb, hE⟩ := w_run_succ h
      exact c_Cs_invert_11 D hD o n ih_11 v1 v2 T T1 T2 rr v hb hE
theorem c_Cs_invert (D : Nat) (hD : 2 ≤ D) (o : Nat) (a1 : Int32) (T T2 : qT) (v : Unit) (h : f_Cs_invert o a1 T = some (v, T2)) : q_ev q_Mt D 21 [.ref (o + 2), .int a1] (layC o T) = some (.inl (none), layC o T2) := by
  obtain ⟨D, rfl⟩ : ∃ D', D = D' + 1 := ⟨D - 1, by omega⟩
  obtain ⟨n, hn⟩ := w_fix_iff.mp h
  cases n with
  | zero => cases hn
  | succ n =>
    obtain ⟨rr, T1, hb, hE⟩ := w_run_succ hn
    have hl := c_Cs_invert_lp D (by omega) o n
    have ih_11 := hl
    rw [o_ev (M := q_mCs_invert) (lo := [some (.ref (o + 2)), some (.int a1), none]) rfl (Nat.le_of_ble_eq_true rfl) rfl]
    exact c_Cs_invert_0 D (by omega) o n ih_11 a1 T T1 T2 rr v hb hE
noncomputable def f_Pa_expect (o : Nat) (a1 : Int32) : qW Unit :=
  w_C (f_Pa_peek o) fun x1 =>
  w_if (¬ x1 = a1) (
    w_C (f_Pa_fail o) fun _ =>
    w_pure ()) (
    w_S 83 fun x2 =>
    w_s 83 ((x2 + 1)) <|
    w_pure ())
set_option maxRecDepth 100000 in
set_option maxHeartbeats 4000000 in
theorem c_Pa_expect_0 (D : Nat) (hD : 1 ≤ D) (o : Nat) (a1 : Int32)  (T T1 : qT) (v : Unit) (h : f_Pa_expect o a1 T = some (v, T1)) : q_out (q_ev q_Mt D) q_mPa_expect (0, [some (.ref (o + 4)), some (.int a1)], [], layC o T) = some (.inl (none), layC o T1) := by
  unfold f_Pa_expect at h
  refine Eq.trans (o_aload_n d_Pa_expect_0 rfl) ?_
  obtain ⟨x1, T2, h1, h⟩ := w_C_of h
  refine s_cV0i d_Pa_expect_1 pM_Pa_53 (Nat.le_of_ble_eq_true rfl) (obC_4 o) (c_Pa_peek D (by omega) o _ _ _ h1) ?_
  replace h1 := trivial; revert h; generalize T2 = T; intro h
  refine Eq.trans (o_iload_n d_Pa_expect_4 rfl) ?_
  refine s_icmp_ne (t := 21) d_Pa_expect_5 (by decide) h (fun h => ?_) (fun h => ?_)
  · refine Eq.trans (o_aload_n d_Pa_expect_21 rfl) ?_
    obtain ⟨u9, T2, h1, h⟩ := w_C_of h
    refine s_cV0v d_Pa_expect_22 pM_Pa_47 (Nat.le_of_ble_eq_true rfl) (obC_4 o) (c_Pa_fail D (by omega) o _ _ _ h1) ?_
    replace h1 := trivial; revert h; generalize T2 = T; intro h
    exact s_vret d_Pa_expect_25 rfl h
  · refine Eq.trans (o_aload_n d_Pa_expect_8 rfl) ?_
    refine Eq.trans (o_dup d_Pa_expect_9 rfl) ?_
    refine s_get d_Pa_expect_10 pF_Pa_15 (zC_Pa_at o) h (fun x2 h => ?_)
    refine Eq.trans (o_iconst (v := 1) d_Pa_expect_13 (by decide)) ?_
    refine Eq.trans (o_iadd d_Pa_expect_14) ?_
    refine s_put d_Pa_expect_15 pF_Pa_15 (zC_Pa_at o) h (fun T h => ?_)
    refine Eq.trans (o_goto (t := 25) d_Pa_expect_18 (by decide)) ?_
    exact s_vret d_Pa_expect_25 rfl h
theorem c_Pa_expect (D : Nat) (hD : 2 ≤ D) (o : Nat) (a1 : Int32) (T T1 : qT) (v : Unit) (h : f_Pa_expect o a1 T = some (v, T1)) : q_ev q_Mt D 29 [.ref (o + 4), .int a1] (layC o T) = some (.inl (none), layC o T1) := by
  obtain ⟨D, rfl⟩ : ∃ D', D = D' + 1 := ⟨D - 1, by omega⟩
  rw [o_ev (M := q_mPa_expect) (lo := [some (.ref (o + 4)), some (.int a1)]) rfl (Nat.le_of_ble_eq_true rfl) rfl]
  exact c_Pa_expect_0 D (by omega) o a1 T T1 v h
noncomputable def f_Pa_isItem (o : Nat) (a1 : Int32) : qW Int32 :=
  w_if (a1 = ((-1))) (
    w_ret .boolean 0) (
    w_if (a1 = 93) (
      w_ret .boolean 0) (
      w_if (a1 = 91) (
        w_ret .boolean 0) (
        w_if (a1 = 92) (
          w_ret .boolean 0) (
          w_if (a1 = 45) (
            w_ret .boolean 0) (
            w_if (a1 = 94) (
              w_ret .boolean 0) (
              w_ret .boolean 1))))))
set_option maxRecDepth 100000 in
set_option maxHeartbeats 4000000 in
theorem c_Pa_isItem_0 (D : Nat) (hD : 0 ≤ D) (o : Nat) (a1 : Int32)  (T T1 : qT) (v : Int32) (h : f_Pa_isItem o a1 T = some (v, T1)) : q_out (q_ev q_Mt D) q_mPa_isItem (0, [some (.int a1)], [], layC o T) = some (.inl (some (.int v)), layC o T1) := by
  unfold f_Pa_isItem at h
  refine Eq.trans (o_iload_n d_Pa_isItem_0 rfl) ?_
  refine Eq.trans (o_iconst (v := (-1)) d_Pa_isItem_1 (by decide)) ?_
  refine s_icmp_eq (t := 39) d_Pa_isItem_2 (by decide) h (fun h => ?_) (fun h => ?_)
  · refine Eq.trans (o_iconst (v := 0) d_Pa_isItem_39 (by decide)) ?_
    exact s_iret d_Pa_isItem_40 rfl h
  · refine Eq.trans (o_iload_n d_Pa_isItem_5 rfl) ?_
    refine Eq.trans (o_bipush (v := 93) d_Pa_isItem_6 (by decide)) ?_
    refine s_icmp_eq (t := 39) d_Pa_isItem_8 (by decide) h (fun h => ?_) (fun h => ?_)
    · refine Eq.trans (o_iconst (v := 0) d_Pa_isItem_39 (by decide)) ?_
      exact s_iret d_Pa_isItem_40 rfl h
    · refine Eq.trans (o_iload_n d_Pa_isItem_11 rfl) ?_
      refine Eq.trans (o_bipush (v := 91) d_Pa_isItem_12 (by decide)) ?_
      refine s_icmp_eq (t := 39) d_Pa_isItem_14 (by decide) h (fun h => ?_) (fun h => ?_)
      · refine Eq.trans (o_iconst (v := 0) d_Pa_isItem_39 (by decide)) ?_
        exact s_iret d_Pa_isItem_40 rfl h
      · refine Eq.trans (o_iload_n d_Pa_isItem_17 rfl) ?_
        refine Eq.trans (o_bipush (v := 92) d_Pa_isItem_18 (by decide)) ?_
        refine s_icmp_eq (t := 39) d_Pa_isItem_20 (by decide) h (fun h => ?_) (fun h => ?_)
        · refine Eq.trans (o_iconst (v := 0) d_Pa_isItem_39 (by decide)) ?_
          exact s_iret d_Pa_isItem_40 rfl h
        · refine Eq.trans (o_iload_n d_Pa_isItem_23 rfl) ?_
          refine Eq.trans (o_bipush (v := 45) d_Pa_isItem_24 (by decide)) ?_
          refine s_icmp_eq (t := 39) d_Pa_isItem_26 (by decide) h (fun h => ?_) (fun h => ?_)
          · refine Eq.trans (o_iconst (v := 0) d_Pa_isItem_39 (by decide)) ?_
            exact s_iret d_Pa_isItem_40 rfl h
          · refine Eq.trans (o_iload_n d_Pa_isItem_29 rfl) ?_
            refine Eq.trans (o_bipush (v := 94) d_Pa_isItem_30 (by decide)) ?_
            refine s_icmp_eq (t := 39) d_Pa_isItem_32 (by decide) h (fun h => ?_) (fun h => ?_)
            · refine Eq.trans (o_iconst (v := 0) d_Pa_isItem_39 (by decide)) ?_
              exact s_iret d_Pa_isItem_40 rfl h
            · refine Eq.trans (o_iconst (v := 1) d_Pa_isItem_35 (by decide)) ?_
              refine Eq.trans (o_goto (t := 40) d_Pa_isItem_36 (by decide)) ?_
              exact s_iret d_Pa_isItem_40 rfl h
theorem c_Pa_isItem (D : Nat) (hD : 1 ≤ D) (o : Nat) (a1 : Int32) (T T1 : qT) (v : Int32) (h : f_Pa_isItem o a1 T = some (v, T1)) : q_ev q_Mt D 34 [.int a1] (layC o T) = some (.inl (some (.int v)), layC o T1) := by
  obtain ⟨D, rfl⟩ : ∃ D', D = D' + 1 := ⟨D - 1, by omega⟩
  rw [o_ev (M := q_mPa_isItem) (lo := [some (.int a1)]) rfl (Nat.le_of_ble_eq_true rfl) rfl]
  exact c_Pa_isItem_0 D (by omega) o a1 T T1 v h
noncomputable def k_Pa_readItem_102 (o : Nat) (v1 : Int32) (v2 : Int32) (v3 : Int32) : qW Unit :=
  w_C (f_Cs_addRange o v1 v2 v3) fun _ =>
  w_pure ()
noncomputable def f_Pa_readItem (o : Nat) (a1 : Int32) : qW Unit :=
  w_C (f_Pa_peek o) fun x1 =>
  w_if (¬ x1 = 92) (
    w_C (f_Pa_isItem o x1) fun x2 =>
    w_if (¬ x2 = 0) (
      w_S 83 fun x3 =>
      w_s 83 ((x3 + 1)) <|
      w_C (f_Pa_peek o) fun x4 =>
      w_if (¬ x4 = 45) (
        k_Pa_readItem_102 o a1 x1 x1) (
        w_S 83 fun x5 =>
        w_s 83 ((x5 + 1)) <|
        w_C (f_Pa_peek o) fun x6 =>
        w_C (f_Pa_isItem o x6) fun x7 =>
        w_if (x7 = 0) (
          w_C (f_Pa_fail o) fun _ =>
          w_pure ()) (
          w_if (x1 ≤ x6) (
            w_S 83 fun x8 =>
            w_s 83 ((x8 + 1)) <|
            k_Pa_readItem_102 o a1 x1 x6) (
            w_C (f_Pa_fail o) fun _ =>
            w_pure ())))) (
      w_C (f_Pa_fail o) fun _ =>
      w_pure ())) (
    w_S 83 fun x9 =>
    w_s 83 ((x9 + 1)) <|
    w_C (f_Pa_readEscaped o a1) fun _ =>
    w_pure ())
set_option maxRecDepth 100000 in
set_option maxHeartbeats 4000000 in
theorem c_Pa_readItem_102 (D : Nat) (hD : 3 ≤ D) (o : Nat) (v1 : Int32) (v2 : Int32) (v3 : Int32)  (T T1 : qT) (v : Unit) (h : k_Pa_readItem_102 o v1 v2 v3 T = some (v, T1)) : q_out (q_ev q_Mt D) q_mPa_readItem (102, [some (.ref (o + 4)), some (.int v1), some (.int v2), some (.int v3)], [], layC o T) = some (.inl (none), layC o T1) := by
  unfold k_Pa_readItem_102 at h
  refine Eq.trans (o_aload_n d_Pa_readItem_102 rfl) ?_
  refine s_ref d_Pa_readItem_103 pF_Pa_28 (zC_Pa_sets o) ?_
  refine Eq.trans (o_iload_n d_Pa_readItem_106 rfl) ?_
  refine Eq.trans (o_iload_n d_Pa_readItem_107 rfl) ?_
  refine Eq.trans (o_iload_n d_Pa_readItem_108 rfl) ?_
  obtain ⟨u9, T2, h1, h⟩ := w_C_of h
  refine s_cV3v d_Pa_readItem_109 pM_Pa_110 (Nat.le_of_ble_eq_true rfl) (obC_2 o) (c_Cs_addRange D (by omega) o _ _ _ _ _ _ h1) ?_
  replace h1 := trivial; revert h; generalize T2 = T; intro h
  exact s_vret d_Pa_readItem_112 rfl h
set_option maxRecDepth 100000 in
set_option maxHeartbeats 4000000 in
theorem c_Pa_readItem_0 (D : Nat) (hD : 3 ≤ D) (o : Nat) (a1 : Int32)  (T T1 : qT) (v : Unit) (h : f_Pa_readItem o a1 T = some (v, T1)) : q_out (q_ev q_Mt D) q_mPa_readItem (0, [some (.ref (o + 4)), some (.int a1), none, none], [], layC o T) = some (.inl (none), layC o T1) := by
  unfold f_Pa_readItem at h
  refine Eq.trans (o_aload_n d_Pa_readItem_0 rfl) ?_
  obtain ⟨x1, T2, h1, h⟩ := w_C_of h
  refine s_cV0i d_Pa_readItem_1 pM_Pa_53 (Nat.le_of_ble_eq_true rfl) (obC_4 o) (c_Pa_peek D (by omega) o _ _ _ h1) ?_
  replace h1 := trivial; revert h; generalize T2 = T; intro h
  refine Eq.trans (o_istore_n (lo' := [some (.ref (o + 4)), some (.int a1), some (.int x1), none]) d_Pa_readItem_4 (Nat.le_of_ble_eq_true rfl) rfl) ?_
  refine Eq.trans (o_iload_n d_Pa_readItem_5 rfl) ?_
  refine Eq.trans (o_bipush (v := 92) d_Pa_readItem_6 (by decide)) ?_
  refine s_icmp_ne (t := 27) d_Pa_readItem_8 (by decide) h (fun h => ?_) (fun h => ?_)
  · refine Eq.trans (o_iload_n d_Pa_readItem_27 rfl) ?_
    obtain ⟨x2, T2, h1, h⟩ := w_C_of h
    refine s_cS1i d_Pa_readItem_28 pM_Pa_124 (Nat.le_of_ble_eq_true rfl) (c_Pa_isItem D (by omega) o _ _ _ _ h1) ?_
    replace h1 := trivial; revert h; generalize T2 = T; intro h
    refine s_if_ne (t := 39) d_Pa_readItem_31 (by decide) h (fun h => ?_) (fun h => ?_)
    · refine Eq.trans (o_aload_n d_Pa_readItem_39 rfl) ?_
      refine Eq.trans (o_dup d_Pa_readItem_40 rfl) ?_
      refine s_get d_Pa_readItem_41 pF_Pa_15 (zC_Pa_at o) h (fun x3 h => ?_)
      refine Eq.trans (o_iconst (v := 1) d_Pa_readItem_44 (by decide)) ?_
      refine Eq.trans (o_iadd d_Pa_readItem_45) ?_
      refine s_put d_Pa_readItem_46 pF_Pa_15 (zC_Pa_at o) h (fun T h => ?_)
      refine Eq.trans (o_iload_n d_Pa_readItem_49 rfl) ?_
      refine Eq.trans (o_istore_n (lo' := [some (.ref (o + 4)), some (.int a1), some (.int x1), some (.int x1)]) d_Pa_readItem_50 (Nat.le_of_ble_eq_true rfl) rfl) ?_
      refine Eq.trans (o_aload_n d_Pa_readItem_51 rfl) ?_
      obtain ⟨x4, T2, h1, h⟩ := w_C_of h
      refine s_cV0i d_Pa_readItem_52 pM_Pa_53 (Nat.le_of_ble_eq_true rfl) (obC_4 o) (c_Pa_peek D (by omega) o _ _ _ h1) ?_
      replace h1 := trivial; revert h; generalize T2 = T; intro h
      refine Eq.trans (o_bipush (v := 45) d_Pa_readItem_55 (by decide)) ?_
      refine s_icmp_ne (t := 102) d_Pa_readItem_57 (by decide) h (fun h => ?_) (fun h => ?_)
      · exact c_Pa_readItem_102 D hD o _ _ _ _ _ _ h
      · refine Eq.trans (o_aload_n d_Pa_readItem_60 rfl) ?_
        refine Eq.trans (o_dup d_Pa_readItem_61 rfl) ?_
        refine s_get d_Pa_readItem_62 pF_Pa_15 (zC_Pa_at o) h (fun x5 h => ?_)
        refine Eq.trans (o_iconst (v := 1) d_Pa_readItem_65 (by decide)) ?_
        refine Eq.trans (o_iadd d_Pa_readItem_66) ?_
        refine s_put d_Pa_readItem_67 pF_Pa_15 (zC_Pa_at o) h (fun T h => ?_)
        refine Eq.trans (o_aload_n d_Pa_readItem_70 rfl) ?_
        obtain ⟨x6, T2, h1, h⟩ := w_C_of h
        refine s_cV0i d_Pa_readItem_71 pM_Pa_53 (Nat.le_of_ble_eq_true rfl) (obC_4 o) (c_Pa_peek D (by omega) o _ _ _ h1) ?_
        replace h1 := trivial; revert h; generalize T2 = T; intro h
        refine Eq.trans (o_istore_n (lo' := [some (.ref (o + 4)), some (.int a1), some (.int x1), some (.int x6)]) d_Pa_readItem_74 (Nat.le_of_ble_eq_true rfl) rfl) ?_
        refine Eq.trans (o_iload_n d_Pa_readItem_75 rfl) ?_
        obtain ⟨x7, T2, h1, h⟩ := w_C_of h
        refine s_cS1i d_Pa_readItem_76 pM_Pa_124 (Nat.le_of_ble_eq_true rfl) (c_Pa_isItem D (by omega) o _ _ _ _ h1) ?_
        replace h1 := trivial; revert h; generalize T2 = T; intro h
        refine s_if_eq (t := 87) d_Pa_readItem_79 (by decide) h (fun h => ?_) (fun h => ?_)
        · refine Eq.trans (o_aload_n d_Pa_readItem_87 rfl) ?_
          obtain ⟨u9, T2, h1, h⟩ := w_C_of h
          refine s_cV0v d_Pa_readItem_88 pM_Pa_47 (Nat.le_of_ble_eq_true rfl) (obC_4 o) (c_Pa_fail D (by omega) o _ _ _ h1) ?_
          replace h1 := trivial; revert h; generalize T2 = T; intro h
          exact s_vret d_Pa_readItem_91 rfl h
        · refine Eq.trans (o_iload_n d_Pa_readItem_82 rfl) ?_
          refine Eq.trans (o_iload_n d_Pa_readItem_83 rfl) ?_
          refine s_icmp_ge (t := 92) d_Pa_readItem_84 (by decide) h (fun h => ?_) (fun h => ?_)
          · refine Eq.trans (o_aload_n d_Pa_readItem_92 rfl) ?_
            refine Eq.trans (o_dup d_Pa_readItem_93 rfl) ?_
            refine s_get d_Pa_readItem_94 pF_Pa_15 (zC_Pa_at o) h (fun x8 h => ?_)
            refine Eq.trans (o_iconst (v := 1) d_Pa_readItem_97 (by decide)) ?_
            refine Eq.trans (o_iadd d_Pa_readItem_98) ?_
            refine s_put d_Pa_readItem_99 pF_Pa_15 (zC_Pa_at o) h (fun T h => ?_)
            exact c_Pa_readItem_102 D hD o _ _ _ _ _ _ h
          · refine Eq.trans (o_aload_n d_Pa_readItem_87 rfl) ?_
            obtain ⟨u9, T2, h1, h⟩ := w_C_of h
            refine s_cV0v d_Pa_readItem_88 pM_Pa_47 (Nat.le_of_ble_eq_true rfl) (obC_4 o) (c_Pa_fail D (by omega) o _ _ _ h1) ?_
            replace h1 := trivial; revert h; generalize T2 = T; intro h
            exact s_vret d_Pa_readItem_91 rfl h
    · refine Eq.trans (o_aload_n d_Pa_readItem_34 rfl) ?_
      obtain ⟨u9, T2, h1, h⟩ := w_C_of h
      refine s_cV0v d_Pa_readItem_35 pM_Pa_47 (Nat.le_of_ble_eq_true rfl) (obC_4 o) (c_Pa_fail D (by omega) o _ _ _ h1) ?_
      replace h1 := trivial; revert h; generalize T2 = T; intro h
      exact s_vret d_Pa_readItem_38 rfl h
  · refine Eq.trans (o_aload_n d_Pa_readItem_11 rfl) ?_
    refine Eq.trans (o_dup d_Pa_readItem_12 rfl) ?_
    refine s_get d_Pa_readItem_13 pF_Pa_15 (zC_Pa_at o) h (fun x9 h => ?_)
    refine Eq.trans (o_iconst (v := 1) d_Pa_readItem_16 (by decide)) ?_
    refine Eq.trans (o_iadd d_Pa_readItem_17) ?_
    refine s_put d_Pa_readItem_18 pF_Pa_15 (zC_Pa_at o) h (fun T h => ?_)
    refine Eq.trans (o_aload_n d_Pa_readItem_21 rfl) ?_
    refine Eq.trans (o_iload_n d_Pa_readItem_22 rfl) ?_
    obtain ⟨u9, T2, h1, h⟩ := w_C_of h
    refine s_cV1v d_Pa_readItem_23 pM_Pa_107 (Nat.le_of_ble_eq_true rfl) (obC_4 o) (c_Pa_readEscaped D (by omega) o _ _ _ _ h1) ?_
    replace h1 := trivial; revert h; generalize T2 = T; intro h
    exact s_vret d_Pa_readItem_26 rfl h
theorem c_Pa_readItem (D : Nat) (hD : 4 ≤ D) (o : Nat) (a1 : Int32) (T T1 : qT) (v : Unit) (h : f_Pa_readItem o a1 T = some (v, T1)) : q_ev q_Mt D 32 [.ref (o + 4), .int a1] (layC o T) = some (.inl (none), layC o T1) := by
  obtain ⟨D, rfl⟩ : ∃ D', D = D' + 1 := ⟨D - 1, by omega⟩
  rw [o_ev (M := q_mPa_readItem) (lo := [some (.ref (o + 4)), some (.int a1), none, none]) rfl (Nat.le_of_ble_eq_true rfl) rfl]
  exact c_Pa_readItem_0 D (by omega) o a1 T T1 v h
noncomputable def k_Pa_readSet_93 (o : Nat) (v1 : Int32) (v2 : Int32) : qW (qJ ⊕ Unit) :=
  w_if (v2 = 0) (
    w_rt ()) (
    w_C (f_Cs_invert o v1) fun _ =>
    w_rt ())
noncomputable def k_Pa_readSet_79 (o : Nat) (v1 : Int32) (v2 : Int32) : qW (qJ ⊕ Unit) :=
  w_S 85 fun x1 =>
  w_if (¬ x1 = ((-1))) (
    k_Pa_readSet_93 o v1 v2) (
    w_C (f_Pa_expect o 93) fun _ =>
    k_Pa_readSet_93 o v1 v2)
noncomputable def k_Pa_readSet_34 (o : Nat) (v1 : Int32) (v2 : Int32) (v3 : Int32) (v4 : Int32) : qW (qJ ⊕ Unit) :=
  w_if (48 ≤ v4) (
    k_Pa_readSet_79 o v1 v2) (
    w_if (v3 = 0) (
      k_Pa_readSet_79 o v1 v2) (
      w_C (f_Pa_readItem o v1) fun _ =>
      w_S 85 fun x1 =>
      w_if (¬ x1 = ((-1))) (
        w_go 34 [.int v1, .int v2, .int 0, .int (v4 + 1)] []) (
        w_C (f_Pa_peek o) fun x2 =>
        w_if (x2 = 93) (
          w_go 34 [.int v1, .int v2, .int 0, .int (v4 + 1)] []) (
          w_go 34 [.int v1, .int v2, .int 1, .int (v4 + 1)] []))))
noncomputable def k_Pa_readSet_14 (o : Nat) (v1 : Int32) (s0 : Int32) : qW (qJ ⊕ Unit) :=
  w_if (s0 = 0) (
    w_go 34 [.int v1, .int s0, .int 1, .int 0] []) (
    w_S 83 fun x1 =>
    w_s 83 ((x1 + 1)) <|
    w_go 34 [.int v1, .int s0, .int 1, .int 0] [])
noncomputable def k_Pa_readSet_0 (o : Nat) (a1 : Int32) : qW (qJ ⊕ Unit) :=
  w_C (f_Pa_peek o) fun x1 =>
  w_if (¬ x1 = 94) (
    k_Pa_readSet_14 o a1 0) (
    k_Pa_readSet_14 o a1 1)
noncomputable def b_Pa_readSet (o : Nat) : qJ → qW (qJ ⊕ Unit) := fun x => match x with
  | (0, [.int a1], []) => k_Pa_readSet_0 o a1
  | (34, [.int v1, .int v2, .int v3, .int v4], []) => k_Pa_readSet_34 o v1 v2 v3 v4
  | _ => w_no
noncomputable def f_Pa_readSet (o : Nat) (a1 : Int32) : qW Unit := w_fix (b_Pa_readSet o) (0, [.int a1], [])
set_option maxRecDepth 100000 in
set_option maxHeartbeats 4000000 in
theorem c_Pa_readSet_93 (D : Nat) (hD : 4 ≤ D) (o : Nat) (n : Nat) (ih_34 : ∀ (v1 : Int32) (v2 : Int32) (v3 : Int32) (v4 : Int32)  (T T2 : qT) (v : Unit), w_run (b_Pa_readSet o) n (34, [.int v1, .int v2, .int v3, .int v4], []) T = some (v, T2) → q_out (q_ev q_Mt D) q_mPa_readSet (34, [some (.ref (o + 4)), some (.int v1), some (.int v2), some (.int v3), some (.int v4)], [], layC o T) = some (.inl (none), layC o T2)) (v1 : Int32) (v2 : Int32) (e3 : Option Value) (e4 : Option Value) (T T1 T2 : qT) (rr : qJ ⊕ Unit) (v : Unit) (h : k_Pa_readSet_93 o v1 v2 T = some (rr, T1)) (hE : w_end (b_Pa_readSet o) n rr T1 = some (v, T2)) : q_out (q_ev q_Mt D) q_mPa_readSet (93, [some (.ref (o + 4)), some (.int v1), some (.int v2), e3, e4], [], layC o T) = some (.inl (none), layC o T2) := by
  unfold k_Pa_readSet_93 at h
  refine Eq.trans (o_iload_n d_Pa_readSet_93 rfl) ?_
  refine s_if_eq (t := 105) d_Pa_readSet_94 (by decide) h (fun h => ?_) (fun h => ?_)
  · exact s_vretJ d_Pa_readSet_105 rfl h hE
  · refine Eq.trans (o_aload_n d_Pa_readSet_97 rfl) ?_
    refine s_ref d_Pa_readSet_98 pF_Pa_28 (zC_Pa_sets o) ?_
    refine Eq.trans (o_iload_n d_Pa_readSet_101 rfl) ?_
    obtain ⟨u9, T2, h1, h⟩ := w_C_of h
    refine s_cV1v d_Pa_readSet_102 pM_Pa_121 (Nat.le_of_ble_eq_true rfl) (obC_2 o) (c_Cs_invert D (by omega) o _ _ _ _ h1) ?_
    replace h1 := trivial; revert h; generalize T2 = T; intro h
    exact s_vretJ d_Pa_readSet_105 rfl h hE
set_option maxRecDepth 100000 in
set_option maxHeartbeats 4000000 in
theorem c_Pa_readSet_79 (D : Nat) (hD : 4 ≤ D) (o : Nat) (n : Nat) (ih_34 : ∀ (v1 : Int32) (v2 : Int32) (v3 : Int32) (v4 : Int32)  (T T2 : qT) (v : Unit), w_run (b_Pa_readSet o) n (34, [.int v1, .int v2, .int v3, .int v4], []) T = some (v, T2) → q_out (q_ev q_Mt D) q_mPa_readSet (34, [some (.ref (o + 4)), some (.int v1), some (.int v2), some (.int v3), some (.int v4)], [], layC o T) = some (.inl (none), layC o T2)) (v1 : Int32) (v2 : Int32) (e3 : Option Value) (e4 : Option Value) (T T1 T2 : qT) (rr : qJ ⊕ Unit) (v : Unit) (h : k_Pa_readSet_79 o v1 v2 T = some (rr, T1)) (hE : w_end (b_Pa_readSet o) n rr T1 = some (v, T2)) : q_out (q_ev q_Mt D) q_mPa_readSet (79, [some (.ref (o + 4)), some (.int v1), some (.int v2), e3, e4], [], layC o T) = some (.inl (none), layC o T2) := by
  unfold k_Pa_readSet_79 at h
  refine Eq.trans (o_aload_n d_Pa_readSet_79 rfl) ?_
  refine s_get d_Pa_readSet_80 pF_Pa_21 (zC_Pa_error o) h (fun x1 h => ?_)
  refine Eq.trans (o_iconst (v := (-1)) d_Pa_readSet_83 (by decide)) ?_
  refine s_icmp_ne (t := 93) d_Pa_readSet_84 (by decide) h (fun h => ?_) (fun h => ?_)
  · exact c_Pa_readSet_93 D hD o n ih_34 _ _ _ _ _ _ _ _ _ h hE
  · refine Eq.trans (o_aload_n d_Pa_readSet_87 rfl) ?_
    refine Eq.trans (o_bipush (v := 93) d_Pa_readSet_88 (by decide)) ?_
    obtain ⟨u9, T2, h1, h⟩ := w_C_of h
    refine s_cV1v d_Pa_readSet_90 pM_Pa_89 (Nat.le_of_ble_eq_true rfl) (obC_4 o) (c_Pa_expect D (by omega) o _ _ _ _ h1) ?_
    replace h1 := trivial; revert h; generalize T2 = T; intro h
    exact c_Pa_readSet_93 D hD o n ih_34 _ _ _ _ _ _ _ _ _ h hE
set_option maxRecDepth 100000 in
set_option maxHeartbeats 4000000 in
theorem c_Pa_readSet_34 (D : Nat) (hD : 4 ≤ D) (o : Nat) (n : Nat) (ih_34 : ∀ (v1 : Int32) (v2 : Int32) (v3 : Int32) (v4 : Int32)  (T T2 : qT) (v : Unit), w_run (b_Pa_readSet o) n (34, [.int v1, .int v2, .int v3, .int v4], []) T = some (v, T2) → q_out (q_ev q_Mt D) q_mPa_readSet (34, [some (.ref (o + 4)), some (.int v1), some (.int v2), some (.int v3), some (.int v4)], [], layC o T) = some (.inl (none), layC o T2)) (v1 : Int32) (v2 : Int32) (v3 : Int32) (v4 : Int32)  (T T1 T2 : qT) (rr : qJ ⊕ Unit) (v : Unit) (h : k_Pa_readSet_34 o v1 v2 v3 v4 T = some (rr, T1)) (hE : w_end (b_Pa_readSet o) n rr T1 = some (v, T2)) : q_out (q_ev q_Mt D) q_mPa_readSet (34, [some (.ref (o + 4)), some (.int v1), some (.int v2), some (.int v3), some (.int v4)], [], layC o T) = some (.inl (none), layC o T2) := by
  unfold k_Pa_readSet_34 at h
  refine Eq.trans (o_iload d_Pa_readSet_34 rfl) ?_
  refine Eq.trans (o_bipush (v := 48) d_Pa_readSet_36 (by decide)) ?_
  refine s_icmp_ge (t := 79) d_Pa_readSet_38 (by decide) h (fun h => ?_) (fun h => ?_)
  · exact c_Pa_readSet_79 D hD o n ih_34 _ _ _ _ _ _ _ _ _ h hE
  · refine Eq.trans (o_iload_n d_Pa_readSet_41 rfl) ?_
    refine s_if_eq (t := 79) d_Pa_readSet_42 (by decide) h (fun h => ?_) (fun h => ?_)
    · exact c_Pa_readSet_79 D hD o n ih_34 _ _ _ _ _ _ _ _ _ h hE
    · refine Eq.trans (o_aload_n d_Pa_readSet_45 rfl) ?_
      refine Eq.trans (o_iload_n d_Pa_readSet_46 rfl) ?_
      obtain ⟨u9, T2, h1, h⟩ := w_C_of h
      refine s_cV1v d_Pa_readSet_47 pM_Pa_118 (Nat.le_of_ble_eq_true rfl) (obC_4 o) (c_Pa_readItem D (by omega) o _ _ _ _ h1) ?_
      replace h1 := trivial; revert h; generalize T2 = T; intro h
      refine Eq.trans (o_aload_n d_Pa_readSet_50 rfl) ?_
      refine s_get d_Pa_readSet_51 pF_Pa_21 (zC_Pa_error o) h (fun x1 h => ?_)
      refine Eq.trans (o_iconst (v := (-1)) d_Pa_readSet_54 (by decide)) ?_
      refine s_icmp_ne (t := 71) d_Pa_readSet_55 (by decide) h (fun h => ?_) (fun h => ?_)
      · refine Eq.trans (o_iconst (v := 0) d_Pa_readSet_71 (by decide)) ?_
        refine Eq.trans (o_istore_n (lo' := [some (.ref (o + 4)), some (.int v1), some (.int v2), some (.int 0), some (.int v4)]) d_Pa_readSet_72 (Nat.le_of_ble_eq_true rfl) rfl) ?_
        refine Eq.trans (o_iinc (v := (v4 + 1)) (lo' := [some (.ref (o + 4)), some (.int v1), some (.int v2), some (.int 0), some (.int (v4 + 1))]) d_Pa_readSet_73 rfl (by rw [show Int32.ofInt 1 = 1 from by decide]) (Nat.le_of_ble_eq_true rfl) rfl) ?_
        refine Eq.trans (o_goto (t := 34) d_Pa_readSet_76 (by decide)) ?_
        exact ih_34 _ _ _ _ _ _ _ (s_jump h hE)
      · refine Eq.trans (o_aload_n d_Pa_readSet_58 rfl) ?_
        obtain ⟨x2, T2, h1, h⟩ := w_C_of h
        refine s_cV0i d_Pa_readSet_59 pM_Pa_53 (Nat.le_of_ble_eq_true rfl) (obC_4 o) (c_Pa_peek D (by omega) o _ _ _ h1) ?_
        replace h1 := trivial; revert h; generalize T2 = T; intro h
        refine Eq.trans (o_bipush (v := 93) d_Pa_readSet_62 (by decide)) ?_
        refine s_icmp_eq (t := 71) d_Pa_readSet_64 (by decide) h (fun h => ?_) (fun h => ?_)
        · refine Eq.trans (o_iconst (v := 0) d_Pa_readSet_71 (by decide)) ?_
          refine Eq.trans (o_istore_n (lo' := [some (.ref (o + 4)), some (.int v1), some (.int v2), some (.int 0), some (.int v4)]) d_Pa_readSet_72 (Nat.le_of_ble_eq_true rfl) rfl) ?_
          refine Eq.trans (o_iinc (v := (v4 + 1)) (lo' := [some (.ref (o + 4)), some (.int v1), some (.int v2), some (.int 0), some (.int (v4 + 1))]) d_Pa_readSet_73 rfl (by rw [show Int32.ofInt 1 = 1 from by decide]) (Nat.le_of_ble_eq_true rfl) rfl) ?_
          refine Eq.trans (o_goto (t := 34) d_Pa_readSet_76 (by decide)) ?_
          exact ih_34 _ _ _ _ _ _ _ (s_jump h hE)
        · refine Eq.trans (o_iconst (v := 1) d_Pa_readSet_67 (by decide)) ?_
          refine Eq.trans (o_goto (t := 72) d_Pa_readSet_68 (by decide)) ?_
          refine Eq.trans (o_istore_n (lo' := [some (.ref (o + 4)), some (.int v1), some (.int v2), some (.int 1), some (.int v4)]) d_Pa_readSet_72 (Nat.le_of_ble_eq_true rfl) rfl) ?_
          refine Eq.trans (o_iinc (v := (v4 + 1)) (lo' := [some (.ref (o + 4)), some (.int v1), some (.int v2), some (.int 1), some (.int (v4 + 1))]) d_Pa_readSet_73 rfl (by rw [show Int32.ofInt 1 = 1 from by decide]) (Nat.le_of_ble_eq_true rfl) rfl) ?_
          refine Eq.trans (o_goto (t := 34) d_Pa_readSet_76 (by decide)) ?_
          exact ih_34 _ _ _ _ _ _ _ (s_jump h hE)
set_option maxRecDepth 100000 in
set_option maxHeartbeats 4000000 in
theorem c_Pa_readSet_14 (D : Nat) (hD : 4 ≤ D) (o : Nat) (n : Nat) (ih_34 : ∀ (v1 : Int32) (v2 : Int32) (v3 : Int32) (v4 : Int32)  (T T2 : qT) (v : Unit), w_run (b_Pa_readSet o) n (34, [.int v1, .int v2, .int v3, .int v4], []) T = some (v, T2) → q_out (q_ev q_Mt D) q_mPa_readSet (34, [some (.ref (o + 4)), some (.int v1), some (.int v2), some (.int v3), some (.int v4)], [], layC o T) = some (.inl (none), layC o T2)) (v1 : Int32) (s0 : Int32) (e2 : Option Value) (e3 : Option Value) (e4 : Option Value) (T T1 T2 : qT) (rr : qJ ⊕ Unit) (v : Unit) (h : k_Pa_readSet_14 o v1 s0 T = some (rr, T1)) (hE : w_end (b_Pa_readSet o) n rr T1 = some (v, T2)) : q_out (q_ev q_Mt D) q_mPa_readSet (14, [some (.ref (o + 4)), some (.int v1), e2, e3, e4], [.int s0], layC o T) = some (.inl (none), layC o T2) := by
  unfold k_Pa_readSet_14 at h
  refine Eq.trans (o_istore_n (lo' := [some (.ref (o + 4)), some (.int v1), some (.int s0), e3, e4]) d_Pa_readSet_14 (Nat.le_of_ble_eq_true rfl) rfl) ?_
  refine Eq.trans (o_iload_n d_Pa_readSet_15 rfl) ?_
  refine s_if_eq (t := 29) d_Pa_readSet_16 (by decide) h (fun h => ?_) (fun h => ?_)
  · refine Eq.trans (o_iconst (v := 1) d_Pa_readSet_29 (by decide)) ?_
    refine Eq.trans (o_istore_n (lo' := [some (.ref (o + 4)), some (.int v1), some (.int s0), some (.int 1), e4]) d_Pa_readSet_30 (Nat.le_of_ble_eq_true rfl) rfl) ?_
    refine Eq.trans (o_iconst (v := 0) d_Pa_readSet_31 (by decide)) ?_
    refine Eq.trans (o_istore (lo' := [some (.ref (o + 4)), some (.int v1), some (.int s0), some (.int 1), some (.int 0)]) d_Pa_readSet_32 (Nat.le_of_ble_eq_true rfl) rfl) ?_
    exact ih_34 _ _ _ _ _ _ _ (s_jump h hE)
  · refine Eq.trans (o_aload_n d_Pa_readSet_19 rfl) ?_
    refine Eq.trans (o_dup d_Pa_readSet_20 rfl) ?_
    refine s_get d_Pa_readSet_21 pF_Pa_15 (zC_Pa_at o) h (fun x1 h => ?_)
    refine Eq.trans (o_iconst (v := 1) d_Pa_readSet_24 (by decide)) ?_
    refine Eq.trans (o_iadd d_Pa_readSet_25) ?_
    refine s_put d_Pa_readSet_26 pF_Pa_15 (zC_Pa_at o) h (fun T h => ?_)
    refine Eq.trans (o_iconst (v := 1) d_Pa_readSet_29 (by decide)) ?_
    refine Eq.trans (o_istore_n (lo' := [some (.ref (o + 4)), some (.int v1), some (.int s0), some (.int 1), e4]) d_Pa_readSet_30 (Nat.le_of_ble_eq_true rfl) rfl) ?_
    refine Eq.trans (o_iconst (v := 0) d_Pa_readSet_31 (by decide)) ?_
    refine Eq.trans (o_istore (lo' := [some (.ref (o + 4)), some (.int v1), some (.int s0), some (.int 1), some (.int 0)]) d_Pa_readSet_32 (Nat.le_of_ble_eq_true rfl) rfl) ?_
    exact ih_34 _ _ _ _ _ _ _ (s_jump h hE)
set_option maxRecDepth 100000 in
set_option maxHeartbeats 4000000 in
theorem c_Pa_readSet_0 (D : Nat) (hD : 4 ≤ D) (o : Nat) (n : Nat) (ih_34 : ∀ (v1 : Int32) (v2 : Int32) (v3 : Int32) (v4 : Int32)  (T T2 : qT) (v : Unit), w_run (b_Pa_readSet o) n (34, [.int v1, .int v2, .int v3, .int v4], []) T = some (v, T2) → q_out (q_ev q_Mt D) q_mPa_readSet (34, [some (.ref (o + 4)), some (.int v1), some (.int v2), some (.int v3), some (.int v4)], [], layC o T) = some (.inl (none), layC o T2)) (a1 : Int32)  (T T1 T2 : qT) (rr : qJ ⊕ Unit) (v : Unit) (h : k_Pa_readSet_0 o a1 T = some (rr, T1)) (hE : w_end (b_Pa_readSet o) n rr T1 = some (v, T2)) : q_out (q_ev q_Mt D) q_mPa_readSet (0, [some (.ref (o + 4)), some (.int a1), none, none, none], [], layC o T) = some (.inl (none), layC o T2) := by
  unfold k_Pa_readSet_0 at h
  refine Eq.trans (o_aload_n d_Pa_readSet_0 rfl) ?_
  obtain ⟨x1, T2, h1, h⟩ := w_C_of h
  refine s_cV0i d_Pa_readSet_1 pM_Pa_53 (Nat.le_of_ble_eq_true rfl) (obC_4 o) (c_Pa_peek D (by omega) o _ _ _ h1) ?_
  replace h1 := trivial; revert h; generalize T2 = T; intro h
  refine Eq.trans (o_bipush (v := 94) d_Pa_readSet_4 (by decide)) ?_
  refine s_icmp_ne (t := 13) d_Pa_readSet_6 (by decide) h (fun h => ?_) (fun h => ?_)
  · refine Eq.trans (o_iconst (v := 0) d_Pa_readSet_13 (by decide)) ?_
    exact c_Pa_readSet_14 D hD o n ih_34 _ _ _ _ _ _ _ _ _ _ h hE
  · refine Eq.trans (o_iconst (v := 1) d_Pa_readSet_9 (by decide)) ?_
    refine Eq.trans (o_goto (t := 14) d_Pa_readSet_10 (by decide)) ?_
    exact c_Pa_readSet_14 D hD o n ih_34 _ _ _ _ _ _ _ _ _ _ h hE
theorem c_Pa_readSet_lp (D : Nat) (hD : 4 ≤ D) (o : Nat) : ∀ n : Nat, (∀ (v1 : Int32) (v2 : Int32) (v3 : Int32) (v4 : Int32)  (T T2 : qT) (v : Unit), w_run (b_Pa_readSet o) n (34, [.int v1, .int v2, .int v3, .int v4], []) T = some (v, T2) → q_out (q_ev q_Mt D) q_mPa_readSet (34, [some (.ref (o + 4)), some (.int v1), some (.int v2), some (.int v3), some (.int v4)], [], layC o T) = some (.inl (none), layC o T2)) := by
  intro n
  induction n with
  | zero => exact (fun v1 v2 v3 v4 T T2 v h => by cases h)
  | succ n ih =>
    have ih_34 := ih
    · intro v1 v2 v3 v4 T T2 v h
      obtain ⟨rr, T1, hb, hE⟩ := w_run_succ h
      exact c_Pa_readSet_34 D hD o n ih_34 v1 v2 v3 v4 T T1 T2 rr v hb hE
theorem c_Pa_readSet (D : Nat) (hD : 5 ≤ D) (o : Nat) (a1 : Int32) (T T2 : qT) (v : Unit) (h : f_Pa_readSet o a1 T = some (v, T2)) : q_ev q_Mt D 31 [.ref (o + 4), .int a1] (layC o T) = some (.inl (none), layC o T2) := by
  obtain ⟨D, rfl⟩ : ∃ D', D = D' + 1 := ⟨D - 1, by omega⟩
  obtain ⟨n, hn⟩ := w_fix_iff.mp h
  cases n with
  | zero => cases hn
  | succ n =>
    obtain ⟨rr, T1, hb, hE⟩ := w_run_succ hn
    have hl := c_Pa_readSet_lp D (by omega) o n
    have ih_34 := hl
    rw [o_ev (M := q_mPa_readSet) (lo := [some (.ref (o + 4)), some (.int a1), none, none, none]) rfl (Nat.le_of_ble_eq_true rfl) rfl]
    exact c_Pa_readSet_0 D (by omega) o n ih_34 a1 T T1 T2 rr v hb hE
noncomputable def f_Pa_standsForItself (o : Nat) (a1 : Int32) : qW Int32 :=
  w_if (a1 = (-1)) (
    w_ret .boolean 0) (
    w_if (a1 = 40) (
      w_ret .boolean 0) (
      w_if (a1 = 41) (
        w_ret .boolean 0) (
        w_if (a1 = 42) (
          w_ret .boolean 0) (
          w_if (a1 = 43) (
            w_ret .boolean 0) (
            w_if (a1 = 46) (
              w_ret .boolean 0) (
              w_if (a1 = 63) (
                w_ret .boolean 0) (
                w_if (a1 = 91) (
                  w_ret .boolean 0) (
                  w_if (a1 = 92) (
                    w_ret .boolean 0) (
                    w_if (a1 = 93) (
                      w_ret .boolean 0) (
                      w_if (a1 = 123) (
                        w_ret .boolean 0) (
                        w_if (a1 = 124) (
                          w_ret .boolean 0) (
                          w_if (a1 = 125) (
                            w_ret .boolean 0) (
                            w_ret .boolean 1)))))))))))))
set_option maxRecDepth 100000 in
set_option maxHeartbeats 4000000 in
theorem c_Pa_standsForItself_0 (D : Nat) (hD : 0 ≤ D) (o : Nat) (a1 : Int32)  (T T1 : qT) (v : Int32) (h : f_Pa_standsForItself o a1 T = some (v, T1)) : q_out (q_ev q_Mt D) q_mPa_standsForItself (0, [some (.int a1)], [], layC o T) = some (.inl (some (.int v)), layC o T1) := by
  unfold f_Pa_standsForItself at h
  refine Eq.trans (o_iload_n d_Pa_standsForItself_0 rfl) ?_
  by_cases g0 : a1 = (-1)
  · have h := w_if_t h g0
    refine Eq.trans (o_lookup (off := 115) (t := 116) d_Pa_standsForItself_1 (by decide) (by rw [g0]; decide) (by decide)) ?_
    refine Eq.trans (o_iconst (v := 0) d_Pa_standsForItself_116 (by decide)) ?_
    exact s_iret d_Pa_standsForItself_117 rfl h
  · have h := w_if_f h g0
    by_cases g1 : a1 = 40
    · have h := w_if_t h g1
      refine Eq.trans (o_lookup (off := 115) (t := 116) d_Pa_standsForItself_1 (by decide) (by rw [g1]; decide) (by decide)) ?_
      refine Eq.trans (o_iconst (v := 0) d_Pa_standsForItself_116 (by decide)) ?_
      exact s_iret d_Pa_standsForItself_117 rfl h
    · have h := w_if_f h g1
      by_cases g2 : a1 = 41
      · have h := w_if_t h g2
        refine Eq.trans (o_lookup (off := 115) (t := 116) d_Pa_standsForItself_1 (by decide) (by rw [g2]; decide) (by decide)) ?_
        refine Eq.trans (o_iconst (v := 0) d_Pa_standsForItself_116 (by decide)) ?_
        exact s_iret d_Pa_standsForItself_117 rfl h
      · have h := w_if_f h g2
        by_cases g3 : a1 = 42
        · have h := w_if_t h g3
          refine Eq.trans (o_lookup (off := 115) (t := 116) d_Pa_standsForItself_1 (by decide) (by rw [g3]; decide) (by decide)) ?_
          refine Eq.trans (o_iconst (v := 0) d_Pa_standsForItself_116 (by decide)) ?_
          exact s_iret d_Pa_standsForItself_117 rfl h
        · have h := w_if_f h g3
          by_cases g4 : a1 = 43
          · have h := w_if_t h g4
            refine Eq.trans (o_lookup (off := 115) (t := 116) d_Pa_standsForItself_1 (by decide) (by rw [g4]; decide) (by decide)) ?_
            refine Eq.trans (o_iconst (v := 0) d_Pa_standsForItself_116 (by decide)) ?_
            exact s_iret d_Pa_standsForItself_117 rfl h
          · have h := w_if_f h g4
            by_cases g5 : a1 = 46
            · have h := w_if_t h g5
              refine Eq.trans (o_lookup (off := 115) (t := 116) d_Pa_standsForItself_1 (by decide) (by rw [g5]; decide) (by decide)) ?_
              refine Eq.trans (o_iconst (v := 0) d_Pa_standsForItself_116 (by decide)) ?_
              exact s_iret d_Pa_standsForItself_117 rfl h
            · have h := w_if_f h g5
              by_cases g6 : a1 = 63
              · have h := w_if_t h g6
                refine Eq.trans (o_lookup (off := 115) (t := 116) d_Pa_standsForItself_1 (by decide) (by rw [g6]; decide) (by decide)) ?_
                refine Eq.trans (o_iconst (v := 0) d_Pa_standsForItself_116 (by decide)) ?_
                exact s_iret d_Pa_standsForItself_117 rfl h
              · have h := w_if_f h g6
                by_cases g7 : a1 = 91
                · have h := w_if_t h g7
                  refine Eq.trans (o_lookup (off := 115) (t := 116) d_Pa_standsForItself_1 (by decide) (by rw [g7]; decide) (by decide)) ?_
                  refine Eq.trans (o_iconst (v := 0) d_Pa_standsForItself_116 (by decide)) ?_
                  exact s_iret d_Pa_standsForItself_117 rfl h
                · have h := w_if_f h g7
                  by_cases g8 : a1 = 92
                  · have h := w_if_t h g8
                    refine Eq.trans (o_lookup (off := 115) (t := 116) d_Pa_standsForItself_1 (by decide) (by rw [g8]; decide) (by decide)) ?_
                    refine Eq.trans (o_iconst (v := 0) d_Pa_standsForItself_116 (by decide)) ?_
                    exact s_iret d_Pa_standsForItself_117 rfl h
                  · have h := w_if_f h g8
                    by_cases g9 : a1 = 93
                    · have h := w_if_t h g9
                      refine Eq.trans (o_lookup (off := 115) (t := 116) d_Pa_standsForItself_1 (by decide) (by rw [g9]; decide) (by decide)) ?_
                      refine Eq.trans (o_iconst (v := 0) d_Pa_standsForItself_116 (by decide)) ?_
                      exact s_iret d_Pa_standsForItself_117 rfl h
                    · have h := w_if_f h g9
                      by_cases g10 : a1 = 123
                      · have h := w_if_t h g10
                        refine Eq.trans (o_lookup (off := 115) (t := 116) d_Pa_standsForItself_1 (by decide) (by rw [g10]; decide) (by decide)) ?_
                        refine Eq.trans (o_iconst (v := 0) d_Pa_standsForItself_116 (by decide)) ?_
                        exact s_iret d_Pa_standsForItself_117 rfl h
                      · have h := w_if_f h g10
                        by_cases g11 : a1 = 124
                        · have h := w_if_t h g11
                          refine Eq.trans (o_lookup (off := 115) (t := 116) d_Pa_standsForItself_1 (by decide) (by rw [g11]; decide) (by decide)) ?_
                          refine Eq.trans (o_iconst (v := 0) d_Pa_standsForItself_116 (by decide)) ?_
                          exact s_iret d_Pa_standsForItself_117 rfl h
                        · have h := w_if_f h g11
                          by_cases g12 : a1 = 125
                          · have h := w_if_t h g12
                            refine Eq.trans (o_lookup (off := 115) (t := 116) d_Pa_standsForItself_1 (by decide) (by rw [g12]; decide) (by decide)) ?_
                            refine Eq.trans (o_iconst (v := 0) d_Pa_standsForItself_116 (by decide)) ?_
                            exact s_iret d_Pa_standsForItself_117 rfl h
                          · have h := w_if_f h g12
                            refine Eq.trans (o_lookup (off := 117) (t := 118) d_Pa_standsForItself_1 (by decide) (by
                              show Op.lookupswitch.offset [(-1, 115), (40, 115), (41, 115), (42, 115), (43, 115), (46, 115), (63, 115), (91, 115), (92, 115), (93, 115), (123, 115), (124, 115), (125, 115)] 117 _ = 117
                              rw [Op.lookupswitch.offset_cons, if_neg (i32_ne (x := a1) (c := (-1)) (k := (-1)) (by decide) g0)]
                              rw [Op.lookupswitch.offset_cons, if_neg (i32_ne (x := a1) (c := 40) (k := 40) (by decide) g1)]
                              rw [Op.lookupswitch.offset_cons, if_neg (i32_ne (x := a1) (c := 41) (k := 41) (by decide) g2)]
                              rw [Op.lookupswitch.offset_cons, if_neg (i32_ne (x := a1) (c := 42) (k := 42) (by decide) g3)]
                              rw [Op.lookupswitch.offset_cons, if_neg (i32_ne (x := a1) (c := 43) (k := 43) (by decide) g4)]
                              rw [Op.lookupswitch.offset_cons, if_neg (i32_ne (x := a1) (c := 46) (k := 46) (by decide) g5)]
                              rw [Op.lookupswitch.offset_cons, if_neg (i32_ne (x := a1) (c := 63) (k := 63) (by decide) g6)]
                              rw [Op.lookupswitch.offset_cons, if_neg (i32_ne (x := a1) (c := 91) (k := 91) (by decide) g7)]
                              rw [Op.lookupswitch.offset_cons, if_neg (i32_ne (x := a1) (c := 92) (k := 92) (by decide) g8)]
                              rw [Op.lookupswitch.offset_cons, if_neg (i32_ne (x := a1) (c := 93) (k := 93) (by decide) g9)]
                              rw [Op.lookupswitch.offset_cons, if_neg (i32_ne (x := a1) (c := 123) (k := 123) (by decide) g10)]
                              rw [Op.lookupswitch.offset_cons, if_neg (i32_ne (x := a1) (c := 124) (k := 124) (by decide) g11)]
                              rw [Op.lookupswitch.offset_cons, if_neg (i32_ne (x := a1) (c := 125) (k := 125) (by decide) g12)]
                              rfl) (by decide)) ?_
                            refine Eq.trans (o_iconst (v := 1) d_Pa_standsForItself_118 (by decide)) ?_
                            exact s_iret d_Pa_standsForItself_119 rfl h
theorem c_Pa_standsForItself (D : Nat) (hD : 1 ≤ D) (o : Nat) (a1 : Int32) (T T1 : qT) (v : Int32) (h : f_Pa_standsForItself o a1 T = some (v, T1)) : q_ev q_Mt D 35 [.int a1] (layC o T) = some (.inl (some (.int v)), layC o T1) := by
  obtain ⟨D, rfl⟩ : ∃ D', D = D' + 1 := ⟨D - 1, by omega⟩
  rw [o_ev (M := q_mPa_standsForItself) (lo := [some (.int a1)]) rfl (Nat.le_of_ble_eq_true rfl) rfl]
  exact c_Pa_standsForItself_0 D (by omega) o a1 T T1 v h
noncomputable def f_Pa_readCharacters (o : Nat) (a1 : Int32) : qW Unit :=
  w_C (f_Pa_peek o) fun x1 =>
  w_if (¬ x1 = 91) (
    w_if (¬ x1 = 92) (
      w_if (¬ x1 = 46) (
        w_C (f_Pa_standsForItself o x1) fun x2 =>
        w_if (x2 = 0) (
          w_C (f_Pa_fail o) fun _ =>
          w_pure ()) (
          w_S 83 fun x3 =>
          w_s 83 ((x3 + 1)) <|
          w_C (f_Cs_addRange o a1 x1 x1) fun _ =>
          w_pure ())) (
        w_S 83 fun x4 =>
        w_s 83 ((x4 + 1)) <|
        w_C (f_Cs_addRange o a1 0 255) fun _ =>
        w_pure ())) (
      w_S 83 fun x5 =>
      w_s 83 ((x5 + 1)) <|
      w_C (f_Pa_readEscaped o a1) fun _ =>
      w_pure ())) (
    w_S 83 fun x6 =>
    w_s 83 ((x6 + 1)) <|
    w_C (f_Pa_readSet o a1) fun _ =>
    w_pure ())
set_option maxRecDepth 100000 in
set_option maxHeartbeats 4000000 in
theorem c_Pa_readCharacters_0 (D : Nat) (hD : 5 ≤ D) (o : Nat) (a1 : Int32)  (T T1 : qT) (v : Unit) (h : f_Pa_readCharacters o a1 T = some (v, T1)) : q_out (q_ev q_Mt D) q_mPa_readCharacters (0, [some (.ref (o + 4)), some (.int a1), none], [], layC o T) = some (.inl (none), layC o T1) := by
  unfold f_Pa_readCharacters at h
  refine Eq.trans (o_aload_n d_Pa_readCharacters_0 rfl) ?_
  obtain ⟨x1, T2, h1, h⟩ := w_C_of h
  refine s_cV0i d_Pa_readCharacters_1 pM_Pa_53 (Nat.le_of_ble_eq_true rfl) (obC_4 o) (c_Pa_peek D (by omega) o _ _ _ h1) ?_
  replace h1 := trivial; revert h; generalize T2 = T; intro h
  refine Eq.trans (o_istore_n (lo' := [some (.ref (o + 4)), some (.int a1), some (.int x1)]) d_Pa_readCharacters_4 (Nat.le_of_ble_eq_true rfl) rfl) ?_
  refine Eq.trans (o_iload_n d_Pa_readCharacters_5 rfl) ?_
  refine Eq.trans (o_bipush (v := 91) d_Pa_readCharacters_6 (by decide)) ?_
  refine s_icmp_ne (t := 29) d_Pa_readCharacters_8 (by decide) h (fun h => ?_) (fun h => ?_)
  · refine Eq.trans (o_iload_n d_Pa_readCharacters_29 rfl) ?_
    refine Eq.trans (o_bipush (v := 92) d_Pa_readCharacters_30 (by decide)) ?_
    refine s_icmp_ne (t := 53) d_Pa_readCharacters_32 (by decide) h (fun h => ?_) (fun h => ?_)
    · refine Eq.trans (o_iload_n d_Pa_readCharacters_53 rfl) ?_
      refine Eq.trans (o_bipush (v := 46) d_Pa_readCharacters_54 (by decide)) ?_
      refine s_icmp_ne (t := 84) d_Pa_readCharacters_56 (by decide) h (fun h => ?_) (fun h => ?_)
      · refine Eq.trans (o_iload_n d_Pa_readCharacters_84 rfl) ?_
        obtain ⟨x2, T2, h1, h⟩ := w_C_of h
        refine s_cS1i d_Pa_readCharacters_85 pM_Pa_114 (Nat.le_of_ble_eq_true rfl) (c_Pa_standsForItself D (by omega) o _ _ _ _ h1) ?_
        replace h1 := trivial; revert h; generalize T2 = T; intro h
        refine s_if_eq (t := 114) d_Pa_readCharacters_88 (by decide) h (fun h => ?_) (fun h => ?_)
        · refine Eq.trans (o_aload_n d_Pa_readCharacters_114 rfl) ?_
          obtain ⟨u9, T2, h1, h⟩ := w_C_of h
          refine s_cV0v d_Pa_readCharacters_115 pM_Pa_47 (Nat.le_of_ble_eq_true rfl) (obC_4 o) (c_Pa_fail D (by omega) o _ _ _ h1) ?_
          replace h1 := trivial; revert h; generalize T2 = T; intro h
          exact s_vret d_Pa_readCharacters_118 rfl h
        · refine Eq.trans (o_aload_n d_Pa_readCharacters_91 rfl) ?_
          refine Eq.trans (o_dup d_Pa_readCharacters_92 rfl) ?_
          refine s_get d_Pa_readCharacters_93 pF_Pa_15 (zC_Pa_at o) h (fun x3 h => ?_)
          refine Eq.trans (o_iconst (v := 1) d_Pa_readCharacters_96 (by decide)) ?_
          refine Eq.trans (o_iadd d_Pa_readCharacters_97) ?_
          refine s_put d_Pa_readCharacters_98 pF_Pa_15 (zC_Pa_at o) h (fun T h => ?_)
          refine Eq.trans (o_aload_n d_Pa_readCharacters_101 rfl) ?_
          refine s_ref d_Pa_readCharacters_102 pF_Pa_28 (zC_Pa_sets o) ?_
          refine Eq.trans (o_iload_n d_Pa_readCharacters_105 rfl) ?_
          refine Eq.trans (o_iload_n d_Pa_readCharacters_106 rfl) ?_
          refine Eq.trans (o_iload_n d_Pa_readCharacters_107 rfl) ?_
          obtain ⟨u9, T2, h1, h⟩ := w_C_of h
          refine s_cV3v d_Pa_readCharacters_108 pM_Pa_110 (Nat.le_of_ble_eq_true rfl) (obC_2 o) (c_Cs_addRange D (by omega) o _ _ _ _ _ _ h1) ?_
          replace h1 := trivial; revert h; generalize T2 = T; intro h
          refine Eq.trans (o_goto (t := 118) d_Pa_readCharacters_111 (by decide)) ?_
          exact s_vret d_Pa_readCharacters_118 rfl h
      · refine Eq.trans (o_aload_n d_Pa_readCharacters_59 rfl) ?_
        refine Eq.trans (o_dup d_Pa_readCharacters_60 rfl) ?_
        refine s_get d_Pa_readCharacters_61 pF_Pa_15 (zC_Pa_at o) h (fun x4 h => ?_)
        refine Eq.trans (o_iconst (v := 1) d_Pa_readCharacters_64 (by decide)) ?_
        refine Eq.trans (o_iadd d_Pa_readCharacters_65) ?_
        refine s_put d_Pa_readCharacters_66 pF_Pa_15 (zC_Pa_at o) h (fun T h => ?_)
        refine Eq.trans (o_aload_n d_Pa_readCharacters_69 rfl) ?_
        refine s_ref d_Pa_readCharacters_70 pF_Pa_28 (zC_Pa_sets o) ?_
        refine Eq.trans (o_iload_n d_Pa_readCharacters_73 rfl) ?_
        refine Eq.trans (o_iconst (v := 0) d_Pa_readCharacters_74 (by decide)) ?_
        refine Eq.trans (o_sipush (v := 255) d_Pa_readCharacters_75 (by decide)) ?_
        obtain ⟨u9, T2, h1, h⟩ := w_C_of h
        refine s_cV3v d_Pa_readCharacters_78 pM_Pa_110 (Nat.le_of_ble_eq_true rfl) (obC_2 o) (c_Cs_addRange D (by omega) o _ _ _ _ _ _ h1) ?_
        replace h1 := trivial; revert h; generalize T2 = T; intro h
        refine Eq.trans (o_goto (t := 118) d_Pa_readCharacters_81 (by decide)) ?_
        exact s_vret d_Pa_readCharacters_118 rfl h
    · refine Eq.trans (o_aload_n d_Pa_readCharacters_35 rfl) ?_
      refine Eq.trans (o_dup d_Pa_readCharacters_36 rfl) ?_
      refine s_get d_Pa_readCharacters_37 pF_Pa_15 (zC_Pa_at o) h (fun x5 h => ?_)
      refine Eq.trans (o_iconst (v := 1) d_Pa_readCharacters_40 (by decide)) ?_
      refine Eq.trans (o_iadd d_Pa_readCharacters_41) ?_
      refine s_put d_Pa_readCharacters_42 pF_Pa_15 (zC_Pa_at o) h (fun T h => ?_)
      refine Eq.trans (o_aload_n d_Pa_readCharacters_45 rfl) ?_
      refine Eq.trans (o_iload_n d_Pa_readCharacters_46 rfl) ?_
      obtain ⟨u9, T2, h1, h⟩ := w_C_of h
      refine s_cV1v d_Pa_readCharacters_47 pM_Pa_107 (Nat.le_of_ble_eq_true rfl) (obC_4 o) (c_Pa_readEscaped D (by omega) o _ _ _ _ h1) ?_
      replace h1 := trivial; revert h; generalize T2 = T; intro h
      refine Eq.trans (o_goto (t := 118) d_Pa_readCharacters_50 (by decide)) ?_
      exact s_vret d_Pa_readCharacters_118 rfl h
  · refine Eq.trans (o_aload_n d_Pa_readCharacters_11 rfl) ?_
    refine Eq.trans (o_dup d_Pa_readCharacters_12 rfl) ?_
    refine s_get d_Pa_readCharacters_13 pF_Pa_15 (zC_Pa_at o) h (fun x6 h => ?_)
    refine Eq.trans (o_iconst (v := 1) d_Pa_readCharacters_16 (by decide)) ?_
    refine Eq.trans (o_iadd d_Pa_readCharacters_17) ?_
    refine s_put d_Pa_readCharacters_18 pF_Pa_15 (zC_Pa_at o) h (fun T h => ?_)
    refine Eq.trans (o_aload_n d_Pa_readCharacters_21 rfl) ?_
    refine Eq.trans (o_iload_n d_Pa_readCharacters_22 rfl) ?_
    obtain ⟨u9, T2, h1, h⟩ := w_C_of h
    refine s_cV1v d_Pa_readCharacters_23 pM_Pa_104 (Nat.le_of_ble_eq_true rfl) (obC_4 o) (c_Pa_readSet D (by omega) o _ _ _ _ h1) ?_
    replace h1 := trivial; revert h; generalize T2 = T; intro h
    refine Eq.trans (o_goto (t := 118) d_Pa_readCharacters_26 (by decide)) ?_
    exact s_vret d_Pa_readCharacters_118 rfl h
theorem c_Pa_readCharacters (D : Nat) (hD : 6 ≤ D) (o : Nat) (a1 : Int32) (T T1 : qT) (v : Unit) (h : f_Pa_readCharacters o a1 T = some (v, T1)) : q_ev q_Mt D 30 [.ref (o + 4), .int a1] (layC o T) = some (.inl (none), layC o T1) := by
  obtain ⟨D, rfl⟩ : ∃ D', D = D' + 1 := ⟨D - 1, by omega⟩
  rw [o_ev (M := q_mPa_readCharacters) (lo := [some (.ref (o + 4)), some (.int a1), none]) rfl (Nat.le_of_ble_eq_true rfl) rfl]
  exact c_Pa_readCharacters_0 D (by omega) o a1 T T1 v h
noncomputable def f_Pa_digit (o : Nat) (a1 : Int32) : qW Int32 :=
  w_if (a1 < 48) (
    w_ret .int ((-1))) (
    w_if (57 < a1) (
      w_ret .int ((-1))) (
      w_ret .int ((a1 - 48))))
set_option maxRecDepth 100000 in
set_option maxHeartbeats 4000000 in
theorem c_Pa_digit_0 (D : Nat) (hD : 0 ≤ D) (o : Nat) (a1 : Int32)  (T T1 : qT) (v : Int32) (h : f_Pa_digit o a1 T = some (v, T1)) : q_out (q_ev q_Mt D) q_mPa_digit (0, [some (.int a1)], [], layC o T) = some (.inl (some (.int v)), layC o T1) := by
  unfold f_Pa_digit at h
  refine Eq.trans (o_iload_n d_Pa_digit_0 rfl) ?_
  refine Eq.trans (o_bipush (v := 48) d_Pa_digit_1 (by decide)) ?_
  refine s_icmp_lt (t := 19) d_Pa_digit_3 (by decide) h (fun h => ?_) (fun h => ?_)
  · refine Eq.trans (o_iconst (v := (-1)) d_Pa_digit_19 (by decide)) ?_
    exact s_iret d_Pa_digit_20 rfl h
  · refine Eq.trans (o_iload_n d_Pa_digit_6 rfl) ?_
    refine Eq.trans (o_bipush (v := 57) d_Pa_digit_7 (by decide)) ?_
    refine s_icmp_gt (t := 19) d_Pa_digit_9 (by decide) h (fun h => ?_) (fun h => ?_)
    · refine Eq.trans (o_iconst (v := (-1)) d_Pa_digit_19 (by decide)) ?_
      exact s_iret d_Pa_digit_20 rfl h
    · refine Eq.trans (o_iload_n d_Pa_digit_12 rfl) ?_
      refine Eq.trans (o_bipush (v := 48) d_Pa_digit_13 (by decide)) ?_
      refine Eq.trans (o_isub d_Pa_digit_15) ?_
      refine Eq.trans (o_goto (t := 20) d_Pa_digit_16 (by decide)) ?_
      exact s_iret d_Pa_digit_20 rfl h
theorem c_Pa_digit (D : Nat) (hD : 1 ≤ D) (o : Nat) (a1 : Int32) (T T1 : qT) (v : Int32) (h : f_Pa_digit o a1 T = some (v, T1)) : q_ev q_Mt D 38 [.int a1] (layC o T) = some (.inl (some (.int v)), layC o T1) := by
  obtain ⟨D, rfl⟩ : ∃ D', D = D' + 1 := ⟨D - 1, by omega⟩
  rw [o_ev (M := q_mPa_digit) (lo := [some (.int a1)]) rfl (Nat.le_of_ble_eq_true rfl) rfl]
  exact c_Pa_digit_0 D (by omega) o a1 T T1 v h
