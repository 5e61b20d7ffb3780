noncomputable def k_Pa_readItem_80 (o : Nat) (v1 : Int32) (v2 : Int32) (v3 : Int32) : qW Unit :=
  w_C (f_Cs_addRange o v1 v2 v3) fun _ =>
  w_pure ()
noncomputable def f_Pa_readItem (o : Nat) (a1 : Int32) : qW Unit :=
  w_C (f_Pa_peek o) fun x1 =>
  w_C (f_Pa_isItem o x1) fun x2 =>
  w_if (¬ x2 = 0) (
    w_S 83 fun x3 =>
    w_s 83 ((x3 + 1)) <|
    w_C (f_Pa_peek o) fun x4 =>
    w_if (¬ x4 = 45) (
      k_Pa_readItem_80 o a1 x1 x1) (
      w_S 83 fun x5 =>
      w_s 83 ((x5 + 1)) <|
      w_C (f_Pa_peek o) fun x6 =>
      w_C (f_Pa_isItem o x6) fun x7 =>
      w_if (x7 = 0) (
        w_C (f_Pa_fail o) fun _ =>
        w_pure ()) (
        w_if (x1 ≤ x6) (
          w_S 83 fun x8 =>
          w_s 83 ((x8 + 1)) <|
          k_Pa_readItem_80 o a1 x1 x6) (
          w_C (f_Pa_fail o) fun _ =>
          w_pure ())))) (
    w_C (f_Pa_fail o) fun _ =>
    w_pure ())
set_option maxRecDepth 100000 in
set_option maxHeartbeats 4000000 in
theorem c_Pa_readItem_80 (D : Nat) (hD : 2 ≤ D) (o : Nat) (v1 : Int32) (v2 : Int32) (v3 : Int32)  (T T1 : qT) (v : Unit) (h : k_Pa_readItem_80 o v1 v2 v3 T = some (v, T1)) : q_out (q_ev q_Mt D) q_mPa_readItem (80, [some (.ref (o + 4)), some (.int v1), some (.int v2), some (.int v3)], [], layC o T) = some (.inl (none), layC o T1) := by
  unfold k_Pa_readItem_80 at h
  refine Eq.trans (o_aload_n d_Pa_readItem_80 rfl) ?_
  refine s_ref d_Pa_readItem_81 pF_Pa_28 (zC_Pa_sets o) ?_
  refine Eq.trans (o_iload_n d_Pa_readItem_84 rfl) ?_
  refine Eq.trans (o_iload_n d_Pa_readItem_85 rfl) ?_
  refine Eq.trans (o_iload_n d_Pa_readItem_86 rfl) ?_
  obtain ⟨u9, T2, h1, h⟩ := w_C_of h
  refine s_cV3v d_Pa_readItem_87 pM_Pa_110 (Nat.le_of_ble_eq_true rfl) (obC_2 o) (c_Cs_addRange D (by omega) o _ _ _ _ _ _ h1) ?_
  replace h1 := trivial; revert h; generalize T2 = T; intro h
  exact s_vret d_Pa_readItem_90 rfl h
set_option maxRecDepth 100000 in
set_option maxHeartbeats 4000000 in
theorem c_Pa_readItem_0 (D : Nat) (hD : 2 ≤ D) (o : Nat) (a1 : Int32)  (T T1 : qT) (v : Unit) (h : f_Pa_readItem o a1 T = some (v, T1)) : q_out (q_ev q_Mt D) q_mPa_readItem (0, [some (.ref (o + 4)), some (.int a1), none, none], [], layC o T) = some (.inl (none), layC o T1) := by
  unfold f_Pa_readItem at h
  refine Eq.trans (o_aload_n d_Pa_readItem_0 rfl) ?_
  obtain ⟨x1, T2, h1, h⟩ := w_C_of h
  refine s_cV0i d_Pa_readItem_1 pM_Pa_53 (Nat.le_of_ble_eq_true rfl) (obC_4 o) (c_Pa_peek D (by omega) o _ _ _ h1) ?_
  replace h1 := trivial; revert h; generalize T2 = T; intro h
  refine Eq.trans (o_istore_n (lo' := [some (.ref (o + 4)), some (.int a1), some (.int x1), none]) d_Pa_readItem_4 (Nat.le_of_ble_eq_true rfl) rfl) ?_
  refine Eq.trans (o_iload_n d_Pa_readItem_5 rfl) ?_
  obtain ⟨x2, T2, h1, h⟩ := w_C_of h
  refine s_cS1i d_Pa_readItem_6 pM_Pa_124 (Nat.le_of_ble_eq_true rfl) (c_Pa_isItem D (by omega) o _ _ _ _ h1) ?_
  replace h1 := trivial; revert h; generalize T2 = T; intro h
  refine s_if_ne (t := 17) d_Pa_readItem_9 (by decide) h (fun h => ?_) (fun h => ?_)
  · refine Eq.trans (o_aload_n d_Pa_readItem_17 rfl) ?_
    refine Eq.trans (o_dup d_Pa_readItem_18 rfl) ?_
    refine s_get d_Pa_readItem_19 pF_Pa_15 (zC_Pa_at o) h (fun x3 h => ?_)
    refine Eq.trans (o_iconst (v := 1) d_Pa_readItem_22 (by decide)) ?_
    refine Eq.trans (o_iadd d_Pa_readItem_23) ?_
    refine s_put d_Pa_readItem_24 pF_Pa_15 (zC_Pa_at o) h (fun T h => ?_)
    refine Eq.trans (o_iload_n d_Pa_readItem_27 rfl) ?_
    refine Eq.trans (o_istore_n (lo' := [some (.ref (o + 4)), some (.int a1), some (.int x1), some (.int x1)]) d_Pa_readItem_28 (Nat.le_of_ble_eq_true rfl) rfl) ?_
    refine Eq.trans (o_aload_n d_Pa_readItem_29 rfl) ?_
    obtain ⟨x4, T2, h1, h⟩ := w_C_of h
    refine s_cV0i d_Pa_readItem_30 pM_Pa_53 (Nat.le_of_ble_eq_true rfl) (obC_4 o) (c_Pa_peek D (by omega) o _ _ _ h1) ?_
    replace h1 := trivial; revert h; generalize T2 = T; intro h
    refine Eq.trans (o_bipush (v := 45) d_Pa_readItem_33 (by decide)) ?_
    refine s_icmp_ne (t := 80) d_Pa_readItem_35 (by decide) h (fun h => ?_) (fun h => ?_)
    · exact c_Pa_readItem_80 D hD o _ _ _ _ _ _ h
    · refine Eq.trans (o_aload_n d_Pa_readItem_38 rfl) ?_
      refine Eq.trans (o_dup d_Pa_readItem_39 rfl) ?_
      refine s_get d_Pa_readItem_40 pF_Pa_15 (zC_Pa_at o) h (fun x5 h => ?_)
      refine Eq.trans (o_iconst (v := 1) d_Pa_readItem_43 (by decide)) ?_
      refine Eq.trans (o_iadd d_Pa_readItem_44) ?_
      refine s_put d_Pa_readItem_45 pF_Pa_15 (zC_Pa_at o) h (fun T h => ?_)
      refine Eq.trans (o_aload_n d_Pa_readItem_48 rfl) ?_
      obtain ⟨x6, T2, h1, h⟩ := w_C_of h
      refine s_cV0i d_Pa_readItem_49 pM_Pa_53 (Nat.le_of_ble_eq_true rfl) (obC_4 o) (c_Pa_peek D (by omega) o _ _ _ h1) ?_
      replace h1 := trivial; revert h; generalize T2 = T; intro h
      refine Eq.trans (o_istore_n (lo' := [some (.ref (o + 4)), some (.int a1), some (.int x1), some (.int x6)]) d_Pa_readItem_52 (Nat.le_of_ble_eq_true rfl) rfl) ?_
      refine Eq.trans (o_iload_n d_Pa_readItem_53 rfl) ?_
      obtain ⟨x7, T2, h1, h⟩ := w_C_of h
      refine s_cS1i d_Pa_readItem_54 pM_Pa_124 (Nat.le_of_ble_eq_true rfl) (c_Pa_isItem D (by omega) o _ _ _ _ h1) ?_
      replace h1 := trivial; revert h; generalize T2 = T; intro h
      refine s_if_eq (t := 65) d_Pa_readItem_57 (by decide) h (fun h => ?_) (fun h => ?_)
      · refine Eq.trans (o_aload_n d_Pa_readItem_65 rfl) ?_
        obtain ⟨u9, T2, h1, h⟩ := w_C_of h
        refine s_cV0v d_Pa_readItem_66 pM_Pa_47 (Nat.le_of_ble_eq_true rfl) (obC_4 o) (c_Pa_fail D (by omega) o _ _ _ h1) ?_
        replace h1 := trivial; revert h; generalize T2 = T; intro h
        exact s_vret d_Pa_readItem_69 rfl h
      · refine Eq.trans (o_iload_n d_Pa_readItem_60 rfl) ?_
        refine Eq.trans (o_iload_n d_Pa_readItem_61 rfl) ?_
        refine s_icmp_ge (t := 70) d_Pa_readItem_62 (by decide) h (fun h => ?_) (fun h => ?_)
        · refine Eq.trans (o_aload_n d_Pa_readItem_70 rfl) ?_
          refine Eq.trans (o_dup d_Pa_readItem_71 rfl) ?_
          refine s_get d_Pa_readItem_72 pF_Pa_15 (zC_Pa_at o) h (fun x8 h => ?_)
          refine Eq.trans (o_iconst (v := 1) d_Pa_readItem_75 (by decide)) ?_
          refine Eq.trans (o_iadd d_Pa_readItem_76) ?_
          refine s_put d_Pa_readItem_77 pF_Pa_15 (zC_Pa_at o) h (fun T h => ?_)
          exact c_Pa_readItem_80 D hD o _ _ _ _ _ _ h
        · refine Eq.trans (o_aload_n d_Pa_readItem_65 rfl) ?_
          obtain ⟨u9, T2, h1, h⟩ := w_C_of h
          refine s_cV0v d_Pa_readItem_66 pM_Pa_47 (Nat.le_of_ble_eq_true rfl) (obC_4 o) (c_Pa_fail D (by omega) o _ _ _ h1) ?_
          replace h1 := trivial; revert h; generalize T2 = T; intro h
          exact s_vret d_Pa_readItem_69 rfl h
  · refine Eq.trans (o_aload_n d_Pa_readItem_12 rfl) ?_
    obtain ⟨u9, T2, h1, h⟩ := w_C_of h
    refine s_cV0v d_Pa_readItem_13 pM_Pa_47 (Nat.le_of_ble_eq_true rfl) (obC_4 o) (c_Pa_fail D (by omega) o _ _ _ h1) ?_
    replace h1 := trivial; revert h; generalize T2 = T; intro h
    exact s_vret d_Pa_readItem_16 rfl h
theorem c_Pa_readItem (D : Nat) (hD : 3 ≤ D) (o : Nat) (a1 : Int32) (T T1 : qT) (v : Unit) (h : f_Pa_readItem o a1 T = some (v, T1)) : q_ev q_Mt D 32 [.ref (o + 4), .int a1] (layC o T) = some (.inl (none), layC o T1) := by
  obtain ⟨D, rfl⟩ : ∃ D', D = D' + 1 := ⟨D - 1, by omega⟩
  rw [o_ev (M := q_mPa_readItem) (lo := [some (.ref (o + 4)), some (.int a1), none, none]) rfl (Nat.le_of_ble_eq_true rfl) rfl]
  exact c_Pa_readItem_0 D (by omega) o a1 T T1 v h
noncomputable def k_Pa_readSet_120 (o : Nat) (v1 : Int32) (v2 : Int32) : qW (qJ ⊕ Unit) :=
  w_if (v2 = 0) (
    w_rt ()) (
    w_C (f_Cs_invert o v1) fun _ =>
    w_rt ())
noncomputable def k_Pa_readSet_106 (o : Nat) (v1 : Int32) (v2 : Int32) : qW (qJ ⊕ Unit) :=
  w_S 85 fun x1 =>
  w_if (¬ x1 = ((-1))) (
    k_Pa_readSet_120 o v1 v2) (
    w_C (f_Pa_expect o 93) fun _ =>
    k_Pa_readSet_120 o v1 v2)
noncomputable def k_Pa_readSet_77 (o : Nat) (v1 : Int32) (v2 : Int32) (v4 : Int32) : qW (qJ ⊕ Unit) :=
  w_S 85 fun x1 =>
  w_if (¬ x1 = ((-1))) (
    w_go 44 [.int v1, .int v2, .int 0, .int (v4 + 1)] []) (
    w_C (f_Pa_peek o) fun x2 =>
    w_if (x2 = 93) (
      w_go 44 [.int v1, .int v2, .int 0, .int (v4 + 1)] []) (
      w_go 44 [.int v1, .int v2, .int 1, .int (v4 + 1)] []))
noncomputable def k_Pa_readSet_44 (o : Nat) (v1 : Int32) (v2 : Int32) (v3 : Int32) (v4 : Int32) : qW (qJ ⊕ Unit) :=
  w_if (48 ≤ v4) (
    k_Pa_readSet_106 o v1 v2) (
    w_if (v3 = 0) (
      k_Pa_readSet_106 o v1 v2) (
      w_C (f_Pa_peek o) fun x1 =>
      w_if (¬ x1 = 92) (
        w_C (f_Pa_readItem o v1) fun _ =>
        k_Pa_readSet_77 o v1 v2 v4) (
        w_C (f_Pa_readEscaped o v1) fun _ =>
        k_Pa_readSet_77 o v1 v2 v4)))
noncomputable def k_Pa_readSet_24 (o : Nat) (v1 : Int32) (s0 : Int32) : qW (qJ ⊕ Unit) :=
  w_if (s0 = 0) (
    w_go 44 [.int v1, .int s0, .int 1, .int 0] []) (
    w_S 83 fun x1 =>
    w_s 83 ((x1 + 1)) <|
    w_go 44 [.int v1, .int s0, .int 1, .int 0] [])
noncomputable def k_Pa_readSet_0 (o : Nat) (a1 : Int32) : qW (qJ ⊕ Unit) :=
  w_S 83 fun x1 =>
  w_s 83 ((x1 + 1)) <|
  w_C (f_Pa_peek o) fun x2 =>
  w_if (¬ x2 = 94) (
    k_Pa_readSet_24 o a1 0) (
    k_Pa_readSet_24 o a1 1)
noncomputable def b_Pa_readSet (o : Nat) : qJ → qW (qJ ⊕ Unit) := fun x => match x with
  | (0, [.int a1], []) => k_Pa_readSet_0 o a1
  | (44, [.int v1, .int v2, .int v3, .int v4], []) => k_Pa_readSet_44 o v1 v2 v3 v4
  | _ => w_no
noncomputable def f_Pa_readSet (o : Nat) (a1 : Int32) : qW Unit := w_fix (b_Pa_readSet o) (0, [.int a1], [])
set_option maxRecDepth 100000 in
set_option maxHeartbeats 4000000 in
theorem c_Pa_readSet_120 (D : Nat) (hD : 3 ≤ D) (o : Nat) (n : Nat) (ih_44 : ∀ (v1 : Int32) (v2 : Int32) (v3 : Int32) (v4 : Int32)  (T T2 : qT) (v : Unit), w_run (b_Pa_readSet o) n (44, [.int v1, .int v2, .int v3, .int v4], []) T = some (v, T2) → q_out (q_ev q_Mt D) q_mPa_readSet (44, [some (.ref (o + 4)), some (.int v1), some (.int v2), some (.int v3), some (.int v4)], [], layC o T) = some (.inl (none), layC o T2)) (v1 : Int32) (v2 : Int32) (e3 : Option Value) (e4 : Option Value) (T T1 T2 : qT) (rr : qJ ⊕ Unit) (v : Unit) (h : k_Pa_readSet_120 o v1 v2 T = some (rr, T1)) (hE : w_end (b_Pa_readSet o) n rr T1 = some (v, T2)) : q_out (q_ev q_Mt D) q_mPa_readSet (120, [some (.ref (o + 4)), some (.int v1), some (.int v2), e3, e4], [], layC o T) = some (.inl (none), layC o T2) := by
  unfold k_Pa_readSet_120 at h
  refine Eq.trans (o_iload_n d_Pa_readSet_120 rfl) ?_
  refine s_if_eq (t := 132) d_Pa_readSet_121 (by decide) h (fun h => ?_) (fun h => ?_)
  · exact s_vretJ d_Pa_readSet_132 rfl h hE
  · refine Eq.trans (o_aload_n d_Pa_readSet_124 rfl) ?_
    refine s_ref d_Pa_readSet_125 pF_Pa_28 (zC_Pa_sets o) ?_
    refine Eq.trans (o_iload_n d_Pa_readSet_128 rfl) ?_
    obtain ⟨u9, T2, h1, h⟩ := w_C_of h
    refine s_cV1v d_Pa_readSet_129 pM_Pa_121 (Nat.le_of_ble_eq_true rfl) (obC_2 o) (c_Cs_invert D (by omega) o _ _ _ _ h1) ?_
    replace h1 := trivial; revert h; generalize T2 = T; intro h
    exact s_vretJ d_Pa_readSet_132 rfl h hE
set_option maxRecDepth 100000 in
set_option maxHeartbeats 4000000 in
theorem c_Pa_readSet_106 (D : Nat) (hD : 3 ≤ D) (o : Nat) (n : Nat) (ih_44 : ∀ (v1 : Int32) (v2 : Int32) (v3 : Int32) (v4 : Int32)  (T T2 : qT) (v : Unit), w_run (b_Pa_readSet o) n (44, [.int v1, .int v2, .int v3, .int v4], []) T = some (v, T2) → q_out (q_ev q_Mt D) q_mPa_readSet (44, [some (.ref (o + 4)), some (.int v1), some (.int v2), some (.int v3), some (.int v4)], [], layC o T) = some (.inl (none), layC o T2)) (v1 : Int32) (v2 : Int32) (e3 : Option Value) (e4 : Option Value) (T T1 T2 : qT) (rr : qJ ⊕ Unit) (v : Unit) (h : k_Pa_readSet_106 o v1 v2 T = some (rr, T1)) (hE : w_end (b_Pa_readSet o) n rr T1 = some (v, T2)) : q_out (q_ev q_Mt D) q_mPa_readSet (106, [some (.ref (o + 4)), some (.int v1), some (.int v2), e3, e4], [], layC o T) = some (.inl (none), layC o T2) := by
  unfold k_Pa_readSet_106 at h
  refine Eq.trans (o_aload_n d_Pa_readSet_106 rfl) ?_
  refine s_get d_Pa_readSet_107 pF_Pa_21 (zC_Pa_error o) h (fun x1 h => ?_)
  refine Eq.trans (o_iconst (v := (-1)) d_Pa_readSet_110 (by decide)) ?_
  refine s_icmp_ne (t := 120) d_Pa_readSet_111 (by decide) h (fun h => ?_) (fun h => ?_)
  · exact c_Pa_readSet_120 D hD o n ih_44 _ _ _ _ _ _ _ _ _ h hE
  · refine Eq.trans (o_aload_n d_Pa_readSet_114 rfl) ?_
    refine Eq.trans (o_bipush (v := 93) d_Pa_readSet_115 (by decide)) ?_
    obtain ⟨u9, T2, h1, h⟩ := w_C_of h
    refine s_cV1v d_Pa_readSet_117 pM_Pa_92 (Nat.le_of_ble_eq_true rfl) (obC_4 o) (c_Pa_expect D (by omega) o _ _ _ _ h1) ?_
    replace h1 := trivial; revert h; generalize T2 = T; intro h
    exact c_Pa_readSet_120 D hD o n ih_44 _ _ _ _ _ _ _ _ _ h hE
set_option maxRecDepth 100000 in
set_option maxHeartbeats 4000000 in
theorem c_Pa_readSet_77 (D : Nat) (hD : 3 ≤ D) (o : Nat) (n : Nat) (ih_44 : ∀ (v1 : Int32) (v2 : Int32) (v3 : Int32) (v4 : Int32)  (T T2 : qT) (v : Unit), w_run (b_Pa_readSet o) n (44, [.int v1, .int v2, .int v3, .int v4], []) T = some (v, T2) → q_out (q_ev q_Mt D) q_mPa_readSet (44, [some (.ref (o + 4)), some (.int v1), some (.int v2), some (.int v3), some (.int v4)], [], layC o T) = some (.inl (none), layC o T2)) (v1 : Int32) (v2 : Int32) (v4 : Int32) (e3 : Option Value) (T T1 T2 : qT) (rr : qJ ⊕ Unit) (v : Unit) (h : k_Pa_readSet_77 o v1 v2 v4 T = some (rr, T1)) (hE : w_end (b_Pa_readSet o) n rr T1 = some (v, T2)) : q_out (q_ev q_Mt D) q_mPa_readSet (77, [some (.ref (o + 4)), some (.int v1), some (.int v2), e3, some (.int v4)], [], layC o T) = some (.inl (none), layC o T2) := by
  unfold k_Pa_readSet_77 at h
  refine Eq.trans (o_aload_n d_Pa_readSet_77 rfl) ?_
  refine s_get d_Pa_readSet_78 pF_Pa_21 (zC_Pa_error o) h (fun x1 h => ?_)
  refine Eq.trans (o_iconst (v := (-1)) d_Pa_readSet_81 (by decide)) ?_
  refine s_icmp_ne (t := 98) d_Pa_readSet_82 (by decide) h (fun h => ?_) (fun h => ?_)
  · refine Eq.trans (o_iconst (v := 0) d_Pa_readSet_98 (by decide)) ?_
    refine Eq.trans (o_istore_n (lo' := [some (.ref (o + 4)), some (.int v1), some (.int v2), some (.int 0), some (.int v4)]) d_Pa_readSet_99 (Nat.le_of_ble_eq_true rfl) rfl) ?_
    refine Eq.trans (o_iinc (v := (v4 + 1)) (lo' := [some (.ref (o + 4)), some (.int v1), some (.int v2), some (.int 0), some (.int (v4 + 1))]) d_Pa_readSet_100 rfl (by rw [show Int32.ofInt 1 = 1 from by decide]) (Nat.le_of_ble_eq_true rfl) rfl) ?_
    refine Eq.trans (o_goto (t := 44) d_Pa_readSet_103 (by decide)) ?_
    exact ih_44 _ _ _ _ _ _ _ (s_jump h hE)
  · refine Eq.trans (o_aload_n d_Pa_readSet_85 rfl) ?_
    obtain ⟨x2, T2, h1, h⟩ := w_C_of h
    refine s_cV0i d_Pa_readSet_86 pM_Pa_53 (Nat.le_of_ble_eq_true rfl) (obC_4 o) (c_Pa_peek D (by omega) o _ _ _ h1) ?_
    replace h1 := trivial; revert h; generalize T2 = T; intro h
    refine Eq.trans (o_bipush (v := 93) d_Pa_readSet_89 (by decide)) ?_
    refine s_icmp_eq (t := 98) d_Pa_readSet_91 (by decide) h (fun h => ?_) (fun h => ?_)
    · refine Eq.trans (o_iconst (v := 0) d_Pa_readSet_98 (by decide)) ?_
      refine Eq.trans (o_istore_n (lo' := [some (.ref (o + 4)), some (.int v1), some (.int v2), some (.int 0), some (.int v4)]) d_Pa_readSet_99 (Nat.le_of_ble_eq_true rfl) rfl) ?_
      refine Eq.trans (o_iinc (v := (v4 + 1)) (lo' := [some (.ref (o + 4)), some (.int v1), some (.int v2), some (.int 0), some (.int (v4 + 1))]) d_Pa_readSet_100 rfl (by rw [show Int32.ofInt 1 = 1 from by decide]) (Nat.le_of_ble_eq_true rfl) rfl) ?_
      refine Eq.trans (o_goto (t := 44) d_Pa_readSet_103 (by decide)) ?_
      exact ih_44 _ _ _ _ _ _ _ (s_jump h hE)
    · refine Eq.trans (o_iconst (v := 1) d_Pa_readSet_94 (by decide)) ?_
      refine Eq.trans (o_goto (t := 99) d_Pa_readSet_95 (by decide)) ?_
      refine Eq.trans (o_istore_n (lo' := [some (.ref (o + 4)), some (.int v1), some (.int v2), some (.int 1), some (.int v4)]) d_Pa_readSet_99 (Nat.le_of_ble_eq_true rfl) rfl) ?_
      refine Eq.trans (o_iinc (v := (v4 + 1)) (lo' := [some (.ref (o + 4)), some (.int v1), some (.int v2), some (.int 1), some (.int (v4 + 1))]) d_Pa_readSet_100 rfl (by rw [show Int32.ofInt 1 = 1 from by decide]) (Nat.le_of_ble_eq_true rfl) rfl) ?_
      refine Eq.trans (o_goto (t := 44) d_Pa_readSet_103 (by decide)) ?_
      exact ih_44 _ _ _ _ _ _ _ (s_jump h hE)
set_option maxRecDepth 100000 in
set_option maxHeartbeats 4000000 in
theorem c_Pa_readSet_44 (D : Nat) (hD : 3 ≤ D) (o : Nat) (n : Nat) (ih_44 : ∀ (v1 : Int32) (v2 : Int32) (v3 : Int32) (v4 : Int32)  (T T2 : qT) (v : Unit), w_run (b_Pa_readSet o) n (44, [.int v1, .int v2, .int v3, .int v4], []) T = some (v, T2) → q_out (q_ev q_Mt D) q_mPa_readSet (44, [some (.ref (o + 4)), some (.int v1), some (.int v2), some (.int v3), some (.int v4)], [], layC o T) = some (.inl (none), layC o T2)) (v1 : Int32) (v2 : Int32) (v3 : Int32) (v4 : Int32)  (T T1 T2 : qT) (rr : qJ ⊕ Unit) (v : Unit) (h : k_Pa_readSet_44 o v1 v2 v3 v4 T = some (rr, T1)) (hE : w_end (b_Pa_readSet o) n rr T1 = some (v, T2)) : q_out (q_ev q_Mt D) q_mPa_readSet (44, [some (.ref (o + 4)), some (.int v1), some (.int v2), some (.int v3), some (.int v4)], [], layC o T) = some (.inl (none), layC o T2) := by
  unfold k_Pa_readSet_44 at h
  refine Eq.trans (o_iload d_Pa_readSet_44 rfl) ?_
  refine Eq.trans (o_bipush (v := 48) d_Pa_readSet_46 (by decide)) ?_
  refine s_icmp_ge (t := 106) d_Pa_readSet_48 (by decide) h (fun h => ?_) (fun h => ?_)
  · exact c_Pa_readSet_106 D hD o n ih_44 _ _ _ _ _ _ _ _ _ h hE
  · refine Eq.trans (o_iload_n d_Pa_readSet_51 rfl) ?_
    refine s_if_eq (t := 106) d_Pa_readSet_52 (by decide) h (fun h => ?_) (fun h => ?_)
    · exact c_Pa_readSet_106 D hD o n ih_44 _ _ _ _ _ _ _ _ _ h hE
    · refine Eq.trans (o_aload_n d_Pa_readSet_55 rfl) ?_
      obtain ⟨x1, T2, h1, h⟩ := w_C_of h
      refine s_cV0i d_Pa_readSet_56 pM_Pa_53 (Nat.le_of_ble_eq_true rfl) (obC_4 o) (c_Pa_peek D (by omega) o _ _ _ h1) ?_
      replace h1 := trivial; revert h; generalize T2 = T; intro h
      refine Eq.trans (o_bipush (v := 92) d_Pa_readSet_59 (by decide)) ?_
      refine s_icmp_ne (t := 72) d_Pa_readSet_61 (by decide) h (fun h => ?_) (fun h => ?_)
      · refine Eq.trans (o_aload_n d_Pa_readSet_72 rfl) ?_
        refine Eq.trans (o_iload_n d_Pa_readSet_73 rfl) ?_
        obtain ⟨u9, T2, h1, h⟩ := w_C_of h
        refine s_cV1v d_Pa_readSet_74 pM_Pa_118 (Nat.le_of_ble_eq_true rfl) (obC_4 o) (c_Pa_readItem D (by omega) o _ _ _ _ h1) ?_
        replace h1 := trivial; revert h; generalize T2 = T; intro h
        exact c_Pa_readSet_77 D hD o n ih_44 _ _ _ _ _ _ _ _ _ h hE
      · refine Eq.trans (o_aload_n d_Pa_readSet_64 rfl) ?_
        refine Eq.trans (o_iload_n d_Pa_readSet_65 rfl) ?_
        obtain ⟨u9, T2, h1, h⟩ := w_C_of h
        refine s_cV1v d_Pa_readSet_66 pM_Pa_107 (Nat.le_of_ble_eq_true rfl) (obC_4 o) (c_Pa_readEscaped D (by omega) o _ _ _ _ h1) ?_
        replace h1 := trivial; revert h; generalize T2 = T; intro h
        refine Eq.trans (o_goto (t := 77) d_Pa_readSet_69 (by decide)) ?_
        exact c_Pa_readSet_77 D hD o n ih_44 _ _ _ _ _ _ _ _ _ h hE
set_option maxRecDepth 100000 in
set_option maxHeartbeats 4000000 in
theorem c_Pa_readSet_24 (D : Nat) (hD : 3 ≤ D) (o : Nat) (n : Nat) (ih_44 : ∀ (v1 : Int32) (v2 : Int32) (v3 : Int32) (v4 : Int32)  (T T2 : qT) (v : Unit), w_run (b_Pa_readSet o) n (44, [.int v1, .int v2, .int v3, .int v4], []) T = some (v, T2) → q_out (q_ev q_Mt D) q_mPa_readSet (44, [some (.ref (o + 4)), some (.int v1), some (.int v2), some (.int v3), some (.int v4)], [], layC o T) = some (.inl (none), layC o T2)) (v1 : Int32) (s0 : Int32) (e2 : Option Value) (e3 : Option Value) (e4 : Option Value) (T T1 T2 : qT) (rr : qJ ⊕ Unit) (v : Unit) (h : k_Pa_readSet_24 o v1 s0 T = some (rr, T1)) (hE : w_end (b_Pa_readSet o) n rr T1 = some (v, T2)) : q_out (q_ev q_Mt D) q_mPa_readSet (24, [some (.ref (o + 4)), some (.int v1), e2, e3, e4], [.int s0], layC o T) = some (.inl (none), layC o T2) := by
  unfold k_Pa_readSet_24 at h
  refine Eq.trans (o_istore_n (lo' := [some (.ref (o + 4)), some (.int v1), some (.int s0), e3, e4]) d_Pa_readSet_24 (Nat.le_of_ble_eq_true rfl) rfl) ?_
  refine Eq.trans (o_iload_n d_Pa_readSet_25 rfl) ?_
  refine s_if_eq (t := 39) d_Pa_readSet_26 (by decide) h (fun h => ?_) (fun h => ?_)
  · refine Eq.trans (o_iconst (v := 1) d_Pa_readSet_39 (by decide)) ?_
    refine Eq.trans (o_istore_n (lo' := [some (.ref (o + 4)), some (.int v1), some (.int s0), some (.int 1), e4]) d_Pa_readSet_40 (Nat.le_of_ble_eq_true rfl) rfl) ?_
    refine Eq.trans (o_iconst (v := 0) d_Pa_readSet_41 (by decide)) ?_
    refine Eq.trans (o_istore (lo' := [some (.ref (o + 4)), some (.int v1), some (.int s0), some (.int 1), some (.int 0)]) d_Pa_readSet_42 (Nat.le_of_ble_eq_true rfl) rfl) ?_
    exact ih_44 _ _ _ _ _ _ _ (s_jump h hE)
  · refine Eq.trans (o_aload_n d_Pa_readSet_29 rfl) ?_
    refine Eq.trans (o_dup d_Pa_readSet_30 rfl) ?_
    refine s_get d_Pa_readSet_31 pF_Pa_15 (zC_Pa_at o) h (fun x1 h => ?_)
    refine Eq.trans (o_iconst (v := 1) d_Pa_readSet_34 (by decide)) ?_
    refine Eq.trans (o_iadd d_Pa_readSet_35) ?_
    refine s_put d_Pa_readSet_36 pF_Pa_15 (zC_Pa_at o) h (fun T h => ?_)
    refine Eq.trans (o_iconst (v := 1) d_Pa_readSet_39 (by decide)) ?_
    refine Eq.trans (o_istore_n (lo' := [some (.ref (o + 4)), some (.int v1), some (.int s0), some (.int 1), e4]) d_Pa_readSet_40 (Nat.le_of_ble_eq_true rfl) rfl) ?_
    refine Eq.trans (o_iconst (v := 0) d_Pa_readSet_41 (by decide)) ?_
    refine Eq.trans (o_istore (lo' := [some (.ref (o + 4)), some (.int v1), some (.int s0), some (.int 1), some (.int 0)]) d_Pa_readSet_42 (Nat.le_of_ble_eq_true rfl) rfl) ?_
    exact ih_44 _ _ _ _ _ _ _ (s_jump h hE)
set_option maxRecDepth 100000 in
set_option maxHeartbeats 4000000 in
theorem c_Pa_readSet_0 (D : Nat) (hD : 3 ≤ D) (o : Nat) (n : Nat) (ih_44 : ∀ (v1 : Int32) (v2 : Int32) (v3 : Int32) (v4 : Int32)  (T T2 : qT) (v : Unit), w_run (b_Pa_readSet o) n (44, [.int v1, .int v2, .int v3, .int v4], []) T = some (v, T2) → q_out (q_ev q_Mt D) q_mPa_readSet (44, [some (.ref (o + 4)), some (.int v1), some (.int v2), some (.int v3), some (.int v4)], [], layC o T) = some (.inl (none), layC o T2)) (a1 : Int32)  (T T1 T2 : qT) (rr : qJ ⊕ Unit) (v : Unit) (h : k_Pa_readSet_0 o a1 T = some (rr, T1)) (hE : w_end (b_Pa_readSet o) n rr T1 = some (v, T2)) : q_out (q_ev q_Mt D) q_mPa_readSet (0, [some (.ref (o + 4)), some (.int a1), none, none, none], [], layC o T) = some (.inl (none), layC o T2) := by
  unfold k_Pa_readSet_0 at h
  refine Eq.trans (o_aload_n d_Pa_readSet_0 rfl) ?_
  refine Eq.trans (o_dup d_Pa_readSet_1 rfl) ?_
  refine s_get d_Pa_readSet_2 pF_Pa_15 (zC_Pa_at o) h (fun x1 h => ?_)
  refine Eq.trans (o_iconst (v := 1) d_Pa_readSet_5 (by decide)) ?_
  refine Eq.trans (o_iadd d_Pa_readSet_6) ?_
  refine s_put d_Pa_readSet_7 pF_Pa_15 (zC_Pa_at o) h (fun T h => ?_)
  refine Eq.trans (o_aload_n d_Pa_readSet_10 rfl) ?_
  obtain ⟨x2, T2, h1, h⟩ := w_C_of h
  refine s_cV0i d_Pa_readSet_11 pM_Pa_53 (Nat.le_of_ble_eq_true rfl) (obC_4 o) (c_Pa_peek D (by omega) o _ _ _ h1) ?_
  replace h1 := trivial; revert h; generalize T2 = T; intro h
  refine Eq.trans (o_bipush (v := 94) d_Pa_readSet_14 (by decide)) ?_
  refine s_icmp_ne (t := 23) d_Pa_readSet_16 (by decide) h (fun h => ?_) (fun h => ?_)
  · refine Eq.trans (o_iconst (v := 0) d_Pa_readSet_23 (by decide)) ?_
    exact c_Pa_readSet_24 D hD o n ih_44 _ _ _ _ _ _ _ _ _ _ h hE
  · refine Eq.trans (o_iconst (v := 1) d_Pa_readSet_19 (by decide)) ?_
    refine Eq.trans (o_goto (t := 24) d_Pa_readSet_20 (by decide)) ?_
    exact c_Pa_readSet_24 D hD o n ih_44 _ _ _ _ _ _ _ _ _ _ h hE
theorem c_Pa_readSet_lp (D : Nat) (hD : 3 ≤ D) (o : Nat) : ∀ n : Nat, (∀ (v1 : Int32) (v2 : Int32) (v3 : Int32) (v4 : Int32)  (T T2 : qT) (v : Unit), w_run (b_Pa_readSet o) n (44, [.int v1, .int v2, .int v3, .int v4], []) T = some (v, T2) → q_out (q_ev q_Mt D) q_mPa_readSet (44, [some (.ref (o + 4)), some (.int v1), some (.int v2), some (.int v3), some (.int v4)], [], layC o T) = some (.inl (none), layC o T2)) := by
  intro n
  induction n with
  | zero => exact (fun v1 v2 v3 v4 T T2 v h => by cases h)
  | succ n ih =>
    have ih_44 := ih
    · intro v1 v2 v3 v4 T T2 v h
      obtain ⟨rr, T1, hb, hE⟩ := w_run_succ h
      exact c_Pa_readSet_44 D hD o n ih_44 v1 v2 v3 v4 T T1 T2 rr v hb hE
theorem c_Pa_readSet (D : Nat) (hD : 4 ≤ D) (o : Nat) (a1 : Int32) (T T2 : qT) (v : Unit) (h : f_Pa_readSet o a1 T = some (v, T2)) : q_ev q_Mt D 30 [.ref (o + 4), .int a1] (layC o T) = some (.inl (none), layC o T2) := by
  obtain ⟨D, rfl⟩ : ∃ D', D = D' + 1 := ⟨D - 1, by omega⟩
  obtain ⟨n, hn⟩ := w_fix_iff.mp h
  cases n with
  | zero => cases hn
  | succ n =>
    obtain ⟨rr, T1, hb, hE⟩ := w_run_succ hn
    have hl := c_Pa_readSet_lp D (by omega) o n
    have ih_44 := hl
    rw [o_ev (M := q_mPa_readSet) (lo := [some (.ref (o + 4)), some (.int a1), none, none, none]) rfl (Nat.le_of_ble_eq_true rfl) rfl]
    exact c_Pa_readSet_0 D (by omega) o n ih_44 a1 T T1 T2 rr v hb hE
noncomputable def f_Rp_init (o : Nat) (p0 : Nat) : qW Unit :=
  w_d o p0 4 0 .int (.int (-1)) <|
  w_d o p0 4 1 (.object "PatternWalk$Row") (.null) <|
  w_d o p0 4 2 .int (.int 0) <|
  w_d o p0 4 3 .int (.int 1) <|
  w_d o p0 4 4 .int (.int 1) <|
  w_d o p0 4 5 .int (.int 1) <|
  w_d o p0 4 6 .boolean (.int 0) <|
  w_d o p0 4 7 .boolean (.int 0) <|
  w_d o p0 4 8 .boolean (.int 0) <|
  w_d o p0 4 9 (.object "PatternWalk$Repeat") (.null) <|
  w_pure ()
set_option maxRecDepth 100000 in
set_option maxHeartbeats 4000000 in
theorem c_Rp_init_0 (D : Nat) (hD : 0 ≤ D) (o : Nat) (p0 : Nat)  (T T1 : qT) (v : Unit) (h : f_Rp_init o p0 T = some (v, T1)) : q_out (q_ev q_Mt D) q_mRp_init (0, [some (.ref p0)], [], layC o T) = some (.inl (none), layC o T1) := by
  unfold f_Rp_init at h
  refine Eq.trans (o_aload_n d_Rp_init_0 rfl) ?_
  refine Eq.trans (o_objInit d_Rp_init_1 pM_Rp_3 (Nat.le_of_ble_eq_true rfl)) ?_
  refine Eq.trans (o_aload_n d_Rp_init_4 rfl) ?_
  refine Eq.trans (o_iconst (v := (-1)) d_Rp_init_5 (by decide)) ?_
  refine s_d d_Rp_init_6 pF_Rp_9 (dyC o) h (fun T h => ?_)
  refine Eq.trans (o_aload_n d_Rp_init_9 rfl) ?_
  refine Eq.trans (o_null d_Rp_init_10) ?_
  refine s_d d_Rp_init_11 pF_Rp_15 (dyC o) h (fun T h => ?_)
  refine Eq.trans (o_aload_n d_Rp_init_14 rfl) ?_
  refine Eq.trans (o_iconst (v := 0) d_Rp_init_15 (by decide)) ?_
  refine s_d d_Rp_init_16 pF_Rp_19 (dyC o) h (fun T h => ?_)
  refine Eq.trans (o_aload_n d_Rp_init_19 rfl) ?_
  refine Eq.trans (o_iconst (v := 1) d_Rp_init_20 (by decide)) ?_
  refine s_d d_Rp_init_21 pF_Rp_22 (dyC o) h (fun T h => ?_)
  refine Eq.trans (o_aload_n d_Rp_init_24 rfl) ?_
  refine Eq.trans (o_iconst (v := 1) d_Rp_init_25 (by decide)) ?_
  refine s_d d_Rp_init_26 pF_Rp_25 (dyC o) h (fun T h => ?_)
  refine Eq.trans (o_aload_n d_Rp_init_29 rfl) ?_
  refine Eq.trans (o_iconst (v := 1) d_Rp_init_30 (by decide)) ?_
  refine s_d d_Rp_init_31 pF_Rp_28 (dyC o) h (fun T h => ?_)
  refine Eq.trans (o_aload_n d_Rp_init_34 rfl) ?_
  refine Eq.trans (o_iconst (v := 0) d_Rp_init_35 (by decide)) ?_
  refine s_d d_Rp_init_36 pF_Rp_31 (dyC o) h (fun T h => ?_)
  refine Eq.trans (o_aload_n d_Rp_init_39 rfl) ?_
  refine Eq.trans (o_iconst (v := 0) d_Rp_init_40 (by decide)) ?_
  refine s_d d_Rp_init_41 pF_Rp_35 (dyC o) h (fun T h => ?_)
  refine Eq.trans (o_aload_n d_Rp_init_44 rfl) ?_
  refine Eq.trans (o_iconst (v := 0) d_Rp_init_45 (by decide)) ?_
  refine s_d d_Rp_init_46 pF_Rp_38 (dyC o) h (fun T h => ?_)
  refine Eq.trans (o_aload_n d_Rp_init_49 rfl) ?_
  refine Eq.trans (o_null d_Rp_init_50) ?_
  refine s_d d_Rp_init_51 pF_Rp_41 (dyC o) h (fun T h => ?_)
  exact s_vret d_Rp_init_54 rfl h
theorem c_Rp_init (D : Nat) (hD : 1 ≤ D) (o : Nat) (p0 : Nat) (T T1 : qT) (v : Unit) (h : f_Rp_init o p0 T = some (v, T1)) : q_ev q_Mt D 53 [.ref p0] (layC o T) = some (.inl (none), layC o T1) := by
  obtain ⟨D, rfl⟩ : ∃ D', D = D' + 1 := ⟨D - 1, by omega⟩
  rw [o_ev (M := q_mRp_init) (lo := [some (.ref p0)]) rfl (Nat.le_of_ble_eq_true rfl) rfl]
  exact c_Rp_init_0 D (by omega) o p0 T T1 v h
noncomputable def k_Rw_sizeAsChoice_10 (o : Nat) (v1 : Int32) (v2 : (Option Nat)) : qW (qJ ⊕ Int32) :=
  w_nul v2 (
    w_ri .int v1) fun p1 =>
    w_DI o p1 5 3 fun x2 =>
    w_DR o p1 5 2 fun u3 =>
    w_go 10 [.int (if ((v1 + 2) + x2) < 1000 then ((v1 + 2) + x2) else 1000)] [u3]
noncomputable def k_Rw_sizeAsChoice_0 (o : Nat) (p0 : Nat) : qW (qJ ⊕ Int32) :=
  w_DI o p0 5 3 fun x1 =>
  w_DR o p0 5 2 fun u2 =>
  w_go 10 [.int x1] [u2]
noncomputable def b_Rw_sizeAsChoice (o : Nat) : qJ → qW (qJ ⊕ Int32) := fun x => match x with
  | (0, [], [some p0]) => k_Rw_sizeAsChoice_0 o p0
  | (10, [.int v1], [v2]) => k_Rw_sizeAsChoice_10 o v1 v2
  | _ => w_no
noncomputable def f_Rw_sizeAsChoice (o : Nat) (p0 : Nat) : qW Int32 := w_fix (b_Rw_sizeAsChoice o) (0, [], [some p0])
set_option maxRecDepth 100000 in
set_option maxHeartbeats 4000000 in
theorem c_Rw_sizeAsChoice_10 (D : Nat) (hD : 0 ≤ D) (o : Nat) (n : Nat) (ih_10 : ∀ (v1 : Int32) (v2 : (Option Nat)) (e0 : Option Value) (T T2 : qT) (v : Int32), w_run (b_Rw_sizeAsChoice o) n (10, [.int v1], [v2]) T = some (v, T2) → q_out (q_ev q_Mt D) q_mRw_sizeAsChoice (10, [e0, some (.int v1), some (va_rf v2)], [], layC o T) = some (.inl (some (.int v)), layC o T2)) (v1 : Int32) (v2 : (Option Nat)) (e0 : Option Value) (T T1 T2 : qT) (rr : qJ ⊕ Int32) (v : Int32) (h : k_Rw_sizeAsChoice_10 o v1 v2 T = some (rr, T1)) (hE : w_end (b_Rw_sizeAsChoice o) n rr T1 = some (v, T2)) : q_out (q_ev q_Mt D) q_mRw_sizeAsChoice (10, [e0, some (.int v1), some (va_rf v2)], [], layC o T) = some (.inl (some (.int v)), layC o T2) := by
  unfold k_Rw_sizeAsChoice_10 at h
  refine Eq.trans (o_aload_nR d_Rw_sizeAsChoice_10 rfl) ?_
  refine s_ifnull (t := 37) d_Rw_sizeAsChoice_11 (by decide) h (fun e9 h2 => ?_) (fun p1 e9 h2 => ?_)
  · clear h; subst e9; have h := h2; clear h2
    refine Eq.trans (o_iload_n d_Rw_sizeAsChoice_37 rfl) ?_
    exact s_iretJ d_Rw_sizeAsChoice_38 rfl h hE
  · clear h; subst e9; have h := h2; clear h2
    refine Eq.trans (o_sipush (v := 1000) d_Rw_sizeAsChoice_14 (by decide)) ?_
    refine Eq.trans (o_iload_n d_Rw_sizeAsChoice_17 rfl) ?_
    refine Eq.trans (o_iconst (v := 2) d_Rw_sizeAsChoice_18 (by decide)) ?_
    refine Eq.trans (o_iadd d_Rw_sizeAsChoice_19) ?_
    refine Eq.trans (o_aload_n d_Rw_sizeAsChoice_20 rfl) ?_
    refine s_DI d_Rw_sizeAsChoice_21 pF_Rw_20 (dyC o) h (fun x2 h => ?_)
    refine Eq.trans (o_iadd d_Rw_sizeAsChoice_24) ?_
    refine Eq.trans (o_min d_Rw_sizeAsChoice_25 pM_Rw_31 (Nat.le_of_ble_eq_true rfl)) ?_
    refine Eq.trans (o_istore_n (lo' := [(q_dk e0), some (.int (if ((v1 + 2) + x2) < 1000 then ((v1 + 2) + x2) else 1000)), some (.ref p1)]) d_Rw_sizeAsChoice_28 (Nat.le_of_ble_eq_true rfl) ((q_st1_dk (j := 0) (Nat.le_of_ble_eq_true rfl)).trans rfl)) ?_
    refine Eq.trans (o_aload_n d_Rw_sizeAsChoice_29 rfl) ?_
    refine s_DR d_Rw_sizeAsChoice_30 pF_Rw_16 (dyC o) h (fun u3 h => ?_)
    refine Eq.trans (o_astore_nR (lo' := [(q_dk e0), some (.int (if ((v1 + 2) + x2) < 1000 then ((v1 + 2) + x2) else 1000)), some (va_rf u3)]) d_Rw_sizeAsChoice_33 (Nat.le_of_ble_eq_true rfl) rfl) ?_
    refine Eq.trans (o_goto (t := 10) d_Rw_sizeAsChoice_34 (by decide)) ?_
    exact ih_10 _ _ _ _ _ _ (s_jump h hE)
set_option maxRecDepth 100000 in
set_option maxHeartbeats 4000000 in
theorem c_Rw_sizeAsChoice_0 (D : Nat) (hD : 0 ≤ D) (o : Nat) (n : Nat) (ih_10 : ∀ (v1 : Int32) (v2 : (Option Nat)) (e0 : Option Value) (T T2 : qT) (v : Int32), w_run (b_Rw_sizeAsChoice o) n (10, [.int v1], [v2]) T = some (v, T2) → q_out (q_ev q_Mt D) q_mRw_sizeAsChoice (10, [e0, some (.int v1), some (va_rf v2)], [], layC o T) = some (.inl (some (.int v)), layC o T2)) (p0 : Nat)  (T T1 T2 : qT) (rr : qJ ⊕ Int32) (v : Int32) (h : k_Rw_sizeAsChoice_0 o p0 T = some (rr, T1)) (hE : w_end (b_Rw_sizeAsChoice o) n rr T1 = some (v, T2)) : q_out (q_ev q_Mt D) q_mRw_sizeAsChoice (0, [some (.ref p0), none, none], [], layC o T) = some (.inl (some (.int v)), layC o T2) := by
  unfold k_Rw_sizeAsChoice_0 at h
  refine Eq.trans (o_aload_n d_Rw_sizeAsChoice_0 rfl) ?_
  refine s_DI d_Rw_sizeAsChoice_1 pF_Rw_20 (dyC o) h (fun x1 h => ?_)
  refine Eq.trans (o_istore_n (lo' := [some (.ref p0), some (.int x1), none]) d_Rw_sizeAsChoice_4 (Nat.le_of_ble_eq_true rfl) rfl) ?_
  refine Eq.trans (o_aload_n d_Rw_sizeAsChoice_5 rfl) ?_
  refine s_DR d_Rw_sizeAsChoice_6 pF_Rw_16 (dyC o) h (fun u2 h => ?_)
  refine Eq.trans (o_astore_nR (lo' := [some (.ref p0), some (.int x1), some (va_rf u2)]) d_Rw_sizeAsChoice_9 (Nat.le_of_ble_eq_true rfl) rfl) ?_
  exact ih_10 _ _ _ _ _ _ (s_jump h hE)
theorem c_Rw_sizeAsChoice_lp (D : Nat) (hD : 0 ≤ D) (o : Nat) : ∀ n : Nat, (∀ (v1 : Int32) (v2 : (Option Nat)) (e0 : Option Value) (T T2 : qT) (v : Int32), w_run (b_Rw_sizeAsChoice o) n (10, [.int v1], [v2]) T = some (v, T2) → q_out (q_ev q_Mt D) q_mRw_sizeAsChoice (10, [e0, some (.int v1), some (va_rf v2)], [], layC o T) = some (.inl (some (.int v)), layC o T2)) := by
  intro n
  induction n with
  | zero => exact (fun v1 v2 e0 T T2 v h => by cases h)
  | succ n ih =>
    have ih_10 := ih
    · intro v1 v2 e0 T T2 v h
      obtain ⟨rr, T1, hb, hE⟩ := w_run_succ h
      exact c_Rw_sizeAsChoice_10 D hD o n ih_10 v1 v2 e0 T T1 T2 rr v hb hE
theorem c_Rw_sizeAsChoice (D : Nat) (hD : 1 ≤ D) (o : Nat) (p0 : Nat) (T T2 : qT) (v : Int32) (h : f_Rw_sizeAsChoice o p0 T = some (v, T2)) : q_ev q_Mt D 56 [.ref p0] (layC o T) = some (.inl (some (.int v)), layC o T2) := by
  obtain ⟨D, rfl⟩ : ∃ D', D = D' + 1 := ⟨D - 1, by omega⟩
  obtain ⟨n, hn⟩ := w_fix_iff.mp h
  cases n with
  | zero => cases hn
  | succ n =>
    obtain ⟨rr, T1, hb, hE⟩ := w_run_succ hn
    have hl := c_Rw_sizeAsChoice_lp D (by omega) o n
    have ih_10 := hl
    rw [o_ev (M := q_mRw_sizeAsChoice) (lo := [some (.ref p0), none, none]) rfl (Nat.le_of_ble_eq_true rfl) rfl]
    exact c_Rw_sizeAsChoice_0 D (by omega) o n ih_10 p0 T T1 T2 rr v hb hE
noncomputable def k_Pa_readChoice_13 (o : Nat) (G : Nat → Option Nat → Int32 → qW (Option Nat)) (v1 : Int32) (v2 : (Option Nat)) (v3 : (Option Nat)) (v4 : Int32) : qW (qJ ⊕ (Option Nat)) :=
  w_if (48 ≤ v4) (
    w_rt v2) (
    w_S 85 fun x1 =>
    w_if (¬ x1 = ((-1))) (
      w_rt v2) (
      w_C (f_Pa_peek o) fun x2 =>
      w_if (x2 = ((-1))) (
        w_rt v2) (
        w_if (¬ x2 = 41) (
          w_if (¬ x2 = 124) (
            w_C (G 1 none v1) fun u3 =>
            w_nn v3 fun p4 =>
            w_is p4 o 5 <|
            w_C (f_Rw_append o p4 u3) fun _ =>
            w_go 13 [.int v1, .int (v4 + 1)] [v2, (some p4)]) (
            w_S 83 fun x5 =>
            w_s 83 ((x5 + 1)) <|
            w_new o 5 [.null, .null, .null, .int 0] fun p6 =>
            w_C (f_Rw_init o p6) fun _ =>
            w_nn v3 fun p7 =>
            w_d o p7 5 2 (.object "PatternWalk$Row") (.ref p6) <|
            w_DR o p7 5 2 fun u8 =>
            w_go 13 [.int v1, .int (v4 + 1)] [v2, u8])) (
          w_rt v2))))
noncomputable def k_Pa_readChoice_0 (o : Nat) (G : Nat → Option Nat → Int32 → qW (Option Nat)) (a1 : Int32) : qW (qJ ⊕ (Option Nat)) :=
  w_new o 5 [.null, .null, .null, .int 0] fun p1 =>
  w_C (f_Rw_init o p1) fun _ =>
  w_go 13 [.int a1, .int 0] [(some p1), (some p1)]
noncomputable def b_Pa_readChoice (o : Nat) (G : Nat → Option Nat → Int32 → qW (Option Nat)) : qJ → qW (qJ ⊕ (Option Nat)) := fun x => match x with
  | (0, [.int a1], []) => k_Pa_readChoice_0 o G a1
  | (13, [.int v1, .int v4], [v2, v3]) => k_Pa_readChoice_13 o G v1 v2 v3 v4
  | _ => w_no
noncomputable def f_Pa_readChoice (o : Nat) (G : Nat → Option Nat → Int32 → qW (Option Nat)) (a1 : Int32) : qW (Option Nat) := w_fix (b_Pa_readChoice o G) (0, [.int a1], [])
set_option maxRecDepth 100000 in
set_option maxHeartbeats 4000000 in
theorem c_Pa_readChoice_13 (D : Nat) (hD : 4 ≤ D) (o : Nat) (G : Nat → Option Nat → Int32 → qW (Option Nat)) (hG0 : ∀ (p : Option Nat) (x : Int32) (T T1 : qT) (v : Option Nat), G 0 p x T = some (v, T1) → q_ev q_Mt D 24 [.ref (o + 4), .int x] (layC o T) = some (.inl (some (va_rf v)), layC o T1)) (hG1 : ∀ (p : Option Nat) (x : Int32) (T T1 : qT) (v : Option Nat), G 1 p x T = some (v, T1) → q_ev q_Mt D 26 [.ref (o + 4), .int x] (layC o T) = some (.inl (some (va_rf v)), layC o T1)) (hG2 : ∀ (p : Option Nat) (x : Int32) (T T1 : qT) (v : Option Nat), G 2 p x T = some (v, T1) → q_ev q_Mt D 27 [.ref (o + 4), va_rf p, .int x] (layC o T) = some (.inl (none), layC o T1)) (n : Nat) (ih_13 : ∀ (v1 : Int32) (v2 : (Option Nat)) (v3 : (Option Nat)) (v4 : Int32) (e5 : Option Value) (T T2 : qT) (v : (Option Nat)), w_run (b_Pa_readChoice o G) n (13, [.int v1, .int v4], [v2, v3]) T = some (v, T2) → q_out (q_ev q_Mt D) q_mPa_readChoice (13, [some (.ref (o + 4)), some (.int v1), some (va_rf v2), some (va_rf v3), some (.int v4), e5], [], layC o T) = some (.inl (some (va_rf v)), layC o T2)) (v1 : Int32) (v2 : (Option Nat)) (v3 : (Option Nat)) (v4 : Int32) (e5 : Option Value) (T T1 T2 : qT) (rr : qJ ⊕ (Option Nat)) (v : (Option Nat)) (h : k_Pa_readChoice_13 o G v1 v2 v3 v4 T = some (rr, T1)) (hE : w_end (b_Pa_readChoice o G) n rr T1 = some (v, T2)) : q_out (q_ev q_Mt D) q_mPa_readChoice (13, [some (.ref (o + 4)), some (.int v1), some (va_rf v2), some (va_rf v3), some (.int v4), e5], [], layC o T) = some (.inl (some (va_rf v)), layC o T2) := by
  unfold k_Pa_readChoice_13 at h
  refine Eq.trans (o_iload d_Pa_readChoice_13 rfl) ?_
  refine Eq.trans (o_bipush (v := 48) d_Pa_readChoice_15 (by decide)) ?_
  refine s_icmp_ge (t := 101) d_Pa_readChoice_17 (by decide) h (fun h => ?_) (fun h => ?_)
  · refine Eq.trans (o_aload_nR d_Pa_readChoice_101 rfl) ?_
    exact s_aretJ d_Pa_readChoice_102 rfl h hE
  · refine Eq.trans (o_aload_n d_Pa_readChoice_20 rfl) ?_
    refine s_get d_Pa_readChoice_21 pF_Pa_21 (zC_Pa_error o) h (fun x1 h => ?_)
    refine Eq.trans (o_iconst (v := (-1)) d_Pa_readChoice_24 (by decide)) ?_
    refine s_icmp_ne (t := 101) d_Pa_readChoice_25 (by decide) h (fun h => ?_) (fun h => ?_)
    · refine Eq.trans (o_aload_nR d_Pa_readChoice_101 rfl) ?_
      exact s_aretJ d_Pa_readChoice_102 rfl h hE
    · refine Eq.trans (o_aload_n d_Pa_readChoice_28 rfl) ?_
      obtain ⟨x2, T2, h1, h⟩ := w_C_of h
      refine s_cV0i d_Pa_readChoice_29 pM_Pa_53 (Nat.le_of_ble_eq_true rfl) (obC_4 o) (c_Pa_peek D (by omega) o _ _ _ h1) ?_
      replace h1 := trivial; revert h; generalize T2 = T; intro h
      refine Eq.trans (o_istore (lo' := [some (.ref (o + 4)), some (.int v1), some (va_rf v2), some (va_rf v3), some (.int v4), some (.int x2)]) d_Pa_readChoice_32 (Nat.le_of_ble_eq_true rfl) rfl) ?_
      refine Eq.trans (o_iload d_Pa_readChoice_34 rfl) ?_
      refine Eq.trans (o_iconst (v := (-1)) d_Pa_readChoice_36 (by decide)) ?_
      refine s_icmp_eq (t := 101) d_Pa_readChoice_37 (by decide) h (fun h => ?_) (fun h => ?_)
      · refine Eq.trans (o_aload_nR d_Pa_readChoice_101 rfl) ?_
        exact s_aretJ d_Pa_readChoice_102 rfl h hE
      · refine Eq.trans (o_iload d_Pa_readChoice_40 rfl) ?_
        refine Eq.trans (o_bipush (v := 41) d_Pa_readChoice_42 (by decide)) ?_
        refine s_icmp_ne (t := 50) d_Pa_readChoice_44 (by decide) h (fun h => ?_) (fun h => ?_)
        · refine Eq.trans (o_iload d_Pa_readChoice_50 rfl) ?_
          refine Eq.trans (o_bipush (v := 124) d_Pa_readChoice_52 (by decide)) ?_
          refine s_icmp_ne (t := 86) d_Pa_readChoice_54 (by decide) h (fun h => ?_) (fun h => ?_)
          · refine Eq.trans (o_aload_nR d_Pa_readChoice_86 rfl) ?_
            refine Eq.trans (o_aload_n d_Pa_readChoice_87 rfl) ?_
            refine Eq.trans (o_iload_n d_Pa_readChoice_88 rfl) ?_
            obtain ⟨u3, T2, h1, h⟩ := w_C_of h
            refine s_cV1r d_Pa_readChoice_89 pM_Pa_61 (by cases v3 <;> exact Nat.le_of_ble_eq_true rfl) (obC_4 o) (hG1 _ _ _ _ _ h1) ?_
            replace h1 := trivial; revert h; generalize T2 = T; intro h
            obtain ⟨p4, e9, h2⟩ := w_nn_of h
            clear h; subst e9; have h := h2; clear h2
            obtain ⟨⟨fs9, hb9⟩, h⟩ := w_is_of (dyC o) h
            obtain ⟨u9, T2, h1, h⟩ := w_C_of h
            refine Eq.trans (o_callV1 d_Pa_readChoice_92 pM_Pa_65 (Nat.le_of_ble_eq_true rfl) hb9 (c_Rw_append D (by omega) o _ _ _ _ _ h1)) ?_
            replace h1 := trivial; revert h; generalize T2 = T; intro h
            refine Eq.trans (o_iinc (v := (v4 + 1)) (lo' := [some (.ref (o + 4)), some (.int v1), some (va_rf v2), some (.ref p4), some (.int (v4 + 1)), some (.int x2)]) d_Pa_readChoice_95 rfl (by rw [show Int32.ofInt 1 = 1 from by decide]) (Nat.le_of_ble_eq_true rfl) rfl) ?_
            refine Eq.trans (o_goto (t := 13) d_Pa_readChoice_98 (by decide)) ?_
            exact ih_13 _ _ _ _ _ _ _ _ (s_jump h hE)
          · refine Eq.trans (o_aload_n d_Pa_readChoice_57 rfl) ?_
            refine Eq.trans (o_dup d_Pa_readChoice_58 rfl) ?_
            refine s_get d_Pa_readChoice_59 pF_Pa_15 (zC_Pa_at o) h (fun x5 h => ?_)
            refine Eq.trans (o_iconst (v := 1) d_Pa_readChoice_62 (by decide)) ?_
            refine Eq.trans (o_iadd d_Pa_readChoice_63) ?_
            refine s_put d_Pa_readChoice_64 pF_Pa_15 (zC_Pa_at o) h (fun T h => ?_)
            refine Eq.trans (o_aload_nR d_Pa_readChoice_67 rfl) ?_
            refine s_new d_Pa_readChoice_68 rfl (dyC o) (cnC o) h (fun p6 T h => ?_)
            refine Eq.trans (o_dup d_Pa_readChoice_71 rfl) ?_
            obtain ⟨u9, T2, h1, h⟩ := w_C_of h
            refine s_cI0v d_Pa_readChoice_72 pM_Pa_52 (by cases v3 <;> exact Nat.le_of_ble_eq_true rfl) (c_Rw_init D (by omega) o _ _ _ _ h1) ?_
            replace h1 := trivial; revert h; generalize T2 = T; intro h
            obtain ⟨p7, e9, h2⟩ := w_nn_of h
            clear h; subst e9; have h := h2; clear h2
            refine s_d d_Pa_readChoice_75 pF_Pa_57 (dyC o) h (fun T h => ?_)
            refine Eq.trans (o_aload_n d_Pa_readChoice_78 rfl) ?_
            refine s_DR d_Pa_readChoice_79 pF_Pa_57 (dyC o) h (fun u8 h => ?_)
            refine Eq.trans (o_astore_nR (lo' := [some (.ref (o + 4)), some (.int v1), some (va_rf v2), some (va_rf u8), some (.int v4), some (.int x2)]) d_Pa_readChoice_82 (Nat.le_of_ble_eq_true rfl) (by cases v2 <;> rfl)) ?_
            refine Eq.trans (o_goto (t := 95) d_Pa_readChoice_83 (by decide)) ?_
            refine Eq.trans (o_iinc (v := (v4 + 1)) (lo' := [some (.ref (o + 4)), some (.int v1), some (va_rf v2), some (va_rf u8), some (.int (v4 + 1)), some (.int x2)]) d_Pa_readChoice_95 rfl (by rw [show Int32.ofInt 1 = 1 from by decide]) (Nat.le_of_ble_eq_true rfl) (by cases u8 <;> rfl)) ?_
            refine Eq.trans (o_goto (t := 13) d_Pa_readChoice_98 (by decide)) ?_
            exact ih_13 _ _ _ _ _ _ _ _ (s_jump h hE)
        · refine Eq.trans (o_goto (t := 101) d_Pa_readChoice_47 (by decide)) ?_
          refine Eq.trans (o_aload_nR d_Pa_readChoice_101 rfl) ?_
          exact s_aretJ d_Pa_readChoice_102 rfl h hE
set_option maxRecDepth 100000 in
set_option maxHeartbeats 4000000 in
theorem c_Pa_readChoice_0 (D : Nat) (hD : 4 ≤ D) (o : Nat) (G : Nat → Option Nat → Int32 → qW (Option Nat)) (hG0 : ∀ (p : Option Nat) (x : Int32) (T T1 : qT) (v : Option Nat), G 0 p x T = some (v, T1) → q_ev q_Mt D 24 [.ref (o + 4), .int x] (layC o T) = some (.inl (some (va_rf v)), layC o T1)) (hG1 : ∀ (p : Option Nat) (x : Int32) (T T1 : qT) (v : Option Nat), G 1 p x T = some (v, T1) → q_ev q_Mt D 26 [.ref (o + 4), .int x] (layC o T) = some (.inl (some (va_rf v)), layC o T1)) (hG2 : ∀ (p : Option Nat) (x : Int32) (T T1 : qT) (v : Option Nat), G 2 p x T = some (v, T1) → q_ev q_Mt D 27 [.ref (o + 4), va_rf p, .int x] (layC o T) = some (.inl (none), layC o T1)) (n : Nat) (ih_13 : ∀ (v1 : Int32) (v2 : (Option Nat)) (v3 : (Option Nat)) (v4 : Int32) (e5 : Option Value) (T T2 : qT) (v : (Option Nat)), w_run (b_Pa_readChoice o G) n (13, [.int v1, .int v4], [v2, v3]) T = some (v, T2) → q_out (q_ev q_Mt D) q_mPa_readChoice (13, [some (.ref (o + 4)), some (.int v1), some (va_rf v2), some (va_rf v3), some (.int v4), e5], [], layC o T) = some (.inl (some (va_rf v)), layC o T2)) (a1 : Int32)  (T T1 T2 : qT) (rr : qJ ⊕ (Option Nat)) (v : (Option Nat)) (h : k_Pa_readChoice_0 o G a1 T = some (rr, T1)) (hE : w_end (b_Pa_readChoice o G) n rr T1 = some (v, T2)) : q_out (q_ev q_Mt D) q_mPa_readChoice (0, [some (.ref (o + 4)), some (.int a1), none, none, none, none], [], layC o T) = some (.inl (some (va_rf v)), layC o T2) := by
  unfold k_Pa_readChoice_0 at h
  refine s_new d_Pa_readChoice_0 rfl (dyC o) (cnC o) h (fun p1 T h => ?_)
  refine Eq.trans (o_dup d_Pa_readChoice_3 rfl) ?_
  obtain ⟨u9, T2, h1, h⟩ := w_C_of h
  refine s_cI0v d_Pa_readChoice_4 pM_Pa_52 (Nat.le_of_ble_eq_true rfl) (c_Rw_init D (by omega) o _ _ _ _ h1) ?_
  replace h1 := trivial; revert h; generalize T2 = T; intro h
  refine Eq.trans (o_astore_n (lo' := [some (.ref (o + 4)), some (.int a1), some (.ref p1), none, none, none]) d_Pa_readChoice_7 (Nat.le_of_ble_eq_true rfl) rfl) ?_
  refine Eq.trans (o_aload_n d_Pa_readChoice_8 rfl) ?_
  refine Eq.trans (o_astore_n (lo' := [some (.ref (o + 4)), some (.int a1), some (.ref p1), some (.ref p1), none, none]) d_Pa_readChoice_9 (Nat.le_of_ble_eq_true rfl) rfl) ?_
  refine Eq.trans (o_iconst (v := 0) d_Pa_readChoice_10 (by decide)) ?_
  refine Eq.trans (o_istore (lo' := [some (.ref (o + 4)), some (.int a1), some (.ref p1), some (.ref p1), some (.int 0), none]) d_Pa_readChoice_11 (Nat.le_of_ble_eq_true rfl) rfl) ?_
  exact ih_13 _ _ _ _ _ _ _ _ (s_jump h hE)
theorem c_Pa_readChoice_lp (D : Nat) (hD : 4 ≤ D) (o : Nat) (G : Nat → Option Nat → Int32 → qW (Option Nat)) (hG0 : ∀ (p : Option Nat) (x : Int32) (T T1 : qT) (v : Option Nat), G 0 p x T = some (v, T1) → q_ev q_Mt D 24 [.ref (o + 4), .int x] (layC o T) = some (.inl (some (va_rf v)), layC o T1)) (hG1 : ∀ (p : Option Nat) (x : Int32) (T T1 : qT) (v : Option Nat), G 1 p x T = some (v, T1) → q_ev q_Mt D 26 [.ref (o + 4), .int x] (layC o T) = some (.inl (some (va_rf v)), layC o T1)) (hG2 : ∀ (p : Option Nat) (x : Int32) (T T1 : qT) (v : Option Nat), G 2 p x T = some (v, T1) → q_ev q_Mt D 27 [.ref (o + 4), va_rf p, .int x] (layC o T) = some (.inl (none), layC o T1)) : ∀ n : Nat, (∀ (v1 : Int32) (v2 : (Option Nat)) (v3 : (Option Nat)) (v4 : Int32) (e5 : Option Value) (T T2 : qT) (v : (Option Nat)), w_run (b_Pa_readChoice o G) n (13, [.int v1, .int v4], [v2, v3]) T = some (v, T2) → q_out (q_ev q_Mt D) q_mPa_readChoice (13, [some (.ref (o + 4)), some (.int v1), some (va_rf v2), some (va_rf v3), some (.int v4), e5], [], layC o T) = some (.inl (some (va_rf v)), layC o T2)) := by
  intro n
  induction n with
  | zero => exact (fun v1 v2 v3 v4 e5 T T2 v h => by cases h)
  | succ n ih =>
    have ih_13 := ih
    · intro v1 v2 v3 v4 e5 T T2 v h
      obtain ⟨rr, T1, hb, hE⟩ := w_run_succ h
      exact c_Pa_readChoice_13 D hD o G hG0 hG1 hG2 n ih_13 v1 v2 v3 v4 e5 T T1 T2 rr v hb hE
theorem c_Pa_readChoice (D : Nat) (hD : 4 ≤ D) (o : Nat) (G : Nat → Option Nat → Int32 → qW (Option Nat)) (hG0 : ∀ (p : Option Nat) (x : Int32) (T T1 : qT) (v : Option Nat), G 0 p x T = some (v, T1) → q_ev q_Mt D 24 [.ref (o + 4), .int x] (layC o T) = some (.inl (some (va_rf v)), layC o T1)) (hG1 : ∀ (p : Option Nat) (x : Int32) (T T1 : qT) (v : Option Nat), G 1 p x T = some (v, T1) → q_ev q_Mt D 26 [.ref (o + 4), .int x] (layC o T) = some (.inl (some (va_rf v)), layC o T1)) (hG2 : ∀ (p : Option Nat) (x : Int32) (T T1 : qT) (v : Option Nat), G 2 p x T = some (v, T1) → q_ev q_Mt D 27 [.ref (o + 4), va_rf p, .int x] (layC o T) = some (.inl (none), layC o T1)) (a1 : Int32) (T T2 : qT) (v : (Option Nat)) (h : f_Pa_readChoice o G a1 T = some (v, T2)) : q_ev q_Mt (D + 1) 24 [.ref (o + 4), .int a1] (layC o T) = some (.inl (some (va_rf v)), layC o T2) := by
  obtain ⟨n, hn⟩ := w_fix_iff.mp h
  cases n with
  | zero => cases hn
  | succ n =>
    obtain ⟨rr, T1, hb, hE⟩ := w_run_succ hn
    have hl := c_Pa_readChoice_lp D (by omega) o G hG0 hG1 hG2 n
    have ih_13 := hl
    rw [o_ev (M := q_mPa_readChoice) (lo := [some (.ref (o + 4)), some (.int a1), none, none, none, none]) rfl (Nat.le_of_ble_eq_true rfl) rfl]
    exact c_Pa_readChoice_0 D (by omega) o G hG0 hG1 hG2 n ih_13 a1 T T1 T2 rr v hb hE
noncomputable def k_Pa_readRepeat_64 (o : Nat) (G : Nat → Option Nat → Int32 → qW (Option Nat)) (v2 : (Option Nat)) : qW (Option Nat) :=
  w_S 85 fun x1 =>
  w_if (¬ x1 = ((-1))) (
    w_pure v2) (
    w_C (f_Pa_readCount o v2) fun _ =>
    w_pure v2)
noncomputable def f_Pa_readRepeat (o : Nat) (G : Nat → Option Nat → Int32 → qW (Option Nat)) (a1 : Int32) : qW (Option Nat) :=
  w_new o 4 [.int 0, .null, .int 0, .int 0, .int 0, .int 0, .int 0, .int 0, .int 0, .null] fun p1 =>
  w_C (f_Rp_init o p1) fun _ =>
  w_C (f_Pa_peek o) fun x2 =>
  w_if (¬ x2 = 40) (
    w_C (f_Cs_open o) fun x3 =>
    w_d o p1 4 0 .int (.int x3) <|
    w_if (¬ x2 = 91) (
      w_DI o p1 4 0 fun x4 =>
      w_C (f_Pa_readCharacter o x4) fun _ =>
      k_Pa_readRepeat_64 o G (some p1)) (
      w_DI o p1 4 0 fun x5 =>
      w_C (f_Pa_readSet o x5) fun _ =>
      k_Pa_readRepeat_64 o G (some p1))) (
    w_C (G 2 (some p1) a1) fun _ =>
    k_Pa_readRepeat_64 o G (some p1))
set_option maxRecDepth 100000 in
set_option maxHeartbeats 4000000 in
theorem c_Pa_readRepeat_64 (D : Nat) (hD : 4 ≤ D) (o : Nat) (G : Nat → Option Nat → Int32 → qW (Option Nat)) (hG0 : ∀ (p : Option Nat) (x : Int32) (T T1 : qT) (v : Option Nat), G 0 p x T = some (v, T1) → q_ev q_Mt D 24 [.ref (o + 4), .int x] (layC o T) = some (.inl (some (va_rf v)), layC o T1)) (hG1 : ∀ (p : Option Nat) (x : Int32) (T T1 : qT) (v : Option Nat), G 1 p x T = some (v, T1) → q_ev q_Mt D 26 [.ref (o + 4), .int x] (layC o T) = some (.inl (some (va_rf v)), layC o T1)) (hG2 : ∀ (p : Option Nat) (x : Int32) (T T1 : qT) (v : Option Nat), G 2 p x T = some (v, T1) → q_ev q_Mt D 27 [.ref (o + 4), va_rf p, .int x] (layC o T) = some (.inl (none), layC o T1)) (v2 : (Option Nat)) (e1 : Option Value) (e3 : Option Value) (T T1 : qT) (v : (Option Nat)) (h : k_Pa_readRepeat_64 o G v2 T = some (v, T1)) : q_out (q_ev q_Mt D) q_mPa_readRepeat (64, [some (.ref (o + 4)), e1, some (va_rf v2), e3], [], layC o T) = some (.inl (some (va_rf v)), layC o T1) := by
  unfold k_Pa_readRepeat_64 at h
  refine Eq.trans (o_aload_n d_Pa_readRepeat_64 rfl) ?_
  refine s_get d_Pa_readRepeat_65 pF_Pa_21 (zC_Pa_error o) h (fun x1 h => ?_)
  refine Eq.trans (o_iconst (v := (-1)) d_Pa_readRepeat_68 (by decide)) ?_
  refine s_icmp_ne (t := 77) d_Pa_readRepeat_69 (by decide) h (fun h => ?_) (fun h => ?_)
  · refine Eq.trans (o_aload_nR d_Pa_readRepeat_77 rfl) ?_
    exact s_aret d_Pa_readRepeat_78 rfl h
  · refine Eq.trans (o_aload_n d_Pa_readRepeat_72 rfl) ?_
    refine Eq.trans (o_aload_nR d_Pa_readRepeat_73 rfl) ?_
    obtain ⟨u9, T2, h1, h⟩ := w_C_of h
    refine s_cV1v d_Pa_readRepeat_74 pM_Pa_89 (Nat.le_of_ble_eq_true rfl) (obC_4 o) (c_Pa_readCount D (by omega) o _ _ _ _ h1) ?_
    replace h1 := trivial; revert h; generalize T2 = T; intro h
    refine Eq.trans (o_aload_nR d_Pa_readRepeat_77 rfl) ?_
    exact s_aret d_Pa_readRepeat_78 rfl h
set_option maxRecDepth 100000 in
set_option maxHeartbeats 4000000 in
theorem c_Pa_readRepeat_0 (D : Nat) (hD : 4 ≤ D) (o : Nat) (G : Nat → Option Nat → Int32 → qW (Option Nat)) (hG0 : ∀ (p : Option Nat) (x : Int32) (T T1 : qT) (v : Option Nat), G 0 p x T = some (v, T1) → q_ev q_Mt D 24 [.ref (o + 4), .int x] (layC o T) = some (.inl (some (va_rf v)), layC o T1)) (hG1 : ∀ (p : Option Nat) (x : Int32) (T T1 : qT) (v : Option Nat), G 1 p x T = some (v, T1) → q_ev q_Mt D 26 [.ref (o + 4), .int x] (layC o T) = some (.inl (some (va_rf v)), layC o T1)) (hG2 : ∀ (p : Option Nat) (x : Int32) (T T1 : qT) (v : Option Nat), G 2 p x T = some (v, T1) → q_ev q_Mt D 27 [.ref (o + 4), va_rf p, .int x] (layC o T) = some (.inl (none), layC o T1)) (a1 : Int32)  (T T1 : qT) (v : (Option Nat)) (h : f_Pa_readRepeat o G a1 T = some (v, T1)) : q_out (q_ev q_Mt D) q_mPa_readRepeat (0, [some (.ref (o + 4)), some (.int a1), none, none], [], layC o T) = some (.inl (some (va_rf v)), layC o T1) := by
  unfold f_Pa_readRepeat at h
  refine s_new d_Pa_readRepeat_0 rfl (dyC o) (cnC o) h (fun p1 T h => ?_)
  refine Eq.trans (o_dup d_Pa_readRepeat_3 rfl) ?_
  obtain ⟨u9, T2, h1, h⟩ := w_C_of h
  refine s_cI0v d_Pa_readRepeat_4 pM_Pa_71 (Nat.le_of_ble_eq_true rfl) (c_Rp_init D (by omega) o _ _ _ _ h1) ?_
  replace h1 := trivial; revert h; generalize T2 = T; intro h
  refine Eq.trans (o_astore_n (lo' := [some (.ref (o + 4)), some (.int a1), some (.ref p1), none]) d_Pa_readRepeat_7 (Nat.le_of_ble_eq_true rfl) rfl) ?_
  refine Eq.trans (o_aload_n d_Pa_readRepeat_8 rfl) ?_
  obtain ⟨x2, T2, h1, h⟩ := w_C_of h
  refine s_cV0i d_Pa_readRepeat_9 pM_Pa_53 (Nat.le_of_ble_eq_true rfl) (obC_4 o) (c_Pa_peek D (by omega) o _ _ _ h1) ?_
  replace h1 := trivial; revert h; generalize T2 = T; intro h
  refine Eq.trans (o_istore_n (lo' := [some (.ref (o + 4)), some (.int a1), some (.ref p1), some (.int x2)]) d_Pa_readRepeat_12 (Nat.le_of_ble_eq_true rfl) rfl) ?_
  refine Eq.trans (o_iload_n d_Pa_readRepeat_13 rfl) ?_
  refine Eq.trans (o_bipush (v := 40) d_Pa_readRepeat_14 (by decide)) ?_
  refine s_icmp_ne (t := 28) d_Pa_readRepeat_16 (by decide) h (fun h => ?_) (fun h => ?_)
  · refine Eq.trans (o_aload_n d_Pa_readRepeat_28 rfl) ?_
    refine Eq.trans (o_aload_n d_Pa_readRepeat_29 rfl) ?_
    refine s_ref d_Pa_readRepeat_30 pF_Pa_28 (zC_Pa_sets o) ?_
    obtain ⟨x3, T2, h1, h⟩ := w_C_of h
    refine s_cV0i d_Pa_readRepeat_33 pM_Pa_76 (Nat.le_of_ble_eq_true rfl) (obC_2 o) (c_Cs_open D (by omega) o _ _ _ h1) ?_
    replace h1 := trivial; revert h; generalize T2 = T; intro h
    refine s_d d_Pa_readRepeat_36 pF_Pa_79 (dyC o) h (fun T h => ?_)
    refine Eq.trans (o_iload_n d_Pa_readRepeat_39 rfl) ?_
    refine Eq.trans (o_bipush (v := 91) d_Pa_readRepeat_40 (by decide)) ?_
    refine s_icmp_ne (t := 56) d_Pa_readRepeat_42 (by decide) h (fun h => ?_) (fun h => ?_)
    · refine Eq.trans (o_aload_n d_Pa_readRepeat_56 rfl) ?_
      refine Eq.trans (o_aload_n d_Pa_readRepeat_57 rfl) ?_
      refine s_DI d_Pa_readRepeat_58 pF_Pa_79 (dyC o) h (fun x4 h => ?_)
      obtain ⟨u9, T2, h1, h⟩ := w_C_of h
      refine s_cV1v d_Pa_readRepeat_61 pM_Pa_86 (Nat.le_of_ble_eq_true rfl) (obC_4 o) (c_Pa_readCharacter D (by omega) o _ _ _ _ h1) ?_
      replace h1 := trivial; revert h; generalize T2 = T; intro h
      exact c_Pa_readRepeat_64 D hD o G hG0 hG1 hG2 _ _ _ _ _ _ h
    · refine Eq.trans (o_aload_n d_Pa_readRepeat_45 rfl) ?_
      refine Eq.trans (o_aload_n d_Pa_readRepeat_46 rfl) ?_
      refine s_DI d_Pa_readRepeat_47 pF_Pa_79 (dyC o) h (fun x5 h => ?_)
      obtain ⟨u9, T2, h1, h⟩ := w_C_of h
      refine s_cV1v d_Pa_readRepeat_50 pM_Pa_82 (Nat.le_of_ble_eq_true rfl) (obC_4 o) (c_Pa_readSet D (by omega) o _ _ _ _ h1) ?_
      replace h1 := trivial; revert h; generalize T2 = T; intro h
      refine Eq.trans (o_goto (t := 64) d_Pa_readRepeat_53 (by decide)) ?_
      exact c_Pa_readRepeat_64 D hD o G hG0 hG1 hG2 _ _ _ _ _ _ h
  · refine Eq.trans (o_aload_n d_Pa_readRepeat_19 rfl) ?_
    refine Eq.trans (o_aload_n d_Pa_readRepeat_20 rfl) ?_
    refine Eq.trans (o_iload_n d_Pa_readRepeat_21 rfl) ?_
    obtain ⟨u9, T2, h1, h⟩ := w_C_of h
    refine s_cV2v d_Pa_readRepeat_22 pM_Pa_72 (Nat.le_of_ble_eq_true rfl) (obC_4 o) (hG2 _ _ _ _ _ h1) ?_
    replace h1 := trivial; revert h; generalize T2 = T; intro h
    refine Eq.trans (o_goto (t := 64) d_Pa_readRepeat_25 (by decide)) ?_
    exact c_Pa_readRepeat_64 D hD o G hG0 hG1 hG2 _ _ _ _ _ _ h
theorem c_Pa_readRepeat (D : Nat) (hD : 4 ≤ D) (o : Nat) (G : Nat → Option Nat → Int32 → qW (Option Nat)) (hG0 : ∀ (p : Option Nat) (x : Int32) (T T1 : qT) (v : Option Nat), G 0 p x T = some (v, T1) → q_ev q_Mt D 24 [.ref (o + 4), .int x] (layC o T) = some (.inl (some (va_rf v)), layC o T1)) (hG1 : ∀ (p : Option Nat) (x : Int32) (T T1 : qT) (v : Option Nat), G 1 p x T = some (v, T1) → q_ev q_Mt D 26 [.ref (o + 4), .int x] (layC o T) = some (.inl (some (va_rf v)), layC o T1)) (hG2 : ∀ (p : Option Nat) (x : Int32) (T T1 : qT) (v : Option Nat), G 2 p x T = some (v, T1) → q_ev q_Mt D 27 [.ref (o + 4), va_rf p, .int x] (layC o T) = some (.inl (none), layC o T1)) (a1 : Int32) (T T1 : qT) (v : (Option Nat)) (h : f_Pa_readRepeat o G a1 T = some (v, T1)) : q_ev q_Mt (D + 1) 26 [.ref (o + 4), .int a1] (layC o T) = some (.inl (some (va_rf v)), layC o T1) := by
  rw [o_ev (M := q_mPa_readRepeat) (lo := [some (.ref (o + 4)), some (.int a1), none, none]) rfl (Nat.le_of_ble_eq_true rfl) rfl]
  exact c_Pa_readRepeat_0 D (by omega) o G hG0 hG1 hG2 a1 T T1 v h
noncomputable def k_Pa_readGroup_83 (o : Nat) (G : Nat → Option Nat → Int32 → qW (Option Nat)) (v1 : (Option Nat)) (v2 : Int32) : qW Unit :=
  w_S 85 fun x1 =>
  w_if (x1 = ((-1))) (
    w_C (G 0 none ((v2 + 1))) fun u2 =>
    w_C (f_Pa_expect o 41) fun _ =>
    w_nn v1 fun p3 =>
    w_d o p3 4 1 (.object "PatternWalk$Row") (va_rf u2) <|
    w_nn u2 fun p4 =>
    w_is p4 o 5 <|
    w_C (f_Rw_sizeAsChoice o p4) fun x5 =>
    w_DI o p3 4 2 fun x6 =>
    w_if (x6 ≤ 0) (
      w_d o p3 4 3 .int (.int (x5 + 0)) <|
      w_pure ()) (
      w_d o p3 4 3 .int (.int (x5 + 2)) <|
      w_pure ())) (
    w_pure ())
noncomputable def f_Pa_readGroup (o : Nat) (G : Nat → Option Nat → Int32 → qW (Option Nat)) (a1 : (Option Nat)) (a2 : Int32) : qW Unit :=
  w_if (a2 < 8) (
    w_S 83 fun x1 =>
    w_s 83 ((x1 + 1)) <|
    w_C (f_Pa_peek o) fun x2 =>
    w_if (¬ x2 = 63) (
      w_S 84 fun x3 =>
      w_if (x3 < 6) (
        w_S 84 fun x4 =>
        w_s 84 ((x4 + 1)) <|
        w_S 84 fun x5 =>
        w_nn a1 fun p6 =>
        w_d o p6 4 2 .int (.int x5) <|
        k_Pa_readGroup_83 o G (some p6) a2) (
        w_C (f_Pa_fail o) fun _ =>
        k_Pa_readGroup_83 o G a1 a2)) (
      w_S 83 fun x7 =>
      w_s 83 ((x7 + 1)) <|
      w_C (f_Pa_expect o 58) fun _ =>
      k_Pa_readGroup_83 o G a1 a2)) (
    w_C (f_Pa_fail o) fun _ =>
    w_pure ())
set_option maxRecDepth 100000 in
set_option maxHeartbeats 4000000 in
theorem c_Pa_readGroup_83 (D : Nat) (hD : 4 ≤ D) (o : Nat) (G : Nat → Option Nat → Int32 → qW (Option Nat)) (hG0 : ∀ (p : Option Nat) (x : Int32) (T T1 : qT) (v : Option Nat), G 0 p x T = some (v, T1) → q_ev q_Mt D 24 [.ref (o + 4), .int x] (layC o T) = some (.inl (some (va_rf v)), layC o T1)) (hG1 : ∀ (p : Option Nat) (x : Int32) (T T1 : qT) (v : Option Nat), G 1 p x T = some (v, T1) → q_ev q_Mt D 26 [.ref (o + 4), .int x] (layC o T) = some (.inl (some (va_rf v)), layC o T1)) (hG2 : ∀ (p : Option Nat) (x : Int32) (T T1 : qT) (v : Option Nat), G 2 p x T = some (v, T1) → q_ev q_Mt D 27 [.ref (o + 4), va_rf p, .int x] (layC o T) = some (.inl (none), layC o T1)) (v1 : (Option Nat)) (v2 : Int32) (e3 : Option Value) (T T1 : qT) (v : Unit) (h : k_Pa_readGroup_83 o G v1 v2 T = some (v, T1)) : q_out (q_ev q_Mt D) q_mPa_readGroup (83, [some (.ref (o + 4)), some (va_rf v1), some (.int v2), e3], [], layC o T) = some (.inl (none), layC o T1) := by
  unfold k_Pa_readGroup_83 at h
  refine Eq.trans (o_aload_n d_Pa_readGroup_83 rfl) ?_
  refine s_get d_Pa_readGroup_84 pF_Pa_21 (zC_Pa_error o) h (fun x1 h => ?_)
  refine Eq.trans (o_iconst (v := (-1)) d_Pa_readGroup_87 (by decide)) ?_
  refine s_icmp_eq (t := 92) d_Pa_readGroup_88 (by decide) h (fun h => ?_) (fun h => ?_)
  · refine Eq.trans (o_aload_n d_Pa_readGroup_92 rfl) ?_
    refine Eq.trans (o_iload_n d_Pa_readGroup_93 rfl) ?_
    refine Eq.trans (o_iconst (v := 1) d_Pa_readGroup_94 (by decide)) ?_
    refine Eq.trans (o_iadd d_Pa_readGroup_95) ?_
    obtain ⟨u2, T2, h1, h⟩ := w_C_of h
    refine s_cV1r d_Pa_readGroup_96 pM_Pa_43 (Nat.le_of_ble_eq_true rfl) (obC_4 o) (hG0 _ _ _ _ _ h1) ?_
    replace h1 := trivial; revert h; generalize T2 = T; intro h
    refine Eq.trans (o_astore_nR (lo' := [some (.ref (o + 4)), some (va_rf v1), some (.int v2), some (va_rf u2)]) d_Pa_readGroup_99 (Nat.le_of_ble_eq_true rfl) rfl) ?_
    refine Eq.trans (o_aload_n d_Pa_readGroup_100 rfl) ?_
    refine Eq.trans (o_bipush (v := 41) d_Pa_readGroup_101 (by decide)) ?_
    obtain ⟨u9, T2, h1, h⟩ := w_C_of h
    refine s_cV1v d_Pa_readGroup_103 pM_Pa_92 (Nat.le_of_ble_eq_true rfl) (obC_4 o) (c_Pa_expect D (by omega) o _ _ _ _ h1) ?_
    replace h1 := trivial; revert h; generalize T2 = T; intro h
    refine Eq.trans (o_aload_nR d_Pa_readGroup_106 rfl) ?_
    refine Eq.trans (o_aload_nR d_Pa_readGroup_107 rfl) ?_
    obtain ⟨p3, e9, h2⟩ := w_nn_of h
    clear h; subst e9; have h := h2; clear h2
    refine s_d d_Pa_readGroup_108 pF_Pa_98 (dyC o) h (fun T h => ?_)
    refine Eq.trans (o_aload_n d_Pa_readGroup_111 rfl) ?_
    refine Eq.trans (o_aload_nR d_Pa_readGroup_112 rfl) ?_
    obtain ⟨p4, e9, h2⟩ := w_nn_of h
    clear h; subst e9; have h := h2; clear h2
    obtain ⟨⟨fs9, hb9⟩, h⟩ := w_is_of (dyC o) h
    obtain ⟨x5, T2, h1, h⟩ := w_C_of h
    refine Eq.trans (o_callV0 d_Pa_readGroup_113 pM_Pa_101 (Nat.le_of_ble_eq_true rfl) hb9 (c_Rw_sizeAsChoice D (by omega) o _ _ _ _ h1)) ?_
    replace h1 := trivial; revert h; generalize T2 = T; intro h
    refine Eq.trans (o_aload_n d_Pa_readGroup_116 rfl) ?_
    refine s_DI d_Pa_readGroup_117 pF_Pa_95 (dyC o) h (fun x6 h => ?_)
    refine s_if_le (t := 127) d_Pa_readGroup_120 (by decide) h (fun h => ?_) (fun h => ?_)
    · refine Eq.trans (o_iconst (v := 0) d_Pa_readGroup_127 (by decide)) ?_
      refine Eq.trans (o_iadd d_Pa_readGroup_128) ?_
      refine s_d d_Pa_readGroup_129 pF_Pa_104 (dyC o) h (fun T h => ?_)
      exact s_vret d_Pa_readGroup_132 rfl h
    · refine Eq.trans (o_iconst (v := 2) d_Pa_readGroup_123 (by decide)) ?_
      refine Eq.trans (o_goto (t := 128) d_Pa_readGroup_124 (by decide)) ?_
      refine Eq.trans (o_iadd d_Pa_readGroup_128) ?_
      refine s_d d_Pa_readGroup_129 pF_Pa_104 (dyC o) h (fun T h => ?_)
      exact s_vret d_Pa_readGroup_132 rfl h
  · exact s_vret d_Pa_readGroup_91 rfl h
set_option maxRecDepth 100000 in
set_option maxHeartbeats 4000000 in
theorem c_Pa_readGroup_0 (D : Nat) (hD : 4 ≤ D) (o : Nat) (G : Nat → Option Nat → Int32 → qW (Option Nat)) (hG0 : ∀ (p : Option Nat) (x : Int32) (T T1 : qT) (v : Option Nat), G 0 p x T = some (v, T1) → q_ev q_Mt D 24 [.ref (o + 4), .int x] (layC o T) = some (.inl (some (va_rf v)), layC o T1)) (hG1 : ∀ (p : Option Nat) (x : Int32) (T T1 : qT) (v : Option Nat), G 1 p x T = some (v, T1) → q_ev q_Mt D 26 [.ref (o + 4), .int x] (layC o T) = some (.inl (some (va_rf v)), layC o T1)) (hG2 : ∀ (p : Option Nat) (x : Int32) (T T1 : qT) (v : Option Nat), G 2 p x T = some (v, T1) → q_ev q_Mt D 27 [.ref (o + 4), va_rf p, .int x] (layC o T) = some (.inl (none), layC o T1)) (a1 : (Option Nat)) (a2 : Int32)  (T T1 : qT) (v : Unit) (h : f_Pa_readGroup o G a1 a2 T = some (v, T1)) : q_out (q_ev q_Mt D) q_mPa_readGroup (0, [some (.ref (o + 4)), some (va_rf a1), some (.int a2), none], [], layC o T) = some (.inl (none), layC o T1) := by
  unfold f_Pa_readGroup at h
  refine Eq.trans (o_iload_n d_Pa_readGroup_0 rfl) ?_
  refine Eq.trans (o_bipush (v := 8) d_Pa_readGroup_1 (by decide)) ?_
  refine s_icmp_lt (t := 11) d_Pa_readGroup_3 (by decide) h (fun h => ?_) (fun h => ?_)
  · refine Eq.trans (o_aload_n d_Pa_readGroup_11 rfl) ?_
    refine Eq.trans (o_dup d_Pa_readGroup_12 rfl) ?_
    refine s_get d_Pa_readGroup_13 pF_Pa_15 (zC_Pa_at o) h (fun x1 h => ?_)
    refine Eq.trans (o_iconst (v := 1) d_Pa_readGroup_16 (by decide)) ?_
    refine Eq.trans (o_iadd d_Pa_readGroup_17) ?_
    refine s_put d_Pa_readGroup_18 pF_Pa_15 (zC_Pa_at o) h (fun T h => ?_)
    refine Eq.trans (o_aload_n d_Pa_readGroup_21 rfl) ?_
    obtain ⟨x2, T2, h1, h⟩ := w_C_of h
    refine s_cV0i d_Pa_readGroup_22 pM_Pa_53 (Nat.le_of_ble_eq_true rfl) (obC_4 o) (c_Pa_peek D (by omega) o _ _ _ h1) ?_
    replace h1 := trivial; revert h; generalize T2 = T; intro h
    refine Eq.trans (o_bipush (v := 63) d_Pa_readGroup_25 (by decide)) ?_
    refine s_icmp_ne (t := 49) d_Pa_readGroup_27 (by decide) h (fun h => ?_) (fun h => ?_)
    · refine Eq.trans (o_aload_n d_Pa_readGroup_49 rfl) ?_
      refine s_get d_Pa_readGroup_50 pF_Pa_18 (zC_Pa_groups o) h (fun x3 h => ?_)
      refine Eq.trans (o_bipush (v := 6) d_Pa_readGroup_53 (by decide)) ?_
      refine s_icmp_lt (t := 65) d_Pa_readGroup_55 (by decide) h (fun h => ?_) (fun h => ?_)
      · refine Eq.trans (o_aload_n d_Pa_readGroup_65 rfl) ?_
        refine Eq.trans (o_dup d_Pa_readGroup_66 rfl) ?_
        refine s_get d_Pa_readGroup_67 pF_Pa_18 (zC_Pa_groups o) h (fun x4 h => ?_)
        refine Eq.trans (o_iconst (v := 1) d_Pa_readGroup_70 (by decide)) ?_
        refine Eq.trans (o_iadd d_Pa_readGroup_71) ?_
        refine s_put d_Pa_readGroup_72 pF_Pa_18 (zC_Pa_groups o) h (fun T h => ?_)
        refine Eq.trans (o_aload_nR d_Pa_readGroup_75 rfl) ?_
        refine Eq.trans (o_aload_n d_Pa_readGroup_76 rfl) ?_
        refine s_get d_Pa_readGroup_77 pF_Pa_18 (zC_Pa_groups o) h (fun x5 h => ?_)
        obtain ⟨p6, e9, h2⟩ := w_nn_of h
        clear h; subst e9; have h := h2; clear h2
        refine s_d d_Pa_readGroup_80 pF_Pa_95 (dyC o) h (fun T h => ?_)
        exact c_Pa_readGroup_83 D hD o G hG0 hG1 hG2 _ _ _ _ _ _ h
      · refine Eq.trans (o_aload_n d_Pa_readGroup_58 rfl) ?_
        obtain ⟨u9, T2, h1, h⟩ := w_C_of h
        refine s_cV0v d_Pa_readGroup_59 pM_Pa_47 (Nat.le_of_ble_eq_true rfl) (obC_4 o) (c_Pa_fail D (by omega) o _ _ _ h1) ?_
        replace h1 := trivial; revert h; generalize T2 = T; intro h
        refine Eq.trans (o_goto (t := 83) d_Pa_readGroup_62 (by decide)) ?_
        exact c_Pa_readGroup_83 D hD o G hG0 hG1 hG2 _ _ _ _ _ _ h
    · refine Eq.trans (o_aload_n d_Pa_readGroup_30 rfl) ?_
      refine Eq.trans (o_dup d_Pa_readGroup_31 rfl) ?_
      refine s_get d_Pa_readGroup_32 pF_Pa_15 (zC_Pa_at o) h (fun x7 h => ?_)
      refine Eq.trans (o_iconst (v := 1) d_Pa_readGroup_35 (by decide)) ?_
      refine Eq.trans (o_iadd d_Pa_readGroup_36) ?_
      refine s_put d_Pa_readGroup_37 pF_Pa_15 (zC_Pa_at o) h (fun T h => ?_)
      refine Eq.trans (o_aload_n d_Pa_readGroup_40 rfl) ?_
      refine Eq.trans (o_bipush (v := 58) d_Pa_readGroup_41 (by decide)) ?_
      obtain ⟨u9, T2, h1, h⟩ := w_C_of h
      refine s_cV1v d_Pa_readGroup_43 pM_Pa_92 (Nat.le_of_ble_eq_true rfl) (obC_4 o) (c_Pa_expect D (by omega) o _ _ _ _ h1) ?_
      replace h1 := trivial; revert h; generalize T2 = T; intro h
      refine Eq.trans (o_goto (t := 83) d_Pa_readGroup_46 (by decide)) ?_
      exact c_Pa_readGroup_83 D hD o G hG0 hG1 hG2 _ _ _ _ _ _ h
  · refine Eq.trans (o_aload_n d_Pa_readGroup_6 rfl) ?_
    obtain ⟨u9, T2, h1, h⟩ := w_C_of h
    refine s_cV0v d_Pa_readGroup_7 pM_Pa_47 (Nat.le_of_ble_eq_true rfl) (obC_4 o) (c_Pa_fail D (by omega) o _ _ _ h1) ?_
    replace h1 := trivial; revert h; generalize T2 = T; intro h
    exact s_vret d_Pa_readGroup_10 rfl h
theorem c_Pa_readGroup (D : Nat) (hD : 4 ≤ D) (o : Nat) (G : Nat → Option Nat → Int32 → qW (Option Nat)) (hG0 : ∀ (p : Option Nat) (x : Int32) (T T1 : qT) (v : Option Nat), G 0 p x T = some (v, T1) → q_ev q_Mt D 24 [.ref (o + 4), .int x] (layC o T) = some (.inl (some (va_rf v)), layC o T1)) (hG1 : ∀ (p : Option Nat) (x : Int32) (T T1 : qT) (v : Option Nat), G 1 p x T = some (v, T1) → q_ev q_Mt D 26 [.ref (o + 4), .int x] (layC o T) = some (.inl (some (va_rf v)), layC o T1)) (hG2 : ∀ (p : Option Nat) (x : Int32) (T T1 : qT) (v : Option Nat), G 2 p x T = some (v, T1) → q_ev q_Mt D 27 [.ref (o + 4), va_rf p, .int x] (layC o T) = some (.inl (none), layC o T1)) (a1 : (Option Nat)) (a2 : Int32) (T T1 : qT) (v : Unit) (h : f_Pa_readGroup o G a1 a2 T = some (v, T1)) : q_ev q_Mt (D + 1) 27 [.ref (o + 4), va_rf a1, .int a2] (layC o T) = some (.inl (none), layC o T1) := by
  rw [o_ev (M := q_mPa_readGroup) (lo := [some (.ref (o + 4)), some (va_rf a1), some (.int a2), none]) rfl (by cases a1 <;> exact Nat.le_of_ble_eq_true rfl) (by cases a1 <;> rfl)]
  exact c_Pa_readGroup_0 D (by omega) o G hG0 hG1 hG2 a1 a2 T T1 v h
noncomputable def g_rd (o : Nat) : Nat → Nat → Option Nat → Int32 → qW (Option Nat)
  | 0 => fun _ _ _ => w_no
  | d + 1 => fun t p x => match t with
    | 0 => f_Pa_readChoice o (g_rd o d) x
    | 1 => f_Pa_readRepeat o (g_rd o d) x
    | 2 => w_C (f_Pa_readGroup o (g_rd o d) p x) fun _ => w_pure none
    | _ => w_no
theorem c_g_rd (o : Nat) : ∀ d D : Nat, d + 4 ≤ D → (∀ (p : Option Nat) (x : Int32) (T T1 : qT) (v : Option Nat), g_rd o d 0 p x T = some (v, T1) → q_ev q_Mt D 24 [.ref (o + 4), .int x] (layC o T) = some (.inl (some (va_rf v)), layC o T1)) ∧ (∀ (p : Option Nat) (x : Int32) (T T1 : qT) (v : Option Nat), g_rd o d 1 p x T = some (v, T1) → q_ev q_Mt D 26 [.ref (o + 4), .int x] (layC o T) = some (.inl (some (va_rf v)), layC o T1)) ∧ (∀ (p : Option Nat) (x : Int32) (T T1 : qT) (v : Option Nat), g_rd o d 2 p x T = some (v, T1) → q_ev q_Mt D 27 [.ref (o + 4), va_rf p, .int x] (layC o T) = some (.inl (none), layC o T1)) := by
  intro d
  induction d with
  | zero => intro D hD; exact ⟨fun p x T T1 v h => (by cases h), fun p x T T1 v h => (by cases h), fun p x T T1 v h => (by cases h)⟩
  | succ d ih =>
    intro D hD
    obtain ⟨D, rfl⟩ : ∃ D', D = D' + 1 := ⟨D - 1, by omega⟩
    obtain ⟨i0, i1, i2⟩ := ih D (by omega)
    refine ⟨fun p x T T1 v h => ?_, fun p x T T1 v h => ?_, fun p x T T1 v h => ?_⟩
    · exact c_Pa_readChoice D (by omega) o (g_rd o d) i0 i1 i2 x T T1 v h
    · exact c_Pa_readRepeat D (by omega) o (g_rd o d) i0 i1 i2 x T T1 v h
    · obtain ⟨u9, T2, h1, h⟩ := w_C_of h
      cases h
      exact c_Pa_readGroup D (by omega) o (g_rd o d) i0 i1 i2 p x T _ u9 h1
noncomputable def k_Ar_fill3_6 (o : Nat) (v1 : Int64) (v3 : Int32) (v4 : Int32) : qW (qJ ⊕ Unit) :=
  w_if (v4 ≤ v3) (
    w_rt ()) (
    w_l 192 v3 v1 <|
    w_go 6 [.long v1, .int (v3 + 1), .int v4] [])
noncomputable def k_Ar_fill3_0 (o : Nat) (a2 : Int64) : qW (qJ ⊕ Unit) :=
  w_go 6 [.long a2, .int 0, .int 192] []
noncomputable def b_Ar_fill3 (o : Nat) : qJ → qW (qJ ⊕ Unit) := fun x => match x with
  | (0, [.long a2], []) => k_Ar_fill3_0 o a2
  | (6, [.long v1, .int v3, .int v4], []) => k_Ar_fill3_6 o v1 v3 v4
  | _ => w_no
noncomputable def f_Ar_fill3 (o : Nat) (a2 : Int64) : qW Unit := w_fix (b_Ar_fill3 o) (0, [.long a2], [])
set_option maxRecDepth 100000 in
set_option maxHeartbeats 4000000 in
theorem c_Ar_fill3_6 (D : Nat) (hD : 0 ≤ D) (o : Nat) (n : Nat) (ih_6 : ∀ (v1 : Int64) (v3 : Int32) (v4 : Int32) (e2 : Option Value) (T T2 : qT) (v : Unit), w_run (b_Ar_fill3 o) n (6, [.long v1, .int v3, .int v4], []) T = some (v, T2) → q_out (q_ev q_Mt D) q_mAr_fill2 (6, [some (.ref (o + 3)), some (.long v1), e2, some (.int v3), some (.int v4)], [], layC o T) = some (.inl (none), layC o T2)) (v1 : Int64) (v3 : Int32) (v4 : Int32) (e2 : Option Value) (T T1 T2 : qT) (rr : qJ ⊕ Unit) (v : Unit) (h : k_Ar_fill3_6 o v1 v3 v4 T = some (rr, T1)) (hE : w_end (b_Ar_fill3 o) n rr T1 = some (v, T2)) : q_out (q_ev q_Mt D) q_mAr_fill2 (6, [some (.ref (o + 3)), some (.long v1), e2, some (.int v3), some (.int v4)], [], layC o T) = some (.inl (none), layC o T2) := by
  unfold k_Ar_fill3_6 at h
  refine Eq.trans (o_iload_n d_Ar_fill2_6 rfl) ?_
  refine Eq.trans (o_iload d_Ar_fill2_7 rfl) ?_
  refine s_icmp_ge (t := 22) d_Ar_fill2_9 (by decide) h (fun h => ?_) (fun h => ?_)
  · exact s_vretJ d_Ar_fill2_22 rfl h hE
  · refine Eq.trans (o_aload_n d_Ar_fill2_12 rfl) ?_
    refine Eq.trans (o_iload_n d_Ar_fill2_13 rfl) ?_
    refine Eq.trans (o_lload_n d_Ar_fill2_14 rfl) ?_
    refine s_last d_Ar_fill2_15 (rC_3 o) h (fun T h => ?_)
    refine Eq.trans (o_iinc (v := (v3 + 1)) (lo' := [some (.ref (o + 3)), some (.long v1), (q_dk e2), some (.int (v3 + 1)), some (.int v4)]) d_Ar_fill2_16 rfl (by rw [show Int32.ofInt 1 = 1 from by decide]) (Nat.le_of_ble_eq_true rfl) ((q_st1_dk (j := 2) (Nat.le_of_ble_eq_true rfl)).trans rfl)) ?_
    refine Eq.trans (o_goto (t := 6) d_Ar_fill2_19 (by decide)) ?_
    exact ih_6 _ _ _ _ _ _ _ (s_jump h hE)
set_option maxRecDepth 100000 in
set_option maxHeartbeats 4000000 in
theorem c_Ar_fill3_0 (D : Nat) (hD : 0 ≤ D) (o : Nat) (n : Nat) (ih_6 : ∀ (v1 : Int64) (v3 : Int32) (v4 : Int32) (e2 : Option Value) (T T2 : qT) (v : Unit), w_run (b_Ar_fill3 o) n (6, [.long v1, .int v3, .int v4], []) T = some (v, T2) → q_out (q_ev q_Mt D) q_mAr_fill2 (6, [some (.ref (o + 3)), some (.long v1), e2, some (.int v3), some (.int v4)], [], layC o T) = some (.inl (none), layC o T2)) (a2 : Int64)  (T T1 T2 : qT) (rr : qJ ⊕ Unit) (v : Unit) (h : k_Ar_fill3_0 o a2 T = some (rr, T1)) (hE : w_end (b_Ar_fill3 o) n rr T1 = some (v, T2)) : q_out (q_ev q_Mt D) q_mAr_fill2 (0, [some (.ref (o + 3)), some (.long a2), none, none, none], [], layC o T) = some (.inl (none), layC o T2) := by
  unfold k_Ar_fill3_0 at h
  refine Eq.trans (o_iconst (v := 0) d_Ar_fill2_0 (by decide)) ?_
  refine Eq.trans (o_istore_n (lo' := [some (.ref (o + 3)), some (.long a2), none, some (.int 0), none]) d_Ar_fill2_1 (Nat.le_of_ble_eq_true rfl) rfl) ?_
  refine Eq.trans (o_aload_n d_Ar_fill2_2 rfl) ?_
  refine Eq.trans (o_alen (v := 192) d_Ar_fill2_3 ((rC_3 o _).1) (by decide) (by decide)) ?_
  refine Eq.trans (o_istore (lo' := [some (.ref (o + 3)), some (.long a2), none, some (.int 0), some (.int 192)]) d_Ar_fill2_4 (Nat.le_of_ble_eq_true rfl) rfl) ?_
  exact ih_6 _ _ _ _ _ _ _ (s_jump h hE)
theorem c_Ar_fill3_lp (D : Nat) (hD : 0 ≤ D) (o : Nat) : ∀ n : Nat, (∀ (v1 : Int64) (v3 : Int32) (v4 : Int32) (e2 : Option Value) (T T2 : qT) (v : Unit), w_run (b_Ar_fill3 o) n (6, [.long v1, .int v3, .int v4], []) T = some (v, T2) → q_out (q_ev q_Mt D) q_mAr_fill2 (6, [some (.ref (o + 3)), some (.long v1), e2, some (.int v3), some (.int v4)], [], layC o T) = some (.inl (none), layC o T2)) := by
  intro n
  induction n with
  | zero => exact (fun v1 v3 v4 e2 T T2 v h => by cases h)
  | succ n ih =>
    have ih_6 := ih
    · intro v1 v3 v4 e2 T T2 v h
      obtain ⟨rr, T1, hb, hE⟩ := w_run_succ h
      exact c_Ar_fill3_6 D hD o n ih_6 v1 v3 v4 e2 T T1 T2 rr v hb hE
theorem c_Ar_fill3 (D : Nat) (hD : 1 ≤ D) (o : Nat) (a2 : Int64) (T T2 : qT) (v : Unit) (h : f_Ar_fill3 o a2 T = some (v, T2)) : q_ev q_Mt D 124 [.ref (o + 3), .long a2] (layC o T) = some (.inl (none), layC o T2) := by
  obtain ⟨D, rfl⟩ : ∃ D', D = D' + 1 := ⟨D - 1, by omega⟩
  obtain ⟨n, hn⟩ := w_fix_iff.mp h
  cases n with
  | zero => cases hn
  | succ n =>
    obtain ⟨rr, T1, hb, hE⟩ := w_run_succ hn
    have hl := c_Ar_fill3_lp D (by omega) o n
    have ih_6 := hl
    rw [o_ev (M := q_mAr_fill2) (lo := [some (.ref (o + 3)), some (.long a2), none, none, none]) rfl (Nat.le_of_ble_eq_true rfl) rfl]
    exact c_Ar_fill3_0 D (by omega) o n ih_6 a2 T T1 T2 rr v hb hE
