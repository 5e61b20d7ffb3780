noncomputable def k_Wy_add_65 (o : Nat) (v0 : Nat) : qW (qJ ⊕ Unit) :=
  w_f2 v0 <|
  w_S (202 + 60 * v0) fun x2 =>
  w_f2 v0 <|
  w_s (202 + 60 * v0) ((x2 + 1)) <|
  w_rt ()
noncomputable def k_Wy_add_30 (o : Nat) (v0 : Nat) (v3 : Int32) : qW (qJ ⊕ Unit) :=
  w_if (14 ≤ v3) (
    k_Wy_add_65 o v0) (
    w_if (14 ≤ v3) (
      k_Wy_add_65 o v0) (
      w_f2 v0 <|
      w_f2 v0 <|
      w_S (202 + 60 * v0) fun x3 =>
      w_A 19 14 v3 fun x4 =>
      w_a (12 + 3 * v0) 2240 (((x3 * 14) + v3)) x4 <|
      w_go 30 [.int (v3 + 1)] [(some v0)]))
noncomputable def k_Wy_add_0 (o : Nat) (i0 : Nat) (a1 : Int32) : qW (qJ ⊕ Unit) :=
  w_f2 i0 <|
  w_S (202 + 60 * i0) fun x2 =>
  w_if (x2 < 0) (
    w_rt ()) (
    w_f2 i0 <|
    w_S (202 + 60 * i0) fun x4 =>
    w_if (x4 < 160) (
      w_f2 i0 <|
      w_f2 i0 <|
      w_S (202 + 60 * i0) fun x7 =>
      w_a (11 + 3 * i0) 160 x7 a1 <|
      w_go 30 [.int 0] [(some i0)]) (
      w_rt ()))
noncomputable def b_Wy_add (o : Nat) : qJ → qW (qJ ⊕ Unit) := fun x => match x with
  | (0, [.int a1], [some i0]) => k_Wy_add_0 o i0 a1
  | (30, [.int v3], [some v0]) => k_Wy_add_30 o v0 v3
  | _ => w_no
noncomputable def f_Wy_add (o : Nat) (i0 : Nat) (a1 : Int32) : qW Unit := w_fix (b_Wy_add o) (0, [.int a1], [some i0])
set_option maxRecDepth 100000 in
set_option maxHeartbeats 4000000 in
theorem c_Wy_add_65 (D : Nat) (hD : 0 ≤ D) (o : Nat) (n : Nat) (ih_30 : ∀ (v0 : Nat) (v3 : Int32) (e1 : Option Value) (T T2 : qT) (v : Unit), w_run (b_Wy_add o) n (30, [.int v3], [some v0]) T = some (v, T2) → q_out (q_ev q_Mt D) q_mWy_add (30, [some (.ref (o + 10 + 3 * v0)), e1, some (.ref (o + 19)), some (.int v3)], [], layC o T) = some (.inl (none), layC o T2)) (v0 : Nat) (e1 : Option Value) (e2 : Option Value) (e3 : Option Value) (T T1 T2 : qT) (rr : qJ ⊕ Unit) (v : Unit) (h : k_Wy_add_65 o v0 T = some (rr, T1)) (hE : w_end (b_Wy_add o) n rr T1 = some (v, T2)) : q_out (q_ev q_Mt D) q_mWy_add (65, [some (.ref (o + 10 + 3 * v0)), e1, e2, e3], [], layC o T) = some (.inl (none), layC o T2) := by
  unfold k_Wy_add_65 at h
  refine Eq.trans (o_aload_n d_Wy_add_65 rfl) ?_
  refine Eq.trans (o_dup d_Wy_add_66 rfl) ?_
  obtain ⟨f1, h⟩ := w_f2_of h
  refine s_get d_Wy_add_67 pF_Wy_18 (fW_count o _ f1) h (fun x2 h => ?_)
  refine Eq.trans (o_iconst (v := 1) d_Wy_add_70 (by decide)) ?_
  refine Eq.trans (o_iadd d_Wy_add_71) ?_
  obtain ⟨f3, h⟩ := w_f2_of h
  refine s_put d_Wy_add_72 pF_Wy_18 (fW_count o _ f3) h (fun T h => ?_)
  exact s_vretJ d_Wy_add_75 rfl h hE
set_option maxRecDepth 100000 in
set_option maxHeartbeats 4000000 in
theorem c_Wy_add_30 (D : Nat) (hD : 0 ≤ D) (o : Nat) (n : Nat) (ih_30 : ∀ (v0 : Nat) (v3 : Int32) (e1 : Option Value) (T T2 : qT) (v : Unit), w_run (b_Wy_add o) n (30, [.int v3], [some v0]) T = some (v, T2) → q_out (q_ev q_Mt D) q_mWy_add (30, [some (.ref (o + 10 + 3 * v0)), e1, some (.ref (o + 19)), some (.int v3)], [], layC o T) = some (.inl (none), layC o T2)) (v0 : Nat) (v3 : Int32) (e1 : Option Value) (T T1 T2 : qT) (rr : qJ ⊕ Unit) (v : Unit) (h : k_Wy_add_30 o v0 v3 T = some (rr, T1)) (hE : w_end (b_Wy_add o) n rr T1 = some (v, T2)) : q_out (q_ev q_Mt D) q_mWy_add (30, [some (.ref (o + 10 + 3 * v0)), e1, some (.ref (o + 19)), some (.int v3)], [], layC o T) = some (.inl (none), layC o T2) := by
  unfold k_Wy_add_30 at h
  refine Eq.trans (o_iload_n d_Wy_add_30 rfl) ?_
  refine Eq.trans (o_bipush (v := 14) d_Wy_add_31 (by decide)) ?_
  refine s_icmp_ge (t := 65) d_Wy_add_33 (by decide) h (fun h => ?_) (fun h => ?_)
  · exact c_Wy_add_65 D hD o n ih_30 _ _ _ _ _ _ _ _ _ h hE
  · refine Eq.trans (o_iload_n d_Wy_add_36 rfl) ?_
    refine Eq.trans (o_aload_n d_Wy_add_37 rfl) ?_
    refine Eq.trans (o_alen (v := 14) d_Wy_add_38 ((rC_19 o _).1) (by decide) (by decide)) ?_
    refine s_icmp_ge (t := 65) d_Wy_add_39 (by decide) h (fun h => ?_) (fun h => ?_)
    · exact c_Wy_add_65 D hD o n ih_30 _ _ _ _ _ _ _ _ _ h hE
    · refine Eq.trans (o_aload_n d_Wy_add_42 rfl) ?_
      obtain ⟨f1, h⟩ := w_f2_of h
      refine s_ref d_Wy_add_43 pF_Wy_15 (fW_marks o _ f1) ?_
      refine Eq.trans (o_aload_n d_Wy_add_46 rfl) ?_
      obtain ⟨f2, h⟩ := w_f2_of h
      refine s_get d_Wy_add_47 pF_Wy_18 (fW_count o _ f2) h (fun x3 h => ?_)
      refine Eq.trans (o_bipush (v := 14) d_Wy_add_50 (by decide)) ?_
      refine Eq.trans (o_imul d_Wy_add_52) ?_
      refine Eq.trans (o_iload_n d_Wy_add_53 rfl) ?_
      refine Eq.trans (o_iadd d_Wy_add_54) ?_
      refine Eq.trans (o_aload_n d_Wy_add_55 rfl) ?_
      refine Eq.trans (o_iload_n d_Wy_add_56 rfl) ?_
      refine s_iald d_Wy_add_57 (rC_19 o) h (fun x4 h => ?_)
      refine s_iast d_Wy_add_58 (fW_marksA o _ f2) h (fun T h => ?_)
      refine Eq.trans (o_iinc (v := (v3 + 1)) (lo' := [some (.ref (o + 10 + 3 * v0)), e1, some (.ref (o + 19)), some (.int (v3 + 1))]) d_Wy_add_59 rfl (by rw [show Int32.ofInt 1 = 1 from by decide]) (Nat.le_of_ble_eq_true rfl) rfl) ?_
      refine Eq.trans (o_goto (t := 30) d_Wy_add_62 (by decide)) ?_
      exact ih_30 _ _ _ _ _ _ (s_jump h hE)
set_option maxRecDepth 100000 in
set_option maxHeartbeats 4000000 in
theorem c_Wy_add_0 (D : Nat) (hD : 0 ≤ D) (o : Nat) (n : Nat) (ih_30 : ∀ (v0 : Nat) (v3 : Int32) (e1 : Option Value) (T T2 : qT) (v : Unit), w_run (b_Wy_add o) n (30, [.int v3], [some v0]) T = some (v, T2) → q_out (q_ev q_Mt D) q_mWy_add (30, [some (.ref (o + 10 + 3 * v0)), e1, some (.ref (o + 19)), some (.int v3)], [], layC o T) = some (.inl (none), layC o T2)) (i0 : Nat) (a1 : Int32)  (T T1 T2 : qT) (rr : qJ ⊕ Unit) (v : Unit) (h : k_Wy_add_0 o i0 a1 T = some (rr, T1)) (hE : w_end (b_Wy_add o) n rr T1 = some (v, T2)) : q_out (q_ev q_Mt D) q_mWy_add (0, [some (.ref (o + 10 + 3 * i0)), some (.int a1), some (.ref (o + 19)), none], [], layC o T) = some (.inl (none), layC o T2) := by
  unfold k_Wy_add_0 at h
  refine Eq.trans (o_aload_n d_Wy_add_0 rfl) ?_
  obtain ⟨f1, h⟩ := w_f2_of h
  refine s_get d_Wy_add_1 pF_Wy_18 (fW_count o _ f1) h (fun x2 h => ?_)
  refine s_if_lt (t := 17) d_Wy_add_4 (by decide) h (fun h => ?_) (fun h => ?_)
  · exact s_vretJ d_Wy_add_17 rfl h hE
  · refine Eq.trans (o_aload_n d_Wy_add_7 rfl) ?_
    obtain ⟨f3, h⟩ := w_f2_of h
    refine s_get d_Wy_add_8 pF_Wy_18 (fW_count o _ f3) h (fun x4 h => ?_)
    refine Eq.trans (o_sipush (v := 160) d_Wy_add_11 (by decide)) ?_
    refine s_icmp_lt (t := 18) d_Wy_add_14 (by decide) h (fun h => ?_) (fun h => ?_)
    · refine Eq.trans (o_aload_n d_Wy_add_18 rfl) ?_
      obtain ⟨f5, h⟩ := w_f2_of h
      refine s_ref d_Wy_add_19 pF_Wy_9 (fW_takes o _ f5) ?_
      refine Eq.trans (o_aload_n d_Wy_add_22 rfl) ?_
      obtain ⟨f6, h⟩ := w_f2_of h
      refine s_get d_Wy_add_23 pF_Wy_18 (fW_count o _ f6) h (fun x7 h => ?_)
      refine Eq.trans (o_iload_n d_Wy_add_26 rfl) ?_
      refine s_iast d_Wy_add_27 (fW_takesA o _ f6) h (fun T h => ?_)
      refine Eq.trans (o_iconst (v := 0) d_Wy_add_28 (by decide)) ?_
      refine Eq.trans (o_istore_n (lo' := [some (.ref (o + 10 + 3 * i0)), some (.int a1), some (.ref (o + 19)), some (.int 0)]) d_Wy_add_29 (Nat.le_of_ble_eq_true rfl) rfl) ?_
      exact ih_30 _ _ _ _ _ _ (s_jump h hE)
    · exact s_vretJ d_Wy_add_17 rfl h hE
theorem c_Wy_add_lp (D : Nat) (hD : 0 ≤ D) (o : Nat) : ∀ n : Nat, (∀ (v0 : Nat) (v3 : Int32) (e1 : Option Value) (T T2 : qT) (v : Unit), w_run (b_Wy_add o) n (30, [.int v3], [some v0]) T = some (v, T2) → q_out (q_ev q_Mt D) q_mWy_add (30, [some (.ref (o + 10 + 3 * v0)), e1, some (.ref (o + 19)), some (.int v3)], [], layC o T) = some (.inl (none), layC o T2)) := by
  intro n
  induction n with
  | zero => exact (fun v0 v3 e1 T T2 v h => by cases h)
  | succ n ih =>
    have ih_30 := ih
    · intro v0 v3 e1 T T2 v h
      obtain ⟨rr, T1, hb, hE⟩ := w_run_succ h
      exact c_Wy_add_30 D hD o n ih_30 v0 v3 e1 T T1 T2 rr v hb hE
theorem c_Wy_add (D : Nat) (hD : 1 ≤ D) (o : Nat) (i0 : Nat) (a1 : Int32) (T T2 : qT) (v : Unit) (h : f_Wy_add o i0 a1 T = some (v, T2)) : q_ev q_Mt D 72 [.ref (o + 10 + 3 * i0), .int a1, .ref (o + 19)] (layC o T) = some (.inl (none), layC o T2) := by
  obtain ⟨D, rfl⟩ : ∃ D', D = D' + 1 := ⟨D - 1, by omega⟩
  obtain ⟨n, hn⟩ := w_fix_iff.mp h
  cases n with
  | zero => cases hn
  | succ n =>
    obtain ⟨rr, T1, hb, hE⟩ := w_run_succ hn
    have hl := c_Wy_add_lp D (by omega) o n
    have ih_30 := hl
    rw [o_ev (M := q_mWy_add) (lo := [some (.ref (o + 10 + 3 * i0)), some (.int a1), some (.ref (o + 19)), none]) rfl (Nat.le_of_ble_eq_true rfl) rfl]
    exact c_Wy_add_0 D (by omega) o n ih_30 i0 a1 T T1 T2 rr v hb hE
noncomputable def f_Wk_visit (o : Nat) (a1 : Int32) : qW Unit :=
  w_C (f_Pr_has o a1) fun x1 =>
  w_if (x1 = 0) (
    w_pure ()) (
    w_if (160 ≤ a1) (
      w_pure ()) (
      w_A 16 160 a1 fun x2 =>
      w_S 194 fun x3 =>
      w_if (¬ x2 = x3) (
        w_S 194 fun x4 =>
        w_a 16 160 a1 x4 <|
        w_C (f_Pr_kindOf o a1) fun x5 =>
        w_if (x5 = 0) (
          w_N 0 fun i6 =>
          w_f2 i6 <|
          w_C (f_Wy_add o i6 a1) fun _ =>
          w_pure ()) (
          w_if (x5 = 1) (
            w_C (f_Pr_yOf o a1) fun x8 =>
            w_C (f_Wk_push o x8 0) fun _ =>
            w_C (f_Pr_xOf o a1) fun x9 =>
            w_C (f_Wk_push o x9 0) fun _ =>
            w_pure ()) (
            w_if (x5 = 2) (
              w_C (f_Pr_xOf o a1) fun x10 =>
              w_C (f_Wk_push o x10 0) fun _ =>
              w_pure ()) (
              w_if (x5 = 3) (
                w_C (f_Pr_xOf o a1) fun x11 =>
                w_C (f_Wk_passMark o x11) fun _ =>
                w_C (f_Wk_push o ((a1 + 1)) 0) fun _ =>
                w_pure ()) (
                w_C (f_Wk_keepMatch o) fun _ =>
                w_pure ()))))) (
        w_pure ())))
set_option maxRecDepth 100000 in
set_option maxHeartbeats 4000000 in
theorem c_Wk_visit_0 (D : Nat) (hD : 2 ≤ D) (o : Nat) (a1 : Int32)  (T T1 : qT) (v : Unit) (h : f_Wk_visit o a1 T = some (v, T1)) : q_out (q_ev q_Mt D) q_mWk_visit (0, [some (.ref (o + 9)), some (.int a1)], [], layC o T) = some (.inl (none), layC o T1) := by
  unfold f_Wk_visit at h
  refine Eq.trans (o_aload_n d_Wk_visit_0 rfl) ?_
  refine s_ref d_Wk_visit_1 pF_Wk_57 (zC_Wk_program o) ?_
  refine Eq.trans (o_iload_n d_Wk_visit_4 rfl) ?_
  obtain ⟨x1, T2, h1, h⟩ := w_C_of h
  refine s_cV1i d_Wk_visit_5 pM_Wk_110 (Nat.le_of_ble_eq_true rfl) (obC_5 o) (c_Pr_has D (by omega) o _ _ _ _ h1) ?_
  replace h1 := trivial; revert h; generalize T2 = T; intro h
  refine s_if_eq (t := 31) d_Wk_visit_8 (by decide) h (fun h => ?_) (fun h => ?_)
  · exact s_vret d_Wk_visit_31 rfl h
  · refine Eq.trans (o_iload_n d_Wk_visit_11 rfl) ?_
    refine Eq.trans (o_sipush (v := 160) d_Wk_visit_12 (by decide)) ?_
    refine s_icmp_ge (t := 31) d_Wk_visit_15 (by decide) h (fun h => ?_) (fun h => ?_)
    · exact s_vret d_Wk_visit_31 rfl h
    · refine Eq.trans (o_aload_n d_Wk_visit_18 rfl) ?_
      refine s_ref d_Wk_visit_19 pF_Wk_21 (zC_Wk_cameAt o) ?_
      refine Eq.trans (o_iload_n d_Wk_visit_22 rfl) ?_
      refine s_iald d_Wk_visit_23 (rC_16 o) h (fun x2 h => ?_)
      refine Eq.trans (o_aload_n d_Wk_visit_24 rfl) ?_
      refine s_get d_Wk_visit_25 pF_Wk_54 (zC_Wk_place o) h (fun x3 h => ?_)
      refine s_icmp_ne (t := 32) d_Wk_visit_28 (by decide) h (fun h => ?_) (fun h => ?_)
      · refine Eq.trans (o_aload_n d_Wk_visit_32 rfl) ?_
        refine s_ref d_Wk_visit_33 pF_Wk_21 (zC_Wk_cameAt o) ?_
        refine Eq.trans (o_iload_n d_Wk_visit_36 rfl) ?_
        refine Eq.trans (o_aload_n d_Wk_visit_37 rfl) ?_
        refine s_get d_Wk_visit_38 pF_Wk_54 (zC_Wk_place o) h (fun x4 h => ?_)
        refine s_iast d_Wk_visit_41 (rC_16 o) h (fun T h => ?_)
        refine Eq.trans (o_aload_n d_Wk_visit_42 rfl) ?_
        refine s_ref d_Wk_visit_43 pF_Wk_57 (zC_Wk_program o) ?_
        refine Eq.trans (o_iload_n d_Wk_visit_46 rfl) ?_
        obtain ⟨x5, T2, h1, h⟩ := w_C_of h
        refine s_cV1i d_Wk_visit_47 pM_Wk_113 (Nat.le_of_ble_eq_true rfl) (obC_5 o) (c_Pr_kindOf D (by omega) o _ _ _ _ h1) ?_
        replace h1 := trivial; revert h; generalize T2 = T; intro h
        by_cases g0 : x5 = 0
        · have h := w_if_t h g0
          refine Eq.trans (o_table (off := 30) (t := 80) d_Wk_visit_50 (by rw [g0]; decide) (by decide)) ?_
          refine Eq.trans (o_aload_n d_Wk_visit_80 rfl) ?_
          refine s_getN d_Wk_visit_81 pF_Wk_12 (faC_now o) h (fun i6 h => ?_)
          refine Eq.trans (o_iload_n d_Wk_visit_84 rfl) ?_
          refine Eq.trans (o_aload_n d_Wk_visit_85 rfl) ?_
          refine s_ref d_Wk_visit_86 pF_Wk_35 (zC_Wk_marks o) ?_
          obtain ⟨f7, h⟩ := w_f2_of h
          obtain ⟨u9, T2, h1, h⟩ := w_C_of h
          refine s_cV2v d_Wk_visit_89 pM_Wk_116 (Nat.le_of_ble_eq_true rfl) (fW_obj o _ f7) (c_Wy_add D (by omega) o _ _ _ _ _ h1) ?_
          replace h1 := trivial; revert h; generalize T2 = T; intro h
          refine Eq.trans (o_goto (t := 167) d_Wk_visit_92 (by decide)) ?_
          exact s_vret d_Wk_visit_167 rfl h
        · have h := w_if_f h g0
          by_cases g1 : x5 = 1
          · have h := w_if_t h g1
            refine Eq.trans (o_table (off := 45) (t := 95) d_Wk_visit_50 (by rw [g1]; decide) (by decide)) ?_
            refine Eq.trans (o_aload_n d_Wk_visit_95 rfl) ?_
            refine Eq.trans (o_aload_n d_Wk_visit_96 rfl) ?_
            refine s_ref d_Wk_visit_97 pF_Wk_57 (zC_Wk_program o) ?_
            refine Eq.trans (o_iload_n d_Wk_visit_100 rfl) ?_
            obtain ⟨x8, T2, h1, h⟩ := w_C_of h
            refine s_cV1i d_Wk_visit_101 pM_Wk_119 (Nat.le_of_ble_eq_true rfl) (obC_5 o) (c_Pr_yOf D (by omega) o _ _ _ _ h1) ?_
            replace h1 := trivial; revert h; generalize T2 = T; intro h
            refine Eq.trans (o_iconst (v := 0) d_Wk_visit_104 (by decide)) ?_
            obtain ⟨u9, T2, h1, h⟩ := w_C_of h
            refine s_cV2v d_Wk_visit_105 pM_Wk_100 (Nat.le_of_ble_eq_true rfl) (obC_9 o) (c_Wk_push D (by omega) o _ _ _ _ _ h1) ?_
            replace h1 := trivial; revert h; generalize T2 = T; intro h
            refine Eq.trans (o_aload_n d_Wk_visit_108 rfl) ?_
            refine Eq.trans (o_aload_n d_Wk_visit_109 rfl) ?_
            refine s_ref d_Wk_visit_110 pF_Wk_57 (zC_Wk_program o) ?_
            refine Eq.trans (o_iload_n d_Wk_visit_113 rfl) ?_
            obtain ⟨x9, T2, h1, h⟩ := w_C_of h
            refine s_cV1i d_Wk_visit_114 pM_Wk_81 (Nat.le_of_ble_eq_true rfl) (obC_5 o) (c_Pr_xOf D (by omega) o _ _ _ _ h1) ?_
            replace h1 := trivial; revert h; generalize T2 = T; intro h
            refine Eq.trans (o_iconst (v := 0) d_Wk_visit_117 (by decide)) ?_
            obtain ⟨u9, T2, h1, h⟩ := w_C_of h
            refine s_cV2v d_Wk_visit_118 pM_Wk_100 (Nat.le_of_ble_eq_true rfl) (obC_9 o) (c_Wk_push D (by omega) o _ _ _ _ _ h1) ?_
            replace h1 := trivial; revert h; generalize T2 = T; intro h
            refine Eq.trans (o_goto (t := 167) d_Wk_visit_121 (by decide)) ?_
            exact s_vret d_Wk_visit_167 rfl h
          · have h := w_if_f h g1
            by_cases g2 : x5 = 2
            · have h := w_if_t h g2
              refine Eq.trans (o_table (off := 74) (t := 124) d_Wk_visit_50 (by rw [g2]; decide) (by decide)) ?_
              refine Eq.trans (o_aload_n d_Wk_visit_124 rfl) ?_
              refine Eq.trans (o_aload_n d_Wk_visit_125 rfl) ?_
              refine s_ref d_Wk_visit_126 pF_Wk_57 (zC_Wk_program o) ?_
              refine Eq.trans (o_iload_n d_Wk_visit_129 rfl) ?_
              obtain ⟨x10, T2, h1, h⟩ := w_C_of h
              refine s_cV1i d_Wk_visit_130 pM_Wk_81 (Nat.le_of_ble_eq_true rfl) (obC_5 o) (c_Pr_xOf D (by omega) o _ _ _ _ h1) ?_
              replace h1 := trivial; revert h; generalize T2 = T; intro h
              refine Eq.trans (o_iconst (v := 0) d_Wk_visit_133 (by decide)) ?_
              obtain ⟨u9, T2, h1, h⟩ := w_C_of h
              refine s_cV2v d_Wk_visit_134 pM_Wk_100 (Nat.le_of_ble_eq_true rfl) (obC_9 o) (c_Wk_push D (by omega) o _ _ _ _ _ h1) ?_
              replace h1 := trivial; revert h; generalize T2 = T; intro h
              refine Eq.trans (o_goto (t := 167) d_Wk_visit_137 (by decide)) ?_
              exact s_vret d_Wk_visit_167 rfl h
            · have h := w_if_f h g2
              by_cases g3 : x5 = 3
              · have h := w_if_t h g3
                refine Eq.trans (o_table (off := 90) (t := 140) d_Wk_visit_50 (by rw [g3]; decide) (by decide)) ?_
                refine Eq.trans (o_aload_n d_Wk_visit_140 rfl) ?_
                refine Eq.trans (o_aload_n d_Wk_visit_141 rfl) ?_
                refine s_ref d_Wk_visit_142 pF_Wk_57 (zC_Wk_program o) ?_
                refine Eq.trans (o_iload_n d_Wk_visit_145 rfl) ?_
                obtain ⟨x11, T2, h1, h⟩ := w_C_of h
                refine s_cV1i d_Wk_visit_146 pM_Wk_81 (Nat.le_of_ble_eq_true rfl) (obC_5 o) (c_Pr_xOf D (by omega) o _ _ _ _ h1) ?_
                replace h1 := trivial; revert h; generalize T2 = T; intro h
                obtain ⟨u9, T2, h1, h⟩ := w_C_of h
                refine s_cV1v d_Wk_visit_149 pM_Wk_122 (Nat.le_of_ble_eq_true rfl) (obC_9 o) (c_Wk_passMark D (by omega) o _ _ _ _ h1) ?_
                replace h1 := trivial; revert h; generalize T2 = T; intro h
                refine Eq.trans (o_aload_n d_Wk_visit_152 rfl) ?_
                refine Eq.trans (o_iload_n d_Wk_visit_153 rfl) ?_
                refine Eq.trans (o_iconst (v := 1) d_Wk_visit_154 (by decide)) ?_
                refine Eq.trans (o_iadd d_Wk_visit_155) ?_
                refine Eq.trans (o_iconst (v := 0) d_Wk_visit_156 (by decide)) ?_
                obtain ⟨u9, T2, h1, h⟩ := w_C_of h
                refine s_cV2v d_Wk_visit_157 pM_Wk_100 (Nat.le_of_ble_eq_true rfl) (obC_9 o) (c_Wk_push D (by omega) o _ _ _ _ _ h1) ?_
                replace h1 := trivial; revert h; generalize T2 = T; intro h
                refine Eq.trans (o_goto (t := 167) d_Wk_visit_160 (by decide)) ?_
                exact s_vret d_Wk_visit_167 rfl h
              · have h := w_if_f h g3
                have n0 := i32_ne (x := x5) (c := 0) (k := 0) (by decide) g0
                have n1 := i32_ne (x := x5) (c := 1) (k := 1) (by decide) g1
                have n2 := i32_ne (x := x5) (c := 2) (k := 2) (by decide) g2
                have n3 := i32_ne (x := x5) (c := 3) (k := 3) (by decide) g3
                refine Eq.trans (o_table (off := 113) (t := 163) d_Wk_visit_50 (by unfold q_toff; exact if_pos (by omega)) (by decide)) ?_
                refine Eq.trans (o_aload_n d_Wk_visit_163 rfl) ?_
                obtain ⟨u9, T2, h1, h⟩ := w_C_of h
                refine s_cV0v d_Wk_visit_164 pM_Wk_125 (Nat.le_of_ble_eq_true rfl) (obC_9 o) (c_Wk_keepMatch D (by omega) o _ _ _ h1) ?_
                replace h1 := trivial; revert h; generalize T2 = T; intro h
                exact s_vret d_Wk_visit_167 rfl h
      · exact s_vret d_Wk_visit_31 rfl h
theorem c_Wk_visit (D : Nat) (hD : 3 ≤ D) (o : Nat) (a1 : Int32) (T T1 : qT) (v : Unit) (h : f_Wk_visit o a1 T = some (v, T1)) : q_ev q_Mt D 64 [.ref (o + 9), .int a1] (layC o T) = some (.inl (none), layC o T1) := by
  obtain ⟨D, rfl⟩ : ∃ D', D = D' + 1 := ⟨D - 1, by omega⟩
  rw [o_ev (M := q_mWk_visit) (lo := [some (.ref (o + 9)), some (.int a1)]) rfl (Nat.le_of_ble_eq_true rfl) rfl]
  exact c_Wk_visit_0 D (by omega) o a1 T T1 v h
noncomputable def k_Wk_follow_13 (o : Nat) (v2 : Int32) : qW (qJ ⊕ Unit) :=
  w_if (321 ≤ v2) (
    w_rt ()) (
    w_S 187 fun x1 =>
    w_if (x1 ≤ 0) (
      w_rt ()) (
      w_S 187 fun x2 =>
      w_if (321 < x2) (
        w_rt ()) (
        w_S 193 fun x3 =>
        w_if (¬ x3 = 0) (
          w_rt ()) (
          w_S 187 fun x4 =>
          w_s 187 ((x4 - 1)) <|
          w_S 187 fun x5 =>
          w_A 17 321 x5 fun x6 =>
          w_if (x6 < 0) (
            w_S 187 fun x7 =>
            w_A 18 321 x7 fun x8 =>
            w_C (f_Wk_setMark o (((-1) - x6)) x8) fun _ =>
            w_go 13 [.int (v2 + 1)] []) (
            w_C (f_Wk_visit o x6) fun _ =>
            w_go 13 [.int (v2 + 1)] [])))))
noncomputable def k_Wk_follow_0 (o : Nat) (a1 : Int32) : qW (qJ ⊕ Unit) :=
  w_s 187 0 <|
  w_C (f_Wk_push o a1 0) fun _ =>
  w_go 13 [.int 0] []
noncomputable def b_Wk_follow (o : Nat) : qJ → qW (qJ ⊕ Unit) := fun x => match x with
  | (0, [.int a1], []) => k_Wk_follow_0 o a1
  | (13, [.int v2], []) => k_Wk_follow_13 o v2
  | _ => w_no
noncomputable def f_Wk_follow (o : Nat) (a1 : Int32) : qW Unit := w_fix (b_Wk_follow o) (0, [.int a1], [])
set_option maxRecDepth 100000 in
set_option maxHeartbeats 4000000 in
theorem c_Wk_follow_13 (D : Nat) (hD : 3 ≤ D) (o : Nat) (n : Nat) (ih_13 : ∀ (v2 : Int32) (e1 : Option Value) (e3 : Option Value) (T T2 : qT) (v : Unit), w_run (b_Wk_follow o) n (13, [.int v2], []) T = some (v, T2) → q_out (q_ev q_Mt D) q_mWk_follow (13, [some (.ref (o + 9)), e1, some (.int v2), e3], [], layC o T) = some (.inl (none), layC o T2)) (v2 : Int32) (e1 : Option Value) (e3 : Option Value) (T T1 T2 : qT) (rr : qJ ⊕ Unit) (v : Unit) (h : k_Wk_follow_13 o v2 T = some (rr, T1)) (hE : w_end (b_Wk_follow o) n rr T1 = some (v, T2)) : q_out (q_ev q_Mt D) q_mWk_follow (13, [some (.ref (o + 9)), e1, some (.int v2), e3], [], layC o T) = some (.inl (none), layC o T2) := by
  unfold k_Wk_follow_13 at h
  refine Eq.trans (o_iload_n d_Wk_follow_13 rfl) ?_
  refine Eq.trans (o_sipush (v := 321) d_Wk_follow_14 (by decide)) ?_
  refine s_icmp_ge (t := 98) d_Wk_follow_17 (by decide) h (fun h => ?_) (fun h => ?_)
  · exact s_vretJ d_Wk_follow_98 rfl h hE
  · refine Eq.trans (o_aload_n d_Wk_follow_20 rfl) ?_
    refine s_get d_Wk_follow_21 pF_Wk_31 (zC_Wk_height o) h (fun x1 h => ?_)
    refine s_if_le (t := 98) d_Wk_follow_24 (by decide) h (fun h => ?_) (fun h => ?_)
    · exact s_vretJ d_Wk_follow_98 rfl h hE
    · refine Eq.trans (o_aload_n d_Wk_follow_27 rfl) ?_
      refine s_get d_Wk_follow_28 pF_Wk_31 (zC_Wk_height o) h (fun x2 h => ?_)
      refine Eq.trans (o_sipush (v := 321) d_Wk_follow_31 (by decide)) ?_
      refine s_icmp_gt (t := 98) d_Wk_follow_34 (by decide) h (fun h => ?_) (fun h => ?_)
      · exact s_vretJ d_Wk_follow_98 rfl h hE
      · refine Eq.trans (o_aload_n d_Wk_follow_37 rfl) ?_
        refine s_get d_Wk_follow_38 pF_Wk_51 (zC_Wk_cut o) h (fun x3 h => ?_)
        refine s_if_ne (t := 98) d_Wk_follow_41 (by decide) h (fun h => ?_) (fun h => ?_)
        · exact s_vretJ d_Wk_follow_98 rfl h hE
        · refine Eq.trans (o_aload_n d_Wk_follow_44 rfl) ?_
          refine Eq.trans (o_dup d_Wk_follow_45 rfl) ?_
          refine s_get d_Wk_follow_46 pF_Wk_31 (zC_Wk_height o) h (fun x4 h => ?_)
          refine Eq.trans (o_iconst (v := 1) d_Wk_follow_49 (by decide)) ?_
          refine Eq.trans (o_isub d_Wk_follow_50) ?_
          refine s_put d_Wk_follow_51 pF_Wk_31 (zC_Wk_height o) h (fun T h => ?_)
          refine Eq.trans (o_aload_n d_Wk_follow_54 rfl) ?_
          refine s_ref d_Wk_follow_55 pF_Wk_25 (zC_Wk_stack o) ?_
          refine Eq.trans (o_aload_n d_Wk_follow_58 rfl) ?_
          refine s_get d_Wk_follow_59 pF_Wk_31 (zC_Wk_height o) h (fun x5 h => ?_)
          refine s_iald d_Wk_follow_62 (rC_17 o) h (fun x6 h => ?_)
          refine Eq.trans (o_istore_n (lo' := [some (.ref (o + 9)), e1, some (.int v2), some (.int x6)]) d_Wk_follow_63 (Nat.le_of_ble_eq_true rfl) rfl) ?_
          refine Eq.trans (o_iload_n d_Wk_follow_64 rfl) ?_
          refine s_if_lt (t := 76) d_Wk_follow_65 (by decide) h (fun h => ?_) (fun h => ?_)
          · refine Eq.trans (o_aload_n d_Wk_follow_76 rfl) ?_
            refine Eq.trans (o_iconst (v := (-1)) d_Wk_follow_77 (by decide)) ?_
            refine Eq.trans (o_iload_n d_Wk_follow_78 rfl) ?_
            refine Eq.trans (o_isub d_Wk_follow_79) ?_
            refine Eq.trans (o_aload_n d_Wk_follow_80 rfl) ?_
            refine s_ref d_Wk_follow_81 pF_Wk_28 (zC_Wk_oldMarks o) ?_
            refine Eq.trans (o_aload_n d_Wk_follow_84 rfl) ?_
            refine s_get d_Wk_follow_85 pF_Wk_31 (zC_Wk_height o) h (fun x7 h => ?_)
            refine s_iald d_Wk_follow_88 (rC_18 o) h (fun x8 h => ?_)
            obtain ⟨u9, T2, h1, h⟩ := w_C_of h
            refine s_cV2v d_Wk_follow_89 pM_Wk_107 (Nat.le_of_ble_eq_true rfl) (obC_9 o) (c_Wk_setMark D (by omega) o _ _ _ _ _ h1) ?_
            replace h1 := trivial; revert h; generalize T2 = T; intro h
            refine Eq.trans (o_iinc (v := (v2 + 1)) (lo' := [some (.ref (o + 9)), (q_dk e1), some (.int (v2 + 1)), some (.int x6)]) d_Wk_follow_92 rfl (by rw [show Int32.ofInt 1 = 1 from by decide]) (Nat.le_of_ble_eq_true rfl) ((q_st1_dk (j := 1) (Nat.le_of_ble_eq_true rfl)).trans rfl)) ?_
            refine Eq.trans (o_goto (t := 13) d_Wk_follow_95 (by decide)) ?_
            exact ih_13 _ _ _ _ _ _ (s_jump h hE)
          · refine Eq.trans (o_aload_n d_Wk_follow_68 rfl) ?_
            refine Eq.trans (o_iload_n d_Wk_follow_69 rfl) ?_
            obtain ⟨u9, T2, h1, h⟩ := w_C_of h
            refine s_cV1v d_Wk_follow_70 pM_Wk_104 (Nat.le_of_ble_eq_true rfl) (obC_9 o) (c_Wk_visit D (by omega) o _ _ _ _ h1) ?_
            replace h1 := trivial; revert h; generalize T2 = T; intro h
            refine Eq.trans (o_goto (t := 92) d_Wk_follow_73 (by decide)) ?_
            refine Eq.trans (o_iinc (v := (v2 + 1)) (lo' := [some (.ref (o + 9)), (q_dk e1), some (.int (v2 + 1)), some (.int x6)]) d_Wk_follow_92 rfl (by rw [show Int32.ofInt 1 = 1 from by decide]) (Nat.le_of_ble_eq_true rfl) ((q_st1_dk (j := 1) (Nat.le_of_ble_eq_true rfl)).trans rfl)) ?_
            refine Eq.trans (o_goto (t := 13) d_Wk_follow_95 (by decide)) ?_
            exact ih_13 _ _ _ _ _ _ (s_jump h hE)
set_option maxRecDepth 100000 in
set_option maxHeartbeats 4000000 in
theorem c_Wk_follow_0 (D : Nat) (hD : 3 ≤ D) (o : Nat) (n : Nat) (ih_13 : ∀ (v2 : Int32) (e1 : Option Value) (e3 : Option Value) (T T2 : qT) (v : Unit), w_run (b_Wk_follow o) n (13, [.int v2], []) T = some (v, T2) → q_out (q_ev q_Mt D) q_mWk_follow (13, [some (.ref (o + 9)), e1, some (.int v2), e3], [], layC o T) = some (.inl (none), layC o T2)) (a1 : Int32)  (T T1 T2 : qT) (rr : qJ ⊕ Unit) (v : Unit) (h : k_Wk_follow_0 o a1 T = some (rr, T1)) (hE : w_end (b_Wk_follow o) n rr T1 = some (v, T2)) : q_out (q_ev q_Mt D) q_mWk_follow (0, [some (.ref (o + 9)), some (.int a1), none, none], [], layC o T) = some (.inl (none), layC o T2) := by
  unfold k_Wk_follow_0 at h
  refine Eq.trans (o_aload_n d_Wk_follow_0 rfl) ?_
  refine Eq.trans (o_iconst (v := 0) d_Wk_follow_1 (by decide)) ?_
  refine s_put d_Wk_follow_2 pF_Wk_31 (zC_Wk_height o) h (fun T h => ?_)
  refine Eq.trans (o_aload_n d_Wk_follow_5 rfl) ?_
  refine Eq.trans (o_iload_n d_Wk_follow_6 rfl) ?_
  refine Eq.trans (o_iconst (v := 0) d_Wk_follow_7 (by decide)) ?_
  obtain ⟨u9, T2, h1, h⟩ := w_C_of h
  refine s_cV2v d_Wk_follow_8 pM_Wk_100 (Nat.le_of_ble_eq_true rfl) (obC_9 o) (c_Wk_push D (by omega) o _ _ _ _ _ h1) ?_
  replace h1 := trivial; revert h; generalize T2 = T; intro h
  refine Eq.trans (o_iconst (v := 0) d_Wk_follow_11 (by decide)) ?_
  refine Eq.trans (o_istore_n (lo' := [some (.ref (o + 9)), some (.int a1), some (.int 0), none]) d_Wk_follow_12 (Nat.le_of_ble_eq_true rfl) rfl) ?_
  exact ih_13 _ _ _ _ _ _ (s_jump h hE)
theorem c_Wk_follow_lp (D : Nat) (hD : 3 ≤ D) (o : Nat) : ∀ n : Nat, (∀ (v2 : Int32) (e1 : Option Value) (e3 : Option Value) (T T2 : qT) (v : Unit), w_run (b_Wk_follow o) n (13, [.int v2], []) T = some (v, T2) → q_out (q_ev q_Mt D) q_mWk_follow (13, [some (.ref (o + 9)), e1, some (.int v2), e3], [], layC o T) = some (.inl (none), layC o T2)) := by
  intro n
  induction n with
  | zero => exact (fun v2 e1 e3 T T2 v h => by cases h)
  | succ n ih =>
    have ih_13 := ih
    · intro v2 e1 e3 T T2 v h
      obtain ⟨rr, T1, hb, hE⟩ := w_run_succ h
      exact c_Wk_follow_13 D hD o n ih_13 v2 e1 e3 T T1 T2 rr v hb hE
theorem c_Wk_follow (D : Nat) (hD : 4 ≤ D) (o : Nat) (a1 : Int32) (T T2 : qT) (v : Unit) (h : f_Wk_follow o a1 T = some (v, T2)) : q_ev q_Mt D 62 [.ref (o + 9), .int a1] (layC o T) = some (.inl (none), layC o T2) := by
  obtain ⟨D, rfl⟩ : ∃ D', D = D' + 1 := ⟨D - 1, by omega⟩
  obtain ⟨n, hn⟩ := w_fix_iff.mp h
  cases n with
  | zero => cases hn
  | succ n =>
    obtain ⟨rr, T1, hb, hE⟩ := w_run_succ hn
    have hl := c_Wk_follow_lp D (by omega) o n
    have ih_13 := hl
    rw [o_ev (M := q_mWk_follow) (lo := [some (.ref (o + 9)), some (.int a1), none, none]) rfl (Nat.le_of_ble_eq_true rfl) rfl]
    exact c_Wk_follow_0 D (by omega) o n ih_13 a1 T T1 T2 rr v hb hE
noncomputable def f_Wk_followFromStart (o : Nat)  : qW Unit :=
  w_C (f_Ar_fill19 o ((-1))) fun _ =>
  w_C (f_Wk_follow o 0) fun _ =>
  w_pure ()
set_option maxRecDepth 100000 in
set_option maxHeartbeats 4000000 in
theorem c_Wk_followFromStart_0 (D : Nat) (hD : 4 ≤ D) (o : Nat)   (T T1 : qT) (v : Unit) (h : f_Wk_followFromStart o T = some (v, T1)) : q_out (q_ev q_Mt D) q_mWk_followFromStart (0, [some (.ref (o + 9))], [], layC o T) = some (.inl (none), layC o T1) := by
  unfold f_Wk_followFromStart at h
  refine Eq.trans (o_aload_n d_Wk_followFromStart_0 rfl) ?_
  refine s_ref d_Wk_followFromStart_1 pF_Wk_35 (zC_Wk_marks o) ?_
  refine Eq.trans (o_iconst (v := (-1)) d_Wk_followFromStart_4 (by decide)) ?_
  obtain ⟨u9, T2, h1, h⟩ := w_C_of h
  refine s_cS2v d_Wk_followFromStart_5 pM_Wk_68 (Nat.le_of_ble_eq_true rfl) (c_Ar_fill19 D (by omega) o _ _ _ _ h1) ?_
  replace h1 := trivial; revert h; generalize T2 = T; intro h
  refine Eq.trans (o_aload_n d_Wk_followFromStart_8 rfl) ?_
  refine Eq.trans (o_iconst (v := 0) d_Wk_followFromStart_9 (by decide)) ?_
  obtain ⟨u9, T2, h1, h⟩ := w_C_of h
  refine s_cV1v d_Wk_followFromStart_10 pM_Wk_96 (Nat.le_of_ble_eq_true rfl) (obC_9 o) (c_Wk_follow D (by omega) o _ _ _ _ h1) ?_
  replace h1 := trivial; revert h; generalize T2 = T; intro h
  exact s_vret d_Wk_followFromStart_13 rfl h
theorem c_Wk_followFromStart (D : Nat) (hD : 5 ≤ D) (o : Nat)  (T T1 : qT) (v : Unit) (h : f_Wk_followFromStart o  T = some (v, T1)) : q_ev q_Mt D 61 [.ref (o + 9)] (layC o T) = some (.inl (none), layC o T1) := by
  obtain ⟨D, rfl⟩ : ∃ D', D = D' + 1 := ⟨D - 1, by omega⟩
  rw [o_ev (M := q_mWk_followFromStart) (lo := [some (.ref (o + 9))]) rfl (Nat.le_of_ble_eq_true rfl) rfl]
  exact c_Wk_followFromStart_0 D (by omega) o  T T1 v h
noncomputable def f_Wk_begin (o : Nat) (a1 : Int32) : qW Unit :=
  w_z 190 1 <|
  w_z 191 a1 <|
  w_z 192 0 <|
  w_z 193 0 <|
  w_s 194 0 <|
  w_N 0 fun i1 =>
  w_f2 i1 <|
  w_s (202 + 60 * i1) 0 <|
  w_C (f_Ar_fill16 o ((-1))) fun _ =>
  w_C (f_Wk_followFromStart o) fun _ =>
  w_pure ()
set_option maxRecDepth 100000 in
set_option maxHeartbeats 4000000 in
theorem c_Wk_begin_0 (D : Nat) (hD : 5 ≤ D) (o : Nat) (a1 : Int32)  (T T1 : qT) (v : Unit) (h : f_Wk_begin o a1 T = some (v, T1)) : q_out (q_ev q_Mt D) q_mWk_begin (0, [some (.ref (o + 9)), some (.int a1)], [], layC o T) = some (.inl (none), layC o T1) := by
  unfold f_Wk_begin at h
  refine Eq.trans (o_aload_n d_Wk_begin_0 rfl) ?_
  refine Eq.trans (o_iconst (v := 1) d_Wk_begin_1 (by decide)) ?_
  refine s_putZ d_Wk_begin_2 pF_Wk_41 (zC_Wk_begun o) h (fun T h => ?_)
  refine Eq.trans (o_aload_n d_Wk_begin_5 rfl) ?_
  refine Eq.trans (o_iload_n d_Wk_begin_6 rfl) ?_
  refine s_putZ d_Wk_begin_7 pF_Wk_45 (zC_Wk_searching o) h (fun T h => ?_)
  refine Eq.trans (o_aload_n d_Wk_begin_10 rfl) ?_
  refine Eq.trans (o_iconst (v := 0) d_Wk_begin_11 (by decide)) ?_
  refine s_putZ d_Wk_begin_12 pF_Wk_48 (zC_Wk_found o) h (fun T h => ?_)
  refine Eq.trans (o_aload_n d_Wk_begin_15 rfl) ?_
  refine Eq.trans (o_iconst (v := 0) d_Wk_begin_16 (by decide)) ?_
  refine s_putZ d_Wk_begin_17 pF_Wk_51 (zC_Wk_cut o) h (fun T h => ?_)
  refine Eq.trans (o_aload_n d_Wk_begin_20 rfl) ?_
  refine Eq.trans (o_iconst (v := 0) d_Wk_begin_21 (by decide)) ?_
  refine s_put d_Wk_begin_22 pF_Wk_54 (zC_Wk_place o) h (fun T h => ?_)
  refine Eq.trans (o_aload_n d_Wk_begin_25 rfl) ?_
  refine s_getN d_Wk_begin_26 pF_Wk_12 (faC_now o) h (fun i1 h => ?_)
  refine Eq.trans (o_iconst (v := 0) d_Wk_begin_29 (by decide)) ?_
  obtain ⟨f2, h⟩ := w_f2_of h
  refine s_put d_Wk_begin_30 pF_Wk_65 (fW_count o _ f2) h (fun T h => ?_)
  refine Eq.trans (o_aload_n d_Wk_begin_33 rfl) ?_
  refine s_ref d_Wk_begin_34 pF_Wk_21 (zC_Wk_cameAt o) ?_
  refine Eq.trans (o_iconst (v := (-1)) d_Wk_begin_37 (by decide)) ?_
  obtain ⟨u9, T2, h1, h⟩ := w_C_of h
  refine s_cS2v d_Wk_begin_38 pM_Wk_68 (Nat.le_of_ble_eq_true rfl) (c_Ar_fill16 D (by omega) o _ _ _ _ h1) ?_
  replace h1 := trivial; revert h; generalize T2 = T; intro h
  refine Eq.trans (o_aload_n d_Wk_begin_41 rfl) ?_
  obtain ⟨u9, T2, h1, h⟩ := w_C_of h
  refine s_cV0v d_Wk_begin_42 pM_Wk_74 (Nat.le_of_ble_eq_true rfl) (obC_9 o) (c_Wk_followFromStart D (by omega) o _ _ _ h1) ?_
  replace h1 := trivial; revert h; generalize T2 = T; intro h
  exact s_vret d_Wk_begin_45 rfl h
theorem c_Wk_begin (D : Nat) (hD : 6 ≤ D) (o : Nat) (a1 : Int32) (T T1 : qT) (v : Unit) (h : f_Wk_begin o a1 T = some (v, T1)) : q_ev q_Mt D 60 [.ref (o + 9), .int a1] (layC o T) = some (.inl (none), layC o T1) := by
  obtain ⟨D, rfl⟩ : ∃ D', D = D' + 1 := ⟨D - 1, by omega⟩
  rw [o_ev (M := q_mWk_begin) (lo := [some (.ref (o + 9)), some (.int a1)]) rfl (Nat.le_of_ble_eq_true rfl) rfl]
  exact c_Wk_begin_0 D (by omega) o a1 T T1 v h
noncomputable def f_PW_start (o : Nat) (a1 : Int32) : qW Int32 :=
  w_C (f_Pr_isWritten o) fun x1 =>
  w_if (¬ x1 = 0) (
    w_C (f_Wk_begin o a1) fun _ =>
    w_ret .boolean 1) (
    w_ret .boolean 0)
set_option maxRecDepth 100000 in
set_option maxHeartbeats 4000000 in
theorem c_PW_start_0 (D : Nat) (hD : 6 ≤ D) (o : Nat) (a1 : Int32)  (T T1 : qT) (v : Int32) (h : f_PW_start o a1 T = some (v, T1)) : q_out (q_ev q_Mt D) q_mPW_start (0, [some (.ref (o + 0)), some (.int a1)], [], layC o T) = some (.inl (some (.int v)), layC o T1) := by
  unfold f_PW_start at h
  refine Eq.trans (o_aload_n d_PW_start_0 rfl) ?_
  refine s_ref d_PW_start_1 pF_PW_39 (zC_PW_program o) ?_
  obtain ⟨x1, T2, h1, h⟩ := w_C_of h
  refine s_cV0i d_PW_start_4 pM_PW_52 (Nat.le_of_ble_eq_true rfl) (obC_5 o) (c_Pr_isWritten D (by omega) o _ _ _ h1) ?_
  replace h1 := trivial; revert h; generalize T2 = T; intro h
  refine s_if_ne (t := 12) d_PW_start_7 (by decide) h (fun h => ?_) (fun h => ?_)
  · refine Eq.trans (o_aload_n d_PW_start_12 rfl) ?_
    refine s_ref d_PW_start_13 pF_PW_48 (zC_PW_walk o) ?_
    refine Eq.trans (o_iload_n d_PW_start_16 rfl) ?_
    obtain ⟨u9, T2, h1, h⟩ := w_C_of h
    refine s_cV1v d_PW_start_17 pM_PW_119 (Nat.le_of_ble_eq_true rfl) (obC_9 o) (c_Wk_begin D (by omega) o _ _ _ _ h1) ?_
    replace h1 := trivial; revert h; generalize T2 = T; intro h
    refine Eq.trans (o_iconst (v := 1) d_PW_start_20 (by decide)) ?_
    exact s_iret d_PW_start_21 rfl h
  · refine Eq.trans (o_iconst (v := 0) d_PW_start_10 (by decide)) ?_
    exact s_iret d_PW_start_11 rfl h
theorem c_PW_start (D : Nat) (hD : 7 ≤ D) (o : Nat) (a1 : Int32) (T T1 : qT) (v : Int32) (h : f_PW_start o a1 T = some (v, T1)) : q_ev q_Mt D 6 [.ref (o + 0), .int a1] (layC o T) = some (.inl (some (.int v)), layC o T1) := by
  obtain ⟨D, rfl⟩ : ∃ D', D = D' + 1 := ⟨D - 1, by omega⟩
  rw [o_ev (M := q_mPW_start) (lo := [some (.ref (o + 0)), some (.int a1)]) rfl (Nat.le_of_ble_eq_true rfl) rfl]
  exact c_PW_start_0 D (by omega) o a1 T T1 v h
noncomputable def f_Cs_has (o : Nat) (a1 : Int32) (a2 : Int32) : qW Int32 :=
  w_C (f_Cs_isOpen o a1) fun x1 =>
  w_if (x1 = 0) (
    w_ret .boolean 0) (
    w_if (a2 < 0) (
      w_ret .boolean 0) (
      w_if (a2 < 256) (
        w_L 192 (((a1 * 4) + ((a2 : Int32) >>> ((6 : Int32) &&& 31)))) fun y2 =>
        w_if (((lg_cmp ((y2 >>> (((a2 &&& 63)).toInt64 &&& 63)) &&& (1 : Int64)) (0 : Int64))) = 0) (
          w_ret .boolean 0) (
          w_ret .boolean 1)) (
        w_ret .boolean 0)))
set_option maxRecDepth 100000 in
set_option maxHeartbeats 4000000 in
theorem c_Cs_has_0 (D : Nat) (hD : 1 ≤ D) (o : Nat) (a1 : Int32) (a2 : Int32)  (T T1 : qT) (v : Int32) (h : f_Cs_has o a1 a2 T = some (v, T1)) : q_out (q_ev q_Mt D) q_mCs_has (0, [some (.ref (o + 2)), some (.int a1), some (.int a2)], [], layC o T) = some (.inl (some (.int v)), layC o T1) := by
  unfold f_Cs_has at h
  refine Eq.trans (o_aload_n d_Cs_has_0 rfl) ?_
  refine Eq.trans (o_iload_n d_Cs_has_1 rfl) ?_
  obtain ⟨x1, T2, h1, h⟩ := w_C_of h
  refine s_cV1i d_Cs_has_2 pM_Cs_25 (Nat.le_of_ble_eq_true rfl) (obC_2 o) (c_Cs_isOpen D (by omega) o _ _ _ _ h1) ?_
  replace h1 := trivial; revert h; generalize T2 = T; intro h
  refine s_if_eq (t := 19) d_Cs_has_5 (by decide) h (fun h => ?_) (fun h => ?_)
  · refine Eq.trans (o_iconst (v := 0) d_Cs_has_19 (by decide)) ?_
    exact s_iret d_Cs_has_20 rfl h
  · refine Eq.trans (o_iload_n d_Cs_has_8 rfl) ?_
    refine s_if_lt (t := 19) d_Cs_has_9 (by decide) h (fun h => ?_) (fun h => ?_)
    · refine Eq.trans (o_iconst (v := 0) d_Cs_has_19 (by decide)) ?_
      exact s_iret d_Cs_has_20 rfl h
    · refine Eq.trans (o_iload_n d_Cs_has_12 rfl) ?_
      refine Eq.trans (o_sipush (v := 256) d_Cs_has_13 (by decide)) ?_
      refine s_icmp_lt (t := 21) d_Cs_has_16 (by decide) h (fun h => ?_) (fun h => ?_)
      · refine Eq.trans (o_aload_n d_Cs_has_21 rfl) ?_
        refine s_ref d_Cs_has_22 pF_Cs_11 (zC_Cs_bits o) ?_
        refine Eq.trans (o_iload_n d_Cs_has_25 rfl) ?_
        refine Eq.trans (o_iconst (v := 4) d_Cs_has_26 (by decide)) ?_
        refine Eq.trans (o_imul d_Cs_has_27) ?_
        refine Eq.trans (o_iload_n d_Cs_has_28 rfl) ?_
        refine Eq.trans (o_bipush (v := 6) d_Cs_has_29 (by decide)) ?_
        refine Eq.trans (o_ishr d_Cs_has_31) ?_
        refine Eq.trans (o_iadd d_Cs_has_32) ?_
        refine s_lald d_Cs_has_33 (rC_3 o) h (fun y2 h => ?_)
        refine Eq.trans (o_iload_n d_Cs_has_34 rfl) ?_
        refine Eq.trans (o_bipush (v := 63) d_Cs_has_35 (by decide)) ?_
        refine Eq.trans (o_iand d_Cs_has_37) ?_
        refine Eq.trans (o_lshr d_Cs_has_38) ?_
        refine Eq.trans (o_lconst (v := 1) d_Cs_has_39 (by decide)) ?_
        refine Eq.trans (o_land d_Cs_has_40) ?_
        refine Eq.trans (o_lconst (v := 0) d_Cs_has_41 (by decide)) ?_
        refine Eq.trans (o_lcmp d_Cs_has_42) ?_
        refine s_if_eq (t := 50) d_Cs_has_43 (by decide) h (fun h => ?_) (fun h => ?_)
        · refine Eq.trans (o_iconst (v := 0) d_Cs_has_50 (by decide)) ?_
          exact s_iret d_Cs_has_51 rfl h
        · refine Eq.trans (o_iconst (v := 1) d_Cs_has_46 (by decide)) ?_
          refine Eq.trans (o_goto (t := 51) d_Cs_has_47 (by decide)) ?_
          exact s_iret d_Cs_has_51 rfl h
      · refine Eq.trans (o_iconst (v := 0) d_Cs_has_19 (by decide)) ?_
        exact s_iret d_Cs_has_20 rfl h
theorem c_Cs_has (D : Nat) (hD : 2 ≤ D) (o : Nat) (a1 : Int32) (a2 : Int32) (T T1 : qT) (v : Int32) (h : f_Cs_has o a1 a2 T = some (v, T1)) : q_ev q_Mt D 17 [.ref (o + 2), .int a1, .int a2] (layC o T) = some (.inl (some (.int v)), layC o T1) := by
  obtain ⟨D, rfl⟩ : ∃ D', D = D' + 1 := ⟨D - 1, by omega⟩
  rw [o_ev (M := q_mCs_has) (lo := [some (.ref (o + 2)), some (.int a1), some (.int a2)]) rfl (Nat.le_of_ble_eq_true rfl) rfl]
  exact c_Cs_has_0 D (by omega) o a1 a2 T T1 v h
noncomputable def k_Wy_copyMarks_14 (o : Nat) (v0 : Nat) (v1 : Int32) (v3 : Int32) : qW (qJ ⊕ Unit) :=
  w_if (14 ≤ v3) (
    w_rt ()) (
    w_if (14 ≤ v3) (
      w_rt ()) (
      w_f2 v0 <|
      w_A (12 + 3 * v0) 2240 (((v1 * 14) + v3)) fun x2 =>
      w_a 19 14 v3 x2 <|
      w_go 14 [.int v1, .int (v3 + 1)] [(some v0)]))
noncomputable def k_Wy_copyMarks_0 (o : Nat) (i0 : Nat) (a1 : Int32) : qW (qJ ⊕ Unit) :=
  w_if (a1 < 0) (
    w_rt ()) (
    w_if (a1 < 160) (
      w_go 14 [.int a1, .int 0] [(some i0)]) (
      w_rt ()))
noncomputable def b_Wy_copyMarks (o : Nat) : qJ → qW (qJ ⊕ Unit) := fun x => match x with
  | (0, [.int a1], [some i0]) => k_Wy_copyMarks_0 o i0 a1
  | (14, [.int v1, .int v3], [some v0]) => k_Wy_copyMarks_14 o v0 v1 v3
  | _ => w_no
noncomputable def f_Wy_copyMarks (o : Nat) (i0 : Nat) (a1 : Int32) : qW Unit := w_fix (b_Wy_copyMarks o) (0, [.int a1], [some i0])
set_option maxRecDepth 100000 in
set_option maxHeartbeats 4000000 in
theorem c_Wy_copyMarks_14 (D : Nat) (hD : 0 ≤ D) (o : Nat) (n : Nat) (ih_14 : ∀ (v0 : Nat) (v1 : Int32) (v3 : Int32)  (T T2 : qT) (v : Unit), w_run (b_Wy_copyMarks o) n (14, [.int v1, .int v3], [some v0]) T = some (v, T2) → q_out (q_ev q_Mt D) q_mWy_copyMarks (14, [some (.ref (o + 10 + 3 * v0)), some (.int v1), some (.ref (o + 19)), some (.int v3)], [], layC o T) = some (.inl (none), layC o T2)) (v0 : Nat) (v1 : Int32) (v3 : Int32)  (T T1 T2 : qT) (rr : qJ ⊕ Unit) (v : Unit) (h : k_Wy_copyMarks_14 o v0 v1 v3 T = some (rr, T1)) (hE : w_end (b_Wy_copyMarks o) n rr T1 = some (v, T2)) : q_out (q_ev q_Mt D) q_mWy_copyMarks (14, [some (.ref (o + 10 + 3 * v0)), some (.int v1), some (.ref (o + 19)), some (.int v3)], [], layC o T) = some (.inl (none), layC o T2) := by
  unfold k_Wy_copyMarks_14 at h
  refine Eq.trans (o_iload_n d_Wy_copyMarks_14 rfl) ?_
  refine Eq.trans (o_bipush (v := 14) d_Wy_copyMarks_15 (by decide)) ?_
  refine s_icmp_ge (t := 46) d_Wy_copyMarks_17 (by decide) h (fun h => ?_) (fun h => ?_)
  · exact s_vretJ d_Wy_copyMarks_46 rfl h hE
  · refine Eq.trans (o_iload_n d_Wy_copyMarks_20 rfl) ?_
    refine Eq.trans (o_aload_n d_Wy_copyMarks_21 rfl) ?_
    refine Eq.trans (o_alen (v := 14) d_Wy_copyMarks_22 ((rC_19 o _).1) (by decide) (by decide)) ?_
    refine s_icmp_ge (t := 46) d_Wy_copyMarks_23 (by decide) h (fun h => ?_) (fun h => ?_)
    · exact s_vretJ d_Wy_copyMarks_46 rfl h hE
    · refine Eq.trans (o_aload_n d_Wy_copyMarks_26 rfl) ?_
      refine Eq.trans (o_iload_n d_Wy_copyMarks_27 rfl) ?_
      refine Eq.trans (o_aload_n d_Wy_copyMarks_28 rfl) ?_
      obtain ⟨f1, h⟩ := w_f2_of h
      refine s_ref d_Wy_copyMarks_29 pF_Wy_15 (fW_marks o _ f1) ?_
      refine Eq.trans (o_iload_n d_Wy_copyMarks_32 rfl) ?_
      refine Eq.trans (o_bipush (v := 14) d_Wy_copyMarks_33 (by decide)) ?_
      refine Eq.trans (o_imul d_Wy_copyMarks_35) ?_
      refine Eq.trans (o_iload_n d_Wy_copyMarks_36 rfl) ?_
      refine Eq.trans (o_iadd d_Wy_copyMarks_37) ?_
      refine s_iald d_Wy_copyMarks_38 (fW_marksA o _ f1) h (fun x2 h => ?_)
      refine s_iast d_Wy_copyMarks_39 (rC_19 o) h (fun T h => ?_)
      refine Eq.trans (o_iinc (v := (v3 + 1)) (lo' := [some (.ref (o + 10 + 3 * v0)), some (.int v1), some (.ref (o + 19)), some (.int (v3 + 1))]) d_Wy_copyMarks_40 rfl (by rw [show Int32.ofInt 1 = 1 from by decide]) (Nat.le_of_ble_eq_true rfl) rfl) ?_
      refine Eq.trans (o_goto (t := 14) d_Wy_copyMarks_43 (by decide)) ?_
      exact ih_14 _ _ _ _ _ _ (s_jump h hE)
set_option maxRecDepth 100000 in
set_option maxHeartbeats 4000000 in
theorem c_Wy_copyMarks_0 (D : Nat) (hD : 0 ≤ D) (o : Nat) (n : Nat) (ih_14 : ∀ (v0 : Nat) (v1 : Int32) (v3 : Int32)  (T T2 : qT) (v : Unit), w_run (b_Wy_copyMarks o) n (14, [.int v1, .int v3], [some v0]) T = some (v, T2) → q_out (q_ev q_Mt D) q_mWy_copyMarks (14, [some (.ref (o + 10 + 3 * v0)), some (.int v1), some (.ref (o + 19)), some (.int v3)], [], layC o T) = some (.inl (none), layC o T2)) (i0 : Nat) (a1 : Int32)  (T T1 T2 : qT) (rr : qJ ⊕ Unit) (v : Unit) (h : k_Wy_copyMarks_0 o i0 a1 T = some (rr, T1)) (hE : w_end (b_Wy_copyMarks o) n rr T1 = some (v, T2)) : q_out (q_ev q_Mt D) q_mWy_copyMarks (0, [some (.ref (o + 10 + 3 * i0)), some (.int a1), some (.ref (o + 19)), none], [], layC o T) = some (.inl (none), layC o T2) := by
  unfold k_Wy_copyMarks_0 at h
  refine Eq.trans (o_iload_n d_Wy_copyMarks_0 rfl) ?_
  refine s_if_lt (t := 11) d_Wy_copyMarks_1 (by decide) h (fun h => ?_) (fun h => ?_)
  · exact s_vretJ d_Wy_copyMarks_11 rfl h hE
  · refine Eq.trans (o_iload_n d_Wy_copyMarks_4 rfl) ?_
    refine Eq.trans (o_sipush (v := 160) d_Wy_copyMarks_5 (by decide)) ?_
    refine s_icmp_lt (t := 12) d_Wy_copyMarks_8 (by decide) h (fun h => ?_) (fun h => ?_)
    · refine Eq.trans (o_iconst (v := 0) d_Wy_copyMarks_12 (by decide)) ?_
      refine Eq.trans (o_istore_n (lo' := [some (.ref (o + 10 + 3 * i0)), some (.int a1), some (.ref (o + 19)), some (.int 0)]) d_Wy_copyMarks_13 (Nat.le_of_ble_eq_true rfl) rfl) ?_
      exact ih_14 _ _ _ _ _ _ (s_jump h hE)
    · exact s_vretJ d_Wy_copyMarks_11 rfl h hE
theorem c_Wy_copyMarks_lp (D : Nat) (hD : 0 ≤ D) (o : Nat) : ∀ n : Nat, (∀ (v0 : Nat) (v1 : Int32) (v3 : Int32)  (T T2 : qT) (v : Unit), w_run (b_Wy_copyMarks o) n (14, [.int v1, .int v3], [some v0]) T = some (v, T2) → q_out (q_ev q_Mt D) q_mWy_copyMarks (14, [some (.ref (o + 10 + 3 * v0)), some (.int v1), some (.ref (o + 19)), some (.int v3)], [], layC o T) = some (.inl (none), layC o T2)) := by
  intro n
  induction n with
  | zero => exact (fun v0 v1 v3 T T2 v h => by cases h)
  | succ n ih =>
    have ih_14 := ih
    · intro v0 v1 v3 T T2 v h
      obtain ⟨rr, T1, hb, hE⟩ := w_run_succ h
      exact c_Wy_copyMarks_14 D hD o n ih_14 v0 v1 v3 T T1 T2 rr v hb hE
theorem c_Wy_copyMarks (D : Nat) (hD : 1 ≤ D) (o : Nat) (i0 : Nat) (a1 : Int32) (T T2 : qT) (v : Unit) (h : f_Wy_copyMarks o i0 a1 T = some (v, T2)) : q_ev q_Mt D 74 [.ref (o + 10 + 3 * i0), .int a1, .ref (o + 19)] (layC o T) = some (.inl (none), layC o T2) := by
  obtain ⟨D, rfl⟩ : ∃ D', D = D' + 1 := ⟨D - 1, by omega⟩
  obtain ⟨n, hn⟩ := w_fix_iff.mp h
  cases n with
  | zero => cases hn
  | succ n =>
    obtain ⟨rr, T1, hb, hE⟩ := w_run_succ hn
    have hl := c_Wy_copyMarks_lp D (by omega) o n
    have ih_14 := hl
    rw [o_ev (M := q_mWy_copyMarks) (lo := [some (.ref (o + 10 + 3 * i0)), some (.int a1), some (.ref (o + 19)), none]) rfl (Nat.le_of_ble_eq_true rfl) rfl]
    exact c_Wy_copyMarks_0 D (by omega) o n ih_14 i0 a1 T T1 T2 rr v hb hE
noncomputable def f_Wy_takeOf (o : Nat) (i0 : Nat) (a1 : Int32) : qW Int32 :=
  w_if (a1 < 0) (
    w_ret .int ((-1))) (
    w_f2 i0 <|
    w_S (202 + 60 * i0) fun x2 =>
    w_if (x2 ≤ a1) (
      w_ret .int ((-1))) (
      w_if (160 ≤ a1) (
        w_ret .int ((-1))) (
        w_f2 i0 <|
        w_A (11 + 3 * i0) 160 a1 fun x4 =>
        w_ret .int x4)))
set_option maxRecDepth 100000 in
set_option maxHeartbeats 4000000 in
theorem c_Wy_takeOf_0 (D : Nat) (hD : 0 ≤ D) (o : Nat) (i0 : Nat) (a1 : Int32)  (T T1 : qT) (v : Int32) (h : f_Wy_takeOf o i0 a1 T = some (v, T1)) : q_out (q_ev q_Mt D) q_mWy_takeOf (0, [some (.ref (o + 10 + 3 * i0)), some (.int a1)], [], layC o T) = some (.inl (some (.int v)), layC o T1) := by
  unfold f_Wy_takeOf at h
  refine Eq.trans (o_iload_n d_Wy_takeOf_0 rfl) ?_
  refine s_if_lt (t := 28) d_Wy_takeOf_1 (by decide) h (fun h => ?_) (fun h => ?_)
  · refine Eq.trans (o_iconst (v := (-1)) d_Wy_takeOf_28 (by decide)) ?_
    exact s_iret d_Wy_takeOf_29 rfl h
  · refine Eq.trans (o_iload_n d_Wy_takeOf_4 rfl) ?_
    refine Eq.trans (o_aload_n d_Wy_takeOf_5 rfl) ?_
    obtain ⟨f1, h⟩ := w_f2_of h
    refine s_get d_Wy_takeOf_6 pF_Wy_18 (fW_count o _ f1) h (fun x2 h => ?_)
    refine s_icmp_ge (t := 28) d_Wy_takeOf_9 (by decide) h (fun h => ?_) (fun h => ?_)
    · refine Eq.trans (o_iconst (v := (-1)) d_Wy_takeOf_28 (by decide)) ?_
      exact s_iret d_Wy_takeOf_29 rfl h
    · refine Eq.trans (o_iload_n d_Wy_takeOf_12 rfl) ?_
      refine Eq.trans (o_sipush (v := 160) d_Wy_takeOf_13 (by decide)) ?_
      refine s_icmp_ge (t := 28) d_Wy_takeOf_16 (by decide) h (fun h => ?_) (fun h => ?_)
      · refine Eq.trans (o_iconst (v := (-1)) d_Wy_takeOf_28 (by decide)) ?_
        exact s_iret d_Wy_takeOf_29 rfl h
      · refine Eq.trans (o_aload_n d_Wy_takeOf_19 rfl) ?_
        obtain ⟨f3, h⟩ := w_f2_of h
        refine s_ref d_Wy_takeOf_20 pF_Wy_9 (fW_takes o _ f3) ?_
        refine Eq.trans (o_iload_n d_Wy_takeOf_23 rfl) ?_
        refine s_iald d_Wy_takeOf_24 (fW_takesA o _ f3) h (fun x4 h => ?_)
        refine Eq.trans (o_goto (t := 29) d_Wy_takeOf_25 (by decide)) ?_
        exact s_iret d_Wy_takeOf_29 rfl h
theorem c_Wy_takeOf (D : Nat) (hD : 1 ≤ D) (o : Nat) (i0 : Nat) (a1 : Int32) (T T1 : qT) (v : Int32) (h : f_Wy_takeOf o i0 a1 T = some (v, T1)) : q_ev q_Mt D 73 [.ref (o + 10 + 3 * i0), .int a1] (layC o T) = some (.inl (some (.int v)), layC o T1) := by
  obtain ⟨D, rfl⟩ : ∃ D', D = D' + 1 := ⟨D - 1, by omega⟩
  rw [o_ev (M := q_mWy_takeOf) (lo := [some (.ref (o + 10 + 3 * i0)), some (.int a1)]) rfl (Nat.le_of_ble_eq_true rfl) rfl]
  exact c_Wy_takeOf_0 D (by omega) o i0 a1 T T1 v h
