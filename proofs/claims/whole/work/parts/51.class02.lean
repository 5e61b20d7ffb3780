noncomputable def k_Wk_step_131 (o : Nat)  : qW (qJ ⊕ Unit) :=
  w_S 191 fun x1 =>
  w_if (x1 = 0) (
    w_rt ()) (
    w_S 192 fun x2 =>
    w_if (¬ x2 = 0) (
      w_rt ()) (
      w_C (f_Wk_followFromStart o) fun _ =>
      w_rt ()))
noncomputable def k_Wk_step_66 (o : Nat) (v1 : Int32) (v2 : Nat) (v3 : Int32) : qW (qJ ⊕ Unit) :=
  w_f2 v2 <|
  w_S (202 + 60 * v2) fun x2 =>
  w_if (x2 ≤ v3) (
    k_Wk_step_131 o) (
    w_S 193 fun x3 =>
    w_if (¬ x3 = 0) (
      k_Wk_step_131 o) (
      w_f2 v2 <|
      w_C (f_Wy_takeOf o v2 v3) fun x5 =>
      w_C (f_Pr_xOf o x5) fun x6 =>
      w_C (f_Cs_has o x6 v1) fun x7 =>
      w_if (x7 = 0) (
        w_go 66 [.int v1, .int (v3 + 1)] [(some v2)]) (
        w_f2 v2 <|
        w_C (f_Wy_copyMarks o v2 v3) fun _ =>
        w_C (f_Wk_follow o ((x5 + 1))) fun _ =>
        w_go 66 [.int v1, .int (v3 + 1)] [(some v2)])))
noncomputable def k_Wk_step_0 (o : Nat) (a1 : Int32) : qW (qJ ⊕ Unit) :=
  w_N 0 fun i1 =>
  w_N 1 fun i2 =>
  w_n 0 i2 <|
  w_n 1 i1 <|
  w_N 0 fun i3 =>
  w_f2 i3 <|
  w_s (202 + 60 * i3) 0 <|
  w_S 194 fun x5 =>
  w_s 194 ((x5 + 1)) <|
  w_z 193 0 <|
  w_S 192 fun x6 =>
  w_if (x6 = 0) (
    w_z 192 0 <|
    w_go 66 [.int a1, .int 0] [(some i1)]) (
    w_S 191 fun x7 =>
    w_if (x7 = 0) (
      w_z 192 0 <|
      w_go 66 [.int a1, .int 0] [(some i1)]) (
      w_z 192 1 <|
      w_go 66 [.int a1, .int 0] [(some i1)]))
noncomputable def b_Wk_step (o : Nat) : qJ → qW (qJ ⊕ Unit) := fun x => match x with
  | (0, [.int a1], []) => k_Wk_step_0 o a1
  | (66, [.int v1, .int v3], [some v2]) => k_Wk_step_66 o v1 v2 v3
  | _ => w_no
noncomputable def f_Wk_step (o : Nat) (a1 : Int32) : qW Unit := w_fix (b_Wk_step o) (0, [.int a1], [])
set_option maxRecDepth 100000 in
set_option maxHeartbeats 4000000 in
theorem c_Wk_step_131 (D : Nat) (hD : 5 ≤ D) (o : Nat) (n : Nat) (ih_66 : ∀ (v1 : Int32) (v2 : Nat) (v3 : Int32) (e4 : Option Value) (T T2 : qT) (v : Unit), w_run (b_Wk_step o) n (66, [.int v1, .int v3], [some v2]) T = some (v, T2) → q_out (q_ev q_Mt D) q_mWk_step (66, [some (.ref (o + 9)), some (.int v1), some (.ref (o + 10 + 3 * v2)), some (.int v3), e4], [], layC o T) = some (.inl (none), layC o T2))  (e1 : Option Value) (e2 : Option Value) (e3 : Option Value) (e4 : Option Value) (T T1 T2 : qT) (rr : qJ ⊕ Unit) (v : Unit) (h : k_Wk_step_131 o T = some (rr, T1)) (hE : w_end (b_Wk_step o) n rr T1 = some (v, T2)) : q_out (q_ev q_Mt D) q_mWk_step (131, [some (.ref (o + 9)), e1, e2, e3, e4], [], layC o T) = some (.inl (none), layC o T2) := by
  unfold k_Wk_step_131 at h
  refine Eq.trans (o_aload_n d_Wk_step_131 rfl) ?_
  refine s_get d_Wk_step_132 pF_Wk_45 (zC_Wk_searching o) h (fun x1 h => ?_)
  refine s_if_eq (t := 149) d_Wk_step_135 (by decide) h (fun h => ?_) (fun h => ?_)
  · exact s_vretJ d_Wk_step_149 rfl h hE
  · refine Eq.trans (o_aload_n d_Wk_step_138 rfl) ?_
    refine s_get d_Wk_step_139 pF_Wk_48 (zC_Wk_found o) h (fun x2 h => ?_)
    refine s_if_ne (t := 149) d_Wk_step_142 (by decide) h (fun h => ?_) (fun h => ?_)
    · exact s_vretJ d_Wk_step_149 rfl h hE
    · refine Eq.trans (o_aload_n d_Wk_step_145 rfl) ?_
      obtain ⟨u9, T2, h1, h⟩ := w_C_of h
      refine s_cV0v d_Wk_step_146 pM_Wk_74 (Nat.le_of_ble_eq_true rfl) (obC_9 o) (c_Wk_followFromStart D (by omega) o _ _ _ h1) ?_
      replace h1 := trivial; revert h; generalize T2 = T; intro h
      exact s_vretJ d_Wk_step_149 rfl h hE
set_option maxRecDepth 100000 in
set_option maxHeartbeats 4000000 in
theorem c_Wk_step_66 (D : Nat) (hD : 5 ≤ D) (o : Nat) (n : Nat) (ih_66 : ∀ (v1 : Int32) (v2 : Nat) (v3 : Int32) (e4 : Option Value) (T T2 : qT) (v : Unit), w_run (b_Wk_step o) n (66, [.int v1, .int v3], [some v2]) T = some (v, T2) → q_out (q_ev q_Mt D) q_mWk_step (66, [some (.ref (o + 9)), some (.int v1), some (.ref (o + 10 + 3 * v2)), some (.int v3), e4], [], layC o T) = some (.inl (none), layC o T2)) (v1 : Int32) (v2 : Nat) (v3 : Int32) (e4 : Option Value) (T T1 T2 : qT) (rr : qJ ⊕ Unit) (v : Unit) (h : k_Wk_step_66 o v1 v2 v3 T = some (rr, T1)) (hE : w_end (b_Wk_step o) n rr T1 = some (v, T2)) : q_out (q_ev q_Mt D) q_mWk_step (66, [some (.ref (o + 9)), some (.int v1), some (.ref (o + 10 + 3 * v2)), some (.int v3), e4], [], layC o T) = some (.inl (none), layC o T2) := by
  unfold k_Wk_step_66 at h
  refine Eq.trans (o_iload_n d_Wk_step_66 rfl) ?_
  refine Eq.trans (o_aload_n d_Wk_step_67 rfl) ?_
  obtain ⟨f1, h⟩ := w_f2_of h
  refine s_get d_Wk_step_68 pF_Wk_65 (fW_count o _ f1) h (fun x2 h => ?_)
  refine s_icmp_ge (t := 131) d_Wk_step_71 (by decide) h (fun h => ?_) (fun h => ?_)
  · exact c_Wk_step_131 D hD o n ih_66 _ _ _ _ _ _ _ _ _ h hE
  · refine Eq.trans (o_aload_n d_Wk_step_74 rfl) ?_
    refine s_get d_Wk_step_75 pF_Wk_51 (zC_Wk_cut o) h (fun x3 h => ?_)
    refine s_if_ne (t := 131) d_Wk_step_78 (by decide) h (fun h => ?_) (fun h => ?_)
    · exact c_Wk_step_131 D hD o n ih_66 _ _ _ _ _ _ _ _ _ h hE
    · refine Eq.trans (o_aload_n d_Wk_step_81 rfl) ?_
      refine Eq.trans (o_iload_n d_Wk_step_82 rfl) ?_
      obtain ⟨f4, h⟩ := w_f2_of h
      obtain ⟨x5, T2, h1, h⟩ := w_C_of h
      refine s_cV1i d_Wk_step_83 pM_Wk_77 (Nat.le_of_ble_eq_true rfl) (fW_obj o _ f4) (c_Wy_takeOf D (by omega) o _ _ _ _ _ h1) ?_
      replace h1 := trivial; revert h; generalize T2 = T; intro h
      refine Eq.trans (o_istore (lo' := [some (.ref (o + 9)), some (.int v1), some (.ref (o + 10 + 3 * v2)), some (.int v3), some (.int x5)]) d_Wk_step_86 (Nat.le_of_ble_eq_true rfl) rfl) ?_
      refine Eq.trans (o_aload_n d_Wk_step_88 rfl) ?_
      refine s_ref d_Wk_step_89 pF_Wk_61 (zC_Wk_sets o) ?_
      refine Eq.trans (o_aload_n d_Wk_step_92 rfl) ?_
      refine s_ref d_Wk_step_93 pF_Wk_57 (zC_Wk_program o) ?_
      refine Eq.trans (o_iload d_Wk_step_96 rfl) ?_
      obtain ⟨x6, T2, h1, h⟩ := w_C_of h
      refine s_cV1i d_Wk_step_98 pM_Wk_81 (Nat.le_of_ble_eq_true rfl) (obC_5 o) (c_Pr_xOf D (by omega) o _ _ _ _ h1) ?_
      replace h1 := trivial; revert h; generalize T2 = T; intro h
      refine Eq.trans (o_iload_n d_Wk_step_101 rfl) ?_
      obtain ⟨x7, T2, h1, h⟩ := w_C_of h
      refine s_cV2i d_Wk_step_102 pM_Wk_86 (Nat.le_of_ble_eq_true rfl) (obC_2 o) (c_Cs_has D (by omega) o _ _ _ _ _ h1) ?_
      replace h1 := trivial; revert h; generalize T2 = T; intro h
      refine s_if_eq (t := 125) d_Wk_step_105 (by decide) h (fun h => ?_) (fun h => ?_)
      · refine Eq.trans (o_iinc (v := (v3 + 1)) (lo' := [some (.ref (o + 9)), some (.int v1), some (.ref (o + 10 + 3 * v2)), some (.int (v3 + 1)), some (.int x5)]) d_Wk_step_125 rfl (by rw [show Int32.ofInt 1 = 1 from by decide]) (Nat.le_of_ble_eq_true rfl) rfl) ?_
        refine Eq.trans (o_goto (t := 66) d_Wk_step_128 (by decide)) ?_
        exact ih_66 _ _ _ _ _ _ _ (s_jump h hE)
      · refine Eq.trans (o_aload_n d_Wk_step_108 rfl) ?_
        refine Eq.trans (o_iload_n d_Wk_step_109 rfl) ?_
        refine Eq.trans (o_aload_n d_Wk_step_110 rfl) ?_
        refine s_ref d_Wk_step_111 pF_Wk_35 (zC_Wk_marks o) ?_
        obtain ⟨f8, h⟩ := w_f2_of h
        obtain ⟨u9, T2, h1, h⟩ := w_C_of h
        refine s_cV2v d_Wk_step_114 pM_Wk_92 (Nat.le_of_ble_eq_true rfl) (fW_obj o _ f8) (c_Wy_copyMarks D (by omega) o _ _ _ _ _ h1) ?_
        replace h1 := trivial; revert h; generalize T2 = T; intro h
        refine Eq.trans (o_aload_n d_Wk_step_117 rfl) ?_
        refine Eq.trans (o_iload d_Wk_step_118 rfl) ?_
        refine Eq.trans (o_iconst (v := 1) d_Wk_step_120 (by decide)) ?_
        refine Eq.trans (o_iadd d_Wk_step_121) ?_
        obtain ⟨u9, T2, h1, h⟩ := w_C_of h
        refine s_cV1v d_Wk_step_122 pM_Wk_96 (Nat.le_of_ble_eq_true rfl) (obC_9 o) (c_Wk_follow D (by omega) o _ _ _ _ h1) ?_
        replace h1 := trivial; revert h; generalize T2 = T; intro h
        refine Eq.trans (o_iinc (v := (v3 + 1)) (lo' := [some (.ref (o + 9)), some (.int v1), some (.ref (o + 10 + 3 * v2)), some (.int (v3 + 1)), some (.int x5)]) d_Wk_step_125 rfl (by rw [show Int32.ofInt 1 = 1 from by decide]) (Nat.le_of_ble_eq_true rfl) rfl) ?_
        refine Eq.trans (o_goto (t := 66) d_Wk_step_128 (by decide)) ?_
        exact ih_66 _ _ _ _ _ _ _ (s_jump h hE)
set_option maxRecDepth 100000 in
set_option maxHeartbeats 4000000 in
theorem c_Wk_step_0 (D : Nat) (hD : 5 ≤ D) (o : Nat) (n : Nat) (ih_66 : ∀ (v1 : Int32) (v2 : Nat) (v3 : Int32) (e4 : Option Value) (T T2 : qT) (v : Unit), w_run (b_Wk_step o) n (66, [.int v1, .int v3], [some v2]) T = some (v, T2) → q_out (q_ev q_Mt D) q_mWk_step (66, [some (.ref (o + 9)), some (.int v1), some (.ref (o + 10 + 3 * v2)), some (.int v3), e4], [], layC o T) = some (.inl (none), layC o T2)) (a1 : Int32)  (T T1 T2 : qT) (rr : qJ ⊕ Unit) (v : Unit) (h : k_Wk_step_0 o a1 T = some (rr, T1)) (hE : w_end (b_Wk_step o) n rr T1 = some (v, T2)) : q_out (q_ev q_Mt D) q_mWk_step (0, [some (.ref (o + 9)), some (.int a1), none, none, none], [], layC o T) = some (.inl (none), layC o T2) := by
  unfold k_Wk_step_0 at h
  refine Eq.trans (o_aload_n d_Wk_step_0 rfl) ?_
  refine s_getN d_Wk_step_1 pF_Wk_12 (faC_now o) h (fun i1 h => ?_)
  refine Eq.trans (o_astore_n (lo' := [some (.ref (o + 9)), some (.int a1), some (.ref (o + 10 + 3 * i1)), none, none]) d_Wk_step_4 (Nat.le_of_ble_eq_true rfl) rfl) ?_
  refine Eq.trans (o_aload_n d_Wk_step_5 rfl) ?_
  refine Eq.trans (o_aload_n d_Wk_step_6 rfl) ?_
  refine s_getN d_Wk_step_7 pF_Wk_18 (faC_before o) h (fun i2 h => ?_)
  refine s_putN d_Wk_step_10 pF_Wk_12 (faC_now o) h (fun T h => ?_)
  refine Eq.trans (o_aload_n d_Wk_step_13 rfl) ?_
  refine Eq.trans (o_aload_n d_Wk_step_14 rfl) ?_
  refine s_putN d_Wk_step_15 pF_Wk_18 (faC_before o) h (fun T h => ?_)
  refine Eq.trans (o_aload_n d_Wk_step_18 rfl) ?_
  refine s_getN d_Wk_step_19 pF_Wk_12 (faC_now o) h (fun i3 h => ?_)
  refine Eq.trans (o_iconst (v := 0) d_Wk_step_22 (by decide)) ?_
  obtain ⟨f4, h⟩ := w_f2_of h
  refine s_put d_Wk_step_23 pF_Wk_65 (fW_count o _ f4) h (fun T h => ?_)
  refine Eq.trans (o_aload_n d_Wk_step_26 rfl) ?_
  refine Eq.trans (o_dup d_Wk_step_27 rfl) ?_
  refine s_get d_Wk_step_28 pF_Wk_54 (zC_Wk_place o) h (fun x5 h => ?_)
  refine Eq.trans (o_iconst (v := 1) d_Wk_step_31 (by decide)) ?_
  refine Eq.trans (o_iadd d_Wk_step_32) ?_
  refine s_put d_Wk_step_33 pF_Wk_54 (zC_Wk_place o) h (fun T h => ?_)
  refine Eq.trans (o_aload_n d_Wk_step_36 rfl) ?_
  refine Eq.trans (o_iconst (v := 0) d_Wk_step_37 (by decide)) ?_
  refine s_putZ d_Wk_step_38 pF_Wk_51 (zC_Wk_cut o) h (fun T h => ?_)
  refine Eq.trans (o_aload_n d_Wk_step_41 rfl) ?_
  refine Eq.trans (o_aload_n d_Wk_step_42 rfl) ?_
  refine s_get d_Wk_step_43 pF_Wk_48 (zC_Wk_found o) h (fun x6 h => ?_)
  refine s_if_eq (t := 60) d_Wk_step_46 (by decide) h (fun h => ?_) (fun h => ?_)
  · refine Eq.trans (o_iconst (v := 0) d_Wk_step_60 (by decide)) ?_
    refine s_putZ d_Wk_step_61 pF_Wk_48 (zC_Wk_found o) h (fun T h => ?_)
    refine Eq.trans (o_iconst (v := 0) d_Wk_step_64 (by decide)) ?_
    refine Eq.trans (o_istore_n (lo' := [some (.ref (o + 9)), some (.int a1), some (.ref (o + 10 + 3 * i1)), some (.int 0), none]) d_Wk_step_65 (Nat.le_of_ble_eq_true rfl) rfl) ?_
    exact ih_66 _ _ _ _ _ _ _ (s_jump h hE)
  · refine Eq.trans (o_aload_n d_Wk_step_49 rfl) ?_
    refine s_get d_Wk_step_50 pF_Wk_45 (zC_Wk_searching o) h (fun x7 h => ?_)
    refine s_if_eq (t := 60) d_Wk_step_53 (by decide) h (fun h => ?_) (fun h => ?_)
    · refine Eq.trans (o_iconst (v := 0) d_Wk_step_60 (by decide)) ?_
      refine s_putZ d_Wk_step_61 pF_Wk_48 (zC_Wk_found o) h (fun T h => ?_)
      refine Eq.trans (o_iconst (v := 0) d_Wk_step_64 (by decide)) ?_
      refine Eq.trans (o_istore_n (lo' := [some (.ref (o + 9)), some (.int a1), some (.ref (o + 10 + 3 * i1)), some (.int 0), none]) d_Wk_step_65 (Nat.le_of_ble_eq_true rfl) rfl) ?_
      exact ih_66 _ _ _ _ _ _ _ (s_jump h hE)
    · refine Eq.trans (o_iconst (v := 1) d_Wk_step_56 (by decide)) ?_
      refine Eq.trans (o_goto (t := 61) d_Wk_step_57 (by decide)) ?_
      refine s_putZ d_Wk_step_61 pF_Wk_48 (zC_Wk_found o) h (fun T h => ?_)
      refine Eq.trans (o_iconst (v := 0) d_Wk_step_64 (by decide)) ?_
      refine Eq.trans (o_istore_n (lo' := [some (.ref (o + 9)), some (.int a1), some (.ref (o + 10 + 3 * i1)), some (.int 0), none]) d_Wk_step_65 (Nat.le_of_ble_eq_true rfl) rfl) ?_
      exact ih_66 _ _ _ _ _ _ _ (s_jump h hE)
theorem c_Wk_step_lp (D : Nat) (hD : 5 ≤ D) (o : Nat) : ∀ n : Nat, (∀ (v1 : Int32) (v2 : Nat) (v3 : Int32) (e4 : Option Value) (T T2 : qT) (v : Unit), w_run (b_Wk_step o) n (66, [.int v1, .int v3], [some v2]) T = some (v, T2) → q_out (q_ev q_Mt D) q_mWk_step (66, [some (.ref (o + 9)), some (.int v1), some (.ref (o + 10 + 3 * v2)), some (.int v3), e4], [], layC o T) = some (.inl (none), layC o T2)) := by
  intro n
  induction n with
  | zero => exact (fun v1 v2 v3 e4 T T2 v h => by cases h)
  | succ n ih =>
    have ih_66 := ih
    · intro v1 v2 v3 e4 T T2 v h
      obtain ⟨rr, T1, hb, hE⟩ := w_run_succ h
      exact c_Wk_step_66 D hD o n ih_66 v1 v2 v3 e4 T T1 T2 rr v hb hE
theorem c_Wk_step (D : Nat) (hD : 6 ≤ D) (o : Nat) (a1 : Int32) (T T2 : qT) (v : Unit) (h : f_Wk_step o a1 T = some (v, T2)) : q_ev q_Mt D 68 [.ref (o + 9), .int a1] (layC o T) = some (.inl (none), layC o T2) := by
  obtain ⟨D, rfl⟩ : ∃ D', D = D' + 1 := ⟨D - 1, by omega⟩
  obtain ⟨n, hn⟩ := w_fix_iff.mp h
  cases n with
  | zero => cases hn
  | succ n =>
    obtain ⟨rr, T1, hb, hE⟩ := w_run_succ hn
    have hl := c_Wk_step_lp D (by omega) o n
    have ih_66 := hl
    rw [o_ev (M := q_mWk_step) (lo := [some (.ref (o + 9)), some (.int a1), none, none, none]) rfl (Nat.le_of_ble_eq_true rfl) rfl]
    exact c_Wk_step_0 D (by omega) o n ih_66 a1 T T1 T2 rr v hb hE
noncomputable def f_PW_feed (o : Nat) (a1 : Int32) : qW Int32 :=
  w_S 190 fun x1 =>
  w_if (x1 = 0) (
    w_ret .boolean 0) (
    w_if (256 ≤ a1) (
      w_ret .boolean 0) (
      w_S 194 fun x2 =>
      w_if (x2 < 200) (
        w_C (f_Wk_step o a1) fun _ =>
        w_ret .boolean 1) (
        w_ret .boolean 0)))
set_option maxRecDepth 100000 in
set_option maxHeartbeats 4000000 in
theorem c_PW_feed_0 (D : Nat) (hD : 6 ≤ D) (o : Nat) (a1 : Int32)  (T T1 : qT) (v : Int32) (h : f_PW_feed o a1 T = some (v, T1)) : q_out (q_ev q_Mt D) q_mPW_feed (0, [some (.ref (o + 0)), some (.int a1)], [], layC o T) = some (.inl (some (.int v)), layC o T1) := by
  unfold f_PW_feed at h
  refine Eq.trans (o_aload_n d_PW_feed_0 rfl) ?_
  refine s_ref d_PW_feed_1 pF_PW_48 (zC_PW_walk o) ?_
  refine s_get d_PW_feed_4 pF_PW_123 (zC_Wk_begun o) h (fun x1 h => ?_)
  refine s_if_eq (t := 30) d_PW_feed_7 (by decide) h (fun h => ?_) (fun h => ?_)
  · refine Eq.trans (o_iconst (v := 0) d_PW_feed_30 (by decide)) ?_
    exact s_iret d_PW_feed_31 rfl h
  · refine Eq.trans (o_iload_n d_PW_feed_10 rfl) ?_
    refine Eq.trans (o_sipush (v := 256) d_PW_feed_11 (by decide)) ?_
    refine s_icmp_ge (t := 30) d_PW_feed_14 (by decide) h (fun h => ?_) (fun h => ?_)
    · refine Eq.trans (o_iconst (v := 0) d_PW_feed_30 (by decide)) ?_
      exact s_iret d_PW_feed_31 rfl h
    · refine Eq.trans (o_aload_n d_PW_feed_17 rfl) ?_
      refine s_ref d_PW_feed_18 pF_PW_48 (zC_PW_walk o) ?_
      refine s_get d_PW_feed_21 pF_PW_127 (zC_Wk_place o) h (fun x2 h => ?_)
      refine Eq.trans (o_sipush (v := 200) d_PW_feed_24 (by decide)) ?_
      refine s_icmp_lt (t := 32) d_PW_feed_27 (by decide) h (fun h => ?_) (fun h => ?_)
      · refine Eq.trans (o_aload_n d_PW_feed_32 rfl) ?_
        refine s_ref d_PW_feed_33 pF_PW_48 (zC_PW_walk o) ?_
        refine Eq.trans (o_iload_n d_PW_feed_36 rfl) ?_
        obtain ⟨u9, T2, h1, h⟩ := w_C_of h
        refine s_cV1v d_PW_feed_37 pM_PW_130 (Nat.le_of_ble_eq_true rfl) (obC_9 o) (c_Wk_step D (by omega) o _ _ _ _ h1) ?_
        replace h1 := trivial; revert h; generalize T2 = T; intro h
        refine Eq.trans (o_iconst (v := 1) d_PW_feed_40 (by decide)) ?_
        exact s_iret d_PW_feed_41 rfl h
      · refine Eq.trans (o_iconst (v := 0) d_PW_feed_30 (by decide)) ?_
        exact s_iret d_PW_feed_31 rfl h
theorem c_PW_feed (D : Nat) (hD : 7 ≤ D) (o : Nat) (a1 : Int32) (T T1 : qT) (v : Int32) (h : f_PW_feed o a1 T = some (v, T1)) : q_ev q_Mt D 7 [.ref (o + 0), .int a1] (layC o T) = some (.inl (some (.int v)), layC o T1) := by
  obtain ⟨D, rfl⟩ : ∃ D', D = D' + 1 := ⟨D - 1, by omega⟩
  rw [o_ev (M := q_mPW_feed) (lo := [some (.ref (o + 0)), some (.int a1)]) rfl (Nat.le_of_ble_eq_true rfl) rfl]
  exact c_PW_feed_0 D (by omega) o a1 T T1 v h
noncomputable def f_PW_matched (o : Nat)  : qW Int32 :=
  w_S 190 fun x1 =>
  w_if (x1 = 0) (
    w_ret .boolean 0) (
    w_S 192 fun x2 =>
    w_if (x2 = 0) (
      w_ret .boolean 0) (
      w_ret .boolean 1))
set_option maxRecDepth 100000 in
set_option maxHeartbeats 4000000 in
theorem c_PW_matched_0 (D : Nat) (hD : 0 ≤ D) (o : Nat)   (T T1 : qT) (v : Int32) (h : f_PW_matched o T = some (v, T1)) : q_out (q_ev q_Mt D) q_mPW_matched (0, [some (.ref (o + 0))], [], layC o T) = some (.inl (some (.int v)), layC o T1) := by
  unfold f_PW_matched at h
  refine Eq.trans (o_aload_n d_PW_matched_0 rfl) ?_
  refine s_ref d_PW_matched_1 pF_PW_48 (zC_PW_walk o) ?_
  refine s_get d_PW_matched_4 pF_PW_123 (zC_Wk_begun o) h (fun x1 h => ?_)
  refine s_if_eq (t := 24) d_PW_matched_7 (by decide) h (fun h => ?_) (fun h => ?_)
  · refine Eq.trans (o_iconst (v := 0) d_PW_matched_24 (by decide)) ?_
    exact s_iret d_PW_matched_25 rfl h
  · refine Eq.trans (o_aload_n d_PW_matched_10 rfl) ?_
    refine s_ref d_PW_matched_11 pF_PW_48 (zC_PW_walk o) ?_
    refine s_get d_PW_matched_14 pF_PW_134 (zC_Wk_found o) h (fun x2 h => ?_)
    refine s_if_eq (t := 24) d_PW_matched_17 (by decide) h (fun h => ?_) (fun h => ?_)
    · refine Eq.trans (o_iconst (v := 0) d_PW_matched_24 (by decide)) ?_
      exact s_iret d_PW_matched_25 rfl h
    · refine Eq.trans (o_iconst (v := 1) d_PW_matched_20 (by decide)) ?_
      refine Eq.trans (o_goto (t := 25) d_PW_matched_21 (by decide)) ?_
      exact s_iret d_PW_matched_25 rfl h
theorem c_PW_matched (D : Nat) (hD : 1 ≤ D) (o : Nat)  (T T1 : qT) (v : Int32) (h : f_PW_matched o  T = some (v, T1)) : q_ev q_Mt D 8 [.ref (o + 0)] (layC o T) = some (.inl (some (.int v)), layC o T1) := by
  obtain ⟨D, rfl⟩ : ∃ D', D = D' + 1 := ⟨D - 1, by omega⟩
  rw [o_ev (M := q_mPW_matched) (lo := [some (.ref (o + 0))]) rfl (Nat.le_of_ble_eq_true rfl) rfl]
  exact c_PW_matched_0 D (by omega) o  T T1 v h
noncomputable def f_PW_live (o : Nat)  : qW Int32 :=
  w_S 190 fun x1 =>
  w_if (x1 = 0) (
    w_ret .int 0) (
    w_N 0 fun i2 =>
    w_f2 i2 <|
    w_S (202 + 60 * i2) fun x4 =>
    w_ret .int x4)
set_option maxRecDepth 100000 in
set_option maxHeartbeats 4000000 in
theorem c_PW_live_0 (D : Nat) (hD : 0 ≤ D) (o : Nat)   (T T1 : qT) (v : Int32) (h : f_PW_live o T = some (v, T1)) : q_out (q_ev q_Mt D) q_mPW_live (0, [some (.ref (o + 0))], [], layC o T) = some (.inl (some (.int v)), layC o T1) := by
  unfold f_PW_live at h
  refine Eq.trans (o_aload_n d_PW_live_0 rfl) ?_
  refine s_ref d_PW_live_1 pF_PW_48 (zC_PW_walk o) ?_
  refine s_get d_PW_live_4 pF_PW_123 (zC_Wk_begun o) h (fun x1 h => ?_)
  refine s_if_eq (t := 23) d_PW_live_7 (by decide) h (fun h => ?_) (fun h => ?_)
  · refine Eq.trans (o_iconst (v := 0) d_PW_live_23 (by decide)) ?_
    exact s_iret d_PW_live_24 rfl h
  · refine Eq.trans (o_aload_n d_PW_live_10 rfl) ?_
    refine s_ref d_PW_live_11 pF_PW_48 (zC_PW_walk o) ?_
    refine s_getN d_PW_live_14 pF_PW_137 (faC_now o) h (fun i2 h => ?_)
    obtain ⟨f3, h⟩ := w_f2_of h
    refine s_get d_PW_live_17 pF_PW_141 (fW_count o _ f3) h (fun x4 h => ?_)
    refine Eq.trans (o_goto (t := 24) d_PW_live_20 (by decide)) ?_
    exact s_iret d_PW_live_24 rfl h
theorem c_PW_live (D : Nat) (hD : 1 ≤ D) (o : Nat)  (T T1 : qT) (v : Int32) (h : f_PW_live o  T = some (v, T1)) : q_ev q_Mt D 9 [.ref (o + 0)] (layC o T) = some (.inl (some (.int v)), layC o T1) := by
  obtain ⟨D, rfl⟩ : ∃ D', D = D' + 1 := ⟨D - 1, by omega⟩
  rw [o_ev (M := q_mPW_live) (lo := [some (.ref (o + 0))]) rfl (Nat.le_of_ble_eq_true rfl) rfl]
  exact c_PW_live_0 D (by omega) o  T T1 v h
noncomputable def f_Wk_standsAt (o : Nat) (a1 : Int32) : qW Int32 :=
  w_if (a1 < 0) (
    w_ret .boolean 0) (
    w_if (a1 < 160) (
      w_C (f_Pr_kindOf o a1) fun x1 =>
      w_if (¬ x1 = 0) (
        w_ret .boolean 0) (
        w_A 16 160 a1 fun x2 =>
        w_S 194 fun x3 =>
        w_if (¬ x2 = x3) (
          w_ret .boolean 0) (
          w_ret .boolean 1))) (
      w_ret .boolean 0))
set_option maxRecDepth 100000 in
set_option maxHeartbeats 4000000 in
theorem c_Wk_standsAt_0 (D : Nat) (hD : 2 ≤ D) (o : Nat) (a1 : Int32)  (T T1 : qT) (v : Int32) (h : f_Wk_standsAt o a1 T = some (v, T1)) : q_out (q_ev q_Mt D) q_mWk_standsAt (0, [some (.ref (o + 9)), some (.int a1)], [], layC o T) = some (.inl (some (.int v)), layC o T1) := by
  unfold f_Wk_standsAt at h
  refine Eq.trans (o_iload_n d_Wk_standsAt_0 rfl) ?_
  refine s_if_lt (t := 11) d_Wk_standsAt_1 (by decide) h (fun h => ?_) (fun h => ?_)
  · refine Eq.trans (o_iconst (v := 0) d_Wk_standsAt_11 (by decide)) ?_
    exact s_iret d_Wk_standsAt_12 rfl h
  · refine Eq.trans (o_iload_n d_Wk_standsAt_4 rfl) ?_
    refine Eq.trans (o_sipush (v := 160) d_Wk_standsAt_5 (by decide)) ?_
    refine s_icmp_lt (t := 13) d_Wk_standsAt_8 (by decide) h (fun h => ?_) (fun h => ?_)
    · refine Eq.trans (o_aload_n d_Wk_standsAt_13 rfl) ?_
      refine s_ref d_Wk_standsAt_14 pF_Wk_57 (zC_Wk_program o) ?_
      refine Eq.trans (o_iload_n d_Wk_standsAt_17 rfl) ?_
      obtain ⟨x1, T2, h1, h⟩ := w_C_of h
      refine s_cV1i d_Wk_standsAt_18 pM_Wk_113 (Nat.le_of_ble_eq_true rfl) (obC_5 o) (c_Pr_kindOf D (by omega) o _ _ _ _ h1) ?_
      replace h1 := trivial; revert h; generalize T2 = T; intro h
      refine s_if_ne (t := 41) d_Wk_standsAt_21 (by decide) h (fun h => ?_) (fun h => ?_)
      · refine Eq.trans (o_iconst (v := 0) d_Wk_standsAt_41 (by decide)) ?_
        exact s_iret d_Wk_standsAt_42 rfl h
      · refine Eq.trans (o_aload_n d_Wk_standsAt_24 rfl) ?_
        refine s_ref d_Wk_standsAt_25 pF_Wk_21 (zC_Wk_cameAt o) ?_
        refine Eq.trans (o_iload_n d_Wk_standsAt_28 rfl) ?_
        refine s_iald d_Wk_standsAt_29 (rC_16 o) h (fun x2 h => ?_)
        refine Eq.trans (o_aload_n d_Wk_standsAt_30 rfl) ?_
        refine s_get d_Wk_standsAt_31 pF_Wk_54 (zC_Wk_place o) h (fun x3 h => ?_)
        refine s_icmp_ne (t := 41) d_Wk_standsAt_34 (by decide) h (fun h => ?_) (fun h => ?_)
        · refine Eq.trans (o_iconst (v := 0) d_Wk_standsAt_41 (by decide)) ?_
          exact s_iret d_Wk_standsAt_42 rfl h
        · refine Eq.trans (o_iconst (v := 1) d_Wk_standsAt_37 (by decide)) ?_
          refine Eq.trans (o_goto (t := 42) d_Wk_standsAt_38 (by decide)) ?_
          exact s_iret d_Wk_standsAt_42 rfl h
    · refine Eq.trans (o_iconst (v := 0) d_Wk_standsAt_11 (by decide)) ?_
      exact s_iret d_Wk_standsAt_12 rfl h
theorem c_Wk_standsAt (D : Nat) (hD : 3 ≤ D) (o : Nat) (a1 : Int32) (T T1 : qT) (v : Int32) (h : f_Wk_standsAt o a1 T = some (v, T1)) : q_ev q_Mt D 69 [.ref (o + 9), .int a1] (layC o T) = some (.inl (some (.int v)), layC o T1) := by
  obtain ⟨D, rfl⟩ : ∃ D', D = D' + 1 := ⟨D - 1, by omega⟩
  rw [o_ev (M := q_mWk_standsAt) (lo := [some (.ref (o + 9)), some (.int a1)]) rfl (Nat.le_of_ble_eq_true rfl) rfl]
  exact c_Wk_standsAt_0 D (by omega) o a1 T T1 v h
noncomputable def f_PW_isLive (o : Nat) (a1 : Int32) : qW Int32 :=
  w_S 190 fun x1 =>
  w_if (x1 = 0) (
    w_ret .boolean 0) (
    w_C (f_Wk_standsAt o a1) fun x2 =>
    w_if (x2 = 0) (
      w_ret .boolean 0) (
      w_ret .boolean 1))
set_option maxRecDepth 100000 in
set_option maxHeartbeats 4000000 in
theorem c_PW_isLive_0 (D : Nat) (hD : 3 ≤ D) (o : Nat) (a1 : Int32)  (T T1 : qT) (v : Int32) (h : f_PW_isLive o a1 T = some (v, T1)) : q_out (q_ev q_Mt D) q_mPW_isLive (0, [some (.ref (o + 0)), some (.int a1)], [], layC o T) = some (.inl (some (.int v)), layC o T1) := by
  unfold f_PW_isLive at h
  refine Eq.trans (o_aload_n d_PW_isLive_0 rfl) ?_
  refine s_ref d_PW_isLive_1 pF_PW_48 (zC_PW_walk o) ?_
  refine s_get d_PW_isLive_4 pF_PW_123 (zC_Wk_begun o) h (fun x1 h => ?_)
  refine s_if_eq (t := 25) d_PW_isLive_7 (by decide) h (fun h => ?_) (fun h => ?_)
  · refine Eq.trans (o_iconst (v := 0) d_PW_isLive_25 (by decide)) ?_
    exact s_iret d_PW_isLive_26 rfl h
  · refine Eq.trans (o_aload_n d_PW_isLive_10 rfl) ?_
    refine s_ref d_PW_isLive_11 pF_PW_48 (zC_PW_walk o) ?_
    refine Eq.trans (o_iload_n d_PW_isLive_14 rfl) ?_
    obtain ⟨x2, T2, h1, h⟩ := w_C_of h
    refine s_cV1i d_PW_isLive_15 pM_PW_145 (Nat.le_of_ble_eq_true rfl) (obC_9 o) (c_Wk_standsAt D (by omega) o _ _ _ _ h1) ?_
    replace h1 := trivial; revert h; generalize T2 = T; intro h
    refine s_if_eq (t := 25) d_PW_isLive_18 (by decide) h (fun h => ?_) (fun h => ?_)
    · refine Eq.trans (o_iconst (v := 0) d_PW_isLive_25 (by decide)) ?_
      exact s_iret d_PW_isLive_26 rfl h
    · refine Eq.trans (o_iconst (v := 1) d_PW_isLive_21 (by decide)) ?_
      refine Eq.trans (o_goto (t := 26) d_PW_isLive_22 (by decide)) ?_
      exact s_iret d_PW_isLive_26 rfl h
theorem c_PW_isLive (D : Nat) (hD : 4 ≤ D) (o : Nat) (a1 : Int32) (T T1 : qT) (v : Int32) (h : f_PW_isLive o a1 T = some (v, T1)) : q_ev q_Mt D 10 [.ref (o + 0), .int a1] (layC o T) = some (.inl (some (.int v)), layC o T1) := by
  obtain ⟨D, rfl⟩ : ∃ D', D = D' + 1 := ⟨D - 1, by omega⟩
  rw [o_ev (M := q_mPW_isLive) (lo := [some (.ref (o + 0)), some (.int a1)]) rfl (Nat.le_of_ble_eq_true rfl) rfl]
  exact c_PW_isLive_0 D (by omega) o a1 T T1 v h
noncomputable def f_Wk_foundMark (o : Nat) (a1 : Int32) : qW Int32 :=
  w_S 192 fun x1 =>
  w_if (x1 = 0) (
    w_ret .int ((-1))) (
    w_if (a1 < 0) (
      w_ret .int ((-1))) (
      w_if (14 ≤ a1) (
        w_ret .int ((-1))) (
        w_A 20 14 a1 fun x2 =>
        w_ret .int x2)))
set_option maxRecDepth 100000 in
set_option maxHeartbeats 4000000 in
theorem c_Wk_foundMark_0 (D : Nat) (hD : 0 ≤ D) (o : Nat) (a1 : Int32)  (T T1 : qT) (v : Int32) (h : f_Wk_foundMark o a1 T = some (v, T1)) : q_out (q_ev q_Mt D) q_mWk_foundMark (0, [some (.ref (o + 9)), some (.int a1)], [], layC o T) = some (.inl (some (.int v)), layC o T1) := by
  unfold f_Wk_foundMark at h
  refine Eq.trans (o_aload_n d_Wk_foundMark_0 rfl) ?_
  refine s_get d_Wk_foundMark_1 pF_Wk_48 (zC_Wk_found o) h (fun x1 h => ?_)
  refine s_if_eq (t := 26) d_Wk_foundMark_4 (by decide) h (fun h => ?_) (fun h => ?_)
  · refine Eq.trans (o_iconst (v := (-1)) d_Wk_foundMark_26 (by decide)) ?_
    exact s_iret d_Wk_foundMark_27 rfl h
  · refine Eq.trans (o_iload_n d_Wk_foundMark_7 rfl) ?_
    refine s_if_lt (t := 26) d_Wk_foundMark_8 (by decide) h (fun h => ?_) (fun h => ?_)
    · refine Eq.trans (o_iconst (v := (-1)) d_Wk_foundMark_26 (by decide)) ?_
      exact s_iret d_Wk_foundMark_27 rfl h
    · refine Eq.trans (o_iload_n d_Wk_foundMark_11 rfl) ?_
      refine Eq.trans (o_bipush (v := 14) d_Wk_foundMark_12 (by decide)) ?_
      refine s_icmp_ge (t := 26) d_Wk_foundMark_14 (by decide) h (fun h => ?_) (fun h => ?_)
      · refine Eq.trans (o_iconst (v := (-1)) d_Wk_foundMark_26 (by decide)) ?_
        exact s_iret d_Wk_foundMark_27 rfl h
      · refine Eq.trans (o_aload_n d_Wk_foundMark_17 rfl) ?_
        refine s_ref d_Wk_foundMark_18 pF_Wk_38 (zC_Wk_foundMarks o) ?_
        refine Eq.trans (o_iload_n d_Wk_foundMark_21 rfl) ?_
        refine s_iald d_Wk_foundMark_22 (rC_20 o) h (fun x2 h => ?_)
        refine Eq.trans (o_goto (t := 27) d_Wk_foundMark_23 (by decide)) ?_
        exact s_iret d_Wk_foundMark_27 rfl h
theorem c_Wk_foundMark (D : Nat) (hD : 1 ≤ D) (o : Nat) (a1 : Int32) (T T1 : qT) (v : Int32) (h : f_Wk_foundMark o a1 T = some (v, T1)) : q_ev q_Mt D 70 [.ref (o + 9), .int a1] (layC o T) = some (.inl (some (.int v)), layC o T1) := by
  obtain ⟨D, rfl⟩ : ∃ D', D = D' + 1 := ⟨D - 1, by omega⟩
  rw [o_ev (M := q_mWk_foundMark) (lo := [some (.ref (o + 9)), some (.int a1)]) rfl (Nat.le_of_ble_eq_true rfl) rfl]
  exact c_Wk_foundMark_0 D (by omega) o a1 T T1 v h
noncomputable def f_PW_mark (o : Nat) (a1 : Int32) : qW Int32 :=
  w_S 190 fun x1 =>
  w_if (x1 = 0) (
    w_ret .int ((-1))) (
    w_C (f_Wk_foundMark o a1) fun x2 =>
    w_ret .int x2)
set_option maxRecDepth 100000 in
set_option maxHeartbeats 4000000 in
theorem c_PW_mark_0 (D : Nat) (hD : 1 ≤ D) (o : Nat) (a1 : Int32)  (T T1 : qT) (v : Int32) (h : f_PW_mark o a1 T = some (v, T1)) : q_out (q_ev q_Mt D) q_mPW_mark (0, [some (.ref (o + 0)), some (.int a1)], [], layC o T) = some (.inl (some (.int v)), layC o T1) := by
  unfold f_PW_mark at h
  refine Eq.trans (o_aload_n d_PW_mark_0 rfl) ?_
  refine s_ref d_PW_mark_1 pF_PW_48 (zC_PW_walk o) ?_
  refine s_get d_PW_mark_4 pF_PW_123 (zC_Wk_begun o) h (fun x1 h => ?_)
  refine s_if_eq (t := 21) d_PW_mark_7 (by decide) h (fun h => ?_) (fun h => ?_)
  · refine Eq.trans (o_iconst (v := (-1)) d_PW_mark_21 (by decide)) ?_
    exact s_iret d_PW_mark_22 rfl h
  · refine Eq.trans (o_aload_n d_PW_mark_10 rfl) ?_
    refine s_ref d_PW_mark_11 pF_PW_48 (zC_PW_walk o) ?_
    refine Eq.trans (o_iload_n d_PW_mark_14 rfl) ?_
    obtain ⟨x2, T2, h1, h⟩ := w_C_of h
    refine s_cV1i d_PW_mark_15 pM_PW_148 (Nat.le_of_ble_eq_true rfl) (obC_9 o) (c_Wk_foundMark D (by omega) o _ _ _ _ h1) ?_
    replace h1 := trivial; revert h; generalize T2 = T; intro h
    refine Eq.trans (o_goto (t := 22) d_PW_mark_18 (by decide)) ?_
    exact s_iret d_PW_mark_22 rfl h
theorem c_PW_mark (D : Nat) (hD : 2 ≤ D) (o : Nat) (a1 : Int32) (T T1 : qT) (v : Int32) (h : f_PW_mark o a1 T = some (v, T1)) : q_ev q_Mt D 11 [.ref (o + 0), .int a1] (layC o T) = some (.inl (some (.int v)), layC o T1) := by
  obtain ⟨D, rfl⟩ : ∃ D', D = D' + 1 := ⟨D - 1, by omega⟩
  rw [o_ev (M := q_mPW_mark) (lo := [some (.ref (o + 0)), some (.int a1)]) rfl (Nat.le_of_ble_eq_true rfl) rfl]
  exact c_PW_mark_0 D (by omega) o a1 T T1 v h
noncomputable def f_PW_fed (o : Nat)  : qW Int32 :=
  w_S 190 fun x1 =>
  w_if (x1 = 0) (
    w_ret .int ((-1))) (
    w_S 194 fun x2 =>
    w_ret .int x2)
set_option maxRecDepth 100000 in
set_option maxHeartbeats 4000000 in
theorem c_PW_fed_0 (D : Nat) (hD : 0 ≤ D) (o : Nat)   (T T1 : qT) (v : Int32) (h : f_PW_fed o T = some (v, T1)) : q_out (q_ev q_Mt D) q_mPW_fed (0, [some (.ref (o + 0))], [], layC o T) = some (.inl (some (.int v)), layC o T1) := by
  unfold f_PW_fed at h
  refine Eq.trans (o_aload_n d_PW_fed_0 rfl) ?_
  refine s_ref d_PW_fed_1 pF_PW_48 (zC_PW_walk o) ?_
  refine s_get d_PW_fed_4 pF_PW_123 (zC_Wk_begun o) h (fun x1 h => ?_)
  refine s_if_eq (t := 20) d_PW_fed_7 (by decide) h (fun h => ?_) (fun h => ?_)
  · refine Eq.trans (o_iconst (v := (-1)) d_PW_fed_20 (by decide)) ?_
    exact s_iret d_PW_fed_21 rfl h
  · refine Eq.trans (o_aload_n d_PW_fed_10 rfl) ?_
    refine s_ref d_PW_fed_11 pF_PW_48 (zC_PW_walk o) ?_
    refine s_get d_PW_fed_14 pF_PW_127 (zC_Wk_place o) h (fun x2 h => ?_)
    refine Eq.trans (o_goto (t := 21) d_PW_fed_17 (by decide)) ?_
    exact s_iret d_PW_fed_21 rfl h
theorem c_PW_fed (D : Nat) (hD : 1 ≤ D) (o : Nat)  (T T1 : qT) (v : Int32) (h : f_PW_fed o  T = some (v, T1)) : q_ev q_Mt D 12 [.ref (o + 0)] (layC o T) = some (.inl (some (.int v)), layC o T1) := by
  obtain ⟨D, rfl⟩ : ∃ D', D = D' + 1 := ⟨D - 1, by omega⟩
  rw [o_ev (M := q_mPW_fed) (lo := [some (.ref (o + 0))]) rfl (Nat.le_of_ble_eq_true rfl) rfl]
  exact c_PW_fed_0 D (by omega) o  T T1 v h
noncomputable def f_Pa_peek (o : Nat)  : qW Int32 :=
  w_S 83 fun x1 =>
  w_if (x1 < 0) (
    w_ret .int ((-1))) (
    w_S 83 fun x2 =>
    w_S 82 fun x3 =>
    w_if (x3 ≤ x2) (
      w_ret .int ((-1))) (
      w_S 83 fun x4 =>
      w_if (48 ≤ x4) (
        w_ret .int ((-1))) (
        w_S 83 fun x5 =>
        w_A 1 48 x5 fun x6 =>
        w_ret .int x6)))
set_option maxRecDepth 100000 in
set_option maxHeartbeats 4000000 in
theorem c_Pa_peek_0 (D : Nat) (hD : 0 ≤ D) (o : Nat)   (T T1 : qT) (v : Int32) (h : f_Pa_peek o T = some (v, T1)) : q_out (q_ev q_Mt D) q_mPa_peek (0, [some (.ref (o + 4))], [], layC o T) = some (.inl (some (.int v)), layC o T1) := by
  unfold f_Pa_peek at h
  refine Eq.trans (o_aload_n d_Pa_peek_0 rfl) ?_
  refine s_get d_Pa_peek_1 pF_Pa_15 (zC_Pa_at o) h (fun x1 h => ?_)
  refine s_if_lt (t := 42) d_Pa_peek_4 (by decide) h (fun h => ?_) (fun h => ?_)
  · refine Eq.trans (o_iconst (v := (-1)) d_Pa_peek_42 (by decide)) ?_
    exact s_iret d_Pa_peek_43 rfl h
  · refine Eq.trans (o_aload_n d_Pa_peek_7 rfl) ?_
    refine s_get d_Pa_peek_8 pF_Pa_15 (zC_Pa_at o) h (fun x2 h => ?_)
    refine Eq.trans (o_aload_n d_Pa_peek_11 rfl) ?_
    refine s_get d_Pa_peek_12 pF_Pa_9 (zC_Pa_length o) h (fun x3 h => ?_)
    refine s_icmp_ge (t := 42) d_Pa_peek_15 (by decide) h (fun h => ?_) (fun h => ?_)
    · refine Eq.trans (o_iconst (v := (-1)) d_Pa_peek_42 (by decide)) ?_
      exact s_iret d_Pa_peek_43 rfl h
    · refine Eq.trans (o_aload_n d_Pa_peek_18 rfl) ?_
      refine s_get d_Pa_peek_19 pF_Pa_15 (zC_Pa_at o) h (fun x4 h => ?_)
      refine Eq.trans (o_aload_n d_Pa_peek_22 rfl) ?_
      refine s_ref d_Pa_peek_23 pF_Pa_24 (zC_Pa_text o) ?_
      refine Eq.trans (o_alen (v := 48) d_Pa_peek_26 ((rC_1 o _).1) (by decide) (by decide)) ?_
      refine s_icmp_ge (t := 42) d_Pa_peek_27 (by decide) h (fun h => ?_) (fun h => ?_)
      · refine Eq.trans (o_iconst (v := (-1)) d_Pa_peek_42 (by decide)) ?_
        exact s_iret d_Pa_peek_43 rfl h
      · refine Eq.trans (o_aload_n d_Pa_peek_30 rfl) ?_
        refine s_ref d_Pa_peek_31 pF_Pa_24 (zC_Pa_text o) ?_
        refine Eq.trans (o_aload_n d_Pa_peek_34 rfl) ?_
        refine s_get d_Pa_peek_35 pF_Pa_15 (zC_Pa_at o) h (fun x5 h => ?_)
        refine s_cald d_Pa_peek_38 (rC_1 o) h (fun x6 h => ?_)
        refine Eq.trans (o_goto (t := 43) d_Pa_peek_39 (by decide)) ?_
        exact s_iret d_Pa_peek_43 rfl h
theorem c_Pa_peek (D : Nat) (hD : 1 ≤ D) (o : Nat)  (T T1 : qT) (v : Int32) (h : f_Pa_peek o  T = some (v, T1)) : q_ev q_Mt D 25 [.ref (o + 4)] (layC o T) = some (.inl (some (.int v)), layC o T1) := by
  obtain ⟨D, rfl⟩ : ∃ D', D = D' + 1 := ⟨D - 1, by omega⟩
  rw [o_ev (M := q_mPa_peek) (lo := [some (.ref (o + 4))]) rfl (Nat.le_of_ble_eq_true rfl) rfl]
  exact c_Pa_peek_0 D (by omega) o  T T1 v h
noncomputable def f_Rp_size (o : Nat) (p0 : Nat) : qW Int32 :=
  w_DI o p0 4 7 fun x1 =>
  w_if (x1 = 0) (
    w_DI o p0 4 6 fun x2 =>
    w_if (x2 = 0) (
      w_DI o p0 4 4 fun x3 =>
      w_DI o p0 4 3 fun x4 =>
      w_DI o p0 4 5 fun x5 =>
      w_DI o p0 4 4 fun x6 =>
      w_DI o p0 4 3 fun x7 =>
      w_ret .int (((x3 * x4) + ((x5 - x6) * (x7 + 1))))) (
      w_DI o p0 4 4 fun x8 =>
      w_DI o p0 4 3 fun x9 =>
      w_ret .int ((((x8 + 1) * x9) + 2)))) (
    w_DI o p0 4 3 fun x10 =>
    w_ret .int ((x10 + 1)))
set_option maxRecDepth 100000 in
set_option maxHeartbeats 4000000 in
theorem c_Rp_size_0 (D : Nat) (hD : 0 ≤ D) (o : Nat) (p0 : Nat)  (T T1 : qT) (v : Int32) (h : f_Rp_size o p0 T = some (v, T1)) : q_out (q_ev q_Mt D) q_mRp_size (0, [some (.ref p0)], [], layC o T) = some (.inl (some (.int v)), layC o T1) := by
  unfold f_Rp_size at h
  refine Eq.trans (o_aload_n d_Rp_size_0 rfl) ?_
  refine s_DI d_Rp_size_1 pF_Rp_35 (dyC o) h (fun x1 h => ?_)
  refine s_if_eq (t := 14) d_Rp_size_4 (by decide) h (fun h => ?_) (fun h => ?_)
  · refine Eq.trans (o_aload_n d_Rp_size_14 rfl) ?_
    refine s_DI d_Rp_size_15 pF_Rp_31 (dyC o) h (fun x2 h => ?_)
    refine s_if_eq (t := 35) d_Rp_size_18 (by decide) h (fun h => ?_) (fun h => ?_)
    · refine Eq.trans (o_aload_n d_Rp_size_35 rfl) ?_
      refine s_DI d_Rp_size_36 pF_Rp_25 (dyC o) h (fun x3 h => ?_)
      refine Eq.trans (o_aload_n d_Rp_size_39 rfl) ?_
      refine s_DI d_Rp_size_40 pF_Rp_22 (dyC o) h (fun x4 h => ?_)
      refine Eq.trans (o_imul d_Rp_size_43) ?_
      refine Eq.trans (o_aload_n d_Rp_size_44 rfl) ?_
      refine s_DI d_Rp_size_45 pF_Rp_28 (dyC o) h (fun x5 h => ?_)
      refine Eq.trans (o_aload_n d_Rp_size_48 rfl) ?_
      refine s_DI d_Rp_size_49 pF_Rp_25 (dyC o) h (fun x6 h => ?_)
      refine Eq.trans (o_isub d_Rp_size_52) ?_
      refine Eq.trans (o_aload_n d_Rp_size_53 rfl) ?_
      refine s_DI d_Rp_size_54 pF_Rp_22 (dyC o) h (fun x7 h => ?_)
      refine Eq.trans (o_iconst (v := 1) d_Rp_size_57 (by decide)) ?_
      refine Eq.trans (o_iadd d_Rp_size_58) ?_
      refine Eq.trans (o_imul d_Rp_size_59) ?_
      refine Eq.trans (o_iadd d_Rp_size_60) ?_
      exact s_iret d_Rp_size_61 rfl h
    · refine Eq.trans (o_aload_n d_Rp_size_21 rfl) ?_
      refine s_DI d_Rp_size_22 pF_Rp_25 (dyC o) h (fun x8 h => ?_)
      refine Eq.trans (o_iconst (v := 1) d_Rp_size_25 (by decide)) ?_
      refine Eq.trans (o_iadd d_Rp_size_26) ?_
      refine Eq.trans (o_aload_n d_Rp_size_27 rfl) ?_
      refine s_DI d_Rp_size_28 pF_Rp_22 (dyC o) h (fun x9 h => ?_)
      refine Eq.trans (o_imul d_Rp_size_31) ?_
      refine Eq.trans (o_iconst (v := 2) d_Rp_size_32 (by decide)) ?_
      refine Eq.trans (o_iadd d_Rp_size_33) ?_
      exact s_iret d_Rp_size_34 rfl h
  · refine Eq.trans (o_aload_n d_Rp_size_7 rfl) ?_
    refine s_DI d_Rp_size_8 pF_Rp_22 (dyC o) h (fun x10 h => ?_)
    refine Eq.trans (o_iconst (v := 1) d_Rp_size_11 (by decide)) ?_
    refine Eq.trans (o_iadd d_Rp_size_12) ?_
    exact s_iret d_Rp_size_13 rfl h
theorem c_Rp_size (D : Nat) (hD : 1 ≤ D) (o : Nat) (p0 : Nat) (T T1 : qT) (v : Int32) (h : f_Rp_size o p0 T = some (v, T1)) : q_ev q_Mt D 54 [.ref p0] (layC o T) = some (.inl (some (.int v)), layC o T1) := by
  obtain ⟨D, rfl⟩ : ∃ D', D = D' + 1 := ⟨D - 1, by omega⟩
  rw [o_ev (M := q_mRp_size) (lo := [some (.ref p0)]) rfl (Nat.le_of_ble_eq_true rfl) rfl]
  exact c_Rp_size_0 D (by omega) o p0 T T1 v h
noncomputable def k_Rw_append_23 (o : Nat) (v0 : (Option Nat)) (v1 : (Option Nat)) : qW Unit :=
  w_nn v0 fun p1 =>
  w_d o p1 5 1 (.object "PatternWalk$Repeat") (va_rf v1) <|
  w_DI o p1 5 3 fun x2 =>
  w_nn v1 fun p3 =>
  w_is p3 o 4 <|
  w_C (f_Rp_size o p3) fun x4 =>
  w_d o p1 5 3 .int (.int (if (x2 + x4) < 1000 then (x2 + x4) else 1000)) <|
  w_pure ()
noncomputable def f_Rw_append (o : Nat) (p0 : Nat) (a1 : (Option Nat)) : qW Unit :=
  w_DR o p0 5 1 fun u1 =>
  w_nul u1 (
    w_d o p0 5 0 (.object "PatternWalk$Repeat") (va_rf a1) <|
    k_Rw_append_23 o (some p0) a1) fun p2 =>
    w_DR o p0 5 1 fun u3 =>
    w_nn u3 fun p4 =>
    w_d o p4 4 9 (.object "PatternWalk$Repeat") (va_rf a1) <|
    k_Rw_append_23 o (some p0) a1
set_option maxRecDepth 100000 in
set_option maxHeartbeats 4000000 in
theorem c_Rw_append_23 (D : Nat) (hD : 1 ≤ D) (o : Nat) (v0 : (Option Nat)) (v1 : (Option Nat))  (T T1 : qT) (v : Unit) (h : k_Rw_append_23 o v0 v1 T = some (v, T1)) : q_out (q_ev q_Mt D) q_mRw_append (23, [some (va_rf v0), some (va_rf v1)], [], layC o T) = some (.inl (none), layC o T1) := by
  unfold k_Rw_append_23 at h
  refine Eq.trans (o_aload_nR d_Rw_append_23 rfl) ?_
  refine Eq.trans (o_aload_nR d_Rw_append_24 rfl) ?_
  obtain ⟨p1, e9, h2⟩ := w_nn_of h
  clear h; subst e9; have h := h2; clear h2
  refine s_d d_Rw_append_25 pF_Rw_13 (dyC o) h (fun T h => ?_)
  refine Eq.trans (o_aload_n d_Rw_append_28 rfl) ?_
  refine Eq.trans (o_sipush (v := 1000) d_Rw_append_29 (by decide)) ?_
  refine Eq.trans (o_aload_n d_Rw_append_32 rfl) ?_
  refine s_DI d_Rw_append_33 pF_Rw_20 (dyC o) h (fun x2 h => ?_)
  refine Eq.trans (o_aload_nR d_Rw_append_36 rfl) ?_
  obtain ⟨p3, e9, h2⟩ := w_nn_of h
  clear h; subst e9; have h := h2; clear h2
  obtain ⟨⟨fs9, hb9⟩, h⟩ := w_is_of (dyC o) h
  obtain ⟨x4, T2, h1, h⟩ := w_C_of h
  refine Eq.trans (o_callV0 d_Rw_append_37 pM_Rw_28 (Nat.le_of_ble_eq_true rfl) hb9 (c_Rp_size D (by omega) o _ _ _ _ h1)) ?_
  replace h1 := trivial; revert h; generalize T2 = T; intro h
  refine Eq.trans (o_iadd d_Rw_append_40) ?_
  refine Eq.trans (o_min d_Rw_append_41 pM_Rw_31 (Nat.le_of_ble_eq_true rfl)) ?_
  refine s_d d_Rw_append_44 pF_Rw_20 (dyC o) h (fun T h => ?_)
  exact s_vret d_Rw_append_47 rfl h
set_option maxRecDepth 100000 in
set_option maxHeartbeats 4000000 in
theorem c_Rw_append_0 (D : Nat) (hD : 1 ≤ D) (o : Nat) (p0 : Nat) (a1 : (Option Nat))  (T T1 : qT) (v : Unit) (h : f_Rw_append o p0 a1 T = some (v, T1)) : q_out (q_ev q_Mt D) q_mRw_append (0, [some (.ref p0), some (va_rf a1)], [], layC o T) = some (.inl (none), layC o T1) := by
  unfold f_Rw_append at h
  refine Eq.trans (o_aload_n d_Rw_append_0 rfl) ?_
  refine s_DR d_Rw_append_1 pF_Rw_13 (dyC o) h (fun u1 h => ?_)
  refine s_ifnonnull (t := 15) d_Rw_append_4 (by decide) h (fun e9 h2 => ?_) (fun p2 e9 h2 => ?_)
  · clear h; subst e9; have h := h2; clear h2
    refine Eq.trans (o_aload_n d_Rw_append_7 rfl) ?_
    refine Eq.trans (o_aload_nR d_Rw_append_8 rfl) ?_
    refine s_d d_Rw_append_9 pF_Rw_7 (dyC o) h (fun T h => ?_)
    refine Eq.trans (o_goto (t := 23) d_Rw_append_12 (by decide)) ?_
    exact c_Rw_append_23 D hD o _ _ _ _ _ h
  · clear h; subst e9; have h := h2; clear h2
    refine Eq.trans (o_aload_n d_Rw_append_15 rfl) ?_
    refine s_DR d_Rw_append_16 pF_Rw_13 (dyC o) h (fun u3 h => ?_)
    refine Eq.trans (o_aload_nR d_Rw_append_19 rfl) ?_
    obtain ⟨p4, e9, h2⟩ := w_nn_of h
    clear h; subst e9; have h := h2; clear h2
    refine s_d d_Rw_append_20 pF_Rw_24 (dyC o) h (fun T h => ?_)
    exact c_Rw_append_23 D hD o _ _ _ _ _ h
theorem c_Rw_append (D : Nat) (hD : 2 ≤ D) (o : Nat) (p0 : Nat) (a1 : (Option Nat)) (T T1 : qT) (v : Unit) (h : f_Rw_append o p0 a1 T = some (v, T1)) : q_ev q_Mt D 57 [.ref p0, va_rf a1] (layC o T) = some (.inl (none), layC o T1) := by
  obtain ⟨D, rfl⟩ : ∃ D', D = D' + 1 := ⟨D - 1, by omega⟩
  rw [o_ev (M := q_mRw_append) (lo := [some (.ref p0), some (va_rf a1)]) rfl (by cases a1 <;> exact Nat.le_of_ble_eq_true rfl) (by cases a1 <;> rfl)]
  exact c_Rw_append_0 D (by omega) o p0 a1 T T1 v h
noncomputable def f_Rw_init (o : Nat) (p0 : Nat) : qW Unit :=
  w_d o p0 5 0 (.object "PatternWalk$Repeat") (.null) <|
  w_d o p0 5 1 (.object "PatternWalk$Repeat") (.null) <|
  w_d o p0 5 2 (.object "PatternWalk$Row") (.null) <|
  w_d o p0 5 3 .int (.int 0) <|
  w_pure ()
set_option maxRecDepth 100000 in
set_option maxHeartbeats 4000000 in
theorem c_Rw_init_0 (D : Nat) (hD : 0 ≤ D) (o : Nat) (p0 : Nat)  (T T1 : qT) (v : Unit) (h : f_Rw_init o p0 T = some (v, T1)) : q_out (q_ev q_Mt D) q_mRw_init (0, [some (.ref p0)], [], layC o T) = some (.inl (none), layC o T1) := by
  unfold f_Rw_init at h
  refine Eq.trans (o_aload_n d_Rw_init_0 rfl) ?_
  refine Eq.trans (o_objInit d_Rw_init_1 pM_Rw_1 (Nat.le_of_ble_eq_true rfl)) ?_
  refine Eq.trans (o_aload_n d_Rw_init_4 rfl) ?_
  refine Eq.trans (o_null d_Rw_init_5) ?_
  refine s_d d_Rw_init_6 pF_Rw_7 (dyC o) h (fun T h => ?_)
  refine Eq.trans (o_aload_n d_Rw_init_9 rfl) ?_
  refine Eq.trans (o_null d_Rw_init_10) ?_
  refine s_d d_Rw_init_11 pF_Rw_13 (dyC o) h (fun T h => ?_)
  refine Eq.trans (o_aload_n d_Rw_init_14 rfl) ?_
  refine Eq.trans (o_null d_Rw_init_15) ?_
  refine s_d d_Rw_init_16 pF_Rw_16 (dyC o) h (fun T h => ?_)
  refine Eq.trans (o_aload_n d_Rw_init_19 rfl) ?_
  refine Eq.trans (o_iconst (v := 0) d_Rw_init_20 (by decide)) ?_
  refine s_d d_Rw_init_21 pF_Rw_20 (dyC o) h (fun T h => ?_)
  exact s_vret d_Rw_init_24 rfl h
theorem c_Rw_init (D : Nat) (hD : 1 ≤ D) (o : Nat) (p0 : Nat) (T T1 : qT) (v : Unit) (h : f_Rw_init o p0 T = some (v, T1)) : q_ev q_Mt D 55 [.ref p0] (layC o T) = some (.inl (none), layC o T1) := by
  obtain ⟨D, rfl⟩ : ∃ D', D = D' + 1 := ⟨D - 1, by omega⟩
  rw [o_ev (M := q_mRw_init) (lo := [some (.ref p0)]) rfl (Nat.le_of_ble_eq_true rfl) rfl]
  exact c_Rw_init_0 D (by omega) o p0 T T1 v h
noncomputable def f_Cs_open (o : Nat)  : qW Int32 :=
  w_S 41 fun x1 =>
  w_if (x1 < 48) (
    w_S 41 fun x2 =>
    w_s 41 ((x2 + 1)) <|
    w_S 41 fun x3 =>
    w_ret .int ((x3 - 1))) (
    w_ret .int ((-1)))
set_option maxRecDepth 100000 in
set_option maxHeartbeats 4000000 in
theorem c_Cs_open_0 (D : Nat) (hD : 0 ≤ D) (o : Nat)   (T T1 : qT) (v : Int32) (h : f_Cs_open o T = some (v, T1)) : q_out (q_ev q_Mt D) q_mCs_open (0, [some (.ref (o + 2))], [], layC o T) = some (.inl (some (.int v)), layC o T1) := by
  unfold f_Cs_open at h
  refine Eq.trans (o_aload_n d_Cs_open_0 rfl) ?_
  refine s_get d_Cs_open_1 pF_Cs_15 (zC_Cs_used o) h (fun x1 h => ?_)
  refine Eq.trans (o_bipush (v := 48) d_Cs_open_4 (by decide)) ?_
  refine s_icmp_lt (t := 11) d_Cs_open_6 (by decide) h (fun h => ?_) (fun h => ?_)
  · refine Eq.trans (o_aload_n d_Cs_open_11 rfl) ?_
    refine Eq.trans (o_dup d_Cs_open_12 rfl) ?_
    refine s_get d_Cs_open_13 pF_Cs_15 (zC_Cs_used o) h (fun x2 h => ?_)
    refine Eq.trans (o_iconst (v := 1) d_Cs_open_16 (by decide)) ?_
    refine Eq.trans (o_iadd d_Cs_open_17) ?_
    refine s_put d_Cs_open_18 pF_Cs_15 (zC_Cs_used o) h (fun T h => ?_)
    refine Eq.trans (o_aload_n d_Cs_open_21 rfl) ?_
    refine s_get d_Cs_open_22 pF_Cs_15 (zC_Cs_used o) h (fun x3 h => ?_)
    refine Eq.trans (o_iconst (v := 1) d_Cs_open_25 (by decide)) ?_
    refine Eq.trans (o_isub d_Cs_open_26) ?_
    exact s_iret d_Cs_open_27 rfl h
  · refine Eq.trans (o_iconst (v := (-1)) d_Cs_open_9 (by decide)) ?_
    exact s_iret d_Cs_open_10 rfl h
theorem c_Cs_open (D : Nat) (hD : 1 ≤ D) (o : Nat)  (T T1 : qT) (v : Int32) (h : f_Cs_open o  T = some (v, T1)) : q_ev q_Mt D 19 [.ref (o + 2)] (layC o T) = some (.inl (some (.int v)), layC o T1) := by
  obtain ⟨D, rfl⟩ : ∃ D', D = D' + 1 := ⟨D - 1, by omega⟩
  rw [o_ev (M := q_mCs_open) (lo := [some (.ref (o + 2))]) rfl (Nat.le_of_ble_eq_true rfl) rfl]
  exact c_Cs_open_0 D (by omega) o  T T1 v h
noncomputable def k_Cs_addRange_16 (o : Nat) (v1 : Int32) (v3 : Int32) (v4 : Int32) : qW (qJ ⊕ Unit) :=
  w_if (v3 < v4) (
    w_rt ()) (
    w_if (256 ≤ v4) (
      w_rt ()) (
      w_L 192 (((v1 * 4) + ((v4 : Int32) >>> ((6 : Int32) &&& 31)))) fun y1 =>
      w_l 192 (((v1 * 4) + ((v4 : Int32) >>> ((6 : Int32) &&& 31)))) ((y1 ||| ((1 : Int64) <<< (((v4 &&& 63)).toInt64 &&& 63)))) <|
      w_go 16 [.int v1, .int v3, .int (v4 + 1)] []))
noncomputable def k_Cs_addRange_0 (o : Nat) (a1 : Int32) (a2 : Int32) (a3 : Int32) : qW (qJ ⊕ Unit) :=
  w_C (f_Cs_isOpen o a1) fun x1 =>
  w_if (¬ x1 = 0) (
    w_go 16 [.int a1, .int a3, .int (if a2 < 0 then 0 else a2)] []) (
    w_rt ())
noncomputable def b_Cs_addRange (o : Nat) : qJ → qW (qJ ⊕ Unit) := fun x => match x with
  | (0, [.int a1, .int a2, .int a3], []) => k_Cs_addRange_0 o a1 a2 a3
  | (16, [.int v1, .int v3, .int v4], []) => k_Cs_addRange_16 o v1 v3 v4
  | _ => w_no
noncomputable def f_Cs_addRange (o : Nat) (a1 : Int32) (a2 : Int32) (a3 : Int32) : qW Unit := w_fix (b_Cs_addRange o) (0, [.int a1, .int a2, .int a3], [])
set_option maxRecDepth 100000 in
set_option maxHeartbeats 4000000 in
theorem c_Cs_addRange_16 (D : Nat) (hD : 1 ≤ D) (o : Nat) (n : Nat) (ih_16 : ∀ (v1 : Int32) (v3 : Int32) (v4 : Int32) (e2 : Option Value) (T T2 : qT) (v : Unit), w_run (b_Cs_addRange o) n (16, [.int v1, .int v3, .int v4], []) T = some (v, T2) → q_out (q_ev q_Mt D) q_mCs_addRange (16, [some (.ref (o + 2)), some (.int v1), e2, some (.int v3), some (.int v4)], [], layC o T) = some (.inl (none), layC o T2)) (v1 : Int32) (v3 : Int32) (v4 : Int32) (e2 : Option Value) (T T1 T2 : qT) (rr : qJ ⊕ Unit) (v : Unit) (h : k_Cs_addRange_16 o v1 v3 v4 T = some (rr, T1)) (hE : w_end (b_Cs_addRange o) n rr T1 = some (v, T2)) : q_out (q_ev q_Mt D) q_mCs_addRange (16, [some (.ref (o + 2)), some (.int v1), e2, some (.int v3), some (.int v4)], [], layC o T) = some (.inl (none), layC o T2) := by
  unfold k_Cs_addRange_16 at h
  refine Eq.trans (o_iload d_Cs_addRange_16 rfl) ?_
  refine Eq.trans (o_iload_n d_Cs_addRange_18 rfl) ?_
  refine s_icmp_gt (t := 60) d_Cs_addRange_19 (by decide) h (fun h => ?_) (fun h => ?_)
  · exact s_vretJ d_Cs_addRange_60 rfl h hE
  · refine Eq.trans (o_iload d_Cs_addRange_22 rfl) ?_
    refine Eq.trans (o_sipush (v := 256) d_Cs_addRange_24 (by decide)) ?_
    refine s_icmp_ge (t := 60) d_Cs_addRange_27 (by decide) h (fun h => ?_) (fun h => ?_)
    · exact s_vretJ d_Cs_addRange_60 rfl h hE
    · refine Eq.trans (o_aload_n d_Cs_addRange_30 rfl) ?_
      refine s_ref d_Cs_addRange_31 pF_Cs_11 (zC_Cs_bits o) ?_
      refine Eq.trans (o_iload_n d_Cs_addRange_34 rfl) ?_
      refine Eq.trans (o_iconst (v := 4) d_Cs_addRange_35 (by decide)) ?_
      refine Eq.trans (o_imul d_Cs_addRange_36) ?_
      refine Eq.trans (o_iload d_Cs_addRange_37 rfl) ?_
      refine Eq.trans (o_bipush (v := 6) d_Cs_addRange_39 (by decide)) ?_
      refine Eq.trans (o_ishr d_Cs_addRange_41) ?_
      refine Eq.trans (o_iadd d_Cs_addRange_42) ?_
      refine Eq.trans (o_dup2_11 d_Cs_addRange_43 rfl) ?_
      refine s_lald d_Cs_addRange_44 (rC_3 o) h (fun y1 h => ?_)
      refine Eq.trans (o_lconst (v := 1) d_Cs_addRange_45 (by decide)) ?_
      refine Eq.trans (o_iload d_Cs_addRange_46 rfl) ?_
      refine Eq.trans (o_bipush (v := 63) d_Cs_addRange_48 (by decide)) ?_
      refine Eq.trans (o_iand d_Cs_addRange_50) ?_
      refine Eq.trans (o_lshl d_Cs_addRange_51) ?_
      refine Eq.trans (o_lor d_Cs_addRange_52) ?_
      refine s_last d_Cs_addRange_53 (rC_3 o) h (fun T h => ?_)
      refine Eq.trans (o_iinc (v := (v4 + 1)) (lo' := [some (.ref (o + 2)), some (.int v1), e2, some (.int v3), some (.int (v4 + 1))]) d_Cs_addRange_54 rfl (by rw [show Int32.ofInt 1 = 1 from by decide]) (Nat.le_of_ble_eq_true rfl) rfl) ?_
      refine Eq.trans (o_goto (t := 16) d_Cs_addRange_57 (by decide)) ?_
      exact ih_16 _ _ _ _ _ _ _ (s_jump h hE)
set_option maxRecDepth 100000 in
set_option maxHeartbeats 4000000 in
theorem c_Cs_addRange_0 (D : Nat) (hD : 1 ≤ D) (o : Nat) (n : Nat) (ih_16 : ∀ (v1 : Int32) (v3 : Int32) (v4 : Int32) (e2 : Option Value) (T T2 : qT) (v : Unit), w_run (b_Cs_addRange o) n (16, [.int v1, .int v3, .int v4], []) T = some (v, T2) → q_out (q_ev q_Mt D) q_mCs_addRange (16, [some (.ref (o + 2)), some (.int v1), e2, some (.int v3), some (.int v4)], [], layC o T) = some (.inl (none), layC o T2)) (a1 : Int32) (a2 : Int32) (a3 : Int32)  (T T1 T2 : qT) (rr : qJ ⊕ Unit) (v : Unit) (h : k_Cs_addRange_0 o a1 a2 a3 T = some (rr, T1)) (hE : w_end (b_Cs_addRange o) n rr T1 = some (v, T2)) : q_out (q_ev q_Mt D) q_mCs_addRange (0, [some (.ref (o + 2)), some (.int a1), some (.int a2), some (.int a3), none], [], layC o T) = some (.inl (none), layC o T2) := by
  unfold k_Cs_addRange_0 at h
  refine Eq.trans (o_aload_n d_Cs_addRange_0 rfl) ?_
  refine Eq.trans (o_iload_n d_Cs_addRange_1 rfl) ?_
  obtain ⟨x1, T2, h1, h⟩ := w_C_of h
  refine s_cV1i d_Cs_addRange_2 pM_Cs_25 (Nat.le_of_ble_eq_true rfl) (obC_2 o) (c_Cs_isOpen D (by omega) o _ _ _ _ h1) ?_
  replace h1 := trivial; revert h; generalize T2 = T; intro h
  refine s_if_ne (t := 9) d_Cs_addRange_5 (by decide) h (fun h => ?_) (fun h => ?_)
  · refine Eq.trans (o_iload_n d_Cs_addRange_9 rfl) ?_
    refine Eq.trans (o_iconst (v := 0) d_Cs_addRange_10 (by decide)) ?_
    refine Eq.trans (o_max d_Cs_addRange_11 pM_Cs_29 (Nat.le_of_ble_eq_true rfl)) ?_
    refine Eq.trans (o_istore (lo' := [some (.ref (o + 2)), some (.int a1), some (.int a2), some (.int a3), some (.int (if a2 < 0 then 0 else a2))]) d_Cs_addRange_14 (Nat.le_of_ble_eq_true rfl) rfl) ?_
    exact ih_16 _ _ _ _ _ _ _ (s_jump h hE)
  · exact s_vretJ d_Cs_addRange_8 rfl h hE
theorem c_Cs_addRange_lp (D : Nat) (hD : 1 ≤ D) (o : Nat) : ∀ n : Nat, (∀ (v1 : Int32) (v3 : Int32) (v4 : Int32) (e2 : Option Value) (T T2 : qT) (v : Unit), w_run (b_Cs_addRange o) n (16, [.int v1, .int v3, .int v4], []) T = some (v, T2) → q_out (q_ev q_Mt D) q_mCs_addRange (16, [some (.ref (o + 2)), some (.int v1), e2, some (.int v3), some (.int v4)], [], layC o T) = some (.inl (none), layC o T2)) := by
  intro n
  induction n with
  | zero => exact (fun v1 v3 v4 e2 T T2 v h => by cases h)
  | succ n ih =>
    have ih_16 := ih
    · intro v1 v3 v4 e2 T T2 v h
      obtain ⟨rr, T1, hb, hE⟩ := w_run_succ h
      exact c_Cs_addRange_16 D hD o n ih_16 v1 v3 v4 e2 T T1 T2 rr v hb hE
theorem c_Cs_addRange (D : Nat) (hD : 2 ≤ D) (o : Nat) (a1 : Int32) (a2 : Int32) (a3 : Int32) (T T2 : qT) (v : Unit) (h : f_Cs_addRange o a1 a2 a3 T = some (v, T2)) : q_ev q_Mt D 20 [.ref (o + 2), .int a1, .int a2, .int a3] (layC o T) = some (.inl (none), layC o T2) := by
  obtain ⟨D, rfl⟩ : ∃ D', D = D' + 1 := ⟨D - 1, by omega⟩
  obtain ⟨n, hn⟩ := w_fix_iff.mp h
  cases n with
  | zero => cases hn
  | succ n =>
    obtain ⟨rr, T1, hb, hE⟩ := w_run_succ hn
    have hl := c_Cs_addRange_lp D (by omega) o n
    have ih_16 := hl
    rw [o_ev (M := q_mCs_addRange) (lo := [some (.ref (o + 2)), some (.int a1), some (.int a2), some (.int a3), none]) rfl (Nat.le_of_ble_eq_true rfl) rfl]
    exact c_Cs_addRange_0 D (by omega) o n ih_16 a1 a2 a3 T T1 T2 rr v hb hE
noncomputable def f_Pa_fail (o : Nat)  : qW Unit :=
  w_S 85 fun x1 =>
  w_if (¬ x1 = ((-1))) (
    w_pure ()) (
    w_S 83 fun x2 =>
    w_s 85 x2 <|
    w_pure ())
set_option maxRecDepth 100000 in
set_option maxHeartbeats 4000000 in
theorem c_Pa_fail_0 (D : Nat) (hD : 0 ≤ D) (o : Nat)   (T T1 : qT) (v : Unit) (h : f_Pa_fail o T = some (v, T1)) : q_out (q_ev q_Mt D) q_mPa_fail (0, [some (.ref (o + 4))], [], layC o T) = some (.inl (none), layC o T1) := by
  unfold f_Pa_fail at h
  refine Eq.trans (o_aload_n d_Pa_fail_0 rfl) ?_
  refine s_get d_Pa_fail_1 pF_Pa_21 (zC_Pa_error o) h (fun x1 h => ?_)
  refine Eq.trans (o_iconst (v := (-1)) d_Pa_fail_4 (by decide)) ?_
  refine s_icmp_ne (t := 16) d_Pa_fail_5 (by decide) h (fun h => ?_) (fun h => ?_)
  · exact s_vret d_Pa_fail_16 rfl h
  · refine Eq.trans (o_aload_n d_Pa_fail_8 rfl) ?_
    refine Eq.trans (o_aload_n d_Pa_fail_9 rfl) ?_
    refine s_get d_Pa_fail_10 pF_Pa_15 (zC_Pa_at o) h (fun x2 h => ?_)
    refine s_put d_Pa_fail_13 pF_Pa_21 (zC_Pa_error o) h (fun T h => ?_)
    exact s_vret d_Pa_fail_16 rfl h
theorem c_Pa_fail (D : Nat) (hD : 1 ≤ D) (o : Nat)  (T T1 : qT) (v : Unit) (h : f_Pa_fail o  T = some (v, T1)) : q_ev q_Mt D 28 [.ref (o + 4)] (layC o T) = some (.inl (none), layC o T1) := by
  obtain ⟨D, rfl⟩ : ∃ D', D = D' + 1 := ⟨D - 1, by omega⟩
  rw [o_ev (M := q_mPa_fail) (lo := [some (.ref (o + 4))]) rfl (Nat.le_of_ble_eq_true rfl) rfl]
  exact c_Pa_fail_0 D (by omega) o  T T1 v h
