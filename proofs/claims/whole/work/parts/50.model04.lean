noncomputable def k_Md_writeNode_83 (v3 : Int32) (v4 : Int32) : qW (qJ ⊕ Unit) :=
  w_if (v4 < 0) (
    w_rt ()) (
    w_C (f_Md_later v4 v3) fun _ =>
    w_A 10 220 v4 fun x1 =>
    w_A 5 220 v4 fun x2 =>
    w_go 83 [.int (v3 + x1), .int x2] [])
noncomputable def k_Md_writeNode_0 (a1 : Int32) (a2 : Int32) : qW (qJ ⊕ Unit) :=
  w_A 2 220 a1 fun x1 =>
  w_if (¬ x1 = 0) (
    w_A 2 220 a1 fun x2 =>
    w_if (¬ x2 = 2) (
      w_A 2 220 a1 fun x3 =>
      w_if (¬ x3 = 3) (
        w_A 2 220 a1 fun x4 =>
        w_if (¬ x4 = 1) (
          w_A 6 220 a1 fun x5 =>
          w_if (x5 ≤ 0) (
            w_A 3 220 a1 fun x6 =>
            w_C (f_Md_later x6 a2) fun _ =>
            w_rt ()) (
            w_A 6 220 a1 fun x7 =>
            w_C (f_Md_put a2 3 ((2 * x7)) 0) fun _ =>
            w_A 3 220 a1 fun x8 =>
            w_C (f_Md_later x8 ((a2 + 1))) fun _ =>
            w_A 10 220 a1 fun x9 =>
            w_A 6 220 a1 fun x10 =>
            w_C (f_Md_put (((a2 + x9) - 1)) 3 (((2 * x10) + 1)) 0) fun _ =>
            w_rt ())) (
          w_A 3 220 a1 fun x11 =>
          w_go 83 [.int a2, .int x11] [])) (
        w_A 6 220 a1 fun x12 =>
        w_C (f_Md_put a2 0 x12 0) fun _ =>
        w_rt ())) (
      w_C (f_Md_writeRepeat a1 a2) fun _ =>
      w_rt ())) (
    w_C (f_Md_writeChoice a1 a2) fun _ =>
    w_rt ())
noncomputable def b_Md_writeNode : qJ → qW (qJ ⊕ Unit) := fun x => match x with
  | (0, [.int a1, .int a2], []) => k_Md_writeNode_0 a1 a2
  | (83, [.int v3, .int v4], []) => k_Md_writeNode_83 v3 v4
  | _ => w_no
noncomputable def f_Md_writeNode (a1 : Int32) (a2 : Int32) : qW Unit := w_fix b_Md_writeNode (0, [.int a1, .int a2], [])
set_option maxRecDepth 100000 in
set_option maxHeartbeats 4000000 in
theorem c_Md_writeNode_83 (D : Nat) (hD : 3 ≤ D) (r : Nat) (n : Nat) (ih_83 : ∀ (v3 : Int32) (v4 : Int32) (e1 : Option Value) (e2 : Option Value) (T T2 : qT) (v : Unit), w_run b_Md_writeNode n (83, [.int v3, .int v4], []) T = some (v, T2) → q_out (q_ev q_Mt D) q_mMd_writeNode (83, [some (.ref (r + 0)), e1, e2, some (.int v3), some (.int v4)], [], layM r T) = some (.inl (none), layM r T2)) (v3 : Int32) (v4 : Int32) (e1 : Option Value) (e2 : Option Value) (T T1 T2 : qT) (rr : qJ ⊕ Unit) (v : Unit) (h : k_Md_writeNode_83 v3 v4 T = some (rr, T1)) (hE : w_end b_Md_writeNode n rr T1 = some (v, T2)) : q_out (q_ev q_Mt D) q_mMd_writeNode (83, [some (.ref (r + 0)), e1, e2, some (.int v3), some (.int v4)], [], layM r T) = some (.inl (none), layM r T2) := by
  unfold k_Md_writeNode_83 at h
  refine Eq.trans (o_iload d_Md_writeNode_83 rfl) ?_
  refine s_if_lt (t := 117) d_Md_writeNode_85 (by decide) h (fun h => ?_) (fun h => ?_)
  · refine Eq.trans (o_goto (t := 197) d_Md_writeNode_117 (by decide)) ?_
    exact s_vretJ d_Md_writeNode_197 rfl h hE
  · refine Eq.trans (o_aload_n d_Md_writeNode_88 rfl) ?_
    refine Eq.trans (o_iload d_Md_writeNode_89 rfl) ?_
    refine Eq.trans (o_iload_n d_Md_writeNode_91 rfl) ?_
    obtain ⟨u9, T2, h1, h⟩ := w_C_of h
    refine s_cV2v d_Md_writeNode_92 pM_Md_187 (Nat.le_of_ble_eq_true rfl) (obM_0 r) (c_Md_later D (by omega) r _ _ _ _ _ h1) ?_
    replace h1 := trivial; revert h; generalize T2 = T; intro h
    refine Eq.trans (o_iload_n d_Md_writeNode_95 rfl) ?_
    refine Eq.trans (o_aload_n d_Md_writeNode_96 rfl) ?_
    refine s_ref d_Md_writeNode_97 pF_Md_43 (zM_Md_wide r) ?_
    refine Eq.trans (o_iload d_Md_writeNode_100 rfl) ?_
    refine s_iald d_Md_writeNode_102 (rM_10 r) h (fun x1 h => ?_)
    refine Eq.trans (o_iadd d_Md_writeNode_103) ?_
    refine Eq.trans (o_istore_n (lo' := [some (.ref (r + 0)), e1, (q_dk e2), some (.int (v3 + x1)), some (.int v4)]) d_Md_writeNode_104 (Nat.le_of_ble_eq_true rfl) ((q_st1_dk (j := 2) (Nat.le_of_ble_eq_true rfl)).trans rfl)) ?_
    refine Eq.trans (o_aload_n d_Md_writeNode_105 rfl) ?_
    refine s_ref d_Md_writeNode_106 pF_Md_27 (zM_Md_next r) ?_
    refine Eq.trans (o_iload d_Md_writeNode_109 rfl) ?_
    refine s_iald d_Md_writeNode_111 (rM_5 r) h (fun x2 h => ?_)
    refine Eq.trans (o_istore (lo' := [some (.ref (r + 0)), e1, (q_dk e2), some (.int (v3 + x1)), some (.int x2)]) d_Md_writeNode_112 (Nat.le_of_ble_eq_true rfl) rfl) ?_
    refine Eq.trans (o_goto (t := 83) d_Md_writeNode_114 (by decide)) ?_
    exact ih_83 _ _ _ _ _ _ _ (s_jump h hE)
set_option maxRecDepth 100000 in
set_option maxHeartbeats 4000000 in
theorem c_Md_writeNode_0 (D : Nat) (hD : 3 ≤ D) (r : Nat) (n : Nat) (ih_83 : ∀ (v3 : Int32) (v4 : Int32) (e1 : Option Value) (e2 : Option Value) (T T2 : qT) (v : Unit), w_run b_Md_writeNode n (83, [.int v3, .int v4], []) T = some (v, T2) → q_out (q_ev q_Mt D) q_mMd_writeNode (83, [some (.ref (r + 0)), e1, e2, some (.int v3), some (.int v4)], [], layM r T) = some (.inl (none), layM r T2)) (a1 : Int32) (a2 : Int32)  (T T1 T2 : qT) (rr : qJ ⊕ Unit) (v : Unit) (h : k_Md_writeNode_0 a1 a2 T = some (rr, T1)) (hE : w_end b_Md_writeNode n rr T1 = some (v, T2)) : q_out (q_ev q_Mt D) q_mMd_writeNode (0, [some (.ref (r + 0)), some (.int a1), some (.int a2), none, none], [], layM r T) = some (.inl (none), layM r T2) := by
  unfold k_Md_writeNode_0 at h
  refine Eq.trans (o_aload_n d_Md_writeNode_0 rfl) ?_
  refine s_ref d_Md_writeNode_1 pF_Md_17 (zM_Md_kind r) ?_
  refine Eq.trans (o_iload_n d_Md_writeNode_4 rfl) ?_
  refine s_iald d_Md_writeNode_5 (rM_2 r) h (fun x1 h => ?_)
  refine s_if_ne (t := 18) d_Md_writeNode_6 (by decide) h (fun h => ?_) (fun h => ?_)
  · refine Eq.trans (o_aload_n d_Md_writeNode_18 rfl) ?_
    refine s_ref d_Md_writeNode_19 pF_Md_17 (zM_Md_kind r) ?_
    refine Eq.trans (o_iload_n d_Md_writeNode_22 rfl) ?_
    refine s_iald d_Md_writeNode_23 (rM_2 r) h (fun x2 h => ?_)
    refine Eq.trans (o_iconst (v := 2) d_Md_writeNode_24 (by decide)) ?_
    refine s_icmp_ne (t := 37) d_Md_writeNode_25 (by decide) h (fun h => ?_) (fun h => ?_)
    · refine Eq.trans (o_aload_n d_Md_writeNode_37 rfl) ?_
      refine s_ref d_Md_writeNode_38 pF_Md_17 (zM_Md_kind r) ?_
      refine Eq.trans (o_iload_n d_Md_writeNode_41 rfl) ?_
      refine s_iald d_Md_writeNode_42 (rM_2 r) h (fun x3 h => ?_)
      refine Eq.trans (o_iconst (v := 3) d_Md_writeNode_43 (by decide)) ?_
      refine s_icmp_ne (t := 63) d_Md_writeNode_44 (by decide) h (fun h => ?_) (fun h => ?_)
      · refine Eq.trans (o_aload_n d_Md_writeNode_63 rfl) ?_
        refine s_ref d_Md_writeNode_64 pF_Md_17 (zM_Md_kind r) ?_
        refine Eq.trans (o_iload_n d_Md_writeNode_67 rfl) ?_
        refine s_iald d_Md_writeNode_68 (rM_2 r) h (fun x4 h => ?_)
        refine Eq.trans (o_iconst (v := 1) d_Md_writeNode_69 (by decide)) ?_
        refine s_icmp_ne (t := 120) d_Md_writeNode_70 (by decide) h (fun h => ?_) (fun h => ?_)
        · refine Eq.trans (o_aload_n d_Md_writeNode_120 rfl) ?_
          refine s_ref d_Md_writeNode_121 pF_Md_30 (zM_Md_a r) ?_
          refine Eq.trans (o_iload_n d_Md_writeNode_124 rfl) ?_
          refine s_iald d_Md_writeNode_125 (rM_6 r) h (fun x5 h => ?_)
          refine s_if_le (t := 186) d_Md_writeNode_126 (by decide) h (fun h => ?_) (fun h => ?_)
          · refine Eq.trans (o_aload_n d_Md_writeNode_186 rfl) ?_
            refine Eq.trans (o_aload_n d_Md_writeNode_187 rfl) ?_
            refine s_ref d_Md_writeNode_188 pF_Md_21 (zM_Md_first r) ?_
            refine Eq.trans (o_iload_n d_Md_writeNode_191 rfl) ?_
            refine s_iald d_Md_writeNode_192 (rM_3 r) h (fun x6 h => ?_)
            refine Eq.trans (o_iload_n d_Md_writeNode_193 rfl) ?_
            obtain ⟨u9, T2, h1, h⟩ := w_C_of h
            refine s_cV2v d_Md_writeNode_194 pM_Md_187 (Nat.le_of_ble_eq_true rfl) (obM_0 r) (c_Md_later D (by omega) r _ _ _ _ _ h1) ?_
            replace h1 := trivial; revert h; generalize T2 = T; intro h
            exact s_vretJ d_Md_writeNode_197 rfl h hE
          · refine Eq.trans (o_aload_n d_Md_writeNode_129 rfl) ?_
            refine Eq.trans (o_iload_n d_Md_writeNode_130 rfl) ?_
            refine Eq.trans (o_iconst (v := 3) d_Md_writeNode_131 (by decide)) ?_
            refine Eq.trans (o_iconst (v := 2) d_Md_writeNode_132 (by decide)) ?_
            refine Eq.trans (o_aload_n d_Md_writeNode_133 rfl) ?_
            refine s_ref d_Md_writeNode_134 pF_Md_30 (zM_Md_a r) ?_
            refine Eq.trans (o_iload_n d_Md_writeNode_137 rfl) ?_
            refine s_iald d_Md_writeNode_138 (rM_6 r) h (fun x7 h => ?_)
            refine Eq.trans (o_imul d_Md_writeNode_139) ?_
            refine Eq.trans (o_iconst (v := 0) d_Md_writeNode_140 (by decide)) ?_
            obtain ⟨u9, T2, h1, h⟩ := w_C_of h
            refine s_cV4v d_Md_writeNode_141 pM_Md_180 (Nat.le_of_ble_eq_true rfl) (obM_0 r) (c_Md_put D (by omega) r _ _ _ _ _ _ _ h1) ?_
            replace h1 := trivial; revert h; generalize T2 = T; intro h
            refine Eq.trans (o_aload_n d_Md_writeNode_144 rfl) ?_
            refine Eq.trans (o_aload_n d_Md_writeNode_145 rfl) ?_
            refine s_ref d_Md_writeNode_146 pF_Md_21 (zM_Md_first r) ?_
            refine Eq.trans (o_iload_n d_Md_writeNode_149 rfl) ?_
            refine s_iald d_Md_writeNode_150 (rM_3 r) h (fun x8 h => ?_)
            refine Eq.trans (o_iload_n d_Md_writeNode_151 rfl) ?_
            refine Eq.trans (o_iconst (v := 1) d_Md_writeNode_152 (by decide)) ?_
            refine Eq.trans (o_iadd d_Md_writeNode_153) ?_
            obtain ⟨u9, T2, h1, h⟩ := w_C_of h
            refine s_cV2v d_Md_writeNode_154 pM_Md_187 (Nat.le_of_ble_eq_true rfl) (obM_0 r) (c_Md_later D (by omega) r _ _ _ _ _ h1) ?_
            replace h1 := trivial; revert h; generalize T2 = T; intro h
            refine Eq.trans (o_aload_n d_Md_writeNode_157 rfl) ?_
            refine Eq.trans (o_iload_n d_Md_writeNode_158 rfl) ?_
            refine Eq.trans (o_aload_n d_Md_writeNode_159 rfl) ?_
            refine s_ref d_Md_writeNode_160 pF_Md_43 (zM_Md_wide r) ?_
            refine Eq.trans (o_iload_n d_Md_writeNode_163 rfl) ?_
            refine s_iald d_Md_writeNode_164 (rM_10 r) h (fun x9 h => ?_)
            refine Eq.trans (o_iadd d_Md_writeNode_165) ?_
            refine Eq.trans (o_iconst (v := 1) d_Md_writeNode_166 (by decide)) ?_
            refine Eq.trans (o_isub d_Md_writeNode_167) ?_
            refine Eq.trans (o_iconst (v := 3) d_Md_writeNode_168 (by decide)) ?_
            refine Eq.trans (o_iconst (v := 2) d_Md_writeNode_169 (by decide)) ?_
            refine Eq.trans (o_aload_n d_Md_writeNode_170 rfl) ?_
            refine s_ref d_Md_writeNode_171 pF_Md_30 (zM_Md_a r) ?_
            refine Eq.trans (o_iload_n d_Md_writeNode_174 rfl) ?_
            refine s_iald d_Md_writeNode_175 (rM_6 r) h (fun x10 h => ?_)
            refine Eq.trans (o_imul d_Md_writeNode_176) ?_
            refine Eq.trans (o_iconst (v := 1) d_Md_writeNode_177 (by decide)) ?_
            refine Eq.trans (o_iadd d_Md_writeNode_178) ?_
            refine Eq.trans (o_iconst (v := 0) d_Md_writeNode_179 (by decide)) ?_
            obtain ⟨u9, T2, h1, h⟩ := w_C_of h
            refine s_cV4v d_Md_writeNode_180 pM_Md_180 (Nat.le_of_ble_eq_true rfl) (obM_0 r) (c_Md_put D (by omega) r _ _ _ _ _ _ _ h1) ?_
            replace h1 := trivial; revert h; generalize T2 = T; intro h
            refine Eq.trans (o_goto (t := 197) d_Md_writeNode_183 (by decide)) ?_
            exact s_vretJ d_Md_writeNode_197 rfl h hE
        · refine Eq.trans (o_iload_n d_Md_writeNode_73 rfl) ?_
          refine Eq.trans (o_istore_n (lo' := [some (.ref (r + 0)), some (.int a1), some (.int a2), some (.int a2), none]) d_Md_writeNode_74 (Nat.le_of_ble_eq_true rfl) rfl) ?_
          refine Eq.trans (o_aload_n d_Md_writeNode_75 rfl) ?_
          refine s_ref d_Md_writeNode_76 pF_Md_21 (zM_Md_first r) ?_
          refine Eq.trans (o_iload_n d_Md_writeNode_79 rfl) ?_
          refine s_iald d_Md_writeNode_80 (rM_3 r) h (fun x11 h => ?_)
          refine Eq.trans (o_istore (lo' := [some (.ref (r + 0)), some (.int a1), some (.int a2), some (.int a2), some (.int x11)]) d_Md_writeNode_81 (Nat.le_of_ble_eq_true rfl) rfl) ?_
          exact ih_83 _ _ _ _ _ _ _ (s_jump h hE)
      · refine Eq.trans (o_aload_n d_Md_writeNode_47 rfl) ?_
        refine Eq.trans (o_iload_n d_Md_writeNode_48 rfl) ?_
        refine Eq.trans (o_iconst (v := 0) d_Md_writeNode_49 (by decide)) ?_
        refine Eq.trans (o_aload_n d_Md_writeNode_50 rfl) ?_
        refine s_ref d_Md_writeNode_51 pF_Md_30 (zM_Md_a r) ?_
        refine Eq.trans (o_iload_n d_Md_writeNode_54 rfl) ?_
        refine s_iald d_Md_writeNode_55 (rM_6 r) h (fun x12 h => ?_)
        refine Eq.trans (o_iconst (v := 0) d_Md_writeNode_56 (by decide)) ?_
        obtain ⟨u9, T2, h1, h⟩ := w_C_of h
        refine s_cV4v d_Md_writeNode_57 pM_Md_180 (Nat.le_of_ble_eq_true rfl) (obM_0 r) (c_Md_put D (by omega) r _ _ _ _ _ _ _ h1) ?_
        replace h1 := trivial; revert h; generalize T2 = T; intro h
        refine Eq.trans (o_goto (t := 197) d_Md_writeNode_60 (by decide)) ?_
        exact s_vretJ d_Md_writeNode_197 rfl h hE
    · refine Eq.trans (o_aload_n d_Md_writeNode_28 rfl) ?_
      refine Eq.trans (o_iload_n d_Md_writeNode_29 rfl) ?_
      refine Eq.trans (o_iload_n d_Md_writeNode_30 rfl) ?_
      obtain ⟨u9, T2, h1, h⟩ := w_C_of h
      refine s_cV2v d_Md_writeNode_31 pM_Md_198 (Nat.le_of_ble_eq_true rfl) (obM_0 r) (c_Md_writeRepeat D (by omega) r _ _ _ _ _ h1) ?_
      replace h1 := trivial; revert h; generalize T2 = T; intro h
      refine Eq.trans (o_goto (t := 197) d_Md_writeNode_34 (by decide)) ?_
      exact s_vretJ d_Md_writeNode_197 rfl h hE
  · refine Eq.trans (o_aload_n d_Md_writeNode_9 rfl) ?_
    refine Eq.trans (o_iload_n d_Md_writeNode_10 rfl) ?_
    refine Eq.trans (o_iload_n d_Md_writeNode_11 rfl) ?_
    obtain ⟨u9, T2, h1, h⟩ := w_C_of h
    refine s_cV2v d_Md_writeNode_12 pM_Md_195 (Nat.le_of_ble_eq_true rfl) (obM_0 r) (c_Md_writeChoice D (by omega) r _ _ _ _ _ h1) ?_
    replace h1 := trivial; revert h; generalize T2 = T; intro h
    refine Eq.trans (o_goto (t := 197) d_Md_writeNode_15 (by decide)) ?_
    exact s_vretJ d_Md_writeNode_197 rfl h hE
theorem c_Md_writeNode_lp (D : Nat) (hD : 3 ≤ D) (r : Nat) : ∀ n : Nat, (∀ (v3 : Int32) (v4 : Int32) (e1 : Option Value) (e2 : Option Value) (T T2 : qT) (v : Unit), w_run b_Md_writeNode n (83, [.int v3, .int v4], []) T = some (v, T2) → q_out (q_ev q_Mt D) q_mMd_writeNode (83, [some (.ref (r + 0)), e1, e2, some (.int v3), some (.int v4)], [], layM r T) = some (.inl (none), layM r T2)) := by
  intro n
  induction n with
  | zero => exact (fun v3 v4 e1 e2 T T2 v h => by cases h)
  | succ n ih =>
    have ih_83 := ih
    · intro v3 v4 e1 e2 T T2 v h
      obtain ⟨rr, T1, hb, hE⟩ := w_run_succ h
      exact c_Md_writeNode_83 D hD r n ih_83 v3 v4 e1 e2 T T1 T2 rr v hb hE
theorem c_Md_writeNode (D : Nat) (hD : 4 ≤ D) (r : Nat) (a1 : Int32) (a2 : Int32) (T T2 : qT) (v : Unit) (h : f_Md_writeNode a1 a2 T = some (v, T2)) : q_ev q_Mt D 96 [.ref (r + 0), .int a1, .int a2] (layM r T) = some (.inl (none), layM r T2) := by
  obtain ⟨D, rfl⟩ : ∃ D', D = D' + 1 := ⟨D - 1, by omega⟩
  obtain ⟨n, hn⟩ := w_fix_iff.mp h
  cases n with
  | zero => cases hn
  | succ n =>
    obtain ⟨rr, T1, hb, hE⟩ := w_run_succ hn
    have hl := c_Md_writeNode_lp D (by omega) r n
    have ih_83 := hl
    rw [o_ev (M := q_mMd_writeNode) (lo := [some (.ref (r + 0)), some (.int a1), some (.int a2), none, none]) rfl (Nat.le_of_ble_eq_true rfl) rfl]
    exact c_Md_writeNode_0 D (by omega) r n ih_83 a1 a2 T T1 T2 rr v hb hE
noncomputable def k_Md_compile_192  : qW (qJ ⊕ Int32) :=
  w_S 26 fun x1 =>
  w_if (x1 ≤ 0) (
    w_z 29 0 <|
    w_S 22 fun x2 =>
    w_ri .int x2) (
    w_S 26 fun x3 =>
    w_s 26 ((x3 - 1)) <|
    w_S 26 fun x4 =>
    w_A 18 800 x4 fun x5 =>
    w_S 26 fun x6 =>
    w_A 19 800 x6 fun x7 =>
    w_C (f_Md_writeNode x5 x7) fun _ =>
    w_go 192 [] [])
noncomputable def k_Md_compile_123 (s0 : Int32) : qW (qJ ⊕ Int32) :=
  w_s 0 s0 <|
  w_S 0 fun x1 =>
  w_if (x1 ≤ 0) (
    w_A 10 220 0 fun x2 =>
    w_s 22 ((x2 + 3)) <|
    w_C (f_Md_put 0 3 0 0) fun _ =>
    w_S 22 fun x3 =>
    w_C (f_Md_put ((x3 - 2)) 3 1 0) fun _ =>
    w_S 22 fun x4 =>
    w_C (f_Md_put ((x4 - 1)) 4 0 0) fun _ =>
    w_s 26 0 <|
    w_C (f_Md_later 0 1) fun _ =>
    w_go 192 [] []) (
    w_ri .int 0)
noncomputable def k_Md_compile_87 (v1 : Int32) (v2 : Int32) : qW (qJ ⊕ Int32) :=
  w_if (v1 = 0) (
    w_if (¬ v2 = 0) (
      w_A 10 220 0 fun x1 =>
      w_if (((x1 + 3)) ≤ 160) (
        k_Md_compile_123 0) (
        k_Md_compile_123 2)) (
      k_Md_compile_123 1)) (
    k_Md_compile_123 2)
noncomputable def k_Md_compile_62 (v1 : Int32) (v2 : Int32) (v3 : Int32) : qW (qJ ⊕ Int32) :=
  w_if (v3 < 0) (
    k_Md_compile_87 v1 v2) (
    w_if (v2 = 0) (
      k_Md_compile_87 v1 v2) (
      w_C (f_Md_widthOf v3) fun x1 =>
      w_a 10 220 v3 x1 <|
      w_go 62 [.int v1, .int v2, .int (v3 + (-1))] []))
noncomputable def k_Md_compile_52 (v1 : Int32) (v2 : Int32) (s0 : Int32) : qW (qJ ⊕ Int32) :=
  w_s 3 s0 <|
  w_S 4 fun x1 =>
  w_go 62 [.int v1, .int v2, .int (x1 - 1)] []
noncomputable def k_Md_compile_44 (v1 : Int32) (v2 : Int32) : qW (qJ ⊕ Int32) :=
  k_Md_compile_52 v1 v2 ((-1))
noncomputable def k_Md_compile_34 (v1 : Int32) (s0 : Int32) : qW (qJ ⊕ Int32) :=
  w_if (¬ v1 = 0) (
    k_Md_compile_44 v1 s0) (
    w_if (s0 = 0) (
      w_S 14 fun x1 =>
      k_Md_compile_52 v1 s0 x1) (
      k_Md_compile_44 v1 s0))
noncomputable def k_Md_compile_33 (v1 : Int32) : qW (qJ ⊕ Int32) :=
  k_Md_compile_34 v1 0
noncomputable def k_Md_compile_17 (s0 : Int32) : qW (qJ ⊕ Int32) :=
  w_if (¬ s0 = 0) (
    k_Md_compile_33 s0) (
    w_C (f_Md_read) fun x1 =>
    w_if (x1 = 0) (
      k_Md_compile_33 s0) (
      k_Md_compile_34 s0 1))
noncomputable def k_Md_compile_0  : qW (qJ ⊕ Int32) :=
  w_s 0 0 <|
  w_S 22 fun x1 =>
  w_if (x1 ≤ 0) (
    k_Md_compile_17 0) (
    k_Md_compile_17 1)
noncomputable def b_Md_compile : qJ → qW (qJ ⊕ Int32) := fun x => match x with
  | (0, [], []) => k_Md_compile_0 
  | (62, [.int v1, .int v2, .int v3], []) => k_Md_compile_62 v1 v2 v3
  | (192, [], []) => k_Md_compile_192 
  | _ => w_no
noncomputable def f_Md_compile  : qW Int32 := w_fix b_Md_compile (0, [], [])
set_option maxRecDepth 100000 in
set_option maxHeartbeats 4000000 in
theorem c_Md_compile_192 (D : Nat) (hD : 5 ≤ D) (r : Nat) (n : Nat) (ih_62 : ∀ (v1 : Int32) (v2 : Int32) (v3 : Int32)  (T T2 : qT) (v : Int32), w_run b_Md_compile n (62, [.int v1, .int v2, .int v3], []) T = some (v, T2) → q_out (q_ev q_Mt D) q_mMd_compile (62, [some (.ref (r + 0)), some (.int v1), some (.int v2), some (.int v3)], [], layM r T) = some (.inl (some (.int v)), layM r T2)) (ih_192 : ∀  (e1 : Option Value) (e2 : Option Value) (e3 : Option Value) (T T2 : qT) (v : Int32), w_run b_Md_compile n (192, [], []) T = some (v, T2) → q_out (q_ev q_Mt D) q_mMd_compile (192, [some (.ref (r + 0)), e1, e2, e3], [], layM r T) = some (.inl (some (.int v)), layM r T2))  (e1 : Option Value) (e2 : Option Value) (e3 : Option Value) (T T1 T2 : qT) (rr : qJ ⊕ Int32) (v : Int32) (h : k_Md_compile_192 T = some (rr, T1)) (hE : w_end b_Md_compile n rr T1 = some (v, T2)) : q_out (q_ev q_Mt D) q_mMd_compile (192, [some (.ref (r + 0)), e1, e2, e3], [], layM r T) = some (.inl (some (.int v)), layM r T2) := by
  unfold k_Md_compile_192 at h
  refine Eq.trans (o_aload_n d_Md_compile_192 rfl) ?_
  refine s_get d_Md_compile_193 pF_Md_184 (zM_Md_tasks r) h (fun x1 h => ?_)
  refine s_if_le (t := 234) d_Md_compile_196 (by decide) h (fun h => ?_) (fun h => ?_)
  · refine Eq.trans (o_aload_n d_Md_compile_234 rfl) ?_
    refine Eq.trans (o_iconst (v := 0) d_Md_compile_235 (by decide)) ?_
    refine s_putZ d_Md_compile_236 pF_Md_212 (zM_Md_begun r) h (fun T h => ?_)
    refine Eq.trans (o_aload_n d_Md_compile_239 rfl) ?_
    refine s_get d_Md_compile_240 pF_Md_109 (zM_Md_length r) h (fun x2 h => ?_)
    exact s_iretJ d_Md_compile_243 rfl h hE
  · refine Eq.trans (o_aload_n d_Md_compile_199 rfl) ?_
    refine Eq.trans (o_dup d_Md_compile_200 rfl) ?_
    refine s_get d_Md_compile_201 pF_Md_184 (zM_Md_tasks r) h (fun x3 h => ?_)
    refine Eq.trans (o_iconst (v := 1) d_Md_compile_204 (by decide)) ?_
    refine Eq.trans (o_isub d_Md_compile_205) ?_
    refine s_put d_Md_compile_206 pF_Md_184 (zM_Md_tasks r) h (fun T h => ?_)
    refine Eq.trans (o_aload_n d_Md_compile_209 rfl) ?_
    refine Eq.trans (o_aload_n d_Md_compile_210 rfl) ?_
    refine s_ref d_Md_compile_211 pF_Md_67 (zM_Md_taskNode r) ?_
    refine Eq.trans (o_aload_n d_Md_compile_214 rfl) ?_
    refine s_get d_Md_compile_215 pF_Md_184 (zM_Md_tasks r) h (fun x4 h => ?_)
    refine s_iald d_Md_compile_218 (rM_18 r) h (fun x5 h => ?_)
    refine Eq.trans (o_aload_n d_Md_compile_219 rfl) ?_
    refine s_ref d_Md_compile_220 pF_Md_70 (zM_Md_taskAt r) ?_
    refine Eq.trans (o_aload_n d_Md_compile_223 rfl) ?_
    refine s_get d_Md_compile_224 pF_Md_184 (zM_Md_tasks r) h (fun x6 h => ?_)
    refine s_iald d_Md_compile_227 (rM_19 r) h (fun x7 h => ?_)
    obtain ⟨u9, T2, h1, h⟩ := w_C_of h
    refine s_cV2v d_Md_compile_228 pM_Md_209 (Nat.le_of_ble_eq_true rfl) (obM_0 r) (c_Md_writeNode D (by omega) r _ _ _ _ _ h1) ?_
    replace h1 := trivial; revert h; generalize T2 = T; intro h
    refine Eq.trans (o_goto (t := 192) d_Md_compile_231 (by decide)) ?_
    exact ih_192 _ _ _ _ _ _ (s_jump h hE)
set_option maxRecDepth 100000 in
set_option maxHeartbeats 4000000 in
theorem c_Md_compile_123 (D : Nat) (hD : 5 ≤ D) (r : Nat) (n : Nat) (ih_62 : ∀ (v1 : Int32) (v2 : Int32) (v3 : Int32)  (T T2 : qT) (v : Int32), w_run b_Md_compile n (62, [.int v1, .int v2, .int v3], []) T = some (v, T2) → q_out (q_ev q_Mt D) q_mMd_compile (62, [some (.ref (r + 0)), some (.int v1), some (.int v2), some (.int v3)], [], layM r T) = some (.inl (some (.int v)), layM r T2)) (ih_192 : ∀  (e1 : Option Value) (e2 : Option Value) (e3 : Option Value) (T T2 : qT) (v : Int32), w_run b_Md_compile n (192, [], []) T = some (v, T2) → q_out (q_ev q_Mt D) q_mMd_compile (192, [some (.ref (r + 0)), e1, e2, e3], [], layM r T) = some (.inl (some (.int v)), layM r T2)) (s0 : Int32) (e1 : Option Value) (e2 : Option Value) (e3 : Option Value) (T T1 T2 : qT) (rr : qJ ⊕ Int32) (v : Int32) (h : k_Md_compile_123 s0 T = some (rr, T1)) (hE : w_end b_Md_compile n rr T1 = some (v, T2)) : q_out (q_ev q_Mt D) q_mMd_compile (123, [some (.ref (r + 0)), e1, e2, e3], [.int s0, .ref (r + 0)], layM r T) = some (.inl (some (.int v)), layM r T2) := by
  unfold k_Md_compile_123 at h
  refine s_put d_Md_compile_123 pF_Md_103 (zM_Md_thrown r) h (fun T h => ?_)
  refine Eq.trans (o_aload_n d_Md_compile_126 rfl) ?_
  refine s_get d_Md_compile_127 pF_Md_103 (zM_Md_thrown r) h (fun x1 h => ?_)
  refine s_if_le (t := 135) d_Md_compile_130 (by decide) h (fun h => ?_) (fun h => ?_)
  · refine Eq.trans (o_aload_n d_Md_compile_135 rfl) ?_
    refine Eq.trans (o_aload_n d_Md_compile_136 rfl) ?_
    refine s_ref d_Md_compile_137 pF_Md_43 (zM_Md_wide r) ?_
    refine Eq.trans (o_iconst (v := 0) d_Md_compile_140 (by decide)) ?_
    refine s_iald d_Md_compile_141 (rM_10 r) h (fun x2 h => ?_)
    refine Eq.trans (o_iconst (v := 3) d_Md_compile_142 (by decide)) ?_
    refine Eq.trans (o_iadd d_Md_compile_143) ?_
    refine s_put d_Md_compile_144 pF_Md_109 (zM_Md_length r) h (fun T h => ?_)
    refine Eq.trans (o_aload_n d_Md_compile_147 rfl) ?_
    refine Eq.trans (o_iconst (v := 0) d_Md_compile_148 (by decide)) ?_
    refine Eq.trans (o_iconst (v := 3) d_Md_compile_149 (by decide)) ?_
    refine Eq.trans (o_iconst (v := 0) d_Md_compile_150 (by decide)) ?_
    refine Eq.trans (o_iconst (v := 0) d_Md_compile_151 (by decide)) ?_
    obtain ⟨u9, T2, h1, h⟩ := w_C_of h
    refine s_cV4v d_Md_compile_152 pM_Md_180 (Nat.le_of_ble_eq_true rfl) (obM_0 r) (c_Md_put D (by omega) r _ _ _ _ _ _ _ h1) ?_
    replace h1 := trivial; revert h; generalize T2 = T; intro h
    refine Eq.trans (o_aload_n d_Md_compile_155 rfl) ?_
    refine Eq.trans (o_aload_n d_Md_compile_156 rfl) ?_
    refine s_get d_Md_compile_157 pF_Md_109 (zM_Md_length r) h (fun x3 h => ?_)
    refine Eq.trans (o_iconst (v := 2) d_Md_compile_160 (by decide)) ?_
    refine Eq.trans (o_isub d_Md_compile_161) ?_
    refine Eq.trans (o_iconst (v := 3) d_Md_compile_162 (by decide)) ?_
    refine Eq.trans (o_iconst (v := 1) d_Md_compile_163 (by decide)) ?_
    refine Eq.trans (o_iconst (v := 0) d_Md_compile_164 (by decide)) ?_
    obtain ⟨u9, T2, h1, h⟩ := w_C_of h
    refine s_cV4v d_Md_compile_165 pM_Md_180 (Nat.le_of_ble_eq_true rfl) (obM_0 r) (c_Md_put D (by omega) r _ _ _ _ _ _ _ h1) ?_
    replace h1 := trivial; revert h; generalize T2 = T; intro h
    refine Eq.trans (o_aload_n d_Md_compile_168 rfl) ?_
    refine Eq.trans (o_aload_n d_Md_compile_169 rfl) ?_
    refine s_get d_Md_compile_170 pF_Md_109 (zM_Md_length r) h (fun x4 h => ?_)
    refine Eq.trans (o_iconst (v := 1) d_Md_compile_173 (by decide)) ?_
    refine Eq.trans (o_isub d_Md_compile_174) ?_
    refine Eq.trans (o_iconst (v := 4) d_Md_compile_175 (by decide)) ?_
    refine Eq.trans (o_iconst (v := 0) d_Md_compile_176 (by decide)) ?_
    refine Eq.trans (o_iconst (v := 0) d_Md_compile_177 (by decide)) ?_
    obtain ⟨u9, T2, h1, h⟩ := w_C_of h
    refine s_cV4v d_Md_compile_178 pM_Md_180 (Nat.le_of_ble_eq_true rfl) (obM_0 r) (c_Md_put D (by omega) r _ _ _ _ _ _ _ h1) ?_
    replace h1 := trivial; revert h; generalize T2 = T; intro h
    refine Eq.trans (o_aload_n d_Md_compile_181 rfl) ?_
    refine Eq.trans (o_iconst (v := 0) d_Md_compile_182 (by decide)) ?_
    refine s_put d_Md_compile_183 pF_Md_184 (zM_Md_tasks r) h (fun T h => ?_)
    refine Eq.trans (o_aload_n d_Md_compile_186 rfl) ?_
    refine Eq.trans (o_iconst (v := 0) d_Md_compile_187 (by decide)) ?_
    refine Eq.trans (o_iconst (v := 1) d_Md_compile_188 (by decide)) ?_
    obtain ⟨u9, T2, h1, h⟩ := w_C_of h
    refine s_cV2v d_Md_compile_189 pM_Md_187 (Nat.le_of_ble_eq_true rfl) (obM_0 r) (c_Md_later D (by omega) r _ _ _ _ _ h1) ?_
    replace h1 := trivial; revert h; generalize T2 = T; intro h
    exact ih_192 _ _ _ _ _ _ (s_jump h hE)
  · refine Eq.trans (o_iconst (v := 0) d_Md_compile_133 (by decide)) ?_
    exact s_iretJ d_Md_compile_134 rfl h hE
set_option maxRecDepth 100000 in
set_option maxHeartbeats 4000000 in
theorem c_Md_compile_87 (D : Nat) (hD : 5 ≤ D) (r : Nat) (n : Nat) (ih_62 : ∀ (v1 : Int32) (v2 : Int32) (v3 : Int32)  (T T2 : qT) (v : Int32), w_run b_Md_compile n (62, [.int v1, .int v2, .int v3], []) T = some (v, T2) → q_out (q_ev q_Mt D) q_mMd_compile (62, [some (.ref (r + 0)), some (.int v1), some (.int v2), some (.int v3)], [], layM r T) = some (.inl (some (.int v)), layM r T2)) (ih_192 : ∀  (e1 : Option Value) (e2 : Option Value) (e3 : Option Value) (T T2 : qT) (v : Int32), w_run b_Md_compile n (192, [], []) T = some (v, T2) → q_out (q_ev q_Mt D) q_mMd_compile (192, [some (.ref (r + 0)), e1, e2, e3], [], layM r T) = some (.inl (some (.int v)), layM r T2)) (v1 : Int32) (v2 : Int32) (e3 : Option Value) (T T1 T2 : qT) (rr : qJ ⊕ Int32) (v : Int32) (h : k_Md_compile_87 v1 v2 T = some (rr, T1)) (hE : w_end b_Md_compile n rr T1 = some (v, T2)) : q_out (q_ev q_Mt D) q_mMd_compile (87, [some (.ref (r + 0)), some (.int v1), some (.int v2), e3], [], layM r T) = some (.inl (some (.int v)), layM r T2) := by
  unfold k_Md_compile_87 at h
  refine Eq.trans (o_aload_n d_Md_compile_87 rfl) ?_
  refine Eq.trans (o_iload_n d_Md_compile_88 rfl) ?_
  refine s_if_eq (t := 96) d_Md_compile_89 (by decide) h (fun h => ?_) (fun h => ?_)
  · refine Eq.trans (o_iload_n d_Md_compile_96 rfl) ?_
    refine s_if_ne (t := 104) d_Md_compile_97 (by decide) h (fun h => ?_) (fun h => ?_)
    · refine Eq.trans (o_aload_n d_Md_compile_104 rfl) ?_
      refine s_ref d_Md_compile_105 pF_Md_43 (zM_Md_wide r) ?_
      refine Eq.trans (o_iconst (v := 0) d_Md_compile_108 (by decide)) ?_
      refine s_iald d_Md_compile_109 (rM_10 r) h (fun x1 h => ?_)
      refine Eq.trans (o_iconst (v := 3) d_Md_compile_110 (by decide)) ?_
      refine Eq.trans (o_iadd d_Md_compile_111) ?_
      refine Eq.trans (o_sipush (v := 160) d_Md_compile_112 (by decide)) ?_
      refine s_icmp_le (t := 122) d_Md_compile_115 (by decide) h (fun h => ?_) (fun h => ?_)
      · refine Eq.trans (o_iconst (v := 0) d_Md_compile_122 (by decide)) ?_
        exact c_Md_compile_123 D hD r n ih_62 ih_192 _ _ _ _ _ _ _ _ _ h hE
      · refine Eq.trans (o_iconst (v := 2) d_Md_compile_118 (by decide)) ?_
        refine Eq.trans (o_goto (t := 123) d_Md_compile_119 (by decide)) ?_
        exact c_Md_compile_123 D hD r n ih_62 ih_192 _ _ _ _ _ _ _ _ _ h hE
    · refine Eq.trans (o_iconst (v := 1) d_Md_compile_100 (by decide)) ?_
      refine Eq.trans (o_goto (t := 123) d_Md_compile_101 (by decide)) ?_
      exact c_Md_compile_123 D hD r n ih_62 ih_192 _ _ _ _ _ _ _ _ _ h hE
  · refine Eq.trans (o_iconst (v := 2) d_Md_compile_92 (by decide)) ?_
    refine Eq.trans (o_goto (t := 123) d_Md_compile_93 (by decide)) ?_
    exact c_Md_compile_123 D hD r n ih_62 ih_192 _ _ _ _ _ _ _ _ _ h hE
set_option maxRecDepth 100000 in
set_option maxHeartbeats 4000000 in
theorem c_Md_compile_62 (D : Nat) (hD : 5 ≤ D) (r : Nat) (n : Nat) (ih_62 : ∀ (v1 : Int32) (v2 : Int32) (v3 : Int32)  (T T2 : qT) (v : Int32), w_run b_Md_compile n (62, [.int v1, .int v2, .int v3], []) T = some (v, T2) → q_out (q_ev q_Mt D) q_mMd_compile (62, [some (.ref (r + 0)), some (.int v1), some (.int v2), some (.int v3)], [], layM r T) = some (.inl (some (.int v)), layM r T2)) (ih_192 : ∀  (e1 : Option Value) (e2 : Option Value) (e3 : Option Value) (T T2 : qT) (v : Int32), w_run b_Md_compile n (192, [], []) T = some (v, T2) → q_out (q_ev q_Mt D) q_mMd_compile (192, [some (.ref (r + 0)), e1, e2, e3], [], layM r T) = some (.inl (some (.int v)), layM r T2)) (v1 : Int32) (v2 : Int32) (v3 : Int32)  (T T1 T2 : qT) (rr : qJ ⊕ Int32) (v : Int32) (h : k_Md_compile_62 v1 v2 v3 T = some (rr, T1)) (hE : w_end b_Md_compile n rr T1 = some (v, T2)) : q_out (q_ev q_Mt D) q_mMd_compile (62, [some (.ref (r + 0)), some (.int v1), some (.int v2), some (.int v3)], [], layM r T) = some (.inl (some (.int v)), layM r T2) := by
  unfold k_Md_compile_62 at h
  refine Eq.trans (o_iload_n d_Md_compile_62 rfl) ?_
  refine s_if_lt (t := 87) d_Md_compile_63 (by decide) h (fun h => ?_) (fun h => ?_)
  · exact c_Md_compile_87 D hD r n ih_62 ih_192 _ _ _ _ _ _ _ _ h hE
  · refine Eq.trans (o_iload_n d_Md_compile_66 rfl) ?_
    refine s_if_eq (t := 87) d_Md_compile_67 (by decide) h (fun h => ?_) (fun h => ?_)
    · exact c_Md_compile_87 D hD r n ih_62 ih_192 _ _ _ _ _ _ _ _ h hE
    · refine Eq.trans (o_aload_n d_Md_compile_70 rfl) ?_
      refine s_ref d_Md_compile_71 pF_Md_43 (zM_Md_wide r) ?_
      refine Eq.trans (o_iload_n d_Md_compile_74 rfl) ?_
      refine Eq.trans (o_aload_n d_Md_compile_75 rfl) ?_
      refine Eq.trans (o_iload_n d_Md_compile_76 rfl) ?_
      obtain ⟨x1, T2, h1, h⟩ := w_C_of h
      refine s_cV1i d_Md_compile_77 pM_Md_205 (Nat.le_of_ble_eq_true rfl) (obM_0 r) (c_Md_widthOf D (by omega) r _ _ _ _ h1) ?_
      replace h1 := trivial; revert h; generalize T2 = T; intro h
      refine s_iast d_Md_compile_80 (rM_10 r) h (fun T h => ?_)
      refine Eq.trans (o_iinc (v := (v3 + (-1))) (lo' := [some (.ref (r + 0)), some (.int v1), some (.int v2), some (.int (v3 + (-1)))]) d_Md_compile_81 rfl (by rw [show Int32.ofInt (-1) = (-1) from by decide]) (Nat.le_of_ble_eq_true rfl) rfl) ?_
      refine Eq.trans (o_goto (t := 62) d_Md_compile_84 (by decide)) ?_
      exact ih_62 _ _ _ _ _ _ (s_jump h hE)
set_option maxRecDepth 100000 in
set_option maxHeartbeats 4000000 in
theorem c_Md_compile_52 (D : Nat) (hD : 5 ≤ D) (r : Nat) (n : Nat) (ih_62 : ∀ (v1 : Int32) (v2 : Int32) (v3 : Int32)  (T T2 : qT) (v : Int32), w_run b_Md_compile n (62, [.int v1, .int v2, .int v3], []) T = some (v, T2) → q_out (q_ev q_Mt D) q_mMd_compile (62, [some (.ref (r + 0)), some (.int v1), some (.int v2), some (.int v3)], [], layM r T) = some (.inl (some (.int v)), layM r T2)) (ih_192 : ∀  (e1 : Option Value) (e2 : Option Value) (e3 : Option Value) (T T2 : qT) (v : Int32), w_run b_Md_compile n (192, [], []) T = some (v, T2) → q_out (q_ev q_Mt D) q_mMd_compile (192, [some (.ref (r + 0)), e1, e2, e3], [], layM r T) = some (.inl (some (.int v)), layM r T2)) (v1 : Int32) (v2 : Int32) (s0 : Int32) (e3 : Option Value) (T T1 T2 : qT) (rr : qJ ⊕ Int32) (v : Int32) (h : k_Md_compile_52 v1 v2 s0 T = some (rr, T1)) (hE : w_end b_Md_compile n rr T1 = some (v, T2)) : q_out (q_ev q_Mt D) q_mMd_compile (52, [some (.ref (r + 0)), some (.int v1), some (.int v2), e3], [.int s0, .ref (r + 0)], layM r T) = some (.inl (some (.int v)), layM r T2) := by
  unfold k_Md_compile_52 at h
  refine s_put d_Md_compile_52 pF_Md_13 (zM_Md_error r) h (fun T h => ?_)
  refine Eq.trans (o_aload_n d_Md_compile_55 rfl) ?_
  refine s_get d_Md_compile_56 pF_Md_112 (zM_Md_nodes r) h (fun x1 h => ?_)
  refine Eq.trans (o_iconst (v := 1) d_Md_compile_59 (by decide)) ?_
  refine Eq.trans (o_isub d_Md_compile_60) ?_
  refine Eq.trans (o_istore_n (lo' := [some (.ref (r + 0)), some (.int v1), some (.int v2), some (.int (x1 - 1))]) d_Md_compile_61 (Nat.le_of_ble_eq_true rfl) rfl) ?_
  exact ih_62 _ _ _ _ _ _ (s_jump h hE)
set_option maxRecDepth 100000 in
set_option maxHeartbeats 4000000 in
theorem c_Md_compile_44 (D : Nat) (hD : 5 ≤ D) (r : Nat) (n : Nat) (ih_62 : ∀ (v1 : Int32) (v2 : Int32) (v3 : Int32)  (T T2 : qT) (v : Int32), w_run b_Md_compile n (62, [.int v1, .int v2, .int v3], []) T = some (v, T2) → q_out (q_ev q_Mt D) q_mMd_compile (62, [some (.ref (r + 0)), some (.int v1), some (.int v2), some (.int v3)], [], layM r T) = some (.inl (some (.int v)), layM r T2)) (ih_192 : ∀  (e1 : Option Value) (e2 : Option Value) (e3 : Option Value) (T T2 : qT) (v : Int32), w_run b_Md_compile n (192, [], []) T = some (v, T2) → q_out (q_ev q_Mt D) q_mMd_compile (192, [some (.ref (r + 0)), e1, e2, e3], [], layM r T) = some (.inl (some (.int v)), layM r T2)) (v1 : Int32) (v2 : Int32) (e3 : Option Value) (T T1 T2 : qT) (rr : qJ ⊕ Int32) (v : Int32) (h : k_Md_compile_44 v1 v2 T = some (rr, T1)) (hE : w_end b_Md_compile n rr T1 = some (v, T2)) : q_out (q_ev q_Mt D) q_mMd_compile (44, [some (.ref (r + 0)), some (.int v1), some (.int v2), e3], [.ref (r + 0)], layM r T) = some (.inl (some (.int v)), layM r T2) := by
  unfold k_Md_compile_44 at h
  refine Eq.trans (o_iconst (v := (-1)) d_Md_compile_44 (by decide)) ?_
  refine Eq.trans (o_goto (t := 52) d_Md_compile_45 (by decide)) ?_
  exact c_Md_compile_52 D hD r n ih_62 ih_192 _ _ _ _ _ _ _ _ _ h hE
set_option maxRecDepth 100000 in
set_option maxHeartbeats 4000000 in
theorem c_Md_compile_34 (D : Nat) (hD : 5 ≤ D) (r : Nat) (n : Nat) (ih_62 : ∀ (v1 : Int32) (v2 : Int32) (v3 : Int32)  (T T2 : qT) (v : Int32), w_run b_Md_compile n (62, [.int v1, .int v2, .int v3], []) T = some (v, T2) → q_out (q_ev q_Mt D) q_mMd_compile (62, [some (.ref (r + 0)), some (.int v1), some (.int v2), some (.int v3)], [], layM r T) = some (.inl (some (.int v)), layM r T2)) (ih_192 : ∀  (e1 : Option Value) (e2 : Option Value) (e3 : Option Value) (T T2 : qT) (v : Int32), w_run b_Md_compile n (192, [], []) T = some (v, T2) → q_out (q_ev q_Mt D) q_mMd_compile (192, [some (.ref (r + 0)), e1, e2, e3], [], layM r T) = some (.inl (some (.int v)), layM r T2)) (v1 : Int32) (s0 : Int32) (e2 : Option Value) (e3 : Option Value) (T T1 T2 : qT) (rr : qJ ⊕ Int32) (v : Int32) (h : k_Md_compile_34 v1 s0 T = some (rr, T1)) (hE : w_end b_Md_compile n rr T1 = some (v, T2)) : q_out (q_ev q_Mt D) q_mMd_compile (34, [some (.ref (r + 0)), some (.int v1), e2, e3], [.int s0], layM r T) = some (.inl (some (.int v)), layM r T2) := by
  unfold k_Md_compile_34 at h
  refine Eq.trans (o_istore_n (lo' := [some (.ref (r + 0)), some (.int v1), some (.int s0), e3]) d_Md_compile_34 (Nat.le_of_ble_eq_true rfl) rfl) ?_
  refine Eq.trans (o_aload_n d_Md_compile_35 rfl) ?_
  refine Eq.trans (o_iload_n d_Md_compile_36 rfl) ?_
  refine s_if_ne (t := 44) d_Md_compile_37 (by decide) h (fun h => ?_) (fun h => ?_)
  · exact c_Md_compile_44 D hD r n ih_62 ih_192 _ _ _ _ _ _ _ _ h hE
  · refine Eq.trans (o_iload_n d_Md_compile_40 rfl) ?_
    refine s_if_eq (t := 48) d_Md_compile_41 (by decide) h (fun h => ?_) (fun h => ?_)
    · refine Eq.trans (o_aload_n d_Md_compile_48 rfl) ?_
      refine s_get d_Md_compile_49 pF_Md_126 (zM_Md_p r) h (fun x1 h => ?_)
      exact c_Md_compile_52 D hD r n ih_62 ih_192 _ _ _ _ _ _ _ _ _ h hE
    · exact c_Md_compile_44 D hD r n ih_62 ih_192 _ _ _ _ _ _ _ _ h hE
set_option maxRecDepth 100000 in
set_option maxHeartbeats 4000000 in
theorem c_Md_compile_33 (D : Nat) (hD : 5 ≤ D) (r : Nat) (n : Nat) (ih_62 : ∀ (v1 : Int32) (v2 : Int32) (v3 : Int32)  (T T2 : qT) (v : Int32), w_run b_Md_compile n (62, [.int v1, .int v2, .int v3], []) T = some (v, T2) → q_out (q_ev q_Mt D) q_mMd_compile (62, [some (.ref (r + 0)), some (.int v1), some (.int v2), some (.int v3)], [], layM r T) = some (.inl (some (.int v)), layM r T2)) (ih_192 : ∀  (e1 : Option Value) (e2 : Option Value) (e3 : Option Value) (T T2 : qT) (v : Int32), w_run b_Md_compile n (192, [], []) T = some (v, T2) → q_out (q_ev q_Mt D) q_mMd_compile (192, [some (.ref (r + 0)), e1, e2, e3], [], layM r T) = some (.inl (some (.int v)), layM r T2)) (v1 : Int32) (e2 : Option Value) (e3 : Option Value) (T T1 T2 : qT) (rr : qJ ⊕ Int32) (v : Int32) (h : k_Md_compile_33 v1 T = some (rr, T1)) (hE : w_end b_Md_compile n rr T1 = some (v, T2)) : q_out (q_ev q_Mt D) q_mMd_compile (33, [some (.ref (r + 0)), some (.int v1), e2, e3], [], layM r T) = some (.inl (some (.int v)), layM r T2) := by
  unfold k_Md_compile_33 at h
  refine Eq.trans (o_iconst (v := 0) d_Md_compile_33 (by decide)) ?_
  exact c_Md_compile_34 D hD r n ih_62 ih_192 _ _ _ _ _ _ _ _ _ h hE
set_option maxRecDepth 100000 in
set_option maxHeartbeats 4000000 in
theorem c_Md_compile_17 (D : Nat) (hD : 5 ≤ D) (r : Nat) (n : Nat) (ih_62 : ∀ (v1 : Int32) (v2 : Int32) (v3 : Int32)  (T T2 : qT) (v : Int32), w_run b_Md_compile n (62, [.int v1, .int v2, .int v3], []) T = some (v, T2) → q_out (q_ev q_Mt D) q_mMd_compile (62, [some (.ref (r + 0)), some (.int v1), some (.int v2), some (.int v3)], [], layM r T) = some (.inl (some (.int v)), layM r T2)) (ih_192 : ∀  (e1 : Option Value) (e2 : Option Value) (e3 : Option Value) (T T2 : qT) (v : Int32), w_run b_Md_compile n (192, [], []) T = some (v, T2) → q_out (q_ev q_Mt D) q_mMd_compile (192, [some (.ref (r + 0)), e1, e2, e3], [], layM r T) = some (.inl (some (.int v)), layM r T2)) (s0 : Int32) (e1 : Option Value) (e2 : Option Value) (e3 : Option Value) (T T1 T2 : qT) (rr : qJ ⊕ Int32) (v : Int32) (h : k_Md_compile_17 s0 T = some (rr, T1)) (hE : w_end b_Md_compile n rr T1 = some (v, T2)) : q_out (q_ev q_Mt D) q_mMd_compile (17, [some (.ref (r + 0)), e1, e2, e3], [.int s0], layM r T) = some (.inl (some (.int v)), layM r T2) := by
  unfold k_Md_compile_17 at h
  refine Eq.trans (o_istore_n (lo' := [some (.ref (r + 0)), some (.int s0), e2, e3]) d_Md_compile_17 (Nat.le_of_ble_eq_true rfl) rfl) ?_
  refine Eq.trans (o_iload_n d_Md_compile_18 rfl) ?_
  refine s_if_ne (t := 33) d_Md_compile_19 (by decide) h (fun h => ?_) (fun h => ?_)
  · exact c_Md_compile_33 D hD r n ih_62 ih_192 _ _ _ _ _ _ _ _ h hE
  · refine Eq.trans (o_aload_n d_Md_compile_22 rfl) ?_
    obtain ⟨x1, T2, h1, h⟩ := w_C_of h
    refine s_cV0i d_Md_compile_23 pM_Md_201 (Nat.le_of_ble_eq_true rfl) (obM_0 r) (c_Md_read D (by omega) r _ _ _ h1) ?_
    replace h1 := trivial; revert h; generalize T2 = T; intro h
    refine s_if_eq (t := 33) d_Md_compile_26 (by decide) h (fun h => ?_) (fun h => ?_)
    · exact c_Md_compile_33 D hD r n ih_62 ih_192 _ _ _ _ _ _ _ _ h hE
    · refine Eq.trans (o_iconst (v := 1) d_Md_compile_29 (by decide)) ?_
      refine Eq.trans (o_goto (t := 34) d_Md_compile_30 (by decide)) ?_
      exact c_Md_compile_34 D hD r n ih_62 ih_192 _ _ _ _ _ _ _ _ _ h hE
set_option maxRecDepth 100000 in
set_option maxHeartbeats 4000000 in
theorem c_Md_compile_0 (D : Nat) (hD : 5 ≤ D) (r : Nat) (n : Nat) (ih_62 : ∀ (v1 : Int32) (v2 : Int32) (v3 : Int32)  (T T2 : qT) (v : Int32), w_run b_Md_compile n (62, [.int v1, .int v2, .int v3], []) T = some (v, T2) → q_out (q_ev q_Mt D) q_mMd_compile (62, [some (.ref (r + 0)), some (.int v1), some (.int v2), some (.int v3)], [], layM r T) = some (.inl (some (.int v)), layM r T2)) (ih_192 : ∀  (e1 : Option Value) (e2 : Option Value) (e3 : Option Value) (T T2 : qT) (v : Int32), w_run b_Md_compile n (192, [], []) T = some (v, T2) → q_out (q_ev q_Mt D) q_mMd_compile (192, [some (.ref (r + 0)), e1, e2, e3], [], layM r T) = some (.inl (some (.int v)), layM r T2))   (T T1 T2 : qT) (rr : qJ ⊕ Int32) (v : Int32) (h : k_Md_compile_0 T = some (rr, T1)) (hE : w_end b_Md_compile n rr T1 = some (v, T2)) : q_out (q_ev q_Mt D) q_mMd_compile (0, [some (.ref (r + 0)), none, none, none], [], layM r T) = some (.inl (some (.int v)), layM r T2) := by
  unfold k_Md_compile_0 at h
  refine Eq.trans (o_aload_n d_Md_compile_0 rfl) ?_
  refine Eq.trans (o_iconst (v := 0) d_Md_compile_1 (by decide)) ?_
  refine s_put d_Md_compile_2 pF_Md_103 (zM_Md_thrown r) h (fun T h => ?_)
  refine Eq.trans (o_aload_n d_Md_compile_5 rfl) ?_
  refine s_get d_Md_compile_6 pF_Md_109 (zM_Md_length r) h (fun x1 h => ?_)
  refine s_if_le (t := 16) d_Md_compile_9 (by decide) h (fun h => ?_) (fun h => ?_)
  · refine Eq.trans (o_iconst (v := 0) d_Md_compile_16 (by decide)) ?_
    exact c_Md_compile_17 D hD r n ih_62 ih_192 _ _ _ _ _ _ _ _ _ h hE
  · refine Eq.trans (o_iconst (v := 1) d_Md_compile_12 (by decide)) ?_
    refine Eq.trans (o_goto (t := 17) d_Md_compile_13 (by decide)) ?_
    exact c_Md_compile_17 D hD r n ih_62 ih_192 _ _ _ _ _ _ _ _ _ h hE
theorem c_Md_compile_lp (D : Nat) (hD : 5 ≤ D) (r : Nat) : ∀ n : Nat, (∀ (v1 : Int32) (v2 : Int32) (v3 : Int32)  (T T2 : qT) (v : Int32), w_run b_Md_compile n (62, [.int v1, .int v2, .int v3], []) T = some (v, T2) → q_out (q_ev q_Mt D) q_mMd_compile (62, [some (.ref (r + 0)), some (.int v1), some (.int v2), some (.int v3)], [], layM r T) = some (.inl (some (.int v)), layM r T2)) ∧ (∀  (e1 : Option Value) (e2 : Option Value) (e3 : Option Value) (T T2 : qT) (v : Int32), w_run b_Md_compile n (192, [], []) T = some (v, T2) → q_out (q_ev q_Mt D) q_mMd_compile (192, [some (.ref (r + 0)), e1, e2, e3], [], layM r T) = some (.inl (some (.int v)), layM r T2)) := by
  intro n
  induction n with
  | zero => exact ⟨(fun v1 v2 v3 T T2 v h => by cases h), (fun e1 e2 e3 T T2 v h => by cases h)⟩
  | succ n ih =>
    obtain ⟨ih_62, ih_192⟩ := ih
    refine ⟨?_, ?_⟩
    · intro v1 v2 v3 T T2 v h
      obtain ⟨rr, T1, hb, hE⟩ := w_run_succ h
      exact c_Md_compile_62 D hD r n ih_62 ih_192 v1 v2 v3 T T1 T2 rr v hb hE
    · intro e1 e2 e3 T T2 v h
      obtain ⟨rr, T1, hb, hE⟩ := w_run_succ h
      exact c_Md_compile_192 D hD r n ih_62 ih_192 e1 e2 e3 T T1 T2 rr v hb hE
theorem c_Md_compile (D : Nat) (hD : 6 ≤ D) (r : Nat)  (T T2 : qT) (v : Int32) (h : f_Md_compile  T = some (v, T2)) : q_ev q_Mt D 78 [.ref (r + 0)] (layM r T) = some (.inl (some (.int v)), layM r T2) := by
  obtain ⟨D, rfl⟩ : ∃ D', D = D' + 1 := ⟨D - 1, by omega⟩
  obtain ⟨n, hn⟩ := w_fix_iff.mp h
  cases n with
  | zero => cases hn
  | succ n =>
    obtain ⟨rr, T1, hb, hE⟩ := w_run_succ hn
    have hl := c_Md_compile_lp D (by omega) r n
    obtain ⟨ih_62, ih_192⟩ := hl
    rw [o_ev (M := q_mMd_compile) (lo := [some (.ref (r + 0)), none, none, none]) rfl (Nat.le_of_ble_eq_true rfl) rfl]
    exact c_Md_compile_0 D (by omega) r n ih_62 ih_192  T T1 T2 rr v hb hE
noncomputable def f_Md_position  : qW Int32 :=
  w_s 0 0 <|
  w_S 3 fun x1 =>
  w_ret .int x1
set_option maxRecDepth 100000 in
set_option maxHeartbeats 4000000 in
theorem c_Md_position_0 (D : Nat) (hD : 0 ≤ D) (r : Nat)   (T T1 : qT) (v : Int32) (h : f_Md_position T = some (v, T1)) : q_out (q_ev q_Mt D) q_mMd_position (0, [some (.ref (r + 0))], [], layM r T) = some (.inl (some (.int v)), layM r T1) := by
  unfold f_Md_position at h
  refine Eq.trans (o_aload_n d_Md_position_0 rfl) ?_
  refine Eq.trans (o_iconst (v := 0) d_Md_position_1 (by decide)) ?_
  refine s_put d_Md_position_2 pF_Md_103 (zM_Md_thrown r) h (fun T h => ?_)
  refine Eq.trans (o_aload_n d_Md_position_5 rfl) ?_
  refine s_get d_Md_position_6 pF_Md_13 (zM_Md_error r) h (fun x1 h => ?_)
  exact s_iret d_Md_position_9 rfl h
theorem c_Md_position (D : Nat) (hD : 1 ≤ D) (r : Nat)  (T T1 : qT) (v : Int32) (h : f_Md_position  T = some (v, T1)) : q_ev q_Mt D 100 [.ref (r + 0)] (layM r T) = some (.inl (some (.int v)), layM r T1) := by
  obtain ⟨D, rfl⟩ : ∃ D', D = D' + 1 := ⟨D - 1, by omega⟩
  rw [o_ev (M := q_mMd_position) (lo := [some (.ref (r + 0))]) rfl (Nat.le_of_ble_eq_true rfl) rfl]
  exact c_Md_position_0 D (by omega) r  T T1 v h
noncomputable def f_Md_clear  : qW Unit :=
  w_s 0 0 <|
  w_s 1 0 <|
  w_s 22 0 <|
  w_s 3 ((-1)) <|
  w_z 29 0 <|
  w_pure ()
set_option maxRecDepth 100000 in
set_option maxHeartbeats 4000000 in
theorem c_Md_clear_0 (D : Nat) (hD : 0 ≤ D) (r : Nat)   (T T1 : qT) (v : Unit) (h : f_Md_clear T = some (v, T1)) : q_out (q_ev q_Mt D) q_mMd_clear (0, [some (.ref (r + 0))], [], layM r T) = some (.inl (none), layM r T1) := by
  unfold f_Md_clear at h
  refine Eq.trans (o_aload_n d_Md_clear_0 rfl) ?_
  refine Eq.trans (o_iconst (v := 0) d_Md_clear_1 (by decide)) ?_
  refine s_put d_Md_clear_2 pF_Md_103 (zM_Md_thrown r) h (fun T h => ?_)
  refine Eq.trans (o_aload_n d_Md_clear_5 rfl) ?_
  refine Eq.trans (o_iconst (v := 0) d_Md_clear_6 (by decide)) ?_
  refine s_put d_Md_clear_7 pF_Md_106 (zM_Md_size r) h (fun T h => ?_)
  refine Eq.trans (o_aload_n d_Md_clear_10 rfl) ?_
  refine Eq.trans (o_iconst (v := 0) d_Md_clear_11 (by decide)) ?_
  refine s_put d_Md_clear_12 pF_Md_109 (zM_Md_length r) h (fun T h => ?_)
  refine Eq.trans (o_aload_n d_Md_clear_15 rfl) ?_
  refine Eq.trans (o_iconst (v := (-1)) d_Md_clear_16 (by decide)) ?_
  refine s_put d_Md_clear_17 pF_Md_13 (zM_Md_error r) h (fun T h => ?_)
  refine Eq.trans (o_aload_n d_Md_clear_20 rfl) ?_
  refine Eq.trans (o_iconst (v := 0) d_Md_clear_21 (by decide)) ?_
  refine s_putZ d_Md_clear_22 pF_Md_212 (zM_Md_begun r) h (fun T h => ?_)
  exact s_vret d_Md_clear_25 rfl h
theorem c_Md_clear (D : Nat) (hD : 1 ≤ D) (r : Nat)  (T T1 : qT) (v : Unit) (h : f_Md_clear  T = some (v, T1)) : q_ev q_Mt D 101 [.ref (r + 0)] (layM r T) = some (.inl (none), layM r T1) := by
  obtain ⟨D, rfl⟩ : ∃ D', D = D' + 1 := ⟨D - 1, by omega⟩
  rw [o_ev (M := q_mMd_clear) (lo := [some (.ref (r + 0))]) rfl (Nat.le_of_ble_eq_true rfl) rfl]
  exact c_Md_clear_0 D (by omega) r  T T1 v h
noncomputable def f_Md_has (a1 : Int32) (a2 : Int32) : qW Int32 :=
  w_A 14 400 (((8 * a1) + (a2 / 32))) fun x1 =>
  w_if (¬ ((((x1 : Int32) >>> (((a2 - a2 / 32 * 32) : Int32) &&& 31)) &&& 1)) = 1) (
    w_ret .boolean 0) (
    w_ret .boolean 1)
set_option maxRecDepth 100000 in
set_option maxHeartbeats 4000000 in
theorem c_Md_has_0 (D : Nat) (hD : 0 ≤ D) (r : Nat) (a1 : Int32) (a2 : Int32)  (T T1 : qT) (v : Int32) (h : f_Md_has a1 a2 T = some (v, T1)) : q_out (q_ev q_Mt D) q_mMd_has (0, [some (.ref (r + 0)), some (.int a1), some (.int a2)], [], layM r T) = some (.inl (some (.int v)), layM r T1) := by
  unfold f_Md_has at h
  refine Eq.trans (o_aload_n d_Md_has_0 rfl) ?_
  refine s_ref d_Md_has_1 pF_Md_55 (zM_Md_bits r) ?_
  refine Eq.trans (o_bipush (v := 8) d_Md_has_4 (by decide)) ?_
  refine Eq.trans (o_iload_n d_Md_has_6 rfl) ?_
  refine Eq.trans (o_imul d_Md_has_7) ?_
  refine Eq.trans (o_iload_n d_Md_has_8 rfl) ?_
  refine Eq.trans (o_bipush (v := 32) d_Md_has_9 (by decide)) ?_
  refine Eq.trans (o_idiv d_Md_has_11 (by decide)) ?_
  refine Eq.trans (o_iadd d_Md_has_12) ?_
  refine s_iald d_Md_has_13 (rM_14 r) h (fun x1 h => ?_)
  refine Eq.trans (o_iload_n d_Md_has_14 rfl) ?_
  refine Eq.trans (o_bipush (v := 32) d_Md_has_15 (by decide)) ?_
  refine Eq.trans (o_irem d_Md_has_17 (by decide)) ?_
  refine Eq.trans (o_ishr d_Md_has_18) ?_
  refine Eq.trans (o_iconst (v := 1) d_Md_has_19 (by decide)) ?_
  refine Eq.trans (o_iand d_Md_has_20) ?_
  refine Eq.trans (o_iconst (v := 1) d_Md_has_21 (by decide)) ?_
  refine s_icmp_ne (t := 29) d_Md_has_22 (by decide) h (fun h => ?_) (fun h => ?_)
  · refine Eq.trans (o_iconst (v := 0) d_Md_has_29 (by decide)) ?_
    exact s_iret d_Md_has_30 rfl h
  · refine Eq.trans (o_iconst (v := 1) d_Md_has_25 (by decide)) ?_
    refine Eq.trans (o_goto (t := 30) d_Md_has_26 (by decide)) ?_
    exact s_iret d_Md_has_30 rfl h
theorem c_Md_has (D : Nat) (hD : 1 ≤ D) (r : Nat) (a1 : Int32) (a2 : Int32) (T T1 : qT) (v : Int32) (h : f_Md_has a1 a2 T = some (v, T1)) : q_ev q_Mt D 104 [.ref (r + 0), .int a1, .int a2] (layM r T) = some (.inl (some (.int v)), layM r T1) := by
  obtain ⟨D, rfl⟩ : ∃ D', D = D' + 1 := ⟨D - 1, by omega⟩
  rw [o_ev (M := q_mMd_has) (lo := [some (.ref (r + 0)), some (.int a1), some (.int a2)]) rfl (Nat.le_of_ble_eq_true rfl) rfl]
  exact c_Md_has_0 D (by omega) r a1 a2 T T1 v h
noncomputable def k_Md_many_4 (v1 : Int32) (v2 : Int32) (v3 : Int32) : qW (qJ ⊕ Int32) :=
  w_if (256 ≤ v3) (
    w_ri .int v2) (
    w_C (f_Md_has v1 v3) fun x1 =>
    w_if (x1 = 0) (
      w_go 4 [.int v1, .int v2, .int (v3 + 1)] []) (
      w_go 4 [.int v1, .int (v2 + 1), .int (v3 + 1)] []))
noncomputable def k_Md_many_0 (a1 : Int32) : qW (qJ ⊕ Int32) :=
  w_go 4 [.int a1, .int 0, .int 0] []
noncomputable def b_Md_many : qJ → qW (qJ ⊕ Int32) := fun x => match x with
  | (0, [.int a1], []) => k_Md_many_0 a1
  | (4, [.int v1, .int v2, .int v3], []) => k_Md_many_4 v1 v2 v3
  | _ => w_no
noncomputable def f_Md_many (a1 : Int32) : qW Int32 := w_fix b_Md_many (0, [.int a1], [])
set_option maxRecDepth 100000 in
set_option maxHeartbeats 4000000 in
theorem c_Md_many_4 (D : Nat) (hD : 1 ≤ D) (r : Nat) (n : Nat) (ih_4 : ∀ (v1 : Int32) (v2 : Int32) (v3 : Int32)  (T T2 : qT) (v : Int32), w_run b_Md_many n (4, [.int v1, .int v2, .int v3], []) T = some (v, T2) → q_out (q_ev q_Mt D) q_mMd_many (4, [some (.ref (r + 0)), some (.int v1), some (.int v2), some (.int v3)], [], layM r T) = some (.inl (some (.int v)), layM r T2)) (v1 : Int32) (v2 : Int32) (v3 : Int32)  (T T1 T2 : qT) (rr : qJ ⊕ Int32) (v : Int32) (h : k_Md_many_4 v1 v2 v3 T = some (rr, T1)) (hE : w_end b_Md_many n rr T1 = some (v, T2)) : q_out (q_ev q_Mt D) q_mMd_many (4, [some (.ref (r + 0)), some (.int v1), some (.int v2), some (.int v3)], [], layM r T) = some (.inl (some (.int v)), layM r T2) := by
  unfold k_Md_many_4 at h
  refine Eq.trans (o_iload_n d_Md_many_4 rfl) ?_
  refine Eq.trans (o_sipush (v := 256) d_Md_many_5 (by decide)) ?_
  refine s_icmp_ge (t := 34) d_Md_many_8 (by decide) h (fun h => ?_) (fun h => ?_)
  · refine Eq.trans (o_iload_n d_Md_many_34 rfl) ?_
    exact s_iretJ d_Md_many_35 rfl h hE
  · refine Eq.trans (o_aload_n d_Md_many_11 rfl) ?_
    refine Eq.trans (o_iload_n d_Md_many_12 rfl) ?_
    refine Eq.trans (o_iload_n d_Md_many_13 rfl) ?_
    obtain ⟨x1, T2, h1, h⟩ := w_C_of h
    refine s_cV2i d_Md_many_14 pM_Md_122 (Nat.le_of_ble_eq_true rfl) (obM_0 r) (c_Md_has D (by omega) r _ _ _ _ _ h1) ?_
    replace h1 := trivial; revert h; generalize T2 = T; intro h
    refine s_if_eq (t := 26) d_Md_many_17 (by decide) h (fun h => ?_) (fun h => ?_)
    · refine Eq.trans (o_iload_n d_Md_many_26 rfl) ?_
      refine Eq.trans (o_istore_n (lo' := [some (.ref (r + 0)), some (.int v1), some (.int v2), some (.int v3)]) d_Md_many_27 (Nat.le_of_ble_eq_true rfl) rfl) ?_
      refine Eq.trans (o_iinc (v := (v3 + 1)) (lo' := [some (.ref (r + 0)), some (.int v1), some (.int v2), some (.int (v3 + 1))]) d_Md_many_28 rfl (by rw [show Int32.ofInt 1 = 1 from by decide]) (Nat.le_of_ble_eq_true rfl) rfl) ?_
      refine Eq.trans (o_goto (t := 4) d_Md_many_31 (by decide)) ?_
      exact ih_4 _ _ _ _ _ _ (s_jump h hE)
    · refine Eq.trans (o_iload_n d_Md_many_20 rfl) ?_
      refine Eq.trans (o_iconst (v := 1) d_Md_many_21 (by decide)) ?_
      refine Eq.trans (o_iadd d_Md_many_22) ?_
      refine Eq.trans (o_goto (t := 27) d_Md_many_23 (by decide)) ?_
      refine Eq.trans (o_istore_n (lo' := [some (.ref (r + 0)), some (.int v1), some (.int (v2 + 1)), some (.int v3)]) d_Md_many_27 (Nat.le_of_ble_eq_true rfl) rfl) ?_
      refine Eq.trans (o_iinc (v := (v3 + 1)) (lo' := [some (.ref (r + 0)), some (.int v1), some (.int (v2 + 1)), some (.int (v3 + 1))]) d_Md_many_28 rfl (by rw [show Int32.ofInt 1 = 1 from by decide]) (Nat.le_of_ble_eq_true rfl) rfl) ?_
      refine Eq.trans (o_goto (t := 4) d_Md_many_31 (by decide)) ?_
      exact ih_4 _ _ _ _ _ _ (s_jump h hE)
set_option maxRecDepth 100000 in
set_option maxHeartbeats 4000000 in
theorem c_Md_many_0 (D : Nat) (hD : 1 ≤ D) (r : Nat) (n : Nat) (ih_4 : ∀ (v1 : Int32) (v2 : Int32) (v3 : Int32)  (T T2 : qT) (v : Int32), w_run b_Md_many n (4, [.int v1, .int v2, .int v3], []) T = some (v, T2) → q_out (q_ev q_Mt D) q_mMd_many (4, [some (.ref (r + 0)), some (.int v1), some (.int v2), some (.int v3)], [], layM r T) = some (.inl (some (.int v)), layM r T2)) (a1 : Int32)  (T T1 T2 : qT) (rr : qJ ⊕ Int32) (v : Int32) (h : k_Md_many_0 a1 T = some (rr, T1)) (hE : w_end b_Md_many n rr T1 = some (v, T2)) : q_out (q_ev q_Mt D) q_mMd_many (0, [some (.ref (r + 0)), some (.int a1), none, none], [], layM r T) = some (.inl (some (.int v)), layM r T2) := by
  unfold k_Md_many_0 at h
  refine Eq.trans (o_iconst (v := 0) d_Md_many_0 (by decide)) ?_
  refine Eq.trans (o_istore_n (lo' := [some (.ref (r + 0)), some (.int a1), some (.int 0), none]) d_Md_many_1 (Nat.le_of_ble_eq_true rfl) rfl) ?_
  refine Eq.trans (o_iconst (v := 0) d_Md_many_2 (by decide)) ?_
  refine Eq.trans (o_istore_n (lo' := [some (.ref (r + 0)), some (.int a1), some (.int 0), some (.int 0)]) d_Md_many_3 (Nat.le_of_ble_eq_true rfl) rfl) ?_
  exact ih_4 _ _ _ _ _ _ (s_jump h hE)
theorem c_Md_many_lp (D : Nat) (hD : 1 ≤ D) (r : Nat) : ∀ n : Nat, (∀ (v1 : Int32) (v2 : Int32) (v3 : Int32)  (T T2 : qT) (v : Int32), w_run b_Md_many n (4, [.int v1, .int v2, .int v3], []) T = some (v, T2) → q_out (q_ev q_Mt D) q_mMd_many (4, [some (.ref (r + 0)), some (.int v1), some (.int v2), some (.int v3)], [], layM r T) = some (.inl (some (.int v)), layM r T2)) := by
  intro n
  induction n with
  | zero => exact (fun v1 v2 v3 T T2 v h => by cases h)
  | succ n ih =>
    have ih_4 := ih
    · intro v1 v2 v3 T T2 v h
      obtain ⟨rr, T1, hb, hE⟩ := w_run_succ h
      exact c_Md_many_4 D hD r n ih_4 v1 v2 v3 T T1 T2 rr v hb hE
theorem c_Md_many (D : Nat) (hD : 2 ≤ D) (r : Nat) (a1 : Int32) (T T2 : qT) (v : Int32) (h : f_Md_many a1 T = some (v, T2)) : q_ev q_Mt D 103 [.ref (r + 0), .int a1] (layM r T) = some (.inl (some (.int v)), layM r T2) := by
  obtain ⟨D, rfl⟩ : ∃ D', D = D' + 1 := ⟨D - 1, by omega⟩
  obtain ⟨n, hn⟩ := w_fix_iff.mp h
  cases n with
  | zero => cases hn
  | succ n =>
    obtain ⟨rr, T1, hb, hE⟩ := w_run_succ hn
    have hl := c_Md_many_lp D (by omega) r n
    have ih_4 := hl
    rw [o_ev (M := q_mMd_many) (lo := [some (.ref (r + 0)), some (.int a1), none, none]) rfl (Nat.le_of_ble_eq_true rfl) rfl]
    exact c_Md_many_0 D (by omega) r n ih_4 a1 T T1 T2 rr v hb hE
noncomputable def f_Md_instruction (a1 : Int32) (a2 : Int32) : qW Int32 :=
  w_s 0 0 <|
  w_if (a1 < 0) (
    w_ret .int ((-1))) (
    w_S 22 fun x1 =>
    w_if (x1 ≤ a1) (
      w_ret .int ((-1))) (
      w_if (a2 < 0) (
        w_ret .int ((-1))) (
        w_if (a2 ≤ 2) (
          w_if (¬ a2 = 0) (
            w_if (¬ a2 = 2) (
              w_A 15 160 a1 fun x2 =>
              w_if (¬ x2 = 0) (
                w_A 16 160 a1 fun x3 =>
                w_ret .int x3) (
                w_A 16 160 a1 fun x4 =>
                w_C (f_Md_many x4) fun x5 =>
                w_ret .int x5)) (
              w_A 17 160 a1 fun x6 =>
              w_ret .int x6)) (
            w_A 15 160 a1 fun x7 =>
            w_ret .int x7)) (
          w_ret .int ((-1))))))
set_option maxRecDepth 100000 in
set_option maxHeartbeats 4000000 in
theorem c_Md_instruction_0 (D : Nat) (hD : 2 ≤ D) (r : Nat) (a1 : Int32) (a2 : Int32)  (T T1 : qT) (v : Int32) (h : f_Md_instruction a1 a2 T = some (v, T1)) : q_out (q_ev q_Mt D) q_mMd_instruction (0, [some (.ref (r + 0)), some (.int a1), some (.int a2)], [], layM r T) = some (.inl (some (.int v)), layM r T1) := by
  unfold f_Md_instruction at h
  refine Eq.trans (o_aload_n d_Md_instruction_0 rfl) ?_
  refine Eq.trans (o_iconst (v := 0) d_Md_instruction_1 (by decide)) ?_
  refine s_put d_Md_instruction_2 pF_Md_103 (zM_Md_thrown r) h (fun T h => ?_)
  refine Eq.trans (o_iload_n d_Md_instruction_5 rfl) ?_
  refine s_if_lt (t := 26) d_Md_instruction_6 (by decide) h (fun h => ?_) (fun h => ?_)
  · refine Eq.trans (o_iconst (v := (-1)) d_Md_instruction_26 (by decide)) ?_
    exact s_iret d_Md_instruction_27 rfl h
  · refine Eq.trans (o_iload_n d_Md_instruction_9 rfl) ?_
    refine Eq.trans (o_aload_n d_Md_instruction_10 rfl) ?_
    refine s_get d_Md_instruction_11 pF_Md_109 (zM_Md_length r) h (fun x1 h => ?_)
    refine s_icmp_ge (t := 26) d_Md_instruction_14 (by decide) h (fun h => ?_) (fun h => ?_)
    · refine Eq.trans (o_iconst (v := (-1)) d_Md_instruction_26 (by decide)) ?_
      exact s_iret d_Md_instruction_27 rfl h
    · refine Eq.trans (o_iload_n d_Md_instruction_17 rfl) ?_
      refine s_if_lt (t := 26) d_Md_instruction_18 (by decide) h (fun h => ?_) (fun h => ?_)
      · refine Eq.trans (o_iconst (v := (-1)) d_Md_instruction_26 (by decide)) ?_
        exact s_iret d_Md_instruction_27 rfl h
      · refine Eq.trans (o_iload_n d_Md_instruction_21 rfl) ?_
        refine Eq.trans (o_iconst (v := 2) d_Md_instruction_22 (by decide)) ?_
        refine s_icmp_le (t := 28) d_Md_instruction_23 (by decide) h (fun h => ?_) (fun h => ?_)
        · refine Eq.trans (o_iload_n d_Md_instruction_28 rfl) ?_
          refine s_if_ne (t := 39) d_Md_instruction_29 (by decide) h (fun h => ?_) (fun h => ?_)
          · refine Eq.trans (o_iload_n d_Md_instruction_39 rfl) ?_
            refine Eq.trans (o_iconst (v := 2) d_Md_instruction_40 (by decide)) ?_
            refine s_icmp_ne (t := 53) d_Md_instruction_41 (by decide) h (fun h => ?_) (fun h => ?_)
            · refine Eq.trans (o_aload_n d_Md_instruction_53 rfl) ?_
              refine s_ref d_Md_instruction_54 pF_Md_58 (zM_Md_code r) ?_
              refine Eq.trans (o_iload_n d_Md_instruction_57 rfl) ?_
              refine s_iald d_Md_instruction_58 (rM_15 r) h (fun x2 h => ?_)
              refine s_if_ne (t := 75) d_Md_instruction_59 (by decide) h (fun h => ?_) (fun h => ?_)
              · refine Eq.trans (o_aload_n d_Md_instruction_75 rfl) ?_
                refine s_ref d_Md_instruction_76 pF_Md_61 (zM_Md_x r) ?_
                refine Eq.trans (o_iload_n d_Md_instruction_79 rfl) ?_
                refine s_iald d_Md_instruction_80 (rM_16 r) h (fun x3 h => ?_)
                exact s_iret d_Md_instruction_81 rfl h
              · refine Eq.trans (o_aload_n d_Md_instruction_62 rfl) ?_
                refine Eq.trans (o_aload_n d_Md_instruction_63 rfl) ?_
                refine s_ref d_Md_instruction_64 pF_Md_61 (zM_Md_x r) ?_
                refine Eq.trans (o_iload_n d_Md_instruction_67 rfl) ?_
                refine s_iald d_Md_instruction_68 (rM_16 r) h (fun x4 h => ?_)
                obtain ⟨x5, T2, h1, h⟩ := w_C_of h
                refine s_cV1i d_Md_instruction_69 pM_Md_216 (Nat.le_of_ble_eq_true rfl) (obM_0 r) (c_Md_many D (by omega) r _ _ _ _ h1) ?_
                replace h1 := trivial; revert h; generalize T2 = T; intro h
                refine Eq.trans (o_goto (t := 81) d_Md_instruction_72 (by decide)) ?_
                exact s_iret d_Md_instruction_81 rfl h
            · refine Eq.trans (o_aload_n d_Md_instruction_44 rfl) ?_
              refine s_ref d_Md_instruction_45 pF_Md_64 (zM_Md_y r) ?_
              refine Eq.trans (o_iload_n d_Md_instruction_48 rfl) ?_
              refine s_iald d_Md_instruction_49 (rM_17 r) h (fun x6 h => ?_)
              refine Eq.trans (o_goto (t := 81) d_Md_instruction_50 (by decide)) ?_
              exact s_iret d_Md_instruction_81 rfl h
          · refine Eq.trans (o_aload_n d_Md_instruction_32 rfl) ?_
            refine s_ref d_Md_instruction_33 pF_Md_58 (zM_Md_code r) ?_
            refine Eq.trans (o_iload_n d_Md_instruction_36 rfl) ?_
            refine s_iald d_Md_instruction_37 (rM_15 r) h (fun x7 h => ?_)
            exact s_iret d_Md_instruction_38 rfl h
        · refine Eq.trans (o_iconst (v := (-1)) d_Md_instruction_26 (by decide)) ?_
          exact s_iret d_Md_instruction_27 rfl h
theorem c_Md_instruction (D : Nat) (hD : 3 ≤ D) (r : Nat) (a1 : Int32) (a2 : Int32) (T T1 : qT) (v : Int32) (h : f_Md_instruction a1 a2 T = some (v, T1)) : q_ev q_Mt D 102 [.ref (r + 0), .int a1, .int a2] (layM r T) = some (.inl (some (.int v)), layM r T1) := by
  obtain ⟨D, rfl⟩ : ∃ D', D = D' + 1 := ⟨D - 1, by omega⟩
  rw [o_ev (M := q_mMd_instruction) (lo := [some (.ref (r + 0)), some (.int a1), some (.int a2)]) rfl (Nat.le_of_ble_eq_true rfl) rfl]
  exact c_Md_instruction_0 D (by omega) r a1 a2 T T1 v h
noncomputable def f_Md_groups  : qW Int32 :=
  w_s 0 0 <|
  w_S 22 fun x1 =>
  w_if (x1 ≤ 0) (
    w_ret .int ((-1))) (
    w_S 19 fun x2 =>
    w_ret .int x2)
set_option maxRecDepth 100000 in
set_option maxHeartbeats 4000000 in
theorem c_Md_groups_0 (D : Nat) (hD : 0 ≤ D) (r : Nat)   (T T1 : qT) (v : Int32) (h : f_Md_groups T = some (v, T1)) : q_out (q_ev q_Mt D) q_mMd_groups (0, [some (.ref (r + 0))], [], layM r T) = some (.inl (some (.int v)), layM r T1) := by
  unfold f_Md_groups at h
  refine Eq.trans (o_aload_n d_Md_groups_0 rfl) ?_
  refine Eq.trans (o_iconst (v := 0) d_Md_groups_1 (by decide)) ?_
  refine s_put d_Md_groups_2 pF_Md_103 (zM_Md_thrown r) h (fun T h => ?_)
  refine Eq.trans (o_aload_n d_Md_groups_5 rfl) ?_
  refine s_get d_Md_groups_6 pF_Md_109 (zM_Md_length r) h (fun x1 h => ?_)
  refine s_if_le (t := 19) d_Md_groups_9 (by decide) h (fun h => ?_) (fun h => ?_)
  · refine Eq.trans (o_iconst (v := (-1)) d_Md_groups_19 (by decide)) ?_
    exact s_iret d_Md_groups_20 rfl h
  · refine Eq.trans (o_aload_n d_Md_groups_12 rfl) ?_
    refine s_get d_Md_groups_13 pF_Md_164 (zM_Md_numbers r) h (fun x2 h => ?_)
    refine Eq.trans (o_goto (t := 20) d_Md_groups_16 (by decide)) ?_
    exact s_iret d_Md_groups_20 rfl h
theorem c_Md_groups (D : Nat) (hD : 1 ≤ D) (r : Nat)  (T T1 : qT) (v : Int32) (h : f_Md_groups  T = some (v, T1)) : q_ev q_Mt D 105 [.ref (r + 0)] (layM r T) = some (.inl (some (.int v)), layM r T1) := by
  obtain ⟨D, rfl⟩ : ∃ D', D = D' + 1 := ⟨D - 1, by omega⟩
  rw [o_ev (M := q_mMd_groups) (lo := [some (.ref (r + 0))]) rfl (Nat.le_of_ble_eq_true rfl) rfl]
  exact c_Md_groups_0 D (by omega) r  T T1 v h
noncomputable def f_Md_start (a1 : Int32) : qW Int32 :=
  w_s 0 0 <|
  w_S 22 fun x1 =>
  w_if (¬ x1 = 0) (
    w_z 29 1 <|
    w_z 30 a1 <|
    w_s 31 0 <|
    w_z 33 0 <|
    w_ret .boolean 1) (
    w_ret .boolean 0)
set_option maxRecDepth 100000 in
set_option maxHeartbeats 4000000 in
theorem c_Md_start_0 (D : Nat) (hD : 0 ≤ D) (r : Nat) (a1 : Int32)  (T T1 : qT) (v : Int32) (h : f_Md_start a1 T = some (v, T1)) : q_out (q_ev q_Mt D) q_mMd_start (0, [some (.ref (r + 0)), some (.int a1)], [], layM r T) = some (.inl (some (.int v)), layM r T1) := by
  unfold f_Md_start at h
  refine Eq.trans (o_aload_n d_Md_start_0 rfl) ?_
  refine Eq.trans (o_iconst (v := 0) d_Md_start_1 (by decide)) ?_
  refine s_put d_Md_start_2 pF_Md_103 (zM_Md_thrown r) h (fun T h => ?_)
  refine Eq.trans (o_aload_n d_Md_start_5 rfl) ?_
  refine s_get d_Md_start_6 pF_Md_109 (zM_Md_length r) h (fun x1 h => ?_)
  refine s_if_ne (t := 14) d_Md_start_9 (by decide) h (fun h => ?_) (fun h => ?_)
  · refine Eq.trans (o_aload_n d_Md_start_14 rfl) ?_
    refine Eq.trans (o_iconst (v := 1) d_Md_start_15 (by decide)) ?_
    refine s_putZ d_Md_start_16 pF_Md_212 (zM_Md_begun r) h (fun T h => ?_)
    refine Eq.trans (o_aload_n d_Md_start_19 rfl) ?_
    refine Eq.trans (o_iload_n d_Md_start_20 rfl) ?_
    refine s_putZ d_Md_start_21 pF_Md_219 (zM_Md_search r) h (fun T h => ?_)
    refine Eq.trans (o_aload_n d_Md_start_24 rfl) ?_
    refine Eq.trans (o_iconst (v := 0) d_Md_start_25 (by decide)) ?_
    refine s_put d_Md_start_26 pF_Md_222 (zM_Md_fed r) h (fun T h => ?_)
    refine Eq.trans (o_aload_n d_Md_start_29 rfl) ?_
    refine Eq.trans (o_iconst (v := 0) d_Md_start_30 (by decide)) ?_
    refine s_putZ d_Md_start_31 pF_Md_225 (zM_Md_known r) h (fun T h => ?_)
    refine Eq.trans (o_iconst (v := 1) d_Md_start_34 (by decide)) ?_
    exact s_iret d_Md_start_35 rfl h
  · refine Eq.trans (o_iconst (v := 0) d_Md_start_12 (by decide)) ?_
    exact s_iret d_Md_start_13 rfl h
theorem c_Md_start (D : Nat) (hD : 1 ≤ D) (r : Nat) (a1 : Int32) (T T1 : qT) (v : Int32) (h : f_Md_start a1 T = some (v, T1)) : q_ev q_Mt D 106 [.ref (r + 0), .int a1] (layM r T) = some (.inl (some (.int v)), layM r T1) := by
  obtain ⟨D, rfl⟩ : ∃ D', D = D' + 1 := ⟨D - 1, by omega⟩
  rw [o_ev (M := q_mMd_start) (lo := [some (.ref (r + 0)), some (.int a1)]) rfl (Nat.le_of_ble_eq_true rfl) rfl]
  exact c_Md_start_0 D (by omega) r a1 T T1 v h
