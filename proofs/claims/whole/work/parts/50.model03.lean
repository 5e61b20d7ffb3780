noncomputable def k_Md_widthOf_242 (v5 : Int64) : qW (qJ ⊕ Int32) :=
  w_if (((lg_cmp v5 (10000 : Int64))) ≤ 0) (
    w_ri .int v5.toInt32) (
    w_ri .int 10000)
noncomputable def k_Md_widthOf_240 (s0 : Int64) : qW (qJ ⊕ Int32) :=
  k_Md_widthOf_242 s0
noncomputable def k_Md_widthOf_153 (v2 : Int64) : qW (qJ ⊕ Int32) :=
  k_Md_widthOf_240 ((v2 + (1 : Int64)))
noncomputable def k_Md_widthOf_107 (v1 : Int32) (v2 : Int64) (s0 : Int64) : qW (qJ ⊕ Int32) :=
  w_A 2 220 v1 fun x1 =>
  w_if (¬ x1 = 2) (
    k_Md_widthOf_242 s0) (
    w_A 6 220 v1 fun x2 =>
    w_if (¬ x2 = 1) (
      w_if (x2 = 2) (
        k_Md_widthOf_153 v2) (
        w_if (¬ x2 = 3) (
          w_if (¬ x2 = 4) (
            w_if (¬ x2 = 5) (
              w_if (¬ x2 = 6) (
                k_Md_widthOf_240 v2) (
                w_A 7 220 v1 fun x3 =>
                w_A 8 220 v1 fun x4 =>
                w_A 7 220 v1 fun x5 =>
                k_Md_widthOf_240 (((x3.toInt64 * v2) + (((x4 - x5)).toInt64 * (v2 + (1 : Int64))))))) (
              w_A 7 220 v1 fun x6 =>
              k_Md_widthOf_240 (((((x6 + 1)).toInt64 * v2) + (2 : Int64))))) (
            w_A 7 220 v1 fun x7 =>
            k_Md_widthOf_240 ((x7.toInt64 * v2)))) (
          k_Md_widthOf_153 v2))) (
      k_Md_widthOf_240 ((v2 + (2 : Int64)))))
noncomputable def k_Md_widthOf_106 (v1 : Int32) (v2 : Int64) : qW (qJ ⊕ Int32) :=
  k_Md_widthOf_107 v1 v2 v2
noncomputable def k_Md_widthOf_13 (v1 : Int32) (v2 : Int64) (v4 : Int32) (v5 : Int32) : qW (qJ ⊕ Int32) :=
  w_if (v5 < 0) (
    w_A 2 220 v1 fun x1 =>
    w_if (¬ x1 = 3) (
      w_A 2 220 v1 fun x2 =>
      w_if (¬ x2 = 0) (
        w_A 2 220 v1 fun x3 =>
        w_if (¬ x3 = 4) (
          k_Md_widthOf_106 v1 v2) (
          w_A 6 220 v1 fun x4 =>
          w_if (x4 ≤ 0) (
            k_Md_widthOf_106 v1 v2) (
            k_Md_widthOf_107 v1 v2 ((v2 + (2 : Int64)))))) (
        k_Md_widthOf_107 v1 v2 ((v2 + ((2 * (v4 - 1))).toInt64)))) (
      k_Md_widthOf_107 v1 v2 ((1 : Int64)))) (
    w_A 10 220 v5 fun x5 =>
    w_A 5 220 v5 fun x6 =>
    w_go 13 [.int v1, .long (v2 + x5.toInt64), .int (v4 + 1), .int x6] [])
noncomputable def k_Md_widthOf_0 (a1 : Int32) : qW (qJ ⊕ Int32) :=
  w_A 3 220 a1 fun x1 =>
  w_go 13 [.int a1, .long (0 : Int64), .int 0, .int x1] []
noncomputable def b_Md_widthOf : qJ → qW (qJ ⊕ Int32) := fun x => match x with
  | (0, [.int a1], []) => k_Md_widthOf_0 a1
  | (13, [.int v1, .long v2, .int v4, .int v5], []) => k_Md_widthOf_13 v1 v2 v4 v5
  | _ => w_no
noncomputable def f_Md_widthOf (a1 : Int32) : qW Int32 := w_fix b_Md_widthOf (0, [.int a1], [])
set_option maxRecDepth 100000 in
set_option maxHeartbeats 4000000 in
theorem c_Md_widthOf_242 (D : Nat) (hD : 0 ≤ D) (r : Nat) (n : Nat) (ih_13 : ∀ (v1 : Int32) (v2 : Int64) (v4 : Int32) (v5 : Int32) (e3 : Option Value) (e6 : Option Value) (e7 : Option Value) (T T2 : qT) (v : Int32), w_run b_Md_widthOf n (13, [.int v1, .long v2, .int v4, .int v5], []) T = some (v, T2) → q_out (q_ev q_Mt D) q_mMd_widthOf (13, [some (.ref (r + 0)), some (.int v1), some (.long v2), e3, some (.int v4), some (.int v5), e6, e7], [], layM r T) = some (.inl (some (.int v)), layM r T2)) (v5 : Int64) (e0 : Option Value) (e1 : Option Value) (e2 : Option Value) (e3 : Option Value) (e4 : Option Value) (e6 : Option Value) (e7 : Option Value) (T T1 T2 : qT) (rr : qJ ⊕ Int32) (v : Int32) (h : k_Md_widthOf_242 v5 T = some (rr, T1)) (hE : w_end b_Md_widthOf n rr T1 = some (v, T2)) : q_out (q_ev q_Mt D) q_mMd_widthOf (242, [e0, e1, e2, e3, e4, some (.long v5), e6, e7], [], layM r T) = some (.inl (some (.int v)), layM r T2) := by
  unfold k_Md_widthOf_242 at h
  refine Eq.trans (o_lload d_Md_widthOf_242 rfl) ?_
  refine Eq.trans (o_ldc2 d_Md_widthOf_244 pL_Md_178) ?_
  refine Eq.trans (o_lcmp d_Md_widthOf_247) ?_
  refine s_if_le (t := 257) d_Md_widthOf_248 (by decide) h (fun h => ?_) (fun h => ?_)
  · refine Eq.trans (o_lload d_Md_widthOf_257 rfl) ?_
    refine Eq.trans (o_l2i d_Md_widthOf_259) ?_
    exact s_iretJ d_Md_widthOf_260 rfl h hE
  · refine Eq.trans (o_sipush (v := 10000) d_Md_widthOf_251 (by decide)) ?_
    refine Eq.trans (o_goto (t := 260) d_Md_widthOf_254 (by decide)) ?_
    exact s_iretJ d_Md_widthOf_260 rfl h hE
set_option maxRecDepth 100000 in
set_option maxHeartbeats 4000000 in
theorem c_Md_widthOf_240 (D : Nat) (hD : 0 ≤ D) (r : Nat) (n : Nat) (ih_13 : ∀ (v1 : Int32) (v2 : Int64) (v4 : Int32) (v5 : Int32) (e3 : Option Value) (e6 : Option Value) (e7 : Option Value) (T T2 : qT) (v : Int32), w_run b_Md_widthOf n (13, [.int v1, .long v2, .int v4, .int v5], []) T = some (v, T2) → q_out (q_ev q_Mt D) q_mMd_widthOf (13, [some (.ref (r + 0)), some (.int v1), some (.long v2), e3, some (.int v4), some (.int v5), e6, e7], [], layM r T) = some (.inl (some (.int v)), layM r T2)) (s0 : Int64) (e0 : Option Value) (e1 : Option Value) (e2 : Option Value) (e3 : Option Value) (e4 : Option Value) (e5 : Option Value) (e6 : Option Value) (e7 : Option Value) (T T1 T2 : qT) (rr : qJ ⊕ Int32) (v : Int32) (h : k_Md_widthOf_240 s0 T = some (rr, T1)) (hE : w_end b_Md_widthOf n rr T1 = some (v, T2)) : q_out (q_ev q_Mt D) q_mMd_widthOf (240, [e0, e1, e2, e3, e4, e5, e6, e7], [.long s0], layM r T) = some (.inl (some (.int v)), layM r T2) := by
  unfold k_Md_widthOf_240 at h
  refine Eq.trans (o_lstore (lo' := [e0, e1, e2, e3, (q_dk e4), some (.long s0), none, e7]) d_Md_widthOf_240 (Nat.le_of_ble_eq_true rfl) ((q_st2_dk (j := 4) (Nat.le_of_ble_eq_true rfl)).trans rfl)) ?_
  exact c_Md_widthOf_242 D hD r n ih_13 _ _ _ _ _ _ _ _ _ _ _ _ _ h hE
set_option maxRecDepth 100000 in
set_option maxHeartbeats 4000000 in
theorem c_Md_widthOf_153 (D : Nat) (hD : 0 ≤ D) (r : Nat) (n : Nat) (ih_13 : ∀ (v1 : Int32) (v2 : Int64) (v4 : Int32) (v5 : Int32) (e3 : Option Value) (e6 : Option Value) (e7 : Option Value) (T T2 : qT) (v : Int32), w_run b_Md_widthOf n (13, [.int v1, .long v2, .int v4, .int v5], []) T = some (v, T2) → q_out (q_ev q_Mt D) q_mMd_widthOf (13, [some (.ref (r + 0)), some (.int v1), some (.long v2), e3, some (.int v4), some (.int v5), e6, e7], [], layM r T) = some (.inl (some (.int v)), layM r T2)) (v2 : Int64) (e0 : Option Value) (e1 : Option Value) (e3 : Option Value) (e4 : Option Value) (e5 : Option Value) (e6 : Option Value) (e7 : Option Value) (T T1 T2 : qT) (rr : qJ ⊕ Int32) (v : Int32) (h : k_Md_widthOf_153 v2 T = some (rr, T1)) (hE : w_end b_Md_widthOf n rr T1 = some (v, T2)) : q_out (q_ev q_Mt D) q_mMd_widthOf (153, [e0, e1, some (.long v2), e3, e4, e5, e6, e7], [], layM r T) = some (.inl (some (.int v)), layM r T2) := by
  unfold k_Md_widthOf_153 at h
  refine Eq.trans (o_lload_n d_Md_widthOf_153 rfl) ?_
  refine Eq.trans (o_lconst (v := 1) d_Md_widthOf_154 (by decide)) ?_
  refine Eq.trans (o_ladd d_Md_widthOf_155) ?_
  refine Eq.trans (o_goto (t := 240) d_Md_widthOf_156 (by decide)) ?_
  exact c_Md_widthOf_240 D hD r n ih_13 _ _ _ _ _ _ _ _ _ _ _ _ _ _ h hE
set_option maxRecDepth 100000 in
set_option maxHeartbeats 4000000 in
theorem c_Md_widthOf_107 (D : Nat) (hD : 0 ≤ D) (r : Nat) (n : Nat) (ih_13 : ∀ (v1 : Int32) (v2 : Int64) (v4 : Int32) (v5 : Int32) (e3 : Option Value) (e6 : Option Value) (e7 : Option Value) (T T2 : qT) (v : Int32), w_run b_Md_widthOf n (13, [.int v1, .long v2, .int v4, .int v5], []) T = some (v, T2) → q_out (q_ev q_Mt D) q_mMd_widthOf (13, [some (.ref (r + 0)), some (.int v1), some (.long v2), e3, some (.int v4), some (.int v5), e6, e7], [], layM r T) = some (.inl (some (.int v)), layM r T2)) (v1 : Int32) (v2 : Int64) (s0 : Int64) (e3 : Option Value) (e4 : Option Value) (e5 : Option Value) (e6 : Option Value) (e7 : Option Value) (T T1 T2 : qT) (rr : qJ ⊕ Int32) (v : Int32) (h : k_Md_widthOf_107 v1 v2 s0 T = some (rr, T1)) (hE : w_end b_Md_widthOf n rr T1 = some (v, T2)) : q_out (q_ev q_Mt D) q_mMd_widthOf (107, [some (.ref (r + 0)), some (.int v1), some (.long v2), e3, e4, e5, e6, e7], [.long s0], layM r T) = some (.inl (some (.int v)), layM r T2) := by
  unfold k_Md_widthOf_107 at h
  refine Eq.trans (o_lstore (lo' := [some (.ref (r + 0)), some (.int v1), some (.long v2), e3, (q_dk e4), some (.long s0), none, e7]) d_Md_widthOf_107 (Nat.le_of_ble_eq_true rfl) ((q_st2_dk (j := 4) (Nat.le_of_ble_eq_true rfl)).trans rfl)) ?_
  refine Eq.trans (o_aload_n d_Md_widthOf_109 rfl) ?_
  refine s_ref d_Md_widthOf_110 pF_Md_17 (zM_Md_kind r) ?_
  refine Eq.trans (o_iload_n d_Md_widthOf_113 rfl) ?_
  refine s_iald d_Md_widthOf_114 (rM_2 r) h (fun x1 h => ?_)
  refine Eq.trans (o_iconst (v := 2) d_Md_widthOf_115 (by decide)) ?_
  refine s_icmp_ne (t := 242) d_Md_widthOf_116 (by decide) h (fun h => ?_) (fun h => ?_)
  · exact c_Md_widthOf_242 D hD r n ih_13 _ _ _ _ _ _ _ _ _ _ _ _ _ h hE
  · refine Eq.trans (o_aload_n d_Md_widthOf_119 rfl) ?_
    refine s_ref d_Md_widthOf_120 pF_Md_30 (zM_Md_a r) ?_
    refine Eq.trans (o_iload_n d_Md_widthOf_123 rfl) ?_
    refine s_iald d_Md_widthOf_124 (rM_6 r) h (fun x2 h => ?_)
    refine Eq.trans (o_istore (lo' := [some (.ref (r + 0)), some (.int v1), some (.long v2), e3, (q_dk e4), some (.long s0), none, some (.int x2)]) d_Md_widthOf_125 (Nat.le_of_ble_eq_true rfl) rfl) ?_
    refine Eq.trans (o_iload d_Md_widthOf_127 rfl) ?_
    refine Eq.trans (o_iconst (v := 1) d_Md_widthOf_129 (by decide)) ?_
    refine s_icmp_ne (t := 141) d_Md_widthOf_130 (by decide) h (fun h => ?_) (fun h => ?_)
    · refine Eq.trans (o_iload d_Md_widthOf_141 rfl) ?_
      refine Eq.trans (o_iconst (v := 2) d_Md_widthOf_143 (by decide)) ?_
      refine s_icmp_eq (t := 153) d_Md_widthOf_144 (by decide) h (fun h => ?_) (fun h => ?_)
      · exact c_Md_widthOf_153 D hD r n ih_13 _ _ _ _ _ _ _ _ _ _ _ _ _ h hE
      · refine Eq.trans (o_iload d_Md_widthOf_147 rfl) ?_
        refine Eq.trans (o_iconst (v := 3) d_Md_widthOf_149 (by decide)) ?_
        refine s_icmp_ne (t := 159) d_Md_widthOf_150 (by decide) h (fun h => ?_) (fun h => ?_)
        · refine Eq.trans (o_iload d_Md_widthOf_159 rfl) ?_
          refine Eq.trans (o_iconst (v := 4) d_Md_widthOf_161 (by decide)) ?_
          refine s_icmp_ne (t := 177) d_Md_widthOf_162 (by decide) h (fun h => ?_) (fun h => ?_)
          · refine Eq.trans (o_iload d_Md_widthOf_177 rfl) ?_
            refine Eq.trans (o_iconst (v := 5) d_Md_widthOf_179 (by decide)) ?_
            refine s_icmp_ne (t := 201) d_Md_widthOf_180 (by decide) h (fun h => ?_) (fun h => ?_)
            · refine Eq.trans (o_iload d_Md_widthOf_201 rfl) ?_
              refine Eq.trans (o_bipush (v := 6) d_Md_widthOf_203 (by decide)) ?_
              refine s_icmp_ne (t := 239) d_Md_widthOf_205 (by decide) h (fun h => ?_) (fun h => ?_)
              · refine Eq.trans (o_lload_n d_Md_widthOf_239 rfl) ?_
                exact c_Md_widthOf_240 D hD r n ih_13 _ _ _ _ _ _ _ _ _ _ _ _ _ _ h hE
              · refine Eq.trans (o_aload_n d_Md_widthOf_208 rfl) ?_
                refine s_ref d_Md_widthOf_209 pF_Md_33 (zM_Md_least r) ?_
                refine Eq.trans (o_iload_n d_Md_widthOf_212 rfl) ?_
                refine s_iald d_Md_widthOf_213 (rM_7 r) h (fun x3 h => ?_)
                refine Eq.trans (o_i2l d_Md_widthOf_214) ?_
                refine Eq.trans (o_lload_n d_Md_widthOf_215 rfl) ?_
                refine Eq.trans (o_lmul d_Md_widthOf_216) ?_
                refine Eq.trans (o_aload_n d_Md_widthOf_217 rfl) ?_
                refine s_ref d_Md_widthOf_218 pF_Md_36 (zM_Md_most r) ?_
                refine Eq.trans (o_iload_n d_Md_widthOf_221 rfl) ?_
                refine s_iald d_Md_widthOf_222 (rM_8 r) h (fun x4 h => ?_)
                refine Eq.trans (o_aload_n d_Md_widthOf_223 rfl) ?_
                refine s_ref d_Md_widthOf_224 pF_Md_33 (zM_Md_least r) ?_
                refine Eq.trans (o_iload_n d_Md_widthOf_227 rfl) ?_
                refine s_iald d_Md_widthOf_228 (rM_7 r) h (fun x5 h => ?_)
                refine Eq.trans (o_isub d_Md_widthOf_229) ?_
                refine Eq.trans (o_i2l d_Md_widthOf_230) ?_
                refine Eq.trans (o_lload_n d_Md_widthOf_231 rfl) ?_
                refine Eq.trans (o_lconst (v := 1) d_Md_widthOf_232 (by decide)) ?_
                refine Eq.trans (o_ladd d_Md_widthOf_233) ?_
                refine Eq.trans (o_lmul d_Md_widthOf_234) ?_
                refine Eq.trans (o_ladd d_Md_widthOf_235) ?_
                refine Eq.trans (o_goto (t := 240) d_Md_widthOf_236 (by decide)) ?_
                exact c_Md_widthOf_240 D hD r n ih_13 _ _ _ _ _ _ _ _ _ _ _ _ _ _ h hE
            · refine Eq.trans (o_aload_n d_Md_widthOf_183 rfl) ?_
              refine s_ref d_Md_widthOf_184 pF_Md_33 (zM_Md_least r) ?_
              refine Eq.trans (o_iload_n d_Md_widthOf_187 rfl) ?_
              refine s_iald d_Md_widthOf_188 (rM_7 r) h (fun x6 h => ?_)
              refine Eq.trans (o_iconst (v := 1) d_Md_widthOf_189 (by decide)) ?_
              refine Eq.trans (o_iadd d_Md_widthOf_190) ?_
              refine Eq.trans (o_i2l d_Md_widthOf_191) ?_
              refine Eq.trans (o_lload_n d_Md_widthOf_192 rfl) ?_
              refine Eq.trans (o_lmul d_Md_widthOf_193) ?_
              refine Eq.trans (o_ldc2 d_Md_widthOf_194 pL_Md_176) ?_
              refine Eq.trans (o_ladd d_Md_widthOf_197) ?_
              refine Eq.trans (o_goto (t := 240) d_Md_widthOf_198 (by decide)) ?_
              exact c_Md_widthOf_240 D hD r n ih_13 _ _ _ _ _ _ _ _ _ _ _ _ _ _ h hE
          · refine Eq.trans (o_aload_n d_Md_widthOf_165 rfl) ?_
            refine s_ref d_Md_widthOf_166 pF_Md_33 (zM_Md_least r) ?_
            refine Eq.trans (o_iload_n d_Md_widthOf_169 rfl) ?_
            refine s_iald d_Md_widthOf_170 (rM_7 r) h (fun x7 h => ?_)
            refine Eq.trans (o_i2l d_Md_widthOf_171) ?_
            refine Eq.trans (o_lload_n d_Md_widthOf_172 rfl) ?_
            refine Eq.trans (o_lmul d_Md_widthOf_173) ?_
            refine Eq.trans (o_goto (t := 240) d_Md_widthOf_174 (by decide)) ?_
            exact c_Md_widthOf_240 D hD r n ih_13 _ _ _ _ _ _ _ _ _ _ _ _ _ _ h hE
        · exact c_Md_widthOf_153 D hD r n ih_13 _ _ _ _ _ _ _ _ _ _ _ _ _ h hE
    · refine Eq.trans (o_lload_n d_Md_widthOf_133 rfl) ?_
      refine Eq.trans (o_ldc2 d_Md_widthOf_134 pL_Md_176) ?_
      refine Eq.trans (o_ladd d_Md_widthOf_137) ?_
      refine Eq.trans (o_goto (t := 240) d_Md_widthOf_138 (by decide)) ?_
      exact c_Md_widthOf_240 D hD r n ih_13 _ _ _ _ _ _ _ _ _ _ _ _ _ _ h hE
set_option maxRecDepth 100000 in
set_option maxHeartbeats 4000000 in
theorem c_Md_widthOf_106 (D : Nat) (hD : 0 ≤ D) (r : Nat) (n : Nat) (ih_13 : ∀ (v1 : Int32) (v2 : Int64) (v4 : Int32) (v5 : Int32) (e3 : Option Value) (e6 : Option Value) (e7 : Option Value) (T T2 : qT) (v : Int32), w_run b_Md_widthOf n (13, [.int v1, .long v2, .int v4, .int v5], []) T = some (v, T2) → q_out (q_ev q_Mt D) q_mMd_widthOf (13, [some (.ref (r + 0)), some (.int v1), some (.long v2), e3, some (.int v4), some (.int v5), e6, e7], [], layM r T) = some (.inl (some (.int v)), layM r T2)) (v1 : Int32) (v2 : Int64) (e3 : Option Value) (e4 : Option Value) (e5 : Option Value) (e6 : Option Value) (e7 : Option Value) (T T1 T2 : qT) (rr : qJ ⊕ Int32) (v : Int32) (h : k_Md_widthOf_106 v1 v2 T = some (rr, T1)) (hE : w_end b_Md_widthOf n rr T1 = some (v, T2)) : q_out (q_ev q_Mt D) q_mMd_widthOf (106, [some (.ref (r + 0)), some (.int v1), some (.long v2), e3, e4, e5, e6, e7], [], layM r T) = some (.inl (some (.int v)), layM r T2) := by
  unfold k_Md_widthOf_106 at h
  refine Eq.trans (o_lload_n d_Md_widthOf_106 rfl) ?_
  exact c_Md_widthOf_107 D hD r n ih_13 _ _ _ _ _ _ _ _ _ _ _ _ _ h hE
set_option maxRecDepth 100000 in
set_option maxHeartbeats 4000000 in
theorem c_Md_widthOf_13 (D : Nat) (hD : 0 ≤ D) (r : Nat) (n : Nat) (ih_13 : ∀ (v1 : Int32) (v2 : Int64) (v4 : Int32) (v5 : Int32) (e3 : Option Value) (e6 : Option Value) (e7 : Option Value) (T T2 : qT) (v : Int32), w_run b_Md_widthOf n (13, [.int v1, .long v2, .int v4, .int v5], []) T = some (v, T2) → q_out (q_ev q_Mt D) q_mMd_widthOf (13, [some (.ref (r + 0)), some (.int v1), some (.long v2), e3, some (.int v4), some (.int v5), e6, e7], [], layM r T) = some (.inl (some (.int v)), layM r T2)) (v1 : Int32) (v2 : Int64) (v4 : Int32) (v5 : Int32) (e3 : Option Value) (e6 : Option Value) (e7 : Option Value) (T T1 T2 : qT) (rr : qJ ⊕ Int32) (v : Int32) (h : k_Md_widthOf_13 v1 v2 v4 v5 T = some (rr, T1)) (hE : w_end b_Md_widthOf n rr T1 = some (v, T2)) : q_out (q_ev q_Mt D) q_mMd_widthOf (13, [some (.ref (r + 0)), some (.int v1), some (.long v2), e3, some (.int v4), some (.int v5), e6, e7], [], layM r T) = some (.inl (some (.int v)), layM r T2) := by
  unfold k_Md_widthOf_13 at h
  refine Eq.trans (o_iload d_Md_widthOf_13 rfl) ?_
  refine s_if_lt (t := 44) d_Md_widthOf_15 (by decide) h (fun h => ?_) (fun h => ?_)
  · refine Eq.trans (o_aload_n d_Md_widthOf_44 rfl) ?_
    refine s_ref d_Md_widthOf_45 pF_Md_17 (zM_Md_kind r) ?_
    refine Eq.trans (o_iload_n d_Md_widthOf_48 rfl) ?_
    refine s_iald d_Md_widthOf_49 (rM_2 r) h (fun x1 h => ?_)
    refine Eq.trans (o_iconst (v := 3) d_Md_widthOf_50 (by decide)) ?_
    refine s_icmp_ne (t := 58) d_Md_widthOf_51 (by decide) h (fun h => ?_) (fun h => ?_)
    · refine Eq.trans (o_aload_n d_Md_widthOf_58 rfl) ?_
      refine s_ref d_Md_widthOf_59 pF_Md_17 (zM_Md_kind r) ?_
      refine Eq.trans (o_iload_n d_Md_widthOf_62 rfl) ?_
      refine s_iald d_Md_widthOf_63 (rM_2 r) h (fun x2 h => ?_)
      refine s_if_ne (t := 79) d_Md_widthOf_64 (by decide) h (fun h => ?_) (fun h => ?_)
      · refine Eq.trans (o_aload_n d_Md_widthOf_79 rfl) ?_
        refine s_ref d_Md_widthOf_80 pF_Md_17 (zM_Md_kind r) ?_
        refine Eq.trans (o_iload_n d_Md_widthOf_83 rfl) ?_
        refine s_iald d_Md_widthOf_84 (rM_2 r) h (fun x3 h => ?_)
        refine Eq.trans (o_iconst (v := 4) d_Md_widthOf_85 (by decide)) ?_
        refine s_icmp_ne (t := 106) d_Md_widthOf_86 (by decide) h (fun h => ?_) (fun h => ?_)
        · exact c_Md_widthOf_106 D hD r n ih_13 _ _ _ _ _ _ _ _ _ _ _ _ h hE
        · refine Eq.trans (o_aload_n d_Md_widthOf_89 rfl) ?_
          refine s_ref d_Md_widthOf_90 pF_Md_30 (zM_Md_a r) ?_
          refine Eq.trans (o_iload_n d_Md_widthOf_93 rfl) ?_
          refine s_iald d_Md_widthOf_94 (rM_6 r) h (fun x4 h => ?_)
          refine s_if_le (t := 106) d_Md_widthOf_95 (by decide) h (fun h => ?_) (fun h => ?_)
          · exact c_Md_widthOf_106 D hD r n ih_13 _ _ _ _ _ _ _ _ _ _ _ _ h hE
          · refine Eq.trans (o_lload_n d_Md_widthOf_98 rfl) ?_
            refine Eq.trans (o_ldc2 d_Md_widthOf_99 pL_Md_176) ?_
            refine Eq.trans (o_ladd d_Md_widthOf_102) ?_
            refine Eq.trans (o_goto (t := 107) d_Md_widthOf_103 (by decide)) ?_
            exact c_Md_widthOf_107 D hD r n ih_13 _ _ _ _ _ _ _ _ _ _ _ _ _ h hE
      · refine Eq.trans (o_lload_n d_Md_widthOf_67 rfl) ?_
        refine Eq.trans (o_iconst (v := 2) d_Md_widthOf_68 (by decide)) ?_
        refine Eq.trans (o_iload d_Md_widthOf_69 rfl) ?_
        refine Eq.trans (o_iconst (v := 1) d_Md_widthOf_71 (by decide)) ?_
        refine Eq.trans (o_isub d_Md_widthOf_72) ?_
        refine Eq.trans (o_imul d_Md_widthOf_73) ?_
        refine Eq.trans (o_i2l d_Md_widthOf_74) ?_
        refine Eq.trans (o_ladd d_Md_widthOf_75) ?_
        refine Eq.trans (o_goto (t := 107) d_Md_widthOf_76 (by decide)) ?_
        exact c_Md_widthOf_107 D hD r n ih_13 _ _ _ _ _ _ _ _ _ _ _ _ _ h hE
    · refine Eq.trans (o_lconst (v := 1) d_Md_widthOf_54 (by decide)) ?_
      refine Eq.trans (o_goto (t := 107) d_Md_widthOf_55 (by decide)) ?_
      exact c_Md_widthOf_107 D hD r n ih_13 _ _ _ _ _ _ _ _ _ _ _ _ _ h hE
  · refine Eq.trans (o_lload_n d_Md_widthOf_18 rfl) ?_
    refine Eq.trans (o_aload_n d_Md_widthOf_19 rfl) ?_
    refine s_ref d_Md_widthOf_20 pF_Md_43 (zM_Md_wide r) ?_
    refine Eq.trans (o_iload d_Md_widthOf_23 rfl) ?_
    refine s_iald d_Md_widthOf_25 (rM_10 r) h (fun x5 h => ?_)
    refine Eq.trans (o_i2l d_Md_widthOf_26) ?_
    refine Eq.trans (o_ladd d_Md_widthOf_27) ?_
    refine Eq.trans (o_lstore_n (lo' := [some (.ref (r + 0)), some (.int v1), some (.long (v2 + x5.toInt64)), none, some (.int v4), some (.int v5), e6, e7]) d_Md_widthOf_28 (Nat.le_of_ble_eq_true rfl) rfl) ?_
    refine Eq.trans (o_iinc (v := (v4 + 1)) (lo' := [some (.ref (r + 0)), some (.int v1), some (.long (v2 + x5.toInt64)), none, some (.int (v4 + 1)), some (.int v5), e6, e7]) d_Md_widthOf_29 rfl (by rw [show Int32.ofInt 1 = 1 from by decide]) (Nat.le_of_ble_eq_true rfl) rfl) ?_
    refine Eq.trans (o_aload_n d_Md_widthOf_32 rfl) ?_
    refine s_ref d_Md_widthOf_33 pF_Md_27 (zM_Md_next r) ?_
    refine Eq.trans (o_iload d_Md_widthOf_36 rfl) ?_
    refine s_iald d_Md_widthOf_38 (rM_5 r) h (fun x6 h => ?_)
    refine Eq.trans (o_istore (lo' := [some (.ref (r + 0)), some (.int v1), some (.long (v2 + x5.toInt64)), none, some (.int (v4 + 1)), some (.int x6), e6, e7]) d_Md_widthOf_39 (Nat.le_of_ble_eq_true rfl) rfl) ?_
    refine Eq.trans (o_goto (t := 13) d_Md_widthOf_41 (by decide)) ?_
    exact ih_13 _ _ _ _ _ _ _ _ _ _ (s_jump h hE)
set_option maxRecDepth 100000 in
set_option maxHeartbeats 4000000 in
theorem c_Md_widthOf_0 (D : Nat) (hD : 0 ≤ D) (r : Nat) (n : Nat) (ih_13 : ∀ (v1 : Int32) (v2 : Int64) (v4 : Int32) (v5 : Int32) (e3 : Option Value) (e6 : Option Value) (e7 : Option Value) (T T2 : qT) (v : Int32), w_run b_Md_widthOf n (13, [.int v1, .long v2, .int v4, .int v5], []) T = some (v, T2) → q_out (q_ev q_Mt D) q_mMd_widthOf (13, [some (.ref (r + 0)), some (.int v1), some (.long v2), e3, some (.int v4), some (.int v5), e6, e7], [], layM r T) = some (.inl (some (.int v)), layM r T2)) (a1 : Int32)  (T T1 T2 : qT) (rr : qJ ⊕ Int32) (v : Int32) (h : k_Md_widthOf_0 a1 T = some (rr, T1)) (hE : w_end b_Md_widthOf n rr T1 = some (v, T2)) : q_out (q_ev q_Mt D) q_mMd_widthOf (0, [some (.ref (r + 0)), some (.int a1), none, none, none, none, none, none], [], layM r T) = some (.inl (some (.int v)), layM r T2) := by
  unfold k_Md_widthOf_0 at h
  refine Eq.trans (o_lconst (v := 0) d_Md_widthOf_0 (by decide)) ?_
  refine Eq.trans (o_lstore_n (lo' := [some (.ref (r + 0)), some (.int a1), some (.long (0 : Int64)), none, none, none, none, none]) d_Md_widthOf_1 (Nat.le_of_ble_eq_true rfl) rfl) ?_
  refine Eq.trans (o_iconst (v := 0) d_Md_widthOf_2 (by decide)) ?_
  refine Eq.trans (o_istore (lo' := [some (.ref (r + 0)), some (.int a1), some (.long (0 : Int64)), none, some (.int 0), none, none, none]) d_Md_widthOf_3 (Nat.le_of_ble_eq_true rfl) rfl) ?_
  refine Eq.trans (o_aload_n d_Md_widthOf_5 rfl) ?_
  refine s_ref d_Md_widthOf_6 pF_Md_21 (zM_Md_first r) ?_
  refine Eq.trans (o_iload_n d_Md_widthOf_9 rfl) ?_
  refine s_iald d_Md_widthOf_10 (rM_3 r) h (fun x1 h => ?_)
  refine Eq.trans (o_istore (lo' := [some (.ref (r + 0)), some (.int a1), some (.long (0 : Int64)), none, some (.int 0), some (.int x1), none, none]) d_Md_widthOf_11 (Nat.le_of_ble_eq_true rfl) rfl) ?_
  exact ih_13 _ _ _ _ _ _ _ _ _ _ (s_jump h hE)
theorem c_Md_widthOf_lp (D : Nat) (hD : 0 ≤ D) (r : Nat) : ∀ n : Nat, (∀ (v1 : Int32) (v2 : Int64) (v4 : Int32) (v5 : Int32) (e3 : Option Value) (e6 : Option Value) (e7 : Option Value) (T T2 : qT) (v : Int32), w_run b_Md_widthOf n (13, [.int v1, .long v2, .int v4, .int v5], []) T = some (v, T2) → q_out (q_ev q_Mt D) q_mMd_widthOf (13, [some (.ref (r + 0)), some (.int v1), some (.long v2), e3, some (.int v4), some (.int v5), e6, e7], [], layM r T) = some (.inl (some (.int v)), layM r T2)) := by
  intro n
  induction n with
  | zero => exact (fun v1 v2 v4 v5 e3 e6 e7 T T2 v h => by cases h)
  | succ n ih =>
    have ih_13 := ih
    · intro v1 v2 v4 v5 e3 e6 e7 T T2 v h
      obtain ⟨rr, T1, hb, hE⟩ := w_run_succ h
      exact c_Md_widthOf_13 D hD r n ih_13 v1 v2 v4 v5 e3 e6 e7 T T1 T2 rr v hb hE
theorem c_Md_widthOf (D : Nat) (hD : 1 ≤ D) (r : Nat) (a1 : Int32) (T T2 : qT) (v : Int32) (h : f_Md_widthOf a1 T = some (v, T2)) : q_ev q_Mt D 93 [.ref (r + 0), .int a1] (layM r T) = some (.inl (some (.int v)), layM r T2) := by
  obtain ⟨D, rfl⟩ : ∃ D', D = D' + 1 := ⟨D - 1, by omega⟩
  obtain ⟨n, hn⟩ := w_fix_iff.mp h
  cases n with
  | zero => cases hn
  | succ n =>
    obtain ⟨rr, T1, hb, hE⟩ := w_run_succ hn
    have hl := c_Md_widthOf_lp D (by omega) r n
    have ih_13 := hl
    rw [o_ev (M := q_mMd_widthOf) (lo := [some (.ref (r + 0)), some (.int a1), none, none, none, none, none, none]) rfl (Nat.le_of_ble_eq_true rfl) rfl]
    exact c_Md_widthOf_0 D (by omega) r n ih_13 a1 T T1 T2 rr v hb hE
noncomputable def k_Md_writeChoice_112 (v3 : Int32) (v4 : Int32) (v5 : Int32) : qW (qJ ⊕ Unit) :=
  w_A 5 220 v5 fun x1 =>
  w_go 20 [.int v3, .int v4, .int x1] []
noncomputable def k_Md_writeChoice_20 (v3 : Int32) (v4 : Int32) (v5 : Int32) : qW (qJ ⊕ Unit) :=
  w_if (v5 < 0) (
    w_rt ()) (
    w_A 5 220 v5 fun x1 =>
    w_if (x1 < 0) (
      w_C (f_Md_later v5 v4) fun _ =>
      k_Md_writeChoice_112 v3 v4 v5) (
      w_A 10 220 v5 fun x2 =>
      w_C (f_Md_put v4 1 ((v4 + 1)) (((v4 + x2) + 2))) fun _ =>
      w_C (f_Md_later v5 ((v4 + 1))) fun _ =>
      w_A 10 220 v5 fun x3 =>
      w_C (f_Md_put (((v4 + x3) + 1)) 2 v3 0) fun _ =>
      w_A 10 220 v5 fun x4 =>
      k_Md_writeChoice_112 v3 ((v4 + (x4 + 2))) v5))
noncomputable def k_Md_writeChoice_0 (a1 : Int32) (a2 : Int32) : qW (qJ ⊕ Unit) :=
  w_A 10 220 a1 fun x1 =>
  w_A 3 220 a1 fun x2 =>
  w_go 20 [.int (a2 + x1), .int a2, .int x2] []
noncomputable def b_Md_writeChoice : qJ → qW (qJ ⊕ Unit) := fun x => match x with
  | (0, [.int a1, .int a2], []) => k_Md_writeChoice_0 a1 a2
  | (20, [.int v3, .int v4, .int v5], []) => k_Md_writeChoice_20 v3 v4 v5
  | _ => w_no
noncomputable def f_Md_writeChoice (a1 : Int32) (a2 : Int32) : qW Unit := w_fix b_Md_writeChoice (0, [.int a1, .int a2], [])
set_option maxRecDepth 100000 in
set_option maxHeartbeats 4000000 in
theorem c_Md_writeChoice_112 (D : Nat) (hD : 1 ≤ D) (r : Nat) (n : Nat) (ih_20 : ∀ (v3 : Int32) (v4 : Int32) (v5 : Int32) (e1 : Option Value) (e2 : Option Value) (T T2 : qT) (v : Unit), w_run b_Md_writeChoice n (20, [.int v3, .int v4, .int v5], []) T = some (v, T2) → q_out (q_ev q_Mt D) q_mMd_writeChoice (20, [some (.ref (r + 0)), e1, e2, some (.int v3), some (.int v4), some (.int v5)], [], layM r T) = some (.inl (none), layM r T2)) (v3 : Int32) (v4 : Int32) (v5 : Int32) (e1 : Option Value) (e2 : Option Value) (T T1 T2 : qT) (rr : qJ ⊕ Unit) (v : Unit) (h : k_Md_writeChoice_112 v3 v4 v5 T = some (rr, T1)) (hE : w_end b_Md_writeChoice n rr T1 = some (v, T2)) : q_out (q_ev q_Mt D) q_mMd_writeChoice (112, [some (.ref (r + 0)), e1, e2, some (.int v3), some (.int v4), some (.int v5)], [], layM r T) = some (.inl (none), layM r T2) := by
  unfold k_Md_writeChoice_112 at h
  refine Eq.trans (o_aload_n d_Md_writeChoice_112 rfl) ?_
  refine s_ref d_Md_writeChoice_113 pF_Md_27 (zM_Md_next r) ?_
  refine Eq.trans (o_iload d_Md_writeChoice_116 rfl) ?_
  refine s_iald d_Md_writeChoice_118 (rM_5 r) h (fun x1 h => ?_)
  refine Eq.trans (o_istore (lo' := [some (.ref (r + 0)), e1, e2, some (.int v3), some (.int v4), some (.int x1)]) d_Md_writeChoice_119 (Nat.le_of_ble_eq_true rfl) rfl) ?_
  refine Eq.trans (o_goto (t := 20) d_Md_writeChoice_121 (by decide)) ?_
  exact ih_20 _ _ _ _ _ _ _ _ (s_jump h hE)
set_option maxRecDepth 100000 in
set_option maxHeartbeats 4000000 in
theorem c_Md_writeChoice_20 (D : Nat) (hD : 1 ≤ D) (r : Nat) (n : Nat) (ih_20 : ∀ (v3 : Int32) (v4 : Int32) (v5 : Int32) (e1 : Option Value) (e2 : Option Value) (T T2 : qT) (v : Unit), w_run b_Md_writeChoice n (20, [.int v3, .int v4, .int v5], []) T = some (v, T2) → q_out (q_ev q_Mt D) q_mMd_writeChoice (20, [some (.ref (r + 0)), e1, e2, some (.int v3), some (.int v4), some (.int v5)], [], layM r T) = some (.inl (none), layM r T2)) (v3 : Int32) (v4 : Int32) (v5 : Int32) (e1 : Option Value) (e2 : Option Value) (T T1 T2 : qT) (rr : qJ ⊕ Unit) (v : Unit) (h : k_Md_writeChoice_20 v3 v4 v5 T = some (rr, T1)) (hE : w_end b_Md_writeChoice n rr T1 = some (v, T2)) : q_out (q_ev q_Mt D) q_mMd_writeChoice (20, [some (.ref (r + 0)), e1, e2, some (.int v3), some (.int v4), some (.int v5)], [], layM r T) = some (.inl (none), layM r T2) := by
  unfold k_Md_writeChoice_20 at h
  refine Eq.trans (o_iload d_Md_writeChoice_20 rfl) ?_
  refine s_if_lt (t := 124) d_Md_writeChoice_22 (by decide) h (fun h => ?_) (fun h => ?_)
  · exact s_vretJ d_Md_writeChoice_124 rfl h hE
  · refine Eq.trans (o_aload_n d_Md_writeChoice_25 rfl) ?_
    refine s_ref d_Md_writeChoice_26 pF_Md_27 (zM_Md_next r) ?_
    refine Eq.trans (o_iload d_Md_writeChoice_29 rfl) ?_
    refine s_iald d_Md_writeChoice_31 (rM_5 r) h (fun x1 h => ?_)
    refine s_if_lt (t := 104) d_Md_writeChoice_32 (by decide) h (fun h => ?_) (fun h => ?_)
    · refine Eq.trans (o_aload_n d_Md_writeChoice_104 rfl) ?_
      refine Eq.trans (o_iload d_Md_writeChoice_105 rfl) ?_
      refine Eq.trans (o_iload d_Md_writeChoice_107 rfl) ?_
      obtain ⟨u9, T2, h1, h⟩ := w_C_of h
      refine s_cV2v d_Md_writeChoice_109 pM_Md_187 (Nat.le_of_ble_eq_true rfl) (obM_0 r) (c_Md_later D (by omega) r _ _ _ _ _ h1) ?_
      replace h1 := trivial; revert h; generalize T2 = T; intro h
      exact c_Md_writeChoice_112 D hD r n ih_20 _ _ _ _ _ _ _ _ _ _ h hE
    · refine Eq.trans (o_aload_n d_Md_writeChoice_35 rfl) ?_
      refine Eq.trans (o_iload d_Md_writeChoice_36 rfl) ?_
      refine Eq.trans (o_iconst (v := 1) d_Md_writeChoice_38 (by decide)) ?_
      refine Eq.trans (o_iload d_Md_writeChoice_39 rfl) ?_
      refine Eq.trans (o_iconst (v := 1) d_Md_writeChoice_41 (by decide)) ?_
      refine Eq.trans (o_iadd d_Md_writeChoice_42) ?_
      refine Eq.trans (o_iload d_Md_writeChoice_43 rfl) ?_
      refine Eq.trans (o_aload_n d_Md_writeChoice_45 rfl) ?_
      refine s_ref d_Md_writeChoice_46 pF_Md_43 (zM_Md_wide r) ?_
      refine Eq.trans (o_iload d_Md_writeChoice_49 rfl) ?_
      refine s_iald d_Md_writeChoice_51 (rM_10 r) h (fun x2 h => ?_)
      refine Eq.trans (o_iadd d_Md_writeChoice_52) ?_
      refine Eq.trans (o_iconst (v := 2) d_Md_writeChoice_53 (by decide)) ?_
      refine Eq.trans (o_iadd d_Md_writeChoice_54) ?_
      obtain ⟨u9, T2, h1, h⟩ := w_C_of h
      refine s_cV4v d_Md_writeChoice_55 pM_Md_180 (Nat.le_of_ble_eq_true rfl) (obM_0 r) (c_Md_put D (by omega) r _ _ _ _ _ _ _ h1) ?_
      replace h1 := trivial; revert h; generalize T2 = T; intro h
      refine Eq.trans (o_aload_n d_Md_writeChoice_58 rfl) ?_
      refine Eq.trans (o_iload d_Md_writeChoice_59 rfl) ?_
      refine Eq.trans (o_iload d_Md_writeChoice_61 rfl) ?_
      refine Eq.trans (o_iconst (v := 1) d_Md_writeChoice_63 (by decide)) ?_
      refine Eq.trans (o_iadd d_Md_writeChoice_64) ?_
      obtain ⟨u9, T2, h1, h⟩ := w_C_of h
      refine s_cV2v d_Md_writeChoice_65 pM_Md_187 (Nat.le_of_ble_eq_true rfl) (obM_0 r) (c_Md_later D (by omega) r _ _ _ _ _ h1) ?_
      replace h1 := trivial; revert h; generalize T2 = T; intro h
      refine Eq.trans (o_aload_n d_Md_writeChoice_68 rfl) ?_
      refine Eq.trans (o_iload d_Md_writeChoice_69 rfl) ?_
      refine Eq.trans (o_aload_n d_Md_writeChoice_71 rfl) ?_
      refine s_ref d_Md_writeChoice_72 pF_Md_43 (zM_Md_wide r) ?_
      refine Eq.trans (o_iload d_Md_writeChoice_75 rfl) ?_
      refine s_iald d_Md_writeChoice_77 (rM_10 r) h (fun x3 h => ?_)
      refine Eq.trans (o_iadd d_Md_writeChoice_78) ?_
      refine Eq.trans (o_iconst (v := 1) d_Md_writeChoice_79 (by decide)) ?_
      refine Eq.trans (o_iadd d_Md_writeChoice_80) ?_
      refine Eq.trans (o_iconst (v := 2) d_Md_writeChoice_81 (by decide)) ?_
      refine Eq.trans (o_iload_n d_Md_writeChoice_82 rfl) ?_
      refine Eq.trans (o_iconst (v := 0) d_Md_writeChoice_83 (by decide)) ?_
      obtain ⟨u9, T2, h1, h⟩ := w_C_of h
      refine s_cV4v d_Md_writeChoice_84 pM_Md_180 (Nat.le_of_ble_eq_true rfl) (obM_0 r) (c_Md_put D (by omega) r _ _ _ _ _ _ _ h1) ?_
      replace h1 := trivial; revert h; generalize T2 = T; intro h
      refine Eq.trans (o_iload d_Md_writeChoice_87 rfl) ?_
      refine Eq.trans (o_aload_n d_Md_writeChoice_89 rfl) ?_
      refine s_ref d_Md_writeChoice_90 pF_Md_43 (zM_Md_wide r) ?_
      refine Eq.trans (o_iload d_Md_writeChoice_93 rfl) ?_
      refine s_iald d_Md_writeChoice_95 (rM_10 r) h (fun x4 h => ?_)
      refine Eq.trans (o_iconst (v := 2) d_Md_writeChoice_96 (by decide)) ?_
      refine Eq.trans (o_iadd d_Md_writeChoice_97) ?_
      refine Eq.trans (o_iadd d_Md_writeChoice_98) ?_
      refine Eq.trans (o_istore (lo' := [some (.ref (r + 0)), e1, e2, some (.int v3), some (.int (v4 + (x4 + 2))), some (.int v5)]) d_Md_writeChoice_99 (Nat.le_of_ble_eq_true rfl) rfl) ?_
      refine Eq.trans (o_goto (t := 112) d_Md_writeChoice_101 (by decide)) ?_
      exact c_Md_writeChoice_112 D hD r n ih_20 _ _ _ _ _ _ _ _ _ _ h hE
set_option maxRecDepth 100000 in
set_option maxHeartbeats 4000000 in
theorem c_Md_writeChoice_0 (D : Nat) (hD : 1 ≤ D) (r : Nat) (n : Nat) (ih_20 : ∀ (v3 : Int32) (v4 : Int32) (v5 : Int32) (e1 : Option Value) (e2 : Option Value) (T T2 : qT) (v : Unit), w_run b_Md_writeChoice n (20, [.int v3, .int v4, .int v5], []) T = some (v, T2) → q_out (q_ev q_Mt D) q_mMd_writeChoice (20, [some (.ref (r + 0)), e1, e2, some (.int v3), some (.int v4), some (.int v5)], [], layM r T) = some (.inl (none), layM r T2)) (a1 : Int32) (a2 : Int32)  (T T1 T2 : qT) (rr : qJ ⊕ Unit) (v : Unit) (h : k_Md_writeChoice_0 a1 a2 T = some (rr, T1)) (hE : w_end b_Md_writeChoice n rr T1 = some (v, T2)) : q_out (q_ev q_Mt D) q_mMd_writeChoice (0, [some (.ref (r + 0)), some (.int a1), some (.int a2), none, none, none], [], layM r T) = some (.inl (none), layM r T2) := by
  unfold k_Md_writeChoice_0 at h
  refine Eq.trans (o_iload_n d_Md_writeChoice_0 rfl) ?_
  refine Eq.trans (o_aload_n d_Md_writeChoice_1 rfl) ?_
  refine s_ref d_Md_writeChoice_2 pF_Md_43 (zM_Md_wide r) ?_
  refine Eq.trans (o_iload_n d_Md_writeChoice_5 rfl) ?_
  refine s_iald d_Md_writeChoice_6 (rM_10 r) h (fun x1 h => ?_)
  refine Eq.trans (o_iadd d_Md_writeChoice_7) ?_
  refine Eq.trans (o_istore_n (lo' := [some (.ref (r + 0)), some (.int a1), some (.int a2), some (.int (a2 + x1)), none, none]) d_Md_writeChoice_8 (Nat.le_of_ble_eq_true rfl) rfl) ?_
  refine Eq.trans (o_iload_n d_Md_writeChoice_9 rfl) ?_
  refine Eq.trans (o_istore (lo' := [some (.ref (r + 0)), some (.int a1), some (.int a2), some (.int (a2 + x1)), some (.int a2), none]) d_Md_writeChoice_10 (Nat.le_of_ble_eq_true rfl) rfl) ?_
  refine Eq.trans (o_aload_n d_Md_writeChoice_12 rfl) ?_
  refine s_ref d_Md_writeChoice_13 pF_Md_21 (zM_Md_first r) ?_
  refine Eq.trans (o_iload_n d_Md_writeChoice_16 rfl) ?_
  refine s_iald d_Md_writeChoice_17 (rM_3 r) h (fun x2 h => ?_)
  refine Eq.trans (o_istore (lo' := [some (.ref (r + 0)), some (.int a1), some (.int a2), some (.int (a2 + x1)), some (.int a2), some (.int x2)]) d_Md_writeChoice_18 (Nat.le_of_ble_eq_true rfl) rfl) ?_
  exact ih_20 _ _ _ _ _ _ _ _ (s_jump h hE)
theorem c_Md_writeChoice_lp (D : Nat) (hD : 1 ≤ D) (r : Nat) : ∀ n : Nat, (∀ (v3 : Int32) (v4 : Int32) (v5 : Int32) (e1 : Option Value) (e2 : Option Value) (T T2 : qT) (v : Unit), w_run b_Md_writeChoice n (20, [.int v3, .int v4, .int v5], []) T = some (v, T2) → q_out (q_ev q_Mt D) q_mMd_writeChoice (20, [some (.ref (r + 0)), e1, e2, some (.int v3), some (.int v4), some (.int v5)], [], layM r T) = some (.inl (none), layM r T2)) := by
  intro n
  induction n with
  | zero => exact (fun v3 v4 v5 e1 e2 T T2 v h => by cases h)
  | succ n ih =>
    have ih_20 := ih
    · intro v3 v4 v5 e1 e2 T T2 v h
      obtain ⟨rr, T1, hb, hE⟩ := w_run_succ h
      exact c_Md_writeChoice_20 D hD r n ih_20 v3 v4 v5 e1 e2 T T1 T2 rr v hb hE
theorem c_Md_writeChoice (D : Nat) (hD : 2 ≤ D) (r : Nat) (a1 : Int32) (a2 : Int32) (T T2 : qT) (v : Unit) (h : f_Md_writeChoice a1 a2 T = some (v, T2)) : q_ev q_Mt D 97 [.ref (r + 0), .int a1, .int a2] (layM r T) = some (.inl (none), layM r T2) := by
  obtain ⟨D, rfl⟩ : ∃ D', D = D' + 1 := ⟨D - 1, by omega⟩
  obtain ⟨n, hn⟩ := w_fix_iff.mp h
  cases n with
  | zero => cases hn
  | succ n =>
    obtain ⟨rr, T1, hb, hE⟩ := w_run_succ hn
    have hl := c_Md_writeChoice_lp D (by omega) r n
    have ih_20 := hl
    rw [o_ev (M := q_mMd_writeChoice) (lo := [some (.ref (r + 0)), some (.int a1), some (.int a2), none, none, none]) rfl (Nat.le_of_ble_eq_true rfl) rfl]
    exact c_Md_writeChoice_0 D (by omega) r n ih_20 a1 a2 T T1 T2 rr v hb hE
noncomputable def k_Md_split_13 (v2 : Int32) (v3 : Int32) (v4 : Int32) (s0 : Int32) (s1 : Int32) (s2 : Int32) : qW Unit :=
  w_if (v4 = 0) (
    w_C (f_Md_put s2 s1 s0 v3) fun _ =>
    w_pure ()) (
    w_C (f_Md_put s2 s1 s0 v2) fun _ =>
    w_pure ())
noncomputable def f_Md_split (a1 : Int32) (a2 : Int32) (a3 : Int32) (a4 : Int32) : qW Unit :=
  w_if (a4 = 0) (
    k_Md_split_13 a2 a3 a4 a2 1 a1) (
    k_Md_split_13 a2 a3 a4 a3 1 a1)
set_option maxRecDepth 100000 in
set_option maxHeartbeats 4000000 in
theorem c_Md_split_13 (D : Nat) (hD : 1 ≤ D) (r : Nat) (v2 : Int32) (v3 : Int32) (v4 : Int32) (s0 : Int32) (s1 : Int32) (s2 : Int32) (e0 : Option Value) (e1 : Option Value) (T T1 : qT) (v : Unit) (h : k_Md_split_13 v2 v3 v4 s0 s1 s2 T = some (v, T1)) : q_out (q_ev q_Mt D) q_mMd_split (13, [e0, e1, some (.int v2), some (.int v3), some (.int v4)], [.int s0, .int s1, .int s2, .ref (r + 0)], layM r T) = some (.inl (none), layM r T1) := by
  unfold k_Md_split_13 at h
  refine Eq.trans (o_iload d_Md_split_13 rfl) ?_
  refine s_if_eq (t := 22) d_Md_split_15 (by decide) h (fun h => ?_) (fun h => ?_)
  · refine Eq.trans (o_iload_n d_Md_split_22 rfl) ?_
    obtain ⟨u9, T2, h1, h⟩ := w_C_of h
    refine s_cV4v d_Md_split_23 pM_Md_180 (Nat.le_of_ble_eq_true rfl) (obM_0 r) (c_Md_put D (by omega) r _ _ _ _ _ _ _ h1) ?_
    replace h1 := trivial; revert h; generalize T2 = T; intro h
    exact s_vret d_Md_split_26 rfl h
  · refine Eq.trans (o_iload_n d_Md_split_18 rfl) ?_
    refine Eq.trans (o_goto (t := 23) d_Md_split_19 (by decide)) ?_
    obtain ⟨u9, T2, h1, h⟩ := w_C_of h
    refine s_cV4v d_Md_split_23 pM_Md_180 (Nat.le_of_ble_eq_true rfl) (obM_0 r) (c_Md_put D (by omega) r _ _ _ _ _ _ _ h1) ?_
    replace h1 := trivial; revert h; generalize T2 = T; intro h
    exact s_vret d_Md_split_26 rfl h
set_option maxRecDepth 100000 in
set_option maxHeartbeats 4000000 in
theorem c_Md_split_0 (D : Nat) (hD : 1 ≤ D) (r : Nat) (a1 : Int32) (a2 : Int32) (a3 : Int32) (a4 : Int32)  (T T1 : qT) (v : Unit) (h : f_Md_split a1 a2 a3 a4 T = some (v, T1)) : q_out (q_ev q_Mt D) q_mMd_split (0, [some (.ref (r + 0)), some (.int a1), some (.int a2), some (.int a3), some (.int a4)], [], layM r T) = some (.inl (none), layM r T1) := by
  unfold f_Md_split at h
  refine Eq.trans (o_aload_n d_Md_split_0 rfl) ?_
  refine Eq.trans (o_iload_n d_Md_split_1 rfl) ?_
  refine Eq.trans (o_iconst (v := 1) d_Md_split_2 (by decide)) ?_
  refine Eq.trans (o_iload d_Md_split_3 rfl) ?_
  refine s_if_eq (t := 12) d_Md_split_5 (by decide) h (fun h => ?_) (fun h => ?_)
  · refine Eq.trans (o_iload_n d_Md_split_12 rfl) ?_
    exact c_Md_split_13 D hD r _ _ _ _ _ _ _ _ _ _ _ h
  · refine Eq.trans (o_iload_n d_Md_split_8 rfl) ?_
    refine Eq.trans (o_goto (t := 13) d_Md_split_9 (by decide)) ?_
    exact c_Md_split_13 D hD r _ _ _ _ _ _ _ _ _ _ _ h
theorem c_Md_split (D : Nat) (hD : 2 ≤ D) (r : Nat) (a1 : Int32) (a2 : Int32) (a3 : Int32) (a4 : Int32) (T T1 : qT) (v : Unit) (h : f_Md_split a1 a2 a3 a4 T = some (v, T1)) : q_ev q_Mt D 99 [.ref (r + 0), .int a1, .int a2, .int a3, .int a4] (layM r T) = some (.inl (none), layM r T1) := by
  obtain ⟨D, rfl⟩ : ∃ D', D = D' + 1 := ⟨D - 1, by omega⟩
  rw [o_ev (M := q_mMd_split) (lo := [some (.ref (r + 0)), some (.int a1), some (.int a2), some (.int a3), some (.int a4)]) rfl (Nat.le_of_ble_eq_true rfl) rfl]
  exact c_Md_split_0 D (by omega) r a1 a2 a3 a4 T T1 v h
noncomputable def k_Md_writeRepeat_228 (v1 : Int32) (v3 : Int32) (v4 : Int32) (v6 : Int32) (v8 : Int32) (v9 : Int32) (v10 : Int32) : qW (qJ ⊕ Unit) :=
  w_if (v9 ≤ v10) (
    w_rt ()) (
    w_A 9 220 v1 fun x1 =>
    w_C (f_Md_split v6 ((v6 + 1)) v8 x1) fun _ =>
    w_C (f_Md_later v3 ((v6 + 1))) fun _ =>
    w_go 228 [.int v1, .int v3, .int v4, .int (v6 + (v4 + 1)), .int v8, .int v9, .int (v10 + 1)] [])
noncomputable def k_Md_writeRepeat_190 (v1 : Int32) (v2 : Int32) (v3 : Int32) (v4 : Int32) (v5 : Int32) (v6 : Int32) : qW (qJ ⊕ Unit) :=
  w_A 10 220 v1 fun x1 =>
  w_if (¬ v5 = 3) (
    w_A 8 220 v1 fun x2 =>
    w_A 7 220 v1 fun x3 =>
    w_go 228 [.int v1, .int v3, .int v4, .int v6, .int (v2 + x1), .int (x2 - x3), .int 0] []) (
    w_go 228 [.int v1, .int v3, .int v4, .int v6, .int (v2 + x1), .int 1, .int 0] [])
noncomputable def k_Md_writeRepeat_127 (v1 : Int32) (v3 : Int32) (v4 : Int32) (v6 : Int32) : qW (qJ ⊕ Unit) :=
  w_A 9 220 v1 fun x1 =>
  w_C (f_Md_split v6 ((v6 + 1)) (((v6 + v4) + 2)) x1) fun _ =>
  w_C (f_Md_later v3 ((v6 + 1))) fun _ =>
  w_C (f_Md_put (((v6 + v4) + 1)) 2 v6 0) fun _ =>
  w_rt ()
noncomputable def k_Md_writeRepeat_62 (v1 : Int32) (v2 : Int32) (v3 : Int32) (v4 : Int32) (v5 : Int32) (v6 : Int32) (v7 : Int32) (v8 : Int32) : qW (qJ ⊕ Unit) :=
  w_if (v7 ≤ v8) (
    w_if (¬ v5 = 2) (
      w_if (v5 = 1) (
        k_Md_writeRepeat_127 v1 v3 v4 v6) (
        w_if (¬ v5 = 5) (
          w_if (v5 = 3) (
            k_Md_writeRepeat_190 v1 v2 v3 v4 v5 v6) (
            w_if (¬ v5 = 6) (
              w_rt ()) (
              k_Md_writeRepeat_190 v1 v2 v3 v4 v5 v6))) (
          k_Md_writeRepeat_127 v1 v3 v4 v6))) (
      w_A 9 220 v1 fun x1 =>
      w_C (f_Md_split v6 v2 ((v6 + 1)) x1) fun _ =>
      w_rt ())) (
    w_C (f_Md_later v3 v6) fun _ =>
    w_go 62 [.int v1, .int v2, .int v3, .int v4, .int v5, .int (v6 + v4), .int v7, .int (v8 + 1)] [])
noncomputable def k_Md_writeRepeat_0 (a1 : Int32) (a2 : Int32) : qW (qJ ⊕ Unit) :=
  w_A 3 220 a1 fun x1 =>
  w_A 10 220 x1 fun x2 =>
  w_A 6 220 a1 fun x3 =>
  w_if (x3 = 0) (
    w_go 62 [.int a1, .int a2, .int x1, .int x2, .int x3, .int a2, .int 1, .int 0] []) (
    w_if (¬ x3 = 2) (
      w_if (x3 ≤ 3) (
        w_go 62 [.int a1, .int a2, .int x1, .int x2, .int x3, .int a2, .int 0, .int 0] []) (
        w_A 7 220 a1 fun x4 =>
        w_go 62 [.int a1, .int a2, .int x1, .int x2, .int x3, .int a2, .int x4, .int 0] [])) (
      w_go 62 [.int a1, .int a2, .int x1, .int x2, .int x3, .int a2, .int 1, .int 0] []))
noncomputable def b_Md_writeRepeat : qJ → qW (qJ ⊕ Unit) := fun x => match x with
  | (0, [.int a1, .int a2], []) => k_Md_writeRepeat_0 a1 a2
  | (62, [.int v1, .int v2, .int v3, .int v4, .int v5, .int v6, .int v7, .int v8], []) => k_Md_writeRepeat_62 v1 v2 v3 v4 v5 v6 v7 v8
  | (228, [.int v1, .int v3, .int v4, .int v6, .int v8, .int v9, .int v10], []) => k_Md_writeRepeat_228 v1 v3 v4 v6 v8 v9 v10
  | _ => w_no
noncomputable def f_Md_writeRepeat (a1 : Int32) (a2 : Int32) : qW Unit := w_fix b_Md_writeRepeat (0, [.int a1, .int a2], [])
set_option maxRecDepth 100000 in
set_option maxHeartbeats 4000000 in
theorem c_Md_writeRepeat_228 (D : Nat) (hD : 2 ≤ D) (r : Nat) (n : Nat) (ih_62 : ∀ (v1 : Int32) (v2 : Int32) (v3 : Int32) (v4 : Int32) (v5 : Int32) (v6 : Int32) (v7 : Int32) (v8 : Int32) (e9 : Option Value) (e10 : Option Value) (T T2 : qT) (v : Unit), w_run b_Md_writeRepeat n (62, [.int v1, .int v2, .int v3, .int v4, .int v5, .int v6, .int v7, .int v8], []) T = some (v, T2) → q_out (q_ev q_Mt D) q_mMd_writeRepeat (62, [some (.ref (r + 0)), some (.int v1), some (.int v2), some (.int v3), some (.int v4), some (.int v5), some (.int v6), some (.int v7), some (.int v8), e9, e10], [], layM r T) = some (.inl (none), layM r T2)) (ih_228 : ∀ (v1 : Int32) (v3 : Int32) (v4 : Int32) (v6 : Int32) (v8 : Int32) (v9 : Int32) (v10 : Int32) (e2 : Option Value) (e5 : Option Value) (e7 : Option Value) (T T2 : qT) (v : Unit), w_run b_Md_writeRepeat n (228, [.int v1, .int v3, .int v4, .int v6, .int v8, .int v9, .int v10], []) T = some (v, T2) → q_out (q_ev q_Mt D) q_mMd_writeRepeat (228, [some (.ref (r + 0)), some (.int v1), e2, some (.int v3), some (.int v4), e5, some (.int v6), e7, some (.int v8), some (.int v9), some (.int v10)], [], layM r T) = some (.inl (none), layM r T2)) (v1 : Int32) (v3 : Int32) (v4 : Int32) (v6 : Int32) (v8 : Int32) (v9 : Int32) (v10 : Int32) (e2 : Option Value) (e5 : Option Value) (e7 : Option Value) (T T1 T2 : qT) (rr : qJ ⊕ Unit) (v : Unit) (h : k_Md_writeRepeat_228 v1 v3 v4 v6 v8 v9 v10 T = some (rr, T1)) (hE : w_end b_Md_writeRepeat n rr T1 = some (v, T2)) : q_out (q_ev q_Mt D) q_mMd_writeRepeat (228, [some (.ref (r + 0)), some (.int v1), e2, some (.int v3), some (.int v4), e5, some (.int v6), e7, some (.int v8), some (.int v9), some (.int v10)], [], layM r T) = some (.inl (none), layM r T2) := by
  unfold k_Md_writeRepeat_228 at h
  refine Eq.trans (o_iload d_Md_writeRepeat_228 rfl) ?_
  refine Eq.trans (o_iload d_Md_writeRepeat_230 rfl) ?_
  refine s_icmp_ge (t := 277) d_Md_writeRepeat_232 (by decide) h (fun h => ?_) (fun h => ?_)
  · exact s_vretJ d_Md_writeRepeat_277 rfl h hE
  · refine Eq.trans (o_aload_n d_Md_writeRepeat_235 rfl) ?_
    refine Eq.trans (o_iload d_Md_writeRepeat_236 rfl) ?_
    refine Eq.trans (o_iload d_Md_writeRepeat_238 rfl) ?_
    refine Eq.trans (o_iconst (v := 1) d_Md_writeRepeat_240 (by decide)) ?_
    refine Eq.trans (o_iadd d_Md_writeRepeat_241) ?_
    refine Eq.trans (o_iload d_Md_writeRepeat_242 rfl) ?_
    refine Eq.trans (o_aload_n d_Md_writeRepeat_244 rfl) ?_
    refine s_ref d_Md_writeRepeat_245 pF_Md_39 (zM_Md_lazy r) ?_
    refine Eq.trans (o_iload_n d_Md_writeRepeat_248 rfl) ?_
    refine s_zald d_Md_writeRepeat_249 (rM_9 r) h (fun x1 h => ?_)
    obtain ⟨u9, T2, h1, h⟩ := w_C_of h
    refine s_cV4v d_Md_writeRepeat_250 pM_Md_191 (Nat.le_of_ble_eq_true rfl) (obM_0 r) (c_Md_split D (by omega) r _ _ _ _ _ _ _ h1) ?_
    replace h1 := trivial; revert h; generalize T2 = T; intro h
    refine Eq.trans (o_aload_n d_Md_writeRepeat_253 rfl) ?_
    refine Eq.trans (o_iload_n d_Md_writeRepeat_254 rfl) ?_
    refine Eq.trans (o_iload d_Md_writeRepeat_255 rfl) ?_
    refine Eq.trans (o_iconst (v := 1) d_Md_writeRepeat_257 (by decide)) ?_
    refine Eq.trans (o_iadd d_Md_writeRepeat_258) ?_
    obtain ⟨u9, T2, h1, h⟩ := w_C_of h
    refine s_cV2v d_Md_writeRepeat_259 pM_Md_187 (Nat.le_of_ble_eq_true rfl) (obM_0 r) (c_Md_later D (by omega) r _ _ _ _ _ h1) ?_
    replace h1 := trivial; revert h; generalize T2 = T; intro h
    refine Eq.trans (o_iload d_Md_writeRepeat_262 rfl) ?_
    refine Eq.trans (o_iload d_Md_writeRepeat_264 rfl) ?_
    refine Eq.trans (o_iconst (v := 1) d_Md_writeRepeat_266 (by decide)) ?_
    refine Eq.trans (o_iadd d_Md_writeRepeat_267) ?_
    refine Eq.trans (o_iadd d_Md_writeRepeat_268) ?_
    refine Eq.trans (o_istore (lo' := [some (.ref (r + 0)), some (.int v1), e2, some (.int v3), some (.int v4), (q_dk e5), some (.int (v6 + (v4 + 1))), e7, some (.int v8), some (.int v9), some (.int v10)]) d_Md_writeRepeat_269 (Nat.le_of_ble_eq_true rfl) ((q_st1_dk (j := 5) (Nat.le_of_ble_eq_true rfl)).trans rfl)) ?_
    refine Eq.trans (o_iinc (v := (v10 + 1)) (lo' := [some (.ref (r + 0)), some (.int v1), e2, some (.int v3), some (.int v4), (q_dk e5), some (.int (v6 + (v4 + 1))), e7, some (.int v8), some (.int v9), some (.int (v10 + 1))]) d_Md_writeRepeat_271 rfl (by rw [show Int32.ofInt 1 = 1 from by decide]) (Nat.le_of_ble_eq_true rfl) rfl) ?_
    refine Eq.trans (o_goto (t := 228) d_Md_writeRepeat_274 (by decide)) ?_
    exact ih_228 _ _ _ _ _ _ _ _ _ _ _ _ _ (s_jump h hE)
set_option maxRecDepth 100000 in
set_option maxHeartbeats 4000000 in
theorem c_Md_writeRepeat_190 (D : Nat) (hD : 2 ≤ D) (r : Nat) (n : Nat) (ih_62 : ∀ (v1 : Int32) (v2 : Int32) (v3 : Int32) (v4 : Int32) (v5 : Int32) (v6 : Int32) (v7 : Int32) (v8 : Int32) (e9 : Option Value) (e10 : Option Value) (T T2 : qT) (v : Unit), w_run b_Md_writeRepeat n (62, [.int v1, .int v2, .int v3, .int v4, .int v5, .int v6, .int v7, .int v8], []) T = some (v, T2) → q_out (q_ev q_Mt D) q_mMd_writeRepeat (62, [some (.ref (r + 0)), some (.int v1), some (.int v2), some (.int v3), some (.int v4), some (.int v5), some (.int v6), some (.int v7), some (.int v8), e9, e10], [], layM r T) = some (.inl (none), layM r T2)) (ih_228 : ∀ (v1 : Int32) (v3 : Int32) (v4 : Int32) (v6 : Int32) (v8 : Int32) (v9 : Int32) (v10 : Int32) (e2 : Option Value) (e5 : Option Value) (e7 : Option Value) (T T2 : qT) (v : Unit), w_run b_Md_writeRepeat n (228, [.int v1, .int v3, .int v4, .int v6, .int v8, .int v9, .int v10], []) T = some (v, T2) → q_out (q_ev q_Mt D) q_mMd_writeRepeat (228, [some (.ref (r + 0)), some (.int v1), e2, some (.int v3), some (.int v4), e5, some (.int v6), e7, some (.int v8), some (.int v9), some (.int v10)], [], layM r T) = some (.inl (none), layM r T2)) (v1 : Int32) (v2 : Int32) (v3 : Int32) (v4 : Int32) (v5 : Int32) (v6 : Int32) (e7 : Option Value) (e8 : Option Value) (e9 : Option Value) (e10 : Option Value) (T T1 T2 : qT) (rr : qJ ⊕ Unit) (v : Unit) (h : k_Md_writeRepeat_190 v1 v2 v3 v4 v5 v6 T = some (rr, T1)) (hE : w_end b_Md_writeRepeat n rr T1 = some (v, T2)) : q_out (q_ev q_Mt D) q_mMd_writeRepeat (190, [some (.ref (r + 0)), some (.int v1), some (.int v2), some (.int v3), some (.int v4), some (.int v5), some (.int v6), e7, e8, e9, e10], [], layM r T) = some (.inl (none), layM r T2) := by
  unfold k_Md_writeRepeat_190 at h
  refine Eq.trans (o_iload_n d_Md_writeRepeat_190 rfl) ?_
  refine Eq.trans (o_aload_n d_Md_writeRepeat_191 rfl) ?_
  refine s_ref d_Md_writeRepeat_192 pF_Md_43 (zM_Md_wide r) ?_
  refine Eq.trans (o_iload_n d_Md_writeRepeat_195 rfl) ?_
  refine s_iald d_Md_writeRepeat_196 (rM_10 r) h (fun x1 h => ?_)
  refine Eq.trans (o_iadd d_Md_writeRepeat_197) ?_
  refine Eq.trans (o_istore (lo' := [some (.ref (r + 0)), some (.int v1), some (.int v2), some (.int v3), some (.int v4), some (.int v5), some (.int v6), (q_dk e7), some (.int (v2 + x1)), e9, e10]) d_Md_writeRepeat_198 (Nat.le_of_ble_eq_true rfl) ((q_st1_dk (j := 7) (Nat.le_of_ble_eq_true rfl)).trans rfl)) ?_
  refine Eq.trans (o_iload d_Md_writeRepeat_200 rfl) ?_
  refine Eq.trans (o_iconst (v := 3) d_Md_writeRepeat_202 (by decide)) ?_
  refine s_icmp_ne (t := 210) d_Md_writeRepeat_203 (by decide) h (fun h => ?_) (fun h => ?_)
  · refine Eq.trans (o_aload_n d_Md_writeRepeat_210 rfl) ?_
    refine s_ref d_Md_writeRepeat_211 pF_Md_36 (zM_Md_most r) ?_
    refine Eq.trans (o_iload_n d_Md_writeRepeat_214 rfl) ?_
    refine s_iald d_Md_writeRepeat_215 (rM_8 r) h (fun x2 h => ?_)
    refine Eq.trans (o_aload_n d_Md_writeRepeat_216 rfl) ?_
    refine s_ref d_Md_writeRepeat_217 pF_Md_33 (zM_Md_least r) ?_
    refine Eq.trans (o_iload_n d_Md_writeRepeat_220 rfl) ?_
    refine s_iald d_Md_writeRepeat_221 (rM_7 r) h (fun x3 h => ?_)
    refine Eq.trans (o_isub d_Md_writeRepeat_222) ?_
    refine Eq.trans (o_istore (lo' := [some (.ref (r + 0)), some (.int v1), some (.int v2), some (.int v3), some (.int v4), some (.int v5), some (.int v6), (q_dk e7), some (.int (v2 + x1)), some (.int (x2 - x3)), e10]) d_Md_writeRepeat_223 (Nat.le_of_ble_eq_true rfl) rfl) ?_
    refine Eq.trans (o_iconst (v := 0) d_Md_writeRepeat_225 (by decide)) ?_
    refine Eq.trans (o_istore (lo' := [some (.ref (r + 0)), some (.int v1), some (.int v2), some (.int v3), some (.int v4), some (.int v5), some (.int v6), (q_dk e7), some (.int (v2 + x1)), some (.int (x2 - x3)), some (.int 0)]) d_Md_writeRepeat_226 (Nat.le_of_ble_eq_true rfl) rfl) ?_
    exact ih_228 _ _ _ _ _ _ _ _ _ _ _ _ _ (s_jump h hE)
  · refine Eq.trans (o_iconst (v := 1) d_Md_writeRepeat_206 (by decide)) ?_
    refine Eq.trans (o_goto (t := 223) d_Md_writeRepeat_207 (by decide)) ?_
    refine Eq.trans (o_istore (lo' := [some (.ref (r + 0)), some (.int v1), some (.int v2), some (.int v3), some (.int v4), some (.int v5), some (.int v6), (q_dk e7), some (.int (v2 + x1)), some (.int 1), e10]) d_Md_writeRepeat_223 (Nat.le_of_ble_eq_true rfl) rfl) ?_
    refine Eq.trans (o_iconst (v := 0) d_Md_writeRepeat_225 (by decide)) ?_
    refine Eq.trans (o_istore (lo' := [some (.ref (r + 0)), some (.int v1), some (.int v2), some (.int v3), some (.int v4), some (.int v5), some (.int v6), (q_dk e7), some (.int (v2 + x1)), some (.int 1), some (.int 0)]) d_Md_writeRepeat_226 (Nat.le_of_ble_eq_true rfl) rfl) ?_
    exact ih_228 _ _ _ _ _ _ _ _ _ _ _ _ _ (s_jump h hE)
set_option maxRecDepth 100000 in
set_option maxHeartbeats 4000000 in
theorem c_Md_writeRepeat_127 (D : Nat) (hD : 2 ≤ D) (r : Nat) (n : Nat) (ih_62 : ∀ (v1 : Int32) (v2 : Int32) (v3 : Int32) (v4 : Int32) (v5 : Int32) (v6 : Int32) (v7 : Int32) (v8 : Int32) (e9 : Option Value) (e10 : Option Value) (T T2 : qT) (v : Unit), w_run b_Md_writeRepeat n (62, [.int v1, .int v2, .int v3, .int v4, .int v5, .int v6, .int v7, .int v8], []) T = some (v, T2) → q_out (q_ev q_Mt D) q_mMd_writeRepeat (62, [some (.ref (r + 0)), some (.int v1), some (.int v2), some (.int v3), some (.int v4), some (.int v5), some (.int v6), some (.int v7), some (.int v8), e9, e10], [], layM r T) = some (.inl (none), layM r T2)) (ih_228 : ∀ (v1 : Int32) (v3 : Int32) (v4 : Int32) (v6 : Int32) (v8 : Int32) (v9 : Int32) (v10 : Int32) (e2 : Option Value) (e5 : Option Value) (e7 : Option Value) (T T2 : qT) (v : Unit), w_run b_Md_writeRepeat n (228, [.int v1, .int v3, .int v4, .int v6, .int v8, .int v9, .int v10], []) T = some (v, T2) → q_out (q_ev q_Mt D) q_mMd_writeRepeat (228, [some (.ref (r + 0)), some (.int v1), e2, some (.int v3), some (.int v4), e5, some (.int v6), e7, some (.int v8), some (.int v9), some (.int v10)], [], layM r T) = some (.inl (none), layM r T2)) (v1 : Int32) (v3 : Int32) (v4 : Int32) (v6 : Int32) (e2 : Option Value) (e5 : Option Value) (e7 : Option Value) (e8 : Option Value) (e9 : Option Value) (e10 : Option Value) (T T1 T2 : qT) (rr : qJ ⊕ Unit) (v : Unit) (h : k_Md_writeRepeat_127 v1 v3 v4 v6 T = some (rr, T1)) (hE : w_end b_Md_writeRepeat n rr T1 = some (v, T2)) : q_out (q_ev q_Mt D) q_mMd_writeRepeat (127, [some (.ref (r + 0)), some (.int v1), e2, some (.int v3), some (.int v4), e5, some (.int v6), e7, e8, e9, e10], [], layM r T) = some (.inl (none), layM r T2) := by
  unfold k_Md_writeRepeat_127 at h
  refine Eq.trans (o_aload_n d_Md_writeRepeat_127 rfl) ?_
  refine Eq.trans (o_iload d_Md_writeRepeat_128 rfl) ?_
  refine Eq.trans (o_iload d_Md_writeRepeat_130 rfl) ?_
  refine Eq.trans (o_iconst (v := 1) d_Md_writeRepeat_132 (by decide)) ?_
  refine Eq.trans (o_iadd d_Md_writeRepeat_133) ?_
  refine Eq.trans (o_iload d_Md_writeRepeat_134 rfl) ?_
  refine Eq.trans (o_iload d_Md_writeRepeat_136 rfl) ?_
  refine Eq.trans (o_iadd d_Md_writeRepeat_138) ?_
  refine Eq.trans (o_iconst (v := 2) d_Md_writeRepeat_139 (by decide)) ?_
  refine Eq.trans (o_iadd d_Md_writeRepeat_140) ?_
  refine Eq.trans (o_aload_n d_Md_writeRepeat_141 rfl) ?_
  refine s_ref d_Md_writeRepeat_142 pF_Md_39 (zM_Md_lazy r) ?_
  refine Eq.trans (o_iload_n d_Md_writeRepeat_145 rfl) ?_
  refine s_zald d_Md_writeRepeat_146 (rM_9 r) h (fun x1 h => ?_)
  obtain ⟨u9, T2, h1, h⟩ := w_C_of h
  refine s_cV4v d_Md_writeRepeat_147 pM_Md_191 (Nat.le_of_ble_eq_true rfl) (obM_0 r) (c_Md_split D (by omega) r _ _ _ _ _ _ _ h1) ?_
  replace h1 := trivial; revert h; generalize T2 = T; intro h
  refine Eq.trans (o_aload_n d_Md_writeRepeat_150 rfl) ?_
  refine Eq.trans (o_iload_n d_Md_writeRepeat_151 rfl) ?_
  refine Eq.trans (o_iload d_Md_writeRepeat_152 rfl) ?_
  refine Eq.trans (o_iconst (v := 1) d_Md_writeRepeat_154 (by decide)) ?_
  refine Eq.trans (o_iadd d_Md_writeRepeat_155) ?_
  obtain ⟨u9, T2, h1, h⟩ := w_C_of h
  refine s_cV2v d_Md_writeRepeat_156 pM_Md_187 (Nat.le_of_ble_eq_true rfl) (obM_0 r) (c_Md_later D (by omega) r _ _ _ _ _ h1) ?_
  replace h1 := trivial; revert h; generalize T2 = T; intro h
  refine Eq.trans (o_aload_n d_Md_writeRepeat_159 rfl) ?_
  refine Eq.trans (o_iload d_Md_writeRepeat_160 rfl) ?_
  refine Eq.trans (o_iload d_Md_writeRepeat_162 rfl) ?_
  refine Eq.trans (o_iadd d_Md_writeRepeat_164) ?_
  refine Eq.trans (o_iconst (v := 1) d_Md_writeRepeat_165 (by decide)) ?_
  refine Eq.trans (o_iadd d_Md_writeRepeat_166) ?_
  refine Eq.trans (o_iconst (v := 2) d_Md_writeRepeat_167 (by decide)) ?_
  refine Eq.trans (o_iload d_Md_writeRepeat_168 rfl) ?_
  refine Eq.trans (o_iconst (v := 0) d_Md_writeRepeat_170 (by decide)) ?_
  obtain ⟨u9, T2, h1, h⟩ := w_C_of h
  refine s_cV4v d_Md_writeRepeat_171 pM_Md_180 (Nat.le_of_ble_eq_true rfl) (obM_0 r) (c_Md_put D (by omega) r _ _ _ _ _ _ _ h1) ?_
  replace h1 := trivial; revert h; generalize T2 = T; intro h
  refine Eq.trans (o_goto (t := 277) d_Md_writeRepeat_174 (by decide)) ?_
  exact s_vretJ d_Md_writeRepeat_277 rfl h hE
set_option maxRecDepth 100000 in
set_option maxHeartbeats 4000000 in
theorem c_Md_writeRepeat_62 (D : Nat) (hD : 2 ≤ D) (r : Nat) (n : Nat) (ih_62 : ∀ (v1 : Int32) (v2 : Int32) (v3 : Int32) (v4 : Int32) (v5 : Int32) (v6 : Int32) (v7 : Int32) (v8 : Int32) (e9 : Option Value) (e10 : Option Value) (T T2 : qT) (v : Unit), w_run b_Md_writeRepeat n (62, [.int v1, .int v2, .int v3, .int v4, .int v5, .int v6, .int v7, .int v8], []) T = some (v, T2) → q_out (q_ev q_Mt D) q_mMd_writeRepeat (62, [some (.ref (r + 0)), some (.int v1), some (.int v2), some (.int v3), some (.int v4), some (.int v5), some (.int v6), some (.int v7), some (.int v8), e9, e10], [], layM r T) = some (.inl (none), layM r T2)) (ih_228 : ∀ (v1 : Int32) (v3 : Int32) (v4 : Int32) (v6 : Int32) (v8 : Int32) (v9 : Int32) (v10 : Int32) (e2 : Option Value) (e5 : Option Value) (e7 : Option Value) (T T2 : qT) (v : Unit), w_run b_Md_writeRepeat n (228, [.int v1, .int v3, .int v4, .int v6, .int v8, .int v9, .int v10], []) T = some (v, T2) → q_out (q_ev q_Mt D) q_mMd_writeRepeat (228, [some (.ref (r + 0)), some (.int v1), e2, some (.int v3), some (.int v4), e5, some (.int v6), e7, some (.int v8), some (.int v9), some (.int v10)], [], layM r T) = some (.inl (none), layM r T2)) (v1 : Int32) (v2 : Int32) (v3 : Int32) (v4 : Int32) (v5 : Int32) (v6 : Int32) (v7 : Int32) (v8 : Int32) (e9 : Option Value) (e10 : Option Value) (T T1 T2 : qT) (rr : qJ ⊕ Unit) (v : Unit) (h : k_Md_writeRepeat_62 v1 v2 v3 v4 v5 v6 v7 v8 T = some (rr, T1)) (hE : w_end b_Md_writeRepeat n rr T1 = some (v, T2)) : q_out (q_ev q_Mt D) q_mMd_writeRepeat (62, [some (.ref (r + 0)), some (.int v1), some (.int v2), some (.int v3), some (.int v4), some (.int v5), some (.int v6), some (.int v7), some (.int v8), e9, e10], [], layM r T) = some (.inl (none), layM r T2) := by
  unfold k_Md_writeRepeat_62 at h
  refine Eq.trans (o_iload d_Md_writeRepeat_62 rfl) ?_
  refine Eq.trans (o_iload d_Md_writeRepeat_64 rfl) ?_
  refine s_icmp_ge (t := 89) d_Md_writeRepeat_66 (by decide) h (fun h => ?_) (fun h => ?_)
  · refine Eq.trans (o_iload d_Md_writeRepeat_89 rfl) ?_
    refine Eq.trans (o_iconst (v := 2) d_Md_writeRepeat_91 (by decide)) ?_
    refine s_icmp_ne (t := 115) d_Md_writeRepeat_92 (by decide) h (fun h => ?_) (fun h => ?_)
    · refine Eq.trans (o_iload d_Md_writeRepeat_115 rfl) ?_
      refine Eq.trans (o_iconst (v := 1) d_Md_writeRepeat_117 (by decide)) ?_
      refine s_icmp_eq (t := 127) d_Md_writeRepeat_118 (by decide) h (fun h => ?_) (fun h => ?_)
      · exact c_Md_writeRepeat_127 D hD r n ih_62 ih_228 _ _ _ _ _ _ _ _ _ _ _ _ _ _ _ h hE
      · refine Eq.trans (o_iload d_Md_writeRepeat_121 rfl) ?_
        refine Eq.trans (o_iconst (v := 5) d_Md_writeRepeat_123 (by decide)) ?_
        refine s_icmp_ne (t := 177) d_Md_writeRepeat_124 (by decide) h (fun h => ?_) (fun h => ?_)
        · refine Eq.trans (o_iload d_Md_writeRepeat_177 rfl) ?_
          refine Eq.trans (o_iconst (v := 3) d_Md_writeRepeat_179 (by decide)) ?_
          refine s_icmp_eq (t := 190) d_Md_writeRepeat_180 (by decide) h (fun h => ?_) (fun h => ?_)
          · exact c_Md_writeRepeat_190 D hD r n ih_62 ih_228 _ _ _ _ _ _ _ _ _ _ _ _ _ _ _ h hE
          · refine Eq.trans (o_iload d_Md_writeRepeat_183 rfl) ?_
            refine Eq.trans (o_bipush (v := 6) d_Md_writeRepeat_185 (by decide)) ?_
            refine s_icmp_ne (t := 277) d_Md_writeRepeat_187 (by decide) h (fun h => ?_) (fun h => ?_)
            · exact s_vretJ d_Md_writeRepeat_277 rfl h hE
            · exact c_Md_writeRepeat_190 D hD r n ih_62 ih_228 _ _ _ _ _ _ _ _ _ _ _ _ _ _ _ h hE
        · exact c_Md_writeRepeat_127 D hD r n ih_62 ih_228 _ _ _ _ _ _ _ _ _ _ _ _ _ _ _ h hE
    · refine Eq.trans (o_aload_n d_Md_writeRepeat_95 rfl) ?_
      refine Eq.trans (o_iload d_Md_writeRepeat_96 rfl) ?_
      refine Eq.trans (o_iload_n d_Md_writeRepeat_98 rfl) ?_
      refine Eq.trans (o_iload d_Md_writeRepeat_99 rfl) ?_
      refine Eq.trans (o_iconst (v := 1) d_Md_writeRepeat_101 (by decide)) ?_
      refine Eq.trans (o_iadd d_Md_writeRepeat_102) ?_
      refine Eq.trans (o_aload_n d_Md_writeRepeat_103 rfl) ?_
      refine s_ref d_Md_writeRepeat_104 pF_Md_39 (zM_Md_lazy r) ?_
      refine Eq.trans (o_iload_n d_Md_writeRepeat_107 rfl) ?_
      refine s_zald d_Md_writeRepeat_108 (rM_9 r) h (fun x1 h => ?_)
      obtain ⟨u9, T2, h1, h⟩ := w_C_of h
      refine s_cV4v d_Md_writeRepeat_109 pM_Md_191 (Nat.le_of_ble_eq_true rfl) (obM_0 r) (c_Md_split D (by omega) r _ _ _ _ _ _ _ h1) ?_
      replace h1 := trivial; revert h; generalize T2 = T; intro h
      refine Eq.trans (o_goto (t := 277) d_Md_writeRepeat_112 (by decide)) ?_
      exact s_vretJ d_Md_writeRepeat_277 rfl h hE
  · refine Eq.trans (o_aload_n d_Md_writeRepeat_69 rfl) ?_
    refine Eq.trans (o_iload_n d_Md_writeRepeat_70 rfl) ?_
    refine Eq.trans (o_iload d_Md_writeRepeat_71 rfl) ?_
    obtain ⟨u9, T2, h1, h⟩ := w_C_of h
    refine s_cV2v d_Md_writeRepeat_73 pM_Md_187 (Nat.le_of_ble_eq_true rfl) (obM_0 r) (c_Md_later D (by omega) r _ _ _ _ _ h1) ?_
    replace h1 := trivial; revert h; generalize T2 = T; intro h
    refine Eq.trans (o_iload d_Md_writeRepeat_76 rfl) ?_
    refine Eq.trans (o_iload d_Md_writeRepeat_78 rfl) ?_
    refine Eq.trans (o_iadd d_Md_writeRepeat_80) ?_
    refine Eq.trans (o_istore (lo' := [some (.ref (r + 0)), some (.int v1), some (.int v2), some (.int v3), some (.int v4), some (.int v5), some (.int (v6 + v4)), some (.int v7), some (.int v8), e9, e10]) d_Md_writeRepeat_81 (Nat.le_of_ble_eq_true rfl) rfl) ?_
    refine Eq.trans (o_iinc (v := (v8 + 1)) (lo' := [some (.ref (r + 0)), some (.int v1), some (.int v2), some (.int v3), some (.int v4), some (.int v5), some (.int (v6 + v4)), some (.int v7), some (.int (v8 + 1)), e9, e10]) d_Md_writeRepeat_83 rfl (by rw [show Int32.ofInt 1 = 1 from by decide]) (Nat.le_of_ble_eq_true rfl) rfl) ?_
    refine Eq.trans (o_goto (t := 62) d_Md_writeRepeat_86 (by decide)) ?_
    exact ih_62 _ _ _ _ _ _ _ _ _ _ _ _ _ (s_jump h hE)
set_option maxRecDepth 100000 in
set_option maxHeartbeats 4000000 in
theorem c_Md_writeRepeat_0 (D : Nat) (hD : 2 ≤ D) (r : Nat) (n : Nat) (ih_62 : ∀ (v1 : Int32) (v2 : Int32) (v3 : Int32) (v4 : Int32) (v5 : Int32) (v6 : Int32) (v7 : Int32) (v8 : Int32) (e9 : Option Value) (e10 : Option Value) (T T2 : qT) (v : Unit), w_run b_Md_writeRepeat n (62, [.int v1, .int v2, .int v3, .int v4, .int v5, .int v6, .int v7, .int v8], []) T = some (v, T2) → q_out (q_ev q_Mt D) q_mMd_writeRepeat (62, [some (.ref (r + 0)), some (.int v1), some (.int v2), some (.int v3), some (.int v4), some (.int v5), some (.int v6), some (.int v7), some (.int v8), e9, e10], [], layM r T) = some (.inl (none), layM r T2)) (ih_228 : ∀ (v1 : Int32) (v3 : Int32) (v4 : Int32) (v6 : Int32) (v8 : Int32) (v9 : Int32) (v10 : Int32) (e2 : Option Value) (e5 : Option Value) (e7 : Option Value) (T T2 : qT) (v : Unit), w_run b_Md_writeRepeat n (228, [.int v1, .int v3, .int v4, .int v6, .int v8, .int v9, .int v10], []) T = some (v, T2) → q_out (q_ev q_Mt D) q_mMd_writeRepeat (228, [some (.ref (r + 0)), some (.int v1), e2, some (.int v3), some (.int v4), e5, some (.int v6), e7, some (.int v8), some (.int v9), some (.int v10)], [], layM r T) = some (.inl (none), layM r T2)) (a1 : Int32) (a2 : Int32)  (T T1 T2 : qT) (rr : qJ ⊕ Unit) (v : Unit) (h : k_Md_writeRepeat_0 a1 a2 T = some (rr, T1)) (hE : w_end b_Md_writeRepeat n rr T1 = some (v, T2)) : q_out (q_ev q_Mt D) q_mMd_writeRepeat (0, [some (.ref (r + 0)), some (.int a1), some (.int a2), none, none, none, none, none, none, none, none], [], layM r T) = some (.inl (none), layM r T2) := by
  unfold k_Md_writeRepeat_0 at h
  refine Eq.trans (o_aload_n d_Md_writeRepeat_0 rfl) ?_
  refine s_ref d_Md_writeRepeat_1 pF_Md_21 (zM_Md_first r) ?_
  refine Eq.trans (o_iload_n d_Md_writeRepeat_4 rfl) ?_
  refine s_iald d_Md_writeRepeat_5 (rM_3 r) h (fun x1 h => ?_)
  refine Eq.trans (o_istore_n (lo' := [some (.ref (r + 0)), some (.int a1), some (.int a2), some (.int x1), none, none, none, none, none, none, none]) d_Md_writeRepeat_6 (Nat.le_of_ble_eq_true rfl) rfl) ?_
  refine Eq.trans (o_aload_n d_Md_writeRepeat_7 rfl) ?_
  refine s_ref d_Md_writeRepeat_8 pF_Md_43 (zM_Md_wide r) ?_
  refine Eq.trans (o_iload_n d_Md_writeRepeat_11 rfl) ?_
  refine s_iald d_Md_writeRepeat_12 (rM_10 r) h (fun x2 h => ?_)
  refine Eq.trans (o_istore (lo' := [some (.ref (r + 0)), some (.int a1), some (.int a2), some (.int x1), some (.int x2), none, none, none, none, none, none]) d_Md_writeRepeat_13 (Nat.le_of_ble_eq_true rfl) rfl) ?_
  refine Eq.trans (o_aload_n d_Md_writeRepeat_15 rfl) ?_
  refine s_ref d_Md_writeRepeat_16 pF_Md_30 (zM_Md_a r) ?_
  refine Eq.trans (o_iload_n d_Md_writeRepeat_19 rfl) ?_
  refine s_iald d_Md_writeRepeat_20 (rM_6 r) h (fun x3 h => ?_)
  refine Eq.trans (o_istore (lo' := [some (.ref (r + 0)), some (.int a1), some (.int a2), some (.int x1), some (.int x2), some (.int x3), none, none, none, none, none]) d_Md_writeRepeat_21 (Nat.le_of_ble_eq_true rfl) rfl) ?_
  refine Eq.trans (o_iload_n d_Md_writeRepeat_23 rfl) ?_
  refine Eq.trans (o_istore (lo' := [some (.ref (r + 0)), some (.int a1), some (.int a2), some (.int x1), some (.int x2), some (.int x3), some (.int a2), none, none, none, none]) d_Md_writeRepeat_24 (Nat.le_of_ble_eq_true rfl) rfl) ?_
  refine Eq.trans (o_iload d_Md_writeRepeat_26 rfl) ?_
  refine s_if_eq (t := 37) d_Md_writeRepeat_28 (by decide) h (fun h => ?_) (fun h => ?_)
  · refine Eq.trans (o_iconst (v := 1) d_Md_writeRepeat_37 (by decide)) ?_
    refine Eq.trans (o_goto (t := 57) d_Md_writeRepeat_38 (by decide)) ?_
    refine Eq.trans (o_istore (lo' := [some (.ref (r + 0)), some (.int a1), some (.int a2), some (.int x1), some (.int x2), some (.int x3), some (.int a2), some (.int 1), none, none, none]) d_Md_writeRepeat_57 (Nat.le_of_ble_eq_true rfl) rfl) ?_
    refine Eq.trans (o_iconst (v := 0) d_Md_writeRepeat_59 (by decide)) ?_
    refine Eq.trans (o_istore (lo' := [some (.ref (r + 0)), some (.int a1), some (.int a2), some (.int x1), some (.int x2), some (.int x3), some (.int a2), some (.int 1), some (.int 0), none, none]) d_Md_writeRepeat_60 (Nat.le_of_ble_eq_true rfl) rfl) ?_
    exact ih_62 _ _ _ _ _ _ _ _ _ _ _ _ _ (s_jump h hE)
  · refine Eq.trans (o_iload d_Md_writeRepeat_31 rfl) ?_
    refine Eq.trans (o_iconst (v := 2) d_Md_writeRepeat_33 (by decide)) ?_
    refine s_icmp_ne (t := 41) d_Md_writeRepeat_34 (by decide) h (fun h => ?_) (fun h => ?_)
    · refine Eq.trans (o_iload d_Md_writeRepeat_41 rfl) ?_
      refine Eq.trans (o_iconst (v := 3) d_Md_writeRepeat_43 (by decide)) ?_
      refine s_icmp_le (t := 56) d_Md_writeRepeat_44 (by decide) h (fun h => ?_) (fun h => ?_)
      · refine Eq.trans (o_iconst (v := 0) d_Md_writeRepeat_56 (by decide)) ?_
        refine Eq.trans (o_istore (lo' := [some (.ref (r + 0)), some (.int a1), some (.int a2), some (.int x1), some (.int x2), some (.int x3), some (.int a2), some (.int 0), none, none, none]) d_Md_writeRepeat_57 (Nat.le_of_ble_eq_true rfl) rfl) ?_
        refine Eq.trans (o_iconst (v := 0) d_Md_writeRepeat_59 (by decide)) ?_
        refine Eq.trans (o_istore (lo' := [some (.ref (r + 0)), some (.int a1), some (.int a2), some (.int x1), some (.int x2), some (.int x3), some (.int a2), some (.int 0), some (.int 0), none, none]) d_Md_writeRepeat_60 (Nat.le_of_ble_eq_true rfl) rfl) ?_
        exact ih_62 _ _ _ _ _ _ _ _ _ _ _ _ _ (s_jump h hE)
      · refine Eq.trans (o_aload_n d_Md_writeRepeat_47 rfl) ?_
        refine s_ref d_Md_writeRepeat_48 pF_Md_33 (zM_Md_least r) ?_
        refine Eq.trans (o_iload_n d_Md_writeRepeat_51 rfl) ?_
        refine s_iald d_Md_writeRepeat_52 (rM_7 r) h (fun x4 h => ?_)
        refine Eq.trans (o_goto (t := 57) d_Md_writeRepeat_53 (by decide)) ?_
        refine Eq.trans (o_istore (lo' := [some (.ref (r + 0)), some (.int a1), some (.int a2), some (.int x1), some (.int x2), some (.int x3), some (.int a2), some (.int x4), none, none, none]) d_Md_writeRepeat_57 (Nat.le_of_ble_eq_true rfl) rfl) ?_
        refine Eq.trans (o_iconst (v := 0) d_Md_writeRepeat_59 (by decide)) ?_
        refine Eq.trans (o_istore (lo' := [some (.ref (r + 0)), some (.int a1), some (.int a2), some (.int x1), some (.int x2), some (.int x3), some (.int a2), some (.int x4), some (.int 0), none, none]) d_Md_writeRepeat_60 (Nat.le_of_ble_eq_true rfl) rfl) ?_
        exact ih_62 _ _ _ _ _ _ _ _ _ _ _ _ _ (s_jump h hE)
    · refine Eq.trans (o_iconst (v := 1) d_Md_writeRepeat_37 (by decide)) ?_
      refine Eq.trans (o_goto (t := 57) d_Md_writeRepeat_38 (by decide)) ?_
      refine Eq.trans (o_istore (lo' := [some (.ref (r + 0)), some (.int a1), some (.int a2), some (.int x1), some (.int x2), some (.int x3), some (.int a2), some (.int 1), none, none, none]) d_Md_writeRepeat_57 (Nat.le_of_ble_eq_true rfl) rfl) ?_
      refine Eq.trans (o_iconst (v := 0) d_Md_writeRepeat_59 (by decide)) ?_
      refine Eq.trans (o_istore (lo' := [some (.ref (r + 0)), some (.int a1), some (.int a2), some (.int x1), some (.int x2), some (.int x3), some (.int a2), some (.int 1), some (.int 0), none, none]) d_Md_writeRepeat_60 (Nat.le_of_ble_eq_true rfl) rfl) ?_
      exact ih_62 _ _ _ _ _ _ _ _ _ _ _ _ _ (s_jump h hE)
theorem c_Md_writeRepeat_lp (D : Nat) (hD : 2 ≤ D) (r : Nat) : ∀ n : Nat, (∀ (v1 : Int32) (v2 : Int32) (v3 : Int32) (v4 : Int32) (v5 : Int32) (v6 : Int32) (v7 : Int32) (v8 : Int32) (e9 : Option Value) (e10 : Option Value) (T T2 : qT) (v : Unit), w_run b_Md_writeRepeat n (62, [.int v1, .int v2, .int v3, .int v4, .int v5, .int v6, .int v7, .int v8], []) T = some (v, T2) → q_out (q_ev q_Mt D) q_mMd_writeRepeat (62, [some (.ref (r + 0)), some (.int v1), some (.int v2), some (.int v3), some (.int v4), some (.int v5), some (.int v6), some (.int v7), some (.int v8), e9, e10], [], layM r T) = some (.inl (none), layM r T2)) ∧ (∀ (v1 : Int32) (v3 : Int32) (v4 : Int32) (v6 : Int32) (v8 : Int32) (v9 : Int32) (v10 : Int32) (e2 : Option Value) (e5 : Option Value) (e7 : Option Value) (T T2 : qT) (v : Unit), w_run b_Md_writeRepeat n (228, [.int v1, .int v3, .int v4, .int v6, .int v8, .int v9, .int v10], []) T = some (v, T2) → q_out (q_ev q_Mt D) q_mMd_writeRepeat (228, [some (.ref (r + 0)), some (.int v1), e2, some (.int v3), some (.int v4), e5, some (.int v6), e7, some (.int v8), some (.int v9), some (.int v10)], [], layM r T) = some (.inl (none), layM r T2)) := by
  intro n
  induction n with
  | zero => exact ⟨(fun v1 v2 v3 v4 v5 v6 v7 v8 e9 e10 T T2 v h => by cases h), (fun v1 v3 v4 v6 v8 v9 v10 e2 e5 e7 T T2 v h => by cases h)⟩
  | succ n ih =>
    obtain ⟨ih_62, ih_228⟩ := ih
    refine ⟨?_, ?_⟩
    · intro v1 v2 v3 v4 v5 v6 v7 v8 e9 e10 T T2 v h
      obtain ⟨rr, T1, hb, hE⟩ := w_run_succ h
      exact c_Md_writeRepeat_62 D hD r n ih_62 ih_228 v1 v2 v3 v4 v5 v6 v7 v8 e9 e10 T T1 T2 rr v hb hE
    · intro v1 v3 v4 v6 v8 v9 v10 e2 e5 e7 T T2 v h
      obtain ⟨rr, T1, hb, hE⟩ := w_run_succ h
      exact c_Md_writeRepeat_228 D hD r n ih_62 ih_228 v1 v3 v4 v6 v8 v9 v10 e2 e5 e7 T T1 T2 rr v hb hE
theorem c_Md_writeRepeat (D : Nat) (hD : 3 ≤ D) (r : Nat) (a1 : Int32) (a2 : Int32) (T T2 : qT) (v : Unit) (h : f_Md_writeRepeat a1 a2 T = some (v, T2)) : q_ev q_Mt D 98 [.ref (r + 0), .int a1, .int a2] (layM r T) = some (.inl (none), layM r T2) := by
  obtain ⟨D, rfl⟩ : ∃ D', D = D' + 1 := ⟨D - 1, by omega⟩
  obtain ⟨n, hn⟩ := w_fix_iff.mp h
  cases n with
  | zero => cases hn
  | succ n =>
    obtain ⟨rr, T1, hb, hE⟩ := w_run_succ hn
    have hl := c_Md_writeRepeat_lp D (by omega) r n
    obtain ⟨ih_62, ih_228⟩ := hl
    rw [o_ev (M := q_mMd_writeRepeat) (lo := [some (.ref (r + 0)), some (.int a1), some (.int a2), none, none, none, none, none, none, none, none]) rfl (Nat.le_of_ble_eq_true rfl) rfl]
    exact c_Md_writeRepeat_0 D (by omega) r n ih_62 ih_228 a1 a2 T T1 T2 rr v hb hE
