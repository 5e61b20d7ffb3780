noncomputable def k_Md_readSet_243 (v1 : Int32) (v2 : Int32) (v4 : Int32) : qW (qJ ⊕ Int32) :=
  w_if (8 ≤ v4) (
    w_ri .boolean 1) (
    w_if (v2 = 0) (
      w_ri .boolean 1) (
      w_A 14 400 (((8 * v1) + v4)) fun x1 =>
      w_a 14 400 (((8 * v1) + v4)) ((x1 ^^^ (-1))) <|
      w_go 243 [.int v1, .int v2, .int (v4 + 1)] []))
noncomputable def k_Md_readSet_230 (v1 : Int32) (v2 : Int32) : qW (qJ ⊕ Int32) :=
  w_S 14 fun x1 =>
  w_s 14 ((x1 + 1)) <|
  w_go 243 [.int v1, .int v2, .int 0] []
noncomputable def k_Md_readSet_215 (v1 : Int32) (v2 : Int32) (v3 : Int32) (v4 : Int32) (v5 : Int32) : qW (qJ ⊕ Int32) :=
  w_C (f_Md_include v1 v4 v5) fun _ =>
  w_go 42 [.int v1, .int v2, .int (v3 + 1)] []
noncomputable def k_Md_readSet_65 (v1 : Int32) (v2 : Int32) (v3 : Int32) : qW (qJ ⊕ Int32) :=
  w_S 14 fun x1 =>
  w_C (f_Md_here x1) fun x2 =>
  w_if (¬ x2 = 92) (
    w_C (f_Md_isItem x2) fun x3 =>
    w_if (¬ x3 = 0) (
      w_S 14 fun x4 =>
      w_s 14 ((x4 + 1)) <|
      w_S 14 fun x5 =>
      w_C (f_Md_here x5) fun x6 =>
      w_if (¬ x6 = 45) (
        k_Md_readSet_215 v1 v2 v3 x2 x2) (
        w_S 14 fun x7 =>
        w_s 14 ((x7 + 1)) <|
        w_S 14 fun x8 =>
        w_C (f_Md_here x8) fun x9 =>
        w_C (f_Md_isItem x9) fun x10 =>
        w_if (x10 = 0) (
          w_ri .boolean 0) (
          w_if (x2 ≤ x9) (
            w_S 14 fun x11 =>
            w_s 14 ((x11 + 1)) <|
            k_Md_readSet_215 v1 v2 v3 x2 x9) (
            w_ri .boolean 0)))) (
      w_ri .boolean 0)) (
    w_S 14 fun x12 =>
    w_s 14 ((x12 + 1)) <|
    w_S 14 fun x13 =>
    w_C (f_Md_here x13) fun x14 =>
    w_if (¬ x14 = 0) (
      w_S 14 fun x15 =>
      w_C (f_Md_here x15) fun x16 =>
      w_C (f_Md_includeSpecial v1 x16) fun _ =>
      w_S 14 fun x17 =>
      w_s 14 ((x17 + 1)) <|
      w_go 42 [.int v1, .int v2, .int (v3 + 1)] []) (
      w_ri .boolean 0))
noncomputable def k_Md_readSet_42 (v1 : Int32) (v2 : Int32) (v3 : Int32) : qW (qJ ⊕ Int32) :=
  w_if (48 ≤ v3) (
    k_Md_readSet_230 v1 v2) (
    w_S 14 fun x1 =>
    w_C (f_Md_here x1) fun x2 =>
    w_if (¬ x2 = 93) (
      k_Md_readSet_65 v1 v2 v3) (
      w_if (¬ v3 = 0) (
        k_Md_readSet_230 v1 v2) (
        k_Md_readSet_65 v1 v2 v3)))
noncomputable def k_Md_readSet_18 (v1 : Int32) (s0 : Int32) : qW (qJ ⊕ Int32) :=
  w_if (s0 = 0) (
    w_S 14 fun x1 =>
    w_s 14 x1 <|
    w_go 42 [.int v1, .int s0, .int 0] []) (
    w_S 14 fun x2 =>
    w_s 14 ((x2 + 1)) <|
    w_go 42 [.int v1, .int s0, .int 0] [])
noncomputable def k_Md_readSet_0 (a1 : Int32) : qW (qJ ⊕ Int32) :=
  w_S 14 fun x1 =>
  w_C (f_Md_here x1) fun x2 =>
  w_if (¬ x2 = 94) (
    k_Md_readSet_18 a1 0) (
    k_Md_readSet_18 a1 1)
noncomputable def b_Md_readSet : qJ → qW (qJ ⊕ Int32) := fun x => match x with
  | (0, [.int a1], []) => k_Md_readSet_0 a1
  | (42, [.int v1, .int v2, .int v3], []) => k_Md_readSet_42 v1 v2 v3
  | (243, [.int v1, .int v2, .int v4], []) => k_Md_readSet_243 v1 v2 v4
  | _ => w_no
noncomputable def f_Md_readSet (a1 : Int32) : qW Int32 := w_fix b_Md_readSet (0, [.int a1], [])
set_option maxRecDepth 100000 in
set_option maxHeartbeats 4000000 in
theorem c_Md_readSet_243 (D : Nat) (hD : 2 ≤ D) (r : Nat) (n : Nat) (ih_42 : ∀ (v1 : Int32) (v2 : Int32) (v3 : Int32) (e4 : Option Value) (e5 : Option Value) (T T2 : qT) (v : Int32), w_run b_Md_readSet n (42, [.int v1, .int v2, .int v3], []) T = some (v, T2) → q_out (q_ev q_Mt D) q_mMd_readSet (42, [some (.ref (r + 0)), some (.int v1), some (.int v2), some (.int v3), e4, e5], [], layM r T) = some (.inl (some (.int v)), layM r T2)) (ih_243 : ∀ (v1 : Int32) (v2 : Int32) (v4 : Int32) (e3 : Option Value) (e5 : Option Value) (T T2 : qT) (v : Int32), w_run b_Md_readSet n (243, [.int v1, .int v2, .int v4], []) T = some (v, T2) → q_out (q_ev q_Mt D) q_mMd_readSet (243, [some (.ref (r + 0)), some (.int v1), some (.int v2), e3, some (.int v4), e5], [], layM r T) = some (.inl (some (.int v)), layM r T2)) (v1 : Int32) (v2 : Int32) (v4 : Int32) (e3 : Option Value) (e5 : Option Value) (T T1 T2 : qT) (rr : qJ ⊕ Int32) (v : Int32) (h : k_Md_readSet_243 v1 v2 v4 T = some (rr, T1)) (hE : w_end b_Md_readSet n rr T1 = some (v, T2)) : q_out (q_ev q_Mt D) q_mMd_readSet (243, [some (.ref (r + 0)), some (.int v1), some (.int v2), e3, some (.int v4), e5], [], layM r T) = some (.inl (some (.int v)), layM r T2) := by
  unfold k_Md_readSet_243 at h
  refine Eq.trans (o_iload d_Md_readSet_243 rfl) ?_
  refine Eq.trans (o_bipush (v := 8) d_Md_readSet_245 (by decide)) ?_
  refine s_icmp_ge (t := 286) d_Md_readSet_247 (by decide) h (fun h => ?_) (fun h => ?_)
  · refine Eq.trans (o_iconst (v := 1) d_Md_readSet_286 (by decide)) ?_
    exact s_iretJ d_Md_readSet_287 rfl h hE
  · refine Eq.trans (o_iload_n d_Md_readSet_250 rfl) ?_
    refine s_if_eq (t := 286) d_Md_readSet_251 (by decide) h (fun h => ?_) (fun h => ?_)
    · refine Eq.trans (o_iconst (v := 1) d_Md_readSet_286 (by decide)) ?_
      exact s_iretJ d_Md_readSet_287 rfl h hE
    · refine Eq.trans (o_aload_n d_Md_readSet_254 rfl) ?_
      refine s_ref d_Md_readSet_255 pF_Md_55 (zM_Md_bits r) ?_
      refine Eq.trans (o_bipush (v := 8) d_Md_readSet_258 (by decide)) ?_
      refine Eq.trans (o_iload_n d_Md_readSet_260 rfl) ?_
      refine Eq.trans (o_imul d_Md_readSet_261) ?_
      refine Eq.trans (o_iload d_Md_readSet_262 rfl) ?_
      refine Eq.trans (o_iadd d_Md_readSet_264) ?_
      refine Eq.trans (o_aload_n d_Md_readSet_265 rfl) ?_
      refine s_ref d_Md_readSet_266 pF_Md_55 (zM_Md_bits r) ?_
      refine Eq.trans (o_bipush (v := 8) d_Md_readSet_269 (by decide)) ?_
      refine Eq.trans (o_iload_n d_Md_readSet_271 rfl) ?_
      refine Eq.trans (o_imul d_Md_readSet_272) ?_
      refine Eq.trans (o_iload d_Md_readSet_273 rfl) ?_
      refine Eq.trans (o_iadd d_Md_readSet_275) ?_
      refine s_iald d_Md_readSet_276 (rM_14 r) h (fun x1 h => ?_)
      refine Eq.trans (o_iconst (v := (-1)) d_Md_readSet_277 (by decide)) ?_
      refine Eq.trans (o_ixor d_Md_readSet_278) ?_
      refine s_iast d_Md_readSet_279 (rM_14 r) h (fun T h => ?_)
      refine Eq.trans (o_iinc (v := (v4 + 1)) (lo' := [some (.ref (r + 0)), some (.int v1), some (.int v2), (q_dk e3), some (.int (v4 + 1)), e5]) d_Md_readSet_280 rfl (by rw [show Int32.ofInt 1 = 1 from by decide]) (Nat.le_of_ble_eq_true rfl) ((q_st1_dk (j := 3) (Nat.le_of_ble_eq_true rfl)).trans rfl)) ?_
      refine Eq.trans (o_goto (t := 243) d_Md_readSet_283 (by decide)) ?_
      exact ih_243 _ _ _ _ _ _ _ _ (s_jump h hE)
set_option maxRecDepth 100000 in
set_option maxHeartbeats 4000000 in
theorem c_Md_readSet_230 (D : Nat) (hD : 2 ≤ D) (r : Nat) (n : Nat) (ih_42 : ∀ (v1 : Int32) (v2 : Int32) (v3 : Int32) (e4 : Option Value) (e5 : Option Value) (T T2 : qT) (v : Int32), w_run b_Md_readSet n (42, [.int v1, .int v2, .int v3], []) T = some (v, T2) → q_out (q_ev q_Mt D) q_mMd_readSet (42, [some (.ref (r + 0)), some (.int v1), some (.int v2), some (.int v3), e4, e5], [], layM r T) = some (.inl (some (.int v)), layM r T2)) (ih_243 : ∀ (v1 : Int32) (v2 : Int32) (v4 : Int32) (e3 : Option Value) (e5 : Option Value) (T T2 : qT) (v : Int32), w_run b_Md_readSet n (243, [.int v1, .int v2, .int v4], []) T = some (v, T2) → q_out (q_ev q_Mt D) q_mMd_readSet (243, [some (.ref (r + 0)), some (.int v1), some (.int v2), e3, some (.int v4), e5], [], layM r T) = some (.inl (some (.int v)), layM r T2)) (v1 : Int32) (v2 : Int32) (e3 : Option Value) (e4 : Option Value) (e5 : Option Value) (T T1 T2 : qT) (rr : qJ ⊕ Int32) (v : Int32) (h : k_Md_readSet_230 v1 v2 T = some (rr, T1)) (hE : w_end b_Md_readSet n rr T1 = some (v, T2)) : q_out (q_ev q_Mt D) q_mMd_readSet (230, [some (.ref (r + 0)), some (.int v1), some (.int v2), e3, e4, e5], [], layM r T) = some (.inl (some (.int v)), layM r T2) := by
  unfold k_Md_readSet_230 at h
  refine Eq.trans (o_aload_n d_Md_readSet_230 rfl) ?_
  refine Eq.trans (o_dup d_Md_readSet_231 rfl) ?_
  refine s_get d_Md_readSet_232 pF_Md_126 (zM_Md_p r) h (fun x1 h => ?_)
  refine Eq.trans (o_iconst (v := 1) d_Md_readSet_235 (by decide)) ?_
  refine Eq.trans (o_iadd d_Md_readSet_236) ?_
  refine s_put d_Md_readSet_237 pF_Md_126 (zM_Md_p r) h (fun T h => ?_)
  refine Eq.trans (o_iconst (v := 0) d_Md_readSet_240 (by decide)) ?_
  refine Eq.trans (o_istore (lo' := [some (.ref (r + 0)), some (.int v1), some (.int v2), (q_dk e3), some (.int 0), e5]) d_Md_readSet_241 (Nat.le_of_ble_eq_true rfl) ((q_st1_dk (j := 3) (Nat.le_of_ble_eq_true rfl)).trans rfl)) ?_
  exact ih_243 _ _ _ _ _ _ _ _ (s_jump h hE)
set_option maxRecDepth 100000 in
set_option maxHeartbeats 4000000 in
theorem c_Md_readSet_215 (D : Nat) (hD : 2 ≤ D) (r : Nat) (n : Nat) (ih_42 : ∀ (v1 : Int32) (v2 : Int32) (v3 : Int32) (e4 : Option Value) (e5 : Option Value) (T T2 : qT) (v : Int32), w_run b_Md_readSet n (42, [.int v1, .int v2, .int v3], []) T = some (v, T2) → q_out (q_ev q_Mt D) q_mMd_readSet (42, [some (.ref (r + 0)), some (.int v1), some (.int v2), some (.int v3), e4, e5], [], layM r T) = some (.inl (some (.int v)), layM r T2)) (ih_243 : ∀ (v1 : Int32) (v2 : Int32) (v4 : Int32) (e3 : Option Value) (e5 : Option Value) (T T2 : qT) (v : Int32), w_run b_Md_readSet n (243, [.int v1, .int v2, .int v4], []) T = some (v, T2) → q_out (q_ev q_Mt D) q_mMd_readSet (243, [some (.ref (r + 0)), some (.int v1), some (.int v2), e3, some (.int v4), e5], [], layM r T) = some (.inl (some (.int v)), layM r T2)) (v1 : Int32) (v2 : Int32) (v3 : Int32) (v4 : Int32) (v5 : Int32)  (T T1 T2 : qT) (rr : qJ ⊕ Int32) (v : Int32) (h : k_Md_readSet_215 v1 v2 v3 v4 v5 T = some (rr, T1)) (hE : w_end b_Md_readSet n rr T1 = some (v, T2)) : q_out (q_ev q_Mt D) q_mMd_readSet (215, [some (.ref (r + 0)), some (.int v1), some (.int v2), some (.int v3), some (.int v4), some (.int v5)], [], layM r T) = some (.inl (some (.int v)), layM r T2) := by
  unfold k_Md_readSet_215 at h
  refine Eq.trans (o_aload_n d_Md_readSet_215 rfl) ?_
  refine Eq.trans (o_iload_n d_Md_readSet_216 rfl) ?_
  refine Eq.trans (o_iload d_Md_readSet_217 rfl) ?_
  refine Eq.trans (o_iload d_Md_readSet_219 rfl) ?_
  obtain ⟨u9, T2, h1, h⟩ := w_C_of h
  refine s_cV3v d_Md_readSet_221 pM_Md_118 (Nat.le_of_ble_eq_true rfl) (obM_0 r) (c_Md_include D (by omega) r _ _ _ _ _ _ h1) ?_
  replace h1 := trivial; revert h; generalize T2 = T; intro h
  refine Eq.trans (o_iinc (v := (v3 + 1)) (lo' := [some (.ref (r + 0)), some (.int v1), some (.int v2), some (.int (v3 + 1)), some (.int v4), some (.int v5)]) d_Md_readSet_224 rfl (by rw [show Int32.ofInt 1 = 1 from by decide]) (Nat.le_of_ble_eq_true rfl) rfl) ?_
  refine Eq.trans (o_goto (t := 42) d_Md_readSet_227 (by decide)) ?_
  exact ih_42 _ _ _ _ _ _ _ _ (s_jump h hE)
set_option maxRecDepth 100000 in
set_option maxHeartbeats 4000000 in
theorem c_Md_readSet_65 (D : Nat) (hD : 2 ≤ D) (r : Nat) (n : Nat) (ih_42 : ∀ (v1 : Int32) (v2 : Int32) (v3 : Int32) (e4 : Option Value) (e5 : Option Value) (T T2 : qT) (v : Int32), w_run b_Md_readSet n (42, [.int v1, .int v2, .int v3], []) T = some (v, T2) → q_out (q_ev q_Mt D) q_mMd_readSet (42, [some (.ref (r + 0)), some (.int v1), some (.int v2), some (.int v3), e4, e5], [], layM r T) = some (.inl (some (.int v)), layM r T2)) (ih_243 : ∀ (v1 : Int32) (v2 : Int32) (v4 : Int32) (e3 : Option Value) (e5 : Option Value) (T T2 : qT) (v : Int32), w_run b_Md_readSet n (243, [.int v1, .int v2, .int v4], []) T = some (v, T2) → q_out (q_ev q_Mt D) q_mMd_readSet (243, [some (.ref (r + 0)), some (.int v1), some (.int v2), e3, some (.int v4), e5], [], layM r T) = some (.inl (some (.int v)), layM r T2)) (v1 : Int32) (v2 : Int32) (v3 : Int32) (e4 : Option Value) (e5 : Option Value) (T T1 T2 : qT) (rr : qJ ⊕ Int32) (v : Int32) (h : k_Md_readSet_65 v1 v2 v3 T = some (rr, T1)) (hE : w_end b_Md_readSet n rr T1 = some (v, T2)) : q_out (q_ev q_Mt D) q_mMd_readSet (65, [some (.ref (r + 0)), some (.int v1), some (.int v2), some (.int v3), e4, e5], [], layM r T) = some (.inl (some (.int v)), layM r T2) := by
  unfold k_Md_readSet_65 at h
  refine Eq.trans (o_aload_n d_Md_readSet_65 rfl) ?_
  refine Eq.trans (o_aload_n d_Md_readSet_66 rfl) ?_
  refine s_get d_Md_readSet_67 pF_Md_126 (zM_Md_p r) h (fun x1 h => ?_)
  obtain ⟨x2, T2, h1, h⟩ := w_C_of h
  refine s_cV1i d_Md_readSet_70 pM_Md_129 (Nat.le_of_ble_eq_true rfl) (obM_0 r) (c_Md_here D (by omega) r _ _ _ _ h1) ?_
  replace h1 := trivial; revert h; generalize T2 = T; intro h
  refine Eq.trans (o_istore (lo' := [some (.ref (r + 0)), some (.int v1), some (.int v2), some (.int v3), some (.int x2), e5]) d_Md_readSet_73 (Nat.le_of_ble_eq_true rfl) rfl) ?_
  refine Eq.trans (o_iload d_Md_readSet_75 rfl) ?_
  refine Eq.trans (o_bipush (v := 92) d_Md_readSet_77 (by decide)) ?_
  refine s_icmp_ne (t := 131) d_Md_readSet_79 (by decide) h (fun h => ?_) (fun h => ?_)
  · refine Eq.trans (o_iload d_Md_readSet_131 rfl) ?_
    obtain ⟨x3, T2, h1, h⟩ := w_C_of h
    refine s_cS1i d_Md_readSet_133 pM_Md_136 (Nat.le_of_ble_eq_true rfl) (c_Md_isItem D (by omega) r _ _ _ _ h1) ?_
    replace h1 := trivial; revert h; generalize T2 = T; intro h
    refine s_if_ne (t := 141) d_Md_readSet_136 (by decide) h (fun h => ?_) (fun h => ?_)
    · refine Eq.trans (o_aload_n d_Md_readSet_141 rfl) ?_
      refine Eq.trans (o_dup d_Md_readSet_142 rfl) ?_
      refine s_get d_Md_readSet_143 pF_Md_126 (zM_Md_p r) h (fun x4 h => ?_)
      refine Eq.trans (o_iconst (v := 1) d_Md_readSet_146 (by decide)) ?_
      refine Eq.trans (o_iadd d_Md_readSet_147) ?_
      refine s_put d_Md_readSet_148 pF_Md_126 (zM_Md_p r) h (fun T h => ?_)
      refine Eq.trans (o_iload d_Md_readSet_151 rfl) ?_
      refine Eq.trans (o_istore (lo' := [some (.ref (r + 0)), some (.int v1), some (.int v2), some (.int v3), some (.int x2), some (.int x2)]) d_Md_readSet_153 (Nat.le_of_ble_eq_true rfl) rfl) ?_
      refine Eq.trans (o_aload_n d_Md_readSet_155 rfl) ?_
      refine Eq.trans (o_aload_n d_Md_readSet_156 rfl) ?_
      refine s_get d_Md_readSet_157 pF_Md_126 (zM_Md_p r) h (fun x5 h => ?_)
      obtain ⟨x6, T2, h1, h⟩ := w_C_of h
      refine s_cV1i d_Md_readSet_160 pM_Md_129 (Nat.le_of_ble_eq_true rfl) (obM_0 r) (c_Md_here D (by omega) r _ _ _ _ h1) ?_
      replace h1 := trivial; revert h; generalize T2 = T; intro h
      refine Eq.trans (o_bipush (v := 45) d_Md_readSet_163 (by decide)) ?_
      refine s_icmp_ne (t := 215) d_Md_readSet_165 (by decide) h (fun h => ?_) (fun h => ?_)
      · exact c_Md_readSet_215 D hD r n ih_42 ih_243 _ _ _ _ _ _ _ _ _ _ h hE
      · refine Eq.trans (o_aload_n d_Md_readSet_168 rfl) ?_
        refine Eq.trans (o_dup d_Md_readSet_169 rfl) ?_
        refine s_get d_Md_readSet_170 pF_Md_126 (zM_Md_p r) h (fun x7 h => ?_)
        refine Eq.trans (o_iconst (v := 1) d_Md_readSet_173 (by decide)) ?_
        refine Eq.trans (o_iadd d_Md_readSet_174) ?_
        refine s_put d_Md_readSet_175 pF_Md_126 (zM_Md_p r) h (fun T h => ?_)
        refine Eq.trans (o_aload_n d_Md_readSet_178 rfl) ?_
        refine Eq.trans (o_aload_n d_Md_readSet_179 rfl) ?_
        refine s_get d_Md_readSet_180 pF_Md_126 (zM_Md_p r) h (fun x8 h => ?_)
        obtain ⟨x9, T2, h1, h⟩ := w_C_of h
        refine s_cV1i d_Md_readSet_183 pM_Md_129 (Nat.le_of_ble_eq_true rfl) (obM_0 r) (c_Md_here D (by omega) r _ _ _ _ h1) ?_
        replace h1 := trivial; revert h; generalize T2 = T; intro h
        refine Eq.trans (o_istore (lo' := [some (.ref (r + 0)), some (.int v1), some (.int v2), some (.int v3), some (.int x2), some (.int x9)]) d_Md_readSet_186 (Nat.le_of_ble_eq_true rfl) rfl) ?_
        refine Eq.trans (o_iload d_Md_readSet_188 rfl) ?_
        obtain ⟨x10, T2, h1, h⟩ := w_C_of h
        refine s_cS1i d_Md_readSet_190 pM_Md_136 (Nat.le_of_ble_eq_true rfl) (c_Md_isItem D (by omega) r _ _ _ _ h1) ?_
        replace h1 := trivial; revert h; generalize T2 = T; intro h
        refine s_if_eq (t := 203) d_Md_readSet_193 (by decide) h (fun h => ?_) (fun h => ?_)
        · refine Eq.trans (o_iconst (v := 0) d_Md_readSet_203 (by decide)) ?_
          exact s_iretJ d_Md_readSet_204 rfl h hE
        · refine Eq.trans (o_iload d_Md_readSet_196 rfl) ?_
          refine Eq.trans (o_iload d_Md_readSet_198 rfl) ?_
          refine s_icmp_ge (t := 205) d_Md_readSet_200 (by decide) h (fun h => ?_) (fun h => ?_)
          · refine Eq.trans (o_aload_n d_Md_readSet_205 rfl) ?_
            refine Eq.trans (o_dup d_Md_readSet_206 rfl) ?_
            refine s_get d_Md_readSet_207 pF_Md_126 (zM_Md_p r) h (fun x11 h => ?_)
            refine Eq.trans (o_iconst (v := 1) d_Md_readSet_210 (by decide)) ?_
            refine Eq.trans (o_iadd d_Md_readSet_211) ?_
            refine s_put d_Md_readSet_212 pF_Md_126 (zM_Md_p r) h (fun T h => ?_)
            exact c_Md_readSet_215 D hD r n ih_42 ih_243 _ _ _ _ _ _ _ _ _ _ h hE
          · refine Eq.trans (o_iconst (v := 0) d_Md_readSet_203 (by decide)) ?_
            exact s_iretJ d_Md_readSet_204 rfl h hE
    · refine Eq.trans (o_iconst (v := 0) d_Md_readSet_139 (by decide)) ?_
      exact s_iretJ d_Md_readSet_140 rfl h hE
  · refine Eq.trans (o_aload_n d_Md_readSet_82 rfl) ?_
    refine Eq.trans (o_dup d_Md_readSet_83 rfl) ?_
    refine s_get d_Md_readSet_84 pF_Md_126 (zM_Md_p r) h (fun x12 h => ?_)
    refine Eq.trans (o_iconst (v := 1) d_Md_readSet_87 (by decide)) ?_
    refine Eq.trans (o_iadd d_Md_readSet_88) ?_
    refine s_put d_Md_readSet_89 pF_Md_126 (zM_Md_p r) h (fun T h => ?_)
    refine Eq.trans (o_aload_n d_Md_readSet_92 rfl) ?_
    refine Eq.trans (o_aload_n d_Md_readSet_93 rfl) ?_
    refine s_get d_Md_readSet_94 pF_Md_126 (zM_Md_p r) h (fun x13 h => ?_)
    obtain ⟨x14, T2, h1, h⟩ := w_C_of h
    refine s_cV1i d_Md_readSet_97 pM_Md_129 (Nat.le_of_ble_eq_true rfl) (obM_0 r) (c_Md_here D (by omega) r _ _ _ _ h1) ?_
    replace h1 := trivial; revert h; generalize T2 = T; intro h
    refine s_if_ne (t := 105) d_Md_readSet_100 (by decide) h (fun h => ?_) (fun h => ?_)
    · refine Eq.trans (o_aload_n d_Md_readSet_105 rfl) ?_
      refine Eq.trans (o_iload_n d_Md_readSet_106 rfl) ?_
      refine Eq.trans (o_aload_n d_Md_readSet_107 rfl) ?_
      refine Eq.trans (o_aload_n d_Md_readSet_108 rfl) ?_
      refine s_get d_Md_readSet_109 pF_Md_126 (zM_Md_p r) h (fun x15 h => ?_)
      obtain ⟨x16, T2, h1, h⟩ := w_C_of h
      refine s_cV1i d_Md_readSet_112 pM_Md_129 (Nat.le_of_ble_eq_true rfl) (obM_0 r) (c_Md_here D (by omega) r _ _ _ _ h1) ?_
      replace h1 := trivial; revert h; generalize T2 = T; intro h
      obtain ⟨u9, T2, h1, h⟩ := w_C_of h
      refine s_cV2v d_Md_readSet_115 pM_Md_132 (Nat.le_of_ble_eq_true rfl) (obM_0 r) (c_Md_includeSpecial D (by omega) r _ _ _ _ _ h1) ?_
      replace h1 := trivial; revert h; generalize T2 = T; intro h
      refine Eq.trans (o_aload_n d_Md_readSet_118 rfl) ?_
      refine Eq.trans (o_dup d_Md_readSet_119 rfl) ?_
      refine s_get d_Md_readSet_120 pF_Md_126 (zM_Md_p r) h (fun x17 h => ?_)
      refine Eq.trans (o_iconst (v := 1) d_Md_readSet_123 (by decide)) ?_
      refine Eq.trans (o_iadd d_Md_readSet_124) ?_
      refine s_put d_Md_readSet_125 pF_Md_126 (zM_Md_p r) h (fun T h => ?_)
      refine Eq.trans (o_goto (t := 224) d_Md_readSet_128 (by decide)) ?_
      refine Eq.trans (o_iinc (v := (v3 + 1)) (lo' := [some (.ref (r + 0)), some (.int v1), some (.int v2), some (.int (v3 + 1)), some (.int x2), e5]) d_Md_readSet_224 rfl (by rw [show Int32.ofInt 1 = 1 from by decide]) (Nat.le_of_ble_eq_true rfl) rfl) ?_
      refine Eq.trans (o_goto (t := 42) d_Md_readSet_227 (by decide)) ?_
      exact ih_42 _ _ _ _ _ _ _ _ (s_jump h hE)
    · refine Eq.trans (o_iconst (v := 0) d_Md_readSet_103 (by decide)) ?_
      exact s_iretJ d_Md_readSet_104 rfl h hE
set_option maxRecDepth 100000 in
set_option maxHeartbeats 4000000 in
theorem c_Md_readSet_42 (D : Nat) (hD : 2 ≤ D) (r : Nat) (n : Nat) (ih_42 : ∀ (v1 : Int32) (v2 : Int32) (v3 : Int32) (e4 : Option Value) (e5 : Option Value) (T T2 : qT) (v : Int32), w_run b_Md_readSet n (42, [.int v1, .int v2, .int v3], []) T = some (v, T2) → q_out (q_ev q_Mt D) q_mMd_readSet (42, [some (.ref (r + 0)), some (.int v1), some (.int v2), some (.int v3), e4, e5], [], layM r T) = some (.inl (some (.int v)), layM r T2)) (ih_243 : ∀ (v1 : Int32) (v2 : Int32) (v4 : Int32) (e3 : Option Value) (e5 : Option Value) (T T2 : qT) (v : Int32), w_run b_Md_readSet n (243, [.int v1, .int v2, .int v4], []) T = some (v, T2) → q_out (q_ev q_Mt D) q_mMd_readSet (243, [some (.ref (r + 0)), some (.int v1), some (.int v2), e3, some (.int v4), e5], [], layM r T) = some (.inl (some (.int v)), layM r T2)) (v1 : Int32) (v2 : Int32) (v3 : Int32) (e4 : Option Value) (e5 : Option Value) (T T1 T2 : qT) (rr : qJ ⊕ Int32) (v : Int32) (h : k_Md_readSet_42 v1 v2 v3 T = some (rr, T1)) (hE : w_end b_Md_readSet n rr T1 = some (v, T2)) : q_out (q_ev q_Mt D) q_mMd_readSet (42, [some (.ref (r + 0)), some (.int v1), some (.int v2), some (.int v3), e4, e5], [], layM r T) = some (.inl (some (.int v)), layM r T2) := by
  unfold k_Md_readSet_42 at h
  refine Eq.trans (o_iload_n d_Md_readSet_42 rfl) ?_
  refine Eq.trans (o_bipush (v := 48) d_Md_readSet_43 (by decide)) ?_
  refine s_icmp_ge (t := 230) d_Md_readSet_45 (by decide) h (fun h => ?_) (fun h => ?_)
  · exact c_Md_readSet_230 D hD r n ih_42 ih_243 _ _ _ _ _ _ _ _ _ _ h hE
  · refine Eq.trans (o_aload_n d_Md_readSet_48 rfl) ?_
    refine Eq.trans (o_aload_n d_Md_readSet_49 rfl) ?_
    refine s_get d_Md_readSet_50 pF_Md_126 (zM_Md_p r) h (fun x1 h => ?_)
    obtain ⟨x2, T2, h1, h⟩ := w_C_of h
    refine s_cV1i d_Md_readSet_53 pM_Md_129 (Nat.le_of_ble_eq_true rfl) (obM_0 r) (c_Md_here D (by omega) r _ _ _ _ h1) ?_
    replace h1 := trivial; revert h; generalize T2 = T; intro h
    refine Eq.trans (o_bipush (v := 93) d_Md_readSet_56 (by decide)) ?_
    refine s_icmp_ne (t := 65) d_Md_readSet_58 (by decide) h (fun h => ?_) (fun h => ?_)
    · exact c_Md_readSet_65 D hD r n ih_42 ih_243 _ _ _ _ _ _ _ _ _ _ h hE
    · refine Eq.trans (o_iload_n d_Md_readSet_61 rfl) ?_
      refine s_if_ne (t := 230) d_Md_readSet_62 (by decide) h (fun h => ?_) (fun h => ?_)
      · exact c_Md_readSet_230 D hD r n ih_42 ih_243 _ _ _ _ _ _ _ _ _ _ h hE
      · exact c_Md_readSet_65 D hD r n ih_42 ih_243 _ _ _ _ _ _ _ _ _ _ h hE
set_option maxRecDepth 100000 in
set_option maxHeartbeats 4000000 in
theorem c_Md_readSet_18 (D : Nat) (hD : 2 ≤ D) (r : Nat) (n : Nat) (ih_42 : ∀ (v1 : Int32) (v2 : Int32) (v3 : Int32) (e4 : Option Value) (e5 : Option Value) (T T2 : qT) (v : Int32), w_run b_Md_readSet n (42, [.int v1, .int v2, .int v3], []) T = some (v, T2) → q_out (q_ev q_Mt D) q_mMd_readSet (42, [some (.ref (r + 0)), some (.int v1), some (.int v2), some (.int v3), e4, e5], [], layM r T) = some (.inl (some (.int v)), layM r T2)) (ih_243 : ∀ (v1 : Int32) (v2 : Int32) (v4 : Int32) (e3 : Option Value) (e5 : Option Value) (T T2 : qT) (v : Int32), w_run b_Md_readSet n (243, [.int v1, .int v2, .int v4], []) T = some (v, T2) → q_out (q_ev q_Mt D) q_mMd_readSet (243, [some (.ref (r + 0)), some (.int v1), some (.int v2), e3, some (.int v4), e5], [], layM r T) = some (.inl (some (.int v)), layM r T2)) (v1 : Int32) (s0 : Int32) (e2 : Option Value) (e3 : Option Value) (e4 : Option Value) (e5 : Option Value) (T T1 T2 : qT) (rr : qJ ⊕ Int32) (v : Int32) (h : k_Md_readSet_18 v1 s0 T = some (rr, T1)) (hE : w_end b_Md_readSet n rr T1 = some (v, T2)) : q_out (q_ev q_Mt D) q_mMd_readSet (18, [some (.ref (r + 0)), some (.int v1), e2, e3, e4, e5], [.int s0], layM r T) = some (.inl (some (.int v)), layM r T2) := by
  unfold k_Md_readSet_18 at h
  refine Eq.trans (o_istore_n (lo' := [some (.ref (r + 0)), some (.int v1), some (.int s0), e3, e4, e5]) d_Md_readSet_18 (Nat.le_of_ble_eq_true rfl) rfl) ?_
  refine Eq.trans (o_aload_n d_Md_readSet_19 rfl) ?_
  refine Eq.trans (o_iload_n d_Md_readSet_20 rfl) ?_
  refine s_if_eq (t := 33) d_Md_readSet_21 (by decide) h (fun h => ?_) (fun h => ?_)
  · refine Eq.trans (o_aload_n d_Md_readSet_33 rfl) ?_
    refine s_get d_Md_readSet_34 pF_Md_126 (zM_Md_p r) h (fun x1 h => ?_)
    refine s_put d_Md_readSet_37 pF_Md_126 (zM_Md_p r) h (fun T h => ?_)
    refine Eq.trans (o_iconst (v := 0) d_Md_readSet_40 (by decide)) ?_
    refine Eq.trans (o_istore_n (lo' := [some (.ref (r + 0)), some (.int v1), some (.int s0), some (.int 0), e4, e5]) d_Md_readSet_41 (Nat.le_of_ble_eq_true rfl) rfl) ?_
    exact ih_42 _ _ _ _ _ _ _ _ (s_jump h hE)
  · refine Eq.trans (o_aload_n d_Md_readSet_24 rfl) ?_
    refine s_get d_Md_readSet_25 pF_Md_126 (zM_Md_p r) h (fun x2 h => ?_)
    refine Eq.trans (o_iconst (v := 1) d_Md_readSet_28 (by decide)) ?_
    refine Eq.trans (o_iadd d_Md_readSet_29) ?_
    refine Eq.trans (o_goto (t := 37) d_Md_readSet_30 (by decide)) ?_
    refine s_put d_Md_readSet_37 pF_Md_126 (zM_Md_p r) h (fun T h => ?_)
    refine Eq.trans (o_iconst (v := 0) d_Md_readSet_40 (by decide)) ?_
    refine Eq.trans (o_istore_n (lo' := [some (.ref (r + 0)), some (.int v1), some (.int s0), some (.int 0), e4, e5]) d_Md_readSet_41 (Nat.le_of_ble_eq_true rfl) rfl) ?_
    exact ih_42 _ _ _ _ _ _ _ _ (s_jump h hE)
set_option maxRecDepth 100000 in
set_option maxHeartbeats 4000000 in
theorem c_Md_readSet_0 (D : Nat) (hD : 2 ≤ D) (r : Nat) (n : Nat) (ih_42 : ∀ (v1 : Int32) (v2 : Int32) (v3 : Int32) (e4 : Option Value) (e5 : Option Value) (T T2 : qT) (v : Int32), w_run b_Md_readSet n (42, [.int v1, .int v2, .int v3], []) T = some (v, T2) → q_out (q_ev q_Mt D) q_mMd_readSet (42, [some (.ref (r + 0)), some (.int v1), some (.int v2), some (.int v3), e4, e5], [], layM r T) = some (.inl (some (.int v)), layM r T2)) (ih_243 : ∀ (v1 : Int32) (v2 : Int32) (v4 : Int32) (e3 : Option Value) (e5 : Option Value) (T T2 : qT) (v : Int32), w_run b_Md_readSet n (243, [.int v1, .int v2, .int v4], []) T = some (v, T2) → q_out (q_ev q_Mt D) q_mMd_readSet (243, [some (.ref (r + 0)), some (.int v1), some (.int v2), e3, some (.int v4), e5], [], layM r T) = some (.inl (some (.int v)), layM r T2)) (a1 : Int32)  (T T1 T2 : qT) (rr : qJ ⊕ Int32) (v : Int32) (h : k_Md_readSet_0 a1 T = some (rr, T1)) (hE : w_end b_Md_readSet n rr T1 = some (v, T2)) : q_out (q_ev q_Mt D) q_mMd_readSet (0, [some (.ref (r + 0)), some (.int a1), none, none, none, none], [], layM r T) = some (.inl (some (.int v)), layM r T2) := by
  unfold k_Md_readSet_0 at h
  refine Eq.trans (o_aload_n d_Md_readSet_0 rfl) ?_
  refine Eq.trans (o_aload_n d_Md_readSet_1 rfl) ?_
  refine s_get d_Md_readSet_2 pF_Md_126 (zM_Md_p r) h (fun x1 h => ?_)
  obtain ⟨x2, T2, h1, h⟩ := w_C_of h
  refine s_cV1i d_Md_readSet_5 pM_Md_129 (Nat.le_of_ble_eq_true rfl) (obM_0 r) (c_Md_here D (by omega) r _ _ _ _ h1) ?_
  replace h1 := trivial; revert h; generalize T2 = T; intro h
  refine Eq.trans (o_bipush (v := 94) d_Md_readSet_8 (by decide)) ?_
  refine s_icmp_ne (t := 17) d_Md_readSet_10 (by decide) h (fun h => ?_) (fun h => ?_)
  · refine Eq.trans (o_iconst (v := 0) d_Md_readSet_17 (by decide)) ?_
    exact c_Md_readSet_18 D hD r n ih_42 ih_243 _ _ _ _ _ _ _ _ _ _ _ h hE
  · refine Eq.trans (o_iconst (v := 1) d_Md_readSet_13 (by decide)) ?_
    refine Eq.trans (o_goto (t := 18) d_Md_readSet_14 (by decide)) ?_
    exact c_Md_readSet_18 D hD r n ih_42 ih_243 _ _ _ _ _ _ _ _ _ _ _ h hE
theorem c_Md_readSet_lp (D : Nat) (hD : 2 ≤ D) (r : Nat) : ∀ n : Nat, (∀ (v1 : Int32) (v2 : Int32) (v3 : Int32) (e4 : Option Value) (e5 : Option Value) (T T2 : qT) (v : Int32), w_run b_Md_readSet n (42, [.int v1, .int v2, .int v3], []) T = some (v, T2) → q_out (q_ev q_Mt D) q_mMd_readSet (42, [some (.ref (r + 0)), some (.int v1), some (.int v2), some (.int v3), e4, e5], [], layM r T) = some (.inl (some (.int v)), layM r T2)) ∧ (∀ (v1 : Int32) (v2 : Int32) (v4 : Int32) (e3 : Option Value) (e5 : Option Value) (T T2 : qT) (v : Int32), w_run b_Md_readSet n (243, [.int v1, .int v2, .int v4], []) T = some (v, T2) → q_out (q_ev q_Mt D) q_mMd_readSet (243, [some (.ref (r + 0)), some (.int v1), some (.int v2), e3, some (.int v4), e5], [], layM r T) = some (.inl (some (.int v)), layM r T2)) := by
  intro n
  induction n with
  | zero => exact ⟨(fun v1 v2 v3 e4 e5 T T2 v h => by cases h), (fun v1 v2 v4 e3 e5 T T2 v h => by cases h)⟩
  | succ n ih =>
    obtain ⟨ih_42, ih_243⟩ := ih
    refine ⟨?_, ?_⟩
    · intro v1 v2 v3 e4 e5 T T2 v h
      obtain ⟨rr, T1, hb, hE⟩ := w_run_succ h
      exact c_Md_readSet_42 D hD r n ih_42 ih_243 v1 v2 v3 e4 e5 T T1 T2 rr v hb hE
    · intro v1 v2 v4 e3 e5 T T2 v h
      obtain ⟨rr, T1, hb, hE⟩ := w_run_succ h
      exact c_Md_readSet_243 D hD r n ih_42 ih_243 v1 v2 v4 e3 e5 T T1 T2 rr v hb hE
theorem c_Md_readSet (D : Nat) (hD : 3 ≤ D) (r : Nat) (a1 : Int32) (T T2 : qT) (v : Int32) (h : f_Md_readSet a1 T = some (v, T2)) : q_ev q_Mt D 89 [.ref (r + 0), .int a1] (layM r T) = some (.inl (some (.int v)), layM r T2) := by
  obtain ⟨D, rfl⟩ : ∃ D', D = D' + 1 := ⟨D - 1, by omega⟩
  obtain ⟨n, hn⟩ := w_fix_iff.mp h
  cases n with
  | zero => cases hn
  | succ n =>
    obtain ⟨rr, T1, hb, hE⟩ := w_run_succ hn
    have hl := c_Md_readSet_lp D (by omega) r n
    obtain ⟨ih_42, ih_243⟩ := hl
    rw [o_ev (M := q_mMd_readSet) (lo := [some (.ref (r + 0)), some (.int a1), none, none, none, none]) rfl (Nat.le_of_ble_eq_true rfl) rfl]
    exact c_Md_readSet_0 D (by omega) r n ih_42 ih_243 a1 T T1 T2 rr v hb hE
noncomputable def k_Md_readSign_140 (v2 : Int32) (s0 : Int32) (s1 : Int32) : qW Int32 :=
  w_if (¬ v2 = 46) (
    w_C (f_Md_include s1 s0 v2) fun _ =>
    w_ret .boolean 1) (
    w_C (f_Md_include s1 s0 255) fun _ =>
    w_ret .boolean 1)
noncomputable def k_Md_readSign_36 (v1 : Int32) (v2 : Int32) : qW Int32 :=
  w_C (f_Md_node 3 v1) fun x1 =>
  w_C (f_Md_newSet) fun x2 =>
  w_a 6 220 x1 x2 <|
  w_S 14 fun x3 =>
  w_s 14 ((x3 + 1)) <|
  w_if (¬ v2 = 91) (
    w_if (¬ v2 = 92) (
      w_if (¬ v2 = 46) (
        k_Md_readSign_140 v2 v2 x2) (
        k_Md_readSign_140 v2 0 x2)) (
      w_S 14 fun x4 =>
      w_C (f_Md_here x4) fun x5 =>
      w_if (¬ x5 = 0) (
        w_S 14 fun x6 =>
        w_C (f_Md_here x6) fun x7 =>
        w_C (f_Md_includeSpecial x2 x7) fun _ =>
        w_S 14 fun x8 =>
        w_s 14 ((x8 + 1)) <|
        w_ret .boolean 1) (
        w_ret .boolean 0))) (
    w_C (f_Md_readSet x2) fun x9 =>
    w_ret .boolean x9)
noncomputable def f_Md_readSign (a1 : Int32) : qW Int32 :=
  w_S 14 fun x1 =>
  w_C (f_Md_here x1) fun x2 =>
  w_C (f_Md_isPlain x2) fun x3 =>
  w_if (¬ x3 = 0) (
    k_Md_readSign_36 a1 x2) (
    w_if (x2 = 46) (
      k_Md_readSign_36 a1 x2) (
      w_if (x2 = 92) (
        k_Md_readSign_36 a1 x2) (
        w_if (x2 = 91) (
          k_Md_readSign_36 a1 x2) (
          w_ret .boolean 0))))
set_option maxRecDepth 100000 in
set_option maxHeartbeats 4000000 in
theorem c_Md_readSign_140 (D : Nat) (hD : 3 ≤ D) (r : Nat) (v2 : Int32) (s0 : Int32) (s1 : Int32) (e0 : Option Value) (e1 : Option Value) (e3 : Option Value) (e4 : Option Value) (T T1 : qT) (v : Int32) (h : k_Md_readSign_140 v2 s0 s1 T = some (v, T1)) : q_out (q_ev q_Mt D) q_mMd_readSign (140, [e0, e1, some (.int v2), e3, e4], [.int s0, .int s1, .ref (r + 0)], layM r T) = some (.inl (some (.int v)), layM r T1) := by
  unfold k_Md_readSign_140 at h
  refine Eq.trans (o_iload_n d_Md_readSign_140 rfl) ?_
  refine Eq.trans (o_bipush (v := 46) d_Md_readSign_141 (by decide)) ?_
  refine s_icmp_ne (t := 152) d_Md_readSign_143 (by decide) h (fun h => ?_) (fun h => ?_)
  · refine Eq.trans (o_iload_n d_Md_readSign_152 rfl) ?_
    obtain ⟨u9, T2, h1, h⟩ := w_C_of h
    refine s_cV3v d_Md_readSign_153 pM_Md_118 (Nat.le_of_ble_eq_true rfl) (obM_0 r) (c_Md_include D (by omega) r _ _ _ _ _ _ h1) ?_
    replace h1 := trivial; revert h; generalize T2 = T; intro h
    refine Eq.trans (o_iconst (v := 1) d_Md_readSign_156 (by decide)) ?_
    exact s_iret d_Md_readSign_157 rfl h
  · refine Eq.trans (o_sipush (v := 255) d_Md_readSign_146 (by decide)) ?_
    refine Eq.trans (o_goto (t := 153) d_Md_readSign_149 (by decide)) ?_
    obtain ⟨u9, T2, h1, h⟩ := w_C_of h
    refine s_cV3v d_Md_readSign_153 pM_Md_118 (Nat.le_of_ble_eq_true rfl) (obM_0 r) (c_Md_include D (by omega) r _ _ _ _ _ _ h1) ?_
    replace h1 := trivial; revert h; generalize T2 = T; intro h
    refine Eq.trans (o_iconst (v := 1) d_Md_readSign_156 (by decide)) ?_
    exact s_iret d_Md_readSign_157 rfl h
set_option maxRecDepth 100000 in
set_option maxHeartbeats 4000000 in
theorem c_Md_readSign_36 (D : Nat) (hD : 3 ≤ D) (r : Nat) (v1 : Int32) (v2 : Int32) (e3 : Option Value) (e4 : Option Value) (T T1 : qT) (v : Int32) (h : k_Md_readSign_36 v1 v2 T = some (v, T1)) : q_out (q_ev q_Mt D) q_mMd_readSign (36, [some (.ref (r + 0)), some (.int v1), some (.int v2), e3, e4], [], layM r T) = some (.inl (some (.int v)), layM r T1) := by
  unfold k_Md_readSign_36 at h
  refine Eq.trans (o_aload_n d_Md_readSign_36 rfl) ?_
  refine Eq.trans (o_iconst (v := 3) d_Md_readSign_37 (by decide)) ?_
  refine Eq.trans (o_iload_n d_Md_readSign_38 rfl) ?_
  obtain ⟨x1, T2, h1, h⟩ := w_C_of h
  refine s_cV2i d_Md_readSign_39 pM_Md_143 (Nat.le_of_ble_eq_true rfl) (obM_0 r) (c_Md_node D (by omega) r _ _ _ _ _ h1) ?_
  replace h1 := trivial; revert h; generalize T2 = T; intro h
  refine Eq.trans (o_istore_n (lo' := [some (.ref (r + 0)), some (.int v1), some (.int v2), some (.int x1), e4]) d_Md_readSign_42 (Nat.le_of_ble_eq_true rfl) rfl) ?_
  refine Eq.trans (o_aload_n d_Md_readSign_43 rfl) ?_
  obtain ⟨x2, T2, h1, h⟩ := w_C_of h
  refine s_cV0i d_Md_readSign_44 pM_Md_147 (Nat.le_of_ble_eq_true rfl) (obM_0 r) (c_Md_newSet D (by omega) r _ _ _ h1) ?_
  replace h1 := trivial; revert h; generalize T2 = T; intro h
  refine Eq.trans (o_istore (lo' := [some (.ref (r + 0)), some (.int v1), some (.int v2), some (.int x1), some (.int x2)]) d_Md_readSign_47 (Nat.le_of_ble_eq_true rfl) rfl) ?_
  refine Eq.trans (o_aload_n d_Md_readSign_49 rfl) ?_
  refine s_ref d_Md_readSign_50 pF_Md_30 (zM_Md_a r) ?_
  refine Eq.trans (o_iload_n d_Md_readSign_53 rfl) ?_
  refine Eq.trans (o_iload d_Md_readSign_54 rfl) ?_
  refine s_iast d_Md_readSign_56 (rM_6 r) h (fun T h => ?_)
  refine Eq.trans (o_aload_n d_Md_readSign_57 rfl) ?_
  refine Eq.trans (o_dup d_Md_readSign_58 rfl) ?_
  refine s_get d_Md_readSign_59 pF_Md_126 (zM_Md_p r) h (fun x3 h => ?_)
  refine Eq.trans (o_iconst (v := 1) d_Md_readSign_62 (by decide)) ?_
  refine Eq.trans (o_iadd d_Md_readSign_63) ?_
  refine s_put d_Md_readSign_64 pF_Md_126 (zM_Md_p r) h (fun T h => ?_)
  refine Eq.trans (o_iload_n d_Md_readSign_67 rfl) ?_
  refine Eq.trans (o_bipush (v := 91) d_Md_readSign_68 (by decide)) ?_
  refine s_icmp_ne (t := 80) d_Md_readSign_70 (by decide) h (fun h => ?_) (fun h => ?_)
  · refine Eq.trans (o_iload_n d_Md_readSign_80 rfl) ?_
    refine Eq.trans (o_bipush (v := 92) d_Md_readSign_81 (by decide)) ?_
    refine s_icmp_ne (t := 126) d_Md_readSign_83 (by decide) h (fun h => ?_) (fun h => ?_)
    · refine Eq.trans (o_aload_n d_Md_readSign_126 rfl) ?_
      refine Eq.trans (o_iload d_Md_readSign_127 rfl) ?_
      refine Eq.trans (o_iload_n d_Md_readSign_129 rfl) ?_
      refine Eq.trans (o_bipush (v := 46) d_Md_readSign_130 (by decide)) ?_
      refine s_icmp_ne (t := 139) d_Md_readSign_132 (by decide) h (fun h => ?_) (fun h => ?_)
      · refine Eq.trans (o_iload_n d_Md_readSign_139 rfl) ?_
        exact c_Md_readSign_140 D hD r _ _ _ _ _ _ _ _ _ _ h
      · refine Eq.trans (o_iconst (v := 0) d_Md_readSign_135 (by decide)) ?_
        refine Eq.trans (o_goto (t := 140) d_Md_readSign_136 (by decide)) ?_
        exact c_Md_readSign_140 D hD r _ _ _ _ _ _ _ _ _ _ h
    · refine Eq.trans (o_aload_n d_Md_readSign_86 rfl) ?_
      refine Eq.trans (o_aload_n d_Md_readSign_87 rfl) ?_
      refine s_get d_Md_readSign_88 pF_Md_126 (zM_Md_p r) h (fun x4 h => ?_)
      obtain ⟨x5, T2, h1, h⟩ := w_C_of h
      refine s_cV1i d_Md_readSign_91 pM_Md_129 (Nat.le_of_ble_eq_true rfl) (obM_0 r) (c_Md_here D (by omega) r _ _ _ _ h1) ?_
      replace h1 := trivial; revert h; generalize T2 = T; intro h
      refine s_if_ne (t := 99) d_Md_readSign_94 (by decide) h (fun h => ?_) (fun h => ?_)
      · refine Eq.trans (o_aload_n d_Md_readSign_99 rfl) ?_
        refine Eq.trans (o_iload d_Md_readSign_100 rfl) ?_
        refine Eq.trans (o_aload_n d_Md_readSign_102 rfl) ?_
        refine Eq.trans (o_aload_n d_Md_readSign_103 rfl) ?_
        refine s_get d_Md_readSign_104 pF_Md_126 (zM_Md_p r) h (fun x6 h => ?_)
        obtain ⟨x7, T2, h1, h⟩ := w_C_of h
        refine s_cV1i d_Md_readSign_107 pM_Md_129 (Nat.le_of_ble_eq_true rfl) (obM_0 r) (c_Md_here D (by omega) r _ _ _ _ h1) ?_
        replace h1 := trivial; revert h; generalize T2 = T; intro h
        obtain ⟨u9, T2, h1, h⟩ := w_C_of h
        refine s_cV2v d_Md_readSign_110 pM_Md_132 (Nat.le_of_ble_eq_true rfl) (obM_0 r) (c_Md_includeSpecial D (by omega) r _ _ _ _ _ h1) ?_
        replace h1 := trivial; revert h; generalize T2 = T; intro h
        refine Eq.trans (o_aload_n d_Md_readSign_113 rfl) ?_
        refine Eq.trans (o_dup d_Md_readSign_114 rfl) ?_
        refine s_get d_Md_readSign_115 pF_Md_126 (zM_Md_p r) h (fun x8 h => ?_)
        refine Eq.trans (o_iconst (v := 1) d_Md_readSign_118 (by decide)) ?_
        refine Eq.trans (o_iadd d_Md_readSign_119) ?_
        refine s_put d_Md_readSign_120 pF_Md_126 (zM_Md_p r) h (fun T h => ?_)
        refine Eq.trans (o_goto (t := 156) d_Md_readSign_123 (by decide)) ?_
        refine Eq.trans (o_iconst (v := 1) d_Md_readSign_156 (by decide)) ?_
        exact s_iret d_Md_readSign_157 rfl h
      · refine Eq.trans (o_iconst (v := 0) d_Md_readSign_97 (by decide)) ?_
        exact s_iret d_Md_readSign_98 rfl h
  · refine Eq.trans (o_aload_n d_Md_readSign_73 rfl) ?_
    refine Eq.trans (o_iload d_Md_readSign_74 rfl) ?_
    obtain ⟨x9, T2, h1, h⟩ := w_C_of h
    refine s_cV1i d_Md_readSign_76 pM_Md_151 (Nat.le_of_ble_eq_true rfl) (obM_0 r) (c_Md_readSet D (by omega) r _ _ _ _ h1) ?_
    replace h1 := trivial; revert h; generalize T2 = T; intro h
    exact s_iret d_Md_readSign_79 rfl h
set_option maxRecDepth 100000 in
set_option maxHeartbeats 4000000 in
theorem c_Md_readSign_0 (D : Nat) (hD : 3 ≤ D) (r : Nat) (a1 : Int32)  (T T1 : qT) (v : Int32) (h : f_Md_readSign a1 T = some (v, T1)) : q_out (q_ev q_Mt D) q_mMd_readSign (0, [some (.ref (r + 0)), some (.int a1), none, none, none], [], layM r T) = some (.inl (some (.int v)), layM r T1) := by
  unfold f_Md_readSign at h
  refine Eq.trans (o_aload_n d_Md_readSign_0 rfl) ?_
  refine Eq.trans (o_aload_n d_Md_readSign_1 rfl) ?_
  refine s_get d_Md_readSign_2 pF_Md_126 (zM_Md_p r) h (fun x1 h => ?_)
  obtain ⟨x2, T2, h1, h⟩ := w_C_of h
  refine s_cV1i d_Md_readSign_5 pM_Md_129 (Nat.le_of_ble_eq_true rfl) (obM_0 r) (c_Md_here D (by omega) r _ _ _ _ h1) ?_
  replace h1 := trivial; revert h; generalize T2 = T; intro h
  refine Eq.trans (o_istore_n (lo' := [some (.ref (r + 0)), some (.int a1), some (.int x2), none, none]) d_Md_readSign_8 (Nat.le_of_ble_eq_true rfl) rfl) ?_
  refine Eq.trans (o_iload_n d_Md_readSign_9 rfl) ?_
  obtain ⟨x3, T2, h1, h⟩ := w_C_of h
  refine s_cS1i d_Md_readSign_10 pM_Md_140 (Nat.le_of_ble_eq_true rfl) (c_Md_isPlain D (by omega) r _ _ _ _ h1) ?_
  replace h1 := trivial; revert h; generalize T2 = T; intro h
  refine s_if_ne (t := 36) d_Md_readSign_13 (by decide) h (fun h => ?_) (fun h => ?_)
  · exact c_Md_readSign_36 D hD r _ _ _ _ _ _ _ h
  · refine Eq.trans (o_iload_n d_Md_readSign_16 rfl) ?_
    refine Eq.trans (o_bipush (v := 46) d_Md_readSign_17 (by decide)) ?_
    refine s_icmp_eq (t := 36) d_Md_readSign_19 (by decide) h (fun h => ?_) (fun h => ?_)
    · exact c_Md_readSign_36 D hD r _ _ _ _ _ _ _ h
    · refine Eq.trans (o_iload_n d_Md_readSign_22 rfl) ?_
      refine Eq.trans (o_bipush (v := 92) d_Md_readSign_23 (by decide)) ?_
      refine s_icmp_eq (t := 36) d_Md_readSign_25 (by decide) h (fun h => ?_) (fun h => ?_)
      · exact c_Md_readSign_36 D hD r _ _ _ _ _ _ _ h
      · refine Eq.trans (o_iload_n d_Md_readSign_28 rfl) ?_
        refine Eq.trans (o_bipush (v := 91) d_Md_readSign_29 (by decide)) ?_
        refine s_icmp_eq (t := 36) d_Md_readSign_31 (by decide) h (fun h => ?_) (fun h => ?_)
        · exact c_Md_readSign_36 D hD r _ _ _ _ _ _ _ h
        · refine Eq.trans (o_iconst (v := 0) d_Md_readSign_34 (by decide)) ?_
          exact s_iret d_Md_readSign_35 rfl h
theorem c_Md_readSign (D : Nat) (hD : 4 ≤ D) (r : Nat) (a1 : Int32) (T T1 : qT) (v : Int32) (h : f_Md_readSign a1 T = some (v, T1)) : q_ev q_Mt D 86 [.ref (r + 0), .int a1] (layM r T) = some (.inl (some (.int v)), layM r T1) := by
  obtain ⟨D, rfl⟩ : ∃ D', D = D' + 1 := ⟨D - 1, by omega⟩
  rw [o_ev (M := q_mMd_readSign) (lo := [some (.ref (r + 0)), some (.int a1), none, none, none]) rfl (Nat.le_of_ble_eq_true rfl) rfl]
  exact c_Md_readSign_0 D (by omega) r a1 T T1 v h
noncomputable def k_Md_read_188  : qW (qJ ⊕ Int32) :=
  w_S 15 fun x1 =>
  w_A 13 9 x1 fun x2 =>
  w_C (f_Md_node 2 x2) fun x3 =>
  w_C (f_Md_readSign x3) fun x4 =>
  w_if (x4 = 0) (
    w_ri .boolean 0) (
    w_C (f_Md_readCount x3) fun x5 =>
    w_if (¬ x5 = 0) (
      w_go 49 [] []) (
      w_ri .boolean 0))
noncomputable def k_Md_read_49  : qW (qJ ⊕ Int32) :=
  w_S 14 fun x1 =>
  w_S 1 fun x2 =>
  w_if (x2 ≤ x1) (
    w_S 15 fun x3 =>
    w_if (¬ x3 = 0) (
      w_ri .boolean 0) (
      w_ri .boolean 1)) (
    w_S 14 fun x4 =>
    w_C (f_Md_here x4) fun x5 =>
    w_if (¬ x5 = 124) (
      w_if (¬ x5 = 40) (
        w_if (¬ x5 = 41) (
          k_Md_read_188) (
          w_S 15 fun x6 =>
          w_if (x6 ≤ 0) (
            k_Md_read_188) (
            w_S 14 fun x7 =>
            w_s 14 ((x7 + 1)) <|
            w_S 15 fun x8 =>
            w_s 15 ((x8 - 1)) <|
            w_S 15 fun x9 =>
            w_A 11 9 ((x9 + 1)) fun x10 =>
            w_C (f_Md_readCount x10) fun x11 =>
            w_if (¬ x11 = 0) (
              w_go 49 [] []) (
              w_ri .boolean 0)))) (
        w_S 15 fun x12 =>
        w_A 13 9 x12 fun x13 =>
        w_C (f_Md_open x13) fun x14 =>
        w_if (¬ x14 = 0) (
          w_go 49 [] []) (
          w_ri .boolean 0))) (
      w_S 14 fun x15 =>
      w_s 14 ((x15 + 1)) <|
      w_S 15 fun x16 =>
      w_S 15 fun x17 =>
      w_A 12 9 x17 fun x18 =>
      w_C (f_Md_node 1 x18) fun x19 =>
      w_a 13 9 x16 x19 <|
      w_go 49 [] []))
noncomputable def k_Md_read_0  : qW (qJ ⊕ Int32) :=
  w_s 4 0 <|
  w_s 20 0 <|
  w_s 19 0 <|
  w_s 15 0 <|
  w_s 14 0 <|
  w_C (f_Md_node 0 ((-1))) fun x1 =>
  w_a 12 9 0 x1 <|
  w_C (f_Md_node 1 0) fun x2 =>
  w_a 13 9 0 x2 <|
  w_go 49 [] []
noncomputable def b_Md_read : qJ → qW (qJ ⊕ Int32) := fun x => match x with
  | (0, [], []) => k_Md_read_0 
  | (49, [], []) => k_Md_read_49 
  | _ => w_no
noncomputable def f_Md_read  : qW Int32 := w_fix b_Md_read (0, [], [])
set_option maxRecDepth 100000 in
set_option maxHeartbeats 4000000 in
theorem c_Md_read_188 (D : Nat) (hD : 4 ≤ D) (r : Nat) (n : Nat) (ih_49 : ∀  (e1 : Option Value) (e2 : Option Value) (T T2 : qT) (v : Int32), w_run b_Md_read n (49, [], []) T = some (v, T2) → q_out (q_ev q_Mt D) q_mMd_read (49, [some (.ref (r + 0)), e1, e2], [], layM r T) = some (.inl (some (.int v)), layM r T2))  (e1 : Option Value) (e2 : Option Value) (T T1 T2 : qT) (rr : qJ ⊕ Int32) (v : Int32) (h : k_Md_read_188 T = some (rr, T1)) (hE : w_end b_Md_read n rr T1 = some (v, T2)) : q_out (q_ev q_Mt D) q_mMd_read (188, [some (.ref (r + 0)), e1, e2], [], layM r T) = some (.inl (some (.int v)), layM r T2) := by
  unfold k_Md_read_188 at h
  refine Eq.trans (o_aload_n d_Md_read_188 rfl) ?_
  refine Eq.trans (o_iconst (v := 2) d_Md_read_189 (by decide)) ?_
  refine Eq.trans (o_aload_n d_Md_read_190 rfl) ?_
  refine s_ref d_Md_read_191 pF_Md_52 (zM_Md_openRow r) ?_
  refine Eq.trans (o_aload_n d_Md_read_194 rfl) ?_
  refine s_get d_Md_read_195 pF_Md_161 (zM_Md_depth r) h (fun x1 h => ?_)
  refine s_iald d_Md_read_198 (rM_13 r) h (fun x2 h => ?_)
  obtain ⟨x3, T2, h1, h⟩ := w_C_of h
  refine s_cV2i d_Md_read_199 pM_Md_143 (Nat.le_of_ble_eq_true rfl) (obM_0 r) (c_Md_node D (by omega) r _ _ _ _ _ h1) ?_
  replace h1 := trivial; revert h; generalize T2 = T; intro h
  refine Eq.trans (o_istore_n (lo' := [some (.ref (r + 0)), (q_dk e1), some (.int x3)]) d_Md_read_202 (Nat.le_of_ble_eq_true rfl) ((q_st1_dk (j := 1) (Nat.le_of_ble_eq_true rfl)).trans rfl)) ?_
  refine Eq.trans (o_aload_n d_Md_read_203 rfl) ?_
  refine Eq.trans (o_iload_n d_Md_read_204 rfl) ?_
  obtain ⟨x4, T2, h1, h⟩ := w_C_of h
  refine s_cV1i d_Md_read_205 pM_Md_173 (Nat.le_of_ble_eq_true rfl) (obM_0 r) (c_Md_readSign D (by omega) r _ _ _ _ h1) ?_
  replace h1 := trivial; revert h; generalize T2 = T; intro h
  refine s_if_eq (t := 219) d_Md_read_208 (by decide) h (fun h => ?_) (fun h => ?_)
  · refine Eq.trans (o_iconst (v := 0) d_Md_read_219 (by decide)) ?_
    exact s_iretJ d_Md_read_220 rfl h hE
  · refine Eq.trans (o_aload_n d_Md_read_211 rfl) ?_
    refine Eq.trans (o_iload_n d_Md_read_212 rfl) ?_
    obtain ⟨x5, T2, h1, h⟩ := w_C_of h
    refine s_cV1i d_Md_read_213 pM_Md_170 (Nat.le_of_ble_eq_true rfl) (obM_0 r) (c_Md_readCount D (by omega) r _ _ _ _ h1) ?_
    replace h1 := trivial; revert h; generalize T2 = T; intro h
    refine s_if_ne (t := 221) d_Md_read_216 (by decide) h (fun h => ?_) (fun h => ?_)
    · refine Eq.trans (o_goto (t := 49) d_Md_read_221 (by decide)) ?_
      exact ih_49 _ _ _ _ _ (s_jump h hE)
    · refine Eq.trans (o_iconst (v := 0) d_Md_read_219 (by decide)) ?_
      exact s_iretJ d_Md_read_220 rfl h hE
set_option maxRecDepth 100000 in
set_option maxHeartbeats 4000000 in
theorem c_Md_read_49 (D : Nat) (hD : 4 ≤ D) (r : Nat) (n : Nat) (ih_49 : ∀  (e1 : Option Value) (e2 : Option Value) (T T2 : qT) (v : Int32), w_run b_Md_read n (49, [], []) T = some (v, T2) → q_out (q_ev q_Mt D) q_mMd_read (49, [some (.ref (r + 0)), e1, e2], [], layM r T) = some (.inl (some (.int v)), layM r T2))  (e1 : Option Value) (e2 : Option Value) (T T1 T2 : qT) (rr : qJ ⊕ Int32) (v : Int32) (h : k_Md_read_49 T = some (rr, T1)) (hE : w_end b_Md_read n rr T1 = some (v, T2)) : q_out (q_ev q_Mt D) q_mMd_read (49, [some (.ref (r + 0)), e1, e2], [], layM r T) = some (.inl (some (.int v)), layM r T2) := by
  unfold k_Md_read_49 at h
  refine Eq.trans (o_aload_n d_Md_read_49 rfl) ?_
  refine s_get d_Md_read_50 pF_Md_126 (zM_Md_p r) h (fun x1 h => ?_)
  refine Eq.trans (o_aload_n d_Md_read_53 rfl) ?_
  refine s_get d_Md_read_54 pF_Md_106 (zM_Md_size r) h (fun x2 h => ?_)
  refine s_icmp_ge (t := 224) d_Md_read_57 (by decide) h (fun h => ?_) (fun h => ?_)
  · refine Eq.trans (o_aload_n d_Md_read_224 rfl) ?_
    refine s_get d_Md_read_225 pF_Md_161 (zM_Md_depth r) h (fun x3 h => ?_)
    refine s_if_ne (t := 235) d_Md_read_228 (by decide) h (fun h => ?_) (fun h => ?_)
    · refine Eq.trans (o_iconst (v := 0) d_Md_read_235 (by decide)) ?_
      exact s_iretJ d_Md_read_236 rfl h hE
    · refine Eq.trans (o_iconst (v := 1) d_Md_read_231 (by decide)) ?_
      refine Eq.trans (o_goto (t := 236) d_Md_read_232 (by decide)) ?_
      exact s_iretJ d_Md_read_236 rfl h hE
  · refine Eq.trans (o_aload_n d_Md_read_60 rfl) ?_
    refine Eq.trans (o_aload_n d_Md_read_61 rfl) ?_
    refine s_get d_Md_read_62 pF_Md_126 (zM_Md_p r) h (fun x4 h => ?_)
    obtain ⟨x5, T2, h1, h⟩ := w_C_of h
    refine s_cV1i d_Md_read_65 pM_Md_129 (Nat.le_of_ble_eq_true rfl) (obM_0 r) (c_Md_here D (by omega) r _ _ _ _ h1) ?_
    replace h1 := trivial; revert h; generalize T2 = T; intro h
    refine Eq.trans (o_istore_n (lo' := [some (.ref (r + 0)), some (.int x5), e2]) d_Md_read_68 (Nat.le_of_ble_eq_true rfl) rfl) ?_
    refine Eq.trans (o_iload_n d_Md_read_69 rfl) ?_
    refine Eq.trans (o_bipush (v := 124) d_Md_read_70 (by decide)) ?_
    refine s_icmp_ne (t := 111) d_Md_read_72 (by decide) h (fun h => ?_) (fun h => ?_)
    · refine Eq.trans (o_iload_n d_Md_read_111 rfl) ?_
      refine Eq.trans (o_bipush (v := 40) d_Md_read_112 (by decide)) ?_
      refine s_icmp_ne (t := 135) d_Md_read_114 (by decide) h (fun h => ?_) (fun h => ?_)
      · refine Eq.trans (o_iload_n d_Md_read_135 rfl) ?_
        refine Eq.trans (o_bipush (v := 41) d_Md_read_136 (by decide)) ?_
        refine s_icmp_ne (t := 188) d_Md_read_138 (by decide) h (fun h => ?_) (fun h => ?_)
        · exact c_Md_read_188 D hD r n ih_49 _ _ _ _ _ _ _ h hE
        · refine Eq.trans (o_aload_n d_Md_read_141 rfl) ?_
          refine s_get d_Md_read_142 pF_Md_161 (zM_Md_depth r) h (fun x6 h => ?_)
          refine s_if_le (t := 188) d_Md_read_145 (by decide) h (fun h => ?_) (fun h => ?_)
          · exact c_Md_read_188 D hD r n ih_49 _ _ _ _ _ _ _ h hE
          · refine Eq.trans (o_aload_n d_Md_read_148 rfl) ?_
            refine Eq.trans (o_dup d_Md_read_149 rfl) ?_
            refine s_get d_Md_read_150 pF_Md_126 (zM_Md_p r) h (fun x7 h => ?_)
            refine Eq.trans (o_iconst (v := 1) d_Md_read_153 (by decide)) ?_
            refine Eq.trans (o_iadd d_Md_read_154) ?_
            refine s_put d_Md_read_155 pF_Md_126 (zM_Md_p r) h (fun T h => ?_)
            refine Eq.trans (o_aload_n d_Md_read_158 rfl) ?_
            refine Eq.trans (o_dup d_Md_read_159 rfl) ?_
            refine s_get d_Md_read_160 pF_Md_161 (zM_Md_depth r) h (fun x8 h => ?_)
            refine Eq.trans (o_iconst (v := 1) d_Md_read_163 (by decide)) ?_
            refine Eq.trans (o_isub d_Md_read_164) ?_
            refine s_put d_Md_read_165 pF_Md_161 (zM_Md_depth r) h (fun T h => ?_)
            refine Eq.trans (o_aload_n d_Md_read_168 rfl) ?_
            refine Eq.trans (o_aload_n d_Md_read_169 rfl) ?_
            refine s_ref d_Md_read_170 pF_Md_46 (zM_Md_openRepeat r) ?_
            refine Eq.trans (o_aload_n d_Md_read_173 rfl) ?_
            refine s_get d_Md_read_174 pF_Md_161 (zM_Md_depth r) h (fun x9 h => ?_)
            refine Eq.trans (o_iconst (v := 1) d_Md_read_177 (by decide)) ?_
            refine Eq.trans (o_iadd d_Md_read_178) ?_
            refine s_iald d_Md_read_179 (rM_11 r) h (fun x10 h => ?_)
            obtain ⟨x11, T2, h1, h⟩ := w_C_of h
            refine s_cV1i d_Md_read_180 pM_Md_170 (Nat.le_of_ble_eq_true rfl) (obM_0 r) (c_Md_readCount D (by omega) r _ _ _ _ h1) ?_
            replace h1 := trivial; revert h; generalize T2 = T; intro h
            refine s_if_ne (t := 221) d_Md_read_183 (by decide) h (fun h => ?_) (fun h => ?_)
            · refine Eq.trans (o_goto (t := 49) d_Md_read_221 (by decide)) ?_
              exact ih_49 _ _ _ _ _ (s_jump h hE)
            · refine Eq.trans (o_iconst (v := 0) d_Md_read_186 (by decide)) ?_
              exact s_iretJ d_Md_read_187 rfl h hE
      · refine Eq.trans (o_aload_n d_Md_read_117 rfl) ?_
        refine Eq.trans (o_aload_n d_Md_read_118 rfl) ?_
        refine s_ref d_Md_read_119 pF_Md_52 (zM_Md_openRow r) ?_
        refine Eq.trans (o_aload_n d_Md_read_122 rfl) ?_
        refine s_get d_Md_read_123 pF_Md_161 (zM_Md_depth r) h (fun x12 h => ?_)
        refine s_iald d_Md_read_126 (rM_13 r) h (fun x13 h => ?_)
        obtain ⟨x14, T2, h1, h⟩ := w_C_of h
        refine s_cV1i d_Md_read_127 pM_Md_167 (Nat.le_of_ble_eq_true rfl) (obM_0 r) (c_Md_open D (by omega) r _ _ _ _ h1) ?_
        replace h1 := trivial; revert h; generalize T2 = T; intro h
        refine s_if_ne (t := 221) d_Md_read_130 (by decide) h (fun h => ?_) (fun h => ?_)
        · refine Eq.trans (o_goto (t := 49) d_Md_read_221 (by decide)) ?_
          exact ih_49 _ _ _ _ _ (s_jump h hE)
        · refine Eq.trans (o_iconst (v := 0) d_Md_read_133 (by decide)) ?_
          exact s_iretJ d_Md_read_134 rfl h hE
    · refine Eq.trans (o_aload_n d_Md_read_75 rfl) ?_
      refine Eq.trans (o_dup d_Md_read_76 rfl) ?_
      refine s_get d_Md_read_77 pF_Md_126 (zM_Md_p r) h (fun x15 h => ?_)
      refine Eq.trans (o_iconst (v := 1) d_Md_read_80 (by decide)) ?_
      refine Eq.trans (o_iadd d_Md_read_81) ?_
      refine s_put d_Md_read_82 pF_Md_126 (zM_Md_p r) h (fun T h => ?_)
      refine Eq.trans (o_aload_n d_Md_read_85 rfl) ?_
      refine s_ref d_Md_read_86 pF_Md_52 (zM_Md_openRow r) ?_
      refine Eq.trans (o_aload_n d_Md_read_89 rfl) ?_
      refine s_get d_Md_read_90 pF_Md_161 (zM_Md_depth r) h (fun x16 h => ?_)
      refine Eq.trans (o_aload_n d_Md_read_93 rfl) ?_
      refine Eq.trans (o_iconst (v := 1) d_Md_read_94 (by decide)) ?_
      refine Eq.trans (o_aload_n d_Md_read_95 rfl) ?_
      refine s_ref d_Md_read_96 pF_Md_49 (zM_Md_openChoice r) ?_
      refine Eq.trans (o_aload_n d_Md_read_99 rfl) ?_
      refine s_get d_Md_read_100 pF_Md_161 (zM_Md_depth r) h (fun x17 h => ?_)
      refine s_iald d_Md_read_103 (rM_12 r) h (fun x18 h => ?_)
      obtain ⟨x19, T2, h1, h⟩ := w_C_of h
      refine s_cV2i d_Md_read_104 pM_Md_143 (Nat.le_of_ble_eq_true rfl) (obM_0 r) (c_Md_node D (by omega) r _ _ _ _ _ h1) ?_
      replace h1 := trivial; revert h; generalize T2 = T; intro h
      refine s_iast d_Md_read_107 (rM_13 r) h (fun T h => ?_)
      refine Eq.trans (o_goto (t := 221) d_Md_read_108 (by decide)) ?_
      refine Eq.trans (o_goto (t := 49) d_Md_read_221 (by decide)) ?_
      exact ih_49 _ _ _ _ _ (s_jump h hE)
set_option maxRecDepth 100000 in
set_option maxHeartbeats 4000000 in
theorem c_Md_read_0 (D : Nat) (hD : 4 ≤ D) (r : Nat) (n : Nat) (ih_49 : ∀  (e1 : Option Value) (e2 : Option Value) (T T2 : qT) (v : Int32), w_run b_Md_read n (49, [], []) T = some (v, T2) → q_out (q_ev q_Mt D) q_mMd_read (49, [some (.ref (r + 0)), e1, e2], [], layM r T) = some (.inl (some (.int v)), layM r T2))   (T T1 T2 : qT) (rr : qJ ⊕ Int32) (v : Int32) (h : k_Md_read_0 T = some (rr, T1)) (hE : w_end b_Md_read n rr T1 = some (v, T2)) : q_out (q_ev q_Mt D) q_mMd_read (0, [some (.ref (r + 0)), none, none], [], layM r T) = some (.inl (some (.int v)), layM r T2) := by
  unfold k_Md_read_0 at h
  refine Eq.trans (o_aload_n d_Md_read_0 rfl) ?_
  refine Eq.trans (o_iconst (v := 0) d_Md_read_1 (by decide)) ?_
  refine s_put d_Md_read_2 pF_Md_112 (zM_Md_nodes r) h (fun T h => ?_)
  refine Eq.trans (o_aload_n d_Md_read_5 rfl) ?_
  refine Eq.trans (o_iconst (v := 0) d_Md_read_6 (by decide)) ?_
  refine s_put d_Md_read_7 pF_Md_115 (zM_Md_sets r) h (fun T h => ?_)
  refine Eq.trans (o_aload_n d_Md_read_10 rfl) ?_
  refine Eq.trans (o_iconst (v := 0) d_Md_read_11 (by decide)) ?_
  refine s_put d_Md_read_12 pF_Md_164 (zM_Md_numbers r) h (fun T h => ?_)
  refine Eq.trans (o_aload_n d_Md_read_15 rfl) ?_
  refine Eq.trans (o_iconst (v := 0) d_Md_read_16 (by decide)) ?_
  refine s_put d_Md_read_17 pF_Md_161 (zM_Md_depth r) h (fun T h => ?_)
  refine Eq.trans (o_aload_n d_Md_read_20 rfl) ?_
  refine Eq.trans (o_iconst (v := 0) d_Md_read_21 (by decide)) ?_
  refine s_put d_Md_read_22 pF_Md_126 (zM_Md_p r) h (fun T h => ?_)
  refine Eq.trans (o_aload_n d_Md_read_25 rfl) ?_
  refine s_ref d_Md_read_26 pF_Md_49 (zM_Md_openChoice r) ?_
  refine Eq.trans (o_iconst (v := 0) d_Md_read_29 (by decide)) ?_
  refine Eq.trans (o_aload_n d_Md_read_30 rfl) ?_
  refine Eq.trans (o_iconst (v := 0) d_Md_read_31 (by decide)) ?_
  refine Eq.trans (o_iconst (v := (-1)) d_Md_read_32 (by decide)) ?_
  obtain ⟨x1, T2, h1, h⟩ := w_C_of h
  refine s_cV2i d_Md_read_33 pM_Md_143 (Nat.le_of_ble_eq_true rfl) (obM_0 r) (c_Md_node D (by omega) r _ _ _ _ _ h1) ?_
  replace h1 := trivial; revert h; generalize T2 = T; intro h
  refine s_iast d_Md_read_36 (rM_12 r) h (fun T h => ?_)
  refine Eq.trans (o_aload_n d_Md_read_37 rfl) ?_
  refine s_ref d_Md_read_38 pF_Md_52 (zM_Md_openRow r) ?_
  refine Eq.trans (o_iconst (v := 0) d_Md_read_41 (by decide)) ?_
  refine Eq.trans (o_aload_n d_Md_read_42 rfl) ?_
  refine Eq.trans (o_iconst (v := 1) d_Md_read_43 (by decide)) ?_
  refine Eq.trans (o_iconst (v := 0) d_Md_read_44 (by decide)) ?_
  obtain ⟨x2, T2, h1, h⟩ := w_C_of h
  refine s_cV2i d_Md_read_45 pM_Md_143 (Nat.le_of_ble_eq_true rfl) (obM_0 r) (c_Md_node D (by omega) r _ _ _ _ _ h1) ?_
  replace h1 := trivial; revert h; generalize T2 = T; intro h
  refine s_iast d_Md_read_48 (rM_13 r) h (fun T h => ?_)
  exact ih_49 _ _ _ _ _ (s_jump h hE)
theorem c_Md_read_lp (D : Nat) (hD : 4 ≤ D) (r : Nat) : ∀ n : Nat, (∀  (e1 : Option Value) (e2 : Option Value) (T T2 : qT) (v : Int32), w_run b_Md_read n (49, [], []) T = some (v, T2) → q_out (q_ev q_Mt D) q_mMd_read (49, [some (.ref (r + 0)), e1, e2], [], layM r T) = some (.inl (some (.int v)), layM r T2)) := by
  intro n
  induction n with
  | zero => exact (fun e1 e2 T T2 v h => by cases h)
  | succ n ih =>
    have ih_49 := ih
    · intro e1 e2 T T2 v h
      obtain ⟨rr, T1, hb, hE⟩ := w_run_succ h
      exact c_Md_read_49 D hD r n ih_49 e1 e2 T T1 T2 rr v hb hE
theorem c_Md_read (D : Nat) (hD : 5 ≤ D) (r : Nat)  (T T2 : qT) (v : Int32) (h : f_Md_read  T = some (v, T2)) : q_ev q_Mt D 79 [.ref (r + 0)] (layM r T) = some (.inl (some (.int v)), layM r T2) := by
  obtain ⟨D, rfl⟩ : ∃ D', D = D' + 1 := ⟨D - 1, by omega⟩
  obtain ⟨n, hn⟩ := w_fix_iff.mp h
  cases n with
  | zero => cases hn
  | succ n =>
    obtain ⟨rr, T1, hb, hE⟩ := w_run_succ hn
    have hl := c_Md_read_lp D (by omega) r n
    have ih_49 := hl
    rw [o_ev (M := q_mMd_read) (lo := [some (.ref (r + 0)), none, none]) rfl (Nat.le_of_ble_eq_true rfl) rfl]
    exact c_Md_read_0 D (by omega) r n ih_49  T T1 T2 rr v hb hE
