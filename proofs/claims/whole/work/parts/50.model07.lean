noncomputable def k_Md_work_274 (v3 : Int32) : qW (qJ ⊕ Unit) :=
  w_S 22 fun x1 =>
  w_if (x1 ≤ v3) (
    w_rt ()) (
    w_A 24 160 v3 fun x2 =>
    w_if (x2 = 0) (
      w_a 23 160 v3 ((vp_nar .boolean 0)) <|
      w_go 274 [.int (v3 + 1)] []) (
      w_A 15 160 v3 fun x3 =>
      w_if (¬ x3 = 0) (
        w_a 23 160 v3 ((vp_nar .boolean 0)) <|
        w_go 274 [.int (v3 + 1)] []) (
        w_a 23 160 v3 ((vp_nar .boolean 1)) <|
        w_go 274 [.int (v3 + 1)] [])))
noncomputable def k_Md_work_253 (v1 : Int32) (v2 : Int32) (v3 : Int32) : qW (qJ ⊕ Unit) :=
  w_S 31 fun x1 =>
  w_if (x1 ≤ v3) (
    w_go 126 [.int v1, .int v2, .int (v3 + 1)] []) (
    w_C (f_Md_step v3) fun _ =>
    w_go 126 [.int v1, .int v2, .int (v3 + 1)] [])
noncomputable def k_Md_work_252 (v1 : Int32) (v3 : Int32) (s0 : Int32) : qW (qJ ⊕ Unit) :=
  k_Md_work_253 v1 s0 v3
noncomputable def k_Md_work_214 (v1 : Int32) (v3 : Int32) (s0 : Int32) : qW (qJ ⊕ Unit) :=
  w_if (s0 < 0) (
    k_Md_work_253 v1 s0 v3) (
    w_C (f_Md_choose s0 v3) fun x1 =>
    w_C (f_Md_setMarks x1 v3) fun _ =>
    w_A 15 160 x1 fun x2 =>
    w_if (¬ x2 = 0) (
      k_Md_work_252 v1 v3 ((-1))) (
      k_Md_work_252 v1 v3 ((x1 + 1))))
noncomputable def k_Md_work_213 (v1 : Int32) (v2 : Int32) (v3 : Int32) : qW (qJ ⊕ Unit) :=
  k_Md_work_214 v1 v3 v2
noncomputable def k_Md_work_206 (v1 : Int32) (v2 : Int32) (v3 : Int32) (s0 : Int32) (s1 : Int32) : qW (qJ ⊕ Unit) :=
  w_if (¬ s1 = s0) (
    k_Md_work_213 v1 v2 v3) (
    k_Md_work_214 v1 v3 0)
noncomputable def k_Md_work_186 (v1 : Int32) (v2 : Int32) (v3 : Int32) : qW (qJ ⊕ Unit) :=
  w_S 34 fun x1 =>
  w_if (x1 = 0) (
    k_Md_work_213 v1 v2 v3) (
    w_S 30 fun x2 =>
    w_if (x2 = 0) (
      k_Md_work_206 v1 v2 v3 0 v3) (
      k_Md_work_206 v1 v2 v3 v1 v3))
noncomputable def k_Md_work_170 (v1 : Int32) (v2 : Int32) (v3 : Int32) (s0 : Int32) : qW (qJ ⊕ Unit) :=
  w_if (s0 = 0) (
    k_Md_work_186 v1 v2 v3) (
    w_C (f_Md_spreadH 0) fun _ =>
    k_Md_work_186 v1 v2 v3)
noncomputable def k_Md_work_153 (v1 : Int32) (v2 : Int32) (v3 : Int32) : qW (qJ ⊕ Unit) :=
  k_Md_work_170 v1 v2 v3 1
noncomputable def k_Md_work_126 (v1 : Int32) (v2 : Int32) (v3 : Int32) : qW (qJ ⊕ Unit) :=
  w_S 31 fun x1 =>
  w_if (x1 < v3) (
    w_go 274 [.int 0] []) (
    w_S 30 fun x2 =>
    w_if (x2 = 0) (
      w_if (¬ v3 = 0) (
        k_Md_work_170 v1 v2 v3 0) (
        k_Md_work_170 v1 v2 v3 1)) (
      w_S 34 fun x3 =>
      w_if (x3 = 0) (
        k_Md_work_153 v1 v2 v3) (
        w_if (v1 ≤ v3) (
          k_Md_work_170 v1 v2 v3 0) (
          k_Md_work_153 v1 v2 v3))))
noncomputable def k_Md_work_103 (v1 : Int32) (v2 : Int32) (v3 : Int32) : qW (qJ ⊕ Unit) :=
  w_S 22 fun x1 =>
  w_if (x1 ≤ v3) (
    w_go 126 [.int v1, .int v2, .int 0] []) (
    w_a 24 160 v3 ((vp_nar .boolean 0)) <|
    w_go 103 [.int v1, .int v2, .int (v3 + 1)] [])
noncomputable def k_Md_work_63 (v1 : Int32) : qW (qJ ⊕ Unit) :=
  w_S 30 fun x1 =>
  w_if (x1 = 0) (
    w_if (¬ v1 = 0) (
      w_z 34 0 <|
      w_go 103 [.int v1, .int (-1), .int 0] []) (
      w_z 34 1 <|
      w_go 103 [.int v1, .int (-1), .int 0] [])) (
    w_S 31 fun x2 =>
    w_if (x2 < v1) (
      w_z 34 0 <|
      w_go 103 [.int v1, .int (-1), .int 0] []) (
      w_z 34 1 <|
      w_go 103 [.int v1, .int (-1), .int 0] []))
noncomputable def k_Md_work_40 (v1 : Int32) : qW (qJ ⊕ Unit) :=
  w_S 31 fun x1 =>
  w_if (x1 < v1) (
    k_Md_work_63 v1) (
    w_C (f_Md_reaches 0 v1) fun x2 =>
    w_if (¬ x2 = 0) (
      k_Md_work_63 v1) (
      w_go 40 [.int (v1 + 1)] []))
noncomputable def k_Md_work_19 (v1 : Int32) : qW (qJ ⊕ Unit) :=
  w_if (14 ≤ v1) (
    w_go 40 [.int 0] []) (
    w_a 22 14 v1 ((-1)) <|
    w_go 19 [.int (v1 + 1)] [])
noncomputable def k_Md_work_0  : qW (qJ ⊕ Unit) :=
  w_S 33 fun x1 =>
  w_if (x1 = 0) (
    w_z 33 1 <|
    w_C (f_Md_fill) fun _ =>
    w_go 19 [.int 0] []) (
    w_rt ())
noncomputable def b_Md_work : qJ → qW (qJ ⊕ Unit) := fun x => match x with
  | (0, [], []) => k_Md_work_0 
  | (19, [.int v1], []) => k_Md_work_19 v1
  | (40, [.int v1], []) => k_Md_work_40 v1
  | (103, [.int v1, .int v2, .int v3], []) => k_Md_work_103 v1 v2 v3
  | (126, [.int v1, .int v2, .int v3], []) => k_Md_work_126 v1 v2 v3
  | (274, [.int v3], []) => k_Md_work_274 v3
  | _ => w_no
noncomputable def f_Md_work  : qW Unit := w_fix b_Md_work (0, [], [])
set_option maxRecDepth 100000 in
set_option maxHeartbeats 4000000 in
theorem c_Md_work_274 (D : Nat) (hD : 4 ≤ D) (r : Nat) (n : Nat) (ih_19 : ∀ (v1 : Int32) (e2 : Option Value) (e3 : Option Value) (e4 : Option Value) (e5 : Option Value) (T T2 : qT) (v : Unit), w_run b_Md_work n (19, [.int v1], []) T = some (v, T2) → q_out (q_ev q_Mt D) q_mMd_work (19, [some (.ref (r + 0)), some (.int v1), e2, e3, e4, e5], [], layM r T) = some (.inl (none), layM r T2)) (ih_40 : ∀ (v1 : Int32) (e2 : Option Value) (e3 : Option Value) (e4 : Option Value) (e5 : Option Value) (T T2 : qT) (v : Unit), w_run b_Md_work n (40, [.int v1], []) T = some (v, T2) → q_out (q_ev q_Mt D) q_mMd_work (40, [some (.ref (r + 0)), some (.int v1), e2, e3, e4, e5], [], layM r T) = some (.inl (none), layM r T2)) (ih_103 : ∀ (v1 : Int32) (v2 : Int32) (v3 : Int32) (e4 : Option Value) (e5 : Option Value) (T T2 : qT) (v : Unit), w_run b_Md_work n (103, [.int v1, .int v2, .int v3], []) T = some (v, T2) → q_out (q_ev q_Mt D) q_mMd_work (103, [some (.ref (r + 0)), some (.int v1), some (.int v2), some (.int v3), e4, e5], [], layM r T) = some (.inl (none), layM r T2)) (ih_126 : ∀ (v1 : Int32) (v2 : Int32) (v3 : Int32) (e4 : Option Value) (e5 : Option Value) (T T2 : qT) (v : Unit), w_run b_Md_work n (126, [.int v1, .int v2, .int v3], []) T = some (v, T2) → q_out (q_ev q_Mt D) q_mMd_work (126, [some (.ref (r + 0)), some (.int v1), some (.int v2), some (.int v3), e4, e5], [], layM r T) = some (.inl (none), layM r T2)) (ih_274 : ∀ (v3 : Int32) (e1 : Option Value) (e2 : Option Value) (e4 : Option Value) (e5 : Option Value) (T T2 : qT) (v : Unit), w_run b_Md_work n (274, [.int v3], []) T = some (v, T2) → q_out (q_ev q_Mt D) q_mMd_work (274, [some (.ref (r + 0)), e1, e2, some (.int v3), e4, e5], [], layM r T) = some (.inl (none), layM r T2)) (v3 : Int32) (e1 : Option Value) (e2 : Option Value) (e4 : Option Value) (e5 : Option Value) (T T1 T2 : qT) (rr : qJ ⊕ Unit) (v : Unit) (h : k_Md_work_274 v3 T = some (rr, T1)) (hE : w_end b_Md_work n rr T1 = some (v, T2)) : q_out (q_ev q_Mt D) q_mMd_work (274, [some (.ref (r + 0)), e1, e2, some (.int v3), e4, e5], [], layM r T) = some (.inl (none), layM r T2) := by
  unfold k_Md_work_274 at h
  refine Eq.trans (o_iload_n d_Md_work_274 rfl) ?_
  refine Eq.trans (o_aload_n d_Md_work_275 rfl) ?_
  refine s_get d_Md_work_276 pF_Md_109 (zM_Md_length r) h (fun x1 h => ?_)
  refine s_icmp_ge (t := 317) d_Md_work_279 (by decide) h (fun h => ?_) (fun h => ?_)
  · exact s_vretJ d_Md_work_317 rfl h hE
  · refine Eq.trans (o_aload_n d_Md_work_282 rfl) ?_
    refine s_ref d_Md_work_283 pF_Md_82 (zM_Md_live r) ?_
    refine Eq.trans (o_iload_n d_Md_work_286 rfl) ?_
    refine Eq.trans (o_aload_n d_Md_work_287 rfl) ?_
    refine s_ref d_Md_work_288 pF_Md_85 (zM_Md_here r) ?_
    refine Eq.trans (o_iload_n d_Md_work_291 rfl) ?_
    refine s_zald d_Md_work_292 (rM_24 r) h (fun x2 h => ?_)
    refine s_if_eq (t := 309) d_Md_work_293 (by decide) h (fun h => ?_) (fun h => ?_)
    · refine Eq.trans (o_iconst (v := 0) d_Md_work_309 (by decide)) ?_
      refine s_zast d_Md_work_310 (rM_23 r) h (fun T h => ?_)
      refine Eq.trans (o_iinc (v := (v3 + 1)) (lo' := [some (.ref (r + 0)), e1, (q_dk e2), some (.int (v3 + 1)), e4, e5]) d_Md_work_311 rfl (by rw [show Int32.ofInt 1 = 1 from by decide]) (Nat.le_of_ble_eq_true rfl) ((q_st1_dk (j := 2) (Nat.le_of_ble_eq_true rfl)).trans rfl)) ?_
      refine Eq.trans (o_goto (t := 274) d_Md_work_314 (by decide)) ?_
      exact ih_274 _ _ _ _ _ _ _ _ (s_jump h hE)
    · refine Eq.trans (o_aload_n d_Md_work_296 rfl) ?_
      refine s_ref d_Md_work_297 pF_Md_58 (zM_Md_code r) ?_
      refine Eq.trans (o_iload_n d_Md_work_300 rfl) ?_
      refine s_iald d_Md_work_301 (rM_15 r) h (fun x3 h => ?_)
      refine s_if_ne (t := 309) d_Md_work_302 (by decide) h (fun h => ?_) (fun h => ?_)
      · refine Eq.trans (o_iconst (v := 0) d_Md_work_309 (by decide)) ?_
        refine s_zast d_Md_work_310 (rM_23 r) h (fun T h => ?_)
        refine Eq.trans (o_iinc (v := (v3 + 1)) (lo' := [some (.ref (r + 0)), e1, (q_dk e2), some (.int (v3 + 1)), e4, e5]) d_Md_work_311 rfl (by rw [show Int32.ofInt 1 = 1 from by decide]) (Nat.le_of_ble_eq_true rfl) ((q_st1_dk (j := 2) (Nat.le_of_ble_eq_true rfl)).trans rfl)) ?_
        refine Eq.trans (o_goto (t := 274) d_Md_work_314 (by decide)) ?_
        exact ih_274 _ _ _ _ _ _ _ _ (s_jump h hE)
      · refine Eq.trans (o_iconst (v := 1) d_Md_work_305 (by decide)) ?_
        refine Eq.trans (o_goto (t := 310) d_Md_work_306 (by decide)) ?_
        refine s_zast d_Md_work_310 (rM_23 r) h (fun T h => ?_)
        refine Eq.trans (o_iinc (v := (v3 + 1)) (lo' := [some (.ref (r + 0)), e1, (q_dk e2), some (.int (v3 + 1)), e4, e5]) d_Md_work_311 rfl (by rw [show Int32.ofInt 1 = 1 from by decide]) (Nat.le_of_ble_eq_true rfl) ((q_st1_dk (j := 2) (Nat.le_of_ble_eq_true rfl)).trans rfl)) ?_
        refine Eq.trans (o_goto (t := 274) d_Md_work_314 (by decide)) ?_
        exact ih_274 _ _ _ _ _ _ _ _ (s_jump h hE)
set_option maxRecDepth 100000 in
set_option maxHeartbeats 4000000 in
theorem c_Md_work_253 (D : Nat) (hD : 4 ≤ D) (r : Nat) (n : Nat) (ih_19 : ∀ (v1 : Int32) (e2 : Option Value) (e3 : Option Value) (e4 : Option Value) (e5 : Option Value) (T T2 : qT) (v : Unit), w_run b_Md_work n (19, [.int v1], []) T = some (v, T2) → q_out (q_ev q_Mt D) q_mMd_work (19, [some (.ref (r + 0)), some (.int v1), e2, e3, e4, e5], [], layM r T) = some (.inl (none), layM r T2)) (ih_40 : ∀ (v1 : Int32) (e2 : Option Value) (e3 : Option Value) (e4 : Option Value) (e5 : Option Value) (T T2 : qT) (v : Unit), w_run b_Md_work n (40, [.int v1], []) T = some (v, T2) → q_out (q_ev q_Mt D) q_mMd_work (40, [some (.ref (r + 0)), some (.int v1), e2, e3, e4, e5], [], layM r T) = some (.inl (none), layM r T2)) (ih_103 : ∀ (v1 : Int32) (v2 : Int32) (v3 : Int32) (e4 : Option Value) (e5 : Option Value) (T T2 : qT) (v : Unit), w_run b_Md_work n (103, [.int v1, .int v2, .int v3], []) T = some (v, T2) → q_out (q_ev q_Mt D) q_mMd_work (103, [some (.ref (r + 0)), some (.int v1), some (.int v2), some (.int v3), e4, e5], [], layM r T) = some (.inl (none), layM r T2)) (ih_126 : ∀ (v1 : Int32) (v2 : Int32) (v3 : Int32) (e4 : Option Value) (e5 : Option Value) (T T2 : qT) (v : Unit), w_run b_Md_work n (126, [.int v1, .int v2, .int v3], []) T = some (v, T2) → q_out (q_ev q_Mt D) q_mMd_work (126, [some (.ref (r + 0)), some (.int v1), some (.int v2), some (.int v3), e4, e5], [], layM r T) = some (.inl (none), layM r T2)) (ih_274 : ∀ (v3 : Int32) (e1 : Option Value) (e2 : Option Value) (e4 : Option Value) (e5 : Option Value) (T T2 : qT) (v : Unit), w_run b_Md_work n (274, [.int v3], []) T = some (v, T2) → q_out (q_ev q_Mt D) q_mMd_work (274, [some (.ref (r + 0)), e1, e2, some (.int v3), e4, e5], [], layM r T) = some (.inl (none), layM r T2)) (v1 : Int32) (v2 : Int32) (v3 : Int32) (e4 : Option Value) (e5 : Option Value) (T T1 T2 : qT) (rr : qJ ⊕ Unit) (v : Unit) (h : k_Md_work_253 v1 v2 v3 T = some (rr, T1)) (hE : w_end b_Md_work n rr T1 = some (v, T2)) : q_out (q_ev q_Mt D) q_mMd_work (253, [some (.ref (r + 0)), some (.int v1), some (.int v2), some (.int v3), e4, e5], [], layM r T) = some (.inl (none), layM r T2) := by
  unfold k_Md_work_253 at h
  refine Eq.trans (o_iload_n d_Md_work_253 rfl) ?_
  refine Eq.trans (o_aload_n d_Md_work_254 rfl) ?_
  refine s_get d_Md_work_255 pF_Md_222 (zM_Md_fed r) h (fun x1 h => ?_)
  refine s_icmp_ge (t := 266) d_Md_work_258 (by decide) h (fun h => ?_) (fun h => ?_)
  · refine Eq.trans (o_iinc (v := (v3 + 1)) (lo' := [some (.ref (r + 0)), some (.int v1), some (.int v2), some (.int (v3 + 1)), e4, e5]) d_Md_work_266 rfl (by rw [show Int32.ofInt 1 = 1 from by decide]) (Nat.le_of_ble_eq_true rfl) rfl) ?_
    refine Eq.trans (o_goto (t := 126) d_Md_work_269 (by decide)) ?_
    exact ih_126 _ _ _ _ _ _ _ _ (s_jump h hE)
  · refine Eq.trans (o_aload_n d_Md_work_261 rfl) ?_
    refine Eq.trans (o_iload_n d_Md_work_262 rfl) ?_
    obtain ⟨u9, T2, h1, h⟩ := w_C_of h
    refine s_cV1v d_Md_work_263 pM_Md_259 (Nat.le_of_ble_eq_true rfl) (obM_0 r) (c_Md_step D (by omega) r _ _ _ _ h1) ?_
    replace h1 := trivial; revert h; generalize T2 = T; intro h
    refine Eq.trans (o_iinc (v := (v3 + 1)) (lo' := [some (.ref (r + 0)), some (.int v1), some (.int v2), some (.int (v3 + 1)), e4, e5]) d_Md_work_266 rfl (by rw [show Int32.ofInt 1 = 1 from by decide]) (Nat.le_of_ble_eq_true rfl) rfl) ?_
    refine Eq.trans (o_goto (t := 126) d_Md_work_269 (by decide)) ?_
    exact ih_126 _ _ _ _ _ _ _ _ (s_jump h hE)
set_option maxRecDepth 100000 in
set_option maxHeartbeats 4000000 in
theorem c_Md_work_252 (D : Nat) (hD : 4 ≤ D) (r : Nat) (n : Nat) (ih_19 : ∀ (v1 : Int32) (e2 : Option Value) (e3 : Option Value) (e4 : Option Value) (e5 : Option Value) (T T2 : qT) (v : Unit), w_run b_Md_work n (19, [.int v1], []) T = some (v, T2) → q_out (q_ev q_Mt D) q_mMd_work (19, [some (.ref (r + 0)), some (.int v1), e2, e3, e4, e5], [], layM r T) = some (.inl (none), layM r T2)) (ih_40 : ∀ (v1 : Int32) (e2 : Option Value) (e3 : Option Value) (e4 : Option Value) (e5 : Option Value) (T T2 : qT) (v : Unit), w_run b_Md_work n (40, [.int v1], []) T = some (v, T2) → q_out (q_ev q_Mt D) q_mMd_work (40, [some (.ref (r + 0)), some (.int v1), e2, e3, e4, e5], [], layM r T) = some (.inl (none), layM r T2)) (ih_103 : ∀ (v1 : Int32) (v2 : Int32) (v3 : Int32) (e4 : Option Value) (e5 : Option Value) (T T2 : qT) (v : Unit), w_run b_Md_work n (103, [.int v1, .int v2, .int v3], []) T = some (v, T2) → q_out (q_ev q_Mt D) q_mMd_work (103, [some (.ref (r + 0)), some (.int v1), some (.int v2), some (.int v3), e4, e5], [], layM r T) = some (.inl (none), layM r T2)) (ih_126 : ∀ (v1 : Int32) (v2 : Int32) (v3 : Int32) (e4 : Option Value) (e5 : Option Value) (T T2 : qT) (v : Unit), w_run b_Md_work n (126, [.int v1, .int v2, .int v3], []) T = some (v, T2) → q_out (q_ev q_Mt D) q_mMd_work (126, [some (.ref (r + 0)), some (.int v1), some (.int v2), some (.int v3), e4, e5], [], layM r T) = some (.inl (none), layM r T2)) (ih_274 : ∀ (v3 : Int32) (e1 : Option Value) (e2 : Option Value) (e4 : Option Value) (e5 : Option Value) (T T2 : qT) (v : Unit), w_run b_Md_work n (274, [.int v3], []) T = some (v, T2) → q_out (q_ev q_Mt D) q_mMd_work (274, [some (.ref (r + 0)), e1, e2, some (.int v3), e4, e5], [], layM r T) = some (.inl (none), layM r T2)) (v1 : Int32) (v3 : Int32) (s0 : Int32) (e2 : Option Value) (e4 : Option Value) (e5 : Option Value) (T T1 T2 : qT) (rr : qJ ⊕ Unit) (v : Unit) (h : k_Md_work_252 v1 v3 s0 T = some (rr, T1)) (hE : w_end b_Md_work n rr T1 = some (v, T2)) : q_out (q_ev q_Mt D) q_mMd_work (252, [some (.ref (r + 0)), some (.int v1), e2, some (.int v3), e4, e5], [.int s0], layM r T) = some (.inl (none), layM r T2) := by
  unfold k_Md_work_252 at h
  refine Eq.trans (o_istore_n (lo' := [some (.ref (r + 0)), some (.int v1), some (.int s0), some (.int v3), e4, e5]) d_Md_work_252 (Nat.le_of_ble_eq_true rfl) rfl) ?_
  exact c_Md_work_253 D hD r n ih_19 ih_40 ih_103 ih_126 ih_274 _ _ _ _ _ _ _ _ _ _ h hE
set_option maxRecDepth 100000 in
set_option maxHeartbeats 4000000 in
theorem c_Md_work_214 (D : Nat) (hD : 4 ≤ D) (r : Nat) (n : Nat) (ih_19 : ∀ (v1 : Int32) (e2 : Option Value) (e3 : Option Value) (e4 : Option Value) (e5 : Option Value) (T T2 : qT) (v : Unit), w_run b_Md_work n (19, [.int v1], []) T = some (v, T2) → q_out (q_ev q_Mt D) q_mMd_work (19, [some (.ref (r + 0)), some (.int v1), e2, e3, e4, e5], [], layM r T) = some (.inl (none), layM r T2)) (ih_40 : ∀ (v1 : Int32) (e2 : Option Value) (e3 : Option Value) (e4 : Option Value) (e5 : Option Value) (T T2 : qT) (v : Unit), w_run b_Md_work n (40, [.int v1], []) T = some (v, T2) → q_out (q_ev q_Mt D) q_mMd_work (40, [some (.ref (r + 0)), some (.int v1), e2, e3, e4, e5], [], layM r T) = some (.inl (none), layM r T2)) (ih_103 : ∀ (v1 : Int32) (v2 : Int32) (v3 : Int32) (e4 : Option Value) (e5 : Option Value) (T T2 : qT) (v : Unit), w_run b_Md_work n (103, [.int v1, .int v2, .int v3], []) T = some (v, T2) → q_out (q_ev q_Mt D) q_mMd_work (103, [some (.ref (r + 0)), some (.int v1), some (.int v2), some (.int v3), e4, e5], [], layM r T) = some (.inl (none), layM r T2)) (ih_126 : ∀ (v1 : Int32) (v2 : Int32) (v3 : Int32) (e4 : Option Value) (e5 : Option Value) (T T2 : qT) (v : Unit), w_run b_Md_work n (126, [.int v1, .int v2, .int v3], []) T = some (v, T2) → q_out (q_ev q_Mt D) q_mMd_work (126, [some (.ref (r + 0)), some (.int v1), some (.int v2), some (.int v3), e4, e5], [], layM r T) = some (.inl (none), layM r T2)) (ih_274 : ∀ (v3 : Int32) (e1 : Option Value) (e2 : Option Value) (e4 : Option Value) (e5 : Option Value) (T T2 : qT) (v : Unit), w_run b_Md_work n (274, [.int v3], []) T = some (v, T2) → q_out (q_ev q_Mt D) q_mMd_work (274, [some (.ref (r + 0)), e1, e2, some (.int v3), e4, e5], [], layM r T) = some (.inl (none), layM r T2)) (v1 : Int32) (v3 : Int32) (s0 : Int32) (e2 : Option Value) (e4 : Option Value) (e5 : Option Value) (T T1 T2 : qT) (rr : qJ ⊕ Unit) (v : Unit) (h : k_Md_work_214 v1 v3 s0 T = some (rr, T1)) (hE : w_end b_Md_work n rr T1 = some (v, T2)) : q_out (q_ev q_Mt D) q_mMd_work (214, [some (.ref (r + 0)), some (.int v1), e2, some (.int v3), e4, e5], [.int s0], layM r T) = some (.inl (none), layM r T2) := by
  unfold k_Md_work_214 at h
  refine Eq.trans (o_istore_n (lo' := [some (.ref (r + 0)), some (.int v1), some (.int s0), some (.int v3), e4, e5]) d_Md_work_214 (Nat.le_of_ble_eq_true rfl) rfl) ?_
  refine Eq.trans (o_iload_n d_Md_work_215 rfl) ?_
  refine s_if_lt (t := 253) d_Md_work_216 (by decide) h (fun h => ?_) (fun h => ?_)
  · exact c_Md_work_253 D hD r n ih_19 ih_40 ih_103 ih_126 ih_274 _ _ _ _ _ _ _ _ _ _ h hE
  · refine Eq.trans (o_aload_n d_Md_work_219 rfl) ?_
    refine Eq.trans (o_iload_n d_Md_work_220 rfl) ?_
    refine Eq.trans (o_iload_n d_Md_work_221 rfl) ?_
    obtain ⟨x1, T2, h1, h⟩ := w_C_of h
    refine s_cV2i d_Md_work_222 pM_Md_253 (Nat.le_of_ble_eq_true rfl) (obM_0 r) (c_Md_choose D (by omega) r _ _ _ _ _ h1) ?_
    replace h1 := trivial; revert h; generalize T2 = T; intro h
    refine Eq.trans (o_istore (lo' := [some (.ref (r + 0)), some (.int v1), some (.int s0), some (.int v3), (q_dk e4), some (.int x1)]) d_Md_work_225 (Nat.le_of_ble_eq_true rfl) ((q_st1_dk (j := 4) (Nat.le_of_ble_eq_true rfl)).trans rfl)) ?_
    refine Eq.trans (o_aload_n d_Md_work_227 rfl) ?_
    refine Eq.trans (o_iload d_Md_work_228 rfl) ?_
    refine Eq.trans (o_iload_n d_Md_work_230 rfl) ?_
    obtain ⟨u9, T2, h1, h⟩ := w_C_of h
    refine s_cV2v d_Md_work_231 pM_Md_256 (Nat.le_of_ble_eq_true rfl) (obM_0 r) (c_Md_setMarks D (by omega) r _ _ _ _ _ h1) ?_
    replace h1 := trivial; revert h; generalize T2 = T; intro h
    refine Eq.trans (o_aload_n d_Md_work_234 rfl) ?_
    refine s_ref d_Md_work_235 pF_Md_58 (zM_Md_code r) ?_
    refine Eq.trans (o_iload d_Md_work_238 rfl) ?_
    refine s_iald d_Md_work_240 (rM_15 r) h (fun x2 h => ?_)
    refine s_if_ne (t := 251) d_Md_work_241 (by decide) h (fun h => ?_) (fun h => ?_)
    · refine Eq.trans (o_iconst (v := (-1)) d_Md_work_251 (by decide)) ?_
      exact c_Md_work_252 D hD r n ih_19 ih_40 ih_103 ih_126 ih_274 _ _ _ _ _ _ _ _ _ _ _ h hE
    · refine Eq.trans (o_iload d_Md_work_244 rfl) ?_
      refine Eq.trans (o_iconst (v := 1) d_Md_work_246 (by decide)) ?_
      refine Eq.trans (o_iadd d_Md_work_247) ?_
      refine Eq.trans (o_goto (t := 252) d_Md_work_248 (by decide)) ?_
      exact c_Md_work_252 D hD r n ih_19 ih_40 ih_103 ih_126 ih_274 _ _ _ _ _ _ _ _ _ _ _ h hE
set_option maxRecDepth 100000 in
set_option maxHeartbeats 4000000 in
theorem c_Md_work_213 (D : Nat) (hD : 4 ≤ D) (r : Nat) (n : Nat) (ih_19 : ∀ (v1 : Int32) (e2 : Option Value) (e3 : Option Value) (e4 : Option Value) (e5 : Option Value) (T T2 : qT) (v : Unit), w_run b_Md_work n (19, [.int v1], []) T = some (v, T2) → q_out (q_ev q_Mt D) q_mMd_work (19, [some (.ref (r + 0)), some (.int v1), e2, e3, e4, e5], [], layM r T) = some (.inl (none), layM r T2)) (ih_40 : ∀ (v1 : Int32) (e2 : Option Value) (e3 : Option Value) (e4 : Option Value) (e5 : Option Value) (T T2 : qT) (v : Unit), w_run b_Md_work n (40, [.int v1], []) T = some (v, T2) → q_out (q_ev q_Mt D) q_mMd_work (40, [some (.ref (r + 0)), some (.int v1), e2, e3, e4, e5], [], layM r T) = some (.inl (none), layM r T2)) (ih_103 : ∀ (v1 : Int32) (v2 : Int32) (v3 : Int32) (e4 : Option Value) (e5 : Option Value) (T T2 : qT) (v : Unit), w_run b_Md_work n (103, [.int v1, .int v2, .int v3], []) T = some (v, T2) → q_out (q_ev q_Mt D) q_mMd_work (103, [some (.ref (r + 0)), some (.int v1), some (.int v2), some (.int v3), e4, e5], [], layM r T) = some (.inl (none), layM r T2)) (ih_126 : ∀ (v1 : Int32) (v2 : Int32) (v3 : Int32) (e4 : Option Value) (e5 : Option Value) (T T2 : qT) (v : Unit), w_run b_Md_work n (126, [.int v1, .int v2, .int v3], []) T = some (v, T2) → q_out (q_ev q_Mt D) q_mMd_work (126, [some (.ref (r + 0)), some (.int v1), some (.int v2), some (.int v3), e4, e5], [], layM r T) = some (.inl (none), layM r T2)) (ih_274 : ∀ (v3 : Int32) (e1 : Option Value) (e2 : Option Value) (e4 : Option Value) (e5 : Option Value) (T T2 : qT) (v : Unit), w_run b_Md_work n (274, [.int v3], []) T = some (v, T2) → q_out (q_ev q_Mt D) q_mMd_work (274, [some (.ref (r + 0)), e1, e2, some (.int v3), e4, e5], [], layM r T) = some (.inl (none), layM r T2)) (v1 : Int32) (v2 : Int32) (v3 : Int32) (e4 : Option Value) (e5 : Option Value) (T T1 T2 : qT) (rr : qJ ⊕ Unit) (v : Unit) (h : k_Md_work_213 v1 v2 v3 T = some (rr, T1)) (hE : w_end b_Md_work n rr T1 = some (v, T2)) : q_out (q_ev q_Mt D) q_mMd_work (213, [some (.ref (r + 0)), some (.int v1), some (.int v2), some (.int v3), e4, e5], [], layM r T) = some (.inl (none), layM r T2) := by
  unfold k_Md_work_213 at h
  refine Eq.trans (o_iload_n d_Md_work_213 rfl) ?_
  exact c_Md_work_214 D hD r n ih_19 ih_40 ih_103 ih_126 ih_274 _ _ _ _ _ _ _ _ _ _ _ h hE
set_option maxRecDepth 100000 in
set_option maxHeartbeats 4000000 in
theorem c_Md_work_206 (D : Nat) (hD : 4 ≤ D) (r : Nat) (n : Nat) (ih_19 : ∀ (v1 : Int32) (e2 : Option Value) (e3 : Option Value) (e4 : Option Value) (e5 : Option Value) (T T2 : qT) (v : Unit), w_run b_Md_work n (19, [.int v1], []) T = some (v, T2) → q_out (q_ev q_Mt D) q_mMd_work (19, [some (.ref (r + 0)), some (.int v1), e2, e3, e4, e5], [], layM r T) = some (.inl (none), layM r T2)) (ih_40 : ∀ (v1 : Int32) (e2 : Option Value) (e3 : Option Value) (e4 : Option Value) (e5 : Option Value) (T T2 : qT) (v : Unit), w_run b_Md_work n (40, [.int v1], []) T = some (v, T2) → q_out (q_ev q_Mt D) q_mMd_work (40, [some (.ref (r + 0)), some (.int v1), e2, e3, e4, e5], [], layM r T) = some (.inl (none), layM r T2)) (ih_103 : ∀ (v1 : Int32) (v2 : Int32) (v3 : Int32) (e4 : Option Value) (e5 : Option Value) (T T2 : qT) (v : Unit), w_run b_Md_work n (103, [.int v1, .int v2, .int v3], []) T = some (v, T2) → q_out (q_ev q_Mt D) q_mMd_work (103, [some (.ref (r + 0)), some (.int v1), some (.int v2), some (.int v3), e4, e5], [], layM r T) = some (.inl (none), layM r T2)) (ih_126 : ∀ (v1 : Int32) (v2 : Int32) (v3 : Int32) (e4 : Option Value) (e5 : Option Value) (T T2 : qT) (v : Unit), w_run b_Md_work n (126, [.int v1, .int v2, .int v3], []) T = some (v, T2) → q_out (q_ev q_Mt D) q_mMd_work (126, [some (.ref (r + 0)), some (.int v1), some (.int v2), some (.int v3), e4, e5], [], layM r T) = some (.inl (none), layM r T2)) (ih_274 : ∀ (v3 : Int32) (e1 : Option Value) (e2 : Option Value) (e4 : Option Value) (e5 : Option Value) (T T2 : qT) (v : Unit), w_run b_Md_work n (274, [.int v3], []) T = some (v, T2) → q_out (q_ev q_Mt D) q_mMd_work (274, [some (.ref (r + 0)), e1, e2, some (.int v3), e4, e5], [], layM r T) = some (.inl (none), layM r T2)) (v1 : Int32) (v2 : Int32) (v3 : Int32) (s0 : Int32) (s1 : Int32) (e4 : Option Value) (e5 : Option Value) (T T1 T2 : qT) (rr : qJ ⊕ Unit) (v : Unit) (h : k_Md_work_206 v1 v2 v3 s0 s1 T = some (rr, T1)) (hE : w_end b_Md_work n rr T1 = some (v, T2)) : q_out (q_ev q_Mt D) q_mMd_work (206, [some (.ref (r + 0)), some (.int v1), some (.int v2), some (.int v3), e4, e5], [.int s0, .int s1], layM r T) = some (.inl (none), layM r T2) := by
  unfold k_Md_work_206 at h
  refine s_icmp_ne (t := 213) d_Md_work_206 (by decide) h (fun h => ?_) (fun h => ?_)
  · exact c_Md_work_213 D hD r n ih_19 ih_40 ih_103 ih_126 ih_274 _ _ _ _ _ _ _ _ _ _ h hE
  · refine Eq.trans (o_iconst (v := 0) d_Md_work_209 (by decide)) ?_
    refine Eq.trans (o_goto (t := 214) d_Md_work_210 (by decide)) ?_
    exact c_Md_work_214 D hD r n ih_19 ih_40 ih_103 ih_126 ih_274 _ _ _ _ _ _ _ _ _ _ _ h hE
set_option maxRecDepth 100000 in
set_option maxHeartbeats 4000000 in
theorem c_Md_work_186 (D : Nat) (hD : 4 ≤ D) (r : Nat) (n : Nat) (ih_19 : ∀ (v1 : Int32) (e2 : Option Value) (e3 : Option Value) (e4 : Option Value) (e5 : Option Value) (T T2 : qT) (v : Unit), w_run b_Md_work n (19, [.int v1], []) T = some (v, T2) → q_out (q_ev q_Mt D) q_mMd_work (19, [some (.ref (r + 0)), some (.int v1), e2, e3, e4, e5], [], layM r T) = some (.inl (none), layM r T2)) (ih_40 : ∀ (v1 : Int32) (e2 : Option Value) (e3 : Option Value) (e4 : Option Value) (e5 : Option Value) (T T2 : qT) (v : Unit), w_run b_Md_work n (40, [.int v1], []) T = some (v, T2) → q_out (q_ev q_Mt D) q_mMd_work (40, [some (.ref (r + 0)), some (.int v1), e2, e3, e4, e5], [], layM r T) = some (.inl (none), layM r T2)) (ih_103 : ∀ (v1 : Int32) (v2 : Int32) (v3 : Int32) (e4 : Option Value) (e5 : Option Value) (T T2 : qT) (v : Unit), w_run b_Md_work n (103, [.int v1, .int v2, .int v3], []) T = some (v, T2) → q_out (q_ev q_Mt D) q_mMd_work (103, [some (.ref (r + 0)), some (.int v1), some (.int v2), some (.int v3), e4, e5], [], layM r T) = some (.inl (none), layM r T2)) (ih_126 : ∀ (v1 : Int32) (v2 : Int32) (v3 : Int32) (e4 : Option Value) (e5 : Option Value) (T T2 : qT) (v : Unit), w_run b_Md_work n (126, [.int v1, .int v2, .int v3], []) T = some (v, T2) → q_out (q_ev q_Mt D) q_mMd_work (126, [some (.ref (r + 0)), some (.int v1), some (.int v2), some (.int v3), e4, e5], [], layM r T) = some (.inl (none), layM r T2)) (ih_274 : ∀ (v3 : Int32) (e1 : Option Value) (e2 : Option Value) (e4 : Option Value) (e5 : Option Value) (T T2 : qT) (v : Unit), w_run b_Md_work n (274, [.int v3], []) T = some (v, T2) → q_out (q_ev q_Mt D) q_mMd_work (274, [some (.ref (r + 0)), e1, e2, some (.int v3), e4, e5], [], layM r T) = some (.inl (none), layM r T2)) (v1 : Int32) (v2 : Int32) (v3 : Int32) (e4 : Option Value) (e5 : Option Value) (T T1 T2 : qT) (rr : qJ ⊕ Unit) (v : Unit) (h : k_Md_work_186 v1 v2 v3 T = some (rr, T1)) (hE : w_end b_Md_work n rr T1 = some (v, T2)) : q_out (q_ev q_Mt D) q_mMd_work (186, [some (.ref (r + 0)), some (.int v1), some (.int v2), some (.int v3), e4, e5], [], layM r T) = some (.inl (none), layM r T2) := by
  unfold k_Md_work_186 at h
  refine Eq.trans (o_aload_n d_Md_work_186 rfl) ?_
  refine s_get d_Md_work_187 pF_Md_246 (zM_Md_matched r) h (fun x1 h => ?_)
  refine s_if_eq (t := 213) d_Md_work_190 (by decide) h (fun h => ?_) (fun h => ?_)
  · exact c_Md_work_213 D hD r n ih_19 ih_40 ih_103 ih_126 ih_274 _ _ _ _ _ _ _ _ _ _ h hE
  · refine Eq.trans (o_iload_n d_Md_work_193 rfl) ?_
    refine Eq.trans (o_aload_n d_Md_work_194 rfl) ?_
    refine s_get d_Md_work_195 pF_Md_219 (zM_Md_search r) h (fun x2 h => ?_)
    refine s_if_eq (t := 205) d_Md_work_198 (by decide) h (fun h => ?_) (fun h => ?_)
    · refine Eq.trans (o_iconst (v := 0) d_Md_work_205 (by decide)) ?_
      exact c_Md_work_206 D hD r n ih_19 ih_40 ih_103 ih_126 ih_274 _ _ _ _ _ _ _ _ _ _ _ _ h hE
    · refine Eq.trans (o_iload_n d_Md_work_201 rfl) ?_
      refine Eq.trans (o_goto (t := 206) d_Md_work_202 (by decide)) ?_
      exact c_Md_work_206 D hD r n ih_19 ih_40 ih_103 ih_126 ih_274 _ _ _ _ _ _ _ _ _ _ _ _ h hE
set_option maxRecDepth 100000 in
set_option maxHeartbeats 4000000 in
theorem c_Md_work_170 (D : Nat) (hD : 4 ≤ D) (r : Nat) (n : Nat) (ih_19 : ∀ (v1 : Int32) (e2 : Option Value) (e3 : Option Value) (e4 : Option Value) (e5 : Option Value) (T T2 : qT) (v : Unit), w_run b_Md_work n (19, [.int v1], []) T = some (v, T2) → q_out (q_ev q_Mt D) q_mMd_work (19, [some (.ref (r + 0)), some (.int v1), e2, e3, e4, e5], [], layM r T) = some (.inl (none), layM r T2)) (ih_40 : ∀ (v1 : Int32) (e2 : Option Value) (e3 : Option Value) (e4 : Option Value) (e5 : Option Value) (T T2 : qT) (v : Unit), w_run b_Md_work n (40, [.int v1], []) T = some (v, T2) → q_out (q_ev q_Mt D) q_mMd_work (40, [some (.ref (r + 0)), some (.int v1), e2, e3, e4, e5], [], layM r T) = some (.inl (none), layM r T2)) (ih_103 : ∀ (v1 : Int32) (v2 : Int32) (v3 : Int32) (e4 : Option Value) (e5 : Option Value) (T T2 : qT) (v : Unit), w_run b_Md_work n (103, [.int v1, .int v2, .int v3], []) T = some (v, T2) → q_out (q_ev q_Mt D) q_mMd_work (103, [some (.ref (r + 0)), some (.int v1), some (.int v2), some (.int v3), e4, e5], [], layM r T) = some (.inl (none), layM r T2)) (ih_126 : ∀ (v1 : Int32) (v2 : Int32) (v3 : Int32) (e4 : Option Value) (e5 : Option Value) (T T2 : qT) (v : Unit), w_run b_Md_work n (126, [.int v1, .int v2, .int v3], []) T = some (v, T2) → q_out (q_ev q_Mt D) q_mMd_work (126, [some (.ref (r + 0)), some (.int v1), some (.int v2), some (.int v3), e4, e5], [], layM r T) = some (.inl (none), layM r T2)) (ih_274 : ∀ (v3 : Int32) (e1 : Option Value) (e2 : Option Value) (e4 : Option Value) (e5 : Option Value) (T T2 : qT) (v : Unit), w_run b_Md_work n (274, [.int v3], []) T = some (v, T2) → q_out (q_ev q_Mt D) q_mMd_work (274, [some (.ref (r + 0)), e1, e2, some (.int v3), e4, e5], [], layM r T) = some (.inl (none), layM r T2)) (v1 : Int32) (v2 : Int32) (v3 : Int32) (s0 : Int32) (e4 : Option Value) (e5 : Option Value) (T T1 T2 : qT) (rr : qJ ⊕ Unit) (v : Unit) (h : k_Md_work_170 v1 v2 v3 s0 T = some (rr, T1)) (hE : w_end b_Md_work n rr T1 = some (v, T2)) : q_out (q_ev q_Mt D) q_mMd_work (170, [some (.ref (r + 0)), some (.int v1), some (.int v2), some (.int v3), e4, e5], [.int s0], layM r T) = some (.inl (none), layM r T2) := by
  unfold k_Md_work_170 at h
  refine Eq.trans (o_istore (lo' := [some (.ref (r + 0)), some (.int v1), some (.int v2), some (.int v3), some (.int s0), e5]) d_Md_work_170 (Nat.le_of_ble_eq_true rfl) rfl) ?_
  refine Eq.trans (o_iload d_Md_work_172 rfl) ?_
  refine s_if_eq (t := 186) d_Md_work_174 (by decide) h (fun h => ?_) (fun h => ?_)
  · exact c_Md_work_186 D hD r n ih_19 ih_40 ih_103 ih_126 ih_274 _ _ _ _ _ _ _ _ _ _ h hE
  · refine Eq.trans (o_aload_n d_Md_work_177 rfl) ?_
    refine Eq.trans (o_aload_n d_Md_work_178 rfl) ?_
    refine s_ref d_Md_work_179 pF_Md_85 (zM_Md_here r) ?_
    refine Eq.trans (o_iconst (v := 0) d_Md_work_182 (by decide)) ?_
    obtain ⟨u9, T2, h1, h⟩ := w_C_of h
    refine s_cV2v d_Md_work_183 pM_Md_249 (Nat.le_of_ble_eq_true rfl) (obM_0 r) (c_Md_spreadH D (by omega) r _ _ _ _ h1) ?_
    replace h1 := trivial; revert h; generalize T2 = T; intro h
    exact c_Md_work_186 D hD r n ih_19 ih_40 ih_103 ih_126 ih_274 _ _ _ _ _ _ _ _ _ _ h hE
set_option maxRecDepth 100000 in
set_option maxHeartbeats 4000000 in
theorem c_Md_work_153 (D : Nat) (hD : 4 ≤ D) (r : Nat) (n : Nat) (ih_19 : ∀ (v1 : Int32) (e2 : Option Value) (e3 : Option Value) (e4 : Option Value) (e5 : Option Value) (T T2 : qT) (v : Unit), w_run b_Md_work n (19, [.int v1], []) T = some (v, T2) → q_out (q_ev q_Mt D) q_mMd_work (19, [some (.ref (r + 0)), some (.int v1), e2, e3, e4, e5], [], layM r T) = some (.inl (none), layM r T2)) (ih_40 : ∀ (v1 : Int32) (e2 : Option Value) (e3 : Option Value) (e4 : Option Value) (e5 : Option Value) (T T2 : qT) (v : Unit), w_run b_Md_work n (40, [.int v1], []) T = some (v, T2) → q_out (q_ev q_Mt D) q_mMd_work (40, [some (.ref (r + 0)), some (.int v1), e2, e3, e4, e5], [], layM r T) = some (.inl (none), layM r T2)) (ih_103 : ∀ (v1 : Int32) (v2 : Int32) (v3 : Int32) (e4 : Option Value) (e5 : Option Value) (T T2 : qT) (v : Unit), w_run b_Md_work n (103, [.int v1, .int v2, .int v3], []) T = some (v, T2) → q_out (q_ev q_Mt D) q_mMd_work (103, [some (.ref (r + 0)), some (.int v1), some (.int v2), some (.int v3), e4, e5], [], layM r T) = some (.inl (none), layM r T2)) (ih_126 : ∀ (v1 : Int32) (v2 : Int32) (v3 : Int32) (e4 : Option Value) (e5 : Option Value) (T T2 : qT) (v : Unit), w_run b_Md_work n (126, [.int v1, .int v2, .int v3], []) T = some (v, T2) → q_out (q_ev q_Mt D) q_mMd_work (126, [some (.ref (r + 0)), some (.int v1), some (.int v2), some (.int v3), e4, e5], [], layM r T) = some (.inl (none), layM r T2)) (ih_274 : ∀ (v3 : Int32) (e1 : Option Value) (e2 : Option Value) (e4 : Option Value) (e5 : Option Value) (T T2 : qT) (v : Unit), w_run b_Md_work n (274, [.int v3], []) T = some (v, T2) → q_out (q_ev q_Mt D) q_mMd_work (274, [some (.ref (r + 0)), e1, e2, some (.int v3), e4, e5], [], layM r T) = some (.inl (none), layM r T2)) (v1 : Int32) (v2 : Int32) (v3 : Int32) (e4 : Option Value) (e5 : Option Value) (T T1 T2 : qT) (rr : qJ ⊕ Unit) (v : Unit) (h : k_Md_work_153 v1 v2 v3 T = some (rr, T1)) (hE : w_end b_Md_work n rr T1 = some (v, T2)) : q_out (q_ev q_Mt D) q_mMd_work (153, [some (.ref (r + 0)), some (.int v1), some (.int v2), some (.int v3), e4, e5], [], layM r T) = some (.inl (none), layM r T2) := by
  unfold k_Md_work_153 at h
  refine Eq.trans (o_iconst (v := 1) d_Md_work_153 (by decide)) ?_
  refine Eq.trans (o_goto (t := 170) d_Md_work_154 (by decide)) ?_
  exact c_Md_work_170 D hD r n ih_19 ih_40 ih_103 ih_126 ih_274 _ _ _ _ _ _ _ _ _ _ _ h hE
set_option maxRecDepth 100000 in
set_option maxHeartbeats 4000000 in
theorem c_Md_work_126 (D : Nat) (hD : 4 ≤ D) (r : Nat) (n : Nat) (ih_19 : ∀ (v1 : Int32) (e2 : Option Value) (e3 : Option Value) (e4 : Option Value) (e5 : Option Value) (T T2 : qT) (v : Unit), w_run b_Md_work n (19, [.int v1], []) T = some (v, T2) → q_out (q_ev q_Mt D) q_mMd_work (19, [some (.ref (r + 0)), some (.int v1), e2, e3, e4, e5], [], layM r T) = some (.inl (none), layM r T2)) (ih_40 : ∀ (v1 : Int32) (e2 : Option Value) (e3 : Option Value) (e4 : Option Value) (e5 : Option Value) (T T2 : qT) (v : Unit), w_run b_Md_work n (40, [.int v1], []) T = some (v, T2) → q_out (q_ev q_Mt D) q_mMd_work (40, [some (.ref (r + 0)), some (.int v1), e2, e3, e4, e5], [], layM r T) = some (.inl (none), layM r T2)) (ih_103 : ∀ (v1 : Int32) (v2 : Int32) (v3 : Int32) (e4 : Option Value) (e5 : Option Value) (T T2 : qT) (v : Unit), w_run b_Md_work n (103, [.int v1, .int v2, .int v3], []) T = some (v, T2) → q_out (q_ev q_Mt D) q_mMd_work (103, [some (.ref (r + 0)), some (.int v1), some (.int v2), some (.int v3), e4, e5], [], layM r T) = some (.inl (none), layM r T2)) (ih_126 : ∀ (v1 : Int32) (v2 : Int32) (v3 : Int32) (e4 : Option Value) (e5 : Option Value) (T T2 : qT) (v : Unit), w_run b_Md_work n (126, [.int v1, .int v2, .int v3], []) T = some (v, T2) → q_out (q_ev q_Mt D) q_mMd_work (126, [some (.ref (r + 0)), some (.int v1), some (.int v2), some (.int v3), e4, e5], [], layM r T) = some (.inl (none), layM r T2)) (ih_274 : ∀ (v3 : Int32) (e1 : Option Value) (e2 : Option Value) (e4 : Option Value) (e5 : Option Value) (T T2 : qT) (v : Unit), w_run b_Md_work n (274, [.int v3], []) T = some (v, T2) → q_out (q_ev q_Mt D) q_mMd_work (274, [some (.ref (r + 0)), e1, e2, some (.int v3), e4, e5], [], layM r T) = some (.inl (none), layM r T2)) (v1 : Int32) (v2 : Int32) (v3 : Int32) (e4 : Option Value) (e5 : Option Value) (T T1 T2 : qT) (rr : qJ ⊕ Unit) (v : Unit) (h : k_Md_work_126 v1 v2 v3 T = some (rr, T1)) (hE : w_end b_Md_work n rr T1 = some (v, T2)) : q_out (q_ev q_Mt D) q_mMd_work (126, [some (.ref (r + 0)), some (.int v1), some (.int v2), some (.int v3), e4, e5], [], layM r T) = some (.inl (none), layM r T2) := by
  unfold k_Md_work_126 at h
  refine Eq.trans (o_iload_n d_Md_work_126 rfl) ?_
  refine Eq.trans (o_aload_n d_Md_work_127 rfl) ?_
  refine s_get d_Md_work_128 pF_Md_222 (zM_Md_fed r) h (fun x1 h => ?_)
  refine s_icmp_gt (t := 272) d_Md_work_131 (by decide) h (fun h => ?_) (fun h => ?_)
  · refine Eq.trans (o_iconst (v := 0) d_Md_work_272 (by decide)) ?_
    refine Eq.trans (o_istore_n (lo' := [some (.ref (r + 0)), some (.int v1), some (.int v2), some (.int 0), e4, e5]) d_Md_work_273 (Nat.le_of_ble_eq_true rfl) rfl) ?_
    exact ih_274 _ _ _ _ _ _ _ _ (s_jump h hE)
  · refine Eq.trans (o_aload_n d_Md_work_134 rfl) ?_
    refine s_get d_Md_work_135 pF_Md_219 (zM_Md_search r) h (fun x2 h => ?_)
    refine s_if_eq (t := 161) d_Md_work_138 (by decide) h (fun h => ?_) (fun h => ?_)
    · refine Eq.trans (o_iload_n d_Md_work_161 rfl) ?_
      refine s_if_ne (t := 169) d_Md_work_162 (by decide) h (fun h => ?_) (fun h => ?_)
      · refine Eq.trans (o_iconst (v := 0) d_Md_work_169 (by decide)) ?_
        exact c_Md_work_170 D hD r n ih_19 ih_40 ih_103 ih_126 ih_274 _ _ _ _ _ _ _ _ _ _ _ h hE
      · refine Eq.trans (o_iconst (v := 1) d_Md_work_165 (by decide)) ?_
        refine Eq.trans (o_goto (t := 170) d_Md_work_166 (by decide)) ?_
        exact c_Md_work_170 D hD r n ih_19 ih_40 ih_103 ih_126 ih_274 _ _ _ _ _ _ _ _ _ _ _ h hE
    · refine Eq.trans (o_aload_n d_Md_work_141 rfl) ?_
      refine s_get d_Md_work_142 pF_Md_246 (zM_Md_matched r) h (fun x3 h => ?_)
      refine s_if_eq (t := 153) d_Md_work_145 (by decide) h (fun h => ?_) (fun h => ?_)
      · exact c_Md_work_153 D hD r n ih_19 ih_40 ih_103 ih_126 ih_274 _ _ _ _ _ _ _ _ _ _ h hE
      · refine Eq.trans (o_iload_n d_Md_work_148 rfl) ?_
        refine Eq.trans (o_iload_n d_Md_work_149 rfl) ?_
        refine s_icmp_ge (t := 157) d_Md_work_150 (by decide) h (fun h => ?_) (fun h => ?_)
        · refine Eq.trans (o_iconst (v := 0) d_Md_work_157 (by decide)) ?_
          refine Eq.trans (o_goto (t := 170) d_Md_work_158 (by decide)) ?_
          exact c_Md_work_170 D hD r n ih_19 ih_40 ih_103 ih_126 ih_274 _ _ _ _ _ _ _ _ _ _ _ h hE
        · exact c_Md_work_153 D hD r n ih_19 ih_40 ih_103 ih_126 ih_274 _ _ _ _ _ _ _ _ _ _ h hE
set_option maxRecDepth 100000 in
set_option maxHeartbeats 4000000 in
theorem c_Md_work_103 (D : Nat) (hD : 4 ≤ D) (r : Nat) (n : Nat) (ih_19 : ∀ (v1 : Int32) (e2 : Option Value) (e3 : Option Value) (e4 : Option Value) (e5 : Option Value) (T T2 : qT) (v : Unit), w_run b_Md_work n (19, [.int v1], []) T = some (v, T2) → q_out (q_ev q_Mt D) q_mMd_work (19, [some (.ref (r + 0)), some (.int v1), e2, e3, e4, e5], [], layM r T) = some (.inl (none), layM r T2)) (ih_40 : ∀ (v1 : Int32) (e2 : Option Value) (e3 : Option Value) (e4 : Option Value) (e5 : Option Value) (T T2 : qT) (v : Unit), w_run b_Md_work n (40, [.int v1], []) T = some (v, T2) → q_out (q_ev q_Mt D) q_mMd_work (40, [some (.ref (r + 0)), some (.int v1), e2, e3, e4, e5], [], layM r T) = some (.inl (none), layM r T2)) (ih_103 : ∀ (v1 : Int32) (v2 : Int32) (v3 : Int32) (e4 : Option Value) (e5 : Option Value) (T T2 : qT) (v : Unit), w_run b_Md_work n (103, [.int v1, .int v2, .int v3], []) T = some (v, T2) → q_out (q_ev q_Mt D) q_mMd_work (103, [some (.ref (r + 0)), some (.int v1), some (.int v2), some (.int v3), e4, e5], [], layM r T) = some (.inl (none), layM r T2)) (ih_126 : ∀ (v1 : Int32) (v2 : Int32) (v3 : Int32) (e4 : Option Value) (e5 : Option Value) (T T2 : qT) (v : Unit), w_run b_Md_work n (126, [.int v1, .int v2, .int v3], []) T = some (v, T2) → q_out (q_ev q_Mt D) q_mMd_work (126, [some (.ref (r + 0)), some (.int v1), some (.int v2), some (.int v3), e4, e5], [], layM r T) = some (.inl (none), layM r T2)) (ih_274 : ∀ (v3 : Int32) (e1 : Option Value) (e2 : Option Value) (e4 : Option Value) (e5 : Option Value) (T T2 : qT) (v : Unit), w_run b_Md_work n (274, [.int v3], []) T = some (v, T2) → q_out (q_ev q_Mt D) q_mMd_work (274, [some (.ref (r + 0)), e1, e2, some (.int v3), e4, e5], [], layM r T) = some (.inl (none), layM r T2)) (v1 : Int32) (v2 : Int32) (v3 : Int32) (e4 : Option Value) (e5 : Option Value) (T T1 T2 : qT) (rr : qJ ⊕ Unit) (v : Unit) (h : k_Md_work_103 v1 v2 v3 T = some (rr, T1)) (hE : w_end b_Md_work n rr T1 = some (v, T2)) : q_out (q_ev q_Mt D) q_mMd_work (103, [some (.ref (r + 0)), some (.int v1), some (.int v2), some (.int v3), e4, e5], [], layM r T) = some (.inl (none), layM r T2) := by
  unfold k_Md_work_103 at h
  refine Eq.trans (o_iload_n d_Md_work_103 rfl) ?_
  refine Eq.trans (o_aload_n d_Md_work_104 rfl) ?_
  refine s_get d_Md_work_105 pF_Md_109 (zM_Md_length r) h (fun x1 h => ?_)
  refine s_icmp_ge (t := 124) d_Md_work_108 (by decide) h (fun h => ?_) (fun h => ?_)
  · refine Eq.trans (o_iconst (v := 0) d_Md_work_124 (by decide)) ?_
    refine Eq.trans (o_istore_n (lo' := [some (.ref (r + 0)), some (.int v1), some (.int v2), some (.int 0), e4, e5]) d_Md_work_125 (Nat.le_of_ble_eq_true rfl) rfl) ?_
    exact ih_126 _ _ _ _ _ _ _ _ (s_jump h hE)
  · refine Eq.trans (o_aload_n d_Md_work_111 rfl) ?_
    refine s_ref d_Md_work_112 pF_Md_85 (zM_Md_here r) ?_
    refine Eq.trans (o_iload_n d_Md_work_115 rfl) ?_
    refine Eq.trans (o_iconst (v := 0) d_Md_work_116 (by decide)) ?_
    refine s_zast d_Md_work_117 (rM_24 r) h (fun T h => ?_)
    refine Eq.trans (o_iinc (v := (v3 + 1)) (lo' := [some (.ref (r + 0)), some (.int v1), some (.int v2), some (.int (v3 + 1)), e4, e5]) d_Md_work_118 rfl (by rw [show Int32.ofInt 1 = 1 from by decide]) (Nat.le_of_ble_eq_true rfl) rfl) ?_
    refine Eq.trans (o_goto (t := 103) d_Md_work_121 (by decide)) ?_
    exact ih_103 _ _ _ _ _ _ _ _ (s_jump h hE)
set_option maxRecDepth 100000 in
set_option maxHeartbeats 4000000 in
theorem c_Md_work_63 (D : Nat) (hD : 4 ≤ D) (r : Nat) (n : Nat) (ih_19 : ∀ (v1 : Int32) (e2 : Option Value) (e3 : Option Value) (e4 : Option Value) (e5 : Option Value) (T T2 : qT) (v : Unit), w_run b_Md_work n (19, [.int v1], []) T = some (v, T2) → q_out (q_ev q_Mt D) q_mMd_work (19, [some (.ref (r + 0)), some (.int v1), e2, e3, e4, e5], [], layM r T) = some (.inl (none), layM r T2)) (ih_40 : ∀ (v1 : Int32) (e2 : Option Value) (e3 : Option Value) (e4 : Option Value) (e5 : Option Value) (T T2 : qT) (v : Unit), w_run b_Md_work n (40, [.int v1], []) T = some (v, T2) → q_out (q_ev q_Mt D) q_mMd_work (40, [some (.ref (r + 0)), some (.int v1), e2, e3, e4, e5], [], layM r T) = some (.inl (none), layM r T2)) (ih_103 : ∀ (v1 : Int32) (v2 : Int32) (v3 : Int32) (e4 : Option Value) (e5 : Option Value) (T T2 : qT) (v : Unit), w_run b_Md_work n (103, [.int v1, .int v2, .int v3], []) T = some (v, T2) → q_out (q_ev q_Mt D) q_mMd_work (103, [some (.ref (r + 0)), some (.int v1), some (.int v2), some (.int v3), e4, e5], [], layM r T) = some (.inl (none), layM r T2)) (ih_126 : ∀ (v1 : Int32) (v2 : Int32) (v3 : Int32) (e4 : Option Value) (e5 : Option Value) (T T2 : qT) (v : Unit), w_run b_Md_work n (126, [.int v1, .int v2, .int v3], []) T = some (v, T2) → q_out (q_ev q_Mt D) q_mMd_work (126, [some (.ref (r + 0)), some (.int v1), some (.int v2), some (.int v3), e4, e5], [], layM r T) = some (.inl (none), layM r T2)) (ih_274 : ∀ (v3 : Int32) (e1 : Option Value) (e2 : Option Value) (e4 : Option Value) (e5 : Option Value) (T T2 : qT) (v : Unit), w_run b_Md_work n (274, [.int v3], []) T = some (v, T2) → q_out (q_ev q_Mt D) q_mMd_work (274, [some (.ref (r + 0)), e1, e2, some (.int v3), e4, e5], [], layM r T) = some (.inl (none), layM r T2)) (v1 : Int32) (e2 : Option Value) (e3 : Option Value) (e4 : Option Value) (e5 : Option Value) (T T1 T2 : qT) (rr : qJ ⊕ Unit) (v : Unit) (h : k_Md_work_63 v1 T = some (rr, T1)) (hE : w_end b_Md_work n rr T1 = some (v, T2)) : q_out (q_ev q_Mt D) q_mMd_work (63, [some (.ref (r + 0)), some (.int v1), e2, e3, e4, e5], [], layM r T) = some (.inl (none), layM r T2) := by
  unfold k_Md_work_63 at h
  refine Eq.trans (o_aload_n d_Md_work_63 rfl) ?_
  refine Eq.trans (o_aload_n d_Md_work_64 rfl) ?_
  refine s_get d_Md_work_65 pF_Md_219 (zM_Md_search r) h (fun x1 h => ?_)
  refine s_if_eq (t := 87) d_Md_work_68 (by decide) h (fun h => ?_) (fun h => ?_)
  · refine Eq.trans (o_iload_n d_Md_work_87 rfl) ?_
    refine s_if_ne (t := 95) d_Md_work_88 (by decide) h (fun h => ?_) (fun h => ?_)
    · refine Eq.trans (o_iconst (v := 0) d_Md_work_95 (by decide)) ?_
      refine s_putZ d_Md_work_96 pF_Md_246 (zM_Md_matched r) h (fun T h => ?_)
      refine Eq.trans (o_iconst (v := (-1)) d_Md_work_99 (by decide)) ?_
      refine Eq.trans (o_istore_n (lo' := [some (.ref (r + 0)), some (.int v1), some (.int (-1)), e3, e4, e5]) d_Md_work_100 (Nat.le_of_ble_eq_true rfl) rfl) ?_
      refine Eq.trans (o_iconst (v := 0) d_Md_work_101 (by decide)) ?_
      refine Eq.trans (o_istore_n (lo' := [some (.ref (r + 0)), some (.int v1), some (.int (-1)), some (.int 0), e4, e5]) d_Md_work_102 (Nat.le_of_ble_eq_true rfl) rfl) ?_
      exact ih_103 _ _ _ _ _ _ _ _ (s_jump h hE)
    · refine Eq.trans (o_iconst (v := 1) d_Md_work_91 (by decide)) ?_
      refine Eq.trans (o_goto (t := 96) d_Md_work_92 (by decide)) ?_
      refine s_putZ d_Md_work_96 pF_Md_246 (zM_Md_matched r) h (fun T h => ?_)
      refine Eq.trans (o_iconst (v := (-1)) d_Md_work_99 (by decide)) ?_
      refine Eq.trans (o_istore_n (lo' := [some (.ref (r + 0)), some (.int v1), some (.int (-1)), e3, e4, e5]) d_Md_work_100 (Nat.le_of_ble_eq_true rfl) rfl) ?_
      refine Eq.trans (o_iconst (v := 0) d_Md_work_101 (by decide)) ?_
      refine Eq.trans (o_istore_n (lo' := [some (.ref (r + 0)), some (.int v1), some (.int (-1)), some (.int 0), e4, e5]) d_Md_work_102 (Nat.le_of_ble_eq_true rfl) rfl) ?_
      exact ih_103 _ _ _ _ _ _ _ _ (s_jump h hE)
  · refine Eq.trans (o_iload_n d_Md_work_71 rfl) ?_
    refine Eq.trans (o_aload_n d_Md_work_72 rfl) ?_
    refine s_get d_Md_work_73 pF_Md_222 (zM_Md_fed r) h (fun x2 h => ?_)
    refine s_icmp_gt (t := 83) d_Md_work_76 (by decide) h (fun h => ?_) (fun h => ?_)
    · refine Eq.trans (o_iconst (v := 0) d_Md_work_83 (by decide)) ?_
      refine Eq.trans (o_goto (t := 96) d_Md_work_84 (by decide)) ?_
      refine s_putZ d_Md_work_96 pF_Md_246 (zM_Md_matched r) h (fun T h => ?_)
      refine Eq.trans (o_iconst (v := (-1)) d_Md_work_99 (by decide)) ?_
      refine Eq.trans (o_istore_n (lo' := [some (.ref (r + 0)), some (.int v1), some (.int (-1)), e3, e4, e5]) d_Md_work_100 (Nat.le_of_ble_eq_true rfl) rfl) ?_
      refine Eq.trans (o_iconst (v := 0) d_Md_work_101 (by decide)) ?_
      refine Eq.trans (o_istore_n (lo' := [some (.ref (r + 0)), some (.int v1), some (.int (-1)), some (.int 0), e4, e5]) d_Md_work_102 (Nat.le_of_ble_eq_true rfl) rfl) ?_
      exact ih_103 _ _ _ _ _ _ _ _ (s_jump h hE)
    · refine Eq.trans (o_iconst (v := 1) d_Md_work_79 (by decide)) ?_
      refine Eq.trans (o_goto (t := 96) d_Md_work_80 (by decide)) ?_
      refine s_putZ d_Md_work_96 pF_Md_246 (zM_Md_matched r) h (fun T h => ?_)
      refine Eq.trans (o_iconst (v := (-1)) d_Md_work_99 (by decide)) ?_
      refine Eq.trans (o_istore_n (lo' := [some (.ref (r + 0)), some (.int v1), some (.int (-1)), e3, e4, e5]) d_Md_work_100 (Nat.le_of_ble_eq_true rfl) rfl) ?_
      refine Eq.trans (o_iconst (v := 0) d_Md_work_101 (by decide)) ?_
      refine Eq.trans (o_istore_n (lo' := [some (.ref (r + 0)), some (.int v1), some (.int (-1)), some (.int 0), e4, e5]) d_Md_work_102 (Nat.le_of_ble_eq_true rfl) rfl) ?_
      exact ih_103 _ _ _ _ _ _ _ _ (s_jump h hE)
set_option maxRecDepth 100000 in
set_option maxHeartbeats 4000000 in
theorem c_Md_work_40 (D : Nat) (hD : 4 ≤ D) (r : Nat) (n : Nat) (ih_19 : ∀ (v1 : Int32) (e2 : Option Value) (e3 : Option Value) (e4 : Option Value) (e5 : Option Value) (T T2 : qT) (v : Unit), w_run b_Md_work n (19, [.int v1], []) T = some (v, T2) → q_out (q_ev q_Mt D) q_mMd_work (19, [some (.ref (r + 0)), some (.int v1), e2, e3, e4, e5], [], layM r T) = some (.inl (none), layM r T2)) (ih_40 : ∀ (v1 : Int32) (e2 : Option Value) (e3 : Option Value) (e4 : Option Value) (e5 : Option Value) (T T2 : qT) (v : Unit), w_run b_Md_work n (40, [.int v1], []) T = some (v, T2) → q_out (q_ev q_Mt D) q_mMd_work (40, [some (.ref (r + 0)), some (.int v1), e2, e3, e4, e5], [], layM r T) = some (.inl (none), layM r T2)) (ih_103 : ∀ (v1 : Int32) (v2 : Int32) (v3 : Int32) (e4 : Option Value) (e5 : Option Value) (T T2 : qT) (v : Unit), w_run b_Md_work n (103, [.int v1, .int v2, .int v3], []) T = some (v, T2) → q_out (q_ev q_Mt D) q_mMd_work (103, [some (.ref (r + 0)), some (.int v1), some (.int v2), some (.int v3), e4, e5], [], layM r T) = some (.inl (none), layM r T2)) (ih_126 : ∀ (v1 : Int32) (v2 : Int32) (v3 : Int32) (e4 : Option Value) (e5 : Option Value) (T T2 : qT) (v : Unit), w_run b_Md_work n (126, [.int v1, .int v2, .int v3], []) T = some (v, T2) → q_out (q_ev q_Mt D) q_mMd_work (126, [some (.ref (r + 0)), some (.int v1), some (.int v2), some (.int v3), e4, e5], [], layM r T) = some (.inl (none), layM r T2)) (ih_274 : ∀ (v3 : Int32) (e1 : Option Value) (e2 : Option Value) (e4 : Option Value) (e5 : Option Value) (T T2 : qT) (v : Unit), w_run b_Md_work n (274, [.int v3], []) T = some (v, T2) → q_out (q_ev q_Mt D) q_mMd_work (274, [some (.ref (r + 0)), e1, e2, some (.int v3), e4, e5], [], layM r T) = some (.inl (none), layM r T2)) (v1 : Int32) (e2 : Option Value) (e3 : Option Value) (e4 : Option Value) (e5 : Option Value) (T T1 T2 : qT) (rr : qJ ⊕ Unit) (v : Unit) (h : k_Md_work_40 v1 T = some (rr, T1)) (hE : w_end b_Md_work n rr T1 = some (v, T2)) : q_out (q_ev q_Mt D) q_mMd_work (40, [some (.ref (r + 0)), some (.int v1), e2, e3, e4, e5], [], layM r T) = some (.inl (none), layM r T2) := by
  unfold k_Md_work_40 at h
  refine Eq.trans (o_iload_n d_Md_work_40 rfl) ?_
  refine Eq.trans (o_aload_n d_Md_work_41 rfl) ?_
  refine s_get d_Md_work_42 pF_Md_222 (zM_Md_fed r) h (fun x1 h => ?_)
  refine s_icmp_gt (t := 63) d_Md_work_45 (by decide) h (fun h => ?_) (fun h => ?_)
  · exact c_Md_work_63 D hD r n ih_19 ih_40 ih_103 ih_126 ih_274 _ _ _ _ _ _ _ _ _ _ h hE
  · refine Eq.trans (o_aload_n d_Md_work_48 rfl) ?_
    refine Eq.trans (o_iconst (v := 0) d_Md_work_49 (by decide)) ?_
    refine Eq.trans (o_iload_n d_Md_work_50 rfl) ?_
    obtain ⟨x2, T2, h1, h⟩ := w_C_of h
    refine s_cV2i d_Md_work_51 pM_Md_231 (Nat.le_of_ble_eq_true rfl) (obM_0 r) (c_Md_reaches D (by omega) r _ _ _ _ _ h1) ?_
    replace h1 := trivial; revert h; generalize T2 = T; intro h
    refine s_if_ne (t := 63) d_Md_work_54 (by decide) h (fun h => ?_) (fun h => ?_)
    · exact c_Md_work_63 D hD r n ih_19 ih_40 ih_103 ih_126 ih_274 _ _ _ _ _ _ _ _ _ _ h hE
    · refine Eq.trans (o_iinc (v := (v1 + 1)) (lo' := [some (.ref (r + 0)), some (.int (v1 + 1)), e2, e3, e4, e5]) d_Md_work_57 rfl (by rw [show Int32.ofInt 1 = 1 from by decide]) (Nat.le_of_ble_eq_true rfl) rfl) ?_
      refine Eq.trans (o_goto (t := 40) d_Md_work_60 (by decide)) ?_
      exact ih_40 _ _ _ _ _ _ _ _ (s_jump h hE)
set_option maxRecDepth 100000 in
set_option maxHeartbeats 4000000 in
theorem c_Md_work_19 (D : Nat) (hD : 4 ≤ D) (r : Nat) (n : Nat) (ih_19 : ∀ (v1 : Int32) (e2 : Option Value) (e3 : Option Value) (e4 : Option Value) (e5 : Option Value) (T T2 : qT) (v : Unit), w_run b_Md_work n (19, [.int v1], []) T = some (v, T2) → q_out (q_ev q_Mt D) q_mMd_work (19, [some (.ref (r + 0)), some (.int v1), e2, e3, e4, e5], [], layM r T) = some (.inl (none), layM r T2)) (ih_40 : ∀ (v1 : Int32) (e2 : Option Value) (e3 : Option Value) (e4 : Option Value) (e5 : Option Value) (T T2 : qT) (v : Unit), w_run b_Md_work n (40, [.int v1], []) T = some (v, T2) → q_out (q_ev q_Mt D) q_mMd_work (40, [some (.ref (r + 0)), some (.int v1), e2, e3, e4, e5], [], layM r T) = some (.inl (none), layM r T2)) (ih_103 : ∀ (v1 : Int32) (v2 : Int32) (v3 : Int32) (e4 : Option Value) (e5 : Option Value) (T T2 : qT) (v : Unit), w_run b_Md_work n (103, [.int v1, .int v2, .int v3], []) T = some (v, T2) → q_out (q_ev q_Mt D) q_mMd_work (103, [some (.ref (r + 0)), some (.int v1), some (.int v2), some (.int v3), e4, e5], [], layM r T) = some (.inl (none), layM r T2)) (ih_126 : ∀ (v1 : Int32) (v2 : Int32) (v3 : Int32) (e4 : Option Value) (e5 : Option Value) (T T2 : qT) (v : Unit), w_run b_Md_work n (126, [.int v1, .int v2, .int v3], []) T = some (v, T2) → q_out (q_ev q_Mt D) q_mMd_work (126, [some (.ref (r + 0)), some (.int v1), some (.int v2), some (.int v3), e4, e5], [], layM r T) = some (.inl (none), layM r T2)) (ih_274 : ∀ (v3 : Int32) (e1 : Option Value) (e2 : Option Value) (e4 : Option Value) (e5 : Option Value) (T T2 : qT) (v : Unit), w_run b_Md_work n (274, [.int v3], []) T = some (v, T2) → q_out (q_ev q_Mt D) q_mMd_work (274, [some (.ref (r + 0)), e1, e2, some (.int v3), e4, e5], [], layM r T) = some (.inl (none), layM r T2)) (v1 : Int32) (e2 : Option Value) (e3 : Option Value) (e4 : Option Value) (e5 : Option Value) (T T1 T2 : qT) (rr : qJ ⊕ Unit) (v : Unit) (h : k_Md_work_19 v1 T = some (rr, T1)) (hE : w_end b_Md_work n rr T1 = some (v, T2)) : q_out (q_ev q_Mt D) q_mMd_work (19, [some (.ref (r + 0)), some (.int v1), e2, e3, e4, e5], [], layM r T) = some (.inl (none), layM r T2) := by
  unfold k_Md_work_19 at h
  refine Eq.trans (o_iload_n d_Md_work_19 rfl) ?_
  refine Eq.trans (o_bipush (v := 14) d_Md_work_20 (by decide)) ?_
  refine s_icmp_ge (t := 38) d_Md_work_22 (by decide) h (fun h => ?_) (fun h => ?_)
  · refine Eq.trans (o_iconst (v := 0) d_Md_work_38 (by decide)) ?_
    refine Eq.trans (o_istore_n (lo' := [some (.ref (r + 0)), some (.int 0), e2, e3, e4, e5]) d_Md_work_39 (Nat.le_of_ble_eq_true rfl) rfl) ?_
    exact ih_40 _ _ _ _ _ _ _ _ (s_jump h hE)
  · refine Eq.trans (o_aload_n d_Md_work_25 rfl) ?_
    refine s_ref d_Md_work_26 pF_Md_79 (zM_Md_marks r) ?_
    refine Eq.trans (o_iload_n d_Md_work_29 rfl) ?_
    refine Eq.trans (o_iconst (v := (-1)) d_Md_work_30 (by decide)) ?_
    refine s_iast d_Md_work_31 (rM_22 r) h (fun T h => ?_)
    refine Eq.trans (o_iinc (v := (v1 + 1)) (lo' := [some (.ref (r + 0)), some (.int (v1 + 1)), e2, e3, e4, e5]) d_Md_work_32 rfl (by rw [show Int32.ofInt 1 = 1 from by decide]) (Nat.le_of_ble_eq_true rfl) rfl) ?_
    refine Eq.trans (o_goto (t := 19) d_Md_work_35 (by decide)) ?_
    exact ih_19 _ _ _ _ _ _ _ _ (s_jump h hE)
set_option maxRecDepth 100000 in
set_option maxHeartbeats 4000000 in
theorem c_Md_work_0 (D : Nat) (hD : 4 ≤ D) (r : Nat) (n : Nat) (ih_19 : ∀ (v1 : Int32) (e2 : Option Value) (e3 : Option Value) (e4 : Option Value) (e5 : Option Value) (T T2 : qT) (v : Unit), w_run b_Md_work n (19, [.int v1], []) T = some (v, T2) → q_out (q_ev q_Mt D) q_mMd_work (19, [some (.ref (r + 0)), some (.int v1), e2, e3, e4, e5], [], layM r T) = some (.inl (none), layM r T2)) (ih_40 : ∀ (v1 : Int32) (e2 : Option Value) (e3 : Option Value) (e4 : Option Value) (e5 : Option Value) (T T2 : qT) (v : Unit), w_run b_Md_work n (40, [.int v1], []) T = some (v, T2) → q_out (q_ev q_Mt D) q_mMd_work (40, [some (.ref (r + 0)), some (.int v1), e2, e3, e4, e5], [], layM r T) = some (.inl (none), layM r T2)) (ih_103 : ∀ (v1 : Int32) (v2 : Int32) (v3 : Int32) (e4 : Option Value) (e5 : Option Value) (T T2 : qT) (v : Unit), w_run b_Md_work n (103, [.int v1, .int v2, .int v3], []) T = some (v, T2) → q_out (q_ev q_Mt D) q_mMd_work (103, [some (.ref (r + 0)), some (.int v1), some (.int v2), some (.int v3), e4, e5], [], layM r T) = some (.inl (none), layM r T2)) (ih_126 : ∀ (v1 : Int32) (v2 : Int32) (v3 : Int32) (e4 : Option Value) (e5 : Option Value) (T T2 : qT) (v : Unit), w_run b_Md_work n (126, [.int v1, .int v2, .int v3], []) T = some (v, T2) → q_out (q_ev q_Mt D) q_mMd_work (126, [some (.ref (r + 0)), some (.int v1), some (.int v2), some (.int v3), e4, e5], [], layM r T) = some (.inl (none), layM r T2)) (ih_274 : ∀ (v3 : Int32) (e1 : Option Value) (e2 : Option Value) (e4 : Option Value) (e5 : Option Value) (T T2 : qT) (v : Unit), w_run b_Md_work n (274, [.int v3], []) T = some (v, T2) → q_out (q_ev q_Mt D) q_mMd_work (274, [some (.ref (r + 0)), e1, e2, some (.int v3), e4, e5], [], layM r T) = some (.inl (none), layM r T2))   (T T1 T2 : qT) (rr : qJ ⊕ Unit) (v : Unit) (h : k_Md_work_0 T = some (rr, T1)) (hE : w_end b_Md_work n rr T1 = some (v, T2)) : q_out (q_ev q_Mt D) q_mMd_work (0, [some (.ref (r + 0)), none, none, none, none, none], [], layM r T) = some (.inl (none), layM r T2) := by
  unfold k_Md_work_0 at h
  refine Eq.trans (o_aload_n d_Md_work_0 rfl) ?_
  refine s_get d_Md_work_1 pF_Md_225 (zM_Md_known r) h (fun x1 h => ?_)
  refine s_if_eq (t := 8) d_Md_work_4 (by decide) h (fun h => ?_) (fun h => ?_)
  · refine Eq.trans (o_aload_n d_Md_work_8 rfl) ?_
    refine Eq.trans (o_iconst (v := 1) d_Md_work_9 (by decide)) ?_
    refine s_putZ d_Md_work_10 pF_Md_225 (zM_Md_known r) h (fun T h => ?_)
    refine Eq.trans (o_aload_n d_Md_work_13 rfl) ?_
    obtain ⟨u9, T2, h1, h⟩ := w_C_of h
    refine s_cV0v d_Md_work_14 pM_Md_243 (Nat.le_of_ble_eq_true rfl) (obM_0 r) (c_Md_fill D (by omega) r _ _ _ h1) ?_
    replace h1 := trivial; revert h; generalize T2 = T; intro h
    refine Eq.trans (o_iconst (v := 0) d_Md_work_17 (by decide)) ?_
    refine Eq.trans (o_istore_n (lo' := [some (.ref (r + 0)), some (.int 0), none, none, none, none]) d_Md_work_18 (Nat.le_of_ble_eq_true rfl) rfl) ?_
    exact ih_19 _ _ _ _ _ _ _ _ (s_jump h hE)
  · exact s_vretJ d_Md_work_7 rfl h hE
theorem c_Md_work_lp (D : Nat) (hD : 4 ≤ D) (r : Nat) : ∀ n : Nat, (∀ (v1 : Int32) (e2 : Option Value) (e3 : Option Value) (e4 : Option Value) (e5 : Option Value) (T T2 : qT) (v : Unit), w_run b_Md_work n (19, [.int v1], []) T = some (v, T2) → q_out (q_ev q_Mt D) q_mMd_work (19, [some (.ref (r + 0)), some (.int v1), e2, e3, e4, e5], [], layM r T) = some (.inl (none), layM r T2)) ∧ (∀ (v1 : Int32) (e2 : Option Value) (e3 : Option Value) (e4 : Option Value) (e5 : Option Value) (T T2 : qT) (v : Unit), w_run b_Md_work n (40, [.int v1], []) T = some (v, T2) → q_out (q_ev q_Mt D) q_mMd_work (40, [some (.ref (r + 0)), some (.int v1), e2, e3, e4, e5], [], layM r T) = some (.inl (none), layM r T2)) ∧ (∀ (v1 : Int32) (v2 : Int32) (v3 : Int32) (e4 : Option Value) (e5 : Option Value) (T T2 : qT) (v : Unit), w_run b_Md_work n (103, [.int v1, .int v2, .int v3], []) T = some (v, T2) → q_out (q_ev q_Mt D) q_mMd_work (103, [some (.ref (r + 0)), some (.int v1), some (.int v2), some (.int v3), e4, e5], [], layM r T) = some (.inl (none), layM r T2)) ∧ (∀ (v1 : Int32) (v2 : Int32) (v3 : Int32) (e4 : Option Value) (e5 : Option Value) (T T2 : qT) (v : Unit), w_run b_Md_work n (126, [.int v1, .int v2, .int v3], []) T = some (v, T2) → q_out (q_ev q_Mt D) q_mMd_work (126, [some (.ref (r + 0)), some (.int v1), some (.int v2), some (.int v3), e4, e5], [], layM r T) = some (.inl (none), layM r T2)) ∧ (∀ (v3 : Int32) (e1 : Option Value) (e2 : Option Value) (e4 : Option Value) (e5 : Option Value) (T T2 : qT) (v : Unit), w_run b_Md_work n (274, [.int v3], []) T = some (v, T2) → q_out (q_ev q_Mt D) q_mMd_work (274, [some (.ref (r + 0)), e1, e2, some (.int v3), e4, e5], [], layM r T) = some (.inl (none), layM r T2)) := by
  intro n
  induction n with
  | zero => exact ⟨(fun v1 e2 e3 e4 e5 T T2 v h => by cases h), (fun v1 e2 e3 e4 e5 T T2 v h => by cases h), (fun v1 v2 v3 e4 e5 T T2 v h => by cases h), (fun v1 v2 v3 e4 e5 T T2 v h => by cases h), (fun v3 e1 e2 e4 e5 T T2 v h => by cases h)⟩
  | succ n ih =>
    obtain ⟨ih_19, ih_40, ih_103, ih_126, ih_274⟩ := ih
    refine ⟨?_, ?_, ?_, ?_, ?_⟩
    · intro v1 e2 e3 e4 e5 T T2 v h
      obtain ⟨rr, T1, hb, hE⟩ := w_run_succ h
      exact c_Md_work_19 D hD r n ih_19 ih_40 ih_103 ih_126 ih_274 v1 e2 e3 e4 e5 T T1 T2 rr v hb hE
    · intro v1 e2 e3 e4 e5 T T2 v h
      obtain ⟨rr, T1, hb, hE⟩ := w_run_succ h
      exact c_Md_work_40 D hD r n ih_19 ih_40 ih_103 ih_126 ih_274 v1 e2 e3 e4 e5 T T1 T2 rr v hb hE
    · intro v1 v2 v3 e4 e5 T T2 v h
      obtain ⟨rr, T1, hb, hE⟩ := w_run_succ h
      exact c_Md_work_103 D hD r n ih_19 ih_40 ih_103 ih_126 ih_274 v1 v2 v3 e4 e5 T T1 T2 rr v hb hE
    · intro v1 v2 v3 e4 e5 T T2 v h
      obtain ⟨rr, T1, hb, hE⟩ := w_run_succ h
      exact c_Md_work_126 D hD r n ih_19 ih_40 ih_103 ih_126 ih_274 v1 v2 v3 e4 e5 T T1 T2 rr v hb hE
    · intro v3 e1 e2 e4 e5 T T2 v h
      obtain ⟨rr, T1, hb, hE⟩ := w_run_succ h
      exact c_Md_work_274 D hD r n ih_19 ih_40 ih_103 ih_126 ih_274 v3 e1 e2 e4 e5 T T1 T2 rr v hb hE
theorem c_Md_work (D : Nat) (hD : 5 ≤ D) (r : Nat)  (T T2 : qT) (v : Unit) (h : f_Md_work  T = some (v, T2)) : q_ev q_Mt D 109 [.ref (r + 0)] (layM r T) = some (.inl (none), layM r T2) := by
  obtain ⟨D, rfl⟩ : ∃ D', D = D' + 1 := ⟨D - 1, by omega⟩
  obtain ⟨n, hn⟩ := w_fix_iff.mp h
  cases n with
  | zero => cases hn
  | succ n =>
    obtain ⟨rr, T1, hb, hE⟩ := w_run_succ hn
    have hl := c_Md_work_lp D (by omega) r n
    obtain ⟨ih_19, ih_40, ih_103, ih_126, ih_274⟩ := hl
    rw [o_ev (M := q_mMd_work) (lo := [some (.ref (r + 0)), none, none, none, none, none]) rfl (Nat.le_of_ble_eq_true rfl) rfl]
    exact c_Md_work_0 D (by omega) r n ih_19 ih_40 ih_103 ih_126 ih_274  T T1 T2 rr v hb hE
noncomputable def f_Md_matched  : qW Int32 :=
  w_s 0 0 <|
  w_S 29 fun x1 =>
  w_if (¬ x1 = 0) (
    w_C (f_Md_work) fun _ =>
    w_S 34 fun x2 =>
    w_ret .boolean x2) (
    w_ret .boolean 0)
set_option maxRecDepth 100000 in
set_option maxHeartbeats 4000000 in
theorem c_Md_matched_0 (D : Nat) (hD : 5 ≤ D) (r : Nat)   (T T1 : qT) (v : Int32) (h : f_Md_matched T = some (v, T1)) : q_out (q_ev q_Mt D) q_mMd_matched (0, [some (.ref (r + 0))], [], layM r T) = some (.inl (some (.int v)), layM r T1) := by
  unfold f_Md_matched at h
  refine Eq.trans (o_aload_n d_Md_matched_0 rfl) ?_
  refine Eq.trans (o_iconst (v := 0) d_Md_matched_1 (by decide)) ?_
  refine s_put d_Md_matched_2 pF_Md_103 (zM_Md_thrown r) h (fun T h => ?_)
  refine Eq.trans (o_aload_n d_Md_matched_5 rfl) ?_
  refine s_get d_Md_matched_6 pF_Md_212 (zM_Md_begun r) h (fun x1 h => ?_)
  refine s_if_ne (t := 14) d_Md_matched_9 (by decide) h (fun h => ?_) (fun h => ?_)
  · refine Eq.trans (o_aload_n d_Md_matched_14 rfl) ?_
    obtain ⟨u9, T2, h1, h⟩ := w_C_of h
    refine s_cV0v d_Md_matched_15 pM_Md_263 (Nat.le_of_ble_eq_true rfl) (obM_0 r) (c_Md_work D (by omega) r _ _ _ h1) ?_
    replace h1 := trivial; revert h; generalize T2 = T; intro h
    refine Eq.trans (o_aload_n d_Md_matched_18 rfl) ?_
    refine s_get d_Md_matched_19 pF_Md_246 (zM_Md_matched r) h (fun x2 h => ?_)
    exact s_iret d_Md_matched_22 rfl h
  · refine Eq.trans (o_iconst (v := 0) d_Md_matched_12 (by decide)) ?_
    exact s_iret d_Md_matched_13 rfl h
theorem c_Md_matched (D : Nat) (hD : 6 ≤ D) (r : Nat)  (T T1 : qT) (v : Int32) (h : f_Md_matched  T = some (v, T1)) : q_ev q_Mt D 108 [.ref (r + 0)] (layM r T) = some (.inl (some (.int v)), layM r T1) := by
  obtain ⟨D, rfl⟩ : ∃ D', D = D' + 1 := ⟨D - 1, by omega⟩
  rw [o_ev (M := q_mMd_matched) (lo := [some (.ref (r + 0))]) rfl (Nat.le_of_ble_eq_true rfl) rfl]
  exact c_Md_matched_0 D (by omega) r  T T1 v h
noncomputable def k_Md_live_20 (v1 : Int32) (v2 : Int32) : qW (qJ ⊕ Int32) :=
  w_S 22 fun x1 =>
  w_if (x1 ≤ v2) (
    w_ri .int v1) (
    w_A 23 160 v2 fun x2 =>
    w_if (x2 = 0) (
      w_go 20 [.int v1, .int (v2 + 1)] []) (
      w_go 20 [.int (v1 + 1), .int (v2 + 1)] []))
noncomputable def k_Md_live_0  : qW (qJ ⊕ Int32) :=
  w_s 0 0 <|
  w_S 29 fun x1 =>
  w_if (x1 = 0) (
    w_ri .int 0) (
    w_C (f_Md_work) fun _ =>
    w_go 20 [.int 0, .int 0] [])
noncomputable def b_Md_live : qJ → qW (qJ ⊕ Int32) := fun x => match x with
  | (0, [], []) => k_Md_live_0 
  | (20, [.int v1, .int v2], []) => k_Md_live_20 v1 v2
  | _ => w_no
noncomputable def f_Md_live  : qW Int32 := w_fix b_Md_live (0, [], [])
set_option maxRecDepth 100000 in
set_option maxHeartbeats 4000000 in
theorem c_Md_live_20 (D : Nat) (hD : 5 ≤ D) (r : Nat) (n : Nat) (ih_20 : ∀ (v1 : Int32) (v2 : Int32)  (T T2 : qT) (v : Int32), w_run b_Md_live n (20, [.int v1, .int v2], []) T = some (v, T2) → q_out (q_ev q_Mt D) q_mMd_live (20, [some (.ref (r + 0)), some (.int v1), some (.int v2)], [], layM r T) = some (.inl (some (.int v)), layM r T2)) (v1 : Int32) (v2 : Int32)  (T T1 T2 : qT) (rr : qJ ⊕ Int32) (v : Int32) (h : k_Md_live_20 v1 v2 T = some (rr, T1)) (hE : w_end b_Md_live n rr T1 = some (v, T2)) : q_out (q_ev q_Mt D) q_mMd_live (20, [some (.ref (r + 0)), some (.int v1), some (.int v2)], [], layM r T) = some (.inl (some (.int v)), layM r T2) := by
  unfold k_Md_live_20 at h
  refine Eq.trans (o_iload_n d_Md_live_20 rfl) ?_
  refine Eq.trans (o_aload_n d_Md_live_21 rfl) ?_
  refine s_get d_Md_live_22 pF_Md_109 (zM_Md_length r) h (fun x1 h => ?_)
  refine s_icmp_ge (t := 51) d_Md_live_25 (by decide) h (fun h => ?_) (fun h => ?_)
  · refine Eq.trans (o_iload_n d_Md_live_51 rfl) ?_
    exact s_iretJ d_Md_live_52 rfl h hE
  · refine Eq.trans (o_aload_n d_Md_live_28 rfl) ?_
    refine s_ref d_Md_live_29 pF_Md_82 (zM_Md_live r) ?_
    refine Eq.trans (o_iload_n d_Md_live_32 rfl) ?_
    refine s_zald d_Md_live_33 (rM_23 r) h (fun x2 h => ?_)
    refine s_if_eq (t := 43) d_Md_live_34 (by decide) h (fun h => ?_) (fun h => ?_)
    · refine Eq.trans (o_iload_n d_Md_live_43 rfl) ?_
      refine Eq.trans (o_istore_n (lo' := [some (.ref (r + 0)), some (.int v1), some (.int v2)]) d_Md_live_44 (Nat.le_of_ble_eq_true rfl) rfl) ?_
      refine Eq.trans (o_iinc (v := (v2 + 1)) (lo' := [some (.ref (r + 0)), some (.int v1), some (.int (v2 + 1))]) d_Md_live_45 rfl (by rw [show Int32.ofInt 1 = 1 from by decide]) (Nat.le_of_ble_eq_true rfl) rfl) ?_
      refine Eq.trans (o_goto (t := 20) d_Md_live_48 (by decide)) ?_
      exact ih_20 _ _ _ _ _ (s_jump h hE)
    · refine Eq.trans (o_iload_n d_Md_live_37 rfl) ?_
      refine Eq.trans (o_iconst (v := 1) d_Md_live_38 (by decide)) ?_
      refine Eq.trans (o_iadd d_Md_live_39) ?_
      refine Eq.trans (o_goto (t := 44) d_Md_live_40 (by decide)) ?_
      refine Eq.trans (o_istore_n (lo' := [some (.ref (r + 0)), some (.int (v1 + 1)), some (.int v2)]) d_Md_live_44 (Nat.le_of_ble_eq_true rfl) rfl) ?_
      refine Eq.trans (o_iinc (v := (v2 + 1)) (lo' := [some (.ref (r + 0)), some (.int (v1 + 1)), some (.int (v2 + 1))]) d_Md_live_45 rfl (by rw [show Int32.ofInt 1 = 1 from by decide]) (Nat.le_of_ble_eq_true rfl) rfl) ?_
      refine Eq.trans (o_goto (t := 20) d_Md_live_48 (by decide)) ?_
      exact ih_20 _ _ _ _ _ (s_jump h hE)
set_option maxRecDepth 100000 in
set_option maxHeartbeats 4000000 in
theorem c_Md_live_0 (D : Nat) (hD : 5 ≤ D) (r : Nat) (n : Nat) (ih_20 : ∀ (v1 : Int32) (v2 : Int32)  (T T2 : qT) (v : Int32), w_run b_Md_live n (20, [.int v1, .int v2], []) T = some (v, T2) → q_out (q_ev q_Mt D) q_mMd_live (20, [some (.ref (r + 0)), some (.int v1), some (.int v2)], [], layM r T) = some (.inl (some (.int v)), layM r T2))   (T T1 T2 : qT) (rr : qJ ⊕ Int32) (v : Int32) (h : k_Md_live_0 T = some (rr, T1)) (hE : w_end b_Md_live n rr T1 = some (v, T2)) : q_out (q_ev q_Mt D) q_mMd_live (0, [some (.ref (r + 0)), none, none], [], layM r T) = some (.inl (some (.int v)), layM r T2) := by
  unfold k_Md_live_0 at h
  refine Eq.trans (o_aload_n d_Md_live_0 rfl) ?_
  refine Eq.trans (o_iconst (v := 0) d_Md_live_1 (by decide)) ?_
  refine s_put d_Md_live_2 pF_Md_103 (zM_Md_thrown r) h (fun T h => ?_)
  refine Eq.trans (o_iconst (v := 0) d_Md_live_5 (by decide)) ?_
  refine Eq.trans (o_istore_n (lo' := [some (.ref (r + 0)), some (.int 0), none]) d_Md_live_6 (Nat.le_of_ble_eq_true rfl) rfl) ?_
  refine Eq.trans (o_aload_n d_Md_live_7 rfl) ?_
  refine s_get d_Md_live_8 pF_Md_212 (zM_Md_begun r) h (fun x1 h => ?_)
  refine s_if_eq (t := 51) d_Md_live_11 (by decide) h (fun h => ?_) (fun h => ?_)
  · refine Eq.trans (o_iload_n d_Md_live_51 rfl) ?_
    exact s_iretJ d_Md_live_52 rfl h hE
  · refine Eq.trans (o_aload_n d_Md_live_14 rfl) ?_
    obtain ⟨u9, T2, h1, h⟩ := w_C_of h
    refine s_cV0v d_Md_live_15 pM_Md_263 (Nat.le_of_ble_eq_true rfl) (obM_0 r) (c_Md_work D (by omega) r _ _ _ h1) ?_
    replace h1 := trivial; revert h; generalize T2 = T; intro h
    refine Eq.trans (o_iconst (v := 0) d_Md_live_18 (by decide)) ?_
    refine Eq.trans (o_istore_n (lo' := [some (.ref (r + 0)), some (.int 0), some (.int 0)]) d_Md_live_19 (Nat.le_of_ble_eq_true rfl) rfl) ?_
    exact ih_20 _ _ _ _ _ (s_jump h hE)
theorem c_Md_live_lp (D : Nat) (hD : 5 ≤ D) (r : Nat) : ∀ n : Nat, (∀ (v1 : Int32) (v2 : Int32)  (T T2 : qT) (v : Int32), w_run b_Md_live n (20, [.int v1, .int v2], []) T = some (v, T2) → q_out (q_ev q_Mt D) q_mMd_live (20, [some (.ref (r + 0)), some (.int v1), some (.int v2)], [], layM r T) = some (.inl (some (.int v)), layM r T2)) := by
  intro n
  induction n with
  | zero => exact (fun v1 v2 T T2 v h => by cases h)
  | succ n ih =>
    have ih_20 := ih
    · intro v1 v2 T T2 v h
      obtain ⟨rr, T1, hb, hE⟩ := w_run_succ h
      exact c_Md_live_20 D hD r n ih_20 v1 v2 T T1 T2 rr v hb hE
theorem c_Md_live (D : Nat) (hD : 6 ≤ D) (r : Nat)  (T T2 : qT) (v : Int32) (h : f_Md_live  T = some (v, T2)) : q_ev q_Mt D 119 [.ref (r + 0)] (layM r T) = some (.inl (some (.int v)), layM r T2) := by
  obtain ⟨D, rfl⟩ : ∃ D', D = D' + 1 := ⟨D - 1, by omega⟩
  obtain ⟨n, hn⟩ := w_fix_iff.mp h
  cases n with
  | zero => cases hn
  | succ n =>
    obtain ⟨rr, T1, hb, hE⟩ := w_run_succ hn
    have hl := c_Md_live_lp D (by omega) r n
    have ih_20 := hl
    rw [o_ev (M := q_mMd_live) (lo := [some (.ref (r + 0)), none, none]) rfl (Nat.le_of_ble_eq_true rfl) rfl]
    exact c_Md_live_0 D (by omega) r n ih_20  T T1 T2 rr v hb hE
noncomputable def f_Md_isLive (a1 : Int32) : qW Int32 :=
  w_s 0 0 <|
  w_S 29 fun x1 =>
  w_if (x1 = 0) (
    w_ret .boolean 0) (
    w_if (a1 < 0) (
      w_ret .boolean 0) (
      w_S 22 fun x2 =>
      w_if (a1 < x2) (
        w_C (f_Md_work) fun _ =>
        w_A 23 160 a1 fun x3 =>
        w_ret .boolean x3) (
        w_ret .boolean 0)))
set_option maxRecDepth 100000 in
set_option maxHeartbeats 4000000 in
theorem c_Md_isLive_0 (D : Nat) (hD : 5 ≤ D) (r : Nat) (a1 : Int32)  (T T1 : qT) (v : Int32) (h : f_Md_isLive a1 T = some (v, T1)) : q_out (q_ev q_Mt D) q_mMd_isLive (0, [some (.ref (r + 0)), some (.int a1)], [], layM r T) = some (.inl (some (.int v)), layM r T1) := by
  unfold f_Md_isLive at h
  refine Eq.trans (o_aload_n d_Md_isLive_0 rfl) ?_
  refine Eq.trans (o_iconst (v := 0) d_Md_isLive_1 (by decide)) ?_
  refine s_put d_Md_isLive_2 pF_Md_103 (zM_Md_thrown r) h (fun T h => ?_)
  refine Eq.trans (o_aload_n d_Md_isLive_5 rfl) ?_
  refine s_get d_Md_isLive_6 pF_Md_212 (zM_Md_begun r) h (fun x1 h => ?_)
  refine s_if_eq (t := 24) d_Md_isLive_9 (by decide) h (fun h => ?_) (fun h => ?_)
  · refine Eq.trans (o_iconst (v := 0) d_Md_isLive_24 (by decide)) ?_
    exact s_iret d_Md_isLive_25 rfl h
  · refine Eq.trans (o_iload_n d_Md_isLive_12 rfl) ?_
    refine s_if_lt (t := 24) d_Md_isLive_13 (by decide) h (fun h => ?_) (fun h => ?_)
    · refine Eq.trans (o_iconst (v := 0) d_Md_isLive_24 (by decide)) ?_
      exact s_iret d_Md_isLive_25 rfl h
    · refine Eq.trans (o_iload_n d_Md_isLive_16 rfl) ?_
      refine Eq.trans (o_aload_n d_Md_isLive_17 rfl) ?_
      refine s_get d_Md_isLive_18 pF_Md_109 (zM_Md_length r) h (fun x2 h => ?_)
      refine s_icmp_lt (t := 26) d_Md_isLive_21 (by decide) h (fun h => ?_) (fun h => ?_)
      · refine Eq.trans (o_aload_n d_Md_isLive_26 rfl) ?_
        obtain ⟨u9, T2, h1, h⟩ := w_C_of h
        refine s_cV0v d_Md_isLive_27 pM_Md_263 (Nat.le_of_ble_eq_true rfl) (obM_0 r) (c_Md_work D (by omega) r _ _ _ h1) ?_
        replace h1 := trivial; revert h; generalize T2 = T; intro h
        refine Eq.trans (o_aload_n d_Md_isLive_30 rfl) ?_
        refine s_ref d_Md_isLive_31 pF_Md_82 (zM_Md_live r) ?_
        refine Eq.trans (o_iload_n d_Md_isLive_34 rfl) ?_
        refine s_zald d_Md_isLive_35 (rM_23 r) h (fun x3 h => ?_)
        exact s_iret d_Md_isLive_36 rfl h
      · refine Eq.trans (o_iconst (v := 0) d_Md_isLive_24 (by decide)) ?_
        exact s_iret d_Md_isLive_25 rfl h
theorem c_Md_isLive (D : Nat) (hD : 6 ≤ D) (r : Nat) (a1 : Int32) (T T1 : qT) (v : Int32) (h : f_Md_isLive a1 T = some (v, T1)) : q_ev q_Mt D 120 [.ref (r + 0), .int a1] (layM r T) = some (.inl (some (.int v)), layM r T1) := by
  obtain ⟨D, rfl⟩ : ∃ D', D = D' + 1 := ⟨D - 1, by omega⟩
  rw [o_ev (M := q_mMd_isLive) (lo := [some (.ref (r + 0)), some (.int a1)]) rfl (Nat.le_of_ble_eq_true rfl) rfl]
  exact c_Md_isLive_0 D (by omega) r a1 T T1 v h
noncomputable def f_Md_mark (a1 : Int32) : qW Int32 :=
  w_s 0 0 <|
  w_S 29 fun x1 =>
  w_if (x1 = 0) (
    w_ret .int ((-1))) (
    w_if (a1 < 0) (
      w_ret .int ((-1))) (
      w_S 19 fun x2 =>
      w_if (a1 ≤ (((2 * x2) + 1))) (
        w_C (f_Md_work) fun _ =>
        w_S 34 fun x3 =>
        w_if (x3 = 0) (
          w_ret .int ((-1))) (
          w_A 22 14 a1 fun x4 =>
          w_ret .int x4)) (
        w_ret .int ((-1)))))
set_option maxRecDepth 100000 in
set_option maxHeartbeats 4000000 in
theorem c_Md_mark_0 (D : Nat) (hD : 5 ≤ D) (r : Nat) (a1 : Int32)  (T T1 : qT) (v : Int32) (h : f_Md_mark a1 T = some (v, T1)) : q_out (q_ev q_Mt D) q_mMd_mark (0, [some (.ref (r + 0)), some (.int a1)], [], layM r T) = some (.inl (some (.int v)), layM r T1) := by
  unfold f_Md_mark at h
  refine Eq.trans (o_aload_n d_Md_mark_0 rfl) ?_
  refine Eq.trans (o_iconst (v := 0) d_Md_mark_1 (by decide)) ?_
  refine s_put d_Md_mark_2 pF_Md_103 (zM_Md_thrown r) h (fun T h => ?_)
  refine Eq.trans (o_aload_n d_Md_mark_5 rfl) ?_
  refine s_get d_Md_mark_6 pF_Md_212 (zM_Md_begun r) h (fun x1 h => ?_)
  refine s_if_eq (t := 28) d_Md_mark_9 (by decide) h (fun h => ?_) (fun h => ?_)
  · refine Eq.trans (o_iconst (v := (-1)) d_Md_mark_28 (by decide)) ?_
    exact s_iret d_Md_mark_29 rfl h
  · refine Eq.trans (o_iload_n d_Md_mark_12 rfl) ?_
    refine s_if_lt (t := 28) d_Md_mark_13 (by decide) h (fun h => ?_) (fun h => ?_)
    · refine Eq.trans (o_iconst (v := (-1)) d_Md_mark_28 (by decide)) ?_
      exact s_iret d_Md_mark_29 rfl h
    · refine Eq.trans (o_iload_n d_Md_mark_16 rfl) ?_
      refine Eq.trans (o_iconst (v := 2) d_Md_mark_17 (by decide)) ?_
      refine Eq.trans (o_aload_n d_Md_mark_18 rfl) ?_
      refine s_get d_Md_mark_19 pF_Md_164 (zM_Md_numbers r) h (fun x2 h => ?_)
      refine Eq.trans (o_imul d_Md_mark_22) ?_
      refine Eq.trans (o_iconst (v := 1) d_Md_mark_23 (by decide)) ?_
      refine Eq.trans (o_iadd d_Md_mark_24) ?_
      refine s_icmp_le (t := 30) d_Md_mark_25 (by decide) h (fun h => ?_) (fun h => ?_)
      · refine Eq.trans (o_aload_n d_Md_mark_30 rfl) ?_
        obtain ⟨u9, T2, h1, h⟩ := w_C_of h
        refine s_cV0v d_Md_mark_31 pM_Md_263 (Nat.le_of_ble_eq_true rfl) (obM_0 r) (c_Md_work D (by omega) r _ _ _ h1) ?_
        replace h1 := trivial; revert h; generalize T2 = T; intro h
        refine Eq.trans (o_aload_n d_Md_mark_34 rfl) ?_
        refine s_get d_Md_mark_35 pF_Md_246 (zM_Md_matched r) h (fun x3 h => ?_)
        refine s_if_eq (t := 50) d_Md_mark_38 (by decide) h (fun h => ?_) (fun h => ?_)
        · refine Eq.trans (o_iconst (v := (-1)) d_Md_mark_50 (by decide)) ?_
          exact s_iret d_Md_mark_51 rfl h
        · refine Eq.trans (o_aload_n d_Md_mark_41 rfl) ?_
          refine s_ref d_Md_mark_42 pF_Md_79 (zM_Md_marks r) ?_
          refine Eq.trans (o_iload_n d_Md_mark_45 rfl) ?_
          refine s_iald d_Md_mark_46 (rM_22 r) h (fun x4 h => ?_)
          refine Eq.trans (o_goto (t := 51) d_Md_mark_47 (by decide)) ?_
          exact s_iret d_Md_mark_51 rfl h
      · refine Eq.trans (o_iconst (v := (-1)) d_Md_mark_28 (by decide)) ?_
        exact s_iret d_Md_mark_29 rfl h
theorem c_Md_mark (D : Nat) (hD : 6 ≤ D) (r : Nat) (a1 : Int32) (T T1 : qT) (v : Int32) (h : f_Md_mark a1 T = some (v, T1)) : q_ev q_Mt D 121 [.ref (r + 0), .int a1] (layM r T) = some (.inl (some (.int v)), layM r T1) := by
  obtain ⟨D, rfl⟩ : ∃ D', D = D' + 1 := ⟨D - 1, by omega⟩
  rw [o_ev (M := q_mMd_mark) (lo := [some (.ref (r + 0)), some (.int a1)]) rfl (Nat.le_of_ble_eq_true rfl) rfl]
  exact c_Md_mark_0 D (by omega) r a1 T T1 v h
noncomputable def f_Md_fed  : qW Int32 :=
  w_s 0 0 <|
  w_S 29 fun x1 =>
  w_if (x1 = 0) (
    w_ret .int ((-1))) (
    w_S 31 fun x2 =>
    w_ret .int x2)
set_option maxRecDepth 100000 in
set_option maxHeartbeats 4000000 in
theorem c_Md_fed_0 (D : Nat) (hD : 0 ≤ D) (r : Nat)   (T T1 : qT) (v : Int32) (h : f_Md_fed T = some (v, T1)) : q_out (q_ev q_Mt D) q_mMd_fed (0, [some (.ref (r + 0))], [], layM r T) = some (.inl (some (.int v)), layM r T1) := by
  unfold f_Md_fed at h
  refine Eq.trans (o_aload_n d_Md_fed_0 rfl) ?_
  refine Eq.trans (o_iconst (v := 0) d_Md_fed_1 (by decide)) ?_
  refine s_put d_Md_fed_2 pF_Md_103 (zM_Md_thrown r) h (fun T h => ?_)
  refine Eq.trans (o_aload_n d_Md_fed_5 rfl) ?_
  refine s_get d_Md_fed_6 pF_Md_212 (zM_Md_begun r) h (fun x1 h => ?_)
  refine s_if_eq (t := 19) d_Md_fed_9 (by decide) h (fun h => ?_) (fun h => ?_)
  · refine Eq.trans (o_iconst (v := (-1)) d_Md_fed_19 (by decide)) ?_
    exact s_iret d_Md_fed_20 rfl h
  · refine Eq.trans (o_aload_n d_Md_fed_12 rfl) ?_
    refine s_get d_Md_fed_13 pF_Md_222 (zM_Md_fed r) h (fun x2 h => ?_)
    refine Eq.trans (o_goto (t := 20) d_Md_fed_16 (by decide)) ?_
    exact s_iret d_Md_fed_20 rfl h
theorem c_Md_fed (D : Nat) (hD : 1 ≤ D) (r : Nat)  (T T1 : qT) (v : Int32) (h : f_Md_fed  T = some (v, T1)) : q_ev q_Mt D 122 [.ref (r + 0)] (layM r T) = some (.inl (some (.int v)), layM r T1) := by
  obtain ⟨D, rfl⟩ : ∃ D', D = D' + 1 := ⟨D - 1, by omega⟩
  rw [o_ev (M := q_mMd_fed) (lo := [some (.ref (r + 0))]) rfl (Nat.le_of_ble_eq_true rfl) rfl]
  exact c_Md_fed_0 D (by omega) r  T T1 v h
