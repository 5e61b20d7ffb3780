/-! WRITING, by the reference: a repeat, a node, all tasks -/
section TR
variable {t : Nat → ND} {W : Nat → Nat} {N L n lo pos u g : Nat} {X : Nat → INS} {S0 S : qSt} {ts0 nw : List (Nat × Nat)}
theorem e_split {x y lz : Nat} {Q : Unit → qSt → Prop} (h : PR t W N L X S0 ts0 n lo pos S nw) (hX : X pos = spl lz x y) (hp : pos < 160) (hz : lz ≤ 1) (q : ∀ S', PR t W N L X S0 ts0 n lo (pos + 1) S' nw → Q () S') : okS (f_Md_split (nI pos) (nI x) (nI y) (nI lz)) S Q := by
  unfold f_Md_split k_Md_split_13
  unfold spl at hX
  by_cases h0 : lz = 0
  · subst h0
    rw [if_pos rfl] at hX
    simp (disch := omega) only [n_lit, n_m1, ok_S, ok_s, ok_N, ok_n, ↓ok_if, ok_A, ok_a, ok_L, ok_l, ok_zn0, ok_zn1, ok_f2, ok_pure, ok_rI, ok_bn0, ok_bn1, ok_rt, ok_riI, ok_rn0, ok_rn1, ok_go, nx_l, nx_r, sS_s, sS_n, sS_a, sS_l, sS_k, aS_s, aS_n, aS_1, aS_l, aS_k, lS_l, lS_1, lS_a, lS_k, nS_s, nS_n, nS_1, nS_a, nS_l, updS, updN, nI_eq, nI_leI, nI_ltI, nI_add, pk_mul, nN_e, nN_e', nN_l, nN_g, nN_le, nN_ge, ite_not, if_true, if_false, not_true_eq_false, not_false_eq_true, Nat.not_lt_zero, Nat.reduceEqDiff, Nat.reduceLT, Nat.reduceLeDiff, Nat.reduceAdd, Nat.zero_le, ite_self, reduceCtorEq, bI_t, bI_f, bI_z, bI_1, ok_bb, if_pos, if_neg]
    refine ok_C (e_put h hX hp fun S' h' => ?_)
    simp (disch := omega) only [n_lit, n_m1, ok_S, ok_s, ok_N, ok_n, ↓ok_if, ok_A, ok_a, ok_L, ok_l, ok_zn0, ok_zn1, ok_f2, ok_pure, ok_rI, ok_bn0, ok_bn1, ok_rt, ok_riI, ok_rn0, ok_rn1, ok_go, nx_l, nx_r, sS_s, sS_n, sS_a, sS_l, sS_k, aS_s, aS_n, aS_1, aS_l, aS_k, lS_l, lS_1, lS_a, lS_k, nS_s, nS_n, nS_1, nS_a, nS_l, updS, updN, nI_eq, nI_leI, nI_ltI, nI_add, pk_mul, nN_e, nN_e', nN_l, nN_g, nN_le, nN_ge, ite_not, if_true, if_false, not_true_eq_false, not_false_eq_true, Nat.not_lt_zero, Nat.reduceEqDiff, Nat.reduceLT, Nat.reduceLeDiff, Nat.reduceAdd, Nat.zero_le, ite_self, reduceCtorEq, bI_t, bI_f, bI_z, bI_1, ok_bb]
    exact q S' h'
  · have h1 : lz = 1 := by omega
    subst h1
    rw [if_neg (by omega)] at hX
    simp (disch := omega) only [n_lit, n_m1, ok_S, ok_s, ok_N, ok_n, ↓ok_if, ok_A, ok_a, ok_L, ok_l, ok_zn0, ok_zn1, ok_f2, ok_pure, ok_rI, ok_bn0, ok_bn1, ok_rt, ok_riI, ok_rn0, ok_rn1, ok_go, nx_l, nx_r, sS_s, sS_n, sS_a, sS_l, sS_k, aS_s, aS_n, aS_1, aS_l, aS_k, lS_l, lS_1, lS_a, lS_k, nS_s, nS_n, nS_1, nS_a, nS_l, updS, updN, nI_eq, nI_leI, nI_ltI, nI_add, pk_mul, nN_e, nN_e', nN_l, nN_g, nN_le, nN_ge, ite_not, if_true, if_false, not_true_eq_false, not_false_eq_true, Nat.not_lt_zero, Nat.reduceEqDiff, Nat.reduceLT, Nat.reduceLeDiff, Nat.reduceAdd, Nat.zero_le, ite_self, reduceCtorEq, bI_t, bI_f, bI_z, bI_1, ok_bb, if_pos, if_neg]
    refine ok_C (e_put h hX hp fun S' h' => ?_)
    simp (disch := omega) only [n_lit, n_m1, ok_S, ok_s, ok_N, ok_n, ↓ok_if, ok_A, ok_a, ok_L, ok_l, ok_zn0, ok_zn1, ok_f2, ok_pure, ok_rI, ok_bn0, ok_bn1, ok_rt, ok_riI, ok_rn0, ok_rn1, ok_go, nx_l, nx_r, sS_s, sS_n, sS_a, sS_l, sS_k, aS_s, aS_n, aS_1, aS_l, aS_k, lS_l, lS_1, lS_a, lS_k, nS_s, nS_n, nS_1, nS_a, nS_l, updS, updN, nI_eq, nI_leI, nI_ltI, nI_add, pk_mul, nN_e, nN_e', nN_l, nN_g, nN_le, nN_ge, ite_not, if_true, if_false, not_true_eq_false, not_false_eq_true, Nat.not_lt_zero, Nat.reduceEqDiff, Nat.reduceLT, Nat.reduceLeDiff, Nat.reduceAdd, Nat.zero_le, ite_self, reduceCtorEq, bI_t, bI_f, bI_z, bI_1, ok_bb]
    exact q S' h'
theorem e_mrep {m at0 : Nat} {Q : Unit → qSt → Prop} (hM : MX t W N S0) (hn : n < N) (hN : N ≤ 110) (hL2 : L ≤ 160) (hb : ∀ x ∈ ts0, 0 < W x.1) (hb2 : sumT W ts0 ≤ 157) (h : PR t W N L X S0 ts0 n at0 at0 S nw) (hk : (t n).2.1 = [m]) (hm : n < m ∧ m < N) (lenE : ∀ a, (em t W N m a).length = W m) (hWn : W n = wRep (t n).2.2.1 (t n).2.2.2.1 (t n).2.2.2.2.1 (W m)) (hok : okN (t n)) (hA : AGL X (emCp (em t W N) m (W m) (plN (t n).2.2.1 (t n).2.2.2.1) at0 ++ emTl (em t W N) m (W m) (t n).2.2.1 (t n).2.2.2.1 (t n).2.2.2.2.1 (t n).2.2.2.2.2.1 at0 (W n) (at0 + plN (t n).2.2.1 (t n).2.2.2.1 * W m)) at0) (hL : at0 + W n ≤ L) (q : ∀ S' nw', PR t W N L X S0 ts0 n at0 (at0 + W n) S' nw' → Q () S') : okS (f_Md_writeRepeat (nI n) (nI at0)) S Q := by
  obtain ⟨⟨r1, r2, r3, r4, r5, r6, r7, r8⟩, _⟩ := hM.1 n hn
  rw [hk] at r2
  have r2' : S0.2.1 3 n = nI m := r2
  have rd : ∀ S', FrT S0 S' → S'.2.1 3 n = nI m ∧ S'.2.1 6 n = nI (t n).2.2.1 ∧ S'.2.1 7 n = nI (t n).2.2.2.1 ∧ S'.2.1 8 n = nI (t n).2.2.2.2.1 ∧ S'.2.1 9 n = nI (t n).2.2.2.2.2.1 ∧ S'.2.1 10 m = nI (wd W m) ∧ S'.2.1 10 n = nI (wd W n) := by
    intro S' f
    rw [f.2.2 3 (by omega), f.2.2 6 (by omega), f.2.2 7 (by omega), f.2.2 8 (by omega), f.2.2 9 (by omega), f.2.2 10 (by omega)]
    exact ⟨r2', r5, r6, r7, r8, hM.2 m hm.2, hM.2 n hn⟩
  obtain ⟨A1, A2⟩ := AGL_app hA
  rw [emCp_len lenE] at A2
  obtain ⟨o1, o2, o3, o4, o5⟩ := hok
  have wn : wd W n = W n := by
    unfold wd
    omega
  rw [wn] at rd
  clear r1 r2 r3 r4 r5 r6 r7 r8 hA hk
  generalize (t n).2.2.1 = how at *
  generalize (t n).2.2.2.1 = le at *
  generalize (t n).2.2.2.2.1 = mo at *
  generalize (t n).2.2.2.2.2.1 = lz at *
  have wd9 : wd W m ≤ 10000 := by
    unfold wd
    omega
  have wdm : W m ≤ 160 → wd W m = W m := by
    unfold wd
    omega
  have lat : ∀ {pos : Nat} {S : qSt} {nw : List (Nat × Nat)} {Q : Unit → qSt → Prop}, PR t W N L X S0 ts0 n at0 pos S nw → at0 ≤ pos → AGL X (em t W N m pos) pos → pos + W m ≤ L → (∀ S' nw', PR t W N L X S0 ts0 n at0 (pos + W m) S' nw' → Q () S') → okS (f_Md_later (nI m) (nI pos)) S Q := by
    intro pos S nw Q h hlo hA hL q
    exact e_later h hm.2 hm.1 hN (rd S h.2.1).2.2.2.2.2.1 hA hL hL2 hb (by omega) q
  have lp62 : ∀ (k v pos : Nat) (S : qSt) (nw : List (Nat × Nat)) (Q : Unit → qSt → Prop), v + k = plN how le → PR t W N L X S0 ts0 n at0 pos S nw → at0 ≤ pos → AGL X (emCp (em t W N) m (W m) k pos) pos → pos + k * W m ≤ L → (∀ S' nw', PR t W N L X S0 ts0 n at0 (pos + k * W m) S' nw' → okS (k_Md_writeRepeat_62 (nI n) (nI at0) (nI m) (nI (wd W m)) (nI how) (nI (pos + k * W m)) (nI (plN how le)) (nI (plN how le))) S' (nxS b_Md_writeRepeat Q)) → okS (w_fix b_Md_writeRepeat (62, [.int (nI n), .int (nI at0), .int (nI m), .int (nI (wd W m)), .int (nI how), .int (nI pos), .int (nI (plN how le)), .int (nI v)], [])) S Q := by
    have pl9 : plN how le ≤ 9 := by
      unfold plN
      split
      · omega
      · split <;> omega
    intro k
    induction k with
    | zero =>
      intro v pos S nw Q hv h hlo hA hL q
      refine ok_fix ?_
      show okS (k_Md_writeRepeat_62 (nI n) (nI at0) (nI m) (nI (wd W m)) (nI how) (nI pos) (nI (plN how le)) (nI v)) S _
      have e0 : pos + 0 * W m = pos := by omega
      have ev : v = plN how le := by omega
      rw [e0] at q
      rw [ev]
      exact q S nw h
    | succ k ih =>
      intro v pos S nw Q hv h hlo hA hL q
      rw [Nat.succ_mul] at hL q
      obtain ⟨B1, B2⟩ := AGL_app (show AGL X (em t W N m pos ++ emCp (em t W N) m (W m) k (pos + W m)) pos from hA)
      rw [lenE] at B2
      refine ok_fix ?_
      show okS (k_Md_writeRepeat_62 (nI n) (nI at0) (nI m) (nI (wd W m)) (nI how) (nI pos) (nI (plN how le)) (nI v)) S _
      unfold k_Md_writeRepeat_62
      simp (disch := omega) only [n_lit, n_m1, ok_S, ok_s, ok_N, ok_n, ↓ok_if, ok_A, ok_a, ok_L, ok_l, ok_zn0, ok_zn1, ok_f2, ok_pure, ok_rI, ok_bn0, ok_bn1, ok_rt, ok_riI, ok_rn0, ok_rn1, ok_go, nx_l, nx_r, sS_s, sS_n, sS_a, sS_l, sS_k, aS_s, aS_n, aS_1, aS_l, aS_k, lS_l, lS_1, lS_a, lS_k, nS_s, nS_n, nS_1, nS_a, nS_l, updS, updN, nI_eq, nI_leI, nI_ltI, nI_add, pk_mul, nN_e, nN_e', nN_l, nN_g, nN_le, nN_ge, ite_not, if_true, if_false, not_true_eq_false, not_false_eq_true, Nat.not_lt_zero, Nat.reduceEqDiff, Nat.reduceLT, Nat.reduceLeDiff, Nat.reduceAdd, Nat.zero_le, ite_self, reduceCtorEq, bI_t, bI_f, bI_z, bI_1, ok_bb, if_pos, if_neg]
      refine ok_C (lat h hlo B1 (by omega) fun S1 nw1 h1 => ?_)
      simp (disch := omega) only [n_lit, n_m1, ok_S, ok_s, ok_N, ok_n, ↓ok_if, ok_A, ok_a, ok_L, ok_l, ok_zn0, ok_zn1, ok_f2, ok_pure, ok_rI, ok_bn0, ok_bn1, ok_rt, ok_riI, ok_rn0, ok_rn1, ok_go, nx_l, nx_r, sS_s, sS_n, sS_a, sS_l, sS_k, aS_s, aS_n, aS_1, aS_l, aS_k, lS_l, lS_1, lS_a, lS_k, nS_s, nS_n, nS_1, nS_a, nS_l, updS, updN, nI_eq, nI_leI, nI_ltI, nI_add, pk_mul, nN_e, nN_e', nN_l, nN_g, nN_le, nN_ge, ite_not, if_true, if_false, not_true_eq_false, not_false_eq_true, Nat.not_lt_zero, Nat.reduceEqDiff, Nat.reduceLT, Nat.reduceLeDiff, Nat.reduceAdd, Nat.zero_le, ite_self, reduceCtorEq, bI_t, bI_f, bI_z, bI_1, ok_bb, if_pos, if_neg]
      rw [wdm (by omega)] at ih q ⊢
      refine ih (v + 1) (pos + W m) S1 nw1 Q (by omega) h1 (by omega) B2 (by omega) ?_
      intro S2 nw2 h2
      have e1 : pos + W m + k * W m = pos + (k * W m + W m) := by omega
      rw [e1] at h2 ⊢
      exact q S2 nw2 h2
  have lp228 : ∀ (fin T k v pos : Nat) (S : qSt) (nw : List (Nat × Nat)) (Q : Unit → qSt → Prop), fin ≤ 1000 → T ≤ 9 → v + k = T → PR t W N L X S0 ts0 n at0 pos S nw → at0 ≤ pos → AGL X (emOp (em t W N) m (W m) lz fin k pos) pos → pos + k * (W m + 1) ≤ L → (∀ S' nw', PR t W N L X S0 ts0 n at0 (pos + k * (W m + 1)) S' nw' → Q () S') → okS (w_fix b_Md_writeRepeat (228, [.int (nI n), .int (nI m), .int (nI (wd W m)), .int (nI pos), .int (nI fin), .int (nI T), .int (nI v)], [])) S Q := by
    intro fin T k
    induction k with
    | zero =>
      intro v pos S nw Q hf hT hv h hlo hA hL q
      refine ok_fix ?_
      show okS (k_Md_writeRepeat_228 (nI n) (nI m) (nI (wd W m)) (nI pos) (nI fin) (nI T) (nI v)) S _
      unfold k_Md_writeRepeat_228
      simp (disch := omega) only [n_lit, n_m1, ok_S, ok_s, ok_N, ok_n, ↓ok_if, ok_A, ok_a, ok_L, ok_l, ok_zn0, ok_zn1, ok_f2, ok_pure, ok_rI, ok_bn0, ok_bn1, ok_rt, ok_riI, ok_rn0, ok_rn1, ok_go, nx_l, nx_r, sS_s, sS_n, sS_a, sS_l, sS_k, aS_s, aS_n, aS_1, aS_l, aS_k, lS_l, lS_1, lS_a, lS_k, nS_s, nS_n, nS_1, nS_a, nS_l, updS, updN, nI_eq, nI_leI, nI_ltI, nI_add, pk_mul, nN_e, nN_e', nN_l, nN_g, nN_le, nN_ge, ite_not, if_true, if_false, not_true_eq_false, not_false_eq_true, Nat.not_lt_zero, Nat.reduceEqDiff, Nat.reduceLT, Nat.reduceLeDiff, Nat.reduceAdd, Nat.zero_le, ite_self, reduceCtorEq, bI_t, bI_f, bI_z, bI_1, ok_bb, if_pos, if_neg]
      refine q S nw ?_
      rw [show pos + 0 * (W m + 1) = pos by omega]
      exact h
    | succ k ih =>
      intro v pos S nw Q hf hT hv h hlo hA hL q
      rw [Nat.succ_mul] at hL q
      obtain ⟨B0, B1⟩ := (show AGL X (spl lz (pos + 1) fin :: (em t W N m (pos + 1) ++ emOp (em t W N) m (W m) lz fin k (pos + W m + 1))) pos from hA)
      obtain ⟨B2, B3⟩ := AGL_app B1
      rw [lenE] at B3
      refine ok_fix ?_
      show okS (k_Md_writeRepeat_228 (nI n) (nI m) (nI (wd W m)) (nI pos) (nI fin) (nI T) (nI v)) S _
      unfold k_Md_writeRepeat_228
      have rs := (rd S h.2.1).2.2.2.2.1
      simp (disch := omega) only [n_lit, n_m1, ok_S, ok_s, ok_N, ok_n, ↓ok_if, ok_A, ok_a, ok_L, ok_l, ok_zn0, ok_zn1, ok_f2, ok_pure, ok_rI, ok_bn0, ok_bn1, ok_rt, ok_riI, ok_rn0, ok_rn1, ok_go, nx_l, nx_r, sS_s, sS_n, sS_a, sS_l, sS_k, aS_s, aS_n, aS_1, aS_l, aS_k, lS_l, lS_1, lS_a, lS_k, nS_s, nS_n, nS_1, nS_a, nS_l, updS, updN, nI_eq, nI_leI, nI_ltI, nI_add, pk_mul, nN_e, nN_e', nN_l, nN_g, nN_le, nN_ge, ite_not, if_true, if_false, not_true_eq_false, not_false_eq_true, Nat.not_lt_zero, Nat.reduceEqDiff, Nat.reduceLT, Nat.reduceLeDiff, Nat.reduceAdd, Nat.zero_le, ite_self, reduceCtorEq, bI_t, bI_f, bI_z, bI_1, ok_bb, if_pos, if_neg, rs]
      refine ok_C (e_split h B0.symm (by omega) o4 fun S1 h1 => ?_)
      refine ok_C (lat h1 (by omega) B2 (by omega) fun S2 nw2 h2 => ?_)
      simp (disch := omega) only [n_lit, n_m1, ok_S, ok_s, ok_N, ok_n, ↓ok_if, ok_A, ok_a, ok_L, ok_l, ok_zn0, ok_zn1, ok_f2, ok_pure, ok_rI, ok_bn0, ok_bn1, ok_rt, ok_riI, ok_rn0, ok_rn1, ok_go, nx_l, nx_r, sS_s, sS_n, sS_a, sS_l, sS_k, aS_s, aS_n, aS_1, aS_l, aS_k, lS_l, lS_1, lS_a, lS_k, nS_s, nS_n, nS_1, nS_a, nS_l, updS, updN, nI_eq, nI_leI, nI_ltI, nI_add, pk_mul, nN_e, nN_e', nN_l, nN_g, nN_le, nN_ge, ite_not, if_true, if_false, not_true_eq_false, not_false_eq_true, Nat.not_lt_zero, Nat.reduceEqDiff, Nat.reduceLT, Nat.reduceLeDiff, Nat.reduceAdd, Nat.zero_le, ite_self, reduceCtorEq, bI_t, bI_f, bI_z, bI_1, ok_bb, if_pos, if_neg]
      rw [wdm (by omega)] at ih ⊢
      have e1 : pos + 1 + W m = pos + (W m + 1) := by omega
      have e2 : pos + W m + 1 = pos + (W m + 1) := by omega
      rw [e1] at h2 B3
      rw [e2] at B3
      refine ih (v + 1) (pos + (W m + 1)) S2 nw2 Q hf hT (by omega) h2 (by omega) B3 (by omega) ?_
      intro S3 nw3 h3
      refine q S3 nw3 ?_
      rw [show pos + (k * (W m + 1) + (W m + 1)) = pos + (W m + 1) + k * (W m + 1) by omega]
      exact h3
  -- without end
  have c127 : ∀ (pos : Nat) (S : qSt) (nw : List (Nat × Nat)) (Q : Unit → qSt → Prop), PR t W N L X S0 ts0 n at0 pos S nw → at0 ≤ pos → AGL X (spl lz (pos + 1) (pos + W m + 2) :: (em t W N m (pos + 1) ++ [(2, pos, 0)])) pos → pos + W m + 2 ≤ L → (∀ S' nw', PR t W N L X S0 ts0 n at0 (pos + W m + 2) S' nw' → Q () S') → okS (k_Md_writeRepeat_127 (nI n) (nI m) (nI (wd W m)) (nI pos)) S (nxS b_Md_writeRepeat Q) := by
    intro pos S nw Q h hlo hA hL q
    obtain ⟨B0, B1⟩ := hA
    obtain ⟨B2, B3⟩ := AGL_app B1
    rw [lenE] at B3
    unfold k_Md_writeRepeat_127
    have rs := (rd S h.2.1).2.2.2.2.1
    rw [wdm (by omega)]
    simp (disch := omega) only [n_lit, n_m1, ok_S, ok_s, ok_N, ok_n, ↓ok_if, ok_A, ok_a, ok_L, ok_l, ok_zn0, ok_zn1, ok_f2, ok_pure, ok_rI, ok_bn0, ok_bn1, ok_rt, ok_riI, ok_rn0, ok_rn1, ok_go, nx_l, nx_r, sS_s, sS_n, sS_a, sS_l, sS_k, aS_s, aS_n, aS_1, aS_l, aS_k, lS_l, lS_1, lS_a, lS_k, nS_s, nS_n, nS_1, nS_a, nS_l, updS, updN, nI_eq, nI_leI, nI_ltI, nI_add, pk_mul, nN_e, nN_e', nN_l, nN_g, nN_le, nN_ge, ite_not, if_true, if_false, not_true_eq_false, not_false_eq_true, Nat.not_lt_zero, Nat.reduceEqDiff, Nat.reduceLT, Nat.reduceLeDiff, Nat.reduceAdd, Nat.zero_le, ite_self, reduceCtorEq, bI_t, bI_f, bI_z, bI_1, ok_bb, if_pos, if_neg, rs]
    refine ok_C (e_split h B0.symm (by omega) o4 fun S1 h1 => ?_)
    refine ok_C (lat h1 (by omega) B2 (by omega) fun S2 nw2 h2 => ?_)
    have e1 : pos + W m + 1 = pos + 1 + W m := by omega
    rw [e1]
    refine ok_C (e_put h2 B3.1.symm (by omega) fun S3 h3 => ?_)
    simp (disch := omega) only [n_lit, n_m1, ok_S, ok_s, ok_N, ok_n, ↓ok_if, ok_A, ok_a, ok_L, ok_l, ok_zn0, ok_zn1, ok_f2, ok_pure, ok_rI, ok_bn0, ok_bn1, ok_rt, ok_riI, ok_rn0, ok_rn1, ok_go, nx_l, nx_r, sS_s, sS_n, sS_a, sS_l, sS_k, aS_s, aS_n, aS_1, aS_l, aS_k, lS_l, lS_1, lS_a, lS_k, nS_s, nS_n, nS_1, nS_a, nS_l, updS, updN, nI_eq, nI_leI, nI_ltI, nI_add, pk_mul, nN_e, nN_e', nN_l, nN_g, nN_le, nN_ge, ite_not, if_true, if_false, not_true_eq_false, not_false_eq_true, Nat.not_lt_zero, Nat.reduceEqDiff, Nat.reduceLT, Nat.reduceLeDiff, Nat.reduceAdd, Nat.zero_le, ite_self, reduceCtorEq, bI_t, bI_f, bI_z, bI_1, ok_bb, if_pos, if_neg]
    refine q S3 nw2 ?_
    rw [show pos + W m + 2 = pos + 1 + W m + 1 by omega]
    exact h3
  unfold f_Md_writeRepeat
  refine ok_fix ?_
  show okS (k_Md_writeRepeat_0 (nI n) (nI at0)) S _
  unfold k_Md_writeRepeat_0
  obtain ⟨q1, q2, q3, q4, q5, q6, q7⟩ := rd S h.2.1
  have hh : how = 0 ∨ how = 1 ∨ how = 2 ∨ how = 3 ∨ how = 4 ∨ how = 5 ∨ how = 6 := by omega
  rcases hh with e | e | e | e | e | e | e
  · subst e
    have w1 : W n = W m := hWn
    simp (disch := omega) only [n_lit, n_m1, ok_S, ok_s, ok_N, ok_n, ↓ok_if, ok_A, ok_a, ok_L, ok_l, ok_zn0, ok_zn1, ok_f2, ok_pure, ok_rI, ok_bn0, ok_bn1, ok_rt, ok_riI, ok_rn0, ok_rn1, ok_go, nx_l, nx_r, sS_s, sS_n, sS_a, sS_l, sS_k, aS_s, aS_n, aS_1, aS_l, aS_k, lS_l, lS_1, lS_a, lS_k, nS_s, nS_n, nS_1, nS_a, nS_l, updS, updN, nI_eq, nI_leI, nI_ltI, nI_add, pk_mul, nN_e, nN_e', nN_l, nN_g, nN_le, nN_ge, ite_not, if_true, if_false, not_true_eq_false, not_false_eq_true, Nat.not_lt_zero, Nat.reduceEqDiff, Nat.reduceLT, Nat.reduceLeDiff, Nat.reduceAdd, Nat.zero_le, ite_self, reduceCtorEq, bI_t, bI_f, bI_z, bI_1, ok_bb, if_pos, if_neg, q1, q6, q2]
    refine lp62 1 0 at0 S nw Q rfl h (Nat.le_refl _) A1 (by omega) ?_
    intro S1 nw1 h1
    show okS (k_Md_writeRepeat_62 (nI n) (nI at0) (nI m) (nI (wd W m)) (nI 0) (nI (at0 + 1 * W m)) (nI 1) (nI 1)) S1 _
    unfold k_Md_writeRepeat_62
    simp (disch := omega) only [n_lit, n_m1, ok_S, ok_s, ok_N, ok_n, ↓ok_if, ok_A, ok_a, ok_L, ok_l, ok_zn0, ok_zn1, ok_f2, ok_pure, ok_rI, ok_bn0, ok_bn1, ok_rt, ok_riI, ok_rn0, ok_rn1, ok_go, nx_l, nx_r, sS_s, sS_n, sS_a, sS_l, sS_k, aS_s, aS_n, aS_1, aS_l, aS_k, lS_l, lS_1, lS_a, lS_k, nS_s, nS_n, nS_1, nS_a, nS_l, updS, updN, nI_eq, nI_leI, nI_ltI, nI_add, pk_mul, nN_e, nN_e', nN_l, nN_g, nN_le, nN_ge, ite_not, if_true, if_false, not_true_eq_false, not_false_eq_true, Nat.not_lt_zero, Nat.reduceEqDiff, Nat.reduceLT, Nat.reduceLeDiff, Nat.reduceAdd, Nat.zero_le, ite_self, reduceCtorEq, bI_t, bI_f, bI_z, bI_1, ok_bb, if_pos, if_neg]
    refine q S1 nw1 ?_
    rw [show at0 + W n = at0 + 1 * W m by omega]
    exact h1
  · subst e
    have w1 : W n = W m + 2 := hWn
    simp (disch := omega) only [n_lit, n_m1, ok_S, ok_s, ok_N, ok_n, ↓ok_if, ok_A, ok_a, ok_L, ok_l, ok_zn0, ok_zn1, ok_f2, ok_pure, ok_rI, ok_bn0, ok_bn1, ok_rt, ok_riI, ok_rn0, ok_rn1, ok_go, nx_l, nx_r, sS_s, sS_n, sS_a, sS_l, sS_k, aS_s, aS_n, aS_1, aS_l, aS_k, lS_l, lS_1, lS_a, lS_k, nS_s, nS_n, nS_1, nS_a, nS_l, updS, updN, nI_eq, nI_leI, nI_ltI, nI_add, pk_mul, nN_e, nN_e', nN_l, nN_g, nN_le, nN_ge, ite_not, if_true, if_false, not_true_eq_false, not_false_eq_true, Nat.not_lt_zero, Nat.reduceEqDiff, Nat.reduceLT, Nat.reduceLeDiff, Nat.reduceAdd, Nat.zero_le, ite_self, reduceCtorEq, bI_t, bI_f, bI_z, bI_1, ok_bb, if_pos, if_neg, q1, q6, q2]
    refine lp62 0 0 at0 S nw Q rfl h (Nat.le_refl _) A1 (by omega) ?_
    intro S1 nw1 h1
    show okS (k_Md_writeRepeat_62 (nI n) (nI at0) (nI m) (nI (wd W m)) (nI 1) (nI (at0 + 0 * W m)) (nI 0) (nI 0)) S1 _
    unfold k_Md_writeRepeat_62
    simp (disch := omega) only [n_lit, n_m1, ok_S, ok_s, ok_N, ok_n, ↓ok_if, ok_A, ok_a, ok_L, ok_l, ok_zn0, ok_zn1, ok_f2, ok_pure, ok_rI, ok_bn0, ok_bn1, ok_rt, ok_riI, ok_rn0, ok_rn1, ok_go, nx_l, nx_r, sS_s, sS_n, sS_a, sS_l, sS_k, aS_s, aS_n, aS_1, aS_l, aS_k, lS_l, lS_1, lS_a, lS_k, nS_s, nS_n, nS_1, nS_a, nS_l, updS, updN, nI_eq, nI_leI, nI_ltI, nI_add, pk_mul, nN_e, nN_e', nN_l, nN_g, nN_le, nN_ge, ite_not, if_true, if_false, not_true_eq_false, not_false_eq_true, Nat.not_lt_zero, Nat.reduceEqDiff, Nat.reduceLT, Nat.reduceLeDiff, Nat.reduceAdd, Nat.zero_le, ite_self, reduceCtorEq, bI_t, bI_f, bI_z, bI_1, ok_bb, if_pos, if_neg]
    refine c127 _ S1 nw1 Q h1 (by omega) A2 (by omega) ?_
    intro S2 nw2 h2
    refine q S2 nw2 ?_
    rw [show at0 + W n = at0 + 0 * W m + W m + 2 by omega]
    exact h2
  · subst e
    have w1 : W n = W m + 1 := hWn
    simp (disch := omega) only [n_lit, n_m1, ok_S, ok_s, ok_N, ok_n, ↓ok_if, ok_A, ok_a, ok_L, ok_l, ok_zn0, ok_zn1, ok_f2, ok_pure, ok_rI, ok_bn0, ok_bn1, ok_rt, ok_riI, ok_rn0, ok_rn1, ok_go, nx_l, nx_r, sS_s, sS_n, sS_a, sS_l, sS_k, aS_s, aS_n, aS_1, aS_l, aS_k, lS_l, lS_1, lS_a, lS_k, nS_s, nS_n, nS_1, nS_a, nS_l, updS, updN, nI_eq, nI_leI, nI_ltI, nI_add, pk_mul, nN_e, nN_e', nN_l, nN_g, nN_le, nN_ge, ite_not, if_true, if_false, not_true_eq_false, not_false_eq_true, Nat.not_lt_zero, Nat.reduceEqDiff, Nat.reduceLT, Nat.reduceLeDiff, Nat.reduceAdd, Nat.zero_le, ite_self, reduceCtorEq, bI_t, bI_f, bI_z, bI_1, ok_bb, if_pos, if_neg, q1, q6, q2]
    refine lp62 1 0 at0 S nw Q rfl h (Nat.le_refl _) A1 (by omega) ?_
    intro S1 nw1 h1
    show okS (k_Md_writeRepeat_62 (nI n) (nI at0) (nI m) (nI (wd W m)) (nI 2) (nI (at0 + 1 * W m)) (nI 1) (nI 1)) S1 _
    unfold k_Md_writeRepeat_62
    have rs := (rd S1 h1.2.1).2.2.2.2.1
    simp (disch := omega) only [n_lit, n_m1, ok_S, ok_s, ok_N, ok_n, ↓ok_if, ok_A, ok_a, ok_L, ok_l, ok_zn0, ok_zn1, ok_f2, ok_pure, ok_rI, ok_bn0, ok_bn1, ok_rt, ok_riI, ok_rn0, ok_rn1, ok_go, nx_l, nx_r, sS_s, sS_n, sS_a, sS_l, sS_k, aS_s, aS_n, aS_1, aS_l, aS_k, lS_l, lS_1, lS_a, lS_k, nS_s, nS_n, nS_1, nS_a, nS_l, updS, updN, nI_eq, nI_leI, nI_ltI, nI_add, pk_mul, nN_e, nN_e', nN_l, nN_g, nN_le, nN_ge, ite_not, if_true, if_false, not_true_eq_false, not_false_eq_true, Nat.not_lt_zero, Nat.reduceEqDiff, Nat.reduceLT, Nat.reduceLeDiff, Nat.reduceAdd, Nat.zero_le, ite_self, reduceCtorEq, bI_t, bI_f, bI_z, bI_1, ok_bb, if_pos, if_neg, rs]
    have A3 : AGL X [spl lz at0 (at0 + 1 * W m + 1)] (at0 + 1 * W m) := A2
    refine ok_C (e_split h1 A3.1.symm (by omega) o4 fun S2 h2 => ?_)
    simp (disch := omega) only [n_lit, n_m1, ok_S, ok_s, ok_N, ok_n, ↓ok_if, ok_A, ok_a, ok_L, ok_l, ok_zn0, ok_zn1, ok_f2, ok_pure, ok_rI, ok_bn0, ok_bn1, ok_rt, ok_riI, ok_rn0, ok_rn1, ok_go, nx_l, nx_r, sS_s, sS_n, sS_a, sS_l, sS_k, aS_s, aS_n, aS_1, aS_l, aS_k, lS_l, lS_1, lS_a, lS_k, nS_s, nS_n, nS_1, nS_a, nS_l, updS, updN, nI_eq, nI_leI, nI_ltI, nI_add, pk_mul, nN_e, nN_e', nN_l, nN_g, nN_le, nN_ge, ite_not, if_true, if_false, not_true_eq_false, not_false_eq_true, Nat.not_lt_zero, Nat.reduceEqDiff, Nat.reduceLT, Nat.reduceLeDiff, Nat.reduceAdd, Nat.zero_le, ite_self, reduceCtorEq, bI_t, bI_f, bI_z, bI_1, ok_bb, if_pos, if_neg]
    refine q S2 nw1 ?_
    rw [show at0 + W n = at0 + 1 * W m + 1 by omega]
    exact h2
  · subst e
    have w1 : W n = W m + 1 := hWn
    simp (disch := omega) only [n_lit, n_m1, ok_S, ok_s, ok_N, ok_n, ↓ok_if, ok_A, ok_a, ok_L, ok_l, ok_zn0, ok_zn1, ok_f2, ok_pure, ok_rI, ok_bn0, ok_bn1, ok_rt, ok_riI, ok_rn0, ok_rn1, ok_go, nx_l, nx_r, sS_s, sS_n, sS_a, sS_l, sS_k, aS_s, aS_n, aS_1, aS_l, aS_k, lS_l, lS_1, lS_a, lS_k, nS_s, nS_n, nS_1, nS_a, nS_l, updS, updN, nI_eq, nI_leI, nI_ltI, nI_add, pk_mul, nN_e, nN_e', nN_l, nN_g, nN_le, nN_ge, ite_not, if_true, if_false, not_true_eq_false, not_false_eq_true, Nat.not_lt_zero, Nat.reduceEqDiff, Nat.reduceLT, Nat.reduceLeDiff, Nat.reduceAdd, Nat.zero_le, ite_self, reduceCtorEq, bI_t, bI_f, bI_z, bI_1, ok_bb, if_pos, if_neg, q1, q6, q2]
    refine lp62 0 0 at0 S nw Q rfl h (Nat.le_refl _) A1 (by omega) ?_
    intro S1 nw1 h1
    show okS (k_Md_writeRepeat_62 (nI n) (nI at0) (nI m) (nI (wd W m)) (nI 3) (nI (at0 + 0 * W m)) (nI 0) (nI 0)) S1 _
    unfold k_Md_writeRepeat_62 k_Md_writeRepeat_190
    have rs := (rd S1 h1.2.1).2.2.2.2.2.2
    simp (disch := omega) only [n_lit, n_m1, ok_S, ok_s, ok_N, ok_n, ↓ok_if, ok_A, ok_a, ok_L, ok_l, ok_zn0, ok_zn1, ok_f2, ok_pure, ok_rI, ok_bn0, ok_bn1, ok_rt, ok_riI, ok_rn0, ok_rn1, ok_go, nx_l, nx_r, sS_s, sS_n, sS_a, sS_l, sS_k, aS_s, aS_n, aS_1, aS_l, aS_k, lS_l, lS_1, lS_a, lS_k, nS_s, nS_n, nS_1, nS_a, nS_l, updS, updN, nI_eq, nI_leI, nI_ltI, nI_add, pk_mul, nN_e, nN_e', nN_l, nN_g, nN_le, nN_ge, ite_not, if_true, if_false, not_true_eq_false, not_false_eq_true, Nat.not_lt_zero, Nat.reduceEqDiff, Nat.reduceLT, Nat.reduceLeDiff, Nat.reduceAdd, Nat.zero_le, ite_self, reduceCtorEq, bI_t, bI_f, bI_z, bI_1, ok_bb, if_pos, if_neg, rs]
    have A3 : AGL X (emOp (em t W N) m (W m) lz (at0 + W n) 1 (at0 + 0 * W m)) (at0 + 0 * W m) := A2
    refine lp228 (at0 + W n) 1 1 0 _ S1 nw1 Q (by omega) (by omega) rfl h1 (by omega) A3 (by omega) ?_
    intro S2 nw2 h2
    refine q S2 nw2 ?_
    rw [show at0 + W n = at0 + 0 * W m + 1 * (W m + 1) by omega]
    exact h2
  · subst e
    have w1 : W n = le * W m := hWn
    simp (disch := omega) only [n_lit, n_m1, ok_S, ok_s, ok_N, ok_n, ↓ok_if, ok_A, ok_a, ok_L, ok_l, ok_zn0, ok_zn1, ok_f2, ok_pure, ok_rI, ok_bn0, ok_bn1, ok_rt, ok_riI, ok_rn0, ok_rn1, ok_go, nx_l, nx_r, sS_s, sS_n, sS_a, sS_l, sS_k, aS_s, aS_n, aS_1, aS_l, aS_k, lS_l, lS_1, lS_a, lS_k, nS_s, nS_n, nS_1, nS_a, nS_l, updS, updN, nI_eq, nI_leI, nI_ltI, nI_add, pk_mul, nN_e, nN_e', nN_l, nN_g, nN_le, nN_ge, ite_not, if_true, if_false, not_true_eq_false, not_false_eq_true, Nat.not_lt_zero, Nat.reduceEqDiff, Nat.reduceLT, Nat.reduceLeDiff, Nat.reduceAdd, Nat.zero_le, ite_self, reduceCtorEq, bI_t, bI_f, bI_z, bI_1, ok_bb, if_pos, if_neg, q1, q6, q2, q3]
    refine lp62 le 0 at0 S nw Q (Nat.zero_add _) h (Nat.le_refl _) A1 (by omega) ?_
    intro S1 nw1 h1
    show okS (k_Md_writeRepeat_62 (nI n) (nI at0) (nI m) (nI (wd W m)) (nI 4) (nI (at0 + le * W m)) (nI le) (nI le)) S1 _
    unfold k_Md_writeRepeat_62
    simp (disch := omega) only [n_lit, n_m1, ok_S, ok_s, ok_N, ok_n, ↓ok_if, ok_A, ok_a, ok_L, ok_l, ok_zn0, ok_zn1, ok_f2, ok_pure, ok_rI, ok_bn0, ok_bn1, ok_rt, ok_riI, ok_rn0, ok_rn1, ok_go, nx_l, nx_r, sS_s, sS_n, sS_a, sS_l, sS_k, aS_s, aS_n, aS_1, aS_l, aS_k, lS_l, lS_1, lS_a, lS_k, nS_s, nS_n, nS_1, nS_a, nS_l, updS, updN, nI_eq, nI_leI, nI_ltI, nI_add, pk_mul, nN_e, nN_e', nN_l, nN_g, nN_le, nN_ge, ite_not, if_true, if_false, not_true_eq_false, not_false_eq_true, Nat.not_lt_zero, Nat.reduceEqDiff, Nat.reduceLT, Nat.reduceLeDiff, Nat.reduceAdd, Nat.zero_le, ite_self, reduceCtorEq, bI_t, bI_f, bI_z, bI_1, ok_bb, if_pos, if_neg]
    refine q S1 nw1 ?_
    rw [w1]
    exact h1
  · subst e
    have w1 : W n = (le + 1) * W m + 2 := hWn
    rw [Nat.succ_mul] at w1
    simp (disch := omega) only [n_lit, n_m1, ok_S, ok_s, ok_N, ok_n, ↓ok_if, ok_A, ok_a, ok_L, ok_l, ok_zn0, ok_zn1, ok_f2, ok_pure, ok_rI, ok_bn0, ok_bn1, ok_rt, ok_riI, ok_rn0, ok_rn1, ok_go, nx_l, nx_r, sS_s, sS_n, sS_a, sS_l, sS_k, aS_s, aS_n, aS_1, aS_l, aS_k, lS_l, lS_1, lS_a, lS_k, nS_s, nS_n, nS_1, nS_a, nS_l, updS, updN, nI_eq, nI_leI, nI_ltI, nI_add, pk_mul, nN_e, nN_e', nN_l, nN_g, nN_le, nN_ge, ite_not, if_true, if_false, not_true_eq_false, not_false_eq_true, Nat.not_lt_zero, Nat.reduceEqDiff, Nat.reduceLT, Nat.reduceLeDiff, Nat.reduceAdd, Nat.zero_le, ite_self, reduceCtorEq, bI_t, bI_f, bI_z, bI_1, ok_bb, if_pos, if_neg, q1, q6, q2, q3]
    refine lp62 le 0 at0 S nw Q (Nat.zero_add _) h (Nat.le_refl _) A1 (by omega) ?_
    intro S1 nw1 h1
    show okS (k_Md_writeRepeat_62 (nI n) (nI at0) (nI m) (nI (wd W m)) (nI 5) (nI (at0 + le * W m)) (nI le) (nI le)) S1 _
    unfold k_Md_writeRepeat_62
    simp (disch := omega) only [n_lit, n_m1, ok_S, ok_s, ok_N, ok_n, ↓ok_if, ok_A, ok_a, ok_L, ok_l, ok_zn0, ok_zn1, ok_f2, ok_pure, ok_rI, ok_bn0, ok_bn1, ok_rt, ok_riI, ok_rn0, ok_rn1, ok_go, nx_l, nx_r, sS_s, sS_n, sS_a, sS_l, sS_k, aS_s, aS_n, aS_1, aS_l, aS_k, lS_l, lS_1, lS_a, lS_k, nS_s, nS_n, nS_1, nS_a, nS_l, updS, updN, nI_eq, nI_leI, nI_ltI, nI_add, pk_mul, nN_e, nN_e', nN_l, nN_g, nN_le, nN_ge, ite_not, if_true, if_false, not_true_eq_false, not_false_eq_true, Nat.not_lt_zero, Nat.reduceEqDiff, Nat.reduceLT, Nat.reduceLeDiff, Nat.reduceAdd, Nat.zero_le, ite_self, reduceCtorEq, bI_t, bI_f, bI_z, bI_1, ok_bb, if_pos, if_neg]
    refine c127 _ S1 nw1 Q h1 (by omega) A2 (by omega) ?_
    intro S2 nw2 h2
    refine q S2 nw2 ?_
    rw [show at0 + W n = at0 + le * W m + W m + 2 by omega]
    exact h2
  · subst e
    have w1 : W n = le * W m + (mo - le) * (W m + 1) := hWn
    have o6 := o5 rfl
    simp (disch := omega) only [n_lit, n_m1, ok_S, ok_s, ok_N, ok_n, ↓ok_if, ok_A, ok_a, ok_L, ok_l, ok_zn0, ok_zn1, ok_f2, ok_pure, ok_rI, ok_bn0, ok_bn1, ok_rt, ok_riI, ok_rn0, ok_rn1, ok_go, nx_l, nx_r, sS_s, sS_n, sS_a, sS_l, sS_k, aS_s, aS_n, aS_1, aS_l, aS_k, lS_l, lS_1, lS_a, lS_k, nS_s, nS_n, nS_1, nS_a, nS_l, updS, updN, nI_eq, nI_leI, nI_ltI, nI_add, pk_mul, nN_e, nN_e', nN_l, nN_g, nN_le, nN_ge, ite_not, if_true, if_false, not_true_eq_false, not_false_eq_true, Nat.not_lt_zero, Nat.reduceEqDiff, Nat.reduceLT, Nat.reduceLeDiff, Nat.reduceAdd, Nat.zero_le, ite_self, reduceCtorEq, bI_t, bI_f, bI_z, bI_1, ok_bb, if_pos, if_neg, q1, q6, q2, q3]
    refine lp62 le 0 at0 S nw Q (Nat.zero_add _) h (Nat.le_refl _) A1 (by omega) ?_
    intro S1 nw1 h1
    show okS (k_Md_writeRepeat_62 (nI n) (nI at0) (nI m) (nI (wd W m)) (nI 6) (nI (at0 + le * W m)) (nI le) (nI le)) S1 _
    unfold k_Md_writeRepeat_62 k_Md_writeRepeat_190
    obtain ⟨p1, p2, p3, p4, p5, p6, p7⟩ := rd S1 h1.2.1
    simp (disch := omega) only [n_lit, n_m1, ok_S, ok_s, ok_N, ok_n, ↓ok_if, ok_A, ok_a, ok_L, ok_l, ok_zn0, ok_zn1, ok_f2, ok_pure, ok_rI, ok_bn0, ok_bn1, ok_rt, ok_riI, ok_rn0, ok_rn1, ok_go, nx_l, nx_r, sS_s, sS_n, sS_a, sS_l, sS_k, aS_s, aS_n, aS_1, aS_l, aS_k, lS_l, lS_1, lS_a, lS_k, nS_s, nS_n, nS_1, nS_a, nS_l, updS, updN, nI_eq, nI_leI, nI_ltI, nI_add, pk_mul, nN_e, nN_e', nN_l, nN_g, nN_le, nN_ge, ite_not, if_true, if_false, not_true_eq_false, not_false_eq_true, Nat.not_lt_zero, Nat.reduceEqDiff, Nat.reduceLT, Nat.reduceLeDiff, Nat.reduceAdd, Nat.zero_le, ite_self, reduceCtorEq, bI_t, bI_f, bI_z, bI_1, ok_bb, if_pos, if_neg, p7, p3, p4, pk_sub]
    have A3 : AGL X (emOp (em t W N) m (W m) lz (at0 + W n) (mo - le) (at0 + le * W m)) (at0 + le * W m) := A2
    refine lp228 (at0 + W n) (mo - le) (mo - le) 0 _ S1 nw1 Q (by omega) (by omega) (Nat.zero_add _) h1 (by omega) A3 (by omega) ?_
    intro S2 nw2 h2
    refine q S2 nw2 ?_
    rw [show at0 + W n = at0 + le * W m + (mo - le) * (W m + 1) by omega]
    exact h2
end TR
