/-! COMPILE, by the reference -/
section CM
variable {t : Nat → ND} {W : Nat → Nat} {N L u g e : Nat} {SM SM2 : qSt}
theorem m_there (h22 : SM.1 22 = nI L) (h0 : 0 < L) (hL : L ≤ 160) : okS f_Md_compile SM (fun x S' => x = nI 0 ∧ S' = sS (sS (sS SM 0 (nI 0)) 3 nN) 0 (nI 2)) := by
  unfold f_Md_compile
  refine ok_fix ?_
  show okS k_Md_compile_0 SM _
  unfold k_Md_compile_0
  simp (disch := omega) only [n_lit, n_m1, ok_S, ok_s, ok_N, ok_n, ↓ok_if, ok_A, ok_a, ok_L, ok_l, ok_zn0, ok_zn1, ok_f2, ok_pure, ok_rI, ok_bn0, ok_bn1, ok_rt, ok_riI, ok_rn0, ok_rn1, ok_go, nx_l, nx_r, sS_s, sS_n, sS_a, sS_l, sS_k, aS_s, aS_n, aS_1, aS_l, aS_k, lS_l, lS_1, lS_a, lS_k, nS_s, nS_n, nS_1, nS_a, nS_l, updS, updN, nI_eq, nI_leI, nI_ltI, nI_add, pk_mul, nN_e, nN_e', nN_l, nN_g, nN_le, nN_ge, ite_not, if_true, if_false, not_true_eq_false, not_false_eq_true, Nat.not_lt_zero, Nat.reduceEqDiff, Nat.reduceLT, Nat.reduceLeDiff, Nat.reduceAdd, Nat.zero_le, ite_self, reduceCtorEq, bI_t, bI_f, bI_z, bI_1, ok_bb, if_pos, if_neg, h22]
  unfold k_Md_compile_17
  simp (disch := omega) only [n_lit, n_m1, ok_S, ok_s, ok_N, ok_n, ↓ok_if, ok_A, ok_a, ok_L, ok_l, ok_zn0, ok_zn1, ok_f2, ok_pure, ok_rI, ok_bn0, ok_bn1, ok_rt, ok_riI, ok_rn0, ok_rn1, ok_go, nx_l, nx_r, sS_s, sS_n, sS_a, sS_l, sS_k, aS_s, aS_n, aS_1, aS_l, aS_k, lS_l, lS_1, lS_a, lS_k, nS_s, nS_n, nS_1, nS_a, nS_l, updS, updN, nI_eq, nI_leI, nI_ltI, nI_add, pk_mul, nN_e, nN_e', nN_l, nN_g, nN_le, nN_ge, ite_not, if_true, if_false, not_true_eq_false, not_false_eq_true, Nat.not_lt_zero, Nat.reduceEqDiff, Nat.reduceLT, Nat.reduceLeDiff, Nat.reduceAdd, Nat.zero_le, ite_self, reduceCtorEq, bI_t, bI_f, bI_z, bI_1, ok_bb, if_pos, if_neg]
  unfold k_Md_compile_33 k_Md_compile_34
  simp (disch := omega) only [n_lit, n_m1, ok_S, ok_s, ok_N, ok_n, ↓ok_if, ok_A, ok_a, ok_L, ok_l, ok_zn0, ok_zn1, ok_f2, ok_pure, ok_rI, ok_bn0, ok_bn1, ok_rt, ok_riI, ok_rn0, ok_rn1, ok_go, nx_l, nx_r, sS_s, sS_n, sS_a, sS_l, sS_k, aS_s, aS_n, aS_1, aS_l, aS_k, lS_l, lS_1, lS_a, lS_k, nS_s, nS_n, nS_1, nS_a, nS_l, updS, updN, nI_eq, nI_leI, nI_ltI, nI_add, pk_mul, nN_e, nN_e', nN_l, nN_g, nN_le, nN_ge, ite_not, if_true, if_false, not_true_eq_false, not_false_eq_true, Nat.not_lt_zero, Nat.reduceEqDiff, Nat.reduceLT, Nat.reduceLeDiff, Nat.reduceAdd, Nat.zero_le, ite_self, reduceCtorEq, bI_t, bI_f, bI_z, bI_1, ok_bb, if_pos, if_neg]
  unfold k_Md_compile_44 k_Md_compile_52
  simp (disch := omega) only [n_lit, n_m1, ok_S, ok_s, ok_N, ok_n, ↓ok_if, ok_A, ok_a, ok_L, ok_l, ok_zn0, ok_zn1, ok_f2, ok_pure, ok_rI, ok_bn0, ok_bn1, ok_rt, ok_riI, ok_rn0, ok_rn1, ok_go, nx_l, nx_r, sS_s, sS_n, sS_a, sS_l, sS_k, aS_s, aS_n, aS_1, aS_l, aS_k, lS_l, lS_1, lS_a, lS_k, nS_s, nS_n, nS_1, nS_a, nS_l, updS, updN, nI_eq, nI_leI, nI_ltI, nI_add, pk_mul, nN_e, nN_e', nN_l, nN_g, nN_le, nN_ge, ite_not, if_true, if_false, not_true_eq_false, not_false_eq_true, Nat.not_lt_zero, Nat.reduceEqDiff, Nat.reduceLT, Nat.reduceLeDiff, Nat.reduceAdd, Nat.zero_le, ite_self, reduceCtorEq, bI_t, bI_f, bI_z, bI_1, ok_bb, if_pos, if_neg]
  refine ok_fix ?_
  show okS (k_Md_compile_62 (nI 1) (nI 0) (SM.1 4 - nI 1)) _ _
  have k87 : okS (k_Md_compile_87 (nI 1) (nI 0)) (sS (sS SM 0 (nI 0)) 3 nN) (nxS b_Md_compile (fun x S' => x = nI 0 ∧ S' = sS (sS (sS SM 0 (nI 0)) 3 nN) 0 (nI 2))) := by
    unfold k_Md_compile_87
    simp (disch := omega) only [n_lit, n_m1, ok_S, ok_s, ok_N, ok_n, ↓ok_if, ok_A, ok_a, ok_L, ok_l, ok_zn0, ok_zn1, ok_f2, ok_pure, ok_rI, ok_bn0, ok_bn1, ok_rt, ok_riI, ok_rn0, ok_rn1, ok_go, nx_l, nx_r, sS_s, sS_n, sS_a, sS_l, sS_k, aS_s, aS_n, aS_1, aS_l, aS_k, lS_l, lS_1, lS_a, lS_k, nS_s, nS_n, nS_1, nS_a, nS_l, updS, updN, nI_eq, nI_leI, nI_ltI, nI_add, pk_mul, nN_e, nN_e', nN_l, nN_g, nN_le, nN_ge, ite_not, if_true, if_false, not_true_eq_false, not_false_eq_true, Nat.not_lt_zero, Nat.reduceEqDiff, Nat.reduceLT, Nat.reduceLeDiff, Nat.reduceAdd, Nat.zero_le, ite_self, reduceCtorEq, bI_t, bI_f, bI_z, bI_1, ok_bb, if_pos, if_neg]
    unfold k_Md_compile_123
    simp (disch := omega) only [n_lit, n_m1, ok_S, ok_s, ok_N, ok_n, ↓ok_if, ok_A, ok_a, ok_L, ok_l, ok_zn0, ok_zn1, ok_f2, ok_pure, ok_rI, ok_bn0, ok_bn1, ok_rt, ok_riI, ok_rn0, ok_rn1, ok_go, nx_l, nx_r, sS_s, sS_n, sS_a, sS_l, sS_k, aS_s, aS_n, aS_1, aS_l, aS_k, lS_l, lS_1, lS_a, lS_k, nS_s, nS_n, nS_1, nS_a, nS_l, updS, updN, nI_eq, nI_leI, nI_ltI, nI_add, pk_mul, nN_e, nN_e', nN_l, nN_g, nN_le, nN_ge, ite_not, if_true, if_false, not_true_eq_false, not_false_eq_true, Nat.not_lt_zero, Nat.reduceEqDiff, Nat.reduceLT, Nat.reduceLeDiff, Nat.reduceAdd, Nat.zero_le, ite_self, reduceCtorEq, bI_t, bI_f, bI_z, bI_1, ok_bb, if_pos, if_neg]
    exact ⟨trivial, trivial⟩
  unfold k_Md_compile_62
  rw [ok_if]
  split
  · exact k87
  · rw [ok_t (c := nI 0 = 0) rfl]
    exact k87
def FrC3 (S S' : qSt) : Prop := S'.2.2 = S.2.2 ∧ (∀ f, f ≠ 0 → f ≠ 3 → f ≠ 4 → f ≠ 14 → f ≠ 15 → f ≠ 19 → f ≠ 20 → S'.1 f = S.1 f) ∧ (∀ f, f < 2 ∨ 19 < f → S'.2.1 f = S.2.1 f)
theorem m_bad (h22 : SM.1 22 = nI 0) (he : e ≤ 48) (hr : okS f_Md_read (sS SM 0 (nI 0)) (fun v S' => v = nI 0 ∧ S'.1 14 = nI e ∧ FrZ (sS SM 0 (nI 0)) S')) : okS f_Md_compile SM (fun x S' => x = nI 0 ∧ S'.1 0 = nI 1 ∧ S'.1 3 = nI e ∧ FrC3 SM S') := by
  unfold f_Md_compile
  refine ok_fix ?_
  show okS k_Md_compile_0 SM _
  unfold k_Md_compile_0
  simp (disch := omega) only [n_lit, n_m1, ok_S, ok_s, ok_N, ok_n, ↓ok_if, ok_A, ok_a, ok_L, ok_l, ok_zn0, ok_zn1, ok_f2, ok_pure, ok_rI, ok_bn0, ok_bn1, ok_rt, ok_riI, ok_rn0, ok_rn1, ok_go, nx_l, nx_r, sS_s, sS_n, sS_a, sS_l, sS_k, aS_s, aS_n, aS_1, aS_l, aS_k, lS_l, lS_1, lS_a, lS_k, nS_s, nS_n, nS_1, nS_a, nS_l, updS, updN, nI_eq, nI_leI, nI_ltI, nI_add, pk_mul, nN_e, nN_e', nN_l, nN_g, nN_le, nN_ge, ite_not, if_true, if_false, not_true_eq_false, not_false_eq_true, Nat.not_lt_zero, Nat.reduceEqDiff, Nat.reduceLT, Nat.reduceLeDiff, Nat.reduceAdd, Nat.zero_le, ite_self, reduceCtorEq, bI_t, bI_f, bI_z, bI_1, ok_bb, if_pos, if_neg, h22]
  unfold k_Md_compile_17
  simp (disch := omega) only [n_lit, n_m1, ok_S, ok_s, ok_N, ok_n, ↓ok_if, ok_A, ok_a, ok_L, ok_l, ok_zn0, ok_zn1, ok_f2, ok_pure, ok_rI, ok_bn0, ok_bn1, ok_rt, ok_riI, ok_rn0, ok_rn1, ok_go, nx_l, nx_r, sS_s, sS_n, sS_a, sS_l, sS_k, aS_s, aS_n, aS_1, aS_l, aS_k, lS_l, lS_1, lS_a, lS_k, nS_s, nS_n, nS_1, nS_a, nS_l, updS, updN, nI_eq, nI_leI, nI_ltI, nI_add, pk_mul, nN_e, nN_e', nN_l, nN_g, nN_le, nN_ge, ite_not, if_true, if_false, not_true_eq_false, not_false_eq_true, Nat.not_lt_zero, Nat.reduceEqDiff, Nat.reduceLT, Nat.reduceLeDiff, Nat.reduceAdd, Nat.zero_le, ite_self, reduceCtorEq, bI_t, bI_f, bI_z, bI_1, ok_bb, if_pos, if_neg]
  refine ok_C (ok_mono hr ?_)
  rintro v S1 ⟨rfl, h14, fz⟩
  simp (disch := omega) only [n_lit, n_m1, ok_S, ok_s, ok_N, ok_n, ↓ok_if, ok_A, ok_a, ok_L, ok_l, ok_zn0, ok_zn1, ok_f2, ok_pure, ok_rI, ok_bn0, ok_bn1, ok_rt, ok_riI, ok_rn0, ok_rn1, ok_go, nx_l, nx_r, sS_s, sS_n, sS_a, sS_l, sS_k, aS_s, aS_n, aS_1, aS_l, aS_k, lS_l, lS_1, lS_a, lS_k, nS_s, nS_n, nS_1, nS_a, nS_l, updS, updN, nI_eq, nI_leI, nI_ltI, nI_add, pk_mul, nN_e, nN_e', nN_l, nN_g, nN_le, nN_ge, ite_not, if_true, if_false, not_true_eq_false, not_false_eq_true, Nat.not_lt_zero, Nat.reduceEqDiff, Nat.reduceLT, Nat.reduceLeDiff, Nat.reduceAdd, Nat.zero_le, ite_self, reduceCtorEq, bI_t, bI_f, bI_z, bI_1, ok_bb, if_pos, if_neg]
  unfold k_Md_compile_33 k_Md_compile_34
  simp (disch := omega) only [n_lit, n_m1, ok_S, ok_s, ok_N, ok_n, ↓ok_if, ok_A, ok_a, ok_L, ok_l, ok_zn0, ok_zn1, ok_f2, ok_pure, ok_rI, ok_bn0, ok_bn1, ok_rt, ok_riI, ok_rn0, ok_rn1, ok_go, nx_l, nx_r, sS_s, sS_n, sS_a, sS_l, sS_k, aS_s, aS_n, aS_1, aS_l, aS_k, lS_l, lS_1, lS_a, lS_k, nS_s, nS_n, nS_1, nS_a, nS_l, updS, updN, nI_eq, nI_leI, nI_ltI, nI_add, pk_mul, nN_e, nN_e', nN_l, nN_g, nN_le, nN_ge, ite_not, if_true, if_false, not_true_eq_false, not_false_eq_true, Nat.not_lt_zero, Nat.reduceEqDiff, Nat.reduceLT, Nat.reduceLeDiff, Nat.reduceAdd, Nat.zero_le, ite_self, reduceCtorEq, bI_t, bI_f, bI_z, bI_1, ok_bb, if_pos, if_neg, h14]
  unfold k_Md_compile_52
  simp (disch := omega) only [n_lit, n_m1, ok_S, ok_s, ok_N, ok_n, ↓ok_if, ok_A, ok_a, ok_L, ok_l, ok_zn0, ok_zn1, ok_f2, ok_pure, ok_rI, ok_bn0, ok_bn1, ok_rt, ok_riI, ok_rn0, ok_rn1, ok_go, nx_l, nx_r, sS_s, sS_n, sS_a, sS_l, sS_k, aS_s, aS_n, aS_1, aS_l, aS_k, lS_l, lS_1, lS_a, lS_k, nS_s, nS_n, nS_1, nS_a, nS_l, updS, updN, nI_eq, nI_leI, nI_ltI, nI_add, pk_mul, nN_e, nN_e', nN_l, nN_g, nN_le, nN_ge, ite_not, if_true, if_false, not_true_eq_false, not_false_eq_true, Nat.not_lt_zero, Nat.reduceEqDiff, Nat.reduceLT, Nat.reduceLeDiff, Nat.reduceAdd, Nat.zero_le, ite_self, reduceCtorEq, bI_t, bI_f, bI_z, bI_1, ok_bb, if_pos, if_neg]
  refine ok_fix ?_
  show okS (k_Md_compile_62 (nI 0) (nI 0) (S1.1 4 - nI 1)) _ _
  have k87 : okS (k_Md_compile_87 (nI 0) (nI 0)) (sS S1 3 (nI e)) (nxS b_Md_compile (fun x S' => x = nI 0 ∧ S'.1 0 = nI 1 ∧ S'.1 3 = nI e ∧ FrC3 SM S')) := by
    unfold k_Md_compile_87
    simp (disch := omega) only [n_lit, n_m1, ok_S, ok_s, ok_N, ok_n, ↓ok_if, ok_A, ok_a, ok_L, ok_l, ok_zn0, ok_zn1, ok_f2, ok_pure, ok_rI, ok_bn0, ok_bn1, ok_rt, ok_riI, ok_rn0, ok_rn1, ok_go, nx_l, nx_r, sS_s, sS_n, sS_a, sS_l, sS_k, aS_s, aS_n, aS_1, aS_l, aS_k, lS_l, lS_1, lS_a, lS_k, nS_s, nS_n, nS_1, nS_a, nS_l, updS, updN, nI_eq, nI_leI, nI_ltI, nI_add, pk_mul, nN_e, nN_e', nN_l, nN_g, nN_le, nN_ge, ite_not, if_true, if_false, not_true_eq_false, not_false_eq_true, Nat.not_lt_zero, Nat.reduceEqDiff, Nat.reduceLT, Nat.reduceLeDiff, Nat.reduceAdd, Nat.zero_le, ite_self, reduceCtorEq, bI_t, bI_f, bI_z, bI_1, ok_bb, if_pos, if_neg]
    unfold k_Md_compile_123
    simp (disch := omega) only [n_lit, n_m1, ok_S, ok_s, ok_N, ok_n, ↓ok_if, ok_A, ok_a, ok_L, ok_l, ok_zn0, ok_zn1, ok_f2, ok_pure, ok_rI, ok_bn0, ok_bn1, ok_rt, ok_riI, ok_rn0, ok_rn1, ok_go, nx_l, nx_r, sS_s, sS_n, sS_a, sS_l, sS_k, aS_s, aS_n, aS_1, aS_l, aS_k, lS_l, lS_1, lS_a, lS_k, nS_s, nS_n, nS_1, nS_a, nS_l, updS, updN, nI_eq, nI_leI, nI_ltI, nI_add, pk_mul, nN_e, nN_e', nN_l, nN_g, nN_le, nN_ge, ite_not, if_true, if_false, not_true_eq_false, not_false_eq_true, Nat.not_lt_zero, Nat.reduceEqDiff, Nat.reduceLT, Nat.reduceLeDiff, Nat.reduceAdd, Nat.zero_le, ite_self, reduceCtorEq, bI_t, bI_f, bI_z, bI_1, ok_bb, if_pos, if_neg]
    refine ⟨trivial, trivial, trivial, fz.1, fun f a b c d i j k => ?_, fun f hf => fz.2.2 f (by omega)⟩
    simp (disch := omega) only [n_lit, n_m1, ok_S, ok_s, ok_N, ok_n, ↓ok_if, ok_A, ok_a, ok_L, ok_l, ok_zn0, ok_zn1, ok_f2, ok_pure, ok_rI, ok_bn0, ok_bn1, ok_rt, ok_riI, ok_rn0, ok_rn1, ok_go, nx_l, nx_r, sS_s, sS_n, sS_a, sS_l, sS_k, aS_s, aS_n, aS_1, aS_l, aS_k, lS_l, lS_1, lS_a, lS_k, nS_s, nS_n, nS_1, nS_a, nS_l, updS, updN, nI_eq, nI_leI, nI_ltI, nI_add, pk_mul, nN_e, nN_e', nN_l, nN_g, nN_le, nN_ge, ite_not, if_true, if_false, not_true_eq_false, not_false_eq_true, Nat.not_lt_zero, Nat.reduceEqDiff, Nat.reduceLT, Nat.reduceLeDiff, Nat.reduceAdd, Nat.zero_le, ite_self, reduceCtorEq, bI_t, bI_f, bI_z, bI_1, ok_bb, if_pos, if_neg]
    rw [fz.2.1 f c d i j k]
    exact sS_n a
  unfold k_Md_compile_62
  rw [ok_if]
  split
  · exact k87
  · rw [ok_t (c := nI 0 = 0) rfl]
    exact k87
theorem m_wide {Q : Int32 → qSt → Prop} (h22 : SM.1 22 = nI 0) (hr : okS f_Md_read (sS SM 0 (nI 0)) (fun v S' => v = nI 1 ∧ S' = SM2)) (hR : RT SM2 t N) (h4 : SM2.1 4 = nI N) (hS : Sh t W u g N) (hg : g ≤ 6) (hN : N ≤ 110) (hN0 : 0 < N) (q : ∀ S', FrTen (sS SM2 3 nN) S' → MX t W N S' → okS (k_Md_compile_87 (nI 0) (nI 1)) S' (nxS b_Md_compile Q)) : okS f_Md_compile SM Q := by
  unfold f_Md_compile
  refine ok_fix ?_
  show okS k_Md_compile_0 SM _
  unfold k_Md_compile_0
  simp (disch := omega) only [n_lit, n_m1, ok_S, ok_s, ok_N, ok_n, ↓ok_if, ok_A, ok_a, ok_L, ok_l, ok_zn0, ok_zn1, ok_f2, ok_pure, ok_rI, ok_bn0, ok_bn1, ok_rt, ok_riI, ok_rn0, ok_rn1, ok_go, nx_l, nx_r, sS_s, sS_n, sS_a, sS_l, sS_k, aS_s, aS_n, aS_1, aS_l, aS_k, lS_l, lS_1, lS_a, lS_k, nS_s, nS_n, nS_1, nS_a, nS_l, updS, updN, nI_eq, nI_leI, nI_ltI, nI_add, pk_mul, nN_e, nN_e', nN_l, nN_g, nN_le, nN_ge, ite_not, if_true, if_false, not_true_eq_false, not_false_eq_true, Nat.not_lt_zero, Nat.reduceEqDiff, Nat.reduceLT, Nat.reduceLeDiff, Nat.reduceAdd, Nat.zero_le, ite_self, reduceCtorEq, bI_t, bI_f, bI_z, bI_1, ok_bb, if_pos, if_neg, h22]
  unfold k_Md_compile_17
  simp (disch := omega) only [n_lit, n_m1, ok_S, ok_s, ok_N, ok_n, ↓ok_if, ok_A, ok_a, ok_L, ok_l, ok_zn0, ok_zn1, ok_f2, ok_pure, ok_rI, ok_bn0, ok_bn1, ok_rt, ok_riI, ok_rn0, ok_rn1, ok_go, nx_l, nx_r, sS_s, sS_n, sS_a, sS_l, sS_k, aS_s, aS_n, aS_1, aS_l, aS_k, lS_l, lS_1, lS_a, lS_k, nS_s, nS_n, nS_1, nS_a, nS_l, updS, updN, nI_eq, nI_leI, nI_ltI, nI_add, pk_mul, nN_e, nN_e', nN_l, nN_g, nN_le, nN_ge, ite_not, if_true, if_false, not_true_eq_false, not_false_eq_true, Nat.not_lt_zero, Nat.reduceEqDiff, Nat.reduceLT, Nat.reduceLeDiff, Nat.reduceAdd, Nat.zero_le, ite_self, reduceCtorEq, bI_t, bI_f, bI_z, bI_1, ok_bb, if_pos, if_neg]
  refine ok_C (ok_mono hr ?_)
  rintro v S1 ⟨rfl, rfl⟩
  simp (disch := omega) only [n_lit, n_m1, ok_S, ok_s, ok_N, ok_n, ↓ok_if, ok_A, ok_a, ok_L, ok_l, ok_zn0, ok_zn1, ok_f2, ok_pure, ok_rI, ok_bn0, ok_bn1, ok_rt, ok_riI, ok_rn0, ok_rn1, ok_go, nx_l, nx_r, sS_s, sS_n, sS_a, sS_l, sS_k, aS_s, aS_n, aS_1, aS_l, aS_k, lS_l, lS_1, lS_a, lS_k, nS_s, nS_n, nS_1, nS_a, nS_l, updS, updN, nI_eq, nI_leI, nI_ltI, nI_add, pk_mul, nN_e, nN_e', nN_l, nN_g, nN_le, nN_ge, ite_not, if_true, if_false, not_true_eq_false, not_false_eq_true, Nat.not_lt_zero, Nat.reduceEqDiff, Nat.reduceLT, Nat.reduceLeDiff, Nat.reduceAdd, Nat.zero_le, ite_self, reduceCtorEq, bI_t, bI_f, bI_z, bI_1, ok_bb, if_pos, if_neg]
  unfold k_Md_compile_34
  simp (disch := omega) only [n_lit, n_m1, ok_S, ok_s, ok_N, ok_n, ↓ok_if, ok_A, ok_a, ok_L, ok_l, ok_zn0, ok_zn1, ok_f2, ok_pure, ok_rI, ok_bn0, ok_bn1, ok_rt, ok_riI, ok_rn0, ok_rn1, ok_go, nx_l, nx_r, sS_s, sS_n, sS_a, sS_l, sS_k, aS_s, aS_n, aS_1, aS_l, aS_k, lS_l, lS_1, lS_a, lS_k, nS_s, nS_n, nS_1, nS_a, nS_l, updS, updN, nI_eq, nI_leI, nI_ltI, nI_add, pk_mul, nN_e, nN_e', nN_l, nN_g, nN_le, nN_ge, ite_not, if_true, if_false, not_true_eq_false, not_false_eq_true, Nat.not_lt_zero, Nat.reduceEqDiff, Nat.reduceLT, Nat.reduceLeDiff, Nat.reduceAdd, Nat.zero_le, ite_self, reduceCtorEq, bI_t, bI_f, bI_z, bI_1, ok_bb, if_pos, if_neg]
  unfold k_Md_compile_44 k_Md_compile_52
  simp (disch := omega) only [n_lit, n_m1, ok_S, ok_s, ok_N, ok_n, ↓ok_if, ok_A, ok_a, ok_L, ok_l, ok_zn0, ok_zn1, ok_f2, ok_pure, ok_rI, ok_bn0, ok_bn1, ok_rt, ok_riI, ok_rn0, ok_rn1, ok_go, nx_l, nx_r, sS_s, sS_n, sS_a, sS_l, sS_k, aS_s, aS_n, aS_1, aS_l, aS_k, lS_l, lS_1, lS_a, lS_k, nS_s, nS_n, nS_1, nS_a, nS_l, updS, updN, nI_eq, nI_leI, nI_ltI, nI_add, pk_mul, nN_e, nN_e', nN_l, nN_g, nN_le, nN_ge, ite_not, if_true, if_false, not_true_eq_false, not_false_eq_true, Nat.not_lt_zero, Nat.reduceEqDiff, Nat.reduceLT, Nat.reduceLeDiff, Nat.reduceAdd, Nat.zero_le, ite_self, reduceCtorEq, bI_t, bI_f, bI_z, bI_1, ok_bb, if_pos, if_neg, h4, pk_sub]
  have ed : nI (N - 1) = dI N := by
    unfold dI
    rw [if_neg (by omega)]
  rw [ed]
  exact e_w62 hS hg hN N _ (Nat.le_refl N) (RT_fr hR (fun f _ _ => rfl)) (fun k h1 h2 => by omega) q
theorem m_big (h22 : SM.1 22 = nI 0) (hr : okS f_Md_read (sS SM 0 (nI 0)) (fun v S' => v = nI 1 ∧ S' = SM2)) (hz : FrZ (sS SM 0 (nI 0)) SM2) (hR : RT SM2 t N) (h4 : SM2.1 4 = nI N) (hS : Sh t W u g N) (hg : g ≤ 6) (hN : N ≤ 110) (hN0 : 0 < N) (hW : 157 < W 0) : okS f_Md_compile SM (fun x S' => x = nI 0 ∧ S'.1 0 = nI 2 ∧ S'.1 3 = nN ∧ FrC3 SM S') := by
  refine m_wide h22 hr hR h4 hS hg hN hN0 ?_
  intro S1 f1 m1
  have e10 := m1.2 0 hN0
  have wb : 157 < wd W 0 ∧ wd W 0 ≤ 10000 := by
    unfold wd
    omega
  unfold k_Md_compile_87
  simp (disch := omega) only [n_lit, n_m1, ok_S, ok_s, ok_N, ok_n, ↓ok_if, ok_A, ok_a, ok_L, ok_l, ok_zn0, ok_zn1, ok_f2, ok_pure, ok_rI, ok_bn0, ok_bn1, ok_rt, ok_riI, ok_rn0, ok_rn1, ok_go, nx_l, nx_r, sS_s, sS_n, sS_a, sS_l, sS_k, aS_s, aS_n, aS_1, aS_l, aS_k, lS_l, lS_1, lS_a, lS_k, nS_s, nS_n, nS_1, nS_a, nS_l, updS, updN, nI_eq, nI_leI, nI_ltI, nI_add, pk_mul, nN_e, nN_e', nN_l, nN_g, nN_le, nN_ge, ite_not, if_true, if_false, not_true_eq_false, not_false_eq_true, Nat.not_lt_zero, Nat.reduceEqDiff, Nat.reduceLT, Nat.reduceLeDiff, Nat.reduceAdd, Nat.zero_le, ite_self, reduceCtorEq, bI_t, bI_f, bI_z, bI_1, ok_bb, if_pos, if_neg, e10]
  unfold k_Md_compile_123
  simp (disch := omega) only [n_lit, n_m1, ok_S, ok_s, ok_N, ok_n, ↓ok_if, ok_A, ok_a, ok_L, ok_l, ok_zn0, ok_zn1, ok_f2, ok_pure, ok_rI, ok_bn0, ok_bn1, ok_rt, ok_riI, ok_rn0, ok_rn1, ok_go, nx_l, nx_r, sS_s, sS_n, sS_a, sS_l, sS_k, aS_s, aS_n, aS_1, aS_l, aS_k, lS_l, lS_1, lS_a, lS_k, nS_s, nS_n, nS_1, nS_a, nS_l, updS, updN, nI_eq, nI_leI, nI_ltI, nI_add, pk_mul, nN_e, nN_e', nN_l, nN_g, nN_le, nN_ge, ite_not, if_true, if_false, not_true_eq_false, not_false_eq_true, Nat.not_lt_zero, Nat.reduceEqDiff, Nat.reduceLT, Nat.reduceLeDiff, Nat.reduceAdd, Nat.zero_le, ite_self, reduceCtorEq, bI_t, bI_f, bI_z, bI_1, ok_bb, if_pos, if_neg]
  refine ⟨trivial, trivial, ?_, ?_, fun f a b c d i j k => ?_, fun f hf => ?_⟩
  · rw [f1.1]
    exact sS_s
  · exact f1.2.1.trans hz.1
  · simp (disch := omega) only [n_lit, n_m1, ok_S, ok_s, ok_N, ok_n, ↓ok_if, ok_A, ok_a, ok_L, ok_l, ok_zn0, ok_zn1, ok_f2, ok_pure, ok_rI, ok_bn0, ok_bn1, ok_rt, ok_riI, ok_rn0, ok_rn1, ok_go, nx_l, nx_r, sS_s, sS_n, sS_a, sS_l, sS_k, aS_s, aS_n, aS_1, aS_l, aS_k, lS_l, lS_1, lS_a, lS_k, nS_s, nS_n, nS_1, nS_a, nS_l, updS, updN, nI_eq, nI_leI, nI_ltI, nI_add, pk_mul, nN_e, nN_e', nN_l, nN_g, nN_le, nN_ge, ite_not, if_true, if_false, not_true_eq_false, not_false_eq_true, Nat.not_lt_zero, Nat.reduceEqDiff, Nat.reduceLT, Nat.reduceLeDiff, Nat.reduceAdd, Nat.zero_le, ite_self, reduceCtorEq, bI_t, bI_f, bI_z, bI_1, ok_bb, if_pos, if_neg]
    rw [f1.1, sS_n b, hz.2.1 f c d i j k]
    exact sS_n a
  · show S1.2.1 f = _
    rw [f1.2.2 f (by omega)]
    exact hz.2.2 f (by omega)
theorem m_ok (h22 : SM.1 22 = nI 0) (hr : okS f_Md_read (sS SM 0 (nI 0)) (fun v S' => v = nI 1 ∧ S' = SM2)) (hz : FrZ (sS SM 0 (nI 0)) SM2) (hR : RT SM2 t N) (h4 : SM2.1 4 = nI N) (hS : Sh t W u g N) (hg : g ≤ 6) (hu : u ≤ 48) (hN : N ≤ 110) (hN0 : 0 < N) (hW : W 0 ≤ 157) : okS f_Md_compile SM (fun x S' => x = nI (W 0 + 3) ∧ S'.1 0 = nI 0 ∧ S'.1 3 = nN ∧ S'.1 22 = nI (W 0 + 3) ∧ S'.1 29 = nI 0 ∧ S'.1 19 = SM2.1 19 ∧ S'.2.1 14 = SM2.2.1 14 ∧ S'.1 1 = SM.1 1 ∧ S'.2.1 1 = SM.2.1 1 ∧ ∀ i, i < W 0 + 3 → CK (XF (full t W N)) S' i) := by
  refine m_wide h22 hr hR h4 hS hg hN hN0 ?_
  intro S1 f1 m1
  obtain ⟨x0, x1, x2, x3, x4⟩ := full_at hS hN0
  have e10 := m1.2 0 hN0
  have wb : wd W 0 = W 0 := by
    unfold wd
    omega
  rw [wb] at e10
  unfold k_Md_compile_87
  simp (disch := omega) only [n_lit, n_m1, ok_S, ok_s, ok_N, ok_n, ↓ok_if, ok_A, ok_a, ok_L, ok_l, ok_zn0, ok_zn1, ok_f2, ok_pure, ok_rI, ok_bn0, ok_bn1, ok_rt, ok_riI, ok_rn0, ok_rn1, ok_go, nx_l, nx_r, sS_s, sS_n, sS_a, sS_l, sS_k, aS_s, aS_n, aS_1, aS_l, aS_k, lS_l, lS_1, lS_a, lS_k, nS_s, nS_n, nS_1, nS_a, nS_l, updS, updN, nI_eq, nI_leI, nI_ltI, nI_add, pk_mul, nN_e, nN_e', nN_l, nN_g, nN_le, nN_ge, ite_not, if_true, if_false, not_true_eq_false, not_false_eq_true, Nat.not_lt_zero, Nat.reduceEqDiff, Nat.reduceLT, Nat.reduceLeDiff, Nat.reduceAdd, Nat.zero_le, ite_self, reduceCtorEq, bI_t, bI_f, bI_z, bI_1, ok_bb, if_pos, if_neg, e10]
  unfold k_Md_compile_123
  simp (disch := omega) only [n_lit, n_m1, ok_S, ok_s, ok_N, ok_n, ↓ok_if, ok_A, ok_a, ok_L, ok_l, ok_zn0, ok_zn1, ok_f2, ok_pure, ok_rI, ok_bn0, ok_bn1, ok_rt, ok_riI, ok_rn0, ok_rn1, ok_go, nx_l, nx_r, sS_s, sS_n, sS_a, sS_l, sS_k, aS_s, aS_n, aS_1, aS_l, aS_k, lS_l, lS_1, lS_a, lS_k, nS_s, nS_n, nS_1, nS_a, nS_l, updS, updN, nI_eq, nI_leI, nI_ltI, nI_add, pk_mul, nN_e, nN_e', nN_l, nN_g, nN_le, nN_ge, ite_not, if_true, if_false, not_true_eq_false, not_false_eq_true, Nat.not_lt_zero, Nat.reduceEqDiff, Nat.reduceLT, Nat.reduceLeDiff, Nat.reduceAdd, Nat.zero_le, ite_self, reduceCtorEq, bI_t, bI_f, bI_z, bI_1, ok_bb, if_pos, if_neg, e10]
  unfold f_Md_put
  refine ok_C ?_
  simp (disch := omega) only [n_lit, n_m1, ok_S, ok_s, ok_N, ok_n, ↓ok_if, ok_A, ok_a, ok_L, ok_l, ok_zn0, ok_zn1, ok_f2, ok_pure, ok_rI, ok_bn0, ok_bn1, ok_rt, ok_riI, ok_rn0, ok_rn1, ok_go, nx_l, nx_r, sS_s, sS_n, sS_a, sS_l, sS_k, aS_s, aS_n, aS_1, aS_l, aS_k, lS_l, lS_1, lS_a, lS_k, nS_s, nS_n, nS_1, nS_a, nS_l, updS, updN, nI_eq, nI_leI, nI_ltI, nI_add, pk_mul, nN_e, nN_e', nN_l, nN_g, nN_le, nN_ge, ite_not, if_true, if_false, not_true_eq_false, not_false_eq_true, Nat.not_lt_zero, Nat.reduceEqDiff, Nat.reduceLT, Nat.reduceLeDiff, Nat.reduceAdd, Nat.zero_le, ite_self, reduceCtorEq, bI_t, bI_f, bI_z, bI_1, ok_bb, if_pos, if_neg]
  refine ok_C ?_
  simp (disch := omega) only [n_lit, n_m1, ok_S, ok_s, ok_N, ok_n, ↓ok_if, ok_A, ok_a, ok_L, ok_l, ok_zn0, ok_zn1, ok_f2, ok_pure, ok_rI, ok_bn0, ok_bn1, ok_rt, ok_riI, ok_rn0, ok_rn1, ok_go, nx_l, nx_r, sS_s, sS_n, sS_a, sS_l, sS_k, aS_s, aS_n, aS_1, aS_l, aS_k, lS_l, lS_1, lS_a, lS_k, nS_s, nS_n, nS_1, nS_a, nS_l, updS, updN, nI_eq, nI_leI, nI_ltI, nI_add, pk_mul, nN_e, nN_e', nN_l, nN_g, nN_le, nN_ge, ite_not, if_true, if_false, not_true_eq_false, not_false_eq_true, Nat.not_lt_zero, Nat.reduceEqDiff, Nat.reduceLT, Nat.reduceLeDiff, Nat.reduceAdd, Nat.zero_le, ite_self, reduceCtorEq, bI_t, bI_f, bI_z, bI_1, ok_bb, if_pos, if_neg, pk_sub]
  refine ok_C ?_
  simp (disch := omega) only [n_lit, n_m1, ok_S, ok_s, ok_N, ok_n, ↓ok_if, ok_A, ok_a, ok_L, ok_l, ok_zn0, ok_zn1, ok_f2, ok_pure, ok_rI, ok_bn0, ok_bn1, ok_rt, ok_riI, ok_rn0, ok_rn1, ok_go, nx_l, nx_r, sS_s, sS_n, sS_a, sS_l, sS_k, aS_s, aS_n, aS_1, aS_l, aS_k, lS_l, lS_1, lS_a, lS_k, nS_s, nS_n, nS_1, nS_a, nS_l, updS, updN, nI_eq, nI_leI, nI_ltI, nI_add, pk_mul, nN_e, nN_e', nN_l, nN_g, nN_le, nN_ge, ite_not, if_true, if_false, not_true_eq_false, not_false_eq_true, Nat.not_lt_zero, Nat.reduceEqDiff, Nat.reduceLT, Nat.reduceLeDiff, Nat.reduceAdd, Nat.zero_le, ite_self, reduceCtorEq, bI_t, bI_f, bI_z, bI_1, ok_bb, if_pos, if_neg, pk_sub]
  have e2 : W 0 + 3 - 2 = W 0 + 1 := by omega
  have e1 : W 0 + 3 - 1 = W 0 + 2 := by omega
  simp only [e1, e2]
  generalize hS2 : sS (aS (aS (aS (aS (aS (aS (aS (aS (aS (sS (sS S1 0 (nI 0)) 22 (nI (W 0 + 3))) 15 (upd (S1.2.1 15) 0 (nI 3))) 16 (upd (S1.2.1 16) 0 (nI 0))) 17 (upd (S1.2.1 17) 0 (nI 0))) 15 (upd (upd (S1.2.1 15) 0 (nI 3)) (W 0 + 1) (nI 3))) 16 (upd (upd (S1.2.1 16) 0 (nI 0)) (W 0 + 1) (nI 1))) 17 (upd (upd (S1.2.1 17) 0 (nI 0)) (W 0 + 1) (nI 0))) 15 (upd (upd (upd (S1.2.1 15) 0 (nI 3)) (W 0 + 1) (nI 3)) (W 0 + 2) (nI 4))) 16 (upd (upd (upd (S1.2.1 16) 0 (nI 0)) (W 0 + 1) (nI 1)) (W 0 + 2) (nI 0))) 17 (upd (upd (upd (S1.2.1 17) 0 (nI 0)) (W 0 + 1) (nI 0)) (W 0 + 2) (nI 0))) 26 (nI 0) = S2
  have f2 : S2.2.2 = S1.2.2 ∧ (∀ f, f ≠ 0 → f ≠ 22 → f ≠ 26 → S2.1 f = S1.1 f) ∧ (∀ f, f < 15 ∨ 17 < f → S2.2.1 f = S1.2.1 f) := by
    rw [← hS2]
    refine ⟨rfl, fun f a b c => ?_, fun f hf => ?_⟩
    · simp (disch := omega) only [n_lit, n_m1, ok_S, ok_s, ok_N, ok_n, ↓ok_if, ok_A, ok_a, ok_L, ok_l, ok_zn0, ok_zn1, ok_f2, ok_pure, ok_rI, ok_bn0, ok_bn1, ok_rt, ok_riI, ok_rn0, ok_rn1, ok_go, nx_l, nx_r, sS_s, sS_n, sS_a, sS_l, sS_k, aS_s, aS_n, aS_1, aS_l, aS_k, lS_l, lS_1, lS_a, lS_k, nS_s, nS_n, nS_1, nS_a, nS_l, updS, updN, nI_eq, nI_leI, nI_ltI, nI_add, pk_mul, nN_e, nN_e', nN_l, nN_g, nN_le, nN_ge, ite_not, if_true, if_false, not_true_eq_false, not_false_eq_true, Nat.not_lt_zero, Nat.reduceEqDiff, Nat.reduceLT, Nat.reduceLeDiff, Nat.reduceAdd, Nat.zero_le, ite_self, reduceCtorEq, bI_t, bI_f, bI_z, bI_1, ok_bb, if_pos, if_neg]
    · simp (disch := omega) only [n_lit, n_m1, ok_S, ok_s, ok_N, ok_n, ↓ok_if, ok_A, ok_a, ok_L, ok_l, ok_zn0, ok_zn1, ok_f2, ok_pure, ok_rI, ok_bn0, ok_bn1, ok_rt, ok_riI, ok_rn0, ok_rn1, ok_go, nx_l, nx_r, sS_s, sS_n, sS_a, sS_l, sS_k, aS_s, aS_n, aS_1, aS_l, aS_k, lS_l, lS_1, lS_a, lS_k, nS_s, nS_n, nS_1, nS_a, nS_l, updS, updN, nI_eq, nI_leI, nI_ltI, nI_add, pk_mul, nN_e, nN_e', nN_l, nN_g, nN_le, nN_ge, ite_not, if_true, if_false, not_true_eq_false, not_false_eq_true, Nat.not_lt_zero, Nat.reduceEqDiff, Nat.reduceLT, Nat.reduceLeDiff, Nat.reduceAdd, Nat.zero_le, ite_self, reduceCtorEq, bI_t, bI_f, bI_z, bI_1, ok_bb, if_pos, if_neg]
  have s2 : S2.1 26 = nI 0 ∧ S2.1 0 = nI 0 ∧ S2.1 22 = nI (W 0 + 3) := by
    rw [← hS2]
    simp (disch := omega) only [n_lit, n_m1, ok_S, ok_s, ok_N, ok_n, ↓ok_if, ok_A, ok_a, ok_L, ok_l, ok_zn0, ok_zn1, ok_f2, ok_pure, ok_rI, ok_bn0, ok_bn1, ok_rt, ok_riI, ok_rn0, ok_rn1, ok_go, nx_l, nx_r, sS_s, sS_n, sS_a, sS_l, sS_k, aS_s, aS_n, aS_1, aS_l, aS_k, lS_l, lS_1, lS_a, lS_k, nS_s, nS_n, nS_1, nS_a, nS_l, updS, updN, nI_eq, nI_leI, nI_ltI, nI_add, pk_mul, nN_e, nN_e', nN_l, nN_g, nN_le, nN_ge, ite_not, if_true, if_false, not_true_eq_false, not_false_eq_true, Nat.not_lt_zero, Nat.reduceEqDiff, Nat.reduceLT, Nat.reduceLeDiff, Nat.reduceAdd, Nat.zero_le, ite_self, reduceCtorEq, bI_t, bI_f, bI_z, bI_1, ok_bb, if_pos, if_neg]
    exact ⟨trivial, trivial, trivial⟩
  have ck : CK (XF (full t W N)) S2 0 ∧ CK (XF (full t W N)) S2 (W 0 + 1) ∧ CK (XF (full t W N)) S2 (W 0 + 2) := by
    unfold CK
    rw [x0, x1, x2, ← hS2]
    simp (disch := omega) only [n_lit, n_m1, ok_S, ok_s, ok_N, ok_n, ↓ok_if, ok_A, ok_a, ok_L, ok_l, ok_zn0, ok_zn1, ok_f2, ok_pure, ok_rI, ok_bn0, ok_bn1, ok_rt, ok_riI, ok_rn0, ok_rn1, ok_go, nx_l, nx_r, sS_s, sS_n, sS_a, sS_l, sS_k, aS_s, aS_n, aS_1, aS_l, aS_k, lS_l, lS_1, lS_a, lS_k, nS_s, nS_n, nS_1, nS_a, nS_l, updS, updN, nI_eq, nI_leI, nI_ltI, nI_add, pk_mul, nN_e, nN_e', nN_l, nN_g, nN_le, nN_ge, ite_not, if_true, if_false, not_true_eq_false, not_false_eq_true, Nat.not_lt_zero, Nat.reduceEqDiff, Nat.reduceLT, Nat.reduceLeDiff, Nat.reduceAdd, Nat.zero_le, ite_self, reduceCtorEq, bI_t, bI_f, bI_z, bI_1, ok_bb, if_pos, if_neg]
    exact ⟨⟨trivial, trivial, trivial⟩, ⟨trivial, trivial, trivial⟩, ⟨trivial, trivial, trivial⟩⟩
  have m2 : MX t W N S2 := ⟨RT_fr m1.1 (fun f a b => f2.2.2 f (by omega)), fun k hk => by rw [f2.2.2 10 (by omega)]; exact m1.2 k hk⟩
  clear hS2
  have e102 : S2.2.1 10 0 = nI (W 0) := by
    rw [f2.2.2 10 (by omega)]
    exact e10
  have fin : ∀ S3, FrT S2 S3 → (∀ ts, TI S3 ts → (∀ x ∈ ts, TK t W N (W 0 + 3) (XF (full t W N)) x) → sumT W ts ≤ 157 → (∀ i, i < W 0 + 3 → CK (XF (full t W N)) S3 i ∨ ∃ x ∈ ts, x.2 ≤ i ∧ i < x.2 + W x.1) → okS (w_fix b_Md_compile (192, [], [])) S3 (fun x S' => x = nI (W 0 + 3) ∧ S'.1 0 = nI 0 ∧ S'.1 3 = nN ∧ S'.1 22 = nI (W 0 + 3) ∧ S'.1 29 = nI 0 ∧ S'.1 19 = SM2.1 19 ∧ S'.2.1 14 = SM2.2.1 14 ∧ S'.1 1 = SM.1 1 ∧ S'.2.1 1 = SM.2.1 1 ∧ ∀ i, i < W 0 + 3 → CK (XF (full t W N)) S' i)) := by
    intro S3 f3 ts hT hK hs hc
    refine e_tasks (X := XF (full t W N)) (L := W 0 + 3) hS hg hu hN (by omega) _ ts S3 (Nat.le_refl _) (MX_fr m2 f3) hT hK hs hc ?_
    intro S4 f4 c4
    have f34 := FrT_tr f4 f3
    have sc : ∀ f, f ≠ 0 → f ≠ 3 → f ≠ 22 → f ≠ 26 → S4.1 f = SM2.1 f := by
      intro f a b c d
      rw [f34.2.1 f d, f2.2.1 f a c d, f1.1]
      exact sS_n b
    refine ⟨?_, ?_, ?_, ?_, sS_s, ?_, ?_, ?_, ?_, c4⟩
    · rw [f34.2.1 22 (by omega)]
      exact s2.2.2
    · rw [sS_n (by omega), f34.2.1 0 (by omega)]
      exact s2.2.1
    · rw [sS_n (by omega), f34.2.1 3 (by omega), f2.2.1 3 (by omega) (by omega) (by omega), f1.1]
      exact sS_s
    · rw [sS_n (by omega), f34.2.1 22 (by omega)]
      exact s2.2.2
    · rw [sS_n (by omega)]
      exact sc 19 (by omega) (by omega) (by omega) (by omega)
    · show S4.2.1 14 = _
      rw [f34.2.2 14 (by omega), f2.2.2 14 (by omega), f1.2.2 14 (by omega)]
      rfl
    · rw [sS_n (by omega), sc 1 (by omega) (by omega) (by omega) (by omega), hz.2.1 1 (by omega) (by omega) (by omega) (by omega) (by omega)]
      exact sS_n (by omega)
    · show S4.2.1 1 = _
      rw [f34.2.2 1 (by omega), f2.2.2 1 (by omega), f1.2.2 1 (by omega)]
      show SM2.2.1 1 = _
      rw [hz.2.2 1 (by omega)]
      rfl
  unfold f_Md_later
  refine ok_C ?_
  have cs : ∀ i, i < W 0 + 3 → i = 0 ∨ (1 ≤ i ∧ i < 1 + W 0) ∨ i = W 0 + 1 ∨ i = W 0 + 2 := by
    intro i hi
    omega
  by_cases hw : W 0 = 0
  · rw [hw] at e102
    simp (disch := omega) only [n_lit, n_m1, ok_S, ok_s, ok_N, ok_n, ↓ok_if, ok_A, ok_a, ok_L, ok_l, ok_zn0, ok_zn1, ok_f2, ok_pure, ok_rI, ok_bn0, ok_bn1, ok_rt, ok_riI, ok_rn0, ok_rn1, ok_go, nx_l, nx_r, sS_s, sS_n, sS_a, sS_l, sS_k, aS_s, aS_n, aS_1, aS_l, aS_k, lS_l, lS_1, lS_a, lS_k, nS_s, nS_n, nS_1, nS_a, nS_l, updS, updN, nI_eq, nI_leI, nI_ltI, nI_add, pk_mul, nN_e, nN_e', nN_l, nN_g, nN_le, nN_ge, ite_not, if_true, if_false, not_true_eq_false, not_false_eq_true, Nat.not_lt_zero, Nat.reduceEqDiff, Nat.reduceLT, Nat.reduceLeDiff, Nat.reduceAdd, Nat.zero_le, ite_self, reduceCtorEq, bI_t, bI_f, bI_z, bI_1, ok_bb, if_pos, if_neg, e102]
    refine fin S2 (FrT_rf _) [] ⟨s2.1, fun i hi => by simp at hi⟩ (fun x hx => (by cases hx)) (Nat.zero_le _) (fun i hi => Or.inl ?_)
    rcases cs i hi with h | h | h | h
    · rw [h]; exact ck.1
    · omega
    · rw [h]; exact ck.2.1
    · rw [h]; exact ck.2.2
  · simp (disch := omega) only [n_lit, n_m1, ok_S, ok_s, ok_N, ok_n, ↓ok_if, ok_A, ok_a, ok_L, ok_l, ok_zn0, ok_zn1, ok_f2, ok_pure, ok_rI, ok_bn0, ok_bn1, ok_rt, ok_riI, ok_rn0, ok_rn1, ok_go, nx_l, nx_r, sS_s, sS_n, sS_a, sS_l, sS_k, aS_s, aS_n, aS_1, aS_l, aS_k, lS_l, lS_1, lS_a, lS_k, nS_s, nS_n, nS_1, nS_a, nS_l, updS, updN, nI_eq, nI_leI, nI_ltI, nI_add, pk_mul, nN_e, nN_e', nN_l, nN_g, nN_le, nN_ge, ite_not, if_true, if_false, not_true_eq_false, not_false_eq_true, Nat.not_lt_zero, Nat.reduceEqDiff, Nat.reduceLT, Nat.reduceLeDiff, Nat.reduceAdd, Nat.zero_le, ite_self, reduceCtorEq, bI_t, bI_f, bI_z, bI_1, ok_bb, if_pos, if_neg, e102, s2.1]
    refine fin _ (FrT_tr (FrT_s _ _) (FrT_tr (FrT_a (by omega) _ _) (FrT_a (by omega) _ _))) [(0, 1)] ⟨?_, fun i hi => ?_⟩ (fun x hx => ?_) ?_ (fun i hi => ?_)
    · simp (disch := omega) only [n_lit, n_m1, ok_S, ok_s, ok_N, ok_n, ↓ok_if, ok_A, ok_a, ok_L, ok_l, ok_zn0, ok_zn1, ok_f2, ok_pure, ok_rI, ok_bn0, ok_bn1, ok_rt, ok_riI, ok_rn0, ok_rn1, ok_go, nx_l, nx_r, sS_s, sS_n, sS_a, sS_l, sS_k, aS_s, aS_n, aS_1, aS_l, aS_k, lS_l, lS_1, lS_a, lS_k, nS_s, nS_n, nS_1, nS_a, nS_l, updS, updN, nI_eq, nI_leI, nI_ltI, nI_add, pk_mul, nN_e, nN_e', nN_l, nN_g, nN_le, nN_ge, ite_not, if_true, if_false, not_true_eq_false, not_false_eq_true, Nat.not_lt_zero, Nat.reduceEqDiff, Nat.reduceLT, Nat.reduceLeDiff, Nat.reduceAdd, Nat.zero_le, ite_self, reduceCtorEq, bI_t, bI_f, bI_z, bI_1, ok_bb, if_pos, if_neg]
      rfl
    · have : i = 0 := by simpa using hi
      subst this
      simp (disch := omega) only [n_lit, n_m1, ok_S, ok_s, ok_N, ok_n, ↓ok_if, ok_A, ok_a, ok_L, ok_l, ok_zn0, ok_zn1, ok_f2, ok_pure, ok_rI, ok_bn0, ok_bn1, ok_rt, ok_riI, ok_rn0, ok_rn1, ok_go, nx_l, nx_r, sS_s, sS_n, sS_a, sS_l, sS_k, aS_s, aS_n, aS_1, aS_l, aS_k, lS_l, lS_1, lS_a, lS_k, nS_s, nS_n, nS_1, nS_a, nS_l, updS, updN, nI_eq, nI_leI, nI_ltI, nI_add, pk_mul, nN_e, nN_e', nN_l, nN_g, nN_le, nN_ge, ite_not, if_true, if_false, not_true_eq_false, not_false_eq_true, Nat.not_lt_zero, Nat.reduceEqDiff, Nat.reduceLT, Nat.reduceLeDiff, Nat.reduceAdd, Nat.zero_le, ite_self, reduceCtorEq, bI_t, bI_f, bI_z, bI_1, ok_bb, if_pos, if_neg]
      exact ⟨rfl, rfl⟩
    · have : x = (0, 1) := by simpa using hx
      subst this
      exact ⟨hN0, by show 0 < W 0; omega, by show 1 + W 0 ≤ W 0 + 3; omega, x3⟩
    · have : sumT W [(0, 1)] = W 0 := by
        unfold sumT
        simp
      omega
    · have keep : ∀ i, CK (XF (full t W N)) S2 i → CK (XF (full t W N)) (sS (aS (aS S2 18 (upd (S2.2.1 18) 0 (nI 0))) 19 (upd (S2.2.1 19) 0 (nI 1))) 26 (nI (0 + 1))) i := by
        intro i hi
        unfold CK at hi ⊢
        simp (disch := omega) only [n_lit, n_m1, ok_S, ok_s, ok_N, ok_n, ↓ok_if, ok_A, ok_a, ok_L, ok_l, ok_zn0, ok_zn1, ok_f2, ok_pure, ok_rI, ok_bn0, ok_bn1, ok_rt, ok_riI, ok_rn0, ok_rn1, ok_go, nx_l, nx_r, sS_s, sS_n, sS_a, sS_l, sS_k, aS_s, aS_n, aS_1, aS_l, aS_k, lS_l, lS_1, lS_a, lS_k, nS_s, nS_n, nS_1, nS_a, nS_l, updS, updN, nI_eq, nI_leI, nI_ltI, nI_add, pk_mul, nN_e, nN_e', nN_l, nN_g, nN_le, nN_ge, ite_not, if_true, if_false, not_true_eq_false, not_false_eq_true, Nat.not_lt_zero, Nat.reduceEqDiff, Nat.reduceLT, Nat.reduceLeDiff, Nat.reduceAdd, Nat.zero_le, ite_self, reduceCtorEq, bI_t, bI_f, bI_z, bI_1, ok_bb, if_pos, if_neg]
        exact hi
      rcases cs i hi with h | h | h | h
      · rw [h]; exact Or.inl (keep _ ck.1)
      · exact Or.inr ⟨(0, 1), by simp, h⟩
      · rw [h]; exact Or.inl (keep _ ck.2.1)
      · rw [h]; exact Or.inl (keep _ ck.2.2)
end CM
