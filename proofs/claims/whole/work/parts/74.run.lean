/-! THE REFERENCE: work, whole; pure rows of the run -/
def WkR (L : Nat) (S : qSt) (st : Wst) : Prop := S.1 34 = bI st.2.2.1.isSome ∧ (∀ mk, st.2.2.1 = some mk → Mks (S.2.1 22) mk) ∧ ∃ V, RowB L (S.2.1 23) V ∧ ∀ k, k < L → (V k = true ↔ ∃ e ∈ st.2.1, e.1 = k)
section WP
variable {P : Pg} {L n s p : Nat} {se : Bool} {w : Nat → Nat} {B : Nat → Int32}
theorem w274 {Q : Unit → qSt → Prop} {H : Nat → Bool} (hL : L ≤ 160) : ∀ d j, j + d = L → ∀ (S : qSt), MdC S P L n se w B → (∀ k, k < L → P.1 k ≤ 4) → RowB L (S.2.1 24) H → (∀ x, x < j → S.2.1 23 x = bI (H x && P.1 x == 0)) → (∀ g : Nat → Int32, RowB L g (fun x => H x && P.1 x == 0) → Q () (aS S 23 g)) → okS (w_fix b_Md_work (274, [.int (nI j)], [])) S Q := by
  intro d
  induction d with
  | zero =>
    intro j hj S hM hP4 hH h1 kk
    refine ok_fix ?_
    show okS (k_Md_work_274 (nI j)) S _
    unfold k_Md_work_274
    have h22 := hM.1
    simp (disch := omega) only [n_lit, n_m1, ok_S, ok_s, ok_N, ok_n, ↓ok_if, ok_A, ok_a, ok_L, ok_l, ok_zn0, ok_zn1, ok_f2, ok_pure, ok_rI, ok_bn0, ok_bn1, ok_rt, ok_riI, ok_rn0, ok_rn1, ok_go, nx_l, nx_r, sS_s, sS_n, sS_a, sS_l, sS_k, aS_s, aS_n, aS_1, aS_l, aS_k, lS_l, lS_1, lS_a, lS_k, nS_s, nS_n, nS_1, nS_a, nS_l, updS, updN, nI_eq, nI_leI, nI_ltI, nI_add, pk_mul, nN_e, nN_e', nN_l, nN_g, nN_le, nN_ge, ite_not, if_true, if_false, not_true_eq_false, not_false_eq_true, Nat.not_lt_zero, Nat.reduceEqDiff, Nat.reduceLT, Nat.reduceLeDiff, Nat.reduceAdd, Nat.zero_le, ite_self, reduceCtorEq, bI_t, bI_f, bI_z, bI_1, ok_bb, if_pos, if_neg, h22]
    have := kk (S.2.1 23) (fun x hx => h1 x (by omega))
    rwa [aS_id] at this
  | succ d ih =>
    intro j hj S hM hP4 hH h1 kk
    refine ok_fix ?_
    show okS (k_Md_work_274 (nI j)) S _
    unfold k_Md_work_274
    have h22 := hM.1
    obtain ⟨k0, k1, k2⟩ := hM.2.1 j (by omega)
    have h4 := hP4 j (by omega)
    have hHj := hH j (by omega)
    have go : ∀ v, v = bI (H j && P.1 j == 0) → okS (w_fix b_Md_work (274, [.int (nI (j + 1))], [])) (aS S 23 (upd (S.2.1 23) j v)) Q := by
      intro v hv
      subst hv
      refine ih (j + 1) (by omega) _ (MdC_fr hM (FrM_a (by omega))) hP4 (by simp (disch := omega) only [n_lit, n_m1, ok_S, ok_s, ok_N, ok_n, ↓ok_if, ok_A, ok_a, ok_L, ok_l, ok_zn0, ok_zn1, ok_f2, ok_pure, ok_rI, ok_bn0, ok_bn1, ok_rt, ok_riI, ok_rn0, ok_rn1, ok_go, nx_l, nx_r, sS_s, sS_n, sS_a, sS_l, sS_k, aS_s, aS_n, aS_1, aS_l, aS_k, lS_l, lS_1, lS_a, lS_k, nS_s, nS_n, nS_1, nS_a, nS_l, updS, updN, nI_eq, nI_leI, nI_ltI, nI_add, pk_mul, nN_e, nN_e', nN_l, nN_g, nN_le, nN_ge, ite_not, if_true, if_false, not_true_eq_false, not_false_eq_true, Nat.not_lt_zero, Nat.reduceEqDiff, Nat.reduceLT, Nat.reduceLeDiff, Nat.reduceAdd, Nat.zero_le, ite_self, reduceCtorEq, bI_t, bI_f, bI_z, bI_1, ok_bb]; exact hH) ?_ ?_
      · intro x hx
        rw [aS_s]
        by_cases hxj : x = j
        · subst hxj; exact updS _ _ _
        · rw [updN hxj]; exact h1 x (by omega)
      · intro g hg
        rw [aS_aS]
        exact kk g hg
    simp (disch := omega) only [n_lit, n_m1, ok_S, ok_s, ok_N, ok_n, ↓ok_if, ok_A, ok_a, ok_L, ok_l, ok_zn0, ok_zn1, ok_f2, ok_pure, ok_rI, ok_bn0, ok_bn1, ok_rt, ok_riI, ok_rn0, ok_rn1, ok_go, nx_l, nx_r, sS_s, sS_n, sS_a, sS_l, sS_k, aS_s, aS_n, aS_1, aS_l, aS_k, lS_l, lS_1, lS_a, lS_k, nS_s, nS_n, nS_1, nS_a, nS_l, updS, updN, nI_eq, nI_leI, nI_ltI, nI_add, pk_mul, nN_e, nN_e', nN_l, nN_g, nN_le, nN_ge, ite_not, if_true, if_false, not_true_eq_false, not_false_eq_true, Nat.not_lt_zero, Nat.reduceEqDiff, Nat.reduceLT, Nat.reduceLeDiff, Nat.reduceAdd, Nat.zero_le, ite_self, reduceCtorEq, bI_t, bI_f, bI_z, bI_1, ok_bb, if_pos, if_neg, h22, hHj, k0, vb_0, vb_1]
    cases hh : H j with
    | false =>
      simp (disch := omega) only [n_lit, n_m1, ok_S, ok_s, ok_N, ok_n, ↓ok_if, ok_A, ok_a, ok_L, ok_l, ok_zn0, ok_zn1, ok_f2, ok_pure, ok_rI, ok_bn0, ok_bn1, ok_rt, ok_riI, ok_rn0, ok_rn1, ok_go, nx_l, nx_r, sS_s, sS_n, sS_a, sS_l, sS_k, aS_s, aS_n, aS_1, aS_l, aS_k, lS_l, lS_1, lS_a, lS_k, nS_s, nS_n, nS_1, nS_a, nS_l, updS, updN, nI_eq, nI_leI, nI_ltI, nI_add, pk_mul, nN_e, nN_e', nN_l, nN_g, nN_le, nN_ge, ite_not, if_true, if_false, not_true_eq_false, not_false_eq_true, Nat.not_lt_zero, Nat.reduceEqDiff, Nat.reduceLT, Nat.reduceLeDiff, Nat.reduceAdd, Nat.zero_le, ite_self, reduceCtorEq, bI_t, bI_f, bI_z, bI_1, ok_bb]
      exact go _ (by rw [hh]; rfl)
    | true =>
      simp (disch := omega) only [n_lit, n_m1, ok_S, ok_s, ok_N, ok_n, ↓ok_if, ok_A, ok_a, ok_L, ok_l, ok_zn0, ok_zn1, ok_f2, ok_pure, ok_rI, ok_bn0, ok_bn1, ok_rt, ok_riI, ok_rn0, ok_rn1, ok_go, nx_l, nx_r, sS_s, sS_n, sS_a, sS_l, sS_k, aS_s, aS_n, aS_1, aS_l, aS_k, lS_l, lS_1, lS_a, lS_k, nS_s, nS_n, nS_1, nS_a, nS_l, updS, updN, nI_eq, nI_leI, nI_ltI, nI_add, pk_mul, nN_e, nN_e', nN_l, nN_g, nN_le, nN_ge, ite_not, if_true, if_false, not_true_eq_false, not_false_eq_true, Nat.not_lt_zero, Nat.reduceEqDiff, Nat.reduceLT, Nat.reduceLeDiff, Nat.reduceAdd, Nat.zero_le, ite_self, reduceCtorEq, bI_t, bI_f, bI_z, bI_1, ok_bb]
      by_cases h0 : P.1 j = 0
      · simp (disch := omega) only [n_lit, n_m1, ok_S, ok_s, ok_N, ok_n, ↓ok_if, ok_A, ok_a, ok_L, ok_l, ok_zn0, ok_zn1, ok_f2, ok_pure, ok_rI, ok_bn0, ok_bn1, ok_rt, ok_riI, ok_rn0, ok_rn1, ok_go, nx_l, nx_r, sS_s, sS_n, sS_a, sS_l, sS_k, aS_s, aS_n, aS_1, aS_l, aS_k, lS_l, lS_1, lS_a, lS_k, nS_s, nS_n, nS_1, nS_a, nS_l, updS, updN, nI_eq, nI_leI, nI_ltI, nI_add, pk_mul, nN_e, nN_e', nN_l, nN_g, nN_le, nN_ge, ite_not, if_true, if_false, not_true_eq_false, not_false_eq_true, Nat.not_lt_zero, Nat.reduceEqDiff, Nat.reduceLT, Nat.reduceLeDiff, Nat.reduceAdd, Nat.zero_le, ite_self, reduceCtorEq, bI_t, bI_f, bI_z, bI_1, ok_bb, if_pos, if_neg, h0]
        exact go _ (by rw [hh, h0]; rfl)
      · simp (disch := omega) only [n_lit, n_m1, ok_S, ok_s, ok_N, ok_n, ↓ok_if, ok_A, ok_a, ok_L, ok_l, ok_zn0, ok_zn1, ok_f2, ok_pure, ok_rI, ok_bn0, ok_bn1, ok_rt, ok_riI, ok_rn0, ok_rn1, ok_go, nx_l, nx_r, sS_s, sS_n, sS_a, sS_l, sS_k, aS_s, aS_n, aS_1, aS_l, aS_k, lS_l, lS_1, lS_a, lS_k, nS_s, nS_n, nS_1, nS_a, nS_l, updS, updN, nI_eq, nI_leI, nI_ltI, nI_add, pk_mul, nN_e, nN_e', nN_l, nN_g, nN_le, nN_ge, ite_not, if_true, if_false, not_true_eq_false, not_false_eq_true, Nat.not_lt_zero, Nat.reduceEqDiff, Nat.reduceLT, Nat.reduceLeDiff, Nat.reduceAdd, Nat.zero_le, ite_self, reduceCtorEq, bI_t, bI_f, bI_z, bI_1, ok_bb, if_pos, if_neg, h0]
        refine go _ ?_
        rw [hh, beq_eq_false_iff_ne.mpr h0]; rfl
theorem w103 {Q : Unit → qSt → Prop} {a c : Int32} (hL : L ≤ 160) : ∀ d j, j + d = L → ∀ (S : qSt), S.1 22 = nI L → (∀ x, x < j → S.2.1 24 x = nI 0) → (∀ g : Nat → Int32, (∀ x, x < L → g x = nI 0) → okS (w_fix b_Md_work (126, [.int a, .int c, .int (nI 0)], [])) (aS S 24 g) Q) → okS (w_fix b_Md_work (103, [.int a, .int c, .int (nI j)], [])) S Q := by
  intro d
  induction d with
  | zero =>
    intro j hj S hm h1 kk
    refine ok_fix ?_
    show okS (k_Md_work_103 a c (nI j)) S _
    unfold k_Md_work_103
    simp (disch := omega) only [n_lit, n_m1, ok_S, ok_s, ok_N, ok_n, ↓ok_if, ok_A, ok_a, ok_L, ok_l, ok_zn0, ok_zn1, ok_f2, ok_pure, ok_rI, ok_bn0, ok_bn1, ok_rt, ok_riI, ok_rn0, ok_rn1, ok_go, nx_l, nx_r, sS_s, sS_n, sS_a, sS_l, sS_k, aS_s, aS_n, aS_1, aS_l, aS_k, lS_l, lS_1, lS_a, lS_k, nS_s, nS_n, nS_1, nS_a, nS_l, updS, updN, nI_eq, nI_leI, nI_ltI, nI_add, pk_mul, nN_e, nN_e', nN_l, nN_g, nN_le, nN_ge, ite_not, if_true, if_false, not_true_eq_false, not_false_eq_true, Nat.not_lt_zero, Nat.reduceEqDiff, Nat.reduceLT, Nat.reduceLeDiff, Nat.reduceAdd, Nat.zero_le, ite_self, reduceCtorEq, bI_t, bI_f, bI_z, bI_1, ok_bb, if_pos, if_neg, hm]
    have := kk (S.2.1 24) (fun x hx => h1 x (by omega))
    rwa [aS_id] at this
  | succ d ih =>
    intro j hj S hm h1 kk
    refine ok_fix ?_
    show okS (k_Md_work_103 a c (nI j)) S _
    unfold k_Md_work_103
    simp (disch := omega) only [n_lit, n_m1, ok_S, ok_s, ok_N, ok_n, ↓ok_if, ok_A, ok_a, ok_L, ok_l, ok_zn0, ok_zn1, ok_f2, ok_pure, ok_rI, ok_bn0, ok_bn1, ok_rt, ok_riI, ok_rn0, ok_rn1, ok_go, nx_l, nx_r, sS_s, sS_n, sS_a, sS_l, sS_k, aS_s, aS_n, aS_1, aS_l, aS_k, lS_l, lS_1, lS_a, lS_k, nS_s, nS_n, nS_1, nS_a, nS_l, updS, updN, nI_eq, nI_leI, nI_ltI, nI_add, pk_mul, nN_e, nN_e', nN_l, nN_g, nN_le, nN_ge, ite_not, if_true, if_false, not_true_eq_false, not_false_eq_true, Nat.not_lt_zero, Nat.reduceEqDiff, Nat.reduceLT, Nat.reduceLeDiff, Nat.reduceAdd, Nat.zero_le, ite_self, reduceCtorEq, bI_t, bI_f, bI_z, bI_1, ok_bb, if_pos, if_neg, hm, vb_0]
    refine ih (j + 1) (by omega) _ hm ?_ ?_
    · intro x hx
      rw [aS_s]
      by_cases hxj : x = j
      · subst hxj; exact updS _ _ _
      · rw [updN hxj]; exact h1 x (by omega)
    · intro g hg
      rw [aS_aS]
      exact kk g hg
theorem w63 {Q : Unit → qSt → Prop} {S : qSt} (hM : MdC S P L n se w B) (hn : n ≤ 200) (hs : s ≤ n + 1) (kk : ∀ mt, mt = (if se = true then decide (s ≤ n) else decide (s = 0)) → okS (w_fix b_Md_work (103, [.int (nI s), .int nN, .int (nI 0)], [])) (sS S 34 (bI mt)) Q) : okS (k_Md_work_63 (nI s)) S (nxS b_Md_work Q) := by
  unfold k_Md_work_63
  have h31 := hM.2.2.1
  have h30 := hM.2.2.2.1
  cases se with
  | false =>
    by_cases h0 : s = 0
    · simp (disch := omega) only [n_lit, n_m1, ok_S, ok_s, ok_N, ok_n, ↓ok_if, ok_A, ok_a, ok_L, ok_l, ok_zn0, ok_zn1, ok_f2, ok_pure, ok_rI, ok_bn0, ok_bn1, ok_rt, ok_riI, ok_rn0, ok_rn1, ok_go, nx_l, nx_r, sS_s, sS_n, sS_a, sS_l, sS_k, aS_s, aS_n, aS_1, aS_l, aS_k, lS_l, lS_1, lS_a, lS_k, nS_s, nS_n, nS_1, nS_a, nS_l, updS, updN, nI_eq, nI_leI, nI_ltI, nI_add, pk_mul, nN_e, nN_e', nN_l, nN_g, nN_le, nN_ge, ite_not, if_true, if_false, not_true_eq_false, not_false_eq_true, Nat.not_lt_zero, Nat.reduceEqDiff, Nat.reduceLT, Nat.reduceLeDiff, Nat.reduceAdd, Nat.zero_le, ite_self, reduceCtorEq, bI_t, bI_f, bI_z, bI_1, ok_bb, if_pos, if_neg, h30]
      have := kk true (by simp [h0])
      simp (disch := omega) only [n_lit, n_m1, ok_S, ok_s, ok_N, ok_n, ↓ok_if, ok_A, ok_a, ok_L, ok_l, ok_zn0, ok_zn1, ok_f2, ok_pure, ok_rI, ok_bn0, ok_bn1, ok_rt, ok_riI, ok_rn0, ok_rn1, ok_go, nx_l, nx_r, sS_s, sS_n, sS_a, sS_l, sS_k, aS_s, aS_n, aS_1, aS_l, aS_k, lS_l, lS_1, lS_a, lS_k, nS_s, nS_n, nS_1, nS_a, nS_l, updS, updN, nI_eq, nI_leI, nI_ltI, nI_add, pk_mul, nN_e, nN_e', nN_l, nN_g, nN_le, nN_ge, ite_not, if_true, if_false, not_true_eq_false, not_false_eq_true, Nat.not_lt_zero, Nat.reduceEqDiff, Nat.reduceLT, Nat.reduceLeDiff, Nat.reduceAdd, Nat.zero_le, ite_self, reduceCtorEq, bI_t, bI_f, bI_z, bI_1, ok_bb] at this
      exact this
    · simp (disch := omega) only [n_lit, n_m1, ok_S, ok_s, ok_N, ok_n, ↓ok_if, ok_A, ok_a, ok_L, ok_l, ok_zn0, ok_zn1, ok_f2, ok_pure, ok_rI, ok_bn0, ok_bn1, ok_rt, ok_riI, ok_rn0, ok_rn1, ok_go, nx_l, nx_r, sS_s, sS_n, sS_a, sS_l, sS_k, aS_s, aS_n, aS_1, aS_l, aS_k, lS_l, lS_1, lS_a, lS_k, nS_s, nS_n, nS_1, nS_a, nS_l, updS, updN, nI_eq, nI_leI, nI_ltI, nI_add, pk_mul, nN_e, nN_e', nN_l, nN_g, nN_le, nN_ge, ite_not, if_true, if_false, not_true_eq_false, not_false_eq_true, Nat.not_lt_zero, Nat.reduceEqDiff, Nat.reduceLT, Nat.reduceLeDiff, Nat.reduceAdd, Nat.zero_le, ite_self, reduceCtorEq, bI_t, bI_f, bI_z, bI_1, ok_bb, if_pos, if_neg, h30]
      have := kk false (by simp [h0])
      simp (disch := omega) only [n_lit, n_m1, ok_S, ok_s, ok_N, ok_n, ↓ok_if, ok_A, ok_a, ok_L, ok_l, ok_zn0, ok_zn1, ok_f2, ok_pure, ok_rI, ok_bn0, ok_bn1, ok_rt, ok_riI, ok_rn0, ok_rn1, ok_go, nx_l, nx_r, sS_s, sS_n, sS_a, sS_l, sS_k, aS_s, aS_n, aS_1, aS_l, aS_k, lS_l, lS_1, lS_a, lS_k, nS_s, nS_n, nS_1, nS_a, nS_l, updS, updN, nI_eq, nI_leI, nI_ltI, nI_add, pk_mul, nN_e, nN_e', nN_l, nN_g, nN_le, nN_ge, ite_not, if_true, if_false, not_true_eq_false, not_false_eq_true, Nat.not_lt_zero, Nat.reduceEqDiff, Nat.reduceLT, Nat.reduceLeDiff, Nat.reduceAdd, Nat.zero_le, ite_self, reduceCtorEq, bI_t, bI_f, bI_z, bI_1, ok_bb] at this
      exact this
  | true =>
    by_cases h0 : s ≤ n
    · simp (disch := omega) only [n_lit, n_m1, ok_S, ok_s, ok_N, ok_n, ↓ok_if, ok_A, ok_a, ok_L, ok_l, ok_zn0, ok_zn1, ok_f2, ok_pure, ok_rI, ok_bn0, ok_bn1, ok_rt, ok_riI, ok_rn0, ok_rn1, ok_go, nx_l, nx_r, sS_s, sS_n, sS_a, sS_l, sS_k, aS_s, aS_n, aS_1, aS_l, aS_k, lS_l, lS_1, lS_a, lS_k, nS_s, nS_n, nS_1, nS_a, nS_l, updS, updN, nI_eq, nI_leI, nI_ltI, nI_add, pk_mul, nN_e, nN_e', nN_l, nN_g, nN_le, nN_ge, ite_not, if_true, if_false, not_true_eq_false, not_false_eq_true, Nat.not_lt_zero, Nat.reduceEqDiff, Nat.reduceLT, Nat.reduceLeDiff, Nat.reduceAdd, Nat.zero_le, ite_self, reduceCtorEq, bI_t, bI_f, bI_z, bI_1, ok_bb, if_pos, if_neg, h30, h31]
      have := kk true (by simp [h0])
      simp (disch := omega) only [n_lit, n_m1, ok_S, ok_s, ok_N, ok_n, ↓ok_if, ok_A, ok_a, ok_L, ok_l, ok_zn0, ok_zn1, ok_f2, ok_pure, ok_rI, ok_bn0, ok_bn1, ok_rt, ok_riI, ok_rn0, ok_rn1, ok_go, nx_l, nx_r, sS_s, sS_n, sS_a, sS_l, sS_k, aS_s, aS_n, aS_1, aS_l, aS_k, lS_l, lS_1, lS_a, lS_k, nS_s, nS_n, nS_1, nS_a, nS_l, updS, updN, nI_eq, nI_leI, nI_ltI, nI_add, pk_mul, nN_e, nN_e', nN_l, nN_g, nN_le, nN_ge, ite_not, if_true, if_false, not_true_eq_false, not_false_eq_true, Nat.not_lt_zero, Nat.reduceEqDiff, Nat.reduceLT, Nat.reduceLeDiff, Nat.reduceAdd, Nat.zero_le, ite_self, reduceCtorEq, bI_t, bI_f, bI_z, bI_1, ok_bb] at this
      exact this
    · simp (disch := omega) only [n_lit, n_m1, ok_S, ok_s, ok_N, ok_n, ↓ok_if, ok_A, ok_a, ok_L, ok_l, ok_zn0, ok_zn1, ok_f2, ok_pure, ok_rI, ok_bn0, ok_bn1, ok_rt, ok_riI, ok_rn0, ok_rn1, ok_go, nx_l, nx_r, sS_s, sS_n, sS_a, sS_l, sS_k, aS_s, aS_n, aS_1, aS_l, aS_k, lS_l, lS_1, lS_a, lS_k, nS_s, nS_n, nS_1, nS_a, nS_l, updS, updN, nI_eq, nI_leI, nI_ltI, nI_add, pk_mul, nN_e, nN_e', nN_l, nN_g, nN_le, nN_ge, ite_not, if_true, if_false, not_true_eq_false, not_false_eq_true, Nat.not_lt_zero, Nat.reduceEqDiff, Nat.reduceLT, Nat.reduceLeDiff, Nat.reduceAdd, Nat.zero_le, ite_self, reduceCtorEq, bI_t, bI_f, bI_z, bI_1, ok_bb, if_pos, if_neg, h30, h31]
      have := kk false (by simp [h0])
      simp (disch := omega) only [n_lit, n_m1, ok_S, ok_s, ok_N, ok_n, ↓ok_if, ok_A, ok_a, ok_L, ok_l, ok_zn0, ok_zn1, ok_f2, ok_pure, ok_rI, ok_bn0, ok_bn1, ok_rt, ok_riI, ok_rn0, ok_rn1, ok_go, nx_l, nx_r, sS_s, sS_n, sS_a, sS_l, sS_k, aS_s, aS_n, aS_1, aS_l, aS_k, lS_l, lS_1, lS_a, lS_k, nS_s, nS_n, nS_1, nS_a, nS_l, updS, updN, nI_eq, nI_leI, nI_ltI, nI_add, pk_mul, nN_e, nN_e', nN_l, nN_g, nN_le, nN_ge, ite_not, if_true, if_false, not_true_eq_false, not_false_eq_true, Nat.not_lt_zero, Nat.reduceEqDiff, Nat.reduceLT, Nat.reduceLeDiff, Nat.reduceAdd, Nat.zero_le, ite_self, reduceCtorEq, bI_t, bI_f, bI_z, bI_1, ok_bb] at this
      exact this
theorem w40 {Q : Unit → qSt → Prop} (hW : MdW P L n w) : ∀ d q, q + d = n + 1 → ∀ (S : qSt), MdC S P L n se w B → Can P L n se (tkM P n w B) (S.2.1 21) → (∀ x, x < q → ¬ Rch P n se (tkM P n w B) x 0) → (∀ s, s ≤ n + 1 → (∀ x, x < s → ¬ Rch P n se (tkM P n w B) x 0) → (s ≤ n → Rch P n se (tkM P n w B) s 0) → okS (k_Md_work_63 (nI s)) S (nxS b_Md_work Q)) → okS (w_fix b_Md_work (40, [.int (nI q)], [])) S Q := by
  have hw := hW.1
  have hn := hW.2.1
  intro d
  induction d with
  | zero =>
    intro q hq S hM hG h1 kk
    refine ok_fix ?_
    show okS (k_Md_work_40 (nI q)) S _
    unfold k_Md_work_40
    have h31 := hM.2.2.1
    simp (disch := omega) only [n_lit, n_m1, ok_S, ok_s, ok_N, ok_n, ↓ok_if, ok_A, ok_a, ok_L, ok_l, ok_zn0, ok_zn1, ok_f2, ok_pure, ok_rI, ok_bn0, ok_bn1, ok_rt, ok_riI, ok_rn0, ok_rn1, ok_go, nx_l, nx_r, sS_s, sS_n, sS_a, sS_l, sS_k, aS_s, aS_n, aS_1, aS_l, aS_k, lS_l, lS_1, lS_a, lS_k, nS_s, nS_n, nS_1, nS_a, nS_l, updS, updN, nI_eq, nI_leI, nI_ltI, nI_add, pk_mul, nN_e, nN_e', nN_l, nN_g, nN_le, nN_ge, ite_not, if_true, if_false, not_true_eq_false, not_false_eq_true, Nat.not_lt_zero, Nat.reduceEqDiff, Nat.reduceLT, Nat.reduceLeDiff, Nat.reduceAdd, Nat.zero_le, ite_self, reduceCtorEq, bI_t, bI_f, bI_z, bI_1, ok_bb, if_pos, if_neg, h31]
    exact kk q (by omega) h1 (fun h => by omega)
  | succ d ih =>
    intro q hq S hM hG h1 kk
    refine ok_fix ?_
    show okS (k_Md_work_40 (nI q)) S _
    unfold k_Md_work_40
    have h31 := hM.2.2.1
    simp (disch := omega) only [n_lit, n_m1, ok_S, ok_s, ok_N, ok_n, ↓ok_if, ok_A, ok_a, ok_L, ok_l, ok_zn0, ok_zn1, ok_f2, ok_pure, ok_rI, ok_bn0, ok_bn1, ok_rt, ok_riI, ok_rn0, ok_rn1, ok_go, nx_l, nx_r, sS_s, sS_n, sS_a, sS_l, sS_k, aS_s, aS_n, aS_1, aS_l, aS_k, lS_l, lS_1, lS_a, lS_k, nS_s, nS_n, nS_1, nS_a, nS_l, updS, updN, nI_eq, nI_leI, nI_ltI, nI_add, pk_mul, nN_e, nN_e', nN_l, nN_g, nN_le, nN_ge, ite_not, if_true, if_false, not_true_eq_false, not_false_eq_true, Nat.not_lt_zero, Nat.reduceEqDiff, Nat.reduceLT, Nat.reduceLeDiff, Nat.reduceAdd, Nat.zero_le, ite_self, reduceCtorEq, bI_t, bI_f, bI_z, bI_1, ok_bb, if_pos, if_neg, h31]
    refine ok_C (e_reaches (by omega) (by omega) ?_)
    have hg := hG 0 hw.2.1 q (by omega)
    cases hb : rb (S.2.1 21) 0 q with
    | true =>
      simp (disch := omega) only [n_lit, n_m1, ok_S, ok_s, ok_N, ok_n, ↓ok_if, ok_A, ok_a, ok_L, ok_l, ok_zn0, ok_zn1, ok_f2, ok_pure, ok_rI, ok_bn0, ok_bn1, ok_rt, ok_riI, ok_rn0, ok_rn1, ok_go, nx_l, nx_r, sS_s, sS_n, sS_a, sS_l, sS_k, aS_s, aS_n, aS_1, aS_l, aS_k, lS_l, lS_1, lS_a, lS_k, nS_s, nS_n, nS_1, nS_a, nS_l, updS, updN, nI_eq, nI_leI, nI_ltI, nI_add, pk_mul, nN_e, nN_e', nN_l, nN_g, nN_le, nN_ge, ite_not, if_true, if_false, not_true_eq_false, not_false_eq_true, Nat.not_lt_zero, Nat.reduceEqDiff, Nat.reduceLT, Nat.reduceLeDiff, Nat.reduceAdd, Nat.zero_le, ite_self, reduceCtorEq, bI_t, bI_f, bI_z, bI_1, ok_bb]
      exact kk q (by omega) h1 (fun _ => hg.mp hb)
    | false =>
      simp (disch := omega) only [n_lit, n_m1, ok_S, ok_s, ok_N, ok_n, ↓ok_if, ok_A, ok_a, ok_L, ok_l, ok_zn0, ok_zn1, ok_f2, ok_pure, ok_rI, ok_bn0, ok_bn1, ok_rt, ok_riI, ok_rn0, ok_rn1, ok_go, nx_l, nx_r, sS_s, sS_n, sS_a, sS_l, sS_k, aS_s, aS_n, aS_1, aS_l, aS_k, lS_l, lS_1, lS_a, lS_k, nS_s, nS_n, nS_1, nS_a, nS_l, updS, updN, nI_eq, nI_leI, nI_ltI, nI_add, pk_mul, nN_e, nN_e', nN_l, nN_g, nN_le, nN_ge, ite_not, if_true, if_false, not_true_eq_false, not_false_eq_true, Nat.not_lt_zero, Nat.reduceEqDiff, Nat.reduceLT, Nat.reduceLeDiff, Nat.reduceAdd, Nat.zero_le, ite_self, reduceCtorEq, bI_t, bI_f, bI_z, bI_1, ok_bb]
      refine ih (q + 1) (by omega) S hM hG (fun x hx => ?_) kk
      by_cases hxq : x = q
      · subst hxq
        intro hr
        rw [hg.mpr hr] at hb
        cases hb
      · exact h1 x (by omega)
theorem w19 {Q : Unit → qSt → Prop} : ∀ d j, j + d = 14 → ∀ (S : qSt), (∀ x, x < j → S.2.1 22 x = nN) → (∀ g : Nat → Int32, Mks g mk0 → okS (w_fix b_Md_work (40, [.int (nI 0)], [])) (aS S 22 g) Q) → okS (w_fix b_Md_work (19, [.int (nI j)], [])) S Q := by
  intro d
  induction d with
  | zero =>
    intro j hj S h1 kk
    refine ok_fix ?_
    show okS (k_Md_work_19 (nI j)) S _
    unfold k_Md_work_19
    simp (disch := omega) only [n_lit, n_m1, ok_S, ok_s, ok_N, ok_n, ↓ok_if, ok_A, ok_a, ok_L, ok_l, ok_zn0, ok_zn1, ok_f2, ok_pure, ok_rI, ok_bn0, ok_bn1, ok_rt, ok_riI, ok_rn0, ok_rn1, ok_go, nx_l, nx_r, sS_s, sS_n, sS_a, sS_l, sS_k, aS_s, aS_n, aS_1, aS_l, aS_k, lS_l, lS_1, lS_a, lS_k, nS_s, nS_n, nS_1, nS_a, nS_l, updS, updN, nI_eq, nI_leI, nI_ltI, nI_add, pk_mul, nN_e, nN_e', nN_l, nN_g, nN_le, nN_ge, ite_not, if_true, if_false, not_true_eq_false, not_false_eq_true, Nat.not_lt_zero, Nat.reduceEqDiff, Nat.reduceLT, Nat.reduceLeDiff, Nat.reduceAdd, Nat.zero_le, ite_self, reduceCtorEq, bI_t, bI_f, bI_z, bI_1, ok_bb, if_pos, if_neg]
    have := kk (S.2.1 22) (fun x hx => h1 x (by omega))
    rwa [aS_id] at this
  | succ d ih =>
    intro j hj S h1 kk
    refine ok_fix ?_
    show okS (k_Md_work_19 (nI j)) S _
    unfold k_Md_work_19
    simp (disch := omega) only [n_lit, n_m1, ok_S, ok_s, ok_N, ok_n, ↓ok_if, ok_A, ok_a, ok_L, ok_l, ok_zn0, ok_zn1, ok_f2, ok_pure, ok_rI, ok_bn0, ok_bn1, ok_rt, ok_riI, ok_rn0, ok_rn1, ok_go, nx_l, nx_r, sS_s, sS_n, sS_a, sS_l, sS_k, aS_s, aS_n, aS_1, aS_l, aS_k, lS_l, lS_1, lS_a, lS_k, nS_s, nS_n, nS_1, nS_a, nS_l, updS, updN, nI_eq, nI_leI, nI_ltI, nI_add, pk_mul, nN_e, nN_e', nN_l, nN_g, nN_le, nN_ge, ite_not, if_true, if_false, not_true_eq_false, not_false_eq_true, Nat.not_lt_zero, Nat.reduceEqDiff, Nat.reduceLT, Nat.reduceLeDiff, Nat.reduceAdd, Nat.zero_le, ite_self, reduceCtorEq, bI_t, bI_f, bI_z, bI_1, ok_bb, if_pos, if_neg]
    refine ih (j + 1) (by omega) _ ?_ ?_
    · intro x hx
      rw [aS_s]
      by_cases hxj : x = j
      · subst hxj; exact updS _ _ _
      · rw [updN hxj]; exact h1 x (by omega)
    · intro g hg
      rw [aS_aS]
      exact kk g hg
theorem e_work {Q : Unit → qSt → Prop} {S : qSt} (hW : MdW P L n w) (hM : MdC S P L n se w B) (h33 : S.1 33 = nI 0) (kk : ∀ S', FrM S S' → S'.1 33 = nI 1 → WkR L S' (runW P se (tkM P n w B) n) → Q () S') : okS f_Md_work S Q := by
  unfold f_Md_work
  refine ok_fix ?_
  show okS k_Md_work_0 S _
  unfold k_Md_work_0
  simp (disch := omega) only [n_lit, n_m1, ok_S, ok_s, ok_N, ok_n, ↓ok_if, ok_A, ok_a, ok_L, ok_l, ok_zn0, ok_zn1, ok_f2, ok_pure, ok_rI, ok_bn0, ok_bn1, ok_rt, ok_riI, ok_rn0, ok_rn1, ok_go, nx_l, nx_r, sS_s, sS_n, sS_a, sS_l, sS_k, aS_s, aS_n, aS_1, aS_l, aS_k, lS_l, lS_1, lS_a, lS_k, nS_s, nS_n, nS_1, nS_a, nS_l, updS, updN, nI_eq, nI_leI, nI_ltI, nI_add, pk_mul, nN_e, nN_e', nN_l, nN_g, nN_le, nN_ge, ite_not, if_true, if_false, not_true_eq_false, not_false_eq_true, Nat.not_lt_zero, Nat.reduceEqDiff, Nat.reduceLT, Nat.reduceLeDiff, Nat.reduceAdd, Nat.zero_le, ite_self, reduceCtorEq, bI_t, bI_f, bI_z, bI_1, ok_bb, h33]
  have hw := hW.1
  have hL := hw.1
  have hn := hW.2.1
  have f0 : FrM S (sS S 33 (nI 1)) := ⟨fun f h _ _ => sS_n h, fun f _ => rfl, rfl⟩
  refine ok_C (e_fill hW (MdC_fr hM f0) ?_)
  intro g hg
  simp (disch := omega) only [n_lit, n_m1, ok_S, ok_s, ok_N, ok_n, ↓ok_if, ok_A, ok_a, ok_L, ok_l, ok_zn0, ok_zn1, ok_f2, ok_pure, ok_rI, ok_bn0, ok_bn1, ok_rt, ok_riI, ok_rn0, ok_rn1, ok_go, nx_l, nx_r, sS_s, sS_n, sS_a, sS_l, sS_k, aS_s, aS_n, aS_1, aS_l, aS_k, lS_l, lS_1, lS_a, lS_k, nS_s, nS_n, nS_1, nS_a, nS_l, updS, updN, nI_eq, nI_leI, nI_ltI, nI_add, pk_mul, nN_e, nN_e', nN_l, nN_g, nN_le, nN_ge, ite_not, if_true, if_false, not_true_eq_false, not_false_eq_true, Nat.not_lt_zero, Nat.reduceEqDiff, Nat.reduceLT, Nat.reduceLeDiff, Nat.reduceAdd, Nat.zero_le, ite_self, reduceCtorEq, bI_t, bI_f, bI_z, bI_1, ok_bb]
  refine w19 14 0 rfl _ (fun x hx => by omega) ?_
  intro g2 hg2
  have f1 : FrM S (aS (aS (sS S 33 (nI 1)) 21 g) 22 g2) := ⟨fun f h _ _ => by simp (disch := omega) only [n_lit, n_m1, ok_S, ok_s, ok_N, ok_n, ↓ok_if, ok_A, ok_a, ok_L, ok_l, ok_zn0, ok_zn1, ok_f2, ok_pure, ok_rI, ok_bn0, ok_bn1, ok_rt, ok_riI, ok_rn0, ok_rn1, ok_go, nx_l, nx_r, sS_s, sS_n, sS_a, sS_l, sS_k, aS_s, aS_n, aS_1, aS_l, aS_k, lS_l, lS_1, lS_a, lS_k, nS_s, nS_n, nS_1, nS_a, nS_l, updS, updN, nI_eq, nI_leI, nI_ltI, nI_add, pk_mul, nN_e, nN_e', nN_l, nN_g, nN_le, nN_ge, ite_not, if_true, if_false, not_true_eq_false, not_false_eq_true, Nat.not_lt_zero, Nat.reduceEqDiff, Nat.reduceLT, Nat.reduceLeDiff, Nat.reduceAdd, Nat.zero_le, ite_self, reduceCtorEq, bI_t, bI_f, bI_z, bI_1, ok_bb], fun f h => by simp (disch := omega) only [n_lit, n_m1, ok_S, ok_s, ok_N, ok_n, ↓ok_if, ok_A, ok_a, ok_L, ok_l, ok_zn0, ok_zn1, ok_f2, ok_pure, ok_rI, ok_bn0, ok_bn1, ok_rt, ok_riI, ok_rn0, ok_rn1, ok_go, nx_l, nx_r, sS_s, sS_n, sS_a, sS_l, sS_k, aS_s, aS_n, aS_1, aS_l, aS_k, lS_l, lS_1, lS_a, lS_k, nS_s, nS_n, nS_1, nS_a, nS_l, updS, updN, nI_eq, nI_leI, nI_ltI, nI_add, pk_mul, nN_e, nN_e', nN_l, nN_g, nN_le, nN_ge, ite_not, if_true, if_false, not_true_eq_false, not_false_eq_true, Nat.not_lt_zero, Nat.reduceEqDiff, Nat.reduceLT, Nat.reduceLeDiff, Nat.reduceAdd, Nat.zero_le, ite_self, reduceCtorEq, bI_t, bI_f, bI_z, bI_1, ok_bb], rfl⟩
  have hM1 := MdC_fr hM f1
  refine w40 hW (n + 1) 0 (by omega) _ hM1 (by simp (disch := omega) only [n_lit, n_m1, ok_S, ok_s, ok_N, ok_n, ↓ok_if, ok_A, ok_a, ok_L, ok_l, ok_zn0, ok_zn1, ok_f2, ok_pure, ok_rI, ok_bn0, ok_bn1, ok_rt, ok_riI, ok_rn0, ok_rn1, ok_go, nx_l, nx_r, sS_s, sS_n, sS_a, sS_l, sS_k, aS_s, aS_n, aS_1, aS_l, aS_k, lS_l, lS_1, lS_a, lS_k, nS_s, nS_n, nS_1, nS_a, nS_l, updS, updN, nI_eq, nI_leI, nI_ltI, nI_add, pk_mul, nN_e, nN_e', nN_l, nN_g, nN_le, nN_ge, ite_not, if_true, if_false, not_true_eq_false, not_false_eq_true, Nat.not_lt_zero, Nat.reduceEqDiff, Nat.reduceLT, Nat.reduceLeDiff, Nat.reduceAdd, Nat.zero_le, ite_self, reduceCtorEq, bI_t, bI_f, bI_z, bI_1, ok_bb]; exact hg) (fun x hx => by omega) ?_
  intro s hs hs1 hs2
  refine w63 hM1 hn hs ?_
  intro mt hmt
  refine w103 hL L 0 (by omega) _ hM1.1 (fun x hx => by omega) ?_
  intro g3 hg3
  have f2 : FrM S (aS (sS (aS (aS (sS S 33 (nI 1)) 21 g) 22 g2) 34 (bI mt)) 24 g3) := ⟨fun f h h2 _ => by simp (disch := omega) only [n_lit, n_m1, ok_S, ok_s, ok_N, ok_n, ↓ok_if, ok_A, ok_a, ok_L, ok_l, ok_zn0, ok_zn1, ok_f2, ok_pure, ok_rI, ok_bn0, ok_bn1, ok_rt, ok_riI, ok_rn0, ok_rn1, ok_go, nx_l, nx_r, sS_s, sS_n, sS_a, sS_l, sS_k, aS_s, aS_n, aS_1, aS_l, aS_k, lS_l, lS_1, lS_a, lS_k, nS_s, nS_n, nS_1, nS_a, nS_l, updS, updN, nI_eq, nI_leI, nI_ltI, nI_add, pk_mul, nN_e, nN_e', nN_l, nN_g, nN_le, nN_ge, ite_not, if_true, if_false, not_true_eq_false, not_false_eq_true, Nat.not_lt_zero, Nat.reduceEqDiff, Nat.reduceLT, Nat.reduceLeDiff, Nat.reduceAdd, Nat.zero_le, ite_self, reduceCtorEq, bI_t, bI_f, bI_z, bI_1, ok_bb], fun f h => by simp (disch := omega) only [n_lit, n_m1, ok_S, ok_s, ok_N, ok_n, ↓ok_if, ok_A, ok_a, ok_L, ok_l, ok_zn0, ok_zn1, ok_f2, ok_pure, ok_rI, ok_bn0, ok_bn1, ok_rt, ok_riI, ok_rn0, ok_rn1, ok_go, nx_l, nx_r, sS_s, sS_n, sS_a, sS_l, sS_k, aS_s, aS_n, aS_1, aS_l, aS_k, lS_l, lS_1, lS_a, lS_k, nS_s, nS_n, nS_1, nS_a, nS_l, updS, updN, nI_eq, nI_leI, nI_ltI, nI_add, pk_mul, nN_e, nN_e', nN_l, nN_g, nN_le, nN_ge, ite_not, if_true, if_false, not_true_eq_false, not_false_eq_true, Nat.not_lt_zero, Nat.reduceEqDiff, Nat.reduceLT, Nat.reduceLeDiff, Nat.reduceAdd, Nat.zero_le, ite_self, reduceCtorEq, bI_t, bI_f, bI_z, bI_1, ok_bb], rfl⟩
  have hM2 := MdC_fr hM f2
  have := placeL (s := s) (mt := mt) (Q := Q) hW hs hmt hs1 hs2 (n + 1) 0 (by omega) (by omega) _ (fun _ => false) none mk0 hM2 (by simp (disch := omega) only [n_lit, n_m1, ok_S, ok_s, ok_N, ok_n, ↓ok_if, ok_A, ok_a, ok_L, ok_l, ok_zn0, ok_zn1, ok_f2, ok_pure, ok_rI, ok_bn0, ok_bn1, ok_rt, ok_riI, ok_rn0, ok_rn1, ok_go, nx_l, nx_r, sS_s, sS_n, sS_a, sS_l, sS_k, aS_s, aS_n, aS_1, aS_l, aS_k, lS_l, lS_1, lS_a, lS_k, nS_s, nS_n, nS_1, nS_a, nS_l, updS, updN, nI_eq, nI_leI, nI_ltI, nI_add, pk_mul, nN_e, nN_e', nN_l, nN_g, nN_le, nN_ge, ite_not, if_true, if_false, not_true_eq_false, not_false_eq_true, Nat.not_lt_zero, Nat.reduceEqDiff, Nat.reduceLT, Nat.reduceLeDiff, Nat.reduceAdd, Nat.zero_le, ite_self, reduceCtorEq, bI_t, bI_f, bI_z, bI_1, ok_bb]) (by simp (disch := omega) only [n_lit, n_m1, ok_S, ok_s, ok_N, ok_n, ↓ok_if, ok_A, ok_a, ok_L, ok_l, ok_zn0, ok_zn1, ok_f2, ok_pure, ok_rI, ok_bn0, ok_bn1, ok_rt, ok_riI, ok_rn0, ok_rn1, ok_go, nx_l, nx_r, sS_s, sS_n, sS_a, sS_l, sS_k, aS_s, aS_n, aS_1, aS_l, aS_k, lS_l, lS_1, lS_a, lS_k, nS_s, nS_n, nS_1, nS_a, nS_l, updS, updN, nI_eq, nI_leI, nI_ltI, nI_add, pk_mul, nN_e, nN_e', nN_l, nN_g, nN_le, nN_ge, ite_not, if_true, if_false, not_true_eq_false, not_false_eq_true, Nat.not_lt_zero, Nat.reduceEqDiff, Nat.reduceLT, Nat.reduceLeDiff, Nat.reduceAdd, Nat.zero_le, ite_self, reduceCtorEq, bI_t, bI_f, bI_z, bI_1, ok_bb]; exact hg) (by simp (disch := omega) only [n_lit, n_m1, ok_S, ok_s, ok_N, ok_n, ↓ok_if, ok_A, ok_a, ok_L, ok_l, ok_zn0, ok_zn1, ok_f2, ok_pure, ok_rI, ok_bn0, ok_bn1, ok_rt, ok_riI, ok_rn0, ok_rn1, ok_go, nx_l, nx_r, sS_s, sS_n, sS_a, sS_l, sS_k, aS_s, aS_n, aS_1, aS_l, aS_k, lS_l, lS_1, lS_a, lS_k, nS_s, nS_n, nS_1, nS_a, nS_l, updS, updN, nI_eq, nI_leI, nI_ltI, nI_add, pk_mul, nN_e, nN_e', nN_l, nN_g, nN_le, nN_ge, ite_not, if_true, if_false, not_true_eq_false, not_false_eq_true, Nat.not_lt_zero, Nat.reduceEqDiff, Nat.reduceLT, Nat.reduceLeDiff, Nat.reduceAdd, Nat.zero_le, ite_self, reduceCtorEq, bI_t, bI_f, bI_z, bI_1, ok_bb]; exact fun k hk => hg3 k hk) clo_nil (by simp (disch := omega) only [n_lit, n_m1, ok_S, ok_s, ok_N, ok_n, ↓ok_if, ok_A, ok_a, ok_L, ok_l, ok_zn0, ok_zn1, ok_f2, ok_pure, ok_rI, ok_bn0, ok_bn1, ok_rt, ok_riI, ok_rn0, ok_rn1, ok_go, nx_l, nx_r, sS_s, sS_n, sS_a, sS_l, sS_k, aS_s, aS_n, aS_1, aS_l, aS_k, lS_l, lS_1, lS_a, lS_k, nS_s, nS_n, nS_1, nS_a, nS_l, updS, updN, nI_eq, nI_leI, nI_ltI, nI_add, pk_mul, nN_e, nN_e', nN_l, nN_g, nN_le, nN_ge, ite_not, if_true, if_false, not_true_eq_false, not_false_eq_true, Nat.not_lt_zero, Nat.reduceEqDiff, Nat.reduceLT, Nat.reduceLeDiff, Nat.reduceAdd, Nat.zero_le, ite_self, reduceCtorEq, bI_t, bI_f, bI_z, bI_1, ok_bb]; exact hg2) (Or.inl ⟨rfl, rfl, rfl, rfl⟩) ?_
  · exact this
  intro S' H at_ mk fk hH hmk hJ
  have f3 : FrM S S' := FrM_trans f2 (FrK_M fk)
  have hM3 := MdC_fr hM f3
  refine w274 (H := H) hL L 0 (by omega) S' hM3 (fun k hk => (hw.2.2 k hk).1.1) hH (fun x hx => by omega) ?_
  intro g4 hg4
  have hend := J_end (runW_tk hw n) (fun k => by unfold tkM; simp) hs2 hs1 hJ
  refine kk _ (FrM_trans f3 (FrM_a (by omega))) ?_ ⟨?_, ?_, _, by rw [aS_s]; exact hg4, ?_⟩
  · rw [aS_1, fk.1 33 (by omega)]
    simp (disch := omega) only [n_lit, n_m1, ok_S, ok_s, ok_N, ok_n, ↓ok_if, ok_A, ok_a, ok_L, ok_l, ok_zn0, ok_zn1, ok_f2, ok_pure, ok_rI, ok_bn0, ok_bn1, ok_rt, ok_riI, ok_rn0, ok_rn1, ok_go, nx_l, nx_r, sS_s, sS_n, sS_a, sS_l, sS_k, aS_s, aS_n, aS_1, aS_l, aS_k, lS_l, lS_1, lS_a, lS_k, nS_s, nS_n, nS_1, nS_a, nS_l, updS, updN, nI_eq, nI_leI, nI_ltI, nI_add, pk_mul, nN_e, nN_e', nN_l, nN_g, nN_le, nN_ge, ite_not, if_true, if_false, not_true_eq_false, not_false_eq_true, Nat.not_lt_zero, Nat.reduceEqDiff, Nat.reduceLT, Nat.reduceLeDiff, Nat.reduceAdd, Nat.zero_le, ite_self, reduceCtorEq, bI_t, bI_f, bI_z, bI_1, ok_bb]
  · rw [aS_1, fk.1 34 (by omega)]
    simp (disch := omega) only [n_lit, n_m1, ok_S, ok_s, ok_N, ok_n, ↓ok_if, ok_A, ok_a, ok_L, ok_l, ok_zn0, ok_zn1, ok_f2, ok_pure, ok_rI, ok_bn0, ok_bn1, ok_rt, ok_riI, ok_rn0, ok_rn1, ok_go, nx_l, nx_r, sS_s, sS_n, sS_a, sS_l, sS_k, aS_s, aS_n, aS_1, aS_l, aS_k, lS_l, lS_1, lS_a, lS_k, nS_s, nS_n, nS_1, nS_a, nS_l, updS, updN, nI_eq, nI_leI, nI_ltI, nI_add, pk_mul, nN_e, nN_e', nN_l, nN_g, nN_le, nN_ge, ite_not, if_true, if_false, not_true_eq_false, not_false_eq_true, Nat.not_lt_zero, Nat.reduceEqDiff, Nat.reduceLT, Nat.reduceLeDiff, Nat.reduceAdd, Nat.zero_le, ite_self, reduceCtorEq, bI_t, bI_f, bI_z, bI_1, ok_bb]
    congr 1
    have hcond : mt = true ↔ (se = true ∧ s ≤ n) ∨ (se = false ∧ s = 0) := by
      rw [hmt]
      cases se <;> simp
    cases hb : mt with
    | true =>
      have := hend.2
      rw [if_pos (hcond.mp hb)] at this
      rw [this]; rfl
    | false =>
      have := hend.2
      rw [if_neg (fun q => by rw [hcond.mpr q] at hb; cases hb)] at this
      rw [this]; rfl
  · intro mk' hmk'
    rw [aS_n (by omega)]
    have := hend.2
    split at this
    · rw [this] at hmk'
      cases hmk'
      exact hmk
    · rw [this] at hmk'
      cases hmk'
  · intro k hk
    rw [Bool.and_eq_true, beq_iff_eq]
    constructor
    · rintro ⟨h1, h2⟩
      exact (hend.1 k hk h2).mp h1
    · intro h
      obtain ⟨e, he, hek⟩ := h
      have := runW_tk (se := se) (tk := tkM P n w B) hw n e he
      rw [hek] at this
      exact ⟨(hend.1 k hk this.2).mpr ⟨e, he, hek⟩, this.2⟩
end WP
/-- the run depends on the word alone as far as it went -/
theorem runW_congr {P : Pg} {se : Bool} {tk tk' : Nat → Nat → Bool} : ∀ m, (∀ p, p < m → tk p = tk' p) → runW P se tk m = runW P se tk' m := by
  intro m
  induction m with
  | zero => intro _; rfl
  | succ m ih =>
    intro h
    unfold runW
    rw [ih (fun p hp => h p (by omega)), h m (by omega)]
def MkOk (g : Nat) (m : Mk) : Prop := ∀ j, 2 * g + 1 < j → m j = nN
def LsOk (g : Nat) (l : List (Nat × Mk)) : Prop := ∀ e ∈ l, MkOk g e.2
def FdOk (g : Nat) (fd : Option Mk) : Prop := ∀ m, fd = some m → MkOk g m
section GG
variable {P : Pg} {L g : Nat}
theorem dfs_mk {i : Int32} (hw : WF P L) (hg : ∀ k, k < L → P.1 k = 3 → P.2.1 k ≤ 2 * g + 1) : ∀ F (W : List (Nat × Mk)) (V : Nat → Bool), (∀ e ∈ W, e.1 < L) → LsOk g W → LsOk g (dfs P i F W V) := by
  intro F
  induction F with
  | zero => intro W V _ _ e he; cases he
  | succ F ih =>
    intro W V hb hl
    cases W with
    | nil => intro e he; cases he
    | cons d W =>
      have hk := hb d (List.mem_cons_self ..)
      have hb' : ∀ e ∈ W, e.1 < L := fun e he => hb e (List.mem_cons_of_mem _ he)
      have hl' : LsOk g W := fun e he => hl e (List.mem_cons_of_mem _ he)
      have hd := hl d (List.mem_cons_self ..)
      cases hv : V d.1 with
      | true => rw [dfs_v hv]; exact ih W V hb' hl'
      | false =>
        rw [dfs_n hv]
        intro e he
        rcases List.mem_cons.mp he with he | he
        · rw [he]; exact hd
        · refine ih _ _ ?_ ?_ e he
          · intro a ha
            rcases List.mem_append.mp ha with ha | ha
            · exact sc_lt hw hk (scm_mem ha)
            · exact hb' a ha
          · intro a ha
            rcases List.mem_append.mp ha with ha | ha
            · unfold scm at ha
              split at ha
              · simp only [List.mem_cons, List.not_mem_nil, or_false] at ha
                rcases ha with ha | ha <;> rw [ha] <;> exact hd
              · split at ha
                · simp only [List.mem_cons, List.not_mem_nil, or_false] at ha
                  rw [ha]; exact hd
                · split at ha
                  · rename_i h3
                    simp only [List.mem_cons, List.not_mem_nil, or_false] at ha
                    rw [ha]
                    intro j hj
                    have := hg d.1 hk h3
                    show upd d.2 (P.2.1 d.1) i j = nN
                    rw [updN (by omega)]
                    exact hd j hj
                  · cases ha
            · exact hl' a ha
theorem cutl_sub {se : Bool} : ∀ l : List (Nat × Mk), ∀ e ∈ cutl P se l, e ∈ l := by
  intro l
  induction l with
  | nil => intro e he; exact he
  | cons x l ih =>
    intro e he
    have he' : e ∈ (if se = true ∧ P.1 x.1 = 4 then [x] else x :: cutl P se l) := he
    split at he'
    · rcases List.mem_cons.mp he' with h1 | h1
      · rw [h1]; exact List.mem_cons_self ..
      · cases h1
    · rcases List.mem_cons.mp he' with h1 | h1
      · rw [h1]; exact List.mem_cons_self ..
      · exact List.mem_cons_of_mem _ (ih e h1)
theorem fdF_ok : ∀ (l : List (Nat × Mk)) (fd : Option Mk), LsOk g l → FdOk g fd → FdOk g (fdF P fd l) := by
  intro l
  induction l with
  | nil => intro fd _ h; exact h
  | cons e l ih =>
    intro fd hl h
    show FdOk g (fdF P (if P.1 e.1 = 4 then some e.2 else fd) l)
    refine ih _ (fun a ha => hl a (List.mem_cons_of_mem _ ha)) ?_
    split
    · intro m hm; cases hm; exact hl e (List.mem_cons_self ..)
    · exact h
def StOk (g : Nat) (st : Wst) : Prop := LsOk g st.2.1 ∧ FdOk g st.2.2.1
theorem mk0_ok : MkOk g mk0 := fun _ _ => rfl
theorem fol1_ok {se : Bool} {i k : Nat} {m : Mk} {st : Wst} (hw : WF P L) (hg : ∀ k, k < L → P.1 k = 3 → P.2.1 k ≤ 2 * g + 1) (hk : k < L) (hm : MkOk g m) (h : StOk g st) : StOk g (fol1 P se i k m st) := by
  have h1 : LsOk g (cutl P se (dfs P (nI i) 400 [(k, m)] st.1)) := by
    intro e he
    refine dfs_mk hw hg 400 [(k, m)] st.1 (one_lt hk) ?_ e (cutl_sub _ e he)
    intro a ha
    rcases List.mem_cons.mp ha with ha | ha
    · rw [ha]; exact hm
    · cases ha
  refine ⟨?_, fdF_ok _ _ h1 h.2⟩
  intro e he
  rcases List.mem_append.mp he with he | he
  · exact h.1 e he
  · exact h1 e (tks_mem.mp he).1
theorem folW_ok {se : Bool} {i : Nat} {t : Nat → Bool} (hw : WF P L) (hg : ∀ k, k < L → P.1 k = 3 → P.2.1 k ≤ 2 * g + 1) : ∀ (l : List (Nat × Mk)) (st : Wst), TkOk P L l → LsOk g l → StOk g st → StOk g (folW P se i t l st) := by
  intro l
  induction l with
  | nil => intro st _ _ h; exact h
  | cons e l ih =>
    intro st hT hl h
    have he := hT e (List.mem_cons_self ..)
    have hT' : TkOk P L l := fun a ha => hT a (List.mem_cons_of_mem _ ha)
    have hl' : LsOk g l := fun a ha => hl a (List.mem_cons_of_mem _ ha)
    unfold folW
    split
    · exact h
    · split
      · exact ih _ hT' hl' (fol1_ok hw hg ((hw.2.2 e.1 he.1).2.1 he.2) (hl e (List.mem_cons_self ..)) h)
      · exact ih _ hT' hl' h
theorem finW_ok {se : Bool} {i : Nat} {st : Wst} (hw : WF P L) (hg : ∀ k, k < L → P.1 k = 3 → P.2.1 k ≤ 2 * g + 1) (h : StOk g st) : StOk g (finW P se i st) := by
  unfold finW
  split
  · exact fol1_ok hw hg hw.2.1 mk0_ok h
  · exact h
theorem runW_ok {se : Bool} {tk : Nat → Nat → Bool} (hw : WF P L) (hg : ∀ k, k < L → P.1 k = 3 → P.2.1 k ≤ 2 * g + 1) : ∀ p, StOk g (runW P se tk p) := by
  intro p
  induction p with
  | zero => exact fol1_ok hw hg hw.2.1 mk0_ok ⟨fun e h => (by cases h), fun m h => (by cases h)⟩
  | succ p ih =>
    refine finW_ok hw hg (folW_ok hw hg _ _ (runW_tk hw p) ih.1 ⟨fun e h => (by cases h), ?_⟩)
    intro m hm
    have hm' : (if se = true then (runW P se tk p).2.2.1 else none) = some m := hm
    split at hm'
    · exact ih.2 m hm'
    · cases hm'
theorem runW_WsV {se : Bool} {tk : Nat → Nat → Bool} : ∀ p, WsV P (runW P se tk p) := by
  intro p
  cases p with
  | zero => exact fol1_WsV (WsV_nil none)
  | succ p =>
    have h1 : WsV P (folW P se (p + 1) (tk p) (runW P se tk p).2.1 (fun _ => false, [], if se = true then (runW P se tk p).2.2.1 else none, false)) := folW_WsV _ _ (WsV_nil _)
    show WsV P (finW P se (p + 1) _)
    generalize folW P se (p + 1) (tk p) (runW P se tk p).2.1 (fun _ => false, [], if se = true then (runW P se tk p).2.2.1 else none, false) = st at h1
    unfold finW
    split
    · exact fol1_WsV h1
    · exact h1
/-- no TAKE stands twice -/
def NdOk (st : Wst) : Prop := st.2.1.Pairwise (fun a b => a.1 ≠ b.1) ∧ ∀ e ∈ st.2.1, st.1 e.1 = true
theorem cutl_pw {se : Bool} {R : Nat × Mk → Nat × Mk → Prop} : ∀ l : List (Nat × Mk), l.Pairwise R → (cutl P se l).Pairwise R := by
  intro l
  induction l with
  | nil => intro h; exact h
  | cons x l ih =>
    intro h
    show List.Pairwise R (if se = true ∧ P.1 x.1 = 4 then [x] else x :: cutl P se l)
    split
    · exact List.pairwise_singleton _ _
    · exact List.Pairwise.cons (fun a ha => (List.pairwise_cons.mp h).1 a (cutl_sub l a ha)) (ih (List.pairwise_cons.mp h).2)
theorem fol1_nd {se : Bool} {i k : Nat} {m : Mk} {st : Wst} (hw : WF P L) (hk : k < L) (h : NdOk st) : NdOk (fol1 P se i k m st) := by
  have ha := dfs_all (i := nI i) hw 400 [(k, m)] st.1 (un_ok hw _ _) (one_lt hk)
  have hn := dfs_nd (j := nI i) hw 400 [(k, m)] st.1 (un_ok hw _ _) (one_lt hk)
  have hc := cutl_pw (P := P) (se := se) _ hn
  refine ⟨?_, ?_⟩
  · show List.Pairwise _ (st.2.1 ++ tks P (cutl P se (dfs P (nI i) 400 [(k, m)] st.1)))
    rw [List.pairwise_append]
    refine ⟨h.1, List.Pairwise.filter _ hc, ?_⟩
    intro a h1 b h2 q
    have h3 := h.2 a h1
    have h4 := (ha.2 b (cutl_sub _ b (tks_mem.mp h2).1)).2.1
    rw [q, h4] at h3
    cases h3
  · intro e he
    rcases List.mem_append.mp he with he | he
    · exact visV_of (h.2 e he)
    · exact visV_iff.mpr (Or.inr ⟨e, (tks_mem.mp he).1, rfl⟩)
theorem folW_nd {se : Bool} {i : Nat} {t : Nat → Bool} (hw : WF P L) : ∀ (l : List (Nat × Mk)) (st : Wst), TkOk P L l → NdOk st → NdOk (folW P se i t l st) := by
  intro l
  induction l with
  | nil => intro st _ h; exact h
  | cons e l ih =>
    intro st hT h
    have he := hT e (List.mem_cons_self ..)
    have hT' : TkOk P L l := fun a ha => hT a (List.mem_cons_of_mem _ ha)
    unfold folW
    split
    · exact h
    · split
      · exact ih _ hT' (fol1_nd hw ((hw.2.2 e.1 he.1).2.1 he.2) h)
      · exact ih _ hT' h
theorem runW_nd {se : Bool} {tk : Nat → Nat → Bool} (hw : WF P L) : ∀ p, NdOk (runW P se tk p) := by
  have h0 : ∀ fd, NdOk (fun _ => false, [], fd, false) := fun fd => ⟨List.Pairwise.nil, fun e h => (by cases h)⟩
  intro p
  cases p with
  | zero => exact fol1_nd hw hw.2.1 (h0 none)
  | succ p =>
    have h1 : NdOk (folW P se (p + 1) (tk p) (runW P se tk p).2.1 (fun _ => false, [], if se = true then (runW P se tk p).2.2.1 else none, false)) := folW_nd hw _ _ (runW_tk hw p) (h0 _)
    show NdOk (finW P se (p + 1) _)
    generalize folW P se (p + 1) (tk p) (runW P se tk p).2.1 (fun _ => false, [], if se = true then (runW P se tk p).2.2.1 else none, false) = st at h1
    unfold finW
    split
    · exact fol1_nd hw hw.2.1 h1
    · exact h1
end GG
/-- how many stand in a row -/
theorem unv_len : ∀ (ws : List (Nat × Mk)) (V : Nat → Bool) (L : Nat), ws.Pairwise (fun a b => a.1 ≠ b.1) → (∀ e ∈ ws, e.1 < L) → (∀ k, k < L → (V k = true ↔ ∃ e ∈ ws, e.1 = k)) → unv (fun k => !V k) L = ws.length := by
  intro ws
  induction ws with
  | nil =>
    intro V L _ _ h
    have : ∀ m, m ≤ L → unv (fun k => !V k) m = 0 := by
      intro m
      induction m with
      | zero => intro _; rfl
      | succ m ih =>
        intro hm
        unfold unv
        rw [ih (by omega)]
        have : V m = false := by
          cases hq : V m with
          | false => rfl
          | true =>
            obtain ⟨e, he, -⟩ := (h m (by omega)).mp hq
            cases he
        rw [this]
        rfl
    exact this L (Nat.le_refl _)
  | cons e ws ih =>
    intro V L hp hl h
    obtain ⟨p1, p2⟩ := List.pairwise_cons.mp hp
    have he := hl e (List.mem_cons_self ..)
    have hV : V e.1 = true := (h e.1 he).mpr ⟨e, List.mem_cons_self .., rfl⟩
    have h1 := unv_in (V := fun k => !V k) (k := e.1) (by simp [hV]) L he
    have e1 : vset (fun k => !V k) e.1 = fun k => !(V k && !(k == e.1)) := by
      funext k
      show (!V k || k == e.1) = !(V k && !(k == e.1))
      generalize V k = b
      generalize (k == e.1) = c
      cases b <;> cases c <;> rfl
    rw [e1] at h1
    have h2 := ih (fun k => V k && !(k == e.1)) L p2 (fun a ha => hl a (List.mem_cons_of_mem _ ha)) ?_
    · rw [h2] at h1
      simp only [List.length_cons]
      omega
    · intro k hk
      constructor
      · intro q
        rw [Bool.and_eq_true, Bool.not_eq_true', beq_eq_false_iff_ne] at q
        obtain ⟨x, hx, hx2⟩ := (h k hk).mp q.1
        rcases List.mem_cons.mp hx with hx | hx
        · rw [hx] at hx2; exact absurd hx2.symm q.2
        · exact ⟨x, hx, hx2⟩
      · rintro ⟨x, hx, hx2⟩
        rw [Bool.and_eq_true, Bool.not_eq_true', beq_eq_false_iff_ne]
        refine ⟨(h k hk).mpr ⟨x, List.mem_cons_of_mem _ hx, hx2⟩, ?_⟩
        intro q
        exact p1 x hx (by rw [hx2, q])
