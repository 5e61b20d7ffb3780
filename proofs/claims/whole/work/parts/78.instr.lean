/-! CLASS AND REFERENCE: instruction -/
theorem e_count {S : qSt} {o s u : Nat} {Q : Int32 → qSt → Prop} (hu : S.1 41 = nI u) (h1 : u ≤ 48) (hs : s < u) (q : Q (nI (unv (fun c => !cB S.2.2.1 s c) 256)) S) : okS (f_Cs_count o (nI s)) S Q := by
  have lp : ∀ d w, w + d = 4 → okS (w_fix (b_Cs_count o) (4, [.int (nI s), .int (nI (unv (fun c => !cB S.2.2.1 s c) (64 * w))), .int (nI w)], [])) S Q := by
    intro d
    induction d with
    | zero =>
      intro w hw
      refine ok_fix ?_
      show okS (k_Cs_count_4 o (nI s) _ (nI w)) S _
      unfold k_Cs_count_4
      simp (disch := omega) only [n_lit, n_m1, ok_S, ok_s, ok_N, ok_n, ↓ok_if, ok_A, ok_a, ok_L, ok_l, ok_zn0, ok_zn1, ok_f2, ok_pure, ok_rI, ok_bn0, ok_bn1, ok_rt, ok_riI, ok_rn0, ok_rn1, ok_go, nx_l, nx_r, sS_s, sS_n, sS_a, sS_l, sS_k, aS_s, aS_n, aS_1, aS_l, aS_k, lS_l, lS_1, lS_a, lS_k, nS_s, nS_n, nS_1, nS_a, nS_l, updS, updN, nI_eq, nI_leI, nI_ltI, nI_add, pk_mul, nN_e, nN_e', nN_l, nN_g, nN_le, nN_ge, ite_not, if_true, if_false, not_true_eq_false, not_false_eq_true, Nat.not_lt_zero, Nat.reduceEqDiff, Nat.reduceLT, Nat.reduceLeDiff, Nat.reduceAdd, Nat.zero_le, ite_self, reduceCtorEq, bI_t, bI_f, bI_z, bI_1, ok_bb, if_pos, if_neg]
      have e : w = 4 := by omega
      rw [e]
      exact q
    | succ d ih =>
      intro w hw
      refine ok_fix ?_
      show okS (k_Cs_count_4 o (nI s) _ (nI w)) S _
      unfold k_Cs_count_4
      simp (disch := omega) only [n_lit, n_m1, ok_S, ok_s, ok_N, ok_n, ↓ok_if, ok_A, ok_a, ok_L, ok_l, ok_zn0, ok_zn1, ok_f2, ok_pure, ok_rI, ok_bn0, ok_bn1, ok_rt, ok_riI, ok_rn0, ok_rn1, ok_go, nx_l, nx_r, sS_s, sS_n, sS_a, sS_l, sS_k, aS_s, aS_n, aS_1, aS_l, aS_k, lS_l, lS_1, lS_a, lS_k, nS_s, nS_n, nS_1, nS_a, nS_l, updS, updN, nI_eq, nI_leI, nI_ltI, nI_add, pk_mul, nN_e, nN_e', nN_l, nN_g, nN_le, nN_ge, ite_not, if_true, if_false, not_true_eq_false, not_false_eq_true, Nat.not_lt_zero, Nat.reduceEqDiff, Nat.reduceLT, Nat.reduceLeDiff, Nat.reduceAdd, Nat.zero_le, ite_self, reduceCtorEq, bI_t, bI_f, bI_z, bI_1, ok_bb, if_pos, if_neg]
      refine ok_C (e_isOpen hu h1 hs ?_)
      simp (disch := omega) only [n_lit, n_m1, ok_S, ok_s, ok_N, ok_n, ↓ok_if, ok_A, ok_a, ok_L, ok_l, ok_zn0, ok_zn1, ok_f2, ok_pure, ok_rI, ok_bn0, ok_bn1, ok_rt, ok_riI, ok_rn0, ok_rn1, ok_go, nx_l, nx_r, sS_s, sS_n, sS_a, sS_l, sS_k, aS_s, aS_n, aS_1, aS_l, aS_k, lS_l, lS_1, lS_a, lS_k, nS_s, nS_n, nS_1, nS_a, nS_l, updS, updN, nI_eq, nI_leI, nI_ltI, nI_add, pk_mul, nN_e, nN_e', nN_l, nN_g, nN_le, nN_ge, ite_not, if_true, if_false, not_true_eq_false, not_false_eq_true, Nat.not_lt_zero, Nat.reduceEqDiff, Nat.reduceLT, Nat.reduceLeDiff, Nat.reduceAdd, Nat.zero_le, ite_self, reduceCtorEq, bI_t, bI_f, bI_z, bI_1, ok_bb, if_pos, if_neg]
      refine ok_C (e_bitCount ?_)
      simp (disch := omega) only [n_lit, n_m1, ok_S, ok_s, ok_N, ok_n, ↓ok_if, ok_A, ok_a, ok_L, ok_l, ok_zn0, ok_zn1, ok_f2, ok_pure, ok_rI, ok_bn0, ok_bn1, ok_rt, ok_riI, ok_rn0, ok_rn1, ok_go, nx_l, nx_r, sS_s, sS_n, sS_a, sS_l, sS_k, aS_s, aS_n, aS_1, aS_l, aS_k, lS_l, lS_1, lS_a, lS_k, nS_s, nS_n, nS_1, nS_a, nS_l, updS, updN, nI_eq, nI_leI, nI_ltI, nI_add, pk_mul, nN_e, nN_e', nN_l, nN_g, nN_le, nN_ge, ite_not, if_true, if_false, not_true_eq_false, not_false_eq_true, Nat.not_lt_zero, Nat.reduceEqDiff, Nat.reduceLT, Nat.reduceLeDiff, Nat.reduceAdd, Nat.zero_le, ite_self, reduceCtorEq, bI_t, bI_f, bI_z, bI_1, ok_bb]
      have e : unv (fun c => !cB S.2.2.1 s c) (64 * (w + 1)) = unv (fun c => !cB S.2.2.1 s c) (64 * w) + unv (fun r => !jb (S.2.2.1 (s * 4 + w)) r) 64 := by
        rw [show 64 * (w + 1) = 64 * w + 64 by omega, unv_add]
        congr 1
        apply unv_cg
        intro r hr
        unfold cB
        rw [show (64 * w + r) / 64 = w by omega, show (64 * w + r) % 64 = r by omega]
      have := ih (w + 1) (by omega)
      rw [e] at this
      exact this
  unfold f_Cs_count
  refine ok_fix ?_
  show okS (k_Cs_count_0 o (nI s)) S _
  unfold k_Cs_count_0
  simp (disch := omega) only [n_lit, n_m1, ok_S, ok_s, ok_N, ok_n, ↓ok_if, ok_A, ok_a, ok_L, ok_l, ok_zn0, ok_zn1, ok_f2, ok_pure, ok_rI, ok_bn0, ok_bn1, ok_rt, ok_riI, ok_rn0, ok_rn1, ok_go, nx_l, nx_r, sS_s, sS_n, sS_a, sS_l, sS_k, aS_s, aS_n, aS_1, aS_l, aS_k, lS_l, lS_1, lS_a, lS_k, nS_s, nS_n, nS_1, nS_a, nS_l, updS, updN, nI_eq, nI_leI, nI_ltI, nI_add, pk_mul, nN_e, nN_e', nN_l, nN_g, nN_le, nN_ge, ite_not, if_true, if_false, not_true_eq_false, not_false_eq_true, Nat.not_lt_zero, Nat.reduceEqDiff, Nat.reduceLT, Nat.reduceLeDiff, Nat.reduceAdd, Nat.zero_le, ite_self, reduceCtorEq, bI_t, bI_f, bI_z, bI_1, ok_bb]
  exact lp 4 0 rfl
theorem e_many {S : qSt} {s : Nat} {Q : Int32 → qSt → Prop} (hs : s < 50) (q : Q (nI (unv (fun c => !mB (S.2.1 14) s c) 256)) S) : okS (f_Md_many (nI s)) S Q := by
  have lp : ∀ d c, c + d = 256 → okS (w_fix b_Md_many (4, [.int (nI s), .int (nI (unv (fun c => !mB (S.2.1 14) s c) c)), .int (nI c)], [])) S Q := by
    intro d
    induction d with
    | zero =>
      intro c hc
      refine ok_fix ?_
      show okS (k_Md_many_4 (nI s) _ (nI c)) S _
      unfold k_Md_many_4
      simp (disch := omega) only [n_lit, n_m1, ok_S, ok_s, ok_N, ok_n, ↓ok_if, ok_A, ok_a, ok_L, ok_l, ok_zn0, ok_zn1, ok_f2, ok_pure, ok_rI, ok_bn0, ok_bn1, ok_rt, ok_riI, ok_rn0, ok_rn1, ok_go, nx_l, nx_r, sS_s, sS_n, sS_a, sS_l, sS_k, aS_s, aS_n, aS_1, aS_l, aS_k, lS_l, lS_1, lS_a, lS_k, nS_s, nS_n, nS_1, nS_a, nS_l, updS, updN, nI_eq, nI_leI, nI_ltI, nI_add, pk_mul, nN_e, nN_e', nN_l, nN_g, nN_le, nN_ge, ite_not, if_true, if_false, not_true_eq_false, not_false_eq_true, Nat.not_lt_zero, Nat.reduceEqDiff, Nat.reduceLT, Nat.reduceLeDiff, Nat.reduceAdd, Nat.zero_le, ite_self, reduceCtorEq, bI_t, bI_f, bI_z, bI_1, ok_bb, if_pos, if_neg]
      have e : c = 256 := by omega
      rw [e]
      exact q
    | succ d ih =>
      intro c hc
      refine ok_fix ?_
      show okS (k_Md_many_4 (nI s) _ (nI c)) S _
      unfold k_Md_many_4
      simp (disch := omega) only [n_lit, n_m1, ok_S, ok_s, ok_N, ok_n, ↓ok_if, ok_A, ok_a, ok_L, ok_l, ok_zn0, ok_zn1, ok_f2, ok_pure, ok_rI, ok_bn0, ok_bn1, ok_rt, ok_riI, ok_rn0, ok_rn1, ok_go, nx_l, nx_r, sS_s, sS_n, sS_a, sS_l, sS_k, aS_s, aS_n, aS_1, aS_l, aS_k, lS_l, lS_1, lS_a, lS_k, nS_s, nS_n, nS_1, nS_a, nS_l, updS, updN, nI_eq, nI_leI, nI_ltI, nI_add, pk_mul, nN_e, nN_e', nN_l, nN_g, nN_le, nN_ge, ite_not, if_true, if_false, not_true_eq_false, not_false_eq_true, Nat.not_lt_zero, Nat.reduceEqDiff, Nat.reduceLT, Nat.reduceLeDiff, Nat.reduceAdd, Nat.zero_le, ite_self, reduceCtorEq, bI_t, bI_f, bI_z, bI_1, ok_bb, if_pos, if_neg]
      refine ok_C (e_mHas hs (by omega) ?_)
      have := ih (c + 1) (by omega)
      have e : unv (fun c => !mB (S.2.1 14) s c) (c + 1) = unv (fun c => !mB (S.2.1 14) s c) c + if (!mB (S.2.1 14) s c) = true then 0 else 1 := rfl
      rw [e] at this
      cases hb : mB (S.2.1 14) s c with
      | false =>
        rw [hb] at this
        simp (disch := omega) only [n_lit, n_m1, ok_S, ok_s, ok_N, ok_n, ↓ok_if, ok_A, ok_a, ok_L, ok_l, ok_zn0, ok_zn1, ok_f2, ok_pure, ok_rI, ok_bn0, ok_bn1, ok_rt, ok_riI, ok_rn0, ok_rn1, ok_go, nx_l, nx_r, sS_s, sS_n, sS_a, sS_l, sS_k, aS_s, aS_n, aS_1, aS_l, aS_k, lS_l, lS_1, lS_a, lS_k, nS_s, nS_n, nS_1, nS_a, nS_l, updS, updN, nI_eq, nI_leI, nI_ltI, nI_add, pk_mul, nN_e, nN_e', nN_l, nN_g, nN_le, nN_ge, ite_not, if_true, if_false, not_true_eq_false, not_false_eq_true, Nat.not_lt_zero, Nat.reduceEqDiff, Nat.reduceLT, Nat.reduceLeDiff, Nat.reduceAdd, Nat.zero_le, ite_self, reduceCtorEq, bI_t, bI_f, bI_z, bI_1, ok_bb]
        exact this
      | true =>
        rw [hb] at this
        simp (disch := omega) only [n_lit, n_m1, ok_S, ok_s, ok_N, ok_n, ↓ok_if, ok_A, ok_a, ok_L, ok_l, ok_zn0, ok_zn1, ok_f2, ok_pure, ok_rI, ok_bn0, ok_bn1, ok_rt, ok_riI, ok_rn0, ok_rn1, ok_go, nx_l, nx_r, sS_s, sS_n, sS_a, sS_l, sS_k, aS_s, aS_n, aS_1, aS_l, aS_k, lS_l, lS_1, lS_a, lS_k, nS_s, nS_n, nS_1, nS_a, nS_l, updS, updN, nI_eq, nI_leI, nI_ltI, nI_add, pk_mul, nN_e, nN_e', nN_l, nN_g, nN_le, nN_ge, ite_not, if_true, if_false, not_true_eq_false, not_false_eq_true, Nat.not_lt_zero, Nat.reduceEqDiff, Nat.reduceLT, Nat.reduceLeDiff, Nat.reduceAdd, Nat.zero_le, ite_self, reduceCtorEq, bI_t, bI_f, bI_z, bI_1, ok_bb]
        exact this
  unfold f_Md_many
  refine ok_fix ?_
  show okS (k_Md_many_0 (nI s)) S _
  unfold k_Md_many_0
  simp (disch := omega) only [n_lit, n_m1, ok_S, ok_s, ok_N, ok_n, ↓ok_if, ok_A, ok_a, ok_L, ok_l, ok_zn0, ok_zn1, ok_f2, ok_pure, ok_rI, ok_bn0, ok_bn1, ok_rt, ok_riI, ok_rn0, ok_rn1, ok_go, nx_l, nx_r, sS_s, sS_n, sS_a, sS_l, sS_k, aS_s, aS_n, aS_1, aS_l, aS_k, lS_l, lS_1, lS_a, lS_k, nS_s, nS_n, nS_1, nS_a, nS_l, updS, updN, nI_eq, nI_leI, nI_ltI, nI_add, pk_mul, nN_e, nN_e', nN_l, nN_g, nN_le, nN_ge, ite_not, if_true, if_false, not_true_eq_false, not_false_eq_true, Nat.not_lt_zero, Nat.reduceEqDiff, Nat.reduceLT, Nat.reduceLeDiff, Nat.reduceAdd, Nat.zero_le, ite_self, reduceCtorEq, bI_t, bI_f, bI_z, bI_1, ok_bb]
  exact lp 256 0 rfl
theorem op_instruction (o : Nat) (x1 x2 : Int32) : opI Rel (f_PW_instruction o x1 x2) (f_Md_instruction x1 x2) := by
  apply opI_ro
  intro SC SM hR
  have hR0 := Rel_thr (v := nI 0) hR
  obtain ⟨len, tx, L, bg, ht, ⟨b1, b2, b3, b4, b5, b6, b7, b8, b9⟩, hp⟩ := hR
  unfold f_PW_instruction f_Md_instruction
  by_cases hx : x1 < 0
  · refine ⟨nN, ?_, ?_⟩
    · refine ok_C ?_
      unfold f_Pr_has
      rw [ok_if, if_pos hx]
      simp (disch := omega) only [n_lit, n_m1, ok_S, ok_s, ok_N, ok_n, ↓ok_if, ok_A, ok_a, ok_L, ok_l, ok_zn0, ok_zn1, ok_f2, ok_pure, ok_rI, ok_bn0, ok_bn1, ok_rt, ok_riI, ok_rn0, ok_rn1, ok_go, nx_l, nx_r, sS_s, sS_n, sS_a, sS_l, sS_k, aS_s, aS_n, aS_1, aS_l, aS_k, lS_l, lS_1, lS_a, lS_k, nS_s, nS_n, nS_1, nS_a, nS_l, updS, updN, nI_eq, nI_leI, nI_ltI, nI_add, pk_mul, nN_e, nN_e', nN_l, nN_g, nN_le, nN_ge, ite_not, if_true, if_false, not_true_eq_false, not_false_eq_true, Nat.not_lt_zero, Nat.reduceEqDiff, Nat.reduceLT, Nat.reduceLeDiff, Nat.reduceAdd, Nat.zero_le, ite_self, reduceCtorEq, bI_t, bI_f, bI_z, bI_1, ok_bb]
      exact ⟨trivial, trivial⟩
    · rw [ok_s, ok_if, if_pos hx]
      simp (disch := omega) only [n_lit, n_m1, ok_S, ok_s, ok_N, ok_n, ↓ok_if, ok_A, ok_a, ok_L, ok_l, ok_zn0, ok_zn1, ok_f2, ok_pure, ok_rI, ok_bn0, ok_bn1, ok_rt, ok_riI, ok_rn0, ok_rn1, ok_go, nx_l, nx_r, sS_s, sS_n, sS_a, sS_l, sS_k, aS_s, aS_n, aS_1, aS_l, aS_k, lS_l, lS_1, lS_a, lS_k, nS_s, nS_n, nS_1, nS_a, nS_l, updS, updN, nI_eq, nI_leI, nI_ltI, nI_add, pk_mul, nN_e, nN_e', nN_l, nN_g, nN_le, nN_ge, ite_not, if_true, if_false, not_true_eq_false, not_false_eq_true, Nat.not_lt_zero, Nat.reduceEqDiff, Nat.reduceLT, Nat.reduceLeDiff, Nat.reduceAdd, Nat.zero_le, ite_self, reduceCtorEq, bI_t, bI_f, bI_z, bI_1, ok_bb]
      exact ⟨trivial, hR0⟩
  · obtain ⟨k, hk, rfl⟩ := nI_of hx
    by_cases hkL : k < L
    · obtain ⟨p1, P, u, g, ⟨r1, r2, r3, r4, r5, r6, r7, r8, r9, r10, r11⟩, p3⟩ := hp (by omega)
      obtain ⟨k0, k1, k2⟩ := r2.2 k hkL
      obtain ⟨m0, m1, m2⟩ := r3 k hkL
      obtain ⟨⟨w1, w2, w3⟩, w4⟩ := r1.2.2 k hkL
      by_cases hy : x2 < 0
      · refine ⟨nN, ?_, ?_⟩
        · refine ok_C (e_has b2 b4 hkL ?_)
          have y0 : ¬ x2 = nI 0 := fun q => by rw [q] at hy; exact absurd hy (by decide)
          have y1 : ¬ x2 = nI 1 := fun q => by rw [q] at hy; exact absurd hy (by decide)
          have y2 : ¬ x2 = nI 2 := fun q => by rw [q] at hy; exact absurd hy (by decide)
          simp (disch := omega) only [n_lit, n_m1, ok_S, ok_s, ok_N, ok_n, ↓ok_if, ok_A, ok_a, ok_L, ok_l, ok_zn0, ok_zn1, ok_f2, ok_pure, ok_rI, ok_bn0, ok_bn1, ok_rt, ok_riI, ok_rn0, ok_rn1, ok_go, nx_l, nx_r, sS_s, sS_n, sS_a, sS_l, sS_k, aS_s, aS_n, aS_1, aS_l, aS_k, lS_l, lS_1, lS_a, lS_k, nS_s, nS_n, nS_1, nS_a, nS_l, updS, updN, nI_eq, nI_leI, nI_ltI, nI_add, pk_mul, nN_e, nN_e', nN_l, nN_g, nN_le, nN_ge, ite_not, if_true, if_false, not_true_eq_false, not_false_eq_true, Nat.not_lt_zero, Nat.reduceEqDiff, Nat.reduceLT, Nat.reduceLeDiff, Nat.reduceAdd, Nat.zero_le, ite_self, reduceCtorEq, bI_t, bI_f, bI_z, bI_1, ok_bb, y0, y1, y2]
          exact ⟨trivial, trivial⟩
        · have hy' : x2 < nI 0 := hy
          simp (disch := omega) only [n_lit, n_m1, ok_S, ok_s, ok_N, ok_n, ↓ok_if, ok_A, ok_a, ok_L, ok_l, ok_zn0, ok_zn1, ok_f2, ok_pure, ok_rI, ok_bn0, ok_bn1, ok_rt, ok_riI, ok_rn0, ok_rn1, ok_go, nx_l, nx_r, sS_s, sS_n, sS_a, sS_l, sS_k, aS_s, aS_n, aS_1, aS_l, aS_k, lS_l, lS_1, lS_a, lS_k, nS_s, nS_n, nS_1, nS_a, nS_l, updS, updN, nI_eq, nI_leI, nI_ltI, nI_add, pk_mul, nN_e, nN_e', nN_l, nN_g, nN_le, nN_ge, ite_not, if_true, if_false, not_true_eq_false, not_false_eq_true, Nat.not_lt_zero, Nat.reduceEqDiff, Nat.reduceLT, Nat.reduceLeDiff, Nat.reduceAdd, Nat.zero_le, ite_self, reduceCtorEq, bI_t, bI_f, bI_z, bI_1, ok_bb, if_pos, if_neg, b3, hy']
          exact ⟨trivial, hR0⟩
      · obtain ⟨y, hy2, rfl⟩ := nI_of hy
        rcases (by omega : y = 0 ∨ y = 1 ∨ y = 2 ∨ 2 < y) with h | h | h | h
        · subst h
          refine ⟨nI (P.1 k), ?_, ?_⟩
          · refine ok_C (e_has b2 b4 hkL ?_)
            simp (disch := omega) only [n_lit, n_m1, ok_S, ok_s, ok_N, ok_n, ↓ok_if, ok_A, ok_a, ok_L, ok_l, ok_zn0, ok_zn1, ok_f2, ok_pure, ok_rI, ok_bn0, ok_bn1, ok_rt, ok_riI, ok_rn0, ok_rn1, ok_go, nx_l, nx_r, sS_s, sS_n, sS_a, sS_l, sS_k, aS_s, aS_n, aS_1, aS_l, aS_k, lS_l, lS_1, lS_a, lS_k, nS_s, nS_n, nS_1, nS_a, nS_l, updS, updN, nI_eq, nI_leI, nI_ltI, nI_add, pk_mul, nN_e, nN_e', nN_l, nN_g, nN_le, nN_ge, ite_not, if_true, if_false, not_true_eq_false, not_false_eq_true, Nat.not_lt_zero, Nat.reduceEqDiff, Nat.reduceLT, Nat.reduceLeDiff, Nat.reduceAdd, Nat.zero_le, ite_self, reduceCtorEq, bI_t, bI_f, bI_z, bI_1, ok_bb]
            refine ok_C (e_kind b2 b4 hkL ?_)
            simp (disch := omega) only [n_lit, n_m1, ok_S, ok_s, ok_N, ok_n, ↓ok_if, ok_A, ok_a, ok_L, ok_l, ok_zn0, ok_zn1, ok_f2, ok_pure, ok_rI, ok_bn0, ok_bn1, ok_rt, ok_riI, ok_rn0, ok_rn1, ok_go, nx_l, nx_r, sS_s, sS_n, sS_a, sS_l, sS_k, aS_s, aS_n, aS_1, aS_l, aS_k, lS_l, lS_1, lS_a, lS_k, nS_s, nS_n, nS_1, nS_a, nS_l, updS, updN, nI_eq, nI_leI, nI_ltI, nI_add, pk_mul, nN_e, nN_e', nN_l, nN_g, nN_le, nN_ge, ite_not, if_true, if_false, not_true_eq_false, not_false_eq_true, Nat.not_lt_zero, Nat.reduceEqDiff, Nat.reduceLT, Nat.reduceLeDiff, Nat.reduceAdd, Nat.zero_le, ite_self, reduceCtorEq, bI_t, bI_f, bI_z, bI_1, ok_bb, k0]
            exact ⟨trivial, trivial⟩
          · simp (disch := omega) only [n_lit, n_m1, ok_S, ok_s, ok_N, ok_n, ↓ok_if, ok_A, ok_a, ok_L, ok_l, ok_zn0, ok_zn1, ok_f2, ok_pure, ok_rI, ok_bn0, ok_bn1, ok_rt, ok_riI, ok_rn0, ok_rn1, ok_go, nx_l, nx_r, sS_s, sS_n, sS_a, sS_l, sS_k, aS_s, aS_n, aS_1, aS_l, aS_k, lS_l, lS_1, lS_a, lS_k, nS_s, nS_n, nS_1, nS_a, nS_l, updS, updN, nI_eq, nI_leI, nI_ltI, nI_add, pk_mul, nN_e, nN_e', nN_l, nN_g, nN_le, nN_ge, ite_not, if_true, if_false, not_true_eq_false, not_false_eq_true, Nat.not_lt_zero, Nat.reduceEqDiff, Nat.reduceLT, Nat.reduceLeDiff, Nat.reduceAdd, Nat.zero_le, ite_self, reduceCtorEq, bI_t, bI_f, bI_z, bI_1, ok_bb, if_pos, if_neg, b3, m0]
            exact ⟨trivial, hR0⟩
        · subst h
          by_cases h0 : P.1 k = 0
          · have hs := r6 k hkL h0
            refine ⟨nI (unv (fun c => !mB (SM.2.1 14) (P.2.1 k) c) 256), ?_, ?_⟩
            · refine ok_C (e_has b2 b4 hkL ?_)
              simp (disch := omega) only [n_lit, n_m1, ok_S, ok_s, ok_N, ok_n, ↓ok_if, ok_A, ok_a, ok_L, ok_l, ok_zn0, ok_zn1, ok_f2, ok_pure, ok_rI, ok_bn0, ok_bn1, ok_rt, ok_riI, ok_rn0, ok_rn1, ok_go, nx_l, nx_r, sS_s, sS_n, sS_a, sS_l, sS_k, aS_s, aS_n, aS_1, aS_l, aS_k, lS_l, lS_1, lS_a, lS_k, nS_s, nS_n, nS_1, nS_a, nS_l, updS, updN, nI_eq, nI_leI, nI_ltI, nI_add, pk_mul, nN_e, nN_e', nN_l, nN_g, nN_le, nN_ge, ite_not, if_true, if_false, not_true_eq_false, not_false_eq_true, Nat.not_lt_zero, Nat.reduceEqDiff, Nat.reduceLT, Nat.reduceLeDiff, Nat.reduceAdd, Nat.zero_le, ite_self, reduceCtorEq, bI_t, bI_f, bI_z, bI_1, ok_bb]
              refine ok_C (e_kind b2 b4 hkL ?_)
              simp (disch := omega) only [n_lit, n_m1, ok_S, ok_s, ok_N, ok_n, ↓ok_if, ok_A, ok_a, ok_L, ok_l, ok_zn0, ok_zn1, ok_f2, ok_pure, ok_rI, ok_bn0, ok_bn1, ok_rt, ok_riI, ok_rn0, ok_rn1, ok_go, nx_l, nx_r, sS_s, sS_n, sS_a, sS_l, sS_k, aS_s, aS_n, aS_1, aS_l, aS_k, lS_l, lS_1, lS_a, lS_k, nS_s, nS_n, nS_1, nS_a, nS_l, updS, updN, nI_eq, nI_leI, nI_ltI, nI_add, pk_mul, nN_e, nN_e', nN_l, nN_g, nN_le, nN_ge, ite_not, if_true, if_false, not_true_eq_false, not_false_eq_true, Nat.not_lt_zero, Nat.reduceEqDiff, Nat.reduceLT, Nat.reduceLeDiff, Nat.reduceAdd, Nat.zero_le, ite_self, reduceCtorEq, bI_t, bI_f, bI_z, bI_1, ok_bb, k0, h0]
              refine ok_C (e_xOf b2 b4 hkL ?_)
              rw [k1]
              refine ok_C (e_count r4 r5 hs ?_)
              simp (disch := omega) only [n_lit, n_m1, ok_S, ok_s, ok_N, ok_n, ↓ok_if, ok_A, ok_a, ok_L, ok_l, ok_zn0, ok_zn1, ok_f2, ok_pure, ok_rI, ok_bn0, ok_bn1, ok_rt, ok_riI, ok_rn0, ok_rn1, ok_go, nx_l, nx_r, sS_s, sS_n, sS_a, sS_l, sS_k, aS_s, aS_n, aS_1, aS_l, aS_k, lS_l, lS_1, lS_a, lS_k, nS_s, nS_n, nS_1, nS_a, nS_l, updS, updN, nI_eq, nI_leI, nI_ltI, nI_add, pk_mul, nN_e, nN_e', nN_l, nN_g, nN_le, nN_ge, ite_not, if_true, if_false, not_true_eq_false, not_false_eq_true, Nat.not_lt_zero, Nat.reduceEqDiff, Nat.reduceLT, Nat.reduceLeDiff, Nat.reduceAdd, Nat.zero_le, ite_self, reduceCtorEq, bI_t, bI_f, bI_z, bI_1, ok_bb]
              refine ⟨?_, trivial⟩
              rw [unv_cg (V := fun c => !cB SC.2.2.1 (P.2.1 k) c) (V' := fun c => !mB (SM.2.1 14) (P.2.1 k) c) 256 (fun c hc => by show (!cB _ _ _) = !mB _ _ _; rw [r7 _ c hs hc])]
            · simp (disch := omega) only [n_lit, n_m1, ok_S, ok_s, ok_N, ok_n, ↓ok_if, ok_A, ok_a, ok_L, ok_l, ok_zn0, ok_zn1, ok_f2, ok_pure, ok_rI, ok_bn0, ok_bn1, ok_rt, ok_riI, ok_rn0, ok_rn1, ok_go, nx_l, nx_r, sS_s, sS_n, sS_a, sS_l, sS_k, aS_s, aS_n, aS_1, aS_l, aS_k, lS_l, lS_1, lS_a, lS_k, nS_s, nS_n, nS_1, nS_a, nS_l, updS, updN, nI_eq, nI_leI, nI_ltI, nI_add, pk_mul, nN_e, nN_e', nN_l, nN_g, nN_le, nN_ge, ite_not, if_true, if_false, not_true_eq_false, not_false_eq_true, Nat.not_lt_zero, Nat.reduceEqDiff, Nat.reduceLT, Nat.reduceLeDiff, Nat.reduceAdd, Nat.zero_le, ite_self, reduceCtorEq, bI_t, bI_f, bI_z, bI_1, ok_bb, if_pos, if_neg, b3, m0, m1, h0]
              refine ok_C (e_many (by omega) ?_)
              simp (disch := omega) only [n_lit, n_m1, ok_S, ok_s, ok_N, ok_n, ↓ok_if, ok_A, ok_a, ok_L, ok_l, ok_zn0, ok_zn1, ok_f2, ok_pure, ok_rI, ok_bn0, ok_bn1, ok_rt, ok_riI, ok_rn0, ok_rn1, ok_go, nx_l, nx_r, sS_s, sS_n, sS_a, sS_l, sS_k, aS_s, aS_n, aS_1, aS_l, aS_k, lS_l, lS_1, lS_a, lS_k, nS_s, nS_n, nS_1, nS_a, nS_l, updS, updN, nI_eq, nI_leI, nI_ltI, nI_add, pk_mul, nN_e, nN_e', nN_l, nN_g, nN_le, nN_ge, ite_not, if_true, if_false, not_true_eq_false, not_false_eq_true, Nat.not_lt_zero, Nat.reduceEqDiff, Nat.reduceLT, Nat.reduceLeDiff, Nat.reduceAdd, Nat.zero_le, ite_self, reduceCtorEq, bI_t, bI_f, bI_z, bI_1, ok_bb]
              exact ⟨trivial, hR0⟩
          · refine ⟨nI (P.2.1 k), ?_, ?_⟩
            · refine ok_C (e_has b2 b4 hkL ?_)
              simp (disch := omega) only [n_lit, n_m1, ok_S, ok_s, ok_N, ok_n, ↓ok_if, ok_A, ok_a, ok_L, ok_l, ok_zn0, ok_zn1, ok_f2, ok_pure, ok_rI, ok_bn0, ok_bn1, ok_rt, ok_riI, ok_rn0, ok_rn1, ok_go, nx_l, nx_r, sS_s, sS_n, sS_a, sS_l, sS_k, aS_s, aS_n, aS_1, aS_l, aS_k, lS_l, lS_1, lS_a, lS_k, nS_s, nS_n, nS_1, nS_a, nS_l, updS, updN, nI_eq, nI_leI, nI_ltI, nI_add, pk_mul, nN_e, nN_e', nN_l, nN_g, nN_le, nN_ge, ite_not, if_true, if_false, not_true_eq_false, not_false_eq_true, Nat.not_lt_zero, Nat.reduceEqDiff, Nat.reduceLT, Nat.reduceLeDiff, Nat.reduceAdd, Nat.zero_le, ite_self, reduceCtorEq, bI_t, bI_f, bI_z, bI_1, ok_bb]
              refine ok_C (e_kind b2 b4 hkL ?_)
              simp (disch := omega) only [n_lit, n_m1, ok_S, ok_s, ok_N, ok_n, ↓ok_if, ok_A, ok_a, ok_L, ok_l, ok_zn0, ok_zn1, ok_f2, ok_pure, ok_rI, ok_bn0, ok_bn1, ok_rt, ok_riI, ok_rn0, ok_rn1, ok_go, nx_l, nx_r, sS_s, sS_n, sS_a, sS_l, sS_k, aS_s, aS_n, aS_1, aS_l, aS_k, lS_l, lS_1, lS_a, lS_k, nS_s, nS_n, nS_1, nS_a, nS_l, updS, updN, nI_eq, nI_leI, nI_ltI, nI_add, pk_mul, nN_e, nN_e', nN_l, nN_g, nN_le, nN_ge, ite_not, if_true, if_false, not_true_eq_false, not_false_eq_true, Nat.not_lt_zero, Nat.reduceEqDiff, Nat.reduceLT, Nat.reduceLeDiff, Nat.reduceAdd, Nat.zero_le, ite_self, reduceCtorEq, bI_t, bI_f, bI_z, bI_1, ok_bb, if_pos, if_neg, k0, h0]
              refine ok_C (e_xOf b2 b4 hkL ?_)
              simp (disch := omega) only [n_lit, n_m1, ok_S, ok_s, ok_N, ok_n, ↓ok_if, ok_A, ok_a, ok_L, ok_l, ok_zn0, ok_zn1, ok_f2, ok_pure, ok_rI, ok_bn0, ok_bn1, ok_rt, ok_riI, ok_rn0, ok_rn1, ok_go, nx_l, nx_r, sS_s, sS_n, sS_a, sS_l, sS_k, aS_s, aS_n, aS_1, aS_l, aS_k, lS_l, lS_1, lS_a, lS_k, nS_s, nS_n, nS_1, nS_a, nS_l, updS, updN, nI_eq, nI_leI, nI_ltI, nI_add, pk_mul, nN_e, nN_e', nN_l, nN_g, nN_le, nN_ge, ite_not, if_true, if_false, not_true_eq_false, not_false_eq_true, Nat.not_lt_zero, Nat.reduceEqDiff, Nat.reduceLT, Nat.reduceLeDiff, Nat.reduceAdd, Nat.zero_le, ite_self, reduceCtorEq, bI_t, bI_f, bI_z, bI_1, ok_bb, k1]
              exact ⟨trivial, trivial⟩
            · simp (disch := omega) only [n_lit, n_m1, ok_S, ok_s, ok_N, ok_n, ↓ok_if, ok_A, ok_a, ok_L, ok_l, ok_zn0, ok_zn1, ok_f2, ok_pure, ok_rI, ok_bn0, ok_bn1, ok_rt, ok_riI, ok_rn0, ok_rn1, ok_go, nx_l, nx_r, sS_s, sS_n, sS_a, sS_l, sS_k, aS_s, aS_n, aS_1, aS_l, aS_k, lS_l, lS_1, lS_a, lS_k, nS_s, nS_n, nS_1, nS_a, nS_l, updS, updN, nI_eq, nI_leI, nI_ltI, nI_add, pk_mul, nN_e, nN_e', nN_l, nN_g, nN_le, nN_ge, ite_not, if_true, if_false, not_true_eq_false, not_false_eq_true, Nat.not_lt_zero, Nat.reduceEqDiff, Nat.reduceLT, Nat.reduceLeDiff, Nat.reduceAdd, Nat.zero_le, ite_self, reduceCtorEq, bI_t, bI_f, bI_z, bI_1, ok_bb, if_pos, if_neg, b3, m0, m1, h0]
              exact ⟨trivial, hR0⟩
        · subst h
          refine ⟨nI (P.2.2 k), ?_, ?_⟩
          · refine ok_C (e_has b2 b4 hkL ?_)
            simp (disch := omega) only [n_lit, n_m1, ok_S, ok_s, ok_N, ok_n, ↓ok_if, ok_A, ok_a, ok_L, ok_l, ok_zn0, ok_zn1, ok_f2, ok_pure, ok_rI, ok_bn0, ok_bn1, ok_rt, ok_riI, ok_rn0, ok_rn1, ok_go, nx_l, nx_r, sS_s, sS_n, sS_a, sS_l, sS_k, aS_s, aS_n, aS_1, aS_l, aS_k, lS_l, lS_1, lS_a, lS_k, nS_s, nS_n, nS_1, nS_a, nS_l, updS, updN, nI_eq, nI_leI, nI_ltI, nI_add, pk_mul, nN_e, nN_e', nN_l, nN_g, nN_le, nN_ge, ite_not, if_true, if_false, not_true_eq_false, not_false_eq_true, Nat.not_lt_zero, Nat.reduceEqDiff, Nat.reduceLT, Nat.reduceLeDiff, Nat.reduceAdd, Nat.zero_le, ite_self, reduceCtorEq, bI_t, bI_f, bI_z, bI_1, ok_bb]
            refine ok_C (e_yOf b2 b4 hkL ?_)
            simp (disch := omega) only [n_lit, n_m1, ok_S, ok_s, ok_N, ok_n, ↓ok_if, ok_A, ok_a, ok_L, ok_l, ok_zn0, ok_zn1, ok_f2, ok_pure, ok_rI, ok_bn0, ok_bn1, ok_rt, ok_riI, ok_rn0, ok_rn1, ok_go, nx_l, nx_r, sS_s, sS_n, sS_a, sS_l, sS_k, aS_s, aS_n, aS_1, aS_l, aS_k, lS_l, lS_1, lS_a, lS_k, nS_s, nS_n, nS_1, nS_a, nS_l, updS, updN, nI_eq, nI_leI, nI_ltI, nI_add, pk_mul, nN_e, nN_e', nN_l, nN_g, nN_le, nN_ge, ite_not, if_true, if_false, not_true_eq_false, not_false_eq_true, Nat.not_lt_zero, Nat.reduceEqDiff, Nat.reduceLT, Nat.reduceLeDiff, Nat.reduceAdd, Nat.zero_le, ite_self, reduceCtorEq, bI_t, bI_f, bI_z, bI_1, ok_bb, k2]
            exact ⟨trivial, trivial⟩
          · simp (disch := omega) only [n_lit, n_m1, ok_S, ok_s, ok_N, ok_n, ↓ok_if, ok_A, ok_a, ok_L, ok_l, ok_zn0, ok_zn1, ok_f2, ok_pure, ok_rI, ok_bn0, ok_bn1, ok_rt, ok_riI, ok_rn0, ok_rn1, ok_go, nx_l, nx_r, sS_s, sS_n, sS_a, sS_l, sS_k, aS_s, aS_n, aS_1, aS_l, aS_k, lS_l, lS_1, lS_a, lS_k, nS_s, nS_n, nS_1, nS_a, nS_l, updS, updN, nI_eq, nI_leI, nI_ltI, nI_add, pk_mul, nN_e, nN_e', nN_l, nN_g, nN_le, nN_ge, ite_not, if_true, if_false, not_true_eq_false, not_false_eq_true, Nat.not_lt_zero, Nat.reduceEqDiff, Nat.reduceLT, Nat.reduceLeDiff, Nat.reduceAdd, Nat.zero_le, ite_self, reduceCtorEq, bI_t, bI_f, bI_z, bI_1, ok_bb, if_pos, if_neg, b3, m2]
            exact ⟨trivial, hR0⟩
        · refine ⟨nN, ?_, ?_⟩
          · refine ok_C (e_has b2 b4 hkL ?_)
            simp (disch := omega) only [n_lit, n_m1, ok_S, ok_s, ok_N, ok_n, ↓ok_if, ok_A, ok_a, ok_L, ok_l, ok_zn0, ok_zn1, ok_f2, ok_pure, ok_rI, ok_bn0, ok_bn1, ok_rt, ok_riI, ok_rn0, ok_rn1, ok_go, nx_l, nx_r, sS_s, sS_n, sS_a, sS_l, sS_k, aS_s, aS_n, aS_1, aS_l, aS_k, lS_l, lS_1, lS_a, lS_k, nS_s, nS_n, nS_1, nS_a, nS_l, updS, updN, nI_eq, nI_leI, nI_ltI, nI_add, pk_mul, nN_e, nN_e', nN_l, nN_g, nN_le, nN_ge, ite_not, if_true, if_false, not_true_eq_false, not_false_eq_true, Nat.not_lt_zero, Nat.reduceEqDiff, Nat.reduceLT, Nat.reduceLeDiff, Nat.reduceAdd, Nat.zero_le, ite_self, reduceCtorEq, bI_t, bI_f, bI_z, bI_1, ok_bb, if_pos, if_neg]
            exact ⟨trivial, trivial⟩
          · simp (disch := omega) only [n_lit, n_m1, ok_S, ok_s, ok_N, ok_n, ↓ok_if, ok_A, ok_a, ok_L, ok_l, ok_zn0, ok_zn1, ok_f2, ok_pure, ok_rI, ok_bn0, ok_bn1, ok_rt, ok_riI, ok_rn0, ok_rn1, ok_go, nx_l, nx_r, sS_s, sS_n, sS_a, sS_l, sS_k, aS_s, aS_n, aS_1, aS_l, aS_k, lS_l, lS_1, lS_a, lS_k, nS_s, nS_n, nS_1, nS_a, nS_l, updS, updN, nI_eq, nI_leI, nI_ltI, nI_add, pk_mul, nN_e, nN_e', nN_l, nN_g, nN_le, nN_ge, ite_not, if_true, if_false, not_true_eq_false, not_false_eq_true, Nat.not_lt_zero, Nat.reduceEqDiff, Nat.reduceLT, Nat.reduceLeDiff, Nat.reduceAdd, Nat.zero_le, ite_self, reduceCtorEq, bI_t, bI_f, bI_z, bI_1, ok_bb, if_pos, if_neg, b3]
            exact ⟨trivial, hR0⟩
    · refine ⟨nN, ?_, ?_⟩
      · refine ok_C ?_
        unfold f_Pr_has
        simp (disch := omega) only [n_lit, n_m1, ok_S, ok_s, ok_N, ok_n, ↓ok_if, ok_A, ok_a, ok_L, ok_l, ok_zn0, ok_zn1, ok_f2, ok_pure, ok_rI, ok_bn0, ok_bn1, ok_rt, ok_riI, ok_rn0, ok_rn1, ok_go, nx_l, nx_r, sS_s, sS_n, sS_a, sS_l, sS_k, aS_s, aS_n, aS_1, aS_l, aS_k, lS_l, lS_1, lS_a, lS_k, nS_s, nS_n, nS_1, nS_a, nS_l, updS, updN, nI_eq, nI_leI, nI_ltI, nI_add, pk_mul, nN_e, nN_e', nN_l, nN_g, nN_le, nN_ge, ite_not, if_true, if_false, not_true_eq_false, not_false_eq_true, Nat.not_lt_zero, Nat.reduceEqDiff, Nat.reduceLT, Nat.reduceLeDiff, Nat.reduceAdd, Nat.zero_le, ite_self, reduceCtorEq, bI_t, bI_f, bI_z, bI_1, ok_bb, if_pos, if_neg, b2]
        exact ⟨trivial, trivial⟩
      · simp (disch := omega) only [n_lit, n_m1, ok_S, ok_s, ok_N, ok_n, ↓ok_if, ok_A, ok_a, ok_L, ok_l, ok_zn0, ok_zn1, ok_f2, ok_pure, ok_rI, ok_bn0, ok_bn1, ok_rt, ok_riI, ok_rn0, ok_rn1, ok_go, nx_l, nx_r, sS_s, sS_n, sS_a, sS_l, sS_k, aS_s, aS_n, aS_1, aS_l, aS_k, lS_l, lS_1, lS_a, lS_k, nS_s, nS_n, nS_1, nS_a, nS_l, updS, updN, nI_eq, nI_leI, nI_ltI, nI_add, pk_mul, nN_e, nN_e', nN_l, nN_g, nN_le, nN_ge, ite_not, if_true, if_false, not_true_eq_false, not_false_eq_true, Nat.not_lt_zero, Nat.reduceEqDiff, Nat.reduceLT, Nat.reduceLeDiff, Nat.reduceAdd, Nat.zero_le, ite_self, reduceCtorEq, bI_t, bI_f, bI_z, bI_1, ok_bb, if_pos, if_neg, b3]
        exact ⟨trivial, hR0⟩
