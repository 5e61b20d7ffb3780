/-! READING: parse against read -/
def FrV (S S' : qSt) : Prop := S'.2.1 = S.2.1 ∧ S'.2.2.2 = S.2.2.2 ∧ ∀ f, f ≠ 41 → f ≠ 82 → f ≠ 83 → f ≠ 84 → f ≠ 85 → S'.1 f = S.1 f
theorem FrV_tr {S S1 S2 : qSt} (h2 : FrV S1 S2) (h1 : FrV S S1) : FrV S S2 := ⟨h2.1.trans h1.1, h2.2.1.trans h1.2.1, fun f a b c d e => (h2.2.2 f a b c d e).trans (h1.2.2 f a b c d e)⟩
theorem FrV_Y {S S' : qSt} (h : FrY S S') : FrV S S' := ⟨h.1, h.2.1, fun f a _ c d e => h.2.2 f a c d e⟩
theorem e_fill3 {S : qSt} {o : Nat} {Q : Unit → qSt → Prop} (k : ∀ l, (∀ i, i < 192 → l i = 0) → Q () (lS S l)) : okS (f_Ar_fill3 o 0) S Q := by
  have lp : ∀ d v (l : Nat → Int64), v + d = 192 → (∀ i, i < v → l i = 0) → okS (w_fix (b_Ar_fill3 o) (6, [.long 0, .int (nI v), .int (nI 192)], [])) (lS S l) Q := by
    intro d
    induction d with
    | zero =>
      intro v l hd h
      refine ok_fix ?_
      show okS (k_Ar_fill3_6 o 0 (nI v) (nI 192)) _ _
      unfold k_Ar_fill3_6
      simp (disch := omega) only [n_lit, n_m1, ok_S, ok_s, ok_N, ok_n, ↓ok_if, ok_A, ok_a, ok_L, ok_l, ok_zn0, ok_zn1, ok_f2, ok_pure, ok_rI, ok_bn0, ok_bn1, ok_rt, ok_riI, ok_rn0, ok_rn1, ok_go, nx_l, nx_r, sS_s, sS_n, sS_a, sS_l, sS_k, aS_s, aS_n, aS_1, aS_l, aS_k, lS_l, lS_1, lS_a, lS_k, nS_s, nS_n, nS_1, nS_a, nS_l, updS, updN, nI_eq, nI_leI, nI_ltI, nI_add, pk_mul, nN_e, nN_e', nN_l, nN_g, nN_le, nN_ge, ite_not, if_true, if_false, not_true_eq_false, not_false_eq_true, Nat.not_lt_zero, Nat.reduceEqDiff, Nat.reduceLT, Nat.reduceLeDiff, Nat.reduceAdd, Nat.zero_le, ite_self, reduceCtorEq, bI_t, bI_f, bI_z, bI_1, ok_bb, if_pos, if_neg]
      exact k l (fun i hi => h i (by omega))
    | succ d ih =>
      intro v l hd h
      refine ok_fix ?_
      show okS (k_Ar_fill3_6 o 0 (nI v) (nI 192)) _ _
      unfold k_Ar_fill3_6
      simp (disch := omega) only [n_lit, n_m1, ok_S, ok_s, ok_N, ok_n, ↓ok_if, ok_A, ok_a, ok_L, ok_l, ok_zn0, ok_zn1, ok_f2, ok_pure, ok_rI, ok_bn0, ok_bn1, ok_rt, ok_riI, ok_rn0, ok_rn1, ok_go, nx_l, nx_r, sS_s, sS_n, sS_a, sS_l, sS_k, aS_s, aS_n, aS_1, aS_l, aS_k, lS_l, lS_1, lS_a, lS_k, nS_s, nS_n, nS_1, nS_a, nS_l, updS, updN, nI_eq, nI_leI, nI_ltI, nI_add, pk_mul, nN_e, nN_e', nN_l, nN_g, nN_le, nN_ge, ite_not, if_true, if_false, not_true_eq_false, not_false_eq_true, Nat.not_lt_zero, Nat.reduceEqDiff, Nat.reduceLT, Nat.reduceLeDiff, Nat.reduceAdd, Nat.zero_le, ite_self, reduceCtorEq, bI_t, bI_f, bI_z, bI_1, ok_bb, if_pos, if_neg]
      refine ih (v + 1) (vp_updL l v 0) (by omega) ?_
      intro i hi
      unfold vp_updL
      by_cases e : i = v
      · rw [if_pos e]
      · rw [if_neg e]
        exact h i (by omega)
  unfold f_Ar_fill3
  refine ok_fix ?_
  show okS (k_Ar_fill3_0 o 0) S _
  unfold k_Ar_fill3_0
  simp (disch := omega) only [n_lit, n_m1, ok_S, ok_s, ok_N, ok_n, ↓ok_if, ok_A, ok_a, ok_L, ok_l, ok_zn0, ok_zn1, ok_f2, ok_pure, ok_rI, ok_bn0, ok_bn1, ok_rt, ok_riI, ok_rn0, ok_rn1, ok_go, nx_l, nx_r, sS_s, sS_n, sS_a, sS_l, sS_k, aS_s, aS_n, aS_1, aS_l, aS_k, lS_l, lS_1, lS_a, lS_k, nS_s, nS_n, nS_1, nS_a, nS_l, updS, updN, nI_eq, nI_leI, nI_ltI, nI_add, pk_mul, nN_e, nN_e', nN_l, nN_g, nN_le, nN_ge, ite_not, if_true, if_false, not_true_eq_false, not_false_eq_true, Nat.not_lt_zero, Nat.reduceEqDiff, Nat.reduceLT, Nat.reduceLeDiff, Nat.reduceAdd, Nat.zero_le, ite_self, reduceCtorEq, bI_t, bI_f, bI_z, bI_1, ok_bb]
  exact lp 192 0 S.2.2.1 rfl (fun i hi => by omega)
def PGood (o : Nat) (SM : qSt) (H : qH) (SC' : qSt) (H' : qH) : Prop := SC'.1 85 = nN ∧ ∃ SM' t W ad N g u B, okS f_Md_read SM (fun v S' => v = nI 1 ∧ S' = SM') ∧ FrZ SM SM' ∧ RT SM' t N ∧ SM'.1 4 = nI N ∧ SM'.1 19 = nI g ∧ SC'.1 84 = nI g ∧ MM (SM'.2.1 14) B u ∧ MC SC'.2.2.1 B ∧ SC'.1 41 = nI u ∧ u ≤ 48 ∧ g ≤ 6 ∧ N ≤ 110 ∧ 1 < N ∧ Sg t W ad H'.1 u g 0 N ∧ AdO t ad 0 N H.2.1 H'.2.1 ∧ (t 0).1 = 0 ∧ (t 0).2.1.head? = some 1 ∧ ad 1 = H.2.1 ∧ ∃ dp : Nat → Nat, dp 0 = 0 ∧ ∀ n, n < N → dp n ≤ 8 ∧ ∀ k ∈ (t n).2.1, dp k = dp n + (if (t k).1 = 0 then 1 else 0)
def PBad (SM : qSt) (SC' : qSt) : Prop := ∃ e, SC'.1 85 = nI e ∧ e ≤ 48 ∧ okS f_Md_read SM (fun v S' => v = nI 0 ∧ S'.1 14 = nI e ∧ FrZ SM S')
theorem e_parse {SC SM : qSt} {H : qH} {o len : Nat} {tx : Nat → Nat} (hl : len ≤ 48) (hc : ∀ i, i < len → 32 ≤ tx i ∧ tx i ≤ 126 ∧ SC.2.1 1 i = nI (tx i)) (hM : TxM SM len tx) (hO : o + 21 ≤ H.2.1) : okT (f_Pa_parse o (nI len)) SC H (fun r SC' H' => r = some H.2.1 ∧ FrV SC SC' ∧ (∀ a, a < H.2.1 → H'.1 a = H.1 a) ∧ H.2.1 ≤ H'.2.1 ∧ H'.2.2.1 ≤ H.2.2.1 + 100 ∧ H'.2.2.2 ≤ H.2.2.2 + 700 ∧ (PBad SM SC' ∨ PGood o SM H SC' H')) := by
  -- the reference's beginning
  have rd : ∃ SM1, FrZ SM SM1 ∧ MH SM1 len tx 0 0 0 2 0 (tN (fun _ => (0, [], 0, 0, 0, 0, 0)) 1 0 1) (fun _ _ => false) ∧ SM1.2.1 12 0 = nI 0 ∧ SM1.2.1 13 0 = nI 1 ∧ ∀ Q, okL SM1 Q → okS f_Md_read SM Q := by
    have : okS k_Md_read_0 SM (fun r S' => r = .inl (49, [], []) ∧ FrZ SM S' ∧ MH S' len tx 0 0 0 2 0 (tN (fun _ => (0, [], 0, 0, 0, 0, 0)) 1 0 1) (fun _ _ => false) ∧ S'.2.1 12 0 = nI 0 ∧ S'.2.1 13 0 = nI 1) := by
      unfold k_Md_read_0
      simp (disch := omega) only [n_lit, n_m1, ok_S, ok_s, ok_N, ok_n, ↓ok_if, ok_A, ok_a, ok_L, ok_l, ok_zn0, ok_zn1, ok_f2, ok_pure, ok_rI, ok_bn0, ok_bn1, ok_rt, ok_riI, ok_rn0, ok_rn1, ok_go, nx_l, nx_r, sS_s, sS_n, sS_a, sS_l, sS_k, aS_s, aS_n, aS_1, aS_l, aS_k, lS_l, lS_1, lS_a, lS_k, nS_s, nS_n, nS_1, nS_a, nS_l, updS, updN, nI_eq, nI_leI, nI_ltI, nI_add, pk_mul, nN_e, nN_e', nN_l, nN_g, nN_le, nN_ge, ite_not, if_true, if_false, not_true_eq_false, not_false_eq_true, Nat.not_lt_zero, Nat.reduceEqDiff, Nat.reduceLT, Nat.reduceLeDiff, Nat.reduceAdd, Nat.zero_le, ite_self, reduceCtorEq, bI_t, bI_f, bI_z, bI_1, ok_bb, if_pos, if_neg]
      generalize hS0 : sS (sS (sS (sS (sS SM 4 (nI 0)) 20 (nI 0)) 19 (nI 0)) 15 (nI 0)) 14 (nI 0) = S0
      have f0 : FrZ SM S0 := by
        rw [← hS0]
        exact ⟨rfl, fun f a b c d e => (sS_n b).trans ((sS_n c).trans ((sS_n d).trans ((sS_n e).trans (sS_n a)))), fun f _ => rfl⟩
      have s0 : S0.1 4 = nI 0 ∧ S0.1 14 = nI 0 ∧ S0.1 15 = nI 0 ∧ S0.1 19 = nI 0 ∧ S0.1 20 = nI 0 := by
        rw [← hS0]
        simp (disch := omega) only [n_lit, n_m1, ok_S, ok_s, ok_N, ok_n, ↓ok_if, ok_A, ok_a, ok_L, ok_l, ok_zn0, ok_zn1, ok_f2, ok_pure, ok_rI, ok_bn0, ok_bn1, ok_rt, ok_riI, ok_rn0, ok_rn1, ok_go, nx_l, nx_r, sS_s, sS_n, sS_a, sS_l, sS_k, aS_s, aS_n, aS_1, aS_l, aS_k, lS_l, lS_1, lS_a, lS_k, nS_s, nS_n, nS_1, nS_a, nS_l, updS, updN, nI_eq, nI_leI, nI_ltI, nI_add, pk_mul, nN_e, nN_e', nN_l, nN_g, nN_le, nN_ge, ite_not, if_true, if_false, not_true_eq_false, not_false_eq_true, Nat.not_lt_zero, Nat.reduceEqDiff, Nat.reduceLT, Nat.reduceLeDiff, Nat.reduceAdd, Nat.zero_le, ite_self, reduceCtorEq, bI_t, bI_f, bI_z, bI_1, ok_bb, if_pos, if_neg]
        exact ⟨trivial, trivial, trivial, trivial, trivial⟩
      refine ok_C (e_node0 s0.1 fun S1 f1 a1 r1 => ?_)
      simp (disch := omega) only [n_lit, n_m1, ok_S, ok_s, ok_N, ok_n, ↓ok_if, ok_A, ok_a, ok_L, ok_l, ok_zn0, ok_zn1, ok_f2, ok_pure, ok_rI, ok_bn0, ok_bn1, ok_rt, ok_riI, ok_rn0, ok_rn1, ok_go, nx_l, nx_r, sS_s, sS_n, sS_a, sS_l, sS_k, aS_s, aS_n, aS_1, aS_l, aS_k, lS_l, lS_1, lS_a, lS_k, nS_s, nS_n, nS_1, nS_a, nS_l, updS, updN, nI_eq, nI_leI, nI_ltI, nI_add, pk_mul, nN_e, nN_e', nN_l, nN_g, nN_le, nN_ge, ite_not, if_true, if_false, not_true_eq_false, not_false_eq_true, Nat.not_lt_zero, Nat.reduceEqDiff, Nat.reduceLT, Nat.reduceLeDiff, Nat.reduceAdd, Nat.zero_le, ite_self, reduceCtorEq, bI_t, bI_f, bI_z, bI_1, ok_bb, if_pos, if_neg]
      have h2 : MH (aS S1 12 (upd (S1.2.1 12) 0 (nI 0))) len tx 0 0 0 1 0 (fun _ => (0, [], 0, 0, 0, 0, 0)) (fun _ _ => false) := by
        refine MH_st (by omega) ⟨⟨hM.1, ?_, fun i hi => ?_⟩, ?_, ?_, ?_, ?_, a1, fun s c hs => by omega, r1⟩
        · exact (f1.2.1 1 (by omega)).trans ((f0.2.1 1 (by omega) (by omega) (by omega) (by omega) (by omega)).trans hM.2.1)
        · rw [f1.2.2 1 (by omega), f0.2.2 1 (by omega)]
          exact hM.2.2 i hi
        · exact (f1.2.1 14 (by omega)).trans s0.2.1
        · exact (f1.2.1 15 (by omega)).trans s0.2.2.1
        · exact (f1.2.1 19 (by omega)).trans s0.2.2.2.1
        · exact (f1.2.1 20 (by omega)).trans s0.2.2.2.2
      refine ok_C (e_node h2.2.2.2.2.2.2.2 h2.2.2.2.2.2.1 (by omega) (by decide) (by decide) fun S2 f2 a2 r2 => ?_)
      have h3 := MH_N h2 f2 a2 r2
      simp (disch := omega) only [n_lit, n_m1, ok_S, ok_s, ok_N, ok_n, ↓ok_if, ok_A, ok_a, ok_L, ok_l, ok_zn0, ok_zn1, ok_f2, ok_pure, ok_rI, ok_bn0, ok_bn1, ok_rt, ok_riI, ok_rn0, ok_rn1, ok_go, nx_l, nx_r, sS_s, sS_n, sS_a, sS_l, sS_k, aS_s, aS_n, aS_1, aS_l, aS_k, lS_l, lS_1, lS_a, lS_k, nS_s, nS_n, nS_1, nS_a, nS_l, updS, updN, nI_eq, nI_leI, nI_ltI, nI_add, pk_mul, nN_e, nN_e', nN_l, nN_g, nN_le, nN_ge, ite_not, if_true, if_false, not_true_eq_false, not_false_eq_true, Nat.not_lt_zero, Nat.reduceEqDiff, Nat.reduceLT, Nat.reduceLeDiff, Nat.reduceAdd, Nat.zero_le, ite_self, reduceCtorEq, bI_t, bI_f, bI_z, bI_1, ok_bb, if_pos, if_neg]
      refine ⟨trivial, FrZ_tr (FrZ_a (by omega) _ _) (FrZ_tr (FrZ_N f2) (FrZ_tr (FrZ_a (by omega) _ _) (FrZ_tr (FrZ_N f1) f0))), MH_st (by omega) h3, ?_⟩
      rw [f2.2.2 12 (by omega), aS_s, updS]
      exact ⟨rfl, trivial⟩
    obtain ⟨r, S', h1, rfl, h3, h4, h5, h6⟩ := this
    refine ⟨S', h3, h4, h5, h6, fun Q hQ => ?_⟩
    unfold f_Md_read
    exact ok_fix ⟨_, S', h1, hQ⟩
  obtain ⟨SM1, fz1, hM1, g12, g13, rdL⟩ := rd
  unfold f_Pa_parse
  simp (disch := first | omega | assumption) only [n_lit, n_m1, t_S, t_s, ↓t_if, t_pure, t_rI, t_riI, t_rt, t_go, nt_l, nt_r, t_nn, t_nul0, t_nul1, rp_g0, rp_s0, rp_g1, rp_s1, rp_s1n, rp_g2, rp_s2, rp_g3, rp_s3, rp_g4, rp_s4, rp_g5, rp_s5, rp_g6, rp_s6z, rp_s6u, rp_g7, rp_s7z, rp_s7u, rp_g8, rp_s8z, rp_s8u, rp_g9, rp_s9, rp_s9n, rw_g0, rw_s0, rw_s0n, rw_g1, rw_s1, rw_s1n, rw_g2, rw_s2, rw_s2n, rw_g3, rw_s3, sS_s, sS_n, sS_a, sS_l, sS_k, lS_l, lS_1, lS_a, lS_k, nI_eq, nI_leI, nI_ltI, nI_add, pk_mul, nN_e, nN_e', nN_l, nN_g, nN_le, nN_ge, ite_not, if_true, if_false, not_true_eq_false, not_false_eq_true, Nat.not_lt_zero, Nat.reduceEqDiff, Nat.reduceLT, Nat.reduceLeDiff, Nat.reduceAdd, Nat.zero_le, ite_self, reduceCtorEq, bI_t, bI_f, bI_z, bI_1, if_pos, if_neg, ite_self]
  generalize hS1 : sS (sS (sS (sS SC 82 (nI len)) 83 (nI 0)) 84 (nI 0)) 85 nN = S1
  have v1 : FrV SC S1 := by
    rw [← hS1]
    exact ⟨rfl, rfl, fun f a b c d e => (sS_n e).trans ((sS_n d).trans ((sS_n c).trans (sS_n b)))⟩
  have s1 : S1.1 82 = nI len ∧ S1.1 83 = nI 0 ∧ S1.1 84 = nI 0 ∧ S1.1 85 = nN := by
    rw [← hS1]
    simp (disch := omega) only [n_lit, n_m1, ok_S, ok_s, ok_N, ok_n, ↓ok_if, ok_A, ok_a, ok_L, ok_l, ok_zn0, ok_zn1, ok_f2, ok_pure, ok_rI, ok_bn0, ok_bn1, ok_rt, ok_riI, ok_rn0, ok_rn1, ok_go, nx_l, nx_r, sS_s, sS_n, sS_a, sS_l, sS_k, aS_s, aS_n, aS_1, aS_l, aS_k, lS_l, lS_1, lS_a, lS_k, nS_s, nS_n, nS_1, nS_a, nS_l, updS, updN, nI_eq, nI_leI, nI_ltI, nI_add, pk_mul, nN_e, nN_e', nN_l, nN_g, nN_le, nN_ge, ite_not, if_true, if_false, not_true_eq_false, not_false_eq_true, Nat.not_lt_zero, Nat.reduceEqDiff, Nat.reduceLT, Nat.reduceLeDiff, Nat.reduceAdd, Nat.zero_le, ite_self, reduceCtorEq, bI_t, bI_f, bI_z, bI_1, ok_bb, if_pos, if_neg]
    exact ⟨trivial, trivial, trivial, trivial⟩
  have t1 : S1.2.1 = SC.2.1 := v1.1
  refine t_C ?_
  unfold f_Cs_forgetAll
  simp (disch := first | omega | assumption) only [n_lit, n_m1, t_S, t_s, ↓t_if, t_pure, t_rI, t_riI, t_rt, t_go, nt_l, nt_r, t_nn, t_nul0, t_nul1, rp_g0, rp_s0, rp_g1, rp_s1, rp_s1n, rp_g2, rp_s2, rp_g3, rp_s3, rp_g4, rp_s4, rp_g5, rp_s5, rp_g6, rp_s6z, rp_s6u, rp_g7, rp_s7z, rp_s7u, rp_g8, rp_s8z, rp_s8u, rp_g9, rp_s9, rp_s9n, rw_g0, rw_s0, rw_s0n, rw_g1, rw_s1, rw_s1n, rw_g2, rw_s2, rw_s2n, rw_g3, rw_s3, sS_s, sS_n, sS_a, sS_l, sS_k, lS_l, lS_1, lS_a, lS_k, nI_eq, nI_leI, nI_ltI, nI_add, pk_mul, nN_e, nN_e', nN_l, nN_g, nN_le, nN_ge, ite_not, if_true, if_false, not_true_eq_false, not_false_eq_true, Nat.not_lt_zero, Nat.reduceEqDiff, Nat.reduceLT, Nat.reduceLeDiff, Nat.reduceAdd, Nat.zero_le, ite_self, reduceCtorEq, bI_t, bI_f, bI_z, bI_1, if_pos, if_neg]
  refine t_O (e_fill3 fun l hz => ?_)
  simp (disch := first | omega | assumption) only [n_lit, n_m1, t_S, t_s, ↓t_if, t_pure, t_rI, t_riI, t_rt, t_go, nt_l, nt_r, t_nn, t_nul0, t_nul1, rp_g0, rp_s0, rp_g1, rp_s1, rp_s1n, rp_g2, rp_s2, rp_g3, rp_s3, rp_g4, rp_s4, rp_g5, rp_s5, rp_g6, rp_s6z, rp_s6u, rp_g7, rp_s7z, rp_s7u, rp_g8, rp_s8z, rp_s8u, rp_g9, rp_s9, rp_s9n, rw_g0, rw_s0, rw_s0n, rw_g1, rw_s1, rw_s1n, rw_g2, rw_s2, rw_s2n, rw_g3, rw_s3, sS_s, sS_n, sS_a, sS_l, sS_k, lS_l, lS_1, lS_a, lS_k, nI_eq, nI_leI, nI_ltI, nI_add, pk_mul, nN_e, nN_e', nN_l, nN_g, nN_le, nN_ge, ite_not, if_true, if_false, not_true_eq_false, not_false_eq_true, Nat.not_lt_zero, Nat.reduceEqDiff, Nat.reduceLT, Nat.reduceLeDiff, Nat.reduceAdd, Nat.zero_le, ite_self, reduceCtorEq, bI_t, bI_f, bI_z, bI_1, if_pos, if_neg]
  have hCH : CH (lS (sS S1 41 (nI 0)) l) len tx 0 0 0 (fun _ _ => false) := by
    refine ⟨⟨⟨hl, ?_, fun i hi => ?_⟩, ?_, ?_, ?_, by omega, fun s c hs hcc => ?_⟩, ?_⟩
    · simp (disch := omega) only [n_lit, n_m1, ok_S, ok_s, ok_N, ok_n, ↓ok_if, ok_A, ok_a, ok_L, ok_l, ok_zn0, ok_zn1, ok_f2, ok_pure, ok_rI, ok_bn0, ok_bn1, ok_rt, ok_riI, ok_rn0, ok_rn1, ok_go, nx_l, nx_r, sS_s, sS_n, sS_a, sS_l, sS_k, aS_s, aS_n, aS_1, aS_l, aS_k, lS_l, lS_1, lS_a, lS_k, nS_s, nS_n, nS_1, nS_a, nS_l, updS, updN, nI_eq, nI_leI, nI_ltI, nI_add, pk_mul, nN_e, nN_e', nN_l, nN_g, nN_le, nN_ge, ite_not, if_true, if_false, not_true_eq_false, not_false_eq_true, Nat.not_lt_zero, Nat.reduceEqDiff, Nat.reduceLT, Nat.reduceLeDiff, Nat.reduceAdd, Nat.zero_le, ite_self, reduceCtorEq, bI_t, bI_f, bI_z, bI_1, ok_bb, if_pos, if_neg, s1.1]
    · show 32 ≤ tx i ∧ tx i ≤ 126 ∧ S1.2.1 1 i = nI (tx i)
      rw [t1]
      exact hc i hi
    · simp (disch := omega) only [n_lit, n_m1, ok_S, ok_s, ok_N, ok_n, ↓ok_if, ok_A, ok_a, ok_L, ok_l, ok_zn0, ok_zn1, ok_f2, ok_pure, ok_rI, ok_bn0, ok_bn1, ok_rt, ok_riI, ok_rn0, ok_rn1, ok_go, nx_l, nx_r, sS_s, sS_n, sS_a, sS_l, sS_k, aS_s, aS_n, aS_1, aS_l, aS_k, lS_l, lS_1, lS_a, lS_k, nS_s, nS_n, nS_1, nS_a, nS_l, updS, updN, nI_eq, nI_leI, nI_ltI, nI_add, pk_mul, nN_e, nN_e', nN_l, nN_g, nN_le, nN_ge, ite_not, if_true, if_false, not_true_eq_false, not_false_eq_true, Nat.not_lt_zero, Nat.reduceEqDiff, Nat.reduceLT, Nat.reduceLeDiff, Nat.reduceAdd, Nat.zero_le, ite_self, reduceCtorEq, bI_t, bI_f, bI_z, bI_1, ok_bb, if_pos, if_neg, s1.2.1]
    · simp (disch := omega) only [n_lit, n_m1, ok_S, ok_s, ok_N, ok_n, ↓ok_if, ok_A, ok_a, ok_L, ok_l, ok_zn0, ok_zn1, ok_f2, ok_pure, ok_rI, ok_bn0, ok_bn1, ok_rt, ok_riI, ok_rn0, ok_rn1, ok_go, nx_l, nx_r, sS_s, sS_n, sS_a, sS_l, sS_k, aS_s, aS_n, aS_1, aS_l, aS_k, lS_l, lS_1, lS_a, lS_k, nS_s, nS_n, nS_1, nS_a, nS_l, updS, updN, nI_eq, nI_leI, nI_ltI, nI_add, pk_mul, nN_e, nN_e', nN_l, nN_g, nN_le, nN_ge, ite_not, if_true, if_false, not_true_eq_false, not_false_eq_true, Nat.not_lt_zero, Nat.reduceEqDiff, Nat.reduceLT, Nat.reduceLeDiff, Nat.reduceAdd, Nat.zero_le, ite_self, reduceCtorEq, bI_t, bI_f, bI_z, bI_1, ok_bb, if_pos, if_neg, s1.2.2.2]
    · simp (disch := omega) only [n_lit, n_m1, ok_S, ok_s, ok_N, ok_n, ↓ok_if, ok_A, ok_a, ok_L, ok_l, ok_zn0, ok_zn1, ok_f2, ok_pure, ok_rI, ok_bn0, ok_bn1, ok_rt, ok_riI, ok_rn0, ok_rn1, ok_go, nx_l, nx_r, sS_s, sS_n, sS_a, sS_l, sS_k, aS_s, aS_n, aS_1, aS_l, aS_k, lS_l, lS_1, lS_a, lS_k, nS_s, nS_n, nS_1, nS_a, nS_l, updS, updN, nI_eq, nI_leI, nI_ltI, nI_add, pk_mul, nN_e, nN_e', nN_l, nN_g, nN_le, nN_ge, ite_not, if_true, if_false, not_true_eq_false, not_false_eq_true, Nat.not_lt_zero, Nat.reduceEqDiff, Nat.reduceLT, Nat.reduceLeDiff, Nat.reduceAdd, Nat.zero_le, ite_self, reduceCtorEq, bI_t, bI_f, bI_z, bI_1, ok_bb, if_pos, if_neg]
    · show jb (l (s * 4 + c / 64)) (c % 64) = false
      rw [hz _ (by omega)]
      exact jb_0 _
    · simp (disch := omega) only [n_lit, n_m1, ok_S, ok_s, ok_N, ok_n, ↓ok_if, ok_A, ok_a, ok_L, ok_l, ok_zn0, ok_zn1, ok_f2, ok_pure, ok_rI, ok_bn0, ok_bn1, ok_rt, ok_riI, ok_rn0, ok_rn1, ok_go, nx_l, nx_r, sS_s, sS_n, sS_a, sS_l, sS_k, aS_s, aS_n, aS_1, aS_l, aS_k, lS_l, lS_1, lS_a, lS_k, nS_s, nS_n, nS_1, nS_a, nS_l, updS, updN, nI_eq, nI_leI, nI_ltI, nI_add, pk_mul, nN_e, nN_e', nN_l, nN_g, nN_le, nN_ge, ite_not, if_true, if_false, not_true_eq_false, not_false_eq_true, Nat.not_lt_zero, Nat.reduceEqDiff, Nat.reduceLT, Nat.reduceLeDiff, Nat.reduceAdd, Nat.zero_le, ite_self, reduceCtorEq, bI_t, bI_f, bI_z, bI_1, ok_bb, if_pos, if_neg, s1.2.2.1]
  have t01 : tN (fun _ => (0, [], 0, 0, 0, 0, 0)) 1 0 1 0 = (0, [1], 0, 0, 0, 0, 0) := by
    unfold tN
    rw [tU_s]
    rfl
  have t11 : tN (fun _ => (0, [], 0, 0, 0, 0, 0)) 1 0 1 1 = (1, [], 0, 0, 0, 0, 0) := tN_new (by omega)
  have sim := @sim_all o len tx 8 0 40 rfl (by omega) 0 _ SM1 H _ 0 0 0 _ hCH hM1 ⟨by omega, by omega, by omega, by omega, by omega⟩ (fun _ _ _ => rfl) g12 g13 (by rw [t01]) (by rw [t01]) (by rw [t11]) (by rw [t11]) hO
  refine t_C (t_mono sim ?_)
  rintro r SC2 H2 ⟨rfl, fy2, hfr2, hlt2, hP⟩
  have v1b : FrV S1 (lS (sS S1 41 (nI 0)) l) := ⟨rfl, rfl, fun f a _ _ _ _ => sS_n a⟩
  have v2 : FrV SC SC2 := FrV_tr (FrV_Y fy2) (FrV_tr v1b v1)
  have h82 : SC2.1 82 = nI len := (fy2.2.2 82 (by omega) (by omega) (by omega) (by omega)).trans hCH.1.1.2.1
  have hfr : ∀ a, a < H.2.1 → H2.1 a = H.1 a := fun a ha => (hfr2 a ha).trans (upN (by omega))
  have hlt : H.2.1 + 1 ≤ H2.2.1 := hlt2
  rcases hP with ⟨e, q, s0, rs, b1, b2, b3, b4, b5, b6, ⟨b7, b7'⟩, b8, b9⟩ | ⟨SM2, t2, W2, ad2, N2, p2, g2, u2, B2, w2, b1, b2, b3, b4, b5, b6, b7, b8, b9, ⟨b10, b10'⟩⟩
  · have b7a : H2.2.2.1 + 2 * 0 ≤ H.2.2.1 + 1 + 2 * q + 1 := b7
    have b7b : H2.2.2.2 + 14 * 0 ≤ H.2.2.2 + 4 + 14 * q + 10 := b7'
    have bad : PBad SM SC2 := ⟨e, b1, b2, rdL _ (ok_mono b6 (fun v S' k => ⟨k.1, k.2.1, FrZ_tr k.2.2 fz1⟩))⟩
    simp (disch := first | omega | assumption) only [n_lit, n_m1, t_S, t_s, ↓t_if, t_pure, t_rI, t_riI, t_rt, t_go, nt_l, nt_r, t_nn, t_nul0, t_nul1, rp_g0, rp_s0, rp_g1, rp_s1, rp_s1n, rp_g2, rp_s2, rp_g3, rp_s3, rp_g4, rp_s4, rp_g5, rp_s5, rp_g6, rp_s6z, rp_s6u, rp_g7, rp_s7z, rp_s7u, rp_g8, rp_s8z, rp_s8u, rp_g9, rp_s9, rp_s9n, rw_g0, rw_s0, rw_s0n, rw_g1, rw_s1, rw_s1n, rw_g2, rw_s2, rw_s2n, rw_g3, rw_s3, sS_s, sS_n, sS_a, sS_l, sS_k, lS_l, lS_1, lS_a, lS_k, nI_eq, nI_leI, nI_ltI, nI_add, pk_mul, nN_e, nN_e', nN_l, nN_g, nN_le, nN_ge, ite_not, if_true, if_false, not_true_eq_false, not_false_eq_true, Nat.not_lt_zero, Nat.reduceEqDiff, Nat.reduceLT, Nat.reduceLeDiff, Nat.reduceAdd, Nat.zero_le, ite_self, reduceCtorEq, bI_t, bI_f, bI_z, bI_1, if_pos, if_neg, b3, h82]
    by_cases hq : len ≤ q
    · rw [if_pos hq]
      exact ⟨trivial, v2, hfr, by omega, by omega, by omega, Or.inl bad⟩
    · rw [if_neg hq]
      refine t_O (e_failE b1 (by omega) ?_)
      simp (disch := first | omega | assumption) only [n_lit, n_m1, t_S, t_s, ↓t_if, t_pure, t_rI, t_riI, t_rt, t_go, nt_l, nt_r, t_nn, t_nul0, t_nul1, rp_g0, rp_s0, rp_g1, rp_s1, rp_s1n, rp_g2, rp_s2, rp_g3, rp_s3, rp_g4, rp_s4, rp_g5, rp_s5, rp_g6, rp_s6z, rp_s6u, rp_g7, rp_s7z, rp_s7u, rp_g8, rp_s8z, rp_s8u, rp_g9, rp_s9, rp_s9n, rw_g0, rw_s0, rw_s0n, rw_g1, rw_s1, rw_s1n, rw_g2, rw_s2, rw_s2n, rw_g3, rw_s3, sS_s, sS_n, sS_a, sS_l, sS_k, lS_l, lS_1, lS_a, lS_k, nI_eq, nI_leI, nI_ltI, nI_add, pk_mul, nN_e, nN_e', nN_l, nN_g, nN_le, nN_ge, ite_not, if_true, if_false, not_true_eq_false, not_false_eq_true, Nat.not_lt_zero, Nat.reduceEqDiff, Nat.reduceLT, Nat.reduceLeDiff, Nat.reduceAdd, Nat.zero_le, ite_self, reduceCtorEq, bI_t, bI_f, bI_z, bI_1, if_pos, if_neg]
      exact ⟨trivial, v2, hfr, by omega, by omega, by omega, Or.inl bad⟩
  · have b10a : H2.2.2.1 + 2 * 0 ≤ H.2.2.1 + 1 + 2 * p2 + 0 := b10
    have b10b : H2.2.2.2 + 14 * 0 ≤ H.2.2.2 + 4 + 14 * p2 + 0 := b10'
    obtain ⟨hC2, hM2, ⟨m1, m2, m3, m4, m5⟩, hE2, g12, g13, l1, l2, l3, l4, l5, l6, hS2, hA2, hO2, hW2, hA02, dp, dp1, _, dp3⟩ := b3
    have h83 := hC2.1.2.1
    simp (disch := first | omega | assumption) only [n_lit, n_m1, t_S, t_s, ↓t_if, t_pure, t_rI, t_riI, t_rt, t_go, nt_l, nt_r, t_nn, t_nul0, t_nul1, rp_g0, rp_s0, rp_g1, rp_s1, rp_s1n, rp_g2, rp_s2, rp_g3, rp_s3, rp_g4, rp_s4, rp_g5, rp_s5, rp_g6, rp_s6z, rp_s6u, rp_g7, rp_s7z, rp_s7u, rp_g8, rp_s8z, rp_s8u, rp_g9, rp_s9, rp_s9n, rw_g0, rw_s0, rw_s0n, rw_g1, rw_s1, rw_s1n, rw_g2, rw_s2, rw_s2n, rw_g3, rw_s3, sS_s, sS_n, sS_a, sS_l, sS_k, lS_l, lS_1, lS_a, lS_k, nI_eq, nI_leI, nI_ltI, nI_add, pk_mul, nN_e, nN_e', nN_l, nN_g, nN_le, nN_ge, ite_not, if_true, if_false, not_true_eq_false, not_false_eq_true, Nat.not_lt_zero, Nat.reduceEqDiff, Nat.reduceLT, Nat.reduceLeDiff, Nat.reduceAdd, Nat.zero_le, ite_self, reduceCtorEq, bI_t, bI_f, bI_z, bI_1, if_pos, if_neg, h83, h82]
    by_cases x0 : pe len tx p2 = 0
    · have hq : len ≤ p2 := by
        apply Classical.byContradiction
        intro q
        unfold pe at x0
        rw [if_pos (by omega)] at x0
        have := hc p2 (by omega)
        omega
      rw [if_pos hq]
      obtain ⟨rr, SM3, ⟨rfl, rfl⟩, hL3⟩ := Ld_of (m_end hM2 m1 m5 x0)
      refine ⟨trivial, v2, hfr, by omega, by omega, by omega, Or.inr ⟨hC2.1.2.2.1, SM3, t2, W2, ad2, N2, g2, u2, B2, ?_, FrZ_tr b2 fz1, hM2.2.2.2.2.2.2.2, hM2.2.2.2.2.2.1, hM2.2.2.2.1, hC2.2, hM2.2.2.2.2.2.2.1, hC2.1.2.2.2.2.2, hC2.1.2.2.2.1, hC2.1.2.2.2.2.1, m3, by omega, by omega, hS2, hA2, l3, l6, hA02, dp, dp1, fun n hn => dp3 n (Nat.zero_le n) hn⟩⟩
      refine rdL _ (b1 _ (hL3 _ ?_))
      rw [nx_r, if_pos rfl]
      exact ⟨rfl, rfl⟩
    · have x1 : pe len tx p2 = 41 := by
        rcases b4 with z | z
        · exact absurd z x0
        · exact z
      have hq := pm_len (show pe len tx p2 ≠ 0 from x0)
      rw [if_neg (by omega)]
      refine t_O (e_fail hC2.1 ?_)
      simp (disch := first | omega | assumption) only [n_lit, n_m1, t_S, t_s, ↓t_if, t_pure, t_rI, t_riI, t_rt, t_go, nt_l, nt_r, t_nn, t_nul0, t_nul1, rp_g0, rp_s0, rp_g1, rp_s1, rp_s1n, rp_g2, rp_s2, rp_g3, rp_s3, rp_g4, rp_s4, rp_g5, rp_s5, rp_g6, rp_s6z, rp_s6u, rp_g7, rp_s7z, rp_s7u, rp_g8, rp_s8z, rp_s8u, rp_g9, rp_s9, rp_s9n, rw_g0, rw_s0, rw_s0n, rw_g1, rw_s1, rw_s1n, rw_g2, rw_s2, rw_s2n, rw_g3, rw_s3, sS_s, sS_n, sS_a, sS_l, sS_k, lS_l, lS_1, lS_a, lS_k, nI_eq, nI_leI, nI_ltI, nI_add, pk_mul, nN_e, nN_e', nN_l, nN_g, nN_le, nN_ge, ite_not, if_true, if_false, not_true_eq_false, not_false_eq_true, Nat.not_lt_zero, Nat.reduceEqDiff, Nat.reduceLT, Nat.reduceLeDiff, Nat.reduceAdd, Nat.zero_le, ite_self, reduceCtorEq, bI_t, bI_f, bI_z, bI_1, if_pos, if_neg]
      have sc41 : sChars (pe len tx) u2 p2 B2 = .inl p2 := by
        unfold sChars
        rw [if_neg (by omega), if_neg (by omega), if_neg (by omega), if_neg (by rw [x1]; decide)]
      obtain ⟨rr, SM3, ⟨fz3, hP3⟩, hL3⟩ := Ld_of (m_sign hM2 ⟨m1, m2, m3, m4, m5⟩ hE2 g13 l2 (by omega) x0 (by omega) (fun _ => rfl) (by omega))
      rw [sc41] at hP3
      obtain ⟨rfl, h14⟩ := hP3
      have v3b : FrV SC2 (sS SC2 85 (nI p2)) := ⟨rfl, rfl, fun f _ _ _ _ e => sS_n e⟩
      have v3 : FrV SC (sS SC2 85 (nI p2)) := FrV_tr v3b v2
      refine ⟨trivial, v3, hfr, by omega, by omega, by omega, Or.inl ⟨p2, sS_s, m1, rdL _ (b1 _ (hL3 _ ?_))⟩⟩
      rw [nx_r]
      exact ⟨rfl, h14, FrZ_tr fz3 (FrZ_tr b2 fz1)⟩
