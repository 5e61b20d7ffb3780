/-! WRITING, by the reference: a node, all tasks -/
section TN
variable {t : Nat → ND} {W : Nat → Nat} {N L n u g : Nat} {X : Nat → INS} {S0 S : qSt} {ts0 : List (Nat × Nat)}
theorem PR_0 {at0 : Nat} (h : TI S0 ts0) : PR t W N L X S0 ts0 n at0 at0 S0 [] := by
  refine ⟨?_, FrT_rf _, fun i hi => hi, fun x hx => (by cases hx), ?_, fun i a b => by omega⟩
  · rw [List.append_nil]
    exact h
  · have : sumT W [] = 0 := rfl
    omega
theorem e_wnode {at0 : Nat} (hM : MX t W N S0) (hS : Sh t W u g N) (hg : g ≤ 6) (hu : u ≤ 48) (hn : n < N) (hN : N ≤ 110) (hL2 : L ≤ 160) (hT : TI S0 ts0) (hb : ∀ x ∈ ts0, 0 < W x.1) (hb2 : sumT W ts0 ≤ 157) (hA : AGL X (em t W N n at0) at0) (hL : at0 + W n ≤ L) : okS (f_Md_writeNode (nI n) (nI at0)) S0 (fun _ S' => ∃ nw, PR t W N L X S0 ts0 n at0 (at0 + W n) S' nw) := by
  have h0 := @PR_0 t W N L n X S0 ts0 at0 hT
  obtain ⟨ka, s0, s1, s2, s3, s4, s5⟩ := hS n hn
  obtain ⟨⟨r1, r2, r3, r4, r5, r6, r7, r8⟩, _⟩ := hM.1 n hn
  have lenE : ∀ k ∈ (t n).2.1, ∀ a, (em t W N k a).length = W k := by
    intro k hk a
    exact E_len hS N k (ka k hk).2 (by omega) a
  have wn : wd W n = W n := by
    unfold wd
    omega
  have e10 := hM.2 n hn
  rw [wn] at e10
  rw [E_eq hS hn] at hA
  unfold emB at hA
  unfold f_Md_writeNode
  refine ok_fix ?_
  show okS (k_Md_writeNode_0 (nI n) (nI at0)) S0 _
  unfold k_Md_writeNode_0
  have hh : (t n).1 = 0 ∨ (t n).1 = 1 ∨ (t n).1 = 2 ∨ (t n).1 = 3 ∨ (t n).1 = 4 := by omega
  rcases hh with h | h | h | h | h
  · obtain ⟨z1, z2, z3⟩ := s1 h
    rw [if_pos h] at hA
    rw [h] at r1
    simp (disch := omega) only [n_lit, n_m1, ok_S, ok_s, ok_N, ok_n, ↓ok_if, ok_A, ok_a, ok_L, ok_l, ok_zn0, ok_zn1, ok_f2, ok_pure, ok_rI, ok_bn0, ok_bn1, ok_rt, ok_riI, ok_rn0, ok_rn1, ok_go, nx_l, nx_r, sS_s, sS_n, sS_a, sS_l, sS_k, aS_s, aS_n, aS_1, aS_l, aS_k, lS_l, lS_1, lS_a, lS_k, nS_s, nS_n, nS_1, nS_a, nS_l, updS, updN, nI_eq, nI_leI, nI_ltI, nI_add, pk_mul, nN_e, nN_e', nN_l, nN_g, nN_le, nN_ge, ite_not, if_true, if_false, not_true_eq_false, not_false_eq_true, Nat.not_lt_zero, Nat.reduceEqDiff, Nat.reduceLT, Nat.reduceLeDiff, Nat.reduceAdd, Nat.zero_le, ite_self, reduceCtorEq, bI_t, bI_f, bI_z, bI_1, ok_bb, if_pos, if_neg, r1]
    unfold f_Md_writeChoice
    refine ok_C (ok_fix ?_)
    show okS (k_Md_writeChoice_0 (nI n) (nI at0)) S0 _
    unfold k_Md_writeChoice_0
    simp (disch := omega) only [n_lit, n_m1, ok_S, ok_s, ok_N, ok_n, ↓ok_if, ok_A, ok_a, ok_L, ok_l, ok_zn0, ok_zn1, ok_f2, ok_pure, ok_rI, ok_bn0, ok_bn1, ok_rt, ok_riI, ok_rn0, ok_rn1, ok_go, nx_l, nx_r, sS_s, sS_n, sS_a, sS_l, sS_k, aS_s, aS_n, aS_1, aS_l, aS_k, lS_l, lS_1, lS_a, lS_k, nS_s, nS_n, nS_1, nS_a, nS_l, updS, updN, nI_eq, nI_leI, nI_ltI, nI_add, pk_mul, nN_e, nN_e', nN_l, nN_g, nN_le, nN_ge, ite_not, if_true, if_false, not_true_eq_false, not_false_eq_true, Nat.not_lt_zero, Nat.reduceEqDiff, Nat.reduceLT, Nat.reduceLeDiff, Nat.reduceAdd, Nat.zero_le, ite_self, reduceCtorEq, bI_t, bI_f, bI_z, bI_1, ok_bb, if_pos, if_neg, e10, r2]
    refine e_rws (n := n) hM hN hL2 (by omega) hb hb2 (t n).2.1 at0 S0 [] h0 (Nat.le_refl _) r4 ka lenE hA (fun _ => by omega) ?_
    intro S1 nw1 h1
    rw [if_neg z1] at h1
    refine ⟨nw1, ?_⟩
    rw [show at0 + W n = at0 + sumW W (t n).2.1 + 2 * (t n).2.1.length - 2 by omega]
    exact h1
  · obtain ⟨z2, z3⟩ := s2 h
    rw [if_neg (by omega), if_pos h] at hA
    rw [h] at r1
    simp (disch := omega) only [n_lit, n_m1, ok_S, ok_s, ok_N, ok_n, ↓ok_if, ok_A, ok_a, ok_L, ok_l, ok_zn0, ok_zn1, ok_f2, ok_pure, ok_rI, ok_bn0, ok_bn1, ok_rt, ok_riI, ok_rn0, ok_rn1, ok_go, nx_l, nx_r, sS_s, sS_n, sS_a, sS_l, sS_k, aS_s, aS_n, aS_1, aS_l, aS_k, lS_l, lS_1, lS_a, lS_k, nS_s, nS_n, nS_1, nS_a, nS_l, updS, updN, nI_eq, nI_leI, nI_ltI, nI_add, pk_mul, nN_e, nN_e', nN_l, nN_g, nN_le, nN_ge, ite_not, if_true, if_false, not_true_eq_false, not_false_eq_true, Nat.not_lt_zero, Nat.reduceEqDiff, Nat.reduceLT, Nat.reduceLeDiff, Nat.reduceAdd, Nat.zero_le, ite_self, reduceCtorEq, bI_t, bI_f, bI_z, bI_1, ok_bb, if_pos, if_neg, r1, r2]
    refine e_row (n := n) hM hN hL2 hb hb2 (t n).2.1 at0 S0 [] h0 (Nat.le_refl _) r4 ka lenE hA (by omega) ?_
    intro S1 nw1 h1
    refine ⟨nw1, ?_⟩
    rw [z3]
    exact h1
  · obtain ⟨m, z1, z2, z3, z4⟩ := s3 h
    rw [if_neg (by omega), if_neg (by omega), if_pos h] at hA
    have k0n : k0 (t n) = m := by
      unfold k0
      rw [z1]
      rfl
    rw [k0n] at hA
    rw [h] at r1
    simp (disch := omega) only [n_lit, n_m1, ok_S, ok_s, ok_N, ok_n, ↓ok_if, ok_A, ok_a, ok_L, ok_l, ok_zn0, ok_zn1, ok_f2, ok_pure, ok_rI, ok_bn0, ok_bn1, ok_rt, ok_riI, ok_rn0, ok_rn1, ok_go, nx_l, nx_r, sS_s, sS_n, sS_a, sS_l, sS_k, aS_s, aS_n, aS_1, aS_l, aS_k, lS_l, lS_1, lS_a, lS_k, nS_s, nS_n, nS_1, nS_a, nS_l, updS, updN, nI_eq, nI_leI, nI_ltI, nI_add, pk_mul, nN_e, nN_e', nN_l, nN_g, nN_le, nN_ge, ite_not, if_true, if_false, not_true_eq_false, not_false_eq_true, Nat.not_lt_zero, Nat.reduceEqDiff, Nat.reduceLT, Nat.reduceLeDiff, Nat.reduceAdd, Nat.zero_le, ite_self, reduceCtorEq, bI_t, bI_f, bI_z, bI_1, ok_bb, if_pos, if_neg, r1]
    refine ok_C (e_mrep hM hn hN hL2 hb hb2 h0 z1 (ka m (by rw [z1]; simp)) (lenE m (by rw [z1]; simp)) z3 z4 hA hL fun S1 nw1 h1 => ?_)
    simp (disch := omega) only [n_lit, n_m1, ok_S, ok_s, ok_N, ok_n, ↓ok_if, ok_A, ok_a, ok_L, ok_l, ok_zn0, ok_zn1, ok_f2, ok_pure, ok_rI, ok_bn0, ok_bn1, ok_rt, ok_riI, ok_rn0, ok_rn1, ok_go, nx_l, nx_r, sS_s, sS_n, sS_a, sS_l, sS_k, aS_s, aS_n, aS_1, aS_l, aS_k, lS_l, lS_1, lS_a, lS_k, nS_s, nS_n, nS_1, nS_a, nS_l, updS, updN, nI_eq, nI_leI, nI_ltI, nI_add, pk_mul, nN_e, nN_e', nN_l, nN_g, nN_le, nN_ge, ite_not, if_true, if_false, not_true_eq_false, not_false_eq_true, Nat.not_lt_zero, Nat.reduceEqDiff, Nat.reduceLT, Nat.reduceLeDiff, Nat.reduceAdd, Nat.zero_le, ite_self, reduceCtorEq, bI_t, bI_f, bI_z, bI_1, ok_bb, if_pos, if_neg]
    exact ⟨nw1, h1⟩
  · obtain ⟨z0, z1, z2⟩ := s4 h
    rw [if_neg (by omega), if_neg (by omega), if_neg (by omega), if_pos h] at hA
    rw [h] at r1
    simp (disch := omega) only [n_lit, n_m1, ok_S, ok_s, ok_N, ok_n, ↓ok_if, ok_A, ok_a, ok_L, ok_l, ok_zn0, ok_zn1, ok_f2, ok_pure, ok_rI, ok_bn0, ok_bn1, ok_rt, ok_riI, ok_rn0, ok_rn1, ok_go, nx_l, nx_r, sS_s, sS_n, sS_a, sS_l, sS_k, aS_s, aS_n, aS_1, aS_l, aS_k, lS_l, lS_1, lS_a, lS_k, nS_s, nS_n, nS_1, nS_a, nS_l, updS, updN, nI_eq, nI_leI, nI_ltI, nI_add, pk_mul, nN_e, nN_e', nN_l, nN_g, nN_le, nN_ge, ite_not, if_true, if_false, not_true_eq_false, not_false_eq_true, Nat.not_lt_zero, Nat.reduceEqDiff, Nat.reduceLT, Nat.reduceLeDiff, Nat.reduceAdd, Nat.zero_le, ite_self, reduceCtorEq, bI_t, bI_f, bI_z, bI_1, ok_bb, if_pos, if_neg, r1, r5]
    refine ok_C (e_put h0 hA.1.symm (by omega) fun S1 h1 => ?_)
    simp (disch := omega) only [n_lit, n_m1, ok_S, ok_s, ok_N, ok_n, ↓ok_if, ok_A, ok_a, ok_L, ok_l, ok_zn0, ok_zn1, ok_f2, ok_pure, ok_rI, ok_bn0, ok_bn1, ok_rt, ok_riI, ok_rn0, ok_rn1, ok_go, nx_l, nx_r, sS_s, sS_n, sS_a, sS_l, sS_k, aS_s, aS_n, aS_1, aS_l, aS_k, lS_l, lS_1, lS_a, lS_k, nS_s, nS_n, nS_1, nS_a, nS_l, updS, updN, nI_eq, nI_leI, nI_ltI, nI_add, pk_mul, nN_e, nN_e', nN_l, nN_g, nN_le, nN_ge, ite_not, if_true, if_false, not_true_eq_false, not_false_eq_true, Nat.not_lt_zero, Nat.reduceEqDiff, Nat.reduceLT, Nat.reduceLeDiff, Nat.reduceAdd, Nat.zero_le, ite_self, reduceCtorEq, bI_t, bI_f, bI_z, bI_1, ok_bb, if_pos, if_neg]
    refine ⟨[], ?_⟩
    rw [z2]
    exact h1
  · obtain ⟨m, z1, z2, z3, z4⟩ := s5 h
    have k0n : k0 (t n) = m := by
      unfold k0
      rw [z1]
      rfl
    rw [if_neg (by omega), if_neg (by omega), if_neg (by omega), if_neg (by omega), k0n] at hA
    have mr := ka m (by rw [z1]; simp)
    have lm := lenE m (by rw [z1]; simp)
    clear s0 s1 s2 s3 s4 s5
    have r2' : S0.2.1 3 n = nI m := by
      rw [r2, z1]
      rfl
    rw [h] at r1
    by_cases ha : 0 < (t n).2.2.1
    · rw [if_pos ha] at hA z4
      obtain ⟨B0, B1⟩ := hA
      obtain ⟨B2, B3⟩ := AGL_app B1
      rw [lm] at B3
      simp (disch := omega) only [n_lit, n_m1, ok_S, ok_s, ok_N, ok_n, ↓ok_if, ok_A, ok_a, ok_L, ok_l, ok_zn0, ok_zn1, ok_f2, ok_pure, ok_rI, ok_bn0, ok_bn1, ok_rt, ok_riI, ok_rn0, ok_rn1, ok_go, nx_l, nx_r, sS_s, sS_n, sS_a, sS_l, sS_k, aS_s, aS_n, aS_1, aS_l, aS_k, lS_l, lS_1, lS_a, lS_k, nS_s, nS_n, nS_1, nS_a, nS_l, updS, updN, nI_eq, nI_leI, nI_ltI, nI_add, pk_mul, nN_e, nN_e', nN_l, nN_g, nN_le, nN_ge, ite_not, if_true, if_false, not_true_eq_false, not_false_eq_true, Nat.not_lt_zero, Nat.reduceEqDiff, Nat.reduceLT, Nat.reduceLeDiff, Nat.reduceAdd, Nat.zero_le, ite_self, reduceCtorEq, bI_t, bI_f, bI_z, bI_1, ok_bb, if_pos, if_neg, r1, r5]
      refine ok_C (e_put h0 B0.symm (by omega) fun S1 h1 => ?_)
      have q3 : S1.2.1 3 n = nI m := by rw [h1.2.1.2.2 3 (by omega)]; exact r2'
      simp (disch := omega) only [n_lit, n_m1, ok_S, ok_s, ok_N, ok_n, ↓ok_if, ok_A, ok_a, ok_L, ok_l, ok_zn0, ok_zn1, ok_f2, ok_pure, ok_rI, ok_bn0, ok_bn1, ok_rt, ok_riI, ok_rn0, ok_rn1, ok_go, nx_l, nx_r, sS_s, sS_n, sS_a, sS_l, sS_k, aS_s, aS_n, aS_1, aS_l, aS_k, lS_l, lS_1, lS_a, lS_k, nS_s, nS_n, nS_1, nS_a, nS_l, updS, updN, nI_eq, nI_leI, nI_ltI, nI_add, pk_mul, nN_e, nN_e', nN_l, nN_g, nN_le, nN_ge, ite_not, if_true, if_false, not_true_eq_false, not_false_eq_true, Nat.not_lt_zero, Nat.reduceEqDiff, Nat.reduceLT, Nat.reduceLeDiff, Nat.reduceAdd, Nat.zero_le, ite_self, reduceCtorEq, bI_t, bI_f, bI_z, bI_1, ok_bb, if_pos, if_neg, q3]
      refine ok_C (e_later h1 mr.2 mr.1 hN ((MX_fr hM h1.2.1).2 m mr.2) B2 (by omega) hL2 hb (by omega) fun S2 nw2 h2 => ?_)
      have q10 : S2.2.1 10 n = nI (W n) := by rw [h2.2.1.2.2 10 (by omega)]; exact e10
      have q6 : S2.2.1 6 n = nI (t n).2.2.1 := by rw [h2.2.1.2.2 6 (by omega)]; exact r5
      simp (disch := omega) only [n_lit, n_m1, ok_S, ok_s, ok_N, ok_n, ↓ok_if, ok_A, ok_a, ok_L, ok_l, ok_zn0, ok_zn1, ok_f2, ok_pure, ok_rI, ok_bn0, ok_bn1, ok_rt, ok_riI, ok_rn0, ok_rn1, ok_go, nx_l, nx_r, sS_s, sS_n, sS_a, sS_l, sS_k, aS_s, aS_n, aS_1, aS_l, aS_k, lS_l, lS_1, lS_a, lS_k, nS_s, nS_n, nS_1, nS_a, nS_l, updS, updN, nI_eq, nI_leI, nI_ltI, nI_add, pk_mul, nN_e, nN_e', nN_l, nN_g, nN_le, nN_ge, ite_not, if_true, if_false, not_true_eq_false, not_false_eq_true, Nat.not_lt_zero, Nat.reduceEqDiff, Nat.reduceLT, Nat.reduceLeDiff, Nat.reduceAdd, Nat.zero_le, ite_self, reduceCtorEq, bI_t, bI_f, bI_z, bI_1, ok_bb, if_pos, if_neg, q10, q6, pk_sub]
      have e1 : at0 + W n - 1 = at0 + 1 + W m := by omega
      rw [e1]
      refine ok_C (e_put h2 B3.1.symm (by omega) fun S3 h3 => ?_)
      simp (disch := omega) only [n_lit, n_m1, ok_S, ok_s, ok_N, ok_n, ↓ok_if, ok_A, ok_a, ok_L, ok_l, ok_zn0, ok_zn1, ok_f2, ok_pure, ok_rI, ok_bn0, ok_bn1, ok_rt, ok_riI, ok_rn0, ok_rn1, ok_go, nx_l, nx_r, sS_s, sS_n, sS_a, sS_l, sS_k, aS_s, aS_n, aS_1, aS_l, aS_k, lS_l, lS_1, lS_a, lS_k, nS_s, nS_n, nS_1, nS_a, nS_l, updS, updN, nI_eq, nI_leI, nI_ltI, nI_add, pk_mul, nN_e, nN_e', nN_l, nN_g, nN_le, nN_ge, ite_not, if_true, if_false, not_true_eq_false, not_false_eq_true, Nat.not_lt_zero, Nat.reduceEqDiff, Nat.reduceLT, Nat.reduceLeDiff, Nat.reduceAdd, Nat.zero_le, ite_self, reduceCtorEq, bI_t, bI_f, bI_z, bI_1, ok_bb, if_pos, if_neg]
      refine ⟨nw2, ?_⟩
      rw [show at0 + W n = at0 + 1 + W m + 1 by omega]
      exact h3
    · rw [if_neg ha] at hA z4
      have ha0 : (t n).2.2.1 = 0 := by omega
      rw [ha0] at r5
      simp (disch := omega) only [n_lit, n_m1, ok_S, ok_s, ok_N, ok_n, ↓ok_if, ok_A, ok_a, ok_L, ok_l, ok_zn0, ok_zn1, ok_f2, ok_pure, ok_rI, ok_bn0, ok_bn1, ok_rt, ok_riI, ok_rn0, ok_rn1, ok_go, nx_l, nx_r, sS_s, sS_n, sS_a, sS_l, sS_k, aS_s, aS_n, aS_1, aS_l, aS_k, lS_l, lS_1, lS_a, lS_k, nS_s, nS_n, nS_1, nS_a, nS_l, updS, updN, nI_eq, nI_leI, nI_ltI, nI_add, pk_mul, nN_e, nN_e', nN_l, nN_g, nN_le, nN_ge, ite_not, if_true, if_false, not_true_eq_false, not_false_eq_true, Nat.not_lt_zero, Nat.reduceEqDiff, Nat.reduceLT, Nat.reduceLeDiff, Nat.reduceAdd, Nat.zero_le, ite_self, reduceCtorEq, bI_t, bI_f, bI_z, bI_1, ok_bb, if_pos, if_neg, r1, r5, r2']
      refine ok_C (e_later h0 mr.2 mr.1 hN (hM.2 m mr.2) hA (by omega) hL2 hb (by omega) fun S2 nw2 h2 => ?_)
      simp (disch := omega) only [n_lit, n_m1, ok_S, ok_s, ok_N, ok_n, ↓ok_if, ok_A, ok_a, ok_L, ok_l, ok_zn0, ok_zn1, ok_f2, ok_pure, ok_rI, ok_bn0, ok_bn1, ok_rt, ok_riI, ok_rn0, ok_rn1, ok_go, nx_l, nx_r, sS_s, sS_n, sS_a, sS_l, sS_k, aS_s, aS_n, aS_1, aS_l, aS_k, lS_l, lS_1, lS_a, lS_k, nS_s, nS_n, nS_1, nS_a, nS_l, updS, updN, nI_eq, nI_leI, nI_ltI, nI_add, pk_mul, nN_e, nN_e', nN_l, nN_g, nN_le, nN_ge, ite_not, if_true, if_false, not_true_eq_false, not_false_eq_true, Nat.not_lt_zero, Nat.reduceEqDiff, Nat.reduceLT, Nat.reduceLeDiff, Nat.reduceAdd, Nat.zero_le, ite_self, reduceCtorEq, bI_t, bI_f, bI_z, bI_1, ok_bb, if_pos, if_neg]
      refine ⟨nw2, ?_⟩
      rw [show at0 + W n = at0 + W m by omega]
      exact h2
def muT (W : Nat → Nat) (N : Nat) (ts : List (Nat × Nat)) : Nat := (ts.map (fun x => W x.1 * (N - x.1))).sum
theorem muT_app (a b : List (Nat × Nat)) : muT W N (a ++ b) = muT W N a + muT W N b := by
  unfold muT
  simp
theorem muT_lt : ∀ (nw : List (Nat × Nat)), (∀ x ∈ nw, n < x.1) → muT W N nw ≤ sumT W nw * (N - n - 1) := by
  intro nw
  induction nw with
  | nil => intro _; exact Nat.zero_le _
  | cons x r ih =>
    intro h
    have h1 := h x (by simp)
    have h2 := ih (fun y hy => h y (by simp [hy]))
    have e1 : muT W N (x :: r) = W x.1 * (N - x.1) + muT W N r := by
      unfold muT
      simp
    have e2 : sumT W (x :: r) = W x.1 + sumT W r := by
      unfold sumT
      simp
    rw [e1, e2, Nat.add_mul]
    have : W x.1 * (N - x.1) ≤ W x.1 * (N - n - 1) := Nat.mul_le_mul (Nat.le_refl _) (by omega)
    omega
theorem e_tasks {Q : Int32 → qSt → Prop} (hS : Sh t W u g N) (hg : g ≤ 6) (hu : u ≤ 48) (hN : N ≤ 110) (hL2 : L ≤ 160) : ∀ (j : Nat) (ts : List (Nat × Nat)) (S : qSt), muT W N ts ≤ j → MX t W N S → TI S ts → (∀ x ∈ ts, TK t W N L X x) → sumT W ts ≤ 157 → (∀ i, i < L → CK X S i ∨ ∃ x ∈ ts, x.2 ≤ i ∧ i < x.2 + W x.1) → (∀ S', FrT S S' → (∀ i, i < L → CK X S' i) → Q (S'.1 22) (sS S' 29 (nI 0))) → okS (w_fix b_Md_compile (192, [], [])) S Q := by
  intro j
  induction j with
  | zero =>
    intro ts S hj hM hT hK hs hc q
    rcases List.eq_nil_or_concat ts with h | ⟨ts', x, h⟩
    · subst h
      have h26 : S.1 26 = nI 0 := hT.1
      refine ok_fix ?_
      show okS k_Md_compile_192 S _
      unfold k_Md_compile_192
      simp (disch := omega) only [n_lit, n_m1, ok_S, ok_s, ok_N, ok_n, ↓ok_if, ok_A, ok_a, ok_L, ok_l, ok_zn0, ok_zn1, ok_f2, ok_pure, ok_rI, ok_bn0, ok_bn1, ok_rt, ok_riI, ok_rn0, ok_rn1, ok_go, nx_l, nx_r, sS_s, sS_n, sS_a, sS_l, sS_k, aS_s, aS_n, aS_1, aS_l, aS_k, lS_l, lS_1, lS_a, lS_k, nS_s, nS_n, nS_1, nS_a, nS_l, updS, updN, nI_eq, nI_leI, nI_ltI, nI_add, pk_mul, nN_e, nN_e', nN_l, nN_g, nN_le, nN_ge, ite_not, if_true, if_false, not_true_eq_false, not_false_eq_true, Nat.not_lt_zero, Nat.reduceEqDiff, Nat.reduceLT, Nat.reduceLeDiff, Nat.reduceAdd, Nat.zero_le, ite_self, reduceCtorEq, bI_t, bI_f, bI_z, bI_1, ok_bb, if_pos, if_neg, h26]
      refine q S (FrT_rf _) (fun i hi => ?_)
      rcases hc i hi with z | ⟨x, z, _⟩
      · exact z
      · cases z
    · exfalso
      rw [List.concat_eq_append] at h
      subst h
      rw [muT_app] at hj
      have hx := hK x (by simp)
      have e1 : muT W N [x] = W x.1 * (N - x.1) := by
        unfold muT
        simp
      have : 0 < W x.1 * (N - x.1) := Nat.mul_pos hx.2.1 (by have := hx.1; omega)
      omega
  | succ j ih =>
    intro ts S hj hM hT hK hs hc q
    rcases List.eq_nil_or_concat ts with h | ⟨ts', x, h⟩
    · subst h
      have h26 : S.1 26 = nI 0 := hT.1
      refine ok_fix ?_
      show okS k_Md_compile_192 S _
      unfold k_Md_compile_192
      simp (disch := omega) only [n_lit, n_m1, ok_S, ok_s, ok_N, ok_n, ↓ok_if, ok_A, ok_a, ok_L, ok_l, ok_zn0, ok_zn1, ok_f2, ok_pure, ok_rI, ok_bn0, ok_bn1, ok_rt, ok_riI, ok_rn0, ok_rn1, ok_go, nx_l, nx_r, sS_s, sS_n, sS_a, sS_l, sS_k, aS_s, aS_n, aS_1, aS_l, aS_k, lS_l, lS_1, lS_a, lS_k, nS_s, nS_n, nS_1, nS_a, nS_l, updS, updN, nI_eq, nI_leI, nI_ltI, nI_add, pk_mul, nN_e, nN_e', nN_l, nN_g, nN_le, nN_ge, ite_not, if_true, if_false, not_true_eq_false, not_false_eq_true, Nat.not_lt_zero, Nat.reduceEqDiff, Nat.reduceLT, Nat.reduceLeDiff, Nat.reduceAdd, Nat.zero_le, ite_self, reduceCtorEq, bI_t, bI_f, bI_z, bI_1, ok_bb, if_pos, if_neg, h26]
      refine q S (FrT_rf _) (fun i hi => ?_)
      rcases hc i hi with z | ⟨x, z, _⟩
      · exact z
      · cases z
    · rw [List.concat_eq_append] at h
      subst h
      obtain ⟨xn, xa⟩ := x
      obtain ⟨x1, x2, x3, x4⟩ := hK (xn, xa) (by simp)
      have hb : ∀ y ∈ ts', 0 < W y.1 := fun y hy => (hK y (by simp [hy])).2.1
      rw [sumT_app] at hs
      have es : sumT W [(xn, xa)] = W xn := by
        unfold sumT
        simp
      rw [es] at hs
      have hlen := sumT_len (W := W) (ts := ts') hb
      have ll : (ts' ++ [(xn, xa)]).length = ts'.length + 1 := by simp
      have h26 := hT.1
      rw [ll] at h26
      have hv := hT.2 ts'.length (by omega)
      have e18 : S.2.1 18 ts'.length = nI xn := by
        rw [hv.1]
        simp
      have e19 : S.2.1 19 ts'.length = nI xa := by
        rw [hv.2]
        simp
      refine ok_fix ?_
      show okS k_Md_compile_192 S _
      unfold k_Md_compile_192
      simp (disch := omega) only [n_lit, n_m1, ok_S, ok_s, ok_N, ok_n, ↓ok_if, ok_A, ok_a, ok_L, ok_l, ok_zn0, ok_zn1, ok_f2, ok_pure, ok_rI, ok_bn0, ok_bn1, ok_rt, ok_riI, ok_rn0, ok_rn1, ok_go, nx_l, nx_r, sS_s, sS_n, sS_a, sS_l, sS_k, aS_s, aS_n, aS_1, aS_l, aS_k, lS_l, lS_1, lS_a, lS_k, nS_s, nS_n, nS_1, nS_a, nS_l, updS, updN, nI_eq, nI_leI, nI_ltI, nI_add, pk_mul, nN_e, nN_e', nN_l, nN_g, nN_le, nN_ge, ite_not, if_true, if_false, not_true_eq_false, not_false_eq_true, Nat.not_lt_zero, Nat.reduceEqDiff, Nat.reduceLT, Nat.reduceLeDiff, Nat.reduceAdd, Nat.zero_le, ite_self, reduceCtorEq, bI_t, bI_f, bI_z, bI_1, ok_bb, if_pos, if_neg, h26, pk_sub, Nat.add_sub_cancel, e18, e19]
      have hM1 : MX t W N (sS S 26 (nI ts'.length)) := MX_fr hM (FrT_s _ _)
      have hT1 : TI (sS S 26 (nI ts'.length)) ts' := by
        refine ⟨sS_s, fun i hi => ?_⟩
        have := hT.2 i (by omega)
        rw [List.getElem_append_left hi] at this
        exact this
      refine ok_C (ok_mono (e_wnode (L := L) (X := X) hM1 hS hg hu x1 hN hL2 hT1 hb (by omega) x4 x3) ?_)
      rintro _ S2 ⟨nw, p1, p2, p3, p4, p5, p6⟩
      simp (disch := omega) only [n_lit, n_m1, ok_S, ok_s, ok_N, ok_n, ↓ok_if, ok_A, ok_a, ok_L, ok_l, ok_zn0, ok_zn1, ok_f2, ok_pure, ok_rI, ok_bn0, ok_bn1, ok_rt, ok_riI, ok_rn0, ok_rn1, ok_go, nx_l, nx_r, sS_s, sS_n, sS_a, sS_l, sS_k, aS_s, aS_n, aS_1, aS_l, aS_k, lS_l, lS_1, lS_a, lS_k, nS_s, nS_n, nS_1, nS_a, nS_l, updS, updN, nI_eq, nI_leI, nI_ltI, nI_add, pk_mul, nN_e, nN_e', nN_l, nN_g, nN_le, nN_ge, ite_not, if_true, if_false, not_true_eq_false, not_false_eq_true, Nat.not_lt_zero, Nat.reduceEqDiff, Nat.reduceLT, Nat.reduceLeDiff, Nat.reduceAdd, Nat.zero_le, ite_self, reduceCtorEq, bI_t, bI_f, bI_z, bI_1, ok_bb, if_pos, if_neg]
      refine ih (ts' ++ nw) S2 ?_ (MX_fr hM1 p2) p1 (fun y hy => ?_) ?_ (fun i hi => ?_) (fun S' f' c' => q S' (FrT_tr f' (FrT_tr p2 (FrT_s _ _))) c')
      · rw [muT_app] at hj ⊢
        have e1 : muT W N [(xn, xa)] = W xn * (N - xn) := by
          unfold muT
          simp
        rw [e1] at hj
        have m1 := muT_lt (W := W) (N := N) (n := xn) nw (fun y hy => (p4 y hy).2)
        have m2 : sumT W nw * (N - xn - 1) ≤ W xn * (N - xn - 1) := Nat.mul_le_mul (by omega) (Nat.le_refl _)
        have m3 : W xn * (N - xn) = W xn * (N - xn - 1) + W xn := by
          have x1' : xn < N := x1
          have : N - xn = (N - xn - 1) + 1 := by omega
          conv => lhs; rw [this, Nat.mul_add]
          omega
        have x2' : 0 < W xn := x2
        omega
      · rw [List.mem_append] at hy
        rcases hy with z | z
        · exact hK y (by simp [z])
        · exact (p4 y z).1
      · rw [sumT_app]
        omega
      · rcases hc i hi with z | ⟨y, z1, z2⟩
        · exact Or.inl (p3 i z)
        · rw [List.mem_append] at z1
          rcases z1 with z1 | z1
          · exact Or.inr ⟨y, by simp [z1], z2⟩
          · have : y = (xn, xa) := by simpa using z1
            subst this
            rcases p6 i z2.1 z2.2 with z | ⟨y, y1, y2⟩
            · exact Or.inl z
            · exact Or.inr ⟨y, by simp [y1], y2⟩
end TN
