/-! READING: the reference's other turns -/
def sOpen (c : Nat → Nat) (p g d : Nat) : Nat ⊕ (Nat × Nat) := if d = 8 then .inl p else if c (p + 1) = 63 then (if c (p + 1 + 1) = 58 then .inr (p + 1 + 1 + 1, 0) else .inl (p + 1 + 1)) else if g = 6 then .inl (p + 1) else .inr (p + 1, g + 1)
def tOp (t : Nat → ND) (N w num : Nat) : Nat → ND := tN (tN (tU (tN (tN t N w 2) (N + 1) N 4) (N + 1) (4, [], num, 0, 0, 0, N)) (N + 1 + 1) (N + 1) 0) (N + 1 + 1 + 1) (N + 1 + 1) 1
theorem FrZ_s {f0 : Nat} (h : f0 = 14 ∨ f0 = 15 ∨ f0 = 19) (S : qSt) (v : Int32) : FrZ S (sS S f0 v) := ⟨rfl, fun f _ a b c _ => sS_n (by omega), fun f _ => rfl⟩
theorem FrZ_a {f0 : Nat} (h : f0 = 11 ∨ f0 = 12 ∨ f0 = 13 ∨ f0 = 6) (S : qSt) (l : Nat → Int32) : FrZ S (aS S f0 l) := ⟨rfl, fun f _ _ _ _ _ => rfl, fun f hf => aS_n (by omega)⟩
section MT
variable {SM : qSt} {len p u g N d w c : Nat} {tx : Nat → Nat} {t : Nat → ND} {B : MBf}
theorem MH_N {S' : qSt} {t' : Nat → ND} {N' : Nat} (hM : MH SM len tx p u g N d t B) (f : FrN SM S') (h4 : S'.1 4 = nI N') (hR : RT S' t' N') : MH S' len tx p u g N' d t' B := by
  obtain ⟨m1, m2, m3, m4, m5, m6, m7, m8⟩ := hM
  refine ⟨⟨m1.1, (f.2.1 1 (by omega)).trans m1.2.1, fun i hi => by rw [f.2.2 1 (by omega)]; exact m1.2.2 i hi⟩, (f.2.1 14 (by omega)).trans m2, (f.2.1 15 (by omega)).trans m3, (f.2.1 19 (by omega)).trans m4, (f.2.1 20 (by omega)).trans m5, h4, ?_, hR⟩
  rw [f.2.2 14 (by omega)]
  exact m7
theorem MH_14 {q : Nat} (hM : MH SM len tx p u g N d t B) : MH (sS SM 14 (nI q)) len tx q u g N d t B := by
  obtain ⟨m1, m2, m3, m4, m5, m6, m7, m8⟩ := hM
  exact ⟨⟨m1.1, (sS_n (by omega)).trans m1.2.1, m1.2.2⟩, sS_s, (sS_n (by omega)).trans m3, (sS_n (by omega)).trans m4, (sS_n (by omega)).trans m5, (sS_n (by omega)).trans m6, m7, RT_fr m8 (fun f _ _ => rfl)⟩
theorem MH_15 {q : Nat} (hM : MH SM len tx p u g N d t B) : MH (sS SM 15 (nI q)) len tx p u g N q t B := by
  obtain ⟨m1, m2, m3, m4, m5, m6, m7, m8⟩ := hM
  exact ⟨⟨m1.1, (sS_n (by omega)).trans m1.2.1, m1.2.2⟩, (sS_n (by omega)).trans m2, sS_s, (sS_n (by omega)).trans m4, (sS_n (by omega)).trans m5, (sS_n (by omega)).trans m6, m7, RT_fr m8 (fun f _ _ => rfl)⟩
theorem MH_19 {q : Nat} (hM : MH SM len tx p u g N d t B) : MH (sS SM 19 (nI q)) len tx p u q N d t B := by
  obtain ⟨m1, m2, m3, m4, m5, m6, m7, m8⟩ := hM
  exact ⟨⟨m1.1, (sS_n (by omega)).trans m1.2.1, m1.2.2⟩, (sS_n (by omega)).trans m2, (sS_n (by omega)).trans m3, sS_s, (sS_n (by omega)).trans m5, (sS_n (by omega)).trans m6, m7, RT_fr m8 (fun f _ _ => rfl)⟩
theorem MH_st {f : Nat} {l : Nat → Int32} (hf : f = 11 ∨ f = 12 ∨ f = 13) (hM : MH SM len tx p u g N d t B) : MH (aS SM f l) len tx p u g N d t B := by
  obtain ⟨m1, m2, m3, m4, m5, m6, m7, m8⟩ := hM
  refine ⟨⟨m1.1, m1.2.1, fun i hi => ?_⟩, m2, m3, m4, m5, m6, ?_, RT_fr m8 (fun j _ _ => aS_n (by omega))⟩
  · rw [aS_n (show 1 ≠ f by omega)]; exact m1.2.2 i hi
  · rw [aS_n (show 14 ≠ f by omega)]; exact m7
theorem m_bar (hM : MH SM len tx p u g N d t B) (hd : d ≤ 8) (h12 : SM.2.1 12 d = nI c) (hc : c < N) (hN : N < 218) (x : pe len tx p = 124) : okS k_Md_read_49 SM (fun r S' => FrZ SM S' ∧ r = .inl (49, [], []) ∧ MH S' len tx (p + 1) u g (N + 1) d (tN t N c 1) B ∧ S'.2.1 11 = SM.2.1 11 ∧ S'.2.1 12 = SM.2.1 12 ∧ S'.2.1 13 = upd (SM.2.1 13) d (nI N)) := by
  have hl := pm_len (show pe len tx p ≠ 0 by omega)
  have m1 := hM.1
  have hlen := m1.2.1
  have hl48 := m1.1
  unfold k_Md_read_49
  simp (disch := omega) only [n_lit, n_m1, ok_S, ok_s, ok_N, ok_n, ↓ok_if, ok_A, ok_a, ok_L, ok_l, ok_zn0, ok_zn1, ok_f2, ok_pure, ok_rI, ok_bn0, ok_bn1, ok_rt, ok_riI, ok_rn0, ok_rn1, ok_go, nx_l, nx_r, sS_s, sS_n, sS_a, sS_l, sS_k, aS_s, aS_n, aS_1, aS_l, aS_k, lS_l, lS_1, lS_a, lS_k, nS_s, nS_n, nS_1, nS_a, nS_l, updS, updN, nI_eq, nI_leI, nI_ltI, nI_add, pk_mul, nN_e, nN_e', nN_l, nN_g, nN_le, nN_ge, ite_not, if_true, if_false, not_true_eq_false, not_false_eq_true, Nat.not_lt_zero, Nat.reduceEqDiff, Nat.reduceLT, Nat.reduceLeDiff, Nat.reduceAdd, Nat.zero_le, ite_self, reduceCtorEq, bI_t, bI_f, bI_z, bI_1, ok_bb, if_pos, if_neg, hM.2.1, hlen]
  refine ok_C (e_hereR m1 (by omega) ?_)
  simp (disch := omega) only [n_lit, n_m1, ok_S, ok_s, ok_N, ok_n, ↓ok_if, ok_A, ok_a, ok_L, ok_l, ok_zn0, ok_zn1, ok_f2, ok_pure, ok_rI, ok_bn0, ok_bn1, ok_rt, ok_riI, ok_rn0, ok_rn1, ok_go, nx_l, nx_r, sS_s, sS_n, sS_a, sS_l, sS_k, aS_s, aS_n, aS_1, aS_l, aS_k, lS_l, lS_1, lS_a, lS_k, nS_s, nS_n, nS_1, nS_a, nS_l, updS, updN, nI_eq, nI_leI, nI_ltI, nI_add, pk_mul, nN_e, nN_e', nN_l, nN_g, nN_le, nN_ge, ite_not, if_true, if_false, not_true_eq_false, not_false_eq_true, Nat.not_lt_zero, Nat.reduceEqDiff, Nat.reduceLT, Nat.reduceLeDiff, Nat.reduceAdd, Nat.zero_le, ite_self, reduceCtorEq, bI_t, bI_f, bI_z, bI_1, ok_bb, if_pos, if_neg, x, hM.2.1, hM.2.2.1, h12]
  have h1 := @MH_14 SM len p u g N d tx t B (p + 1) hM
  refine ok_C (e_node h1.2.2.2.2.2.2.2 h1.2.2.2.2.2.1 (by omega) hc (by decide) fun S1 f1 a1 r1 => ?_)
  have h2 := MH_N h1 f1 a1 r1
  simp (disch := omega) only [n_lit, n_m1, ok_S, ok_s, ok_N, ok_n, ↓ok_if, ok_A, ok_a, ok_L, ok_l, ok_zn0, ok_zn1, ok_f2, ok_pure, ok_rI, ok_bn0, ok_bn1, ok_rt, ok_riI, ok_rn0, ok_rn1, ok_go, nx_l, nx_r, sS_s, sS_n, sS_a, sS_l, sS_k, aS_s, aS_n, aS_1, aS_l, aS_k, lS_l, lS_1, lS_a, lS_k, nS_s, nS_n, nS_1, nS_a, nS_l, updS, updN, nI_eq, nI_leI, nI_ltI, nI_add, pk_mul, nN_e, nN_e', nN_l, nN_g, nN_le, nN_ge, ite_not, if_true, if_false, not_true_eq_false, not_false_eq_true, Nat.not_lt_zero, Nat.reduceEqDiff, Nat.reduceLT, Nat.reduceLeDiff, Nat.reduceAdd, Nat.zero_le, ite_self, reduceCtorEq, bI_t, bI_f, bI_z, bI_1, ok_bb, if_pos, if_neg]
  refine ⟨FrZ_tr (FrZ_a (by omega) _ _) (FrZ_tr (FrZ_N f1) (FrZ_s (by omega) _ _)), trivial, MH_st (by omega) h2, ?_, ?_, ?_⟩
  · exact f1.2.2 11 (by omega)
  · exact f1.2.2 12 (by omega)
  · rw [f1.2.2 13 (by omega)]
    rfl
theorem m_end (hM : MH SM len tx p u g N d t B) (hp : p ≤ 48) (hd : d ≤ 8) (x : pe len tx p = 0) : okS k_Md_read_49 SM (fun r S' => S' = SM ∧ r = .inr (if d = 0 then nI 1 else nI 0)) := by
  have m1 := hM.1
  have hlen := m1.2.1
  have hl48 := m1.1
  have hl : len ≤ p := by
    apply Classical.byContradiction
    intro q
    unfold pe at x
    rw [if_pos (by omega)] at x
    have := m1.2.2 p (by omega)
    omega
  unfold k_Md_read_49
  by_cases h0 : d = 0
  · subst h0
    simp (disch := omega) only [n_lit, n_m1, ok_S, ok_s, ok_N, ok_n, ↓ok_if, ok_A, ok_a, ok_L, ok_l, ok_zn0, ok_zn1, ok_f2, ok_pure, ok_rI, ok_bn0, ok_bn1, ok_rt, ok_riI, ok_rn0, ok_rn1, ok_go, nx_l, nx_r, sS_s, sS_n, sS_a, sS_l, sS_k, aS_s, aS_n, aS_1, aS_l, aS_k, lS_l, lS_1, lS_a, lS_k, nS_s, nS_n, nS_1, nS_a, nS_l, updS, updN, nI_eq, nI_leI, nI_ltI, nI_add, pk_mul, nN_e, nN_e', nN_l, nN_g, nN_le, nN_ge, ite_not, if_true, if_false, not_true_eq_false, not_false_eq_true, Nat.not_lt_zero, Nat.reduceEqDiff, Nat.reduceLT, Nat.reduceLeDiff, Nat.reduceAdd, Nat.zero_le, ite_self, reduceCtorEq, bI_t, bI_f, bI_z, bI_1, ok_bb, if_pos, if_neg, hM.2.1, hlen, hM.2.2.1]
    exact ⟨trivial, trivial⟩
  · simp (disch := omega) only [n_lit, n_m1, ok_S, ok_s, ok_N, ok_n, ↓ok_if, ok_A, ok_a, ok_L, ok_l, ok_zn0, ok_zn1, ok_f2, ok_pure, ok_rI, ok_bn0, ok_bn1, ok_rt, ok_riI, ok_rn0, ok_rn1, ok_go, nx_l, nx_r, sS_s, sS_n, sS_a, sS_l, sS_k, aS_s, aS_n, aS_1, aS_l, aS_k, lS_l, lS_1, lS_a, lS_k, nS_s, nS_n, nS_1, nS_a, nS_l, updS, updN, nI_eq, nI_leI, nI_ltI, nI_add, pk_mul, nN_e, nN_e', nN_l, nN_g, nN_le, nN_ge, ite_not, if_true, if_false, not_true_eq_false, not_false_eq_true, Nat.not_lt_zero, Nat.reduceEqDiff, Nat.reduceLT, Nat.reduceLeDiff, Nat.reduceAdd, Nat.zero_le, ite_self, reduceCtorEq, bI_t, bI_f, bI_z, bI_1, ok_bb, if_pos, if_neg, hM.2.1, hlen, hM.2.2.1, h0]
    exact ⟨trivial, trivial⟩
theorem m_close {r : Nat} (hM : MH SM len tx p u g N (d + 1) t B) (hd : d ≤ 7) (h11 : SM.2.1 11 (d + 1) = nI r) (hr : r < N) (hN : N ≤ 220) (x : pe len tx p = 41) (ht : (t r).2.2.1 = 0 ∧ (t r).2.2.2.1 = 0 ∧ (t r).2.2.2.2.1 = 0 ∧ (t r).2.2.2.2.2.1 = 0) : okS k_Md_read_49 SM (fun x S' => FrZ SM S' ∧ (match sCount (pe len tx) (p + 1) with
    | .inl e => x = .inr (nI 0) ∧ S'.1 14 = nI e
    | .inr (q2, how, le, mo, lz) => x = .inl (49, [], []) ∧ MH S' len tx q2 u g N d (tU t r ((t r).1, (t r).2.1, how, le, mo, lz, (t r).2.2.2.2.2.2)) B ∧ S'.2.1 11 = SM.2.1 11 ∧ S'.2.1 12 = SM.2.1 12 ∧ S'.2.1 13 = SM.2.1 13)) := by
  have hl := pm_len (show pe len tx p ≠ 0 by omega)
  have m1 := hM.1
  have hlen := m1.2.1
  have hl48 := m1.1
  unfold k_Md_read_49
  simp (disch := omega) only [n_lit, n_m1, ok_S, ok_s, ok_N, ok_n, ↓ok_if, ok_A, ok_a, ok_L, ok_l, ok_zn0, ok_zn1, ok_f2, ok_pure, ok_rI, ok_bn0, ok_bn1, ok_rt, ok_riI, ok_rn0, ok_rn1, ok_go, nx_l, nx_r, sS_s, sS_n, sS_a, sS_l, sS_k, aS_s, aS_n, aS_1, aS_l, aS_k, lS_l, lS_1, lS_a, lS_k, nS_s, nS_n, nS_1, nS_a, nS_l, updS, updN, nI_eq, nI_leI, nI_ltI, nI_add, pk_mul, nN_e, nN_e', nN_l, nN_g, nN_le, nN_ge, ite_not, if_true, if_false, not_true_eq_false, not_false_eq_true, Nat.not_lt_zero, Nat.reduceEqDiff, Nat.reduceLT, Nat.reduceLeDiff, Nat.reduceAdd, Nat.zero_le, ite_self, reduceCtorEq, bI_t, bI_f, bI_z, bI_1, ok_bb, if_pos, if_neg, hM.2.1, hlen]
  refine ok_C (e_hereR m1 (by omega) ?_)
  simp (disch := omega) only [n_lit, n_m1, ok_S, ok_s, ok_N, ok_n, ↓ok_if, ok_A, ok_a, ok_L, ok_l, ok_zn0, ok_zn1, ok_f2, ok_pure, ok_rI, ok_bn0, ok_bn1, ok_rt, ok_riI, ok_rn0, ok_rn1, ok_go, nx_l, nx_r, sS_s, sS_n, sS_a, sS_l, sS_k, aS_s, aS_n, aS_1, aS_l, aS_k, lS_l, lS_1, lS_a, lS_k, nS_s, nS_n, nS_1, nS_a, nS_l, updS, updN, nI_eq, nI_leI, nI_ltI, nI_add, pk_mul, nN_e, nN_e', nN_l, nN_g, nN_le, nN_ge, ite_not, if_true, if_false, not_true_eq_false, not_false_eq_true, Nat.not_lt_zero, Nat.reduceEqDiff, Nat.reduceLT, Nat.reduceLeDiff, Nat.reduceAdd, Nat.zero_le, ite_self, reduceCtorEq, bI_t, bI_f, bI_z, bI_1, ok_bb, if_pos, if_neg, x, hM.2.1, hM.2.2.1, pk_sub]
  have e1 : d + 1 - 1 + 1 = d + 1 := by omega
  have e2 : d + 1 - 1 = d := by omega
  simp only [e1, e2, h11]
  have h1 := @MH_15 _ len (p + 1) u g N (d + 1) tx t B d (@MH_14 SM len p u g N (d + 1) tx t B (p + 1) hM)
  refine ok_C (ok_mono (e_mcount h1.2.2.2.2.2.2.2 hr hN h1.1 h1.2.1 (by omega) ht) ?_)
  intro v S3 hP
  unfold PoCt at hP
  have f0 : FrZ SM (sS (sS SM 14 (nI (p + 1))) 15 (nI d)) := ⟨rfl, fun f _ a b _ _ => (sS_n b).trans (sS_n a), fun f _ => rfl⟩
  cases hy : sCount (pe len tx) (p + 1) with
  | inl e =>
    rw [hy] at hP
    obtain ⟨f3, rfl, b7⟩ := hP
    simp (disch := omega) only [n_lit, n_m1, ok_S, ok_s, ok_N, ok_n, ↓ok_if, ok_A, ok_a, ok_L, ok_l, ok_zn0, ok_zn1, ok_f2, ok_pure, ok_rI, ok_bn0, ok_bn1, ok_rt, ok_riI, ok_rn0, ok_rn1, ok_go, nx_l, nx_r, sS_s, sS_n, sS_a, sS_l, sS_k, aS_s, aS_n, aS_1, aS_l, aS_k, lS_l, lS_1, lS_a, lS_k, nS_s, nS_n, nS_1, nS_a, nS_l, updS, updN, nI_eq, nI_leI, nI_ltI, nI_add, pk_mul, nN_e, nN_e', nN_l, nN_g, nN_le, nN_ge, ite_not, if_true, if_false, not_true_eq_false, not_false_eq_true, Nat.not_lt_zero, Nat.reduceEqDiff, Nat.reduceLT, Nat.reduceLeDiff, Nat.reduceAdd, Nat.zero_le, ite_self, reduceCtorEq, bI_t, bI_f, bI_z, bI_1, ok_bb, if_pos, if_neg]
    exact ⟨FrZ_tr (FrZ_J f3) f0, trivial, b7⟩
  | inr z =>
    obtain ⟨q2, how, le, mo, lz⟩ := z
    rw [hy] at hP
    obtain ⟨f3, rfl, b7, b8⟩ := hP
    simp (disch := omega) only [n_lit, n_m1, ok_S, ok_s, ok_N, ok_n, ↓ok_if, ok_A, ok_a, ok_L, ok_l, ok_zn0, ok_zn1, ok_f2, ok_pure, ok_rI, ok_bn0, ok_bn1, ok_rt, ok_riI, ok_rn0, ok_rn1, ok_go, nx_l, nx_r, sS_s, sS_n, sS_a, sS_l, sS_k, aS_s, aS_n, aS_1, aS_l, aS_k, lS_l, lS_1, lS_a, lS_k, nS_s, nS_n, nS_1, nS_a, nS_l, updS, updN, nI_eq, nI_leI, nI_ltI, nI_add, pk_mul, nN_e, nN_e', nN_l, nN_g, nN_le, nN_ge, ite_not, if_true, if_false, not_true_eq_false, not_false_eq_true, Nat.not_lt_zero, Nat.reduceEqDiff, Nat.reduceLT, Nat.reduceLeDiff, Nat.reduceAdd, Nat.zero_le, ite_self, reduceCtorEq, bI_t, bI_f, bI_z, bI_1, ok_bb, if_pos, if_neg]
    refine ⟨FrZ_tr (FrZ_J f3) f0, trivial, ⟨TxM_K h1.1 f3, b7, ?_, ?_, ?_, ?_, ?_, b8⟩, ?_, ?_, ?_⟩
    · exact (f3.2.1 15 (by omega)).trans h1.2.2.1
    · exact (f3.2.1 19 (by omega)).trans h1.2.2.2.1
    · exact (f3.2.1 20 (by omega)).trans h1.2.2.2.2.1
    · exact (f3.2.1 4 (by omega)).trans h1.2.2.2.2.2.1
    · rw [f3.2.2.1 14 (by omega)]; exact h1.2.2.2.2.2.2.1
    · exact f3.2.2.1 11 (by omega)
    · exact f3.2.2.1 12 (by omega)
    · exact f3.2.2.1 13 (by omega)
theorem tN_new {ab what : Nat} (h : ab < N) : tN t N ab what N = (what, [], 0, 0, 0, 0, ab) := by
  unfold tN
  rw [tU_n (by omega), tU_s]
theorem m_op94 {pl num : Nat} {Q : Int32 → qSt → Prop} (hM : MH SM len tx p u g N d t B) (hd : d < 8) (hg : g ≤ 6) (hw : w < N) (hN : N < 214) (hp : (pl = 1 ∧ num = 0) ∨ (pl = 0 ∧ num = g + 1)) (k : ∀ S', FrZ SM S' → MH S' len tx p u (if pl = 0 then g + 1 else g) (N + 1 + 1 + 1 + 1) (d + 1) (tOp t N w num) B → S'.2.1 11 = upd (SM.2.1 11) (d + 1) (nI N) → S'.2.1 12 = upd (SM.2.1 12) (d + 1) (nI (N + 1 + 1)) → S'.2.1 13 = upd (SM.2.1 13) (d + 1) (nI (N + 1 + 1 + 1)) → Q (nI 1) S') : okS (k_Md_open_94 (nI w) (nI pl)) SM Q := by
  unfold k_Md_open_94
  simp (disch := omega) only [n_lit, n_m1, ok_S, ok_s, ok_N, ok_n, ↓ok_if, ok_A, ok_a, ok_L, ok_l, ok_zn0, ok_zn1, ok_f2, ok_pure, ok_rI, ok_bn0, ok_bn1, ok_rt, ok_riI, ok_rn0, ok_rn1, ok_go, nx_l, nx_r, sS_s, sS_n, sS_a, sS_l, sS_k, aS_s, aS_n, aS_1, aS_l, aS_k, lS_l, lS_1, lS_a, lS_k, nS_s, nS_n, nS_1, nS_a, nS_l, updS, updN, nI_eq, nI_leI, nI_ltI, nI_add, pk_mul, nN_e, nN_e', nN_l, nN_g, nN_le, nN_ge, ite_not, if_true, if_false, not_true_eq_false, not_false_eq_true, Nat.not_lt_zero, Nat.reduceEqDiff, Nat.reduceLT, Nat.reduceLeDiff, Nat.reduceAdd, Nat.zero_le, ite_self, reduceCtorEq, bI_t, bI_f, bI_z, bI_1, ok_bb, if_pos, if_neg, hM.2.2.1]
  have h1 := @MH_15 SM len p u g N d tx t B (d + 1) hM
  refine ok_C (e_node h1.2.2.2.2.2.2.2 h1.2.2.2.2.2.1 (by omega) hw (by decide) fun S1 f1 a1 r1 => ?_)
  have h2 := MH_N h1 f1 a1 r1
  simp (disch := omega) only [n_lit, n_m1, ok_S, ok_s, ok_N, ok_n, ↓ok_if, ok_A, ok_a, ok_L, ok_l, ok_zn0, ok_zn1, ok_f2, ok_pure, ok_rI, ok_bn0, ok_bn1, ok_rt, ok_riI, ok_rn0, ok_rn1, ok_go, nx_l, nx_r, sS_s, sS_n, sS_a, sS_l, sS_k, aS_s, aS_n, aS_1, aS_l, aS_k, lS_l, lS_1, lS_a, lS_k, nS_s, nS_n, nS_1, nS_a, nS_l, updS, updN, nI_eq, nI_leI, nI_ltI, nI_add, pk_mul, nN_e, nN_e', nN_l, nN_g, nN_le, nN_ge, ite_not, if_true, if_false, not_true_eq_false, not_false_eq_true, Nat.not_lt_zero, Nat.reduceEqDiff, Nat.reduceLT, Nat.reduceLeDiff, Nat.reduceAdd, Nat.zero_le, ite_self, reduceCtorEq, bI_t, bI_f, bI_z, bI_1, ok_bb, if_pos, if_neg, h2.2.2.1]
  have h3 := @MH_st S1 len p u g (N + 1) (d + 1) tx _ B 11 (upd (S1.2.1 11) (d + 1) (nI N)) (by omega) h2
  refine ok_C (e_node h3.2.2.2.2.2.2.2 h3.2.2.2.2.2.1 (by omega) (Nat.lt_succ_self N) (by decide) fun S2 f2 a2 r2 => ?_)
  have h4 := MH_N h3 f2 a2 r2
  have e41 := @tN_new (N + 1) (tN t N w 2) N 4 (Nat.lt_succ_self N)
  generalize hg' : (if pl = 0 then g + 1 else g) = g' at k
  -- the group's number
  have num1 : okS (k_Md_open_172 (nI (N + 1)) (nI num) (nI (N + 1))) (sS S2 19 (nI g')) Q := by
    have h5 := @MH_19 S2 len p u g (N + 1 + 1) (d + 1) tx _ B g' h4
    unfold k_Md_open_172
    simp (disch := omega) only [n_lit, n_m1, ok_S, ok_s, ok_N, ok_n, ↓ok_if, ok_A, ok_a, ok_L, ok_l, ok_zn0, ok_zn1, ok_f2, ok_pure, ok_rI, ok_bn0, ok_bn1, ok_rt, ok_riI, ok_rn0, ok_rn1, ok_go, nx_l, nx_r, sS_s, sS_n, sS_a, sS_l, sS_k, aS_s, aS_n, aS_1, aS_l, aS_k, lS_l, lS_1, lS_a, lS_k, nS_s, nS_n, nS_1, nS_a, nS_l, updS, updN, nI_eq, nI_leI, nI_ltI, nI_add, pk_mul, nN_e, nN_e', nN_l, nN_g, nN_le, nN_ge, ite_not, if_true, if_false, not_true_eq_false, not_false_eq_true, Nat.not_lt_zero, Nat.reduceEqDiff, Nat.reduceLT, Nat.reduceLeDiff, Nat.reduceAdd, Nat.zero_le, ite_self, reduceCtorEq, bI_t, bI_f, bI_z, bI_1, ok_bb, if_pos, if_neg, h4.2.2.1]
    generalize hS3 : aS (sS S2 19 (nI g')) 6 (upd (S2.2.1 6) (N + 1) (nI num)) = S3
    have h6 : MH S3 len tx p u g' (N + 1 + 1) (d + 1) (tU (tN (tN t N w 2) (N + 1) N 4) (N + 1) (4, [], num, 0, 0, 0, N)) B := by
      obtain ⟨m1, m2, m3, m4, m5, m6, m7, m8⟩ := h5
      have z := (m8 (N + 1) (by omega)).1
      rw [e41] at z
      obtain ⟨z1, z2, z3, z4, z5, z6, z7, z8⟩ := z
      refine ⟨⟨m1.1, ?_, fun i hi => ?_⟩, ?_, ?_, ?_, ?_, ?_, ?_, ?_⟩
      · rw [← hS3]; exact m1.2.1
      · rw [← hS3]; exact m1.2.2 i hi
      · rw [← hS3]; exact m2
      · rw [← hS3]; exact m3
      · rw [← hS3]; exact m4
      · rw [← hS3]; exact m5
      · rw [← hS3]; exact m6
      · rw [← hS3, aS_n (by omega)]; exact m7
      · have := @RT_set (sS S2 19 (nI g')) S3 (tN (tN t N w 2) (N + 1) N 4) (N + 1 + 1) (N + 1) num 0 0 0 m8 (by omega) (fun f hf => by rw [← hS3]; exact aS_n (by omega)) (fun f m hf hm => by
          rw [← hS3]
          by_cases h6 : f = 6
          · subst h6
            rw [aS_s, updN hm]
            rfl
          · rw [aS_n h6]) (by
          rw [← hS3]
          exact ⟨by rw [aS_s, updS], (by rw [aS_n (by omega)]; exact z6), (by rw [aS_n (by omega)]; exact z7), (by rw [aS_n (by omega)]; exact z8)⟩)
        rw [e41] at this
        exact this
    have e5 : S3.1 15 = nI (d + 1) := h6.2.2.1
    have s11 : S3.2.1 11 = upd (SM.2.1 11) (d + 1) (nI N) := by
      rw [← hS3, aS_n (by omega)]
      show S2.2.1 11 = _
      rw [f2.2.2 11 (by omega), aS_s, f1.2.2 11 (by omega)]
      rfl
    have s12 : S3.2.1 12 = SM.2.1 12 := by
      rw [← hS3, aS_n (by omega)]
      show S2.2.1 12 = _
      rw [f2.2.2 12 (by omega), aS_n (by omega), f1.2.2 12 (by omega)]
      rfl
    have s13 : S3.2.1 13 = SM.2.1 13 := by
      rw [← hS3, aS_n (by omega)]
      show S2.2.1 13 = _
      rw [f2.2.2 13 (by omega), aS_n (by omega), f1.2.2 13 (by omega)]
      rfl
    have fz : FrZ SM S3 := by
      rw [← hS3]
      exact FrZ_tr (FrZ_a (by omega) _ _) (FrZ_tr (FrZ_s (by omega) _ _) (FrZ_tr (FrZ_N f2) (FrZ_tr (FrZ_a (by omega) _ _) (FrZ_tr (FrZ_N f1) (FrZ_s (by omega) _ _)))))
    refine ok_C (e_node h6.2.2.2.2.2.2.2 h6.2.2.2.2.2.1 (by omega) (by omega) (by decide) fun S4 f4 a4 r4 => ?_)
    have h7 := MH_N h6 f4 a4 r4
    have h715 := h7.2.2.1
    simp (disch := omega) only [n_lit, n_m1, ok_S, ok_s, ok_N, ok_n, ↓ok_if, ok_A, ok_a, ok_L, ok_l, ok_zn0, ok_zn1, ok_f2, ok_pure, ok_rI, ok_bn0, ok_bn1, ok_rt, ok_riI, ok_rn0, ok_rn1, ok_go, nx_l, nx_r, sS_s, sS_n, sS_a, sS_l, sS_k, aS_s, aS_n, aS_1, aS_l, aS_k, lS_l, lS_1, lS_a, lS_k, nS_s, nS_n, nS_1, nS_a, nS_l, updS, updN, nI_eq, nI_leI, nI_ltI, nI_add, pk_mul, nN_e, nN_e', nN_l, nN_g, nN_le, nN_ge, ite_not, if_true, if_false, not_true_eq_false, not_false_eq_true, Nat.not_lt_zero, Nat.reduceEqDiff, Nat.reduceLT, Nat.reduceLeDiff, Nat.reduceAdd, Nat.zero_le, ite_self, reduceCtorEq, bI_t, bI_f, bI_z, bI_1, ok_bb, if_pos, if_neg, h715]
    have h8 := @MH_st S4 len p u g' (N + 1 + 1 + 1) (d + 1) tx _ B 12 (upd (S4.2.1 12) (d + 1) (nI (N + 1 + 1))) (by omega) h7
    refine ok_C (e_node h8.2.2.2.2.2.2.2 h8.2.2.2.2.2.1 (by omega) (by omega) (by decide) fun S5 f5 a5 r5 => ?_)
    have h9 := MH_N h8 f5 a5 r5
    simp (disch := omega) only [n_lit, n_m1, ok_S, ok_s, ok_N, ok_n, ↓ok_if, ok_A, ok_a, ok_L, ok_l, ok_zn0, ok_zn1, ok_f2, ok_pure, ok_rI, ok_bn0, ok_bn1, ok_rt, ok_riI, ok_rn0, ok_rn1, ok_go, nx_l, nx_r, sS_s, sS_n, sS_a, sS_l, sS_k, aS_s, aS_n, aS_1, aS_l, aS_k, lS_l, lS_1, lS_a, lS_k, nS_s, nS_n, nS_1, nS_a, nS_l, updS, updN, nI_eq, nI_leI, nI_ltI, nI_add, pk_mul, nN_e, nN_e', nN_l, nN_g, nN_le, nN_ge, ite_not, if_true, if_false, not_true_eq_false, not_false_eq_true, Nat.not_lt_zero, Nat.reduceEqDiff, Nat.reduceLT, Nat.reduceLeDiff, Nat.reduceAdd, Nat.zero_le, ite_self, reduceCtorEq, bI_t, bI_f, bI_z, bI_1, ok_bb, if_pos, if_neg]
    refine k _ ?_ (MH_st (by omega) h9) ?_ ?_ ?_
    · exact FrZ_tr (FrZ_a (by omega) _ _) (FrZ_tr (FrZ_N f5) (FrZ_tr (FrZ_a (by omega) _ _) (FrZ_tr (FrZ_N f4) fz)))
    · rw [aS_n (by omega), f5.2.2 11 (by omega), aS_n (by omega), f4.2.2 11 (by omega), s11]
    · rw [aS_n (by omega), f5.2.2 12 (by omega), aS_s, f4.2.2 12 (by omega), s12]
    · rw [aS_s, f5.2.2 13 (by omega), aS_n (by omega), f4.2.2 13 (by omega), s13]
  unfold k_Md_open_152
  rcases hp with ⟨rfl, rfl⟩ | ⟨rfl, rfl⟩
  · rw [if_neg (by omega)] at hg'
    subst hg'
    simp (disch := omega) only [n_lit, n_m1, ok_S, ok_s, ok_N, ok_n, ↓ok_if, ok_A, ok_a, ok_L, ok_l, ok_zn0, ok_zn1, ok_f2, ok_pure, ok_rI, ok_bn0, ok_bn1, ok_rt, ok_riI, ok_rn0, ok_rn1, ok_go, nx_l, nx_r, sS_s, sS_n, sS_a, sS_l, sS_k, aS_s, aS_n, aS_1, aS_l, aS_k, lS_l, lS_1, lS_a, lS_k, nS_s, nS_n, nS_1, nS_a, nS_l, updS, updN, nI_eq, nI_leI, nI_ltI, nI_add, pk_mul, nN_e, nN_e', nN_l, nN_g, nN_le, nN_ge, ite_not, if_true, if_false, not_true_eq_false, not_false_eq_true, Nat.not_lt_zero, Nat.reduceEqDiff, Nat.reduceLT, Nat.reduceLeDiff, Nat.reduceAdd, Nat.zero_le, ite_self, reduceCtorEq, bI_t, bI_f, bI_z, bI_1, ok_bb, if_pos, if_neg, h4.2.2.2.1]
    exact num1
  · rw [if_pos rfl] at hg'
    subst hg'
    simp (disch := omega) only [n_lit, n_m1, ok_S, ok_s, ok_N, ok_n, ↓ok_if, ok_A, ok_a, ok_L, ok_l, ok_zn0, ok_zn1, ok_f2, ok_pure, ok_rI, ok_bn0, ok_bn1, ok_rt, ok_riI, ok_rn0, ok_rn1, ok_go, nx_l, nx_r, sS_s, sS_n, sS_a, sS_l, sS_k, aS_s, aS_n, aS_1, aS_l, aS_k, lS_l, lS_1, lS_a, lS_k, nS_s, nS_n, nS_1, nS_a, nS_l, updS, updN, nI_eq, nI_leI, nI_ltI, nI_add, pk_mul, nN_e, nN_e', nN_l, nN_g, nN_le, nN_ge, ite_not, if_true, if_false, not_true_eq_false, not_false_eq_true, Nat.not_lt_zero, Nat.reduceEqDiff, Nat.reduceLT, Nat.reduceLeDiff, Nat.reduceAdd, Nat.zero_le, ite_self, reduceCtorEq, bI_t, bI_f, bI_z, bI_1, ok_bb, if_pos, if_neg, h4.2.2.2.1]
    exact num1
theorem m_open (hM : MH SM len tx p u g N d t B) (hB : NB p u g N d) (h13 : SM.2.1 13 d = nI w) (hw : w < N) (hN : N < 214) (x : pe len tx p = 40) : okS k_Md_read_49 SM (fun r S' => FrZ SM S' ∧ (match sOpen (pe len tx) p g d with
    | .inl e => r = .inr (nI 0) ∧ S'.1 14 = nI e
    | .inr (q, num) => r = .inl (49, [], []) ∧ MH S' len tx q u (if num = 0 then g else g + 1) (N + 1 + 1 + 1 + 1) (d + 1) (tOp t N w num) B ∧ S'.2.1 11 = upd (SM.2.1 11) (d + 1) (nI N) ∧ S'.2.1 12 = upd (SM.2.1 12) (d + 1) (nI (N + 1 + 1)) ∧ S'.2.1 13 = upd (SM.2.1 13) (d + 1) (nI (N + 1 + 1 + 1)))) := by
  have hl := pm_len (show pe len tx p ≠ 0 by omega)
  obtain ⟨n1, n2, n3, n4, n5⟩ := hB
  have m1 := hM.1
  have hlen := m1.2.1
  have hl48 := m1.1
  have hb1 := (@pm_le SM len (p + 1) tx m1).1
  have hb2 := (@pm_le SM len (p + 1 + 1) tx m1).1
  unfold k_Md_read_49
  simp (disch := omega) only [n_lit, n_m1, ok_S, ok_s, ok_N, ok_n, ↓ok_if, ok_A, ok_a, ok_L, ok_l, ok_zn0, ok_zn1, ok_f2, ok_pure, ok_rI, ok_bn0, ok_bn1, ok_rt, ok_riI, ok_rn0, ok_rn1, ok_go, nx_l, nx_r, sS_s, sS_n, sS_a, sS_l, sS_k, aS_s, aS_n, aS_1, aS_l, aS_k, lS_l, lS_1, lS_a, lS_k, nS_s, nS_n, nS_1, nS_a, nS_l, updS, updN, nI_eq, nI_leI, nI_ltI, nI_add, pk_mul, nN_e, nN_e', nN_l, nN_g, nN_le, nN_ge, ite_not, if_true, if_false, not_true_eq_false, not_false_eq_true, Nat.not_lt_zero, Nat.reduceEqDiff, Nat.reduceLT, Nat.reduceLeDiff, Nat.reduceAdd, Nat.zero_le, ite_self, reduceCtorEq, bI_t, bI_f, bI_z, bI_1, ok_bb, if_pos, if_neg, hM.2.1, hlen]
  refine ok_C (e_hereR m1 (by omega) ?_)
  simp (disch := omega) only [n_lit, n_m1, ok_S, ok_s, ok_N, ok_n, ↓ok_if, ok_A, ok_a, ok_L, ok_l, ok_zn0, ok_zn1, ok_f2, ok_pure, ok_rI, ok_bn0, ok_bn1, ok_rt, ok_riI, ok_rn0, ok_rn1, ok_go, nx_l, nx_r, sS_s, sS_n, sS_a, sS_l, sS_k, aS_s, aS_n, aS_1, aS_l, aS_k, lS_l, lS_1, lS_a, lS_k, nS_s, nS_n, nS_1, nS_a, nS_l, updS, updN, nI_eq, nI_leI, nI_ltI, nI_add, pk_mul, nN_e, nN_e', nN_l, nN_g, nN_le, nN_ge, ite_not, if_true, if_false, not_true_eq_false, not_false_eq_true, Nat.not_lt_zero, Nat.reduceEqDiff, Nat.reduceLT, Nat.reduceLeDiff, Nat.reduceAdd, Nat.zero_le, ite_self, reduceCtorEq, bI_t, bI_f, bI_z, bI_1, ok_bb, if_pos, if_neg, x, hM.2.2.1, h13]
  unfold sOpen f_Md_open
  refine ok_C ?_
  by_cases h8 : d = 8
  · rw [if_pos h8]
    simp (disch := omega) only [n_lit, n_m1, ok_S, ok_s, ok_N, ok_n, ↓ok_if, ok_A, ok_a, ok_L, ok_l, ok_zn0, ok_zn1, ok_f2, ok_pure, ok_rI, ok_bn0, ok_bn1, ok_rt, ok_riI, ok_rn0, ok_rn1, ok_go, nx_l, nx_r, sS_s, sS_n, sS_a, sS_l, sS_k, aS_s, aS_n, aS_1, aS_l, aS_k, lS_l, lS_1, lS_a, lS_k, nS_s, nS_n, nS_1, nS_a, nS_l, updS, updN, nI_eq, nI_leI, nI_ltI, nI_add, pk_mul, nN_e, nN_e', nN_l, nN_g, nN_le, nN_ge, ite_not, if_true, if_false, not_true_eq_false, not_false_eq_true, Nat.not_lt_zero, Nat.reduceEqDiff, Nat.reduceLT, Nat.reduceLeDiff, Nat.reduceAdd, Nat.zero_le, ite_self, reduceCtorEq, bI_t, bI_f, bI_z, bI_1, ok_bb, if_pos, if_neg, h8, hM.2.2.1]
    exact ⟨FrZ_rf _, trivial, hM.2.1⟩
  rw [if_neg h8]
  simp (disch := omega) only [n_lit, n_m1, ok_S, ok_s, ok_N, ok_n, ↓ok_if, ok_A, ok_a, ok_L, ok_l, ok_zn0, ok_zn1, ok_f2, ok_pure, ok_rI, ok_bn0, ok_bn1, ok_rt, ok_riI, ok_rn0, ok_rn1, ok_go, nx_l, nx_r, sS_s, sS_n, sS_a, sS_l, sS_k, aS_s, aS_n, aS_1, aS_l, aS_k, lS_l, lS_1, lS_a, lS_k, nS_s, nS_n, nS_1, nS_a, nS_l, updS, updN, nI_eq, nI_leI, nI_ltI, nI_add, pk_mul, nN_e, nN_e', nN_l, nN_g, nN_le, nN_ge, ite_not, if_true, if_false, not_true_eq_false, not_false_eq_true, Nat.not_lt_zero, Nat.reduceEqDiff, Nat.reduceLT, Nat.reduceLeDiff, Nat.reduceAdd, Nat.zero_le, ite_self, reduceCtorEq, bI_t, bI_f, bI_z, bI_1, ok_bb, if_pos, if_neg, h8, hM.2.2.1, hM.2.1]
  have h1 := @MH_14 SM len p u g N d tx t B (p + 1) hM
  have fz1 : ∀ q, FrZ SM (sS SM 14 (nI q)) := fun q => ⟨rfl, fun f _ a _ _ _ => sS_n a, fun f _ => rfl⟩
  refine ok_C (e_hereR h1.1 (by omega) ?_)
  unfold k_Md_open_39
  by_cases h2 : pe len tx (p + 1) = 63
  · rw [if_pos h2]
    simp (disch := omega) only [n_lit, n_m1, ok_S, ok_s, ok_N, ok_n, ↓ok_if, ok_A, ok_a, ok_L, ok_l, ok_zn0, ok_zn1, ok_f2, ok_pure, ok_rI, ok_bn0, ok_bn1, ok_rt, ok_riI, ok_rn0, ok_rn1, ok_go, nx_l, nx_r, sS_s, sS_n, sS_a, sS_l, sS_k, aS_s, aS_n, aS_1, aS_l, aS_k, lS_l, lS_1, lS_a, lS_k, nS_s, nS_n, nS_1, nS_a, nS_l, updS, updN, nI_eq, nI_leI, nI_ltI, nI_add, pk_mul, nN_e, nN_e', nN_l, nN_g, nN_le, nN_ge, ite_not, if_true, if_false, not_true_eq_false, not_false_eq_true, Nat.not_lt_zero, Nat.reduceEqDiff, Nat.reduceLT, Nat.reduceLeDiff, Nat.reduceAdd, Nat.zero_le, ite_self, reduceCtorEq, bI_t, bI_f, bI_z, bI_1, ok_bb, if_pos, if_neg, h2]
    unfold k_Md_open_55
    simp (disch := omega) only [n_lit, n_m1, ok_S, ok_s, ok_N, ok_n, ↓ok_if, ok_A, ok_a, ok_L, ok_l, ok_zn0, ok_zn1, ok_f2, ok_pure, ok_rI, ok_bn0, ok_bn1, ok_rt, ok_riI, ok_rn0, ok_rn1, ok_go, nx_l, nx_r, sS_s, sS_n, sS_a, sS_l, sS_k, aS_s, aS_n, aS_1, aS_l, aS_k, lS_l, lS_1, lS_a, lS_k, nS_s, nS_n, nS_1, nS_a, nS_l, updS, updN, nI_eq, nI_leI, nI_ltI, nI_add, pk_mul, nN_e, nN_e', nN_l, nN_g, nN_le, nN_ge, ite_not, if_true, if_false, not_true_eq_false, not_false_eq_true, Nat.not_lt_zero, Nat.reduceEqDiff, Nat.reduceLT, Nat.reduceLeDiff, Nat.reduceAdd, Nat.zero_le, ite_self, reduceCtorEq, bI_t, bI_f, bI_z, bI_1, ok_bb, if_pos, if_neg]
    have h3 := @MH_14 _ len (p + 1) u g N d tx t B (p + 1 + 1) h1
    refine ok_C (e_hereR h3.1 (by omega) ?_)
    by_cases h4 : pe len tx (p + 1 + 1) = 58
    · rw [if_pos h4]
      simp (disch := omega) only [n_lit, n_m1, ok_S, ok_s, ok_N, ok_n, ↓ok_if, ok_A, ok_a, ok_L, ok_l, ok_zn0, ok_zn1, ok_f2, ok_pure, ok_rI, ok_bn0, ok_bn1, ok_rt, ok_riI, ok_rn0, ok_rn1, ok_go, nx_l, nx_r, sS_s, sS_n, sS_a, sS_l, sS_k, aS_s, aS_n, aS_1, aS_l, aS_k, lS_l, lS_1, lS_a, lS_k, nS_s, nS_n, nS_1, nS_a, nS_l, updS, updN, nI_eq, nI_leI, nI_ltI, nI_add, pk_mul, nN_e, nN_e', nN_l, nN_g, nN_le, nN_ge, ite_not, if_true, if_false, not_true_eq_false, not_false_eq_true, Nat.not_lt_zero, Nat.reduceEqDiff, Nat.reduceLT, Nat.reduceLeDiff, Nat.reduceAdd, Nat.zero_le, ite_self, reduceCtorEq, bI_t, bI_f, bI_z, bI_1, ok_bb, if_pos, if_neg, h4]
      have h5 := @MH_14 _ len (p + 1 + 1) u g N d tx t B (p + 1 + 1 + 1) h3
      refine m_op94 h5 (by omega) n3 hw hN (Or.inl ⟨rfl, rfl⟩) ?_
      intro S' f' k1 k2 k3 k4
      simp (disch := omega) only [n_lit, n_m1, ok_S, ok_s, ok_N, ok_n, ↓ok_if, ok_A, ok_a, ok_L, ok_l, ok_zn0, ok_zn1, ok_f2, ok_pure, ok_rI, ok_bn0, ok_bn1, ok_rt, ok_riI, ok_rn0, ok_rn1, ok_go, nx_l, nx_r, sS_s, sS_n, sS_a, sS_l, sS_k, aS_s, aS_n, aS_1, aS_l, aS_k, lS_l, lS_1, lS_a, lS_k, nS_s, nS_n, nS_1, nS_a, nS_l, updS, updN, nI_eq, nI_leI, nI_ltI, nI_add, pk_mul, nN_e, nN_e', nN_l, nN_g, nN_le, nN_ge, ite_not, if_true, if_false, not_true_eq_false, not_false_eq_true, Nat.not_lt_zero, Nat.reduceEqDiff, Nat.reduceLT, Nat.reduceLeDiff, Nat.reduceAdd, Nat.zero_le, ite_self, reduceCtorEq, bI_t, bI_f, bI_z, bI_1, ok_bb, if_pos, if_neg]
      refine ⟨FrZ_tr f' (FrZ_tr (FrZ_s (by omega) _ _) (FrZ_tr (FrZ_s (by omega) _ _) (FrZ_s (by omega) _ _))), trivial, ?_, k2, k3, k4⟩
      rw [if_neg (by omega)] at k1
      exact k1
    · rw [if_neg h4]
      simp (disch := omega) only [n_lit, n_m1, ok_S, ok_s, ok_N, ok_n, ↓ok_if, ok_A, ok_a, ok_L, ok_l, ok_zn0, ok_zn1, ok_f2, ok_pure, ok_rI, ok_bn0, ok_bn1, ok_rt, ok_riI, ok_rn0, ok_rn1, ok_go, nx_l, nx_r, sS_s, sS_n, sS_a, sS_l, sS_k, aS_s, aS_n, aS_1, aS_l, aS_k, lS_l, lS_1, lS_a, lS_k, nS_s, nS_n, nS_1, nS_a, nS_l, updS, updN, nI_eq, nI_leI, nI_ltI, nI_add, pk_mul, nN_e, nN_e', nN_l, nN_g, nN_le, nN_ge, ite_not, if_true, if_false, not_true_eq_false, not_false_eq_true, Nat.not_lt_zero, Nat.reduceEqDiff, Nat.reduceLT, Nat.reduceLeDiff, Nat.reduceAdd, Nat.zero_le, ite_self, reduceCtorEq, bI_t, bI_f, bI_z, bI_1, ok_bb, if_pos, if_neg, h4]
      exact ⟨FrZ_tr (FrZ_s (by omega) _ _) (FrZ_s (by omega) _ _), trivial, trivial⟩
  · rw [if_neg h2]
    by_cases h6 : g = 6
    · rw [if_pos h6]
      simp (disch := omega) only [n_lit, n_m1, ok_S, ok_s, ok_N, ok_n, ↓ok_if, ok_A, ok_a, ok_L, ok_l, ok_zn0, ok_zn1, ok_f2, ok_pure, ok_rI, ok_bn0, ok_bn1, ok_rt, ok_riI, ok_rn0, ok_rn1, ok_go, nx_l, nx_r, sS_s, sS_n, sS_a, sS_l, sS_k, aS_s, aS_n, aS_1, aS_l, aS_k, lS_l, lS_1, lS_a, lS_k, nS_s, nS_n, nS_1, nS_a, nS_l, updS, updN, nI_eq, nI_leI, nI_ltI, nI_add, pk_mul, nN_e, nN_e', nN_l, nN_g, nN_le, nN_ge, ite_not, if_true, if_false, not_true_eq_false, not_false_eq_true, Nat.not_lt_zero, Nat.reduceEqDiff, Nat.reduceLT, Nat.reduceLeDiff, Nat.reduceAdd, Nat.zero_le, ite_self, reduceCtorEq, bI_t, bI_f, bI_z, bI_1, ok_bb, if_pos, if_neg, h2, hM.2.2.2.1, h6]
      exact ⟨fz1 _, trivial, trivial⟩
    · rw [if_neg h6]
      simp (disch := omega) only [n_lit, n_m1, ok_S, ok_s, ok_N, ok_n, ↓ok_if, ok_A, ok_a, ok_L, ok_l, ok_zn0, ok_zn1, ok_f2, ok_pure, ok_rI, ok_bn0, ok_bn1, ok_rt, ok_riI, ok_rn0, ok_rn1, ok_go, nx_l, nx_r, sS_s, sS_n, sS_a, sS_l, sS_k, aS_s, aS_n, aS_1, aS_l, aS_k, lS_l, lS_1, lS_a, lS_k, nS_s, nS_n, nS_1, nS_a, nS_l, updS, updN, nI_eq, nI_leI, nI_ltI, nI_add, pk_mul, nN_e, nN_e', nN_l, nN_g, nN_le, nN_ge, ite_not, if_true, if_false, not_true_eq_false, not_false_eq_true, Nat.not_lt_zero, Nat.reduceEqDiff, Nat.reduceLT, Nat.reduceLeDiff, Nat.reduceAdd, Nat.zero_le, ite_self, reduceCtorEq, bI_t, bI_f, bI_z, bI_1, ok_bb, if_pos, if_neg, h2, hM.2.2.2.1, h6]
      unfold k_Md_open_55
      simp (disch := omega) only [n_lit, n_m1, ok_S, ok_s, ok_N, ok_n, ↓ok_if, ok_A, ok_a, ok_L, ok_l, ok_zn0, ok_zn1, ok_f2, ok_pure, ok_rI, ok_bn0, ok_bn1, ok_rt, ok_riI, ok_rn0, ok_rn1, ok_go, nx_l, nx_r, sS_s, sS_n, sS_a, sS_l, sS_k, aS_s, aS_n, aS_1, aS_l, aS_k, lS_l, lS_1, lS_a, lS_k, nS_s, nS_n, nS_1, nS_a, nS_l, updS, updN, nI_eq, nI_leI, nI_ltI, nI_add, pk_mul, nN_e, nN_e', nN_l, nN_g, nN_le, nN_ge, ite_not, if_true, if_false, not_true_eq_false, not_false_eq_true, Nat.not_lt_zero, Nat.reduceEqDiff, Nat.reduceLT, Nat.reduceLeDiff, Nat.reduceAdd, Nat.zero_le, ite_self, reduceCtorEq, bI_t, bI_f, bI_z, bI_1, ok_bb, if_pos, if_neg]
      refine m_op94 h1 (by omega) n3 hw hN (Or.inr ⟨rfl, rfl⟩) ?_
      intro S' f' k1 k2 k3 k4
      simp (disch := omega) only [n_lit, n_m1, ok_S, ok_s, ok_N, ok_n, ↓ok_if, ok_A, ok_a, ok_L, ok_l, ok_zn0, ok_zn1, ok_f2, ok_pure, ok_rI, ok_bn0, ok_bn1, ok_rt, ok_riI, ok_rn0, ok_rn1, ok_go, nx_l, nx_r, sS_s, sS_n, sS_a, sS_l, sS_k, aS_s, aS_n, aS_1, aS_l, aS_k, lS_l, lS_1, lS_a, lS_k, nS_s, nS_n, nS_1, nS_a, nS_l, updS, updN, nI_eq, nI_leI, nI_ltI, nI_add, pk_mul, nN_e, nN_e', nN_l, nN_g, nN_le, nN_ge, ite_not, if_true, if_false, not_true_eq_false, not_false_eq_true, Nat.not_lt_zero, Nat.reduceEqDiff, Nat.reduceLT, Nat.reduceLeDiff, Nat.reduceAdd, Nat.zero_le, ite_self, reduceCtorEq, bI_t, bI_f, bI_z, bI_1, ok_bb, if_pos, if_neg]
      refine ⟨FrZ_tr f' (fz1 _), trivial, ?_, k2, k3, k4⟩
      rw [if_pos rfl] at k1
      exact k1
end MT
