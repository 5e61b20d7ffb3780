/-! WRITING, by the class -/
def PL (S : qSt) (l : List INS) : Prop := S.1 103 = nI l.length ∧ ∀ i (h : i < l.length), S.2.1 6 i = nI (l[i]).1 ∧ S.2.1 7 i = nI (l[i]).2.1 ∧ S.2.1 8 i = nI (l[i]).2.2
def FrU (S S' : qSt) : Prop := S'.2.2 = S.2.2 ∧ (∀ f, f ≠ 103 → S'.1 f = S.1 f) ∧ (∀ f, f ≠ 6 → f ≠ 7 → f ≠ 8 → S'.2.1 f = S.2.1 f)
theorem FrU_rf (S : qSt) : FrU S S := ⟨rfl, fun f _ => rfl, fun f _ _ _ => rfl⟩
theorem FrU_tr {S S1 S2 : qSt} (h2 : FrU S1 S2) (h1 : FrU S S1) : FrU S S2 := ⟨h2.1.trans h1.1, fun f a => (h2.2.1 f a).trans (h1.2.1 f a), fun f a b c => (h2.2.2 f a b c).trans (h1.2.2 f a b c)⟩
def WP {β : Type} (H : qH) (S : qSt) (l : List INS) (_ : β) (S' : qSt) (H' : qH) : Prop := H' = H ∧ FrU S S' ∧ PL S' l
section WR
variable {S : qSt} {H : qH} {l : List INS} {o k x y lz : Nat}
theorem e_addI {Q : Unit → qSt → Prop} (h : PL S l) (hl : l.length < 160) (q : ∀ S', FrU S S' → PL S' (l ++ [(k, x, y)]) → Q () S') : okS (f_Pr_add o (nI k) (nI x) (nI y)) S Q := by
  unfold f_Pr_add
  have h1 := h.1
  simp (disch := omega) only [n_lit, n_m1, ok_S, ok_s, ok_N, ok_n, ↓ok_if, ok_A, ok_a, ok_L, ok_l, ok_zn0, ok_zn1, ok_f2, ok_pure, ok_rI, ok_bn0, ok_bn1, ok_rt, ok_riI, ok_rn0, ok_rn1, ok_go, nx_l, nx_r, sS_s, sS_n, sS_a, sS_l, sS_k, aS_s, aS_n, aS_1, aS_l, aS_k, lS_l, lS_1, lS_a, lS_k, nS_s, nS_n, nS_1, nS_a, nS_l, updS, updN, nI_eq, nI_leI, nI_ltI, nI_add, pk_mul, nN_e, nN_e', nN_l, nN_g, nN_le, nN_ge, ite_not, if_true, if_false, not_true_eq_false, not_false_eq_true, Nat.not_lt_zero, Nat.reduceEqDiff, Nat.reduceLT, Nat.reduceLeDiff, Nat.reduceAdd, Nat.zero_le, ite_self, reduceCtorEq, bI_t, bI_f, bI_z, bI_1, ok_bb, if_pos, if_neg, h1]
  refine q _ ⟨rfl, fun f hf => ?_, fun f a b c => ?_⟩ ⟨?_, fun i hi => ?_⟩
  · simp (disch := omega) only [n_lit, n_m1, ok_S, ok_s, ok_N, ok_n, ↓ok_if, ok_A, ok_a, ok_L, ok_l, ok_zn0, ok_zn1, ok_f2, ok_pure, ok_rI, ok_bn0, ok_bn1, ok_rt, ok_riI, ok_rn0, ok_rn1, ok_go, nx_l, nx_r, sS_s, sS_n, sS_a, sS_l, sS_k, aS_s, aS_n, aS_1, aS_l, aS_k, lS_l, lS_1, lS_a, lS_k, nS_s, nS_n, nS_1, nS_a, nS_l, updS, updN, nI_eq, nI_leI, nI_ltI, nI_add, pk_mul, nN_e, nN_e', nN_l, nN_g, nN_le, nN_ge, ite_not, if_true, if_false, not_true_eq_false, not_false_eq_true, Nat.not_lt_zero, Nat.reduceEqDiff, Nat.reduceLT, Nat.reduceLeDiff, Nat.reduceAdd, Nat.zero_le, ite_self, reduceCtorEq, bI_t, bI_f, bI_z, bI_1, ok_bb, if_pos, if_neg]
  · simp (disch := omega) only [n_lit, n_m1, ok_S, ok_s, ok_N, ok_n, ↓ok_if, ok_A, ok_a, ok_L, ok_l, ok_zn0, ok_zn1, ok_f2, ok_pure, ok_rI, ok_bn0, ok_bn1, ok_rt, ok_riI, ok_rn0, ok_rn1, ok_go, nx_l, nx_r, sS_s, sS_n, sS_a, sS_l, sS_k, aS_s, aS_n, aS_1, aS_l, aS_k, lS_l, lS_1, lS_a, lS_k, nS_s, nS_n, nS_1, nS_a, nS_l, updS, updN, nI_eq, nI_leI, nI_ltI, nI_add, pk_mul, nN_e, nN_e', nN_l, nN_g, nN_le, nN_ge, ite_not, if_true, if_false, not_true_eq_false, not_false_eq_true, Nat.not_lt_zero, Nat.reduceEqDiff, Nat.reduceLT, Nat.reduceLeDiff, Nat.reduceAdd, Nat.zero_le, ite_self, reduceCtorEq, bI_t, bI_f, bI_z, bI_1, ok_bb, if_pos, if_neg]
  · simp (disch := omega) only [n_lit, n_m1, ok_S, ok_s, ok_N, ok_n, ↓ok_if, ok_A, ok_a, ok_L, ok_l, ok_zn0, ok_zn1, ok_f2, ok_pure, ok_rI, ok_bn0, ok_bn1, ok_rt, ok_riI, ok_rn0, ok_rn1, ok_go, nx_l, nx_r, sS_s, sS_n, sS_a, sS_l, sS_k, aS_s, aS_n, aS_1, aS_l, aS_k, lS_l, lS_1, lS_a, lS_k, nS_s, nS_n, nS_1, nS_a, nS_l, updS, updN, nI_eq, nI_leI, nI_ltI, nI_add, pk_mul, nN_e, nN_e', nN_l, nN_g, nN_le, nN_ge, ite_not, if_true, if_false, not_true_eq_false, not_false_eq_true, Nat.not_lt_zero, Nat.reduceEqDiff, Nat.reduceLT, Nat.reduceLeDiff, Nat.reduceAdd, Nat.zero_le, ite_self, reduceCtorEq, bI_t, bI_f, bI_z, bI_1, ok_bb, if_pos, if_neg]
    simp only [List.length_append, List.length_cons, List.length_nil]
  · simp only [List.length_append, List.length_cons, List.length_nil] at hi
    by_cases e : i = l.length
    · subst e
      simp (disch := omega) only [n_lit, n_m1, ok_S, ok_s, ok_N, ok_n, ↓ok_if, ok_A, ok_a, ok_L, ok_l, ok_zn0, ok_zn1, ok_f2, ok_pure, ok_rI, ok_bn0, ok_bn1, ok_rt, ok_riI, ok_rn0, ok_rn1, ok_go, nx_l, nx_r, sS_s, sS_n, sS_a, sS_l, sS_k, aS_s, aS_n, aS_1, aS_l, aS_k, lS_l, lS_1, lS_a, lS_k, nS_s, nS_n, nS_1, nS_a, nS_l, updS, updN, nI_eq, nI_leI, nI_ltI, nI_add, pk_mul, nN_e, nN_e', nN_l, nN_g, nN_le, nN_ge, ite_not, if_true, if_false, not_true_eq_false, not_false_eq_true, Nat.not_lt_zero, Nat.reduceEqDiff, Nat.reduceLT, Nat.reduceLeDiff, Nat.reduceAdd, Nat.zero_le, ite_self, reduceCtorEq, bI_t, bI_f, bI_z, bI_1, ok_bb, if_pos, if_neg]
      simp
    · have hi2 : i < l.length := by omega
      rw [List.getElem_append_left hi2]
      have := h.2 i hi2
      simp (disch := omega) only [n_lit, n_m1, ok_S, ok_s, ok_N, ok_n, ↓ok_if, ok_A, ok_a, ok_L, ok_l, ok_zn0, ok_zn1, ok_f2, ok_pure, ok_rI, ok_bn0, ok_bn1, ok_rt, ok_riI, ok_rn0, ok_rn1, ok_go, nx_l, nx_r, sS_s, sS_n, sS_a, sS_l, sS_k, aS_s, aS_n, aS_1, aS_l, aS_k, lS_l, lS_1, lS_a, lS_k, nS_s, nS_n, nS_1, nS_a, nS_l, updS, updN, nI_eq, nI_leI, nI_ltI, nI_add, pk_mul, nN_e, nN_e', nN_l, nN_g, nN_le, nN_ge, ite_not, if_true, if_false, not_true_eq_false, not_false_eq_true, Nat.not_lt_zero, Nat.reduceEqDiff, Nat.reduceLT, Nat.reduceLeDiff, Nat.reduceAdd, Nat.zero_le, ite_self, reduceCtorEq, bI_t, bI_f, bI_z, bI_1, ok_bb, if_pos, if_neg]
      exact this
theorem e_addS {Q : Unit → qSt → Prop} (h : PL S l) (hl : l.length < 160) (hz : lz ≤ 1) (q : ∀ S', FrU S S' → PL S' (l ++ [spl lz x y]) → Q () S') : okS (f_Pr_addSplit o (nI x) (nI y) (nI lz)) S Q := by
  unfold f_Pr_addSplit k_Pr_addSplit_11
  by_cases h0 : lz = 0
  · subst h0
    simp (disch := omega) only [n_lit, n_m1, ok_S, ok_s, ok_N, ok_n, ↓ok_if, ok_A, ok_a, ok_L, ok_l, ok_zn0, ok_zn1, ok_f2, ok_pure, ok_rI, ok_bn0, ok_bn1, ok_rt, ok_riI, ok_rn0, ok_rn1, ok_go, nx_l, nx_r, sS_s, sS_n, sS_a, sS_l, sS_k, aS_s, aS_n, aS_1, aS_l, aS_k, lS_l, lS_1, lS_a, lS_k, nS_s, nS_n, nS_1, nS_a, nS_l, updS, updN, nI_eq, nI_leI, nI_ltI, nI_add, pk_mul, nN_e, nN_e', nN_l, nN_g, nN_le, nN_ge, ite_not, if_true, if_false, not_true_eq_false, not_false_eq_true, Nat.not_lt_zero, Nat.reduceEqDiff, Nat.reduceLT, Nat.reduceLeDiff, Nat.reduceAdd, Nat.zero_le, ite_self, reduceCtorEq, bI_t, bI_f, bI_z, bI_1, ok_bb, if_pos, if_neg]
    refine ok_C (e_addI h hl fun S' f' p' => ?_)
    simp (disch := omega) only [n_lit, n_m1, ok_S, ok_s, ok_N, ok_n, ↓ok_if, ok_A, ok_a, ok_L, ok_l, ok_zn0, ok_zn1, ok_f2, ok_pure, ok_rI, ok_bn0, ok_bn1, ok_rt, ok_riI, ok_rn0, ok_rn1, ok_go, nx_l, nx_r, sS_s, sS_n, sS_a, sS_l, sS_k, aS_s, aS_n, aS_1, aS_l, aS_k, lS_l, lS_1, lS_a, lS_k, nS_s, nS_n, nS_1, nS_a, nS_l, updS, updN, nI_eq, nI_leI, nI_ltI, nI_add, pk_mul, nN_e, nN_e', nN_l, nN_g, nN_le, nN_ge, ite_not, if_true, if_false, not_true_eq_false, not_false_eq_true, Nat.not_lt_zero, Nat.reduceEqDiff, Nat.reduceLT, Nat.reduceLeDiff, Nat.reduceAdd, Nat.zero_le, ite_self, reduceCtorEq, bI_t, bI_f, bI_z, bI_1, ok_bb]
    exact q S' f' p'
  · have h1 : lz = 1 := by omega
    subst h1
    simp (disch := omega) only [n_lit, n_m1, ok_S, ok_s, ok_N, ok_n, ↓ok_if, ok_A, ok_a, ok_L, ok_l, ok_zn0, ok_zn1, ok_f2, ok_pure, ok_rI, ok_bn0, ok_bn1, ok_rt, ok_riI, ok_rn0, ok_rn1, ok_go, nx_l, nx_r, sS_s, sS_n, sS_a, sS_l, sS_k, aS_s, aS_n, aS_1, aS_l, aS_k, lS_l, lS_1, lS_a, lS_k, nS_s, nS_n, nS_1, nS_a, nS_l, updS, updN, nI_eq, nI_leI, nI_ltI, nI_add, pk_mul, nN_e, nN_e', nN_l, nN_g, nN_le, nN_ge, ite_not, if_true, if_false, not_true_eq_false, not_false_eq_true, Nat.not_lt_zero, Nat.reduceEqDiff, Nat.reduceLT, Nat.reduceLeDiff, Nat.reduceAdd, Nat.zero_le, ite_self, reduceCtorEq, bI_t, bI_f, bI_z, bI_1, ok_bb, if_pos, if_neg]
    refine ok_C (e_addI h hl fun S' f' p' => ?_)
    simp (disch := omega) only [n_lit, n_m1, ok_S, ok_s, ok_N, ok_n, ↓ok_if, ok_A, ok_a, ok_L, ok_l, ok_zn0, ok_zn1, ok_f2, ok_pure, ok_rI, ok_bn0, ok_bn1, ok_rt, ok_riI, ok_rn0, ok_rn1, ok_go, nx_l, nx_r, sS_s, sS_n, sS_a, sS_l, sS_k, aS_s, aS_n, aS_1, aS_l, aS_k, lS_l, lS_1, lS_a, lS_k, nS_s, nS_n, nS_1, nS_a, nS_l, updS, updN, nI_eq, nI_leI, nI_ltI, nI_add, pk_mul, nN_e, nN_e', nN_l, nN_g, nN_le, nN_ge, ite_not, if_true, if_false, not_true_eq_false, not_false_eq_true, Nat.not_lt_zero, Nat.reduceEqDiff, Nat.reduceLT, Nat.reduceLeDiff, Nat.reduceAdd, Nat.zero_le, ite_self, reduceCtorEq, bI_t, bI_f, bI_z, bI_1, ok_bb]
    exact q S' f' p'
end WR
def WX (o : Nat) (t : Nat → ND) (W ad dp : Nat → Nat) (H : qH) (u g N a0 a1 : Nat) : Prop := Sg t W ad H.1 u g 0 N ∧ AdO t ad 0 N a0 a1 ∧ o + 21 ≤ a0 ∧ (∀ n, n < N → dp n ≤ 8 ∧ ∀ k ∈ (t n).2.1, dp k = dp n + (if (t k).1 = 0 then 1 else 0)) ∧ N ≤ 110 ∧ u ≤ 48 ∧ g ≤ 6
theorem WX_Sh {o : Nat} {t : Nat → ND} {W ad dp : Nat → Nat} {H : qH} {u g N a0 a1 : Nat} (h : WX o t W ad dp H u g N a0 a1) : Sh t W u g N := fun n hn => ⟨(h.1 n (Nat.zero_le n) hn).1, (h.1 n (Nat.zero_le n) hn).2.1⟩
def WC (o : Nat) (t : Nat → ND) (W ad dp : Nat → Nat) (H : qH) (N c : Nat) : Prop := ∀ (F : Nat) (S : qSt) (l : List INS), 3 * (8 - dp c) + 3 ≤ F → PL S l → W c + l.length ≤ 160 → okT (g_wr o F 0 (some (ad (k0 (t c)))) (nI (dp c))) S H (WP H S (l ++ em t W N c l.length))
theorem ar_F {a b F : Nat} (h1 : a + 1 = b) (h2 : b ≤ 8) (h3 : 3 * (8 - a) + 1 ≤ F + 1) : 3 * (8 - b) + 3 ≤ F := by omega
section WA
variable {o y u g N a0 a1 : Nat} {t : Nat → ND} {W ad dp : Nat → Nat} {H : qH} {nx : Option Nat}
theorem far_ad (h : WX o t W ad dp H u g N a0 a1) (hy : y < N) (hk : isO (t y)) : q_far o (ad y) := by
  have := h.2.1.1 y (Nat.zero_le y) hy hk
  have := h.2.2.1
  exact far_of (by omega)
theorem w_atom (h : WX o t W ad dp H u g N a0 a1) (hy : y < N) (h2 : (t y).1 = 2) (hob : H.1 (ad y) = some (rpOb t W ad y nx)) (ih : ∀ c, y < c → c < N → (t c).1 = 0 → WC o t W ad dp H N c) {F : Nat} {S : qSt} {l : List INS} (hF : 3 * (8 - dp y) + 1 ≤ F) (hP : PL S l) (hW : W (k0 (t y)) + l.length ≤ 160) : okT (g_wr o F 2 (some (ad y)) (nI (dp y))) S H (WP H S (l ++ em t W N (k0 (t y)) l.length)) := by
  have hf := far_ad h hy (Or.inr h2)
  have hSh := WX_Sh h
  obtain ⟨F', rfl⟩ : ∃ F', F = F' + 1 := ⟨F - 1, by omega⟩
  show okT (w_C (f_Pr_writeAtom o (g_wr o F') (some (ad y)) (nI (dp y))) fun _ => w_pure none) S H _
  obtain ⟨hy1, ⟨_, _, _, s3, _⟩, _⟩ := h.1 y (Nat.zero_le y) hy
  obtain ⟨m, z1, z2, z3, z4⟩ := s3 h2
  have m1 := hy1 m (by rw [z1]; simp)
  have k0y : k0 (t y) = m := by
    unfold k0
    rw [z1]
    rfl
  obtain ⟨ym1, ⟨_, _, _, _, m4, m5⟩, _⟩ := h.1 m (Nat.zero_le m) m1.2
  have dpm := ((h.2.2.2.1 y hy).2 m (by rw [z1]; simp))
  unfold rpOb at hob
  rw [k0y] at hob hW ⊢
  refine t_C ?_
  unfold f_Pr_writeAtom
  rcases z2 with z | z
  · rw [if_pos z] at hob
    obtain ⟨q0, q1, q2⟩ := m4 z
    have hu := h.2.2.2.2.2.1
    unfold rpC at hob
    have e1 : em t W N m l.length = [(0, (t m).2.2.1, 0)] := by
      rw [E_eq hSh m1.2]
      unfold emB
      rw [if_neg (by omega), if_neg (by omega), if_neg (by omega), if_pos z]
    rw [e1]
    rw [t_nn, rp_h3 hob hf]
    simp (disch := first | omega | assumption) only [n_lit, n_m1, t_S, t_s, ↓t_if, t_pure, t_rI, t_riI, t_rt, t_go, nt_l, nt_r, t_nn, t_nul0, t_nul1, rp_g0, rp_s0, rp_g1, rp_s1, rp_s1n, rp_g2, rp_s2, rp_g3, rp_s3, rp_g4, rp_s4, rp_g5, rp_s5, rp_g6, rp_s6z, rp_s6u, rp_g7, rp_s7z, rp_s7u, rp_g8, rp_s8z, rp_s8u, rp_g9, rp_s9, rp_s9n, rw_g0, rw_s0, rw_s0n, rw_g1, rw_s1, rw_s1n, rw_g2, rw_s2, rw_s2n, rw_g3, rw_s3, sS_s, sS_n, sS_a, sS_l, sS_k, lS_l, lS_1, lS_a, lS_k, nI_eq, nI_leI, nI_ltI, nI_add, pk_mul, nN_e, nN_e', nN_l, nN_g, nN_le, nN_ge, ite_not, if_true, if_false, not_true_eq_false, not_false_eq_true, Nat.not_lt_zero, Nat.reduceEqDiff, Nat.reduceLT, Nat.reduceLeDiff, Nat.reduceAdd, Nat.zero_le, ite_self, reduceCtorEq, bI_t, bI_f, bI_z, bI_1, if_pos, if_neg, rp_h1 hob hf, rp_h0 hob hf]
    refine t_O (e_addI hP (by omega) fun S' f' p' => ?_)
    simp (disch := first | omega | assumption) only [n_lit, n_m1, t_S, t_s, ↓t_if, t_pure, t_rI, t_riI, t_rt, t_go, nt_l, nt_r, t_nn, t_nul0, t_nul1, rp_g0, rp_s0, rp_g1, rp_s1, rp_s1n, rp_g2, rp_s2, rp_g3, rp_s3, rp_g4, rp_s4, rp_g5, rp_s5, rp_g6, rp_s6z, rp_s6u, rp_g7, rp_s7z, rp_s7u, rp_g8, rp_s8z, rp_s8u, rp_g9, rp_s9, rp_s9n, rw_g0, rw_s0, rw_s0n, rw_g1, rw_s1, rw_s1n, rw_g2, rw_s2, rw_s2n, rw_g3, rw_s3, sS_s, sS_n, sS_a, sS_l, sS_k, lS_l, lS_1, lS_a, lS_k, nI_eq, nI_leI, nI_ltI, nI_add, pk_mul, nN_e, nN_e', nN_l, nN_g, nN_le, nN_ge, ite_not, if_true, if_false, not_true_eq_false, not_false_eq_true, Nat.not_lt_zero, Nat.reduceEqDiff, Nat.reduceLT, Nat.reduceLeDiff, Nat.reduceAdd, Nat.zero_le, ite_self, reduceCtorEq, bI_t, bI_f, bI_z, bI_1, if_pos, if_neg]
    exact ⟨rfl, f', p'⟩
  · have z' : ¬ (t m).1 = 3 := by omega
    rw [if_neg z'] at hob
    obtain ⟨c, w1, w2, w3, w4⟩ := m5 z
    clear m4 m5 s3
    have k0m : k0 (t m) = c := by
      unfold k0
      rw [w1]
      rfl
    have cr := ym1 c (by rw [w1]; simp)
    have dpc := ((h.2.2.2.1 m m1.2).2 c (by rw [w1]; simp))
    have dpc8 := (h.2.2.2.1 c cr.2).1
    rw [if_neg (by omega)] at dpm
    rw [if_pos w2] at dpc
    have hg := h.2.2.2.2.2.2
    rw [k0m] at hob
    unfold rpC at hob
    have hWc : W c ≤ 160 := by
      rw [w4] at hW
      split at hW <;> omega
    have eaz : azOf (t m).2.2.1 (W c) = W m := by
      unfold azOf
      rw [Nat.min_eq_right (by omega), w4]
    rw [eaz] at hob
    rw [t_nn, rp_h3 hob hf]
    by_cases hz : W m = 0
    · have e1 : em t W N m l.length = [] := by
        have := E_len hSh N m m1.2 (by omega) l.length
        rw [hz] at this
        exact List.length_eq_zero_iff.mp this
      rw [e1, hz]
      simp (disch := first | omega | assumption) only [n_lit, n_m1, t_S, t_s, ↓t_if, t_pure, t_rI, t_riI, t_rt, t_go, nt_l, nt_r, t_nn, t_nul0, t_nul1, rp_g0, rp_s0, rp_g1, rp_s1, rp_s1n, rp_g2, rp_s2, rp_g3, rp_s3, rp_g4, rp_s4, rp_g5, rp_s5, rp_g6, rp_s6z, rp_s6u, rp_g7, rp_s7z, rp_s7u, rp_g8, rp_s8z, rp_s8u, rp_g9, rp_s9, rp_s9n, rw_g0, rw_s0, rw_s0n, rw_g1, rw_s1, rw_s1n, rw_g2, rw_s2, rw_s2n, rw_g3, rw_s3, sS_s, sS_n, sS_a, sS_l, sS_k, lS_l, lS_1, lS_a, lS_k, nI_eq, nI_leI, nI_ltI, nI_add, pk_mul, nN_e, nN_e', nN_l, nN_g, nN_le, nN_ge, ite_not, if_true, if_false, not_true_eq_false, not_false_eq_true, Nat.not_lt_zero, Nat.reduceEqDiff, Nat.reduceLT, Nat.reduceLeDiff, Nat.reduceAdd, Nat.zero_le, ite_self, reduceCtorEq, bI_t, bI_f, bI_z, bI_1, if_pos, if_neg]
      rw [List.append_nil]
      exact ⟨rfl, FrU_rf _, hP⟩
    · have ihc := ih c (by omega) cr.2 w2
      have e1 : em t W N m l.length = if 0 < (t m).2.2.1 then (3, 2 * (t m).2.2.1, 0) :: (em t W N c (l.length + 1) ++ [(3, 2 * (t m).2.2.1 + 1, 0)]) else em t W N c l.length := by
        rw [E_eq hSh m1.2]
        unfold emB
        rw [if_neg (by omega), if_neg (by omega), if_neg (by omega), if_neg z', k0m]
      rw [e1]
      unfold k_Pr_writeAtom_45
      have ed : dp y + 1 = dp c := by omega
      by_cases ha : 0 < (t m).2.2.1
      · rw [if_pos ha] at w4 ⊢
        simp (disch := first | omega | assumption) only [n_lit, n_m1, t_S, t_s, ↓t_if, t_pure, t_rI, t_riI, t_rt, t_go, nt_l, nt_r, t_nn, t_nul0, t_nul1, rp_g0, rp_s0, rp_g1, rp_s1, rp_s1n, rp_g2, rp_s2, rp_g3, rp_s3, rp_g4, rp_s4, rp_g5, rp_s5, rp_g6, rp_s6z, rp_s6u, rp_g7, rp_s7z, rp_s7u, rp_g8, rp_s8z, rp_s8u, rp_g9, rp_s9, rp_s9n, rw_g0, rw_s0, rw_s0n, rw_g1, rw_s1, rw_s1n, rw_g2, rw_s2, rw_s2n, rw_g3, rw_s3, sS_s, sS_n, sS_a, sS_l, sS_k, lS_l, lS_1, lS_a, lS_k, nI_eq, nI_leI, nI_ltI, nI_add, pk_mul, nN_e, nN_e', nN_l, nN_g, nN_le, nN_ge, ite_not, if_true, if_false, not_true_eq_false, not_false_eq_true, Nat.not_lt_zero, Nat.reduceEqDiff, Nat.reduceLT, Nat.reduceLeDiff, Nat.reduceAdd, Nat.zero_le, ite_self, reduceCtorEq, bI_t, bI_f, bI_z, bI_1, if_pos, if_neg, rp_h1 hob hf, rp_h2 hob hf, hz]
        refine t_O (e_addI hP (by omega) fun S1 f1 p1 => ?_)
        rw [t_nn, rp_h1 hob hf, ed]
        refine t_C (t_mono (ihc F' S1 _ (ar_F ed dpc8 hF) p1 (by simp only [List.length_append, List.length_cons, List.length_nil]; omega)) ?_)
        rintro _ S2 H2 ⟨rfl, f2, p2⟩
        simp (disch := first | omega | assumption) only [n_lit, n_m1, t_S, t_s, ↓t_if, t_pure, t_rI, t_riI, t_rt, t_go, nt_l, nt_r, t_nn, t_nul0, t_nul1, rp_g0, rp_s0, rp_g1, rp_s1, rp_s1n, rp_g2, rp_s2, rp_g3, rp_s3, rp_g4, rp_s4, rp_g5, rp_s5, rp_g6, rp_s6z, rp_s6u, rp_g7, rp_s7z, rp_s7u, rp_g8, rp_s8z, rp_s8u, rp_g9, rp_s9, rp_s9n, rw_g0, rw_s0, rw_s0n, rw_g1, rw_s1, rw_s1n, rw_g2, rw_s2, rw_s2n, rw_g3, rw_s3, sS_s, sS_n, sS_a, sS_l, sS_k, lS_l, lS_1, lS_a, lS_k, nI_eq, nI_leI, nI_ltI, nI_add, pk_mul, nN_e, nN_e', nN_l, nN_g, nN_le, nN_ge, ite_not, if_true, if_false, not_true_eq_false, not_false_eq_true, Nat.not_lt_zero, Nat.reduceEqDiff, Nat.reduceLT, Nat.reduceLeDiff, Nat.reduceAdd, Nat.zero_le, ite_self, reduceCtorEq, bI_t, bI_f, bI_z, bI_1, if_pos, if_neg, rp_h2 hob hf]
        have len2 : (l ++ [(3, 2 * (t m).2.2.1, 0)]).length = l.length + 1 := by simp
        rw [len2] at p2
        have elen := E_len hSh N c cr.2 (by omega) (l.length + 1)
        refine t_O (e_addI p2 (by simp only [List.length_append, List.length_cons, List.length_nil]; rw [elen]; omega) fun S3 f3 p3 => ?_)
        simp (disch := first | omega | assumption) only [n_lit, n_m1, t_S, t_s, ↓t_if, t_pure, t_rI, t_riI, t_rt, t_go, nt_l, nt_r, t_nn, t_nul0, t_nul1, rp_g0, rp_s0, rp_g1, rp_s1, rp_s1n, rp_g2, rp_s2, rp_g3, rp_s3, rp_g4, rp_s4, rp_g5, rp_s5, rp_g6, rp_s6z, rp_s6u, rp_g7, rp_s7z, rp_s7u, rp_g8, rp_s8z, rp_s8u, rp_g9, rp_s9, rp_s9n, rw_g0, rw_s0, rw_s0n, rw_g1, rw_s1, rw_s1n, rw_g2, rw_s2, rw_s2n, rw_g3, rw_s3, sS_s, sS_n, sS_a, sS_l, sS_k, lS_l, lS_1, lS_a, lS_k, nI_eq, nI_leI, nI_ltI, nI_add, pk_mul, nN_e, nN_e', nN_l, nN_g, nN_le, nN_ge, ite_not, if_true, if_false, not_true_eq_false, not_false_eq_true, Nat.not_lt_zero, Nat.reduceEqDiff, Nat.reduceLT, Nat.reduceLeDiff, Nat.reduceAdd, Nat.zero_le, ite_self, reduceCtorEq, bI_t, bI_f, bI_z, bI_1, if_pos, if_neg]
        refine ⟨rfl, FrU_tr f3 (FrU_tr f2 f1), ?_⟩
        simpa using p3
      · rw [if_neg ha] at w4 ⊢
        have ha0 : (t m).2.2.1 = 0 := by omega
        rw [ha0] at hob
        simp (disch := first | omega | assumption) only [n_lit, n_m1, t_S, t_s, ↓t_if, t_pure, t_rI, t_riI, t_rt, t_go, nt_l, nt_r, t_nn, t_nul0, t_nul1, rp_g0, rp_s0, rp_g1, rp_s1, rp_s1n, rp_g2, rp_s2, rp_g3, rp_s3, rp_g4, rp_s4, rp_g5, rp_s5, rp_g6, rp_s6z, rp_s6u, rp_g7, rp_s7z, rp_s7u, rp_g8, rp_s8z, rp_s8u, rp_g9, rp_s9, rp_s9n, rw_g0, rw_s0, rw_s0n, rw_g1, rw_s1, rw_s1n, rw_g2, rw_s2, rw_s2n, rw_g3, rw_s3, sS_s, sS_n, sS_a, sS_l, sS_k, lS_l, lS_1, lS_a, lS_k, nI_eq, nI_leI, nI_ltI, nI_add, pk_mul, nN_e, nN_e', nN_l, nN_g, nN_le, nN_ge, ite_not, if_true, if_false, not_true_eq_false, not_false_eq_true, Nat.not_lt_zero, Nat.reduceEqDiff, Nat.reduceLT, Nat.reduceLeDiff, Nat.reduceAdd, Nat.zero_le, ite_self, reduceCtorEq, bI_t, bI_f, bI_z, bI_1, if_pos, if_neg, rp_h1 hob hf, rp_h2 hob hf, hz]
        rw [ed]
        refine t_C (t_mono (ihc F' S l (ar_F ed dpc8 hF) hP (by omega)) ?_)
        rintro _ S2 H2 ⟨rfl, f2, p2⟩
        simp (disch := first | omega | assumption) only [n_lit, n_m1, t_S, t_s, ↓t_if, t_pure, t_rI, t_riI, t_rt, t_go, nt_l, nt_r, t_nn, t_nul0, t_nul1, rp_g0, rp_s0, rp_g1, rp_s1, rp_s1n, rp_g2, rp_s2, rp_g3, rp_s3, rp_g4, rp_s4, rp_g5, rp_s5, rp_g6, rp_s6z, rp_s6u, rp_g7, rp_s7z, rp_s7u, rp_g8, rp_s8z, rp_s8u, rp_g9, rp_s9, rp_s9n, rw_g0, rw_s0, rw_s0n, rw_g1, rw_s1, rw_s1n, rw_g2, rw_s2, rw_s2n, rw_g3, rw_s3, sS_s, sS_n, sS_a, sS_l, sS_k, lS_l, lS_1, lS_a, lS_k, nI_eq, nI_leI, nI_ltI, nI_add, pk_mul, nN_e, nN_e', nN_l, nN_g, nN_le, nN_ge, ite_not, if_true, if_false, not_true_eq_false, not_false_eq_true, Nat.not_lt_zero, Nat.reduceEqDiff, Nat.reduceLT, Nat.reduceLeDiff, Nat.reduceAdd, Nat.zero_le, ite_self, reduceCtorEq, bI_t, bI_f, bI_z, bI_1, if_pos, if_neg, rp_h2 hob hf]
        exact ⟨rfl, f2, p2⟩
end WA
