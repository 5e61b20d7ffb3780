/-! READING: class and reference side by side; a sign -/
def DP (t : Nat → ND) (c w d N : Nat) : Prop := ∃ dp : Nat → Nat, dp c = d ∧ dp w = d ∧ ∀ n, c ≤ n → n < N → dp n ≤ 8 ∧ ∀ k ∈ (t n).2.1, dp k = dp n + (if (t k).1 = 0 then 1 else 0)
def LI (o len : Nat) (tx : Nat → Nat) (c w d a0 : Nat) (SC SM : qSt) (H : qH) (t : Nat → ND) (W ad : Nat → Nat) (N p g u : Nat) (B : MBf) : Prop :=
  CH SC len tx p u g B ∧ MH SM len tx p u g N d t B ∧ NB p u g N d ∧ BE B u ∧ SM.2.1 12 d = nI c ∧ SM.2.1 13 d = nI w ∧ c < w ∧ w < N ∧ (t c).1 = 0 ∧ (t w).1 = 1 ∧ (t c).2.1.getLast? = some w ∧ (t c).2.1.head? = some (c + 1) ∧ Sg t W ad H.1 u g c N ∧ AdO t ad c N a0 H.2.1 ∧ o + 21 ≤ a0 ∧ H.1 (ad w) = some (oR ((t w).2.1.head?.map ad) ((t w).2.1.getLast?.map ad) none (nI (min 1000 (W w)))) ∧ ad (c + 1) = a0 ∧ DP t c w d N
def RPost (len : Nat) (tx : Nat → Nat) (w d : Nat) (SC SM : qSt) (H : qH) (t : Nat → ND) (W ad : Nat → Nat) (N p g u : Nat) (r : Option Nat) (SC' : qSt) (H' : qH) : Prop :=
  r = some H.2.1 ∧ FrY SC SC' ∧ (∀ a, a < H.2.1 → H'.1 a = H.1 a) ∧ H.2.1 < H'.2.1 ∧
  ((∃ e q, SC'.1 85 = nI e ∧ e ≤ 48 ∧ SC'.1 83 = nI q ∧ p ≤ q ∧ q ≤ 48 ∧ ErM SM e ∧ Ctr H H' p q 1 10 ∧ ∃ s i nu az le mo en pl lz nx, H'.1 H.2.1 = some (oP s i nu az le mo en pl lz nx)) ∨
  ∃ SM' t' W' ad' N' p' g' u' B', Ld SM SM' ∧ FrZ SM SM' ∧ CH SC' len tx p' u' g' B' ∧ MH SM' len tx p' u' g' N' d t' B' ∧ NB p' u' g' N' d ∧ BE B' u' ∧ (∀ i, i ≤ d → SM'.2.1 11 i = SM.2.1 11 i ∧ SM'.2.1 12 i = SM.2.1 12 i ∧ SM'.2.1 13 i = SM.2.1 13 i) ∧ p < p' ∧ u ≤ u' ∧ g ≤ g' ∧ N < N' ∧ (∀ n, n < N → t' n = (if n = w then kid (t w) N else t n) ∧ W' n = W n ∧ ad' n = ad n) ∧ (t' N).1 = 2 ∧ Sg t' W' ad' H'.1 u' g' N N' ∧ AdO t' ad' N N' H.2.1 H'.2.1 ∧ ad' N = H.2.1 ∧ H'.1 H.2.1 = some (rpOb t' W' ad' N none) ∧ Ctr H H' p p' 0 0 ∧ DP t' N N d N')
theorem far_of {o n : Nat} (h : o + 21 ≤ n) : q_far o n := fun q => by omega
section SC
variable {β : Type} {SC SM : qSt} {H : qH} {len p u g N d w o : Nat} {tx : Nat → Nat} {t : Nat → ND} {W ad : Nat → Nat} {B : MBf} {G : Nat → Option Nat → Int32 → qW (Option Nat)} {Q : β → qSt → qH → Prop} {K : Nat → qW β}
theorem t_newP (hf : q_far o H.2.1) : okT (w_new o 4 [.int 0, .null, .int 0, .int 0, .int 0, .int 0, .int 0, .int 0, .int 0, .null] K) SC H Q = okT (K H.2.1) SC (q_up H.1 H.2.1 (oP (nI 0) none (nI 0) (nI 0) (nI 0) (nI 0) (nI 0) (nI 0) (nI 0) none), H.2.1 + 1, H.2.2.1 + 1, H.2.2.2 + 10) Q := (t_new hf).trans rfl
theorem t_newR (hf : q_far o H.2.1) : okT (w_new o 5 [.null, .null, .null, .int 0] K) SC H Q = okT (K H.2.1) SC (q_up H.1 H.2.1 (oR none none none (nI 0)), H.2.1 + 1, H.2.2.1 + 1, H.2.2.2 + 4) Q := (t_new hf).trans rfl
theorem e_open {Q : Int32 → qSt → Prop} (h : SC.1 41 = nI u) (hu : u < 48) (k : Q (nI u) (sS SC 41 (nI (u + 1)))) : okS (f_Cs_open o) SC Q := by
  unfold f_Cs_open
  simp (disch := omega) only [n_lit, n_m1, ok_S, ok_s, ok_N, ok_n, ↓ok_if, ok_A, ok_a, ok_L, ok_l, ok_zn0, ok_zn1, ok_f2, ok_pure, ok_rI, ok_bn0, ok_bn1, ok_rt, ok_riI, ok_rn0, ok_rn1, ok_go, nx_l, nx_r, sS_s, sS_n, sS_a, sS_l, sS_k, aS_s, aS_n, aS_1, aS_l, aS_k, lS_l, lS_1, lS_a, lS_k, nS_s, nS_n, nS_1, nS_a, nS_l, updS, updN, nI_eq, nI_leI, nI_ltI, nI_add, pk_mul, nN_e, nN_e', nN_l, nN_g, nN_le, nN_ge, ite_not, if_true, if_false, not_true_eq_false, not_false_eq_true, Nat.not_lt_zero, Nat.reduceEqDiff, Nat.reduceLT, Nat.reduceLeDiff, Nat.reduceAdd, Nat.zero_le, ite_self, reduceCtorEq, bI_t, bI_f, bI_z, bI_1, ok_bb, if_pos, if_neg, h, pk_sub, Nat.add_sub_cancel]
  exact k
theorem CI_41 (h : CI SC len tx p u B) (hu : u < 48) : CI (sS SC 41 (nI (u + 1))) len tx p (u + 1) B := by
  obtain ⟨h1, h2, h3, h4, h5, h6⟩ := h
  exact ⟨⟨h1.1, (sS_n (by omega)).trans h1.2.1, h1.2.2⟩, (sS_n (by omega)).trans h2, (sS_n (by omega)).trans h3, sS_s, by omega, h6⟩
theorem tSg_lt {u how le mo lz n : Nat} (hw : w < N) (h : n < N) : tSg t N w u how le mo lz n = if n = w then kid (t w) N else t n := by
  unfold tSg
  rw [tU_n (by omega), tU_n (by omega)]
  unfold tN
  rw [tU_n (by omega), tU_n (by omega)]
  by_cases e : n = w
  · subst e
    rw [tU_s, if_pos rfl]
  · rw [tU_n e, tU_n (by omega), if_neg e]
theorem r_sign (hC : CH SC len tx p u g B) (hM : MH SM len tx p u g N d t B) (hB : NB p u g N d) (hE : BE B u) (h13 : SM.2.1 13 d = nI w) (hw : w < N) (hH : o + 21 ≤ H.2.1) (x0 : pe len tx p ≠ 0) (x1 : pe len tx p ≠ 40) (x2 : pe len tx p ≠ 41) (x3 : pe len tx p ≠ 124) : okT (f_Pa_readRepeat o G (nI d)) SC H (RPost len tx w d SC SM H t W ad N p g u) := by
  have hb := @pe_le SC len p tx hC.1.1
  obtain ⟨n1, n2, n3, n4, n5⟩ := hB
  have hp := (hb.2 x0).1
  have hf := far_of hH
  obtain ⟨rr, SM', hP, hL⟩ := Ld_of (m_sign hM ⟨n1, n2, n3, n4, n5⟩ hE h13 hw (by omega) x0 x1 (fun q => absurd q x2) x3)
  have hE1 := @sChars_r (pe len tx) u p B (pe_lt hC.1.1) n1
  unfold f_Pa_readRepeat
  rw [t_newP hf]
  refine t_C ?_
  unfold f_Rp_init
  simp (disch := first | omega | assumption) only [n_lit, n_m1, t_S, t_s, ↓t_if, t_pure, t_rI, t_riI, t_rt, t_go, nt_l, nt_r, t_nn, t_nul0, t_nul1, rp_g0, rp_s0, rp_g1, rp_s1, rp_s1n, rp_g2, rp_s2, rp_g3, rp_s3, rp_g4, rp_s4, rp_g5, rp_s5, rp_g6, rp_s6z, rp_s6u, rp_g7, rp_s7z, rp_s7u, rp_g8, rp_s8z, rp_s8u, rp_g9, rp_s9, rp_s9n, rw_g0, rw_s0, rw_s0n, rw_g1, rw_s1, rw_s1n, rw_g2, rw_s2, rw_s2n, rw_g3, rw_s3, sS_s, sS_n, sS_a, sS_l, sS_k, lS_l, lS_1, lS_a, lS_k, nI_eq, nI_leI, nI_ltI, nI_add, pk_mul, nN_e, nN_e', nN_l, nN_g, nN_le, nN_ge, ite_not, if_true, if_false, not_true_eq_false, not_false_eq_true, Nat.not_lt_zero, Nat.reduceEqDiff, Nat.reduceLT, Nat.reduceLeDiff, Nat.reduceAdd, Nat.zero_le, ite_self, reduceCtorEq, bI_t, bI_f, bI_z, bI_1, if_pos, if_neg]
  refine t_O (e_peek hC.1 (by omega) ?_)
  rw [t_t (c := ¬ pv (pe len tx p) = 40) (pv_z 40 hb.1 (by decide) (by decide) x1)]
  refine t_O (e_open hC.1.2.2.2.1 (by omega) ?_)
  simp (disch := first | omega | assumption) only [n_lit, n_m1, t_S, t_s, ↓t_if, t_pure, t_rI, t_riI, t_rt, t_go, nt_l, nt_r, t_nn, t_nul0, t_nul1, rp_g0, rp_s0, rp_g1, rp_s1, rp_s1n, rp_g2, rp_s2, rp_g3, rp_s3, rp_g4, rp_s4, rp_g5, rp_s5, rp_g6, rp_s6z, rp_s6u, rp_g7, rp_s7z, rp_s7u, rp_g8, rp_s8z, rp_s8u, rp_g9, rp_s9, rp_s9n, rw_g0, rw_s0, rw_s0n, rw_g1, rw_s1, rw_s1n, rw_g2, rw_s2, rw_s2n, rw_g3, rw_s3, sS_s, sS_n, sS_a, sS_l, sS_k, lS_l, lS_1, lS_a, lS_k, nI_eq, nI_leI, nI_ltI, nI_add, pk_mul, nN_e, nN_e', nN_l, nN_g, nN_le, nN_ge, ite_not, if_true, if_false, not_true_eq_false, not_false_eq_true, Nat.not_lt_zero, Nat.reduceEqDiff, Nat.reduceLT, Nat.reduceLeDiff, Nat.reduceAdd, Nat.zero_le, ite_self, reduceCtorEq, bI_t, bI_f, bI_z, bI_1, if_pos, if_neg]
  have c1 := CI_41 hC.1 (show u < 48 by omega)
  refine t_chars (Nat.lt_succ_self u) n1 c1 (fun SC2 k2 => ?_)
  have fy : FrY SC SC2 := FrY_tr (FrY_P k2.1) ⟨rfl, rfl, fun f a _ _ _ => sS_n a⟩
  unfold k_Pa_readRepeat_64
  obtain ⟨fz, hP⟩ := hP
  cases hx : sChars (pe len tx) u p B with
  | inl e =>
    rw [hx] at k2 hP hE1
    obtain ⟨k3, k4, k5⟩ := k2
    obtain ⟨rfl, h14⟩ := hP
    obtain ⟨b1, b2⟩ := hE1
    simp (disch := first | omega | assumption) only [n_lit, n_m1, t_S, t_s, ↓t_if, t_pure, t_rI, t_riI, t_rt, t_go, nt_l, nt_r, t_nn, t_nul0, t_nul1, rp_g0, rp_s0, rp_g1, rp_s1, rp_s1n, rp_g2, rp_s2, rp_g3, rp_s3, rp_g4, rp_s4, rp_g5, rp_s5, rp_g6, rp_s6z, rp_s6u, rp_g7, rp_s7z, rp_s7u, rp_g8, rp_s8z, rp_s8u, rp_g9, rp_s9, rp_s9n, rw_g0, rw_s0, rw_s0n, rw_g1, rw_s1, rw_s1n, rw_g2, rw_s2, rw_s2n, rw_g3, rw_s3, sS_s, sS_n, sS_a, sS_l, sS_k, lS_l, lS_1, lS_a, lS_k, nI_eq, nI_leI, nI_ltI, nI_add, pk_mul, nN_e, nN_e', nN_l, nN_g, nN_le, nN_ge, ite_not, if_true, if_false, not_true_eq_false, not_false_eq_true, Nat.not_lt_zero, Nat.reduceEqDiff, Nat.reduceLT, Nat.reduceLeDiff, Nat.reduceAdd, Nat.zero_le, ite_self, reduceCtorEq, bI_t, bI_f, bI_z, bI_1, if_pos, if_neg, k5]
    refine ⟨rfl, fy, fun a ha => upN (by omega), Nat.lt_succ_self _, Or.inl ⟨e, e, k5, b2, k4, b1, b2, ?_, ⟨?_, ?_⟩, ?_⟩⟩
    · exact hL _ (by rw [nx_r]; exact ⟨rfl, h14, fz⟩)
    · show H.2.2.1 + 1 + 2 * p ≤ H.2.2.1 + 2 * e + 1
      omega
    · show H.2.2.2 + 10 + 14 * p ≤ H.2.2.2 + 14 * e + 10
      omega
    · exact ⟨_, _, _, _, _, _, _, _, _, _, upS _ _ _⟩
  | inr z =>
    obtain ⟨q, B'⟩ := z
    rw [hx] at k2 hP hE1
    have c2 := PoC_CI c1 k2
    obtain ⟨k3, k4, k5, k6⟩ := k2
    obtain ⟨b1, b2, b3⟩ := hE1
    simp (disch := first | omega | assumption) only [n_lit, n_m1, t_S, t_s, ↓t_if, t_pure, t_rI, t_riI, t_rt, t_go, nt_l, nt_r, t_nn, t_nul0, t_nul1, rp_g0, rp_s0, rp_g1, rp_s1, rp_s1n, rp_g2, rp_s2, rp_g3, rp_s3, rp_g4, rp_s4, rp_g5, rp_s5, rp_g6, rp_s6z, rp_s6u, rp_g7, rp_s7z, rp_s7u, rp_g8, rp_s8z, rp_s8u, rp_g9, rp_s9, rp_s9n, rw_g0, rw_s0, rw_s0n, rw_g1, rw_s1, rw_s1n, rw_g2, rw_s2, rw_s2n, rw_g3, rw_s3, sS_s, sS_n, sS_a, sS_l, sS_k, lS_l, lS_1, lS_a, lS_k, nI_eq, nI_leI, nI_ltI, nI_add, pk_mul, nN_e, nN_e', nN_l, nN_g, nN_le, nN_ge, ite_not, if_true, if_false, not_true_eq_false, not_false_eq_true, Nat.not_lt_zero, Nat.reduceEqDiff, Nat.reduceLT, Nat.reduceLeDiff, Nat.reduceAdd, Nat.zero_le, ite_self, reduceCtorEq, bI_t, bI_f, bI_z, bI_1, if_pos, if_neg, k5]
    refine t_C (t_mono (e_ccount hf c2 b2) ?_)
    intro _ SC3 H3 k7
    obtain ⟨k8, k9, k10⟩ := k7
    have hK := @sCount_r (pe len tx) q (pe_lt hC.1.1) b2
    have fy3 := FrY_tr (FrY_P k8) fy
    cases hy : sCount (pe len tx) q with
    | inl e =>
      rw [hy] at k10 hK
      dsimp only at hP
      rw [hy] at hP
      obtain ⟨rfl, h14⟩ := hP
      obtain ⟨e1, e2, le', mo', en', pl', lz', rfl⟩ := k10
      obtain ⟨b4, b5⟩ := hK
      simp (disch := first | omega | assumption) only [n_lit, n_m1, t_S, t_s, ↓t_if, t_pure, t_rI, t_riI, t_rt, t_go, nt_l, nt_r, t_nn, t_nul0, t_nul1, rp_g0, rp_s0, rp_g1, rp_s1, rp_s1n, rp_g2, rp_s2, rp_g3, rp_s3, rp_g4, rp_s4, rp_g5, rp_s5, rp_g6, rp_s6z, rp_s6u, rp_g7, rp_s7z, rp_s7u, rp_g8, rp_s8z, rp_s8u, rp_g9, rp_s9, rp_s9n, rw_g0, rw_s0, rw_s0n, rw_g1, rw_s1, rw_s1n, rw_g2, rw_s2, rw_s2n, rw_g3, rw_s3, sS_s, sS_n, sS_a, sS_l, sS_k, lS_l, lS_1, lS_a, lS_k, nI_eq, nI_leI, nI_ltI, nI_add, pk_mul, nN_e, nN_e', nN_l, nN_g, nN_le, nN_ge, ite_not, if_true, if_false, not_true_eq_false, not_false_eq_true, Nat.not_lt_zero, Nat.reduceEqDiff, Nat.reduceLT, Nat.reduceLeDiff, Nat.reduceAdd, Nat.zero_le, ite_self, reduceCtorEq, bI_t, bI_f, bI_z, bI_1, if_pos, if_neg]
      refine ⟨rfl, fy3, fun a ha => upN (by omega), Nat.lt_succ_self _, Or.inl ⟨e, e, e2, b5, e1, by omega, b5, ?_, ⟨?_, ?_⟩, ?_⟩⟩
      · exact hL _ (by rw [nx_r]; exact ⟨rfl, h14, fz⟩)
      · show H.2.2.1 + 1 + 2 * p ≤ H.2.2.1 + 2 * e + 1
        omega
      · show H.2.2.2 + 10 + 14 * p ≤ H.2.2.2 + 14 * e + 10
        omega
      · exact ⟨_, _, _, _, _, _, _, _, _, _, upS _ _ _⟩
    | inr z =>
      obtain ⟨q2, how, le, mo, lz⟩ := z
      rw [hy] at k10 hK
      dsimp only at hP
      rw [hy] at hP
      obtain ⟨rfl, hM2, s11, s12, s13⟩ := hP
      obtain ⟨e1, e2, rfl⟩ := k10
      obtain ⟨b4, b5, b6, b7, b8, b9, b10⟩ := hK
      simp (disch := first | omega | assumption) only [n_lit, n_m1, t_S, t_s, ↓t_if, t_pure, t_rI, t_riI, t_rt, t_go, nt_l, nt_r, t_nn, t_nul0, t_nul1, rp_g0, rp_s0, rp_g1, rp_s1, rp_s1n, rp_g2, rp_s2, rp_g3, rp_s3, rp_g4, rp_s4, rp_g5, rp_s5, rp_g6, rp_s6z, rp_s6u, rp_g7, rp_s7z, rp_s7u, rp_g8, rp_s8z, rp_s8u, rp_g9, rp_s9, rp_s9n, rw_g0, rw_s0, rw_s0n, rw_g1, rw_s1, rw_s1n, rw_g2, rw_s2, rw_s2n, rw_g3, rw_s3, sS_s, sS_n, sS_a, sS_l, sS_k, lS_l, lS_1, lS_a, lS_k, nI_eq, nI_leI, nI_ltI, nI_add, pk_mul, nN_e, nN_e', nN_l, nN_g, nN_le, nN_ge, ite_not, if_true, if_false, not_true_eq_false, not_false_eq_true, Nat.not_lt_zero, Nat.reduceEqDiff, Nat.reduceLT, Nat.reduceLeDiff, Nat.reduceAdd, Nat.zero_le, ite_self, reduceCtorEq, bI_t, bI_f, bI_z, bI_1, if_pos, if_neg]
      have tA : tSg t N w u how le mo lz N = (2, [N + 1], how, le, mo, lz, w) := by
        unfold tSg
        rw [tU_s]
      have tB : tSg t N w u how le mo lz (N + 1) = (3, [], u, 0, 0, 0, N) := by
        unfold tSg
        rw [tU_n (by omega), tU_s]
      refine ⟨rfl, fy3, fun a ha => upN (by omega), Nat.lt_succ_self _, Or.inr ⟨SM', tSg t N w u how le mo lz, fun n => if n < N then W n else if n = N then wRep how le mo 1 else 1, fun n => if n < N then ad n else H.2.1, N + 2, q2, g, u + 1, B', ?_, fz, ?_, hM2, ?_, ?_, ?_, by omega, by omega, by omega, by omega, ?_, ?_, ?_, ?_, ?_, ?_, ⟨?_, ?_⟩, ?_⟩⟩
      · exact fun Q hQ => hL Q (by rw [nx_l]; exact hQ)
      · refine ⟨⟨TxC_Y hC.1.1 fy3, e1, e2, ?_, by omega, ?_⟩, ?_⟩
        · exact (k8.2.2 41 (by omega) (by omega)).trans c2.2.2.2.1
        · rw [k9]; exact k6
        · exact (k8.2.2 84 (by omega) (by omega)).trans ((k3.2.2 84 (by omega) (by omega)).trans ((sS_n (by omega)).trans hC.2))
      · exact ⟨b5, by omega, n3, by omega, n5⟩
      · intro s c hs
        rw [b3 s c (by omega)]
        exact hE s c (by omega)
      · intro i hi
        rw [s11, s12, s13]
        exact ⟨rfl, rfl, rfl⟩
      · intro n hn
        exact ⟨tSg_lt hw hn, if_pos hn, if_pos hn⟩
      · rw [tA]
      · intro n a b
        have hn : n = N ∨ n = N + 1 := by omega
        rcases hn with rfl | rfl
        · unfold NdO SN HN
          rw [tA]
          refine ⟨fun k hk => ?_, ⟨by omega, fun h => (by cases h), fun h => (by cases h), fun _ => ⟨n + 1, rfl, ?_, ?_, b6, b7, b8, b9, b10⟩, fun h => (by cases h), fun h => (by cases h)⟩, fun h => (by cases h), fun h => (by cases h)⟩
          · have : k = n + 1 := by simpa using hk
            omega
          · rw [tB]
            exact Or.inl rfl
          · dsimp only
            rw [if_neg (by omega), if_pos rfl, if_neg (by omega), if_neg (by omega)]
        · unfold NdO SN HN
          rw [tB]
          refine ⟨fun k hk => (by cases hk), ⟨by omega, fun h => (by cases h), fun h => (by cases h), fun h => (by cases h), fun _ => ⟨rfl, Nat.lt_succ_self u, ?_⟩, fun h => (by cases h)⟩, fun h => (by cases h), fun h => (by cases h)⟩
          dsimp only
          rw [if_neg (by omega), if_neg (by omega)]
      · refine ⟨fun n a b hn => ?_, fun n m a b c hn hm => ?_⟩
        · dsimp only
          rw [if_neg (by omega)]
          exact ⟨Nat.le_refl _, Nat.lt_succ_self _⟩
        · have : m = N + 1 := by omega
          subst this
          unfold isO at hm
          rw [tB] at hm
          rcases hm with h | h <;> cases h
      · exact if_neg (by omega)
      · unfold rpOb
        have e3 : k0 (tSg t N w u how le mo lz N) = N + 1 := by
          rw [tA]
          rfl
        rw [e3, tB, if_pos rfl, tA]
        exact upS _ _ _
      · show H.2.2.1 + 1 + 2 * p ≤ H.2.2.1 + 2 * q2 + 0
        omega
      · show H.2.2.2 + 10 + 14 * p ≤ H.2.2.2 + 14 * q2 + 0
        omega
      · refine ⟨fun _ => d, rfl, rfl, fun n a b => ⟨n5, fun k hk => ?_⟩⟩
        have hn : n = N ∨ n = N + 1 := by omega
        rcases hn with rfl | rfl
        · rw [tA] at hk
          have : k = n + 1 := by simpa using hk
          subst this
          rw [tB]
          rfl
        · rw [tB] at hk
          cases hk
end SC
