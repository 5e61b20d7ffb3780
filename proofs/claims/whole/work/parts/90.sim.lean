/-! READING: class and reference side by side; the reference's turns of its loop -/
def okL (SM : qSt) (Q : Int32 → qSt → Prop) : Prop := okS (w_fix b_Md_read (49, [], [])) SM Q
def FrY (S S' : qSt) : Prop := S'.2.1 = S.2.1 ∧ S'.2.2.2 = S.2.2.2 ∧ ∀ f, f ≠ 41 → f ≠ 83 → f ≠ 84 → f ≠ 85 → S'.1 f = S.1 f
def FrZ (S S' : qSt) : Prop := S'.2.2 = S.2.2 ∧ (∀ f, f ≠ 4 → f ≠ 14 → f ≠ 15 → f ≠ 19 → f ≠ 20 → S'.1 f = S.1 f) ∧ (∀ f, f < 2 ∨ f = 10 ∨ 14 < f → S'.2.1 f = S.2.1 f)
def Ld (SM SM' : qSt) : Prop := ∀ Q, okL SM' Q → okL SM Q
def ErM (SM : qSt) (e : Nat) : Prop := okL SM (fun v S' => v = nI 0 ∧ S'.1 14 = nI e ∧ FrZ SM S')
def MH (SM : qSt) (len : Nat) (tx : Nat → Nat) (p u g N d : Nat) (t : Nat → ND) (B : MBf) : Prop := TxM SM len tx ∧ SM.1 14 = nI p ∧ SM.1 15 = nI d ∧ SM.1 19 = nI g ∧ SM.1 20 = nI u ∧ SM.1 4 = nI N ∧ MM (SM.2.1 14) B u ∧ RT SM t N
def CH (SC : qSt) (len : Nat) (tx : Nat → Nat) (p u g : Nat) (B : MBf) : Prop := CI SC len tx p u B ∧ SC.1 84 = nI g
def NB (p u g N d : Nat) : Prop := p ≤ 48 ∧ u ≤ p ∧ g ≤ 6 ∧ N ≤ 2 + 2 * p + 2 * g ∧ d ≤ 8
def BE (B : MBf) (u : Nat) : Prop := ∀ s c, u ≤ s → B s c = false
def Ctr (H H' : qH) (p q x y : Nat) : Prop := H'.2.2.1 + 2 * p ≤ H.2.2.1 + 2 * q + x ∧ H'.2.2.2 + 14 * p ≤ H.2.2.2 + 14 * q + y
def StK (SM SM' : qSt) (d : Nat) : Prop := ∀ i, i ≤ d → SM'.2.1 11 i = SM.2.1 11 i ∧ SM'.2.1 12 i = SM.2.1 12 i ∧ (i < d → SM'.2.1 13 i = SM.2.1 13 i)
theorem FrY_rf (S : qSt) : FrY S S := ⟨rfl, rfl, fun f _ _ _ _ => rfl⟩
theorem FrY_tr {S S1 S2 : qSt} (h2 : FrY S1 S2) (h1 : FrY S S1) : FrY S S2 := ⟨h2.1.trans h1.1, h2.2.1.trans h1.2.1, fun f a b c d => (h2.2.2 f a b c d).trans (h1.2.2 f a b c d)⟩
theorem FrY_P {S S' : qSt} (h : FrP S S') : FrY S S' := ⟨h.1, h.2.1, fun f _ b _ d => h.2.2 f b d⟩
theorem FrZ_rf (S : qSt) : FrZ S S := ⟨rfl, fun f _ _ _ _ _ => rfl, fun f _ => rfl⟩
theorem FrZ_tr {S S1 S2 : qSt} (h2 : FrZ S1 S2) (h1 : FrZ S S1) : FrZ S S2 := ⟨h2.1.trans h1.1, fun f a b c d e => (h2.2.1 f a b c d e).trans (h1.2.1 f a b c d e), fun f a => (h2.2.2 f a).trans (h1.2.2 f a)⟩
theorem FrZ_S {S S' : qSt} (h : FrS S S') : FrZ S S' := ⟨h.1, fun f a b _ _ c => h.2.1 f a b c, fun f a => h.2.2 f (by omega)⟩
theorem FrZ_N {S S' : qSt} (h : FrN S S') : FrZ S S' := FrZ_S (FrS_N h)
theorem FrZ_J {r : Nat} {S S' : qSt} (h : FrJj r S S') : FrZ S S' := ⟨h.1, fun f _ b _ _ _ => h.2.1 f b, fun f a => h.2.2.1 f (by omega)⟩
theorem Ld_rf (S : qSt) : Ld S S := fun _ h => h
theorem Ld_tr {S S1 S2 : qSt} (h1 : Ld S S1) (h2 : Ld S1 S2) : Ld S S2 := fun Q h => h1 Q (h2 Q h)
theorem Er_Ld {S S1 : qSt} {e : Nat} (h : ErM S1 e) (h1 : Ld S S1) (h2 : FrZ S S1) : ErM S e := by
  refine h1 _ (ok_mono h ?_)
  rintro v S' ⟨a, b, c⟩
  exact ⟨a, b, FrZ_tr c h2⟩
theorem StK_rf (S : qSt) (d : Nat) : StK S S d := fun i _ => ⟨rfl, rfl, fun _ => rfl⟩
theorem StK_tr {S S1 S2 : qSt} {d : Nat} (h2 : StK S1 S2 d) (h1 : StK S S1 d) : StK S S2 d := fun i hi => ⟨(h2 i hi).1.trans (h1 i hi).1, (h2 i hi).2.1.trans (h1 i hi).2.1, fun k => ((h2 i hi).2.2 k).trans ((h1 i hi).2.2 k)⟩
theorem TxC_Y {S S' : qSt} {len : Nat} {tx : Nat → Nat} (h : TxC S len tx) (f : FrY S S') : TxC S' len tx := ⟨h.1, (f.2.2 82 (by omega) (by omega) (by omega) (by omega)).trans h.2.1, fun i hi => by rw [f.1]; exact h.2.2 i hi⟩
theorem Ld_of {SM : qSt} {P : qJ ⊕ Int32 → qSt → Prop} (h : okS k_Md_read_49 SM P) : ∃ r S', P r S' ∧ ∀ Q, nxS b_Md_read Q r S' → okL SM Q := by
  obtain ⟨r, S', h1, h2⟩ := h
  exact ⟨r, S', h2, fun Q k => ok_fix ⟨r, S', h1, k⟩⟩
def tSg (t : Nat → ND) (N w u how le mo lz : Nat) : Nat → ND := tU (tU (tN (tN t N w 2) (N + 1) N 3) (N + 1) (3, [], u, 0, 0, 0, N)) N (2, [N + 1], how, le, mo, lz, w)
section MS
variable {SM : qSt} {len p u g N d w : Nat} {tx : Nat → Nat} {t : Nat → ND} {B : MBf}
theorem pm_len (h : pe len tx p ≠ 0) : p < len := by
  unfold pe at h
  split at h
  · assumption
  · exact absurd rfl h
theorem m_sign (hM : MH SM len tx p u g N d t B) (hB : NB p u g N d) (hE : BE B u) (h13 : SM.2.1 13 d = nI w) (hw : w < N) (hN : N < 218) (x0 : pe len tx p ≠ 0) (x1 : pe len tx p ≠ 40) (x2 : pe len tx p = 41 → d = 0) (x3 : pe len tx p ≠ 124) : okS k_Md_read_49 SM (fun r S' => FrZ SM S' ∧ (match sChars (pe len tx) u p B with
    | .inl e => r = .inr (nI 0) ∧ S'.1 14 = nI e
    | .inr (q, B') => match sCount (pe len tx) q with
      | .inl e => r = .inr (nI 0) ∧ S'.1 14 = nI e
      | .inr (q2, how, le, mo, lz) => r = .inl (49, [], []) ∧ MH S' len tx q2 (u + 1) g (N + 2) d (tSg t N w u how le mo lz) B' ∧ S'.2.1 11 = SM.2.1 11 ∧ S'.2.1 12 = SM.2.1 12 ∧ S'.2.1 13 = SM.2.1 13)) := by
  obtain ⟨m1, m2, m3, m4, m5, m6, m7, m8⟩ := hM
  obtain ⟨n1, n2, n3, n4, n5⟩ := hB
  have hl := pm_len x0
  have hlen := m1.2.1
  have hb := (@pm_le SM len p tx m1).1
  have hl48 := m1.1
  have core : okS k_Md_read_188 SM (fun r S' => FrZ SM S' ∧ (match sChars (pe len tx) u p B with
    | .inl e => r = .inr (nI 0) ∧ S'.1 14 = nI e
    | .inr (q, B') => match sCount (pe len tx) q with
      | .inl e => r = .inr (nI 0) ∧ S'.1 14 = nI e
      | .inr (q2, how, le, mo, lz) => r = .inl (49, [], []) ∧ MH S' len tx q2 (u + 1) g (N + 2) d (tSg t N w u how le mo lz) B' ∧ S'.2.1 11 = SM.2.1 11 ∧ S'.2.1 12 = SM.2.1 12 ∧ S'.2.1 13 = SM.2.1 13)) := by
    unfold k_Md_read_188
    simp (disch := omega) only [n_lit, n_m1, ok_S, ok_s, ok_N, ok_n, ↓ok_if, ok_A, ok_a, ok_L, ok_l, ok_zn0, ok_zn1, ok_f2, ok_pure, ok_rI, ok_bn0, ok_bn1, ok_rt, ok_riI, ok_rn0, ok_rn1, ok_go, nx_l, nx_r, sS_s, sS_n, sS_a, sS_l, sS_k, aS_s, aS_n, aS_1, aS_l, aS_k, lS_l, lS_1, lS_a, lS_k, nS_s, nS_n, nS_1, nS_a, nS_l, updS, updN, nI_eq, nI_leI, nI_ltI, nI_add, pk_mul, nN_e, nN_e', nN_l, nN_g, nN_le, nN_ge, ite_not, if_true, if_false, not_true_eq_false, not_false_eq_true, Nat.not_lt_zero, Nat.reduceEqDiff, Nat.reduceLT, Nat.reduceLeDiff, Nat.reduceAdd, Nat.zero_le, ite_self, reduceCtorEq, bI_t, bI_f, bI_z, bI_1, ok_bb, if_pos, if_neg, m3, h13]
    refine ok_C (e_node m8 m6 (by omega) hw (by decide) fun S1 f1 a1 r1 => ?_)
    have mi1 : MI S1 len tx p u B := by
      refine ⟨⟨m1.1, (f1.2.1 1 (by omega)).trans m1.2.1, fun i hi => by rw [f1.2.2 1 (by omega)]; exact m1.2.2 i hi⟩, (f1.2.1 14 (by omega)).trans m2, by omega, ?_⟩
      rw [f1.2.2 14 (by omega)]
      exact m7
    refine ok_C (ok_mono (e_sign r1 a1 (by omega) (Nat.lt_succ_self N) mi1 ((f1.2.1 20 (by omega)).trans m5) (by omega) (fun c => hE u c (Nat.le_refl u)) (by omega)) ?_)
    intro v S2 hP
    have hr := @sChars_r (pe len tx) u p B (pm_lt m1) n1
    unfold PoSg at hP
    cases hx : sChars (pe len tx) u p B with
    | inl e =>
      rw [hx] at hP
      obtain ⟨f2, rfl, b2⟩ := hP
      simp (disch := omega) only [n_lit, n_m1, ok_S, ok_s, ok_N, ok_n, ↓ok_if, ok_A, ok_a, ok_L, ok_l, ok_zn0, ok_zn1, ok_f2, ok_pure, ok_rI, ok_bn0, ok_bn1, ok_rt, ok_riI, ok_rn0, ok_rn1, ok_go, nx_l, nx_r, sS_s, sS_n, sS_a, sS_l, sS_k, aS_s, aS_n, aS_1, aS_l, aS_k, lS_l, lS_1, lS_a, lS_k, nS_s, nS_n, nS_1, nS_a, nS_l, updS, updN, nI_eq, nI_leI, nI_ltI, nI_add, pk_mul, nN_e, nN_e', nN_l, nN_g, nN_le, nN_ge, ite_not, if_true, if_false, not_true_eq_false, not_false_eq_true, Nat.not_lt_zero, Nat.reduceEqDiff, Nat.reduceLT, Nat.reduceLeDiff, Nat.reduceAdd, Nat.zero_le, ite_self, reduceCtorEq, bI_t, bI_f, bI_z, bI_1, ok_bb, if_pos, if_neg]
      exact ⟨FrZ_tr (FrZ_S f2) (FrZ_N f1), trivial, b2⟩
    | inr z =>
      obtain ⟨q, B'⟩ := z
      rw [hx] at hP hr
      obtain ⟨f2, rfl, b2, b3, b4, b5, b6⟩ := hP
      simp (disch := omega) only [n_lit, n_m1, ok_S, ok_s, ok_N, ok_n, ↓ok_if, ok_A, ok_a, ok_L, ok_l, ok_zn0, ok_zn1, ok_f2, ok_pure, ok_rI, ok_bn0, ok_bn1, ok_rt, ok_riI, ok_rn0, ok_rn1, ok_go, nx_l, nx_r, sS_s, sS_n, sS_a, sS_l, sS_k, aS_s, aS_n, aS_1, aS_l, aS_k, lS_l, lS_1, lS_a, lS_k, nS_s, nS_n, nS_1, nS_a, nS_l, updS, updN, nI_eq, nI_leI, nI_ltI, nI_add, pk_mul, nN_e, nN_e', nN_l, nN_g, nN_le, nN_ge, ite_not, if_true, if_false, not_true_eq_false, not_false_eq_true, Nat.not_lt_zero, Nat.reduceEqDiff, Nat.reduceLT, Nat.reduceLeDiff, Nat.reduceAdd, Nat.zero_le, ite_self, reduceCtorEq, bI_t, bI_f, bI_z, bI_1, ok_bb, if_pos, if_neg]
      have tN2 : tU (tN (tN t N w 2) (N + 1) N 3) (N + 1) (3, [], u, 0, 0, 0, N) N = (2, [N + 1], 0, 0, 0, 0, w) := by
        have e1 : tN t N w 2 N = (2, [], 0, 0, 0, 0, w) := by
          unfold tN
          rw [tU_n (by omega), tU_s]
        rw [tU_n (by omega)]
        unfold tN
        rw [tU_s]
        have e2 : tU (tU t N (2, [], 0, 0, 0, 0, w)) w (kid (t w) N) N = (2, [], 0, 0, 0, 0, w) := e1
        rw [e2]
        rfl
      have tx2 : TxM S2 len tx := ⟨m1.1, (f2.2.1 1 (by omega) (by omega) (by omega)).trans mi1.1.2.1, fun i hi => by rw [f2.2.2 1 (by omega)]; exact mi1.1.2.2 i hi⟩
      refine ok_C (ok_mono (e_mcount b6 (show N < N + 1 + 1 by omega) (by omega) tx2 b2 hr.2.1 (by rw [tN2]; exact ⟨rfl, rfl, rfl, rfl⟩)) ?_)
      intro v S3 hP
      unfold PoCt at hP
      cases hy : sCount (pe len tx) q with
      | inl e =>
        rw [hy] at hP
        obtain ⟨f3, rfl, b7⟩ := hP
        simp (disch := omega) only [n_lit, n_m1, ok_S, ok_s, ok_N, ok_n, ↓ok_if, ok_A, ok_a, ok_L, ok_l, ok_zn0, ok_zn1, ok_f2, ok_pure, ok_rI, ok_bn0, ok_bn1, ok_rt, ok_riI, ok_rn0, ok_rn1, ok_go, nx_l, nx_r, sS_s, sS_n, sS_a, sS_l, sS_k, aS_s, aS_n, aS_1, aS_l, aS_k, lS_l, lS_1, lS_a, lS_k, nS_s, nS_n, nS_1, nS_a, nS_l, updS, updN, nI_eq, nI_leI, nI_ltI, nI_add, pk_mul, nN_e, nN_e', nN_l, nN_g, nN_le, nN_ge, ite_not, if_true, if_false, not_true_eq_false, not_false_eq_true, Nat.not_lt_zero, Nat.reduceEqDiff, Nat.reduceLT, Nat.reduceLeDiff, Nat.reduceAdd, Nat.zero_le, ite_self, reduceCtorEq, bI_t, bI_f, bI_z, bI_1, ok_bb, if_pos, if_neg]
        exact ⟨FrZ_tr (FrZ_J f3) (FrZ_tr (FrZ_S f2) (FrZ_N f1)), trivial, b7⟩
      | inr z =>
        obtain ⟨q2, how, le, mo, lz⟩ := z
        rw [hy] at hP
        obtain ⟨f3, rfl, b7, b8⟩ := hP
        rw [tN2] at b8
        simp (disch := omega) only [n_lit, n_m1, ok_S, ok_s, ok_N, ok_n, ↓ok_if, ok_A, ok_a, ok_L, ok_l, ok_zn0, ok_zn1, ok_f2, ok_pure, ok_rI, ok_bn0, ok_bn1, ok_rt, ok_riI, ok_rn0, ok_rn1, ok_go, nx_l, nx_r, sS_s, sS_n, sS_a, sS_l, sS_k, aS_s, aS_n, aS_1, aS_l, aS_k, lS_l, lS_1, lS_a, lS_k, nS_s, nS_n, nS_1, nS_a, nS_l, updS, updN, nI_eq, nI_leI, nI_ltI, nI_add, pk_mul, nN_e, nN_e', nN_l, nN_g, nN_le, nN_ge, ite_not, if_true, if_false, not_true_eq_false, not_false_eq_true, Nat.not_lt_zero, Nat.reduceEqDiff, Nat.reduceLT, Nat.reduceLeDiff, Nat.reduceAdd, Nat.zero_le, ite_self, reduceCtorEq, bI_t, bI_f, bI_z, bI_1, ok_bb, if_pos, if_neg]
        refine ⟨FrZ_tr (FrZ_J f3) (FrZ_tr (FrZ_S f2) (FrZ_N f1)), trivial, ⟨TxM_K tx2 f3, b7, ?_, ?_, ?_, ?_, ?_, b8⟩, ?_, ?_, ?_⟩
        · exact (f3.2.1 15 (by omega)).trans ((f2.2.1 15 (by omega) (by omega) (by omega)).trans ((f1.2.1 15 (by omega)).trans m3))
        · exact (f3.2.1 19 (by omega)).trans ((f2.2.1 19 (by omega) (by omega) (by omega)).trans ((f1.2.1 19 (by omega)).trans m4))
        · exact (f3.2.1 20 (by omega)).trans b3
        · exact (f3.2.1 4 (by omega)).trans b4
        · rw [f3.2.2.1 14 (by omega)]; exact b5
        · exact (f3.2.2.1 11 (by omega)).trans ((f2.2.2 11 (by omega)).trans (f1.2.2 11 (by omega)))
        · exact (f3.2.2.1 12 (by omega)).trans ((f2.2.2 12 (by omega)).trans (f1.2.2 12 (by omega)))
        · exact (f3.2.2.1 13 (by omega)).trans ((f2.2.2 13 (by omega)).trans (f1.2.2 13 (by omega)))
  unfold k_Md_read_49
  simp (disch := omega) only [n_lit, n_m1, ok_S, ok_s, ok_N, ok_n, ↓ok_if, ok_A, ok_a, ok_L, ok_l, ok_zn0, ok_zn1, ok_f2, ok_pure, ok_rI, ok_bn0, ok_bn1, ok_rt, ok_riI, ok_rn0, ok_rn1, ok_go, nx_l, nx_r, sS_s, sS_n, sS_a, sS_l, sS_k, aS_s, aS_n, aS_1, aS_l, aS_k, lS_l, lS_1, lS_a, lS_k, nS_s, nS_n, nS_1, nS_a, nS_l, updS, updN, nI_eq, nI_leI, nI_ltI, nI_add, pk_mul, nN_e, nN_e', nN_l, nN_g, nN_le, nN_ge, ite_not, if_true, if_false, not_true_eq_false, not_false_eq_true, Nat.not_lt_zero, Nat.reduceEqDiff, Nat.reduceLT, Nat.reduceLeDiff, Nat.reduceAdd, Nat.zero_le, ite_self, reduceCtorEq, bI_t, bI_f, bI_z, bI_1, ok_bb, if_pos, if_neg, m2, hlen]
  refine ok_C (e_hereR m1 (by omega) ?_)
  by_cases x4 : pe len tx p = 41
  · have := x2 x4
    subst this
    simp (disch := omega) only [n_lit, n_m1, ok_S, ok_s, ok_N, ok_n, ↓ok_if, ok_A, ok_a, ok_L, ok_l, ok_zn0, ok_zn1, ok_f2, ok_pure, ok_rI, ok_bn0, ok_bn1, ok_rt, ok_riI, ok_rn0, ok_rn1, ok_go, nx_l, nx_r, sS_s, sS_n, sS_a, sS_l, sS_k, aS_s, aS_n, aS_1, aS_l, aS_k, lS_l, lS_1, lS_a, lS_k, nS_s, nS_n, nS_1, nS_a, nS_l, updS, updN, nI_eq, nI_leI, nI_ltI, nI_add, pk_mul, nN_e, nN_e', nN_l, nN_g, nN_le, nN_ge, ite_not, if_true, if_false, not_true_eq_false, not_false_eq_true, Nat.not_lt_zero, Nat.reduceEqDiff, Nat.reduceLT, Nat.reduceLeDiff, Nat.reduceAdd, Nat.zero_le, ite_self, reduceCtorEq, bI_t, bI_f, bI_z, bI_1, ok_bb, if_pos, if_neg, x4, x3, x1, m3]
    exact core
  · simp (disch := omega) only [n_lit, n_m1, ok_S, ok_s, ok_N, ok_n, ↓ok_if, ok_A, ok_a, ok_L, ok_l, ok_zn0, ok_zn1, ok_f2, ok_pure, ok_rI, ok_bn0, ok_bn1, ok_rt, ok_riI, ok_rn0, ok_rn1, ok_go, nx_l, nx_r, sS_s, sS_n, sS_a, sS_l, sS_k, aS_s, aS_n, aS_1, aS_l, aS_k, lS_l, lS_1, lS_a, lS_k, nS_s, nS_n, nS_1, nS_a, nS_l, updS, updN, nI_eq, nI_leI, nI_ltI, nI_add, pk_mul, nN_e, nN_e', nN_l, nN_g, nN_le, nN_ge, ite_not, if_true, if_false, not_true_eq_false, not_false_eq_true, Nat.not_lt_zero, Nat.reduceEqDiff, Nat.reduceLT, Nat.reduceLeDiff, Nat.reduceAdd, Nat.zero_le, ite_self, reduceCtorEq, bI_t, bI_f, bI_z, bI_1, ok_bb, if_pos, if_neg, x4, x3, x1]
    exact core
end MS
