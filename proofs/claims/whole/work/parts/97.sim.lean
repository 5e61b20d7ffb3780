/-! READING: class and reference side by side; a group; any choice at any depth -/
section GG
variable {SC SM : qSt} {H : qH} {len p u g N d w o : Nat} {tx : Nat → Nat} {t : Nat → ND} {W ad : Nat → Nat} {B : MBf} {G G3 : Nat → Option Nat → Int32 → qW (Option Nat)}
theorem r_group (hG : ∀ b, G 2 (some b) (nI d) = w_C (f_Pa_readGroup o G3 (some b) (nI d)) fun _ => w_pure none) (ih : d < 8 → SimC o len tx (d + 1) (G3 0 none (nI (d + 1)))) (hC : CH SC len tx p u g B) (hM : MH SM len tx p u g N d t B) (hB : NB p u g N d) (hE : BE B u) (h13 : SM.2.1 13 d = nI w) (hw : w < N) (hH : o + 21 ≤ H.2.1) (x : pe len tx p = 40) : okT (f_Pa_readRepeat o G (nI d)) SC H (RPost len tx w d SC SM H t W ad N p g u) := by
  have hb := @pe_le SC len p tx hC.1.1
  obtain ⟨n1, n2, n3, n4, n5⟩ := hB
  have hp := (hb.2 (by omega)).1
  have hf := far_of hH
  obtain ⟨rr, SM1, ⟨fz1, hP⟩, hL⟩ := Ld_of (m_open hM ⟨n1, n2, n3, n4, n5⟩ h13 hw (by omega) x)
  have hO := @sOpen_r (pe len tx) p g d (pe_lt hC.1.1) x n3
  unfold f_Pa_readRepeat
  rw [t_newP hf]
  refine t_C ?_
  unfold f_Rp_init
  simp (disch := first | omega | assumption) only [n_lit, n_m1, t_S, t_s, ↓t_if, t_pure, t_rI, t_riI, t_rt, t_go, nt_l, nt_r, t_nn, t_nul0, t_nul1, rp_g0, rp_s0, rp_g1, rp_s1, rp_s1n, rp_g2, rp_s2, rp_g3, rp_s3, rp_g4, rp_s4, rp_g5, rp_s5, rp_g6, rp_s6z, rp_s6u, rp_g7, rp_s7z, rp_s7u, rp_g8, rp_s8z, rp_s8u, rp_g9, rp_s9, rp_s9n, rw_g0, rw_s0, rw_s0n, rw_g1, rw_s1, rw_s1n, rw_g2, rw_s2, rw_s2n, rw_g3, rw_s3, sS_s, sS_n, sS_a, sS_l, sS_k, lS_l, lS_1, lS_a, lS_k, nI_eq, nI_leI, nI_ltI, nI_add, pk_mul, nN_e, nN_e', nN_l, nN_g, nN_le, nN_ge, ite_not, if_true, if_false, not_true_eq_false, not_false_eq_true, Nat.not_lt_zero, Nat.reduceEqDiff, Nat.reduceLT, Nat.reduceLeDiff, Nat.reduceAdd, Nat.zero_le, ite_self, reduceCtorEq, bI_t, bI_f, bI_z, bI_1, if_pos, if_neg]
  refine t_O (e_peek hC.1 (by omega) ?_)
  rw [t_f (c := ¬ pv (pe len tx p) = 40) (fun q => q (pv_y 40 hb.1 (by decide) (by decide) x)), hG]
  refine t_C (t_C ?_)
  refine g_open hf hC n3 n5 x (fun e S' he fy e85 e83 => ?_) (fun q num S1 he fy hC1 => ?_)
  · rw [he] at hP hO
    obtain ⟨rfl, h14⟩ := hP
    obtain ⟨o1, o2⟩ := hO
    rw [t_pure]
    unfold k_Pa_readRepeat_64
    simp (disch := first | omega | assumption) only [n_lit, n_m1, t_S, t_s, ↓t_if, t_pure, t_rI, t_riI, t_rt, t_go, nt_l, nt_r, t_nn, t_nul0, t_nul1, rp_g0, rp_s0, rp_g1, rp_s1, rp_s1n, rp_g2, rp_s2, rp_g3, rp_s3, rp_g4, rp_s4, rp_g5, rp_s5, rp_g6, rp_s6z, rp_s6u, rp_g7, rp_s7z, rp_s7u, rp_g8, rp_s8z, rp_s8u, rp_g9, rp_s9, rp_s9n, rw_g0, rw_s0, rw_s0n, rw_g1, rw_s1, rw_s1n, rw_g2, rw_s2, rw_s2n, rw_g3, rw_s3, sS_s, sS_n, sS_a, sS_l, sS_k, lS_l, lS_1, lS_a, lS_k, nI_eq, nI_leI, nI_ltI, nI_add, pk_mul, nN_e, nN_e', nN_l, nN_g, nN_le, nN_ge, ite_not, if_true, if_false, not_true_eq_false, not_false_eq_true, Nat.not_lt_zero, Nat.reduceEqDiff, Nat.reduceLT, Nat.reduceLeDiff, Nat.reduceAdd, Nat.zero_le, ite_self, reduceCtorEq, bI_t, bI_f, bI_z, bI_1, if_pos, if_neg, e85]
    refine ⟨rfl, fy, fun a ha => upN (by omega), Nat.lt_succ_self _, Or.inl ⟨e, e, e85, o2, e83, o1, o2, ?_, ⟨?_, ?_⟩, ?_⟩⟩
    · exact hL _ (by rw [nx_r]; exact ⟨rfl, h14, fz1⟩)
    · show H.2.2.1 + 1 + 2 * p ≤ H.2.2.1 + 2 * e + 1
      omega
    · show H.2.2.2 + 10 + 14 * p ≤ H.2.2.2 + 14 * e + 10
      omega
    · exact ⟨_, _, _, _, _, _, _, _, _, _, upS _ _ _⟩
  rw [he] at hP hO
  obtain ⟨rfl, hM1, s11, s12, s13⟩ := hP
  obtain ⟨o1, o2, o3, o4, o5⟩ := hO
  have hd : d < 8 := by omega
  obtain ⟨v1, v2, v3, v4, v5⟩ := @tOp_v N w num t hw
  have L1 : Ld SM SM1 := fun Q hQ => hL Q (by rw [nx_l]; exact hQ)
  generalize hg1 : (if num = 0 then g else g + 1) = g1 at hC1 hM1
  have hg1' : g ≤ g1 ∧ g1 ≤ 6 ∧ N + 4 ≤ 2 + 2 * q + 2 * g1 ∧ num ≤ g1 := by
    rcases o5 with ⟨a, b⟩ | a
    · rw [if_pos a] at hg1
      omega
    · rw [if_neg (by omega)] at hg1
      omega
  unfold k_Pa_readGroup_83
  rw [t_S, t_t (c := S1.1 85 = -1) hC1.1.2.2.1, show (nI d + 1 : Int32) = nI (d + 1) from nI_add d 1]
  have hf1 : o + 21 ≤ H.2.1 + 1 := by omega
  have simc := ih hd (N + 1 + 1) S1 SM1 (q_up H.1 H.2.1 (oP nN none (nI num) (nI 1) (nI 1) (nI 1) (nI 0) (nI 0) (nI 0) none), H.2.1 + 1, H.2.2.1 + 1, H.2.2.2 + 10) (tOp t N w num) q g1 u B hC1 hM1 ⟨o2, by omega, by omega, by omega, by omega⟩ hE (by rw [s12, updS]) (by rw [s13, updS]) (by rw [v3]) (by rw [v3]) (by rw [v4]) (by rw [v4]) hf1
  refine t_C (t_mono simc ?_)
  rintro r SC2 H2 ⟨rfl, fy2, hfr2, hlt2, hP2⟩
  have hfr2' : ∀ a, a < H.2.1 + 1 → H2.1 a = q_up H.1 H.2.1 (oP nN none (nI num) (nI 1) (nI 1) (nI 1) (nI 0) (nI 0) (nI 0) none) a := fun a ha => (hfr2 a ha).trans (upN (by show a ≠ H.2.1 + 1; omega))
  have hb2 : H2.1 H.2.1 = some (oP nN none (nI num) (nI 1) (nI 1) (nI 1) (nI 0) (nI 0) (nI 0) none) := (hfr2' _ (by omega)).trans (upS _ _ _)
  have fyA := FrY_tr fy2 fy
  have hlt3 : H.2.1 + 1 + 1 ≤ H2.2.1 := hlt2
  -- what is left when there is an error
  have bad : ∀ (e q' : Nat) (S3 : qSt) (az : Int32), FrY SC S3 → S3.1 85 = nI e → e ≤ 48 → S3.1 83 = nI q' → p ≤ q' → q' ≤ 48 → ErM SM e → H2.2.2.1 + 2 * p ≤ H.2.2.1 + 2 * q' + 1 → H2.2.2.2 + 14 * p ≤ H.2.2.2 + 14 * q' + 10 → okT (w_pure (none : Option Nat)) S3 (q_up H2.1 H.2.1 (oP nN (some (H.2.1 + 1)) (nI num) az (nI 1) (nI 1) (nI 0) (nI 0) (nI 0) none), H2.2) (fun _ S1 H1 => okT (k_Pa_readRepeat_64 o G (some H.2.1)) S1 H1 (RPost len tx w d SC SM H t W ad N p g u)) := by
    intro e q' S3 az z1 z2 z3 z4 z5 z6 z7 z8 z9
    rw [t_pure]
    unfold k_Pa_readRepeat_64
    simp (disch := first | omega | assumption) only [n_lit, n_m1, t_S, t_s, ↓t_if, t_pure, t_rI, t_riI, t_rt, t_go, nt_l, nt_r, t_nn, t_nul0, t_nul1, rp_g0, rp_s0, rp_g1, rp_s1, rp_s1n, rp_g2, rp_s2, rp_g3, rp_s3, rp_g4, rp_s4, rp_g5, rp_s5, rp_g6, rp_s6z, rp_s6u, rp_g7, rp_s7z, rp_s7u, rp_g8, rp_s8z, rp_s8u, rp_g9, rp_s9, rp_s9n, rw_g0, rw_s0, rw_s0n, rw_g1, rw_s1, rw_s1n, rw_g2, rw_s2, rw_s2n, rw_g3, rw_s3, sS_s, sS_n, sS_a, sS_l, sS_k, lS_l, lS_1, lS_a, lS_k, nI_eq, nI_leI, nI_ltI, nI_add, pk_mul, nN_e, nN_e', nN_l, nN_g, nN_le, nN_ge, ite_not, if_true, if_false, not_true_eq_false, not_false_eq_true, Nat.not_lt_zero, Nat.reduceEqDiff, Nat.reduceLT, Nat.reduceLeDiff, Nat.reduceAdd, Nat.zero_le, ite_self, reduceCtorEq, bI_t, bI_f, bI_z, bI_1, if_pos, if_neg, z2]
    refine ⟨rfl, z1, fun a ha => ?_, by show H.2.1 < H2.2.1; omega, Or.inl ⟨e, q', z2, z3, z4, z5, z6, z7, ⟨z8, z9⟩, ?_⟩⟩
    · exact (upN (by omega)).trans ((hfr2' a (by omega)).trans (upN (by omega)))
    · exact ⟨_, _, _, _, _, _, _, _, _, _, upS _ _ _⟩
  rcases hP2 with ⟨e, q', s0, rs, b1, b2, b3, b4, b5, b6, ⟨b7, b7'⟩, b8, b9⟩ | ⟨SM2, t2, W2, ad2, N2, p2, g2, u2, B2, w2, b1, b2, b3, b4, b5, b6, b7, b8, b9, ⟨b10, b10'⟩⟩
  · have b7a : H2.2.2.1 + 2 * q ≤ H.2.2.1 + 1 + 1 + 2 * q' + 1 := b7
    have b7b : H2.2.2.2 + 14 * q ≤ H.2.2.2 + 10 + 4 + 14 * q' + 10 := b7'
    have er := Er_Ld b6 L1 fz1
    have hr1 : ∀ S3 : qSt, FrY SC S3 → S3.1 85 = nI e → ∀ q3, S3.1 83 = nI q3 → q' ≤ q3 → q3 ≤ 48 → okT (w_nn (some H.2.1) fun p3 => w_d o p3 4 1 (.object "PatternWalk$Row") (va_rf (some (H.2.1 + 1))) <| w_nn (some (H.2.1 + 1)) fun p4 => w_is p4 o 5 <| w_C (f_Rw_sizeAsChoice o p4) fun x5 => w_DI o p3 4 2 fun x6 => w_if (x6 ≤ 0) (w_d o p3 4 3 .int (.int (x5 + 0)) <| w_pure ()) (w_d o p3 4 3 .int (.int (x5 + 2)) <| w_pure ())) S3 H2 (fun _ S1 H1 => okT (w_pure (none : Option Nat)) S1 H1 (fun _ S1 H1 => okT (k_Pa_readRepeat_64 o G (some H.2.1)) S1 H1 (RPost len tx w d SC SM H t W ad N p g u))) := by
      intro S3 y1 y2 q3 y3 y4 y5
      exact g_tail hb2 b8 b9 (Nat.lt_succ_self _) hH o4 (bad e q3 S3 _ y1 y2 b2 y3 (by omega) y5 er (by omega) (by omega))
    refine t_O (e_expE (a := 41) (TxC_Y hC.1.1 fyA) b3 b1 (by omega) (by omega) (by decide) (by decide) (fun h41 => ?_) (fun h41 => ?_))
    · have := pe_lt (TxC_Y hC.1.1 fyA) q' (by omega)
      exact hr1 _ (FrY_tr (FrY_P (FrP_83 _ _)) fyA) ((sS_n (by omega)).trans b1) (q' + 1) sS_s (by omega) (by omega)
    · exact hr1 _ fyA b1 q' b3 (by omega) b5
  · have b10a : H2.2.2.1 + 2 * q ≤ H.2.2.1 + 1 + 1 + 2 * p2 + 0 := b10
    have b10b : H2.2.2.2 + 14 * q ≤ H.2.2.2 + 10 + 4 + 14 * p2 + 0 := b10'
    obtain ⟨hC2, hM2, ⟨m1, m2, m3, m4, m5⟩, hE2, g12, g13, l1, l2, l3, l4, l5, l6, hS2, hA2, hO2, hW2, hA02, dp, dp1, dp2, dp3⟩ := b3
    -- the rows of the inner choice
    obtain ⟨ka, ⟨_, kb, _⟩, kd, _⟩ := hS2 (N + 1 + 1) (Nat.le_refl _) (by omega)
    obtain ⟨kb1, kb2, kb3⟩ := kb l3
    cases hk : (t2 (N + 1 + 1)).2.1 with
    | nil => exact absurd hk kb1
    | cons k1 kr =>
      have hk1 : k1 = N + 1 + 1 + 1 := by
        rw [hk] at l6
        injection l6
      have szc := SzC_of (kd l3)
      rw [hk] at szc
      have szv := szF_n W2 ad2 kr (W2 k1)
      have hW3 : W2 k1 + sumW W2 kr + 2 * kr.length = W2 (N + 1 + 1) := by
        rw [hk] at kb3
        have e1 : sumW W2 (k1 :: kr) = W2 k1 + sumW W2 kr := by
          unfold sumW
          simp
        rw [e1] at kb3
        simp only [List.length_cons] at kb3
        omega
      rw [hW3] at szv
      have adk : ad2 k1 = H.2.1 + 1 := by
        rw [hk1]
        exact hA02
      have szc' : SzC H2.1 ((H.2.1 + 1, nI (min 1000 (W2 k1))) :: kr.map (fun x => (ad2 x, nI (min 1000 (W2 x))))) := by
        rw [← adk]
        exact szc
      have lows : ∀ y ∈ (H.2.1 + 1, nI (min 1000 (W2 k1))) :: kr.map (fun x => (ad2 x, nI (min 1000 (W2 x)))), H.2.1 + 1 ≤ y.1 := by
        intro y hy
        rcases List.mem_cons.mp hy with z | z
        · rw [z]
          exact Nat.le_refl _
        · obtain ⟨x', x1, x2⟩ := List.mem_map.mp z
          rw [← x2]
          have xin : x' ∈ (t2 (N + 1 + 1)).2.1 := by rw [hk]; simp [x1]
          have := ka x' xin
          exact (hA2.1 x' (by omega) (by omega) (Or.inl (kb2 x' xin))).1
      refine t_O (e_exp (a := 41) hC2.1 (by omega) (by decide) (by decide) (fun h41 => ?_) (fun h41 => ?_))
      · -- closed
        have hp2 := pe_lt (TxC_Y hC.1.1 fyA) p2 (by omega)
        refine g_tail hb2 szc' lows (Nat.lt_succ_self _) hH o4 ?_
        rw [t_pure]
        rw [szv, nI_add]
        have t2N : t2 N = (2, [N + 1], 0, 0, 0, 0, w) := (b5 N (by omega)).trans v1
        have t2M : t2 (N + 1) = (4, [N + 1 + 1], num, 0, 0, 0, N) := (b5 (N + 1) (by omega)).trans v2
        have s11' : SM2.2.1 11 (d + 1) = nI N := by rw [(b6 (d + 1) (Nat.le_refl _)).1, s11, updS]
        obtain ⟨rr, SM3, ⟨fz3, hP3⟩, hL3⟩ := Ld_of (m_close hM2 (by omega) s11' (by omega) (by omega) h41 (by rw [t2N]; exact ⟨rfl, rfl, rfl, rfl⟩))
        have hK := @sCount_r (pe len tx) (p2 + 1) (pe_lt hC.1.1) (by omega)
        unfold k_Pa_readRepeat_64
        have c3 := @CI_at SC2 len p2 (p2 + 1) u2 tx B2 hC2.1
        rw [t_S, t_f (c := ¬ (sS SC2 83 (nI (p2 + 1))).1 85 = -1) (fun z => z c3.2.2.1)]
        refine t_C (t_mono (e_ccount hf c3 (by omega)) ?_)
        rintro _ SC3 H3 ⟨k8, k9, k10⟩
        have fyB := FrY_tr (FrY_P k8) (FrY_tr (FrY_P (FrP_83 SC2 (nI (p2 + 1)))) fyA)
        rw [t_pure]
        cases hy : sCount (pe len tx) (p2 + 1) with
        | inl e =>
          rw [hy] at k10 hK hP3
          obtain ⟨rfl, h14⟩ := hP3
          obtain ⟨e1, e2, le', mo', en', pl', lz', rfl⟩ := k10
          obtain ⟨r4, r5⟩ := hK
          have er2 : ErM SM2 e := hL3 _ (by rw [nx_r]; exact ⟨rfl, h14, fz3⟩)
          refine ⟨rfl, fyB, fun a ha => ?_, by show H.2.1 < H2.2.1; omega, Or.inl ⟨e, e, e2, r5, e1, by omega, r5, Er_Ld (Er_Ld er2 b1 b2) L1 fz1, ⟨?_, ?_⟩, ?_⟩⟩
          · exact (upN (by omega)).trans ((hfr2' a (by omega)).trans (upN (by omega)))
          · show H2.2.2.1 + 2 * p ≤ H.2.2.1 + 2 * e + 1
            omega
          · show H2.2.2.2 + 14 * p ≤ H.2.2.2 + 14 * e + 10
            omega
          · exact ⟨_, _, _, _, _, _, _, _, _, _, upS _ _ _⟩
        | inr z =>
          obtain ⟨q2, how, le, mo, lz⟩ := z
          rw [hy] at k10 hK hP3
          obtain ⟨rfl, hM3, r11, r12, r13⟩ := hP3
          obtain ⟨e1, e2, rfl⟩ := k10
          obtain ⟨r4, r5, r6, r7, r8, r9, r10⟩ := hK
          rw [t2N] at hM3
          generalize ht3 : tU t2 N (2, [N + 1], how, le, mo, lz, w) = t3 at hM3
          have t3N : t3 N = (2, [N + 1], how, le, mo, lz, w) := by rw [← ht3, tU_s]
          have t3o : ∀ m, m ≠ N → t3 m = t2 m := fun m hm => by rw [← ht3, tU_n hm]
          have t3M : t3 (N + 1) = (4, [N + 1 + 1], num, 0, 0, 0, N) := (t3o _ (by omega)).trans t2M
          have t3C : t3 (N + 1 + 1) = t2 (N + 1 + 1) := t3o _ (by omega)
          have L3 : Ld SM SM3 := Ld_tr L1 (Ld_tr b1 (fun Q hQ => hL3 Q (by rw [nx_l]; exact hQ)))
          obtain ⟨W3, w31, w32, w33, w34⟩ : ∃ W3 : Nat → Nat, (∀ n, n < N → W3 n = W n) ∧ W3 N = wRep how le mo (W2 (N + 1 + 1) + if 0 < num then 2 else 0) ∧ W3 (N + 1) = W2 (N + 1 + 1) + (if 0 < num then 2 else 0) ∧ ∀ m, N + 1 < m → W3 m = W2 m := by
            refine ⟨fun n => if n < N then W n else if n = N then wRep how le mo (W2 (N + 1 + 1) + if 0 < num then 2 else 0) else if n = N + 1 then W2 (N + 1 + 1) + (if 0 < num then 2 else 0) else W2 n, fun n hn => if_pos hn, ?_, ?_, fun m hm => ?_⟩
            · dsimp only
              rw [if_neg (show ¬ N < N by omega), if_pos rfl]
            · dsimp only
              rw [if_neg (show ¬ N + 1 < N by omega), if_neg (show ¬ N + 1 = N by omega), if_pos rfl]
            · dsimp only
              rw [if_neg (show ¬ m < N by omega), if_neg (show ¬ m = N by omega), if_neg (show ¬ m = N + 1 by omega)]
          obtain ⟨ad3, d31, d32, d33⟩ : ∃ ad3 : Nat → Nat, (∀ n, n < N → ad3 n = ad n) ∧ ad3 N = H.2.1 ∧ ∀ m, N < m → ad3 m = ad2 m := by
            refine ⟨fun n => if n < N then ad n else if n = N then H.2.1 else ad2 n, fun n hn => if_pos hn, ?_, fun m hm => ?_⟩
            · dsimp only
              rw [if_neg (show ¬ N < N by omega), if_pos rfl]
            · dsimp only
              rw [if_neg (show ¬ m < N by omega), if_neg (show ¬ m = N by omega)]
          have noM : ¬ isO (t3 (N + 1)) := by
            unfold isO
            rw [t3M]
            intro h
            rcases h with h | h <;> cases h
          refine ⟨rfl, fyB, fun a ha => ?_, by show H.2.1 < H2.2.1; omega, Or.inr ⟨SM3, t3, W3, ad3, N2, q2, g2, u2, B2, L3, FrZ_tr fz3 (FrZ_tr b2 fz1), ?_, hM3, ⟨r5, by omega, m3, by omega, n5⟩, hE2, fun i hi => ?_, by omega, b8, by omega, by omega, fun n hn => ?_, by rw [t3N], ?_, ⟨?_, ?_⟩, d32, ?_, ⟨?_, ?_⟩, ?_⟩⟩
          · exact (upN (by omega)).trans ((hfr2' a (by omega)).trans (upN (by omega)))
          · refine ⟨⟨TxC_Y hC.1.1 fyB, e1, e2, ?_, hC2.1.2.2.2.2.1, ?_⟩, ?_⟩
            · exact (k8.2.2 41 (by omega) (by omega)).trans ((sS_n (by omega)).trans hC2.1.2.2.2.1)
            · rw [k9]; exact hC2.1.2.2.2.2.2
            · exact (k8.2.2 84 (by omega) (by omega)).trans ((sS_n (by omega)).trans hC2.2)
          · have z1 := b6 i (by omega)
            rw [r11, r12, r13, z1.1, z1.2.1, z1.2.2 (by omega), s11, s12, s13, updN (by omega), updN (by omega), updN (by omega)]
            exact ⟨rfl, rfl, rfl⟩
          · refine ⟨?_, w31 n hn, d31 n hn⟩
            rw [t3o n (by omega), b5 n (by omega), v5 n hn]
          · intro n a' b'
            by_cases eN : n = N
            · subst eN
              unfold NdO SN HN
              rw [t3N]
              refine ⟨fun k hk => ?_, ⟨by omega, fun h => (by cases h), fun h => (by cases h), fun _ => ⟨n + 1, rfl, ?_, ?_, r6, r7, r8, r9, r10⟩, fun h => (by cases h), fun h => (by cases h)⟩, fun h => (by cases h), fun h => (by cases h)⟩
              · have : k = n + 1 := by simpa using hk
                omega
              · rw [t3M]
                exact Or.inr rfl
              · rw [w32, w33]
            by_cases eM : n = N + 1
            · subst eM
              unfold NdO SN HN
              rw [t3M]
              refine ⟨fun k hk => ?_, ⟨by omega, fun h => (by cases h), fun h => (by cases h), fun h => (by cases h), fun h => (by cases h), fun _ => ⟨N + 1 + 1, rfl, ?_, ?_, ?_⟩⟩, fun h => (by cases h), fun h => (by cases h)⟩
              · have : k = N + 1 + 1 := by simpa using hk
                omega
              · rw [t3C]
                exact l3
              · show num ≤ g2
                omega
              · rw [w33, w34 _ (by omega)]
            · refine Sg_cg hS2 (fun m h1 h2 => ⟨t3o m (by omega), w34 m (by omega)⟩) (fun m h1 h2 => d33 m (by omega)) (fun m h1 h2 h3 => ?_) (Nat.le_refl _) (Nat.le_refl _) n (by omega) b'
              have := hA2.1 m h1 h2 h3
              have z9 : H.2.1 + 1 ≤ ad2 m := this.1
              exact upN (by omega)
          · intro n a' b' hn
            show H.2.1 ≤ ad3 n ∧ ad3 n < H2.2.1
            by_cases eN : n = N
            · rw [eN, d32]
              omega
            · have nM : n ≠ N + 1 := by
                intro q
                subst q
                exact noM hn
              rw [t3o n eN] at hn
              have z8 := hA2.1 n (by omega) b' hn
              have z9 : H.2.1 + 1 ≤ ad2 n := z8.1
              rw [d33 n (by omega)]
              omega
          · intro n m a' b' c' hn hm
            have mN : m ≠ N := by omega
            have mM : m ≠ N + 1 := by
              intro q
              subst q
              exact noM hm
            rw [t3o m mN] at hm
            have z8 := hA2.1 m (by omega) c' hm
            have z9 : H.2.1 + 1 ≤ ad2 m := z8.1
            rw [d33 m (by omega)]
            by_cases eN : n = N
            · rw [eN, d32]
              omega
            · have nM : n ≠ N + 1 := by
                intro q
                subst q
                exact noM hn
              rw [t3o n eN] at hn
              rw [d33 n (by omega)]
              exact hA2.2 n m (by omega) b' c' hn hm
          · have e5 : k0 (t3 N) = N + 1 := by rw [t3N]; rfl
            have e6 : k0 (t3 (N + 1)) = N + 1 + 1 := by rw [t3M]; rfl
            have e7 : k0 (t3 (N + 1 + 1)) = N + 1 + 1 + 1 := by
              rw [t3C]
              unfold k0
              rw [hk, hk1]
              rfl
            unfold rpOb
            rw [e5, if_neg (show ¬ (t3 (N + 1)).1 = 3 by rw [t3M]; show ¬ 4 = 3; decide), e6, e7, t3M, t3N, d33 _ (by omega), w34 _ (by omega)]
            have z7 : ad2 (N + 1 + 1 + 1) = H.2.1 + 1 := hA02
            rw [z7]
            exact upS _ _ _
          · show H2.2.2.1 + 2 * p ≤ H.2.2.1 + 2 * q2 + 0
            omega
          · show H2.2.2.2 + 14 * p ≤ H.2.2.2 + 14 * q2 + 0
            omega
          · have k3 : ∀ m, (t3 m).1 = (t2 m).1 := by
              intro m
              by_cases eN : m = N
              · rw [eN, t3N, t2N]
              · rw [t3o m eN]
            obtain ⟨dr, r1', r2'⟩ : ∃ dr : Nat → Nat, (∀ n, n < N + 1 + 1 → dr n = d) ∧ ∀ n, ¬ n < N + 1 + 1 → dr n = dp n := ⟨fun n => if n < N + 1 + 1 then d else dp n, fun n h => if_pos h, fun n h => if_neg h⟩
            refine ⟨dr, r1' N (by omega), r1' N (by omega), fun n a' b' => ?_⟩
            by_cases e1 : n < N + 1 + 1
            · rw [r1' n e1]
              refine ⟨n5, fun k hk' => ?_⟩
              have hn : n = N ∨ n = N + 1 := by omega
              rcases hn with rfl | rfl
              · rw [t3N] at hk'
                have : k = n + 1 := by simpa using hk'
                subst this
                rw [r1' _ (by omega), t3M]
                rfl
              · rw [t3M] at hk'
                have : k = N + 1 + 1 := by simpa using hk'
                subst this
                rw [r2' _ (by omega), t3C, l3, dp1]
                rfl
            · rw [r2' n e1]
              obtain ⟨z1, z2⟩ := dp3 n (by omega) b'
              refine ⟨z1, fun k hk' => ?_⟩
              rw [t3o n (by omega)] at hk'
              have hkr := (hS2 n (by omega) b').1 k hk'
              rw [r2' k (by omega), k3 k]
              exact z2 k hk'
      · -- not closed
        have x0 : pe len tx p2 = 0 := by
          rcases b4 with z | z
          · exact z
          · exact absurd z h41
        obtain ⟨rr, SM3, ⟨rfl, rfl⟩, hL3⟩ := Ld_of (m_end hM2 m1 m5 x0)
        have er2 : ErM SM3 p2 := hL3 _ (by rw [nx_r, if_neg (by omega)]; exact ⟨rfl, hM2.2.1, FrZ_rf _⟩)
        refine g_tail hb2 szc' lows (Nat.lt_succ_self _) hH o4 ?_
        exact bad p2 p2 _ _ (FrY_tr (FrY_P (FrP_85 _ _)) fyA) sS_s m1 ((sS_n (by omega)).trans hC2.1.2.1) (by omega) m1 (Er_Ld (Er_Ld er2 b1 b2) L1 fz1) (by omega) (by omega)
end GG
theorem sim_all {o len : Nat} {tx : Nat → Nat} : ∀ k d F, d + k = 8 → 3 * (k + 1) ≤ F → SimC o len tx d (g_rd o F 0 none (nI d)) := by
  intro k
  induction k with
  | zero =>
    intro d F hd hF
    obtain ⟨F3, rfl⟩ : ∃ F3, F = F3 + 1 + 1 + 1 := ⟨F - 3, by omega⟩
    show SimC o len tx d (f_Pa_readChoice o (g_rd o (F3 + 1 + 1)) (nI d))
    refine s_choice ?_
    intro c a0 w SC SM H t W ad N p g u B h x0 x1 x2
    obtain ⟨hC, hM, hB, hE, g12, g13, l1, l2, l3, l4, l5, l6, hS, hA, hO, hW, hA0, hDP⟩ := h
    have hH : o + 21 ≤ H.2.1 := by
      have := hA.1 w (by omega) l2 (Or.inl l4)
      omega
    show okT (f_Pa_readRepeat o (g_rd o (F3 + 1)) (nI d)) SC H _
    by_cases x : pe len tx p = 40
    · exact r_group (G3 := g_rd o F3) (fun b => rfl) (fun q => by omega) hC hM hB hE g13 l2 hH x
    · exact r_sign hC hM hB hE g13 l2 hH x0 x x1 x2
  | succ k ih =>
    intro d F hd hF
    obtain ⟨F3, rfl⟩ : ∃ F3, F = F3 + 1 + 1 + 1 := ⟨F - 3, by omega⟩
    show SimC o len tx d (f_Pa_readChoice o (g_rd o (F3 + 1 + 1)) (nI d))
    refine s_choice ?_
    intro c a0 w SC SM H t W ad N p g u B h x0 x1 x2
    obtain ⟨hC, hM, hB, hE, g12, g13, l1, l2, l3, l4, l5, l6, hS, hA, hO, hW, hA0, hDP⟩ := h
    have hH : o + 21 ≤ H.2.1 := by
      have := hA.1 w (by omega) l2 (Or.inl l4)
      omega
    show okT (f_Pa_readRepeat o (g_rd o (F3 + 1)) (nI d)) SC H _
    by_cases x : pe len tx p = 40
    · exact r_group (G3 := g_rd o F3) (fun b => rfl) (fun q => ih (d + 1) F3 (by omega) (by omega)) hC hM hB hE g13 l2 hH x
    · exact r_sign hC hM hB hE g13 l2 hH x0 x x1 x2
