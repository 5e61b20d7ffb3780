/-! COMPILE: class and reference -/
theorem t_thr {β : Type} {S : qSt} {H : qH} {x : Nat} {Q : β ⊕ Nat → qSt → qH → Prop} : okT (w_thr x) S H Q = Q (.inr x) S (H.1, H.2.1 + 1, H.2.2.1 + 1, H.2.2.2 + 6) := by
  apply propext
  have e : ∀ T, (w_thr x : qW (β ⊕ Nat)) T = some (.inr x, mU T 1 1 6) := fun T => rfl
  constructor
  · rintro ⟨v, S', H', h1, h2⟩
    rw [e] at h1
    have h3 : (Sum.inr x : β ⊕ Nat) = v ∧ vT S (H.1, H.2.1 + 1, H.2.2.1 + 1, H.2.2.2 + 6) = vT S' H' := by
      injection h1 with h1
      injection h1 with a b
      exact ⟨a, b⟩
    rw [h3.1, vT_inj h3.2, vT_inj2 h3.2]
    exact h2
  · intro h
    exact ⟨.inr x, S, _, rfl, h⟩
theorem t_retX {S : qSt} {H : qH} {x : Int32} {Q : Int32 ⊕ Nat → qSt → qH → Prop} : okT (w_retX .int x) S H Q = Q (.inl x) S H := by
  have : w_retX .int x = fun T => some (.inl x, T) := by
    funext T
    unfold w_retX
    exact if_pos rfl
  rw [this]
  exact t_just
def XPost (SM : qSt) (H : qH) (res : Int32 ⊕ Nat) (SC' : qSt) (H' : qH) : Prop := (∀ a, a < H.2.1 → H'.1 a = H.1 a) ∧ H.2.1 ≤ H'.2.1 ∧ H'.2.2.1 ≤ H.2.2.1 + 300 ∧ H'.2.2.2 ≤ H.2.2.2 + 3000 ∧ okS f_Md_compile SM (fun x S1 => ((res = .inl x ∧ S1.1 0 = nI 0) ∨ ∃ e : Nat, res = .inr e ∧ S1.1 0 = nI e ∧ (e = 1 ∨ e = 2)) ∧ Rel SC' S1)
theorem sS_id {S : qSt} {f : Nat} {v : Int32} (h : S.1 f = v) : sS S f v = S := by
  obtain ⟨a, b⟩ := S
  show (upd a f v, b) = (a, b)
  refine Prod.ext ?_ rfl
  funext j
  show (if j = f then v else a j) = a j
  by_cases e : j = f
  · rw [if_pos e, e]
    exact h.symm
  · rw [if_neg e]
/-- without a program: only the text, the error and the marks of having none -/
theorem Rel_none {SC SM : qSt} {len : Nat} {tx : Nat → Nat} (t : RelT SC SM len tx) (h2 : SC.1 2 = SM.1 3) (h3 : SC.1 103 = nI 0) (h4 : SM.1 22 = nI 0) (h5 : SC.1 190 = nI 0) (h6 : SM.1 29 = nI 0) (h7 : SC.2.2.2 0 < 2) (h8 : SC.2.2.2 1 = 1 - SC.2.2.2 0) : Rel SC SM :=
  ⟨len, tx, 0, false, t, ⟨h2, h3, h4, by omega, h5, h6, h7, h8, fun h => (by cases h)⟩, fun h => by omega⟩
theorem x_compile (o : Nat) {SC SM : qSt} (hR : Rel SC SM) (H : qH) (hO : o + 21 ≤ H.2.1) : okT (f_PW_compile o) SC H (XPost SM H) := by
  have hR0 := hR
  obtain ⟨len, tx, L, bg, ⟨t1, t2, t3, t4⟩, ⟨b1, b2, b3, b4, b5, b6, b7, b8, b9⟩, hp⟩ := hR
  unfold f_PW_compile
  refine t_O (e_isWr b2 b4 ?_)
  by_cases h0 : 0 < L
  · have e : decide (0 < L) = true := by simpa using h0
    rw [e]
    simp (disch := first | omega | assumption) only [n_lit, n_m1, t_S, t_s, ↓t_if, t_pure, t_rI, t_riI, t_rt, t_go, nt_l, nt_r, t_nn, t_nul0, t_nul1, rp_g0, rp_s0, rp_g1, rp_s1, rp_s1n, rp_g2, rp_s2, rp_g3, rp_s3, rp_g4, rp_s4, rp_g5, rp_s5, rp_g6, rp_s6z, rp_s6u, rp_g7, rp_s7z, rp_s7u, rp_g8, rp_s8z, rp_s8u, rp_g9, rp_s9, rp_s9n, rw_g0, rw_s0, rw_s0n, rw_g1, rw_s1, rw_s1n, rw_g2, rw_s2, rw_s2n, rw_g3, rw_s3, sS_s, sS_n, sS_a, sS_l, sS_k, lS_l, lS_1, lS_a, lS_k, nI_eq, nI_leI, nI_ltI, nI_add, pk_mul, nN_e, nN_e', nN_l, nN_g, nN_le, nN_ge, ite_not, if_true, if_false, not_true_eq_false, not_false_eq_true, Nat.not_lt_zero, Nat.reduceEqDiff, Nat.reduceLT, Nat.reduceLeDiff, Nat.reduceAdd, Nat.zero_le, ite_self, reduceCtorEq, bI_t, bI_f, bI_z, bI_1, if_pos, if_neg]
    rw [t_thr]
    obtain ⟨p1, _⟩ := hp h0
    refine ⟨fun a ha => rfl, by show H.2.1 ≤ H.2.1 + 1; omega, by show H.2.2.1 + 1 ≤ H.2.2.1 + 300; omega, by show H.2.2.2 + 6 ≤ H.2.2.2 + 3000; omega, ?_⟩
    refine ok_mono (m_there b3 h0 b4) ?_
    rintro x S1 ⟨rfl, rfl⟩
    refine ⟨Or.inr ⟨2, rfl, sS_s, Or.inr rfl⟩, ?_⟩
    have e3 : (sS SM 0 (nI 0)).1 3 = nN := by
      rw [sS_n (by omega), ← b1]
      exact p1
    rw [sS_id e3]
    exact Rel_thr (Rel_thr hR0)
  have e : decide (0 < L) = false := by simpa using h0
  have eL : L = 0 := by omega
  subst eL
  have ebg : bg = false := by
    cases bg with
    | false => rfl
    | true => exact absurd (b9 rfl) h0
  subst ebg
  rw [e]
  simp (disch := first | omega | assumption) only [n_lit, n_m1, t_S, t_s, ↓t_if, t_pure, t_rI, t_riI, t_rt, t_go, nt_l, nt_r, t_nn, t_nul0, t_nul1, rp_g0, rp_s0, rp_g1, rp_s1, rp_s1n, rp_g2, rp_s2, rp_g3, rp_s3, rp_g4, rp_s4, rp_g5, rp_s5, rp_g6, rp_s6z, rp_s6u, rp_g7, rp_s7z, rp_s7u, rp_g8, rp_s8z, rp_s8u, rp_g9, rp_s9, rp_s9n, rw_g0, rw_s0, rw_s0n, rw_g1, rw_s1, rw_s1n, rw_g2, rw_s2, rw_s2n, rw_g3, rw_s3, sS_s, sS_n, sS_a, sS_l, sS_k, lS_l, lS_1, lS_a, lS_k, nI_eq, nI_leI, nI_ltI, nI_add, pk_mul, nN_e, nN_e', nN_l, nN_g, nN_le, nN_ge, ite_not, if_true, if_false, not_true_eq_false, not_false_eq_true, Nat.not_lt_zero, Nat.reduceEqDiff, Nat.reduceLT, Nat.reduceLeDiff, Nat.reduceAdd, Nat.zero_le, ite_self, reduceCtorEq, bI_t, bI_f, bI_z, bI_1, if_pos, if_neg, t2]
  have hTx : TxM (sS SM 0 (nI 0)) len tx := ⟨t1, (sS_n (by omega)).trans t3, fun i hi => ⟨(t4 i hi).1, (t4 i hi).2.1, (t4 i hi).2.2.2⟩⟩
  refine t_C (t_mono (e_parse t1 (fun i hi => ⟨(t4 i hi).1, (t4 i hi).2.1, (t4 i hi).2.2.1⟩) hTx hO) ?_)
  rintro r S1 H1 ⟨rfl, v1, hfr, hlt, hk, hw, hP⟩
  have c1 : S1.1 1 = nI len := (v1.2.2 1 (by omega) (by omega) (by omega) (by omega) (by omega)).trans t2
  have c103 : S1.1 103 = nI 0 := (v1.2.2 103 (by omega) (by omega) (by omega) (by omega) (by omega)).trans b2
  have c190 : S1.1 190 = nI 0 := (v1.2.2 190 (by omega) (by omega) (by omega) (by omega) (by omega)).trans b5
  have cfa : S1.2.2.2 0 < 2 ∧ S1.2.2.2 1 = 1 - S1.2.2.2 0 := by
    rw [v1.2.1]
    exact ⟨b7, b8⟩
  have ctx : ∀ i, i < len → 32 ≤ tx i ∧ tx i ≤ 126 ∧ S1.2.1 1 i = nI (tx i) ∧ SM.2.1 1 i = nI (tx i) := by
    intro i hi
    rw [v1.1]
    exact t4 i hi
  rcases hP with ⟨e, h85, he, hr⟩ | ⟨h85, SM2, t, W, ad, N, g, u, B, hr, hz, hT, h4, h19, h84, hMM, hMC, h41, hu, hg, hN, hN1, hS, hA, k0', k1', ad1, dp, dp0, dp1⟩
  · simp (disch := first | omega | assumption) only [n_lit, n_m1, t_S, t_s, ↓t_if, t_pure, t_rI, t_riI, t_rt, t_go, nt_l, nt_r, t_nn, t_nul0, t_nul1, rp_g0, rp_s0, rp_g1, rp_s1, rp_s1n, rp_g2, rp_s2, rp_g3, rp_s3, rp_g4, rp_s4, rp_g5, rp_s5, rp_g6, rp_s6z, rp_s6u, rp_g7, rp_s7z, rp_s7u, rp_g8, rp_s8z, rp_s8u, rp_g9, rp_s9, rp_s9n, rw_g0, rw_s0, rw_s0n, rw_g1, rw_s1, rw_s1n, rw_g2, rw_s2, rw_s2n, rw_g3, rw_s3, sS_s, sS_n, sS_a, sS_l, sS_k, lS_l, lS_1, lS_a, lS_k, nI_eq, nI_leI, nI_ltI, nI_add, pk_mul, nN_e, nN_e', nN_l, nN_g, nN_le, nN_ge, ite_not, if_true, if_false, not_true_eq_false, not_false_eq_true, Nat.not_lt_zero, Nat.reduceEqDiff, Nat.reduceLT, Nat.reduceLeDiff, Nat.reduceAdd, Nat.zero_le, ite_self, reduceCtorEq, bI_t, bI_f, bI_z, bI_1, if_pos, if_neg, h85]
    rw [t_thr]
    refine ⟨hfr, by show H.2.1 ≤ H1.2.1 + 1; omega, by show H1.2.2.1 + 1 ≤ _; omega, by show H1.2.2.2 + 6 ≤ _; omega, ?_⟩
    refine ok_mono (m_bad b3 he hr) ?_
    rintro x S2 ⟨rfl, z0, z3, z1, z2, z4⟩
    refine ⟨Or.inr ⟨1, rfl, z0, Or.inl rfl⟩, ?_⟩
    refine Rel_none (len := len) (tx := tx) ⟨t1, ?_, ?_, fun i hi => ?_⟩ ?_ ?_ ?_ ?_ ?_ cfa.1 cfa.2
    · exact (sS_n (by omega)).trans c1
    · exact (z2 1 (by omega) (by omega) (by omega) (by omega) (by omega) (by omega) (by omega)).trans t3
    · rw [z4 1 (by omega)]
      exact ctx i hi
    · rw [sS_s, z3]
    · exact (sS_n (by omega)).trans c103
    · exact (z2 22 (by omega) (by omega) (by omega) (by omega) (by omega) (by omega) (by omega)).trans b3
    · exact (sS_n (by omega)).trans c190
    · exact (z2 29 (by omega) (by omega) (by omega) (by omega) (by omega) (by omega) (by omega)).trans b6
  · have hSh : Sh t W u g N := fun n hn => ⟨(hS n (Nat.zero_le n) hn).1, (hS n (Nat.zero_le n) hn).2.1⟩
    have hWX : WX o t W ad dp H1 u g N H.2.1 H1.2.1 := ⟨hS, hA, hO, dp1, hN, hu, hg⟩
    obtain ⟨ka, ⟨_, kb, _⟩, kd, _⟩ := hS 0 (Nat.le_refl 0) (by omega)
    obtain ⟨kb1, kb2, kb3⟩ := kb k0'
    cases hk1 : (t 0).2.1 with
    | nil => exact absurd hk1 kb1
    | cons q kr =>
      have hq : q = 1 := by
        rw [hk1] at k1'
        injection k1'
      have k0t : k0 (t 0) = 1 := by
        unfold k0
        rw [hk1, hq]
        rfl
      have szc := SzC_of (kd k0')
      rw [hk1] at szc
      have szv := szF_n W ad kr (W q)
      have hW3 : W q + sumW W kr + 2 * kr.length = W 0 := by
        rw [hk1] at kb3
        have e1 : sumW W (q :: kr) = W q + sumW W kr := by
          unfold sumW
          simp
        rw [e1] at kb3
        simp only [List.length_cons] at kb3
        omega
      rw [hW3] at szv
      have adq : ad q = H.2.1 := by rw [hq]; exact ad1
      have szc' : SzC H1.1 ((H.2.1, nI (min 1000 (W q))) :: kr.map (fun x => (ad x, nI (min 1000 (W x))))) := by
        rw [← adq]
        exact szc
      have far : ∀ y ∈ (H.2.1, nI (min 1000 (W q))) :: kr.map (fun x => (ad x, nI (min 1000 (W x)))), q_far o y.1 := by
        intro y hy
        rcases List.mem_cons.mp hy with z | z
        · rw [z]
          exact far_of hO
        · obtain ⟨x', x1, x2⟩ := List.mem_map.mp z
          rw [← x2]
          have xin : x' ∈ (t 0).2.1 := by rw [hk1]; simp [x1]
          exact far_ad hWX (ka x' xin).2 (Or.inl (kb2 x' xin))
      obtain ⟨⟨f', l', hob⟩, _⟩ := szc'
      have hob' : H1.1 H.2.1 = some (oR f' l' _ _) := hob
      rw [t_S, h85, t_s, t_S, t_t (c := (sS S1 2 nN).1 2 = -1) (show (sS S1 2 nN).1 2 = nN from sS_s), t_nn, rw_is hob' (far_of hO)]
      refine t_C (e_sac (x := (H.2.1, nI (min 1000 (W q)))) (r := kr.map (fun x => (ad x, nI (min 1000 (W x))))) (by rw [← adq]; exact szc) far ?_)
      show okT (w_if (szF (nI (min 1000 (W q))) (kr.map (fun x => (ad x, nI (min 1000 (W x))))) + 3 ≤ 160) _ _) _ H1 _
      rw [szv]
      by_cases hW : W 0 ≤ 157
      · rw [Nat.min_eq_right (show W 0 ≤ 1000 by omega)]
        simp (disch := first | omega | assumption) only [n_lit, n_m1, t_S, t_s, ↓t_if, t_pure, t_rI, t_riI, t_rt, t_go, nt_l, nt_r, t_nn, t_nul0, t_nul1, rp_g0, rp_s0, rp_g1, rp_s1, rp_s1n, rp_g2, rp_s2, rp_g3, rp_s3, rp_g4, rp_s4, rp_g5, rp_s5, rp_g6, rp_s6z, rp_s6u, rp_g7, rp_s7z, rp_s7u, rp_g8, rp_s8z, rp_s8u, rp_g9, rp_s9, rp_s9n, rw_g0, rw_s0, rw_s0n, rw_g1, rw_s1, rw_s1n, rw_g2, rw_s2, rw_s2n, rw_g3, rw_s3, sS_s, sS_n, sS_a, sS_l, sS_k, lS_l, lS_1, lS_a, lS_k, nI_eq, nI_leI, nI_ltI, nI_add, pk_mul, nN_e, nN_e', nN_l, nN_g, nN_le, nN_ge, ite_not, if_true, if_false, not_true_eq_false, not_false_eq_true, Nat.not_lt_zero, Nat.reduceEqDiff, Nat.reduceLT, Nat.reduceLeDiff, Nat.reduceAdd, Nat.zero_le, ite_self, reduceCtorEq, bI_t, bI_f, bI_z, bI_1, if_pos, if_neg, h84]
        have wr := fun {Q} => @w_write o u g N H.2.1 H1.2.1 t W ad dp H1 (sS S1 2 nN) hWX (by omega) k0' dp0 (by omega) hg Q
        rw [k0t, ad1] at wr
        refine t_C (wr fun S3 f3 p3 => ?_)
        rw [t_S, t_retX]
        have pl : PL S3 (full t W N) := p3
        have fl := full_len hSh (show 0 < N by omega)
        have h103 := pl.1
        rw [fl] at h103
        rw [h103]
        have s3 : ∀ f, f ≠ 2 → f ≠ 103 → f ≠ 104 → S3.1 f = S1.1 f := by
          intro f a b c
          rw [f3.2.1 f b, sS_n c, sS_n c, sS_n b, sS_n a]
        refine ⟨hfr, by show H.2.1 ≤ H1.2.1; omega, by omega, by omega, ?_⟩
        refine ok_mono (m_ok b3 hr hz hT h4 hSh hg hu hN (by omega) hW) ?_
        rintro x S2 ⟨rfl, y0, y3, y22, y29, y19, y14, y1, yt, yc⟩
        refine ⟨Or.inl ⟨rfl, y0⟩, ?_⟩
        obtain ⟨wf, wf1, wf2⟩ := full_WF hSh (show 0 < N by omega) hg hu (show W 0 + 3 ≤ 160 by omega)
        refine ⟨len, tx, W 0 + 3, false, ⟨t1, ?_, ?_, fun i hi => ?_⟩, ⟨?_, h103, y22, by omega, ?_, y29, ?_, ?_, fun h => (by cases h)⟩, fun _ => ⟨?_, _, u, g, ⟨wf, ⟨h103, fun k hk2 => ?_⟩, fun k hk2 => yc k hk2, ?_, hu, wf1, fun s c hs hc2 => ?_, ?_, ?_, hg, wf2⟩, fun h => (by cases h)⟩⟩
        · exact (s3 1 (by omega) (by omega) (by omega)).trans c1
        · rw [y1]; exact t3
        · rw [f3.2.2 1 (by omega) (by omega) (by omega), yt]
          exact ctx i hi
        · rw [f3.2.1 2 (by omega), sS_n (by omega), sS_n (by omega), sS_n (by omega), sS_s, y3]
        · exact (s3 190 (by omega) (by omega) (by omega)).trans c190
        · rw [f3.1]; exact cfa.1
        · rw [f3.1]; exact cfa.2
        · rw [f3.2.1 2 (by omega), sS_n (by omega), sS_n (by omega), sS_n (by omega), sS_s]
        · have hk3 : k < (full t W N).length := by rw [fl]; exact hk2
          have := pl.2 k hk3
          dsimp only
          rw [XF_mem hk3]
          exact this
        · exact (s3 41 (by omega) (by omega) (by omega)).trans h41
        · rw [f3.1, y14, hMM s c hs hc2]
          exact hMC s c (by omega) hc2
        · rw [f3.2.1 104 (by omega)]
          exact sS_s
        · rw [y19]; exact h19
      · have wb : 157 < min 1000 (W 0) ∧ min 1000 (W 0) ≤ 1000 := by omega
        generalize min 1000 (W 0) = mw at wb
        simp (disch := first | omega | assumption) only [n_lit, n_m1, t_S, t_s, ↓t_if, t_pure, t_rI, t_riI, t_rt, t_go, nt_l, nt_r, t_nn, t_nul0, t_nul1, rp_g0, rp_s0, rp_g1, rp_s1, rp_s1n, rp_g2, rp_s2, rp_g3, rp_s3, rp_g4, rp_s4, rp_g5, rp_s5, rp_g6, rp_s6z, rp_s6u, rp_g7, rp_s7z, rp_s7u, rp_g8, rp_s8z, rp_s8u, rp_g9, rp_s9, rp_s9n, rw_g0, rw_s0, rw_s0n, rw_g1, rw_s1, rw_s1n, rw_g2, rw_s2, rw_s2n, rw_g3, rw_s3, sS_s, sS_n, sS_a, sS_l, sS_k, lS_l, lS_1, lS_a, lS_k, nI_eq, nI_leI, nI_ltI, nI_add, pk_mul, nN_e, nN_e', nN_l, nN_g, nN_le, nN_ge, ite_not, if_true, if_false, not_true_eq_false, not_false_eq_true, Nat.not_lt_zero, Nat.reduceEqDiff, Nat.reduceLT, Nat.reduceLeDiff, Nat.reduceAdd, Nat.zero_le, ite_self, reduceCtorEq, bI_t, bI_f, bI_z, bI_1, if_pos, if_neg]
        rw [t_thr]
        refine ⟨hfr, by show H.2.1 ≤ H1.2.1 + 1; omega, by show H1.2.2.1 + 1 ≤ _; omega, by show H1.2.2.2 + 6 ≤ _; omega, ?_⟩
        refine ok_mono (m_big b3 hr hz hT h4 hSh hg hN (by omega) (by omega)) ?_
        rintro x S2 ⟨rfl, z0, z3, z1, z2, z4⟩
        refine ⟨Or.inr ⟨2, rfl, z0, Or.inr rfl⟩, ?_⟩
        refine Rel_none (len := len) (tx := tx) ⟨t1, ?_, ?_, fun i hi => ?_⟩ ?_ ?_ ?_ ?_ ?_ cfa.1 cfa.2
        · exact (sS_n (by omega)).trans c1
        · exact (z2 1 (by omega) (by omega) (by omega) (by omega) (by omega) (by omega) (by omega)).trans t3
        · rw [z4 1 (by omega)]
          exact ctx i hi
        · rw [sS_s, z3]
        · exact (sS_n (by omega)).trans c103
        · exact (z2 22 (by omega) (by omega) (by omega) (by omega) (by omega) (by omega) (by omega)).trans b3
        · exact (sS_n (by omega)).trans c190
        · exact (z2 29 (by omega) (by omega) (by omega) (by omega) (by omega) (by omega) (by omega)).trans b6
theorem op_compile (o : Nat) : opX Rel o := by
  intro SC SM hR h n k w hn
  obtain ⟨res, SC', H', h1, h2, h3, h4, h5, x, S1, h6, h7, h8⟩ := x_compile o hR (h, n, k, w) hn
  refine ⟨res, SC', S1, x, S1.1 0, ⟨H'.1, H'.2.1, H'.2.2.1, H'.2.2.2, h1, h2, h3, h4, h5⟩, fun hm => ⟨vT S1 hm, h6 hm, ?_⟩, h7, h8⟩
  unfold f_Md_thrown w_S w_ret
  exact if_pos rfl
