/-! READING: class and reference side by side; the class's loop over a choice -/
section RL
variable {S SC SM : qSt} {H H' : qH} {len p u g N d w c a0 o : Nat} {tx : Nat → Nat} {t : Nat → ND} {W ad : Nat → Nat} {B : MBf} {s nu az le mo en pl lz : Int32} {i nx : Option Nat}
theorem r_app {Q : Unit → qSt → qH → Prop} (h : LI o len tx c w d a0 SC SM H t W ad N p g u B) (hfr : ∀ a, a < H.2.1 → H'.1 a = H.1 a) (hb : H'.1 H.2.1 = some (oP s i nu az le mo en pl lz nx)) (k : ∀ H2 : qH, H2.2 = H'.2 → H2.1 (ad w) = some (oR (if (t w).2.1 = [] then some H.2.1 else (t w).2.1.head?.map ad) (some H.2.1) none (mnI (nI (min 1000 (W w)) + rsz az le mo en pl))) → (∀ x, (t w).2.1.getLast? = some x → H2.1 (ad x) = some (rpOb t W ad x (some H.2.1))) → (∀ a, a ≠ ad w → (∀ x, (t w).2.1.getLast? = some x → a ≠ ad x) → H2.1 a = H'.1 a) → Q () S H2) : okT (f_Rw_append o (ad w) (some H.2.1)) S H' Q := by
  obtain ⟨hC0, hM0, ⟨n1, n2, n3, n4, n5⟩, hE0, g12, g13, l1, l2, l3, l4, l5, l6, hS, ⟨hA1, hA2⟩, hO, hW, hA0, hDP⟩ := h
  have wO := hA1 w (by omega) l2 (Or.inl l4)
  obtain ⟨wa1, ⟨_, _, wb2, _⟩, _, wd2⟩ := hS w (by omega) l2
  obtain ⟨wf1, wf2⟩ := wb2 l4
  have hW' : H'.1 (ad w) = some (oR ((t w).2.1.head?.map ad) ((t w).2.1.getLast?.map ad) none (nI (min 1000 (W w)))) := (hfr _ wO.2).trans hW
  have fw : q_far o (ad w) := far_of (by omega)
  have fb : q_far o H.2.1 := far_of (by omega)
  cases hl : (t w).2.1.getLast? with
  | none =>
    have e0 : (t w).2.1 = [] := List.getLast?_eq_none_iff.mp hl
    rw [hl] at hW'
    refine e_app0 fw fb hW' hb (by omega) (k _ rfl ?_ ?_ ?_)
    · rw [if_pos e0]
      exact upS _ _ _
    · intro x hx
      rw [hl] at hx
      cases hx
    · intro a h1 h2
      exact upN h1
  | some x =>
    rw [hl] at hW'
    have xk := List.mem_of_getLast? hl
    have xr := wa1 x xk
    have xO := hA1 x (by omega) (by omega) (Or.inr (wf1 x xk))
    have xw := hA2 w x (by omega) (by omega) (by omega) (Or.inl l4) (Or.inr (wf1 x xk))
    obtain ⟨e, e1, e2⟩ := LC_last (wd2 l4) hl
    obtain ⟨s2, i2, nu2, az2, le2, mo2, en2, pl2, lz2, ob⟩ := rpOb_oP t W ad x
    have e3 : H'.1 (ad x) = some (oP s2 i2 nu2 az2 le2 mo2 en2 pl2 lz2 none) := by
      rw [hfr _ xO.2, e1]
      have e2' : e = rpOb t W ad x none := e2
      rw [e2', ob]
    have hne : ¬ (t w).2.1 = [] := by
      intro q
      rw [q] at hl
      cases hl
    refine e_app1 fw fb (far_of (by omega)) hW' e3 hb (by omega) (by omega) (by omega) (k _ rfl ?_ ?_ ?_)
    · rw [if_neg hne]
      exact upS _ _ _
    · intro y hy
      rw [hl] at hy
      injection hy with hy
      subst hy
      rw [ob]
      exact (upN (by omega)).trans (upS _ _ _)
    · intro a h1 h2
      exact (upN h1).trans (upN (h2 x hl))
theorem LP_rf (h : LI o len tx c w d a0 SC SM H t W ad N p g u B) (x : pe len tx p = 0 ∨ pe len tx p = 41) : LPost o len tx c d a0 SC SM H t p g u (some a0) SC H := by
  refine ⟨rfl, FrY_rf _, fun a _ => rfl, Nat.le_refl _, Or.inr ⟨SM, t, W, ad, N, p, g, u, B, w, Ld_rf _, FrZ_rf _, h, x, fun n _ => rfl, StK_rf _ _, Nat.le_refl _, Nat.le_refl _, Nat.le_refl _, ?_⟩⟩
  unfold Ctr
  omega
end RL
theorem s_loop {o len c d a0 : Nat} {tx : Nat → Nat} {G : Nat → Option Nat → Int32 → qW (Option Nat)} (hG : ∀ w SC SM H t W ad N p g u B, LI o len tx c w d a0 SC SM H t W ad N p g u B → pe len tx p ≠ 0 → pe len tx p ≠ 41 → pe len tx p ≠ 124 → okT (G 1 none (nI d)) SC H (RPost len tx w d SC SM H t W ad N p g u)) : ∀ f v w SC SM H t W ad N p g u B, LI o len tx c w d a0 SC SM H t W ad N p g u B → v ≤ p → 49 ≤ p + f → okT (w_fix (b_Pa_readChoice o G) (13, [.int (nI d), .int (nI v)], [some a0, some (ad w)])) SC H (LPost o len tx c d a0 SC SM H t p g u) := by
  intro f
  induction f with
  | zero =>
    intro v w SC SM H t W ad N p g u B h h1 h2
    have := h.2.2.1.1
    omega
  | succ f ih =>
    intro v w SC SM H t W ad N p g u B h h1 h2
    have hC := h.1.1
    have hb := @pe_le SC len p tx hC.1
    have hNB := h.2.2.1
    obtain ⟨n1, n2, n3, n4, n5⟩ := hNB
    refine t_fix ?_
    show okT (k_Pa_readChoice_13 o G (nI d) (some a0) (some (ad w)) (nI v)) SC H _
    unfold k_Pa_readChoice_13
    by_cases hv : 48 ≤ v
    · have x0 : pe len tx p = 0 := Classical.byContradiction fun q => by
        have := (hb.2 q).1
        omega
      simp (disch := first | omega | assumption) only [n_lit, n_m1, t_S, t_s, ↓t_if, t_pure, t_rI, t_riI, t_rt, t_go, nt_l, nt_r, t_nn, t_nul0, t_nul1, rp_g0, rp_s0, rp_g1, rp_s1, rp_s1n, rp_g2, rp_s2, rp_g3, rp_s3, rp_g4, rp_s4, rp_g5, rp_s5, rp_g6, rp_s6z, rp_s6u, rp_g7, rp_s7z, rp_s7u, rp_g8, rp_s8z, rp_s8u, rp_g9, rp_s9, rp_s9n, rw_g0, rw_s0, rw_s0n, rw_g1, rw_s1, rw_s1n, rw_g2, rw_s2, rw_s2n, rw_g3, rw_s3, sS_s, sS_n, sS_a, sS_l, sS_k, lS_l, lS_1, lS_a, lS_k, nI_eq, nI_leI, nI_ltI, nI_add, pk_mul, nN_e, nN_e', nN_l, nN_g, nN_le, nN_ge, ite_not, if_true, if_false, not_true_eq_false, not_false_eq_true, Nat.not_lt_zero, Nat.reduceEqDiff, Nat.reduceLT, Nat.reduceLeDiff, Nat.reduceAdd, Nat.zero_le, ite_self, reduceCtorEq, bI_t, bI_f, bI_z, bI_1, if_pos, if_neg]
      exact LP_rf h (Or.inl x0)
    simp (disch := first | omega | assumption) only [n_lit, n_m1, t_S, t_s, ↓t_if, t_pure, t_rI, t_riI, t_rt, t_go, nt_l, nt_r, t_nn, t_nul0, t_nul1, rp_g0, rp_s0, rp_g1, rp_s1, rp_s1n, rp_g2, rp_s2, rp_g3, rp_s3, rp_g4, rp_s4, rp_g5, rp_s5, rp_g6, rp_s6z, rp_s6u, rp_g7, rp_s7z, rp_s7u, rp_g8, rp_s8z, rp_s8u, rp_g9, rp_s9, rp_s9n, rw_g0, rw_s0, rw_s0n, rw_g1, rw_s1, rw_s1n, rw_g2, rw_s2, rw_s2n, rw_g3, rw_s3, sS_s, sS_n, sS_a, sS_l, sS_k, lS_l, lS_1, lS_a, lS_k, nI_eq, nI_leI, nI_ltI, nI_add, pk_mul, nN_e, nN_e', nN_l, nN_g, nN_le, nN_ge, ite_not, if_true, if_false, not_true_eq_false, not_false_eq_true, Nat.not_lt_zero, Nat.reduceEqDiff, Nat.reduceLT, Nat.reduceLeDiff, Nat.reduceAdd, Nat.zero_le, ite_self, reduceCtorEq, bI_t, bI_f, bI_z, bI_1, if_pos, if_neg, hC.2.2.1]
    refine t_O (e_peek hC (by omega) ?_)
    by_cases x0 : pe len tx p = 0
    · rw [x0, pv_0]
      simp (disch := first | omega | assumption) only [n_lit, n_m1, t_S, t_s, ↓t_if, t_pure, t_rI, t_riI, t_rt, t_go, nt_l, nt_r, t_nn, t_nul0, t_nul1, rp_g0, rp_s0, rp_g1, rp_s1, rp_s1n, rp_g2, rp_s2, rp_g3, rp_s3, rp_g4, rp_s4, rp_g5, rp_s5, rp_g6, rp_s6z, rp_s6u, rp_g7, rp_s7z, rp_s7u, rp_g8, rp_s8z, rp_s8u, rp_g9, rp_s9, rp_s9n, rw_g0, rw_s0, rw_s0n, rw_g1, rw_s1, rw_s1n, rw_g2, rw_s2, rw_s2n, rw_g3, rw_s3, sS_s, sS_n, sS_a, sS_l, sS_k, lS_l, lS_1, lS_a, lS_k, nI_eq, nI_leI, nI_ltI, nI_add, pk_mul, nN_e, nN_e', nN_l, nN_g, nN_le, nN_ge, ite_not, if_true, if_false, not_true_eq_false, not_false_eq_true, Nat.not_lt_zero, Nat.reduceEqDiff, Nat.reduceLT, Nat.reduceLeDiff, Nat.reduceAdd, Nat.zero_le, ite_self, reduceCtorEq, bI_t, bI_f, bI_z, bI_1, if_pos, if_neg]
      exact LP_rf h (Or.inl x0)
    have hp := (hb.2 x0).1
    rw [pv_n x0]
    by_cases x1 : pe len tx p = 41
    · rw [x1]
      simp (disch := first | omega | assumption) only [n_lit, n_m1, t_S, t_s, ↓t_if, t_pure, t_rI, t_riI, t_rt, t_go, nt_l, nt_r, t_nn, t_nul0, t_nul1, rp_g0, rp_s0, rp_g1, rp_s1, rp_s1n, rp_g2, rp_s2, rp_g3, rp_s3, rp_g4, rp_s4, rp_g5, rp_s5, rp_g6, rp_s6z, rp_s6u, rp_g7, rp_s7z, rp_s7u, rp_g8, rp_s8z, rp_s8u, rp_g9, rp_s9, rp_s9n, rw_g0, rw_s0, rw_s0n, rw_g1, rw_s1, rw_s1n, rw_g2, rw_s2, rw_s2n, rw_g3, rw_s3, sS_s, sS_n, sS_a, sS_l, sS_k, lS_l, lS_1, lS_a, lS_k, nI_eq, nI_leI, nI_ltI, nI_add, pk_mul, nN_e, nN_e', nN_l, nN_g, nN_le, nN_ge, ite_not, if_true, if_false, not_true_eq_false, not_false_eq_true, Nat.not_lt_zero, Nat.reduceEqDiff, Nat.reduceLT, Nat.reduceLeDiff, Nat.reduceAdd, Nat.zero_le, ite_self, reduceCtorEq, bI_t, bI_f, bI_z, bI_1, if_pos, if_neg]
      exact LP_rf h (Or.inr x1)
    by_cases x2 : pe len tx p = 124
    · obtain ⟨rr, SM', ⟨fz, rfl, hM', s11, s12, s13⟩, hL⟩ := Ld_of (m_bar h.2.1 n5 h.2.2.2.2.1 (by have := h.2.2.2.2.2.2.1; have := h.2.2.2.2.2.2.2.1; omega) (by omega) x2)
      have hLI := LI_bar h hM' s12 s13 hp
      obtain ⟨hC0, hM0, _, hE0, g12, g13, l1, l2, l3, l4, l5, l6, hS, ⟨hA1, hA2⟩, hO, hW, hA0, hDP⟩ := h
      have wO := hA1 w (by omega) l2 (Or.inl l4)
      rw [x2]
      simp (disch := first | omega | assumption) only [n_lit, n_m1, t_S, t_s, ↓t_if, t_pure, t_rI, t_riI, t_rt, t_go, nt_l, nt_r, t_nn, t_nul0, t_nul1, rp_g0, rp_s0, rp_g1, rp_s1, rp_s1n, rp_g2, rp_s2, rp_g3, rp_s3, rp_g4, rp_s4, rp_g5, rp_s5, rp_g6, rp_s6z, rp_s6u, rp_g7, rp_s7z, rp_s7u, rp_g8, rp_s8z, rp_s8u, rp_g9, rp_s9, rp_s9n, rw_g0, rw_s0, rw_s0n, rw_g1, rw_s1, rw_s1n, rw_g2, rw_s2, rw_s2n, rw_g3, rw_s3, sS_s, sS_n, sS_a, sS_l, sS_k, lS_l, lS_1, lS_a, lS_k, nI_eq, nI_leI, nI_ltI, nI_add, pk_mul, nN_e, nN_e', nN_l, nN_g, nN_le, nN_ge, ite_not, if_true, if_false, not_true_eq_false, not_false_eq_true, Nat.not_lt_zero, Nat.reduceEqDiff, Nat.reduceLT, Nat.reduceLeDiff, Nat.reduceAdd, Nat.zero_le, ite_self, reduceCtorEq, bI_t, bI_f, bI_z, bI_1, if_pos, if_neg, hC.2.1]
      have fb : q_far o H.2.1 := far_of (by omega)
      have fw : q_far o (ad w) := far_of (by omega)
      refine (t_newR fb).mpr ?_
      refine t_C ?_
      unfold f_Rw_init
      simp (disch := first | omega | assumption) only [n_lit, n_m1, t_S, t_s, ↓t_if, t_pure, t_rI, t_riI, t_rt, t_go, nt_l, nt_r, t_nn, t_nul0, t_nul1, rp_g0, rp_s0, rp_g1, rp_s1, rp_s1n, rp_g2, rp_s2, rp_g3, rp_s3, rp_g4, rp_s4, rp_g5, rp_s5, rp_g6, rp_s6z, rp_s6u, rp_g7, rp_s7z, rp_s7u, rp_g8, rp_s8z, rp_s8u, rp_g9, rp_s9, rp_s9n, rw_g0, rw_s0, rw_s0n, rw_g1, rw_s1, rw_s1n, rw_g2, rw_s2, rw_s2n, rw_g3, rw_s3, sS_s, sS_n, sS_a, sS_l, sS_k, lS_l, lS_1, lS_a, lS_k, nI_eq, nI_leI, nI_ltI, nI_add, pk_mul, nN_e, nN_e', nN_l, nN_g, nN_le, nN_ge, ite_not, if_true, if_false, not_true_eq_false, not_false_eq_true, Nat.not_lt_zero, Nat.reduceEqDiff, Nat.reduceLT, Nat.reduceLeDiff, Nat.reduceAdd, Nat.zero_le, ite_self, reduceCtorEq, bI_t, bI_f, bI_z, bI_1, if_pos, if_neg]
      have hW' : (q_up H.1 H.2.1 (oR none none none (nI 0)), H.2.1 + 1, H.2.2.1 + 1, H.2.2.2 + 4).1 (ad w) = some (oR ((t w).2.1.head?.map ad) ((t w).2.1.getLast?.map ad) none (nI (min 1000 (W w)))) := (upN (by omega)).trans hW
      have e1 := rw_t2 (r := some H.2.1) (KU := w_DR o (ad w) 5 2 fun u8 => w_go 13 [.int (nI d), .int (nI (v + 1))] [some a0, u8]) (S := sS SC 83 (nI (p + 1))) (Q := nxT (b_Pa_readChoice o G) (LPost o len tx c d a0 SC SM H t p g u)) hW' fw
      refine e1.mpr ?_
      rw [rw_h2 (upS _ _ _) fw, t_go, nt_l]
      have ih2 := ih (v + 1) N _ SM' _ _ _ _ (N + 1) (p + 1) g u B hLI (by omega) (by omega)
      try dsimp only at ih2
      rw [if_pos rfl] at ih2
      refine t_mono ih2 ?_
      intro r SC' H' hP
      refine LP_tr hP (FrY_P (FrP_83 _ _)) (fun a ha => ?_) (by show H.2.1 ≤ H.2.1 + 1; omega) (fun Q hQ => hL Q (by rw [nx_l]; exact hQ)) fz (fun n hn => ?_) (fun i hi => ?_) (by omega) (by omega) (by omega) ⟨?_, ?_⟩
      · exact (upN (by omega)).trans (upN (by omega))
      · unfold tN
        rw [tU_n (by omega), tU_n (by omega)]
      · rw [s11, s12, s13]
        exact ⟨rfl, rfl, fun q => updN (by omega)⟩
      · show H.2.2.1 + 1 + 2 * p ≤ H.2.2.1 + 2 * (p + 1) + 0
        omega
      · show H.2.2.2 + 4 + 14 * p ≤ H.2.2.2 + 14 * (p + 1) + 0
        omega
    simp (disch := first | omega | assumption) only [n_lit, n_m1, t_S, t_s, ↓t_if, t_pure, t_rI, t_riI, t_rt, t_go, nt_l, nt_r, t_nn, t_nul0, t_nul1, rp_g0, rp_s0, rp_g1, rp_s1, rp_s1n, rp_g2, rp_s2, rp_g3, rp_s3, rp_g4, rp_s4, rp_g5, rp_s5, rp_g6, rp_s6z, rp_s6u, rp_g7, rp_s7z, rp_s7u, rp_g8, rp_s8z, rp_s8u, rp_g9, rp_s9, rp_s9n, rw_g0, rw_s0, rw_s0n, rw_g1, rw_s1, rw_s1n, rw_g2, rw_s2, rw_s2n, rw_g3, rw_s3, sS_s, sS_n, sS_a, sS_l, sS_k, lS_l, lS_1, lS_a, lS_k, nI_eq, nI_leI, nI_ltI, nI_add, pk_mul, nN_e, nN_e', nN_l, nN_g, nN_le, nN_ge, ite_not, if_true, if_false, not_true_eq_false, not_false_eq_true, Nat.not_lt_zero, Nat.reduceEqDiff, Nat.reduceLT, Nat.reduceLeDiff, Nat.reduceAdd, Nat.zero_le, ite_self, reduceCtorEq, bI_t, bI_f, bI_z, bI_1, if_pos, if_neg, x1, x2]
    refine t_C (t_mono (hG w SC SM H t W ad N p g u B h x0 x1 x2) ?_)
    rintro r SC1 H1 ⟨rfl, fy, hfr, hlt, hP⟩
    have h' := h
    obtain ⟨hC0, hM0, _, hE0, g12, g13, l1, l2, l3, l4, l5, l6, hS, ⟨hA1, hA2⟩, hO, hW, hA0, hDP⟩ := h'
    have wO := hA1 w (by omega) l2 (Or.inl l4)
    obtain ⟨wa1, ⟨_, _, wb2, _⟩, _, wd2⟩ := hS w (by omega) l2
    obtain ⟨wf1, wf2⟩ := wb2 l4
    have fw : q_far o (ad w) := far_of (by omega)
    have hW' : H1.1 (ad w) = some (oR ((t w).2.1.head?.map ad) ((t w).2.1.getLast?.map ad) none (nI (min 1000 (W w)))) := (hfr _ wO.2).trans hW
    have lowx : ∀ x, (t w).2.1.getLast? = some x → a0 ≤ ad x := by
      intro x hx
      have xk := List.mem_of_getLast? hx
      have := wa1 x xk
      exact (hA1 x (by omega) (by omega) (Or.inr (wf1 x xk))).1
    rw [t_nn, rw_is hW' fw]
    rcases hP with ⟨e, q, b1, b2, b3, b4, b5, b6, b7, s, i, nu, az, le, mo, en, pl, lz, nx, b8⟩ | ⟨SM', t', W', ad', N', p', g', u', B', b1, b2, b3, b4, b5, b6, b7, b8, b9, b10, b11, b12, b13, b14, b15, b16, b17, b18, b19⟩
    · refine t_C (r_app h hfr b8 ?_)
      intro H2 z1 z2 z3 z4
      rw [t_go, nt_l]
      refine t_fix ?_
      show okT (k_Pa_readChoice_13 o G (nI d) (some a0) (some (ad w)) (nI (v + 1))) SC1 H2 _
      unfold k_Pa_readChoice_13
      have fin : LPost o len tx c d a0 SC SM H t p g u (some a0) SC1 H2 := by
        have hLC : LC fAny H2.1 ad (t c).2.1 := by
          obtain ⟨a1, ⟨_, f1, _⟩, d1, _⟩ := hS c (Nat.le_refl c) (by omega)
          refine LC_cg (fun y _ => rfl) ?_ (d1 l3)
          rintro y hy nx e he ⟨l, hl⟩
          have hy1 := a1 y hy
          by_cases ey : y = w
          · subst ey
            have hnx : nx = none := by
              rw [hW] at he
              injection he with he
              rw [hl] at he
              exact (oR_nx he).symm
            subst hnx
            exact ⟨_, z2, _, _, _, rfl⟩
          · have yo : isO (t y) := Or.inl ((f1 l3).2.1 y hy)
            have y1 := hA1 y (by omega) (by omega) yo
            refine ⟨e, ?_, _, l, _, hl⟩
            rw [z4 (ad y) ?_ ?_, hfr _ y1.2]
            · exact he
            · rcases Nat.lt_or_ge y w with z | z
              · have := hA2 y w (by omega) z l2 yo (Or.inl l4)
                omega
              · have := hA2 w y (by omega) (by omega) (by omega) (Or.inl l4) yo
                omega
            · intro x hx
              have xk := List.mem_of_getLast? hx
              have xr := wa1 x xk
              have xo : isO (t x) := Or.inr (wf1 x xk)
              have ky := (f1 l3).2.1 y hy
              have kx := wf1 x xk
              rcases Nat.lt_trichotomy y x with z | z | z
              · have := hA2 y x (by omega) z (by omega) yo xo
                omega
              · subst z
                omega
              · have := hA2 x y (by omega) z (by omega) xo yo
                omega
        obtain ⟨rs, r1, r2⟩ := SzC_any hLC
        cases hk : (t c).2.1 with
        | nil =>
          rw [hk] at l6
          cases l6
        | cons k1 kr =>
          rw [hk] at l6 r2
          injection l6 with l6
          subst l6
          cases rs with
          | nil => cases r2
          | cons y rs' =>
            obtain ⟨y1, y2⟩ := y
            have r3 : y1 = ad (c + 1) := by
              have := congrArg List.head? r2
              simpa using this
            subst r3
            rw [hA0] at r1
            refine ⟨rfl, fy, fun a ha => ?_, by rw [z1]; omega, Or.inl ⟨e, q, y2, rs', b1, b2, b3, b4, b5, b6, ?_, r1, ?_⟩⟩
            · rw [z4 a (by omega) (fun x hx => by have := lowx x hx; omega), hfr a (by omega)]
            · unfold Ctr at *
              rw [z1]
              exact b7
            · intro y hy
              have m1 : y.1 ∈ ((c + 1) :: kr).map ad := by
                rw [← r2]
                rcases List.mem_cons.mp hy with q | q
                · rw [q, ← hA0]
                  simp
                · exact List.mem_map.mpr ⟨y, by simp [q], rfl⟩
              obtain ⟨x, x1', x2'⟩ := List.mem_map.mp m1
              rw [← x2']
              rw [← hk] at x1'
              obtain ⟨a1, ⟨_, f1, _⟩, _⟩ := hS c (Nat.le_refl c) (by omega)
              have := a1 x x1'
              exact (hA1 x (by omega) (by omega) (Or.inl ((f1 l3).2.1 x x1'))).1
      by_cases hv2 : 48 ≤ v + 1
      · simp (disch := first | omega | assumption) only [n_lit, n_m1, t_S, t_s, ↓t_if, t_pure, t_rI, t_riI, t_rt, t_go, nt_l, nt_r, t_nn, t_nul0, t_nul1, rp_g0, rp_s0, rp_g1, rp_s1, rp_s1n, rp_g2, rp_s2, rp_g3, rp_s3, rp_g4, rp_s4, rp_g5, rp_s5, rp_g6, rp_s6z, rp_s6u, rp_g7, rp_s7z, rp_s7u, rp_g8, rp_s8z, rp_s8u, rp_g9, rp_s9, rp_s9n, rw_g0, rw_s0, rw_s0n, rw_g1, rw_s1, rw_s1n, rw_g2, rw_s2, rw_s2n, rw_g3, rw_s3, sS_s, sS_n, sS_a, sS_l, sS_k, lS_l, lS_1, lS_a, lS_k, nI_eq, nI_leI, nI_ltI, nI_add, pk_mul, nN_e, nN_e', nN_l, nN_g, nN_le, nN_ge, ite_not, if_true, if_false, not_true_eq_false, not_false_eq_true, Nat.not_lt_zero, Nat.reduceEqDiff, Nat.reduceLT, Nat.reduceLeDiff, Nat.reduceAdd, Nat.zero_le, ite_self, reduceCtorEq, bI_t, bI_f, bI_z, bI_1, if_pos, if_neg]
        exact fin
      · simp (disch := first | omega | assumption) only [n_lit, n_m1, t_S, t_s, ↓t_if, t_pure, t_rI, t_riI, t_rt, t_go, nt_l, nt_r, t_nn, t_nul0, t_nul1, rp_g0, rp_s0, rp_g1, rp_s1, rp_s1n, rp_g2, rp_s2, rp_g3, rp_s3, rp_g4, rp_s4, rp_g5, rp_s5, rp_g6, rp_s6z, rp_s6u, rp_g7, rp_s7z, rp_s7u, rp_g8, rp_s8z, rp_s8u, rp_g9, rp_s9, rp_s9n, rw_g0, rw_s0, rw_s0n, rw_g1, rw_s1, rw_s1n, rw_g2, rw_s2, rw_s2n, rw_g3, rw_s3, sS_s, sS_n, sS_a, sS_l, sS_k, lS_l, lS_1, lS_a, lS_k, nI_eq, nI_leI, nI_ltI, nI_add, pk_mul, nN_e, nN_e', nN_l, nN_g, nN_le, nN_ge, ite_not, if_true, if_false, not_true_eq_false, not_false_eq_true, Nat.not_lt_zero, Nat.reduceEqDiff, Nat.reduceLT, Nat.reduceLeDiff, Nat.reduceAdd, Nat.zero_le, ite_self, reduceCtorEq, bI_t, bI_f, bI_z, bI_1, if_pos, if_neg, b1]
        exact fin
    · obtain ⟨s, i, nu, az, le, mo, en, pl, lz, o1, o2⟩ := rp_sz b14 (Nat.le_refl N) b11 b13
      have b17' := b17
      rw [o1] at b17'
      refine t_C (r_app h hfr b17' ?_)
      intro H2 z1 z2 z3 z4
      rw [o2] at z2
      have hd1 : (if (t w).2.1 = [] then some H.2.1 else (t w).2.1.head?.map ad) = ((t w).2.1 ++ [N]).head?.map ad' := by
        cases hk : (t w).2.1 with
        | nil =>
          rw [if_pos rfl]
          show some H.2.1 = some (ad' N)
          rw [b16]
        | cons x r =>
          rw [if_neg (by simp)]
          have := wa1 x (by rw [hk]; simp)
          show some (ad x) = some (ad' x)
          rw [(b12 x (by omega)).2.2]
      rw [hd1] at z2
      have hLI := LI_app h b3 b4 b5 b6 b7 b9 b10 b11 b12 b13 b14 b15 b16 b17 hfr hlt z2 z3 z4 z1 b19
      rw [t_go, nt_l]
      have ih2 := ih (v + 1) w SC1 SM' H2 _ _ _ N' p' g' u' B' hLI (by omega) (by omega)
      rw [(b12 w l2).2.2] at ih2
      refine t_mono ih2 ?_
      intro r SC' H' hP
      refine LP_tr hP fy (fun a ha => ?_) (by rw [z1]; omega) b1 b2 (fun n hn => ?_) (fun i hi => ?_) (by omega) (by omega) (by omega) ?_
      · rw [z4 a (by omega) (fun x hx => by have := lowx x hx; omega), hfr a (by omega)]
      · rw [(b12 n (by omega)).1, if_neg (by omega)]
      · exact ⟨(b7 i hi).1, (b7 i hi).2.1, fun _ => (b7 i hi).2.2⟩
      · unfold Ctr at *
        rw [z1]
        exact b18
