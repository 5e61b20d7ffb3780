/-! WRITING, by the class: a repeat -/
section WRP
variable {o y u g N a0 a1 : Nat} {t : Nat → ND} {W ad dp : Nat → Nat} {H : qH} {nx : Option Nat}
theorem rp_flds (h : WX o t W ad dp H u g N a0 a1) (hy : y < N) (h2 : (t y).1 = 2) : ∃ s i nu az, (∀ nx, rpOb t W ad y nx = oP s i nu (nI az) (nI (cle (t y).2.2.1 (t y).2.2.2.1)) (nI (cmo (t y).2.2.1 (t y).2.2.2.1 (t y).2.2.2.2.1)) (nI (cen (t y).2.2.1)) (nI (cpl (t y).2.2.1)) (nI (t y).2.2.2.2.2.1) nx) ∧ az ≤ 1002 ∧ (W (k0 (t y)) ≤ 160 → az = W (k0 (t y))) := by
  obtain ⟨hy1, ⟨_, _, _, s3, _⟩, _⟩ := h.1 y (Nat.zero_le y) hy
  obtain ⟨m, z1, z2, z3, z4⟩ := s3 h2
  have m1 := hy1 m (by rw [z1]; simp)
  have k0y : k0 (t y) = m := by
    unfold k0
    rw [z1]
    rfl
  obtain ⟨ym1, ⟨_, _, _, _, m4, m5⟩, _⟩ := h.1 m (Nat.zero_le m) m1.2
  unfold rpOb
  rw [k0y]
  rcases z2 with z | z
  · simp only [if_pos z]
    unfold rpC
    refine ⟨_, _, _, 1, fun _ => rfl, by omega, fun _ => (m4 z).2.2.symm⟩
  · have z' : ¬ (t m).1 = 3 := by omega
    simp only [if_neg z']
    unfold rpC
    obtain ⟨c, w1, w2, w3, w4⟩ := m5 z
    have k0m : k0 (t m) = c := by
      unfold k0
      rw [w1]
      rfl
    rw [k0m]
    refine ⟨_, _, _, _, fun _ => rfl, ?_, fun q => ?_⟩
    · unfold azOf
      split <;> omega
    · unfold azOf
      rw [w4] at q ⊢
      rw [Nat.min_eq_right (by omega)]
theorem w_rep (h : WX o t W ad dp H u g N a0 a1) (hy : y < N) (h2 : (t y).1 = 2) (hob : H.1 (ad y) = some (rpOb t W ad y nx)) (ih : ∀ c, y < c → c < N → (t c).1 = 0 → WC o t W ad dp H N c) {F : Nat} {S : qSt} {l : List INS} (hF : 3 * (8 - dp y) + 2 ≤ F) (hP : PL S l) (hW : W y + l.length ≤ 160) : okT (g_wr o F 1 (some (ad y)) (nI (dp y))) S H (WP H S (l ++ em t W N y l.length)) := by
  have hf := far_ad h hy (Or.inr h2)
  have hSh := WX_Sh h
  obtain ⟨F', rfl⟩ : ∃ F', F = F' + 1 := ⟨F - 1, by omega⟩
  have hA : ∀ S l, PL S l → W (k0 (t y)) + l.length ≤ 160 → okT (g_wr o F' 2 (some (ad y)) (nI (dp y))) S H (WP H S (l ++ em t W N (k0 (t y)) l.length)) := fun S l p q => w_atom h hy h2 hob ih (by omega) p q
  obtain ⟨s, i, nu, az, ob, haz, haz2⟩ := rp_flds h hy h2
  rw [ob] at hob
  obtain ⟨hy1, ⟨_, _, _, s3, _⟩, _⟩ := h.1 y (Nat.zero_le y) hy
  obtain ⟨m, z1, z2, z3, z4⟩ := s3 h2
  have m1 := hy1 m (by rw [z1]; simp)
  have k0y : k0 (t y) = m := by
    unfold k0
    rw [z1]
    rfl
  clear s3 z2 hy1
  obtain ⟨o1, o2, o3, o4, o5⟩ := z4
  have eE : em t W N y l.length = emB (em t W N) t W y l.length := E_eq hSh hy l.length
  unfold emB at eE
  rw [if_neg (by omega), if_neg (by omega), if_pos h2] at eE
  rw [k0y] at hA haz2 eE
  have lenE : ∀ a, (em t W N m a).length = W m := fun a => E_len hSh N m m1.2 (by omega) a
  rw [eE]
  clear eE
  rw [z3] at hW
  show okT (w_C (f_Pr_writeRepeat o (g_wr o F') (some (ad y)) (nI (dp y))) fun _ => w_pure none) S H _
  rw [z3]
  clear ob z1 z3 k0y
  generalize (t y).2.2.1 = how at *
  generalize (t y).2.2.2.1 = le at *
  generalize (t y).2.2.2.2.1 = mo at *
  generalize (t y).2.2.2.2.2.1 = lz at *
  generalize em t W N = E at *
  generalize W m = sw at *
  generalize hd : dp y = d at *
  have hd8 : d ≤ 8 := by
    have := (h.2.2.2.1 y hy).1
    omega
  clear h ih hSh
  -- copies
  have lp2 : ∀ (k v : Nat) (S : qSt) (l : List INS) (Q : Unit → qSt → qH → Prop), v + k = cle how le → cle how le ≤ 9 → PL S l → k * sw + l.length ≤ 160 → (∀ S', FrU S S' → PL S' (l ++ emCp E m sw k l.length) → okT (k_Pr_writeRepeat_2 o (g_wr o F') (some (ad y)) (nI d) (nI (cle how le))) S' H (nxT (b_Pr_writeRepeat o (g_wr o F')) Q)) → okT (w_fix (b_Pr_writeRepeat o (g_wr o F')) (2, [.int (nI d), .int (nI v)], [some (ad y)])) S H Q := by
    intro k
    induction k with
    | zero =>
      intro v S l Q hv h9 hP hl kk
      refine t_fix ?_
      show okT (k_Pr_writeRepeat_2 o (g_wr o F') (some (ad y)) (nI d) (nI v)) S H _
      rw [show v = cle how le by omega]
      refine kk S (FrU_rf _) ?_
      show PL S (l ++ [])
      rw [List.append_nil]
      exact hP
    | succ k ih2 =>
      intro v S l Q hv h9 hP hl kk
      rw [Nat.succ_mul] at hl
      refine t_fix ?_
      show okT (k_Pr_writeRepeat_2 o (g_wr o F') (some (ad y)) (nI d) (nI v)) S H _
      unfold k_Pr_writeRepeat_2
      rw [t_nn, rp_h4 hob hf]
      simp (disch := first | omega | assumption) only [n_lit, n_m1, t_S, t_s, ↓t_if, t_pure, t_rI, t_riI, t_rt, t_go, nt_l, nt_r, t_nn, t_nul0, t_nul1, rp_g0, rp_s0, rp_g1, rp_s1, rp_s1n, rp_g2, rp_s2, rp_g3, rp_s3, rp_g4, rp_s4, rp_g5, rp_s5, rp_g6, rp_s6z, rp_s6u, rp_g7, rp_s7z, rp_s7u, rp_g8, rp_s8z, rp_s8u, rp_g9, rp_s9, rp_s9n, rw_g0, rw_s0, rw_s0n, rw_g1, rw_s1, rw_s1n, rw_g2, rw_s2, rw_s2n, rw_g3, rw_s3, sS_s, sS_n, sS_a, sS_l, sS_k, lS_l, lS_1, lS_a, lS_k, nI_eq, nI_leI, nI_ltI, nI_add, pk_mul, nN_e, nN_e', nN_l, nN_g, nN_le, nN_ge, ite_not, if_true, if_false, not_true_eq_false, not_false_eq_true, Nat.not_lt_zero, Nat.reduceEqDiff, Nat.reduceLT, Nat.reduceLeDiff, Nat.reduceAdd, Nat.zero_le, ite_self, reduceCtorEq, bI_t, bI_f, bI_z, bI_1, if_pos, if_neg]
      refine t_C (t_mono (hA S l hP (by omega)) ?_)
      rintro _ S1 H1 ⟨rfl, f1, p1⟩
      rw [t_go, nt_l]
      have ll : (l ++ E m l.length).length = l.length + sw := by rw [List.length_append, lenE]
      refine ih2 (v + 1) S1 _ Q (by omega) h9 p1 (by omega) ?_
      intro S2 f2 p2
      refine kk S2 (FrU_tr f2 f1) ?_
      rw [ll, List.append_assoc] at p2
      exact p2
  -- copies that may be left out
  have lp3 : ∀ (fin k v : Nat) (S : qSt) (l : List INS) (Q : Unit → qSt → qH → Prop), fin ≤ 1000 → v + k = cmo how le mo → cmo how le mo ≤ 9 → PL S l → k * (sw + 1) + l.length ≤ 160 → (∀ S', FrU S S' → PL S' (l ++ emOp E m sw lz fin k l.length) → Q () S' H) → okT (w_fix (b_Pr_writeRepeat o (g_wr o F')) (133, [.int (nI d), .int (nI fin), .int (nI v)], [some (ad y)])) S H Q := by
    intro fin k
    induction k with
    | zero =>
      intro v S l Q hfin hv h9 hP hl kk
      refine t_fix ?_
      show okT (k_Pr_writeRepeat_133 o (g_wr o F') (some (ad y)) (nI d) (nI fin) (nI v)) S H _
      unfold k_Pr_writeRepeat_133
      rw [t_nn, rp_h5 hob hf]
      simp (disch := first | omega | assumption) only [n_lit, n_m1, t_S, t_s, ↓t_if, t_pure, t_rI, t_riI, t_rt, t_go, nt_l, nt_r, t_nn, t_nul0, t_nul1, rp_g0, rp_s0, rp_g1, rp_s1, rp_s1n, rp_g2, rp_s2, rp_g3, rp_s3, rp_g4, rp_s4, rp_g5, rp_s5, rp_g6, rp_s6z, rp_s6u, rp_g7, rp_s7z, rp_s7u, rp_g8, rp_s8z, rp_s8u, rp_g9, rp_s9, rp_s9n, rw_g0, rw_s0, rw_s0n, rw_g1, rw_s1, rw_s1n, rw_g2, rw_s2, rw_s2n, rw_g3, rw_s3, sS_s, sS_n, sS_a, sS_l, sS_k, lS_l, lS_1, lS_a, lS_k, nI_eq, nI_leI, nI_ltI, nI_add, pk_mul, nN_e, nN_e', nN_l, nN_g, nN_le, nN_ge, ite_not, if_true, if_false, not_true_eq_false, not_false_eq_true, Nat.not_lt_zero, Nat.reduceEqDiff, Nat.reduceLT, Nat.reduceLeDiff, Nat.reduceAdd, Nat.zero_le, ite_self, reduceCtorEq, bI_t, bI_f, bI_z, bI_1, if_pos, if_neg]
      refine kk S (FrU_rf _) ?_
      show PL S (l ++ [])
      rw [List.append_nil]
      exact hP
    | succ k ih3 =>
      intro v S l Q hfin hv h9 hP hl kk
      rw [Nat.succ_mul] at hl
      refine t_fix ?_
      show okT (k_Pr_writeRepeat_133 o (g_wr o F') (some (ad y)) (nI d) (nI fin) (nI v)) S H _
      unfold k_Pr_writeRepeat_133
      rw [t_nn, rp_h5 hob hf]
      have hP1 := hP.1
      simp (disch := first | omega | assumption) only [n_lit, n_m1, t_S, t_s, ↓t_if, t_pure, t_rI, t_riI, t_rt, t_go, nt_l, nt_r, t_nn, t_nul0, t_nul1, rp_g0, rp_s0, rp_g1, rp_s1, rp_s1n, rp_g2, rp_s2, rp_g3, rp_s3, rp_g4, rp_s4, rp_g5, rp_s5, rp_g6, rp_s6z, rp_s6u, rp_g7, rp_s7z, rp_s7u, rp_g8, rp_s8z, rp_s8u, rp_g9, rp_s9, rp_s9n, rw_g0, rw_s0, rw_s0n, rw_g1, rw_s1, rw_s1n, rw_g2, rw_s2, rw_s2n, rw_g3, rw_s3, sS_s, sS_n, sS_a, sS_l, sS_k, lS_l, lS_1, lS_a, lS_k, nI_eq, nI_leI, nI_ltI, nI_add, pk_mul, nN_e, nN_e', nN_l, nN_g, nN_le, nN_ge, ite_not, if_true, if_false, not_true_eq_false, not_false_eq_true, Nat.not_lt_zero, Nat.reduceEqDiff, Nat.reduceLT, Nat.reduceLeDiff, Nat.reduceAdd, Nat.zero_le, ite_self, reduceCtorEq, bI_t, bI_f, bI_z, bI_1, if_pos, if_neg, hP1, rp_h8 hob hf]
      refine t_O (e_addS hP (by omega) o4 fun S1 f1 p1 => ?_)
      have ll : (l ++ [spl lz (l.length + 1) fin]).length = l.length + 1 := by simp
      refine t_C (t_mono (hA S1 _ p1 (by rw [ll]; omega)) ?_)
      rintro _ S2 H2 ⟨rfl, f2, p2⟩
      rw [t_go, nt_l]
      rw [ll] at p2
      have ll2 : (l ++ [spl lz (l.length + 1) fin] ++ E m (l.length + 1)).length = l.length + sw + 1 := by
        rw [List.length_append, ll, lenE]
        omega
      refine ih3 (v + 1) S2 _ Q hfin (by omega) h9 p2 (by omega) ?_
      intro S3 f3 p3
      refine kk S3 (FrU_tr f3 (FrU_tr f2 f1)) ?_
      rw [ll2] at p3
      have e1 : l ++ [spl lz (l.length + 1) fin] ++ E m (l.length + 1) ++ emOp E m sw lz fin k (l.length + sw + 1) = l ++ emOp E m sw lz fin (k + 1) l.length := by
        show _ = l ++ (spl lz (l.length + 1) fin :: (E m (l.length + 1) ++ emOp E m sw lz fin k (l.length + sw + 1)))
        simp
      rw [← e1]
      exact p3
  -- repeats without end or plus
  have plain : ∀ (cl cm : Nat), cl = cle how le → cm = cmo how le mo → cen how = 0 → cpl how = 0 → cl ≤ cm → cm ≤ 9 → cl * sw + (cm - cl) * (sw + 1) + l.length ≤ 160 → okT (w_C (f_Pr_writeRepeat o (g_wr o F') (some (ad y)) (nI d)) fun _ => (w_pure none : qW (Option Nat))) S H (WP H S (l ++ (emCp E m sw cl l.length ++ emOp E m sw lz (l.length + (cl * sw + (cm - cl) * (sw + 1))) (cm - cl) (l.length + cl * sw)))) := by
    intro cl cm e1 e2 e3 e4 e5 e6 e7
    refine t_C ?_
    unfold f_Pr_writeRepeat
    refine t_fix ?_
    show okT (k_Pr_writeRepeat_0 o (g_wr o F') (some (ad y)) (nI d)) S H _
    unfold k_Pr_writeRepeat_0
    simp (disch := first | omega | assumption) only [n_lit, n_m1, t_S, t_s, ↓t_if, t_pure, t_rI, t_riI, t_rt, t_go, nt_l, nt_r, t_nn, t_nul0, t_nul1, rp_g0, rp_s0, rp_g1, rp_s1, rp_s1n, rp_g2, rp_s2, rp_g3, rp_s3, rp_g4, rp_s4, rp_g5, rp_s5, rp_g6, rp_s6z, rp_s6u, rp_g7, rp_s7z, rp_s7u, rp_g8, rp_s8z, rp_s8u, rp_g9, rp_s9, rp_s9n, rw_g0, rw_s0, rw_s0n, rw_g1, rw_s1, rw_s1n, rw_g2, rw_s2, rw_s2n, rw_g3, rw_s3, sS_s, sS_n, sS_a, sS_l, sS_k, lS_l, lS_1, lS_a, lS_k, nI_eq, nI_leI, nI_ltI, nI_add, pk_mul, nN_e, nN_e', nN_l, nN_g, nN_le, nN_ge, ite_not, if_true, if_false, not_true_eq_false, not_false_eq_true, Nat.not_lt_zero, Nat.reduceEqDiff, Nat.reduceLT, Nat.reduceLeDiff, Nat.reduceAdd, Nat.zero_le, ite_self, reduceCtorEq, bI_t, bI_f, bI_z, bI_1, if_pos, if_neg]
    refine lp2 cl 0 S l _ (by omega) (by omega) hP (by omega) ?_
    intro S1 f1 p1
    rw [← e1]
    rw [← e1, ← e2, e3, e4] at hob
    have ll : (l ++ emCp E m sw cl l.length).length = l.length + cl * sw := by rw [List.length_append, emCp_len lenE]
    have p11 := p1.1
    rw [ll] at p11
    unfold k_Pr_writeRepeat_2
    rw [t_nn, rp_h4 hob hf]
    simp (disch := first | omega | assumption) only [n_lit, n_m1, t_S, t_s, ↓t_if, t_pure, t_rI, t_riI, t_rt, t_go, nt_l, nt_r, t_nn, t_nul0, t_nul1, rp_g0, rp_s0, rp_g1, rp_s1, rp_s1n, rp_g2, rp_s2, rp_g3, rp_s3, rp_g4, rp_s4, rp_g5, rp_s5, rp_g6, rp_s6z, rp_s6u, rp_g7, rp_s7z, rp_s7u, rp_g8, rp_s8z, rp_s8u, rp_g9, rp_s9, rp_s9n, rw_g0, rw_s0, rw_s0n, rw_g1, rw_s1, rw_s1n, rw_g2, rw_s2, rw_s2n, rw_g3, rw_s3, sS_s, sS_n, sS_a, sS_l, sS_k, lS_l, lS_1, lS_a, lS_k, nI_eq, nI_leI, nI_ltI, nI_add, pk_mul, nN_e, nN_e', nN_l, nN_g, nN_le, nN_ge, ite_not, if_true, if_false, not_true_eq_false, not_false_eq_true, Nat.not_lt_zero, Nat.reduceEqDiff, Nat.reduceLT, Nat.reduceLeDiff, Nat.reduceAdd, Nat.zero_le, ite_self, reduceCtorEq, bI_t, bI_f, bI_z, bI_1, if_pos, if_neg, rp_h7 hob hf, rp_h6 hob hf, p11, rp_h5 hob hf, rp_h4 hob hf, rp_h3 hob hf, pk_sub]
    have fin : l.length + cl * sw + (cm - cl) * (az + 1) = l.length + (cl * sw + (cm - cl) * (sw + 1)) := by
      rcases Nat.eq_zero_or_pos (cm - cl) with q | q
      · rw [q]
        omega
      · have := mul_le1 (x := sw + 1) q
        rw [haz2 (by omega)]
        omega
    rw [fin]
    refine lp3 _ (cm - cl) cl S1 _ _ (by omega) (by omega) (by omega) p1 (by omega) ?_
    intro S2 f2 p2
    refine ⟨rfl, FrU_tr f2 f1, ?_⟩
    rw [ll, List.append_assoc] at p2
    exact p2
  -- repeats without end
  have endl : ∀ (cl : Nat), cl = cle how le → cen how = 1 → cpl how = 0 → cl ≤ 9 → (cl + 1) * sw + 2 + l.length ≤ 160 → okT (w_C (f_Pr_writeRepeat o (g_wr o F') (some (ad y)) (nI d)) fun _ => (w_pure none : qW (Option Nat))) S H (WP H S (l ++ (emCp E m sw cl l.length ++ spl lz (l.length + cl * sw + 1) (l.length + cl * sw + sw + 2) :: (E m (l.length + cl * sw + 1) ++ [(2, l.length + cl * sw, 0)])))) := by
    intro cl e1 e3 e4 e6 e7
    rw [Nat.succ_mul] at e7
    refine t_C ?_
    unfold f_Pr_writeRepeat
    refine t_fix ?_
    show okT (k_Pr_writeRepeat_0 o (g_wr o F') (some (ad y)) (nI d)) S H _
    unfold k_Pr_writeRepeat_0
    simp (disch := first | omega | assumption) only [n_lit, n_m1, t_S, t_s, ↓t_if, t_pure, t_rI, t_riI, t_rt, t_go, nt_l, nt_r, t_nn, t_nul0, t_nul1, rp_g0, rp_s0, rp_g1, rp_s1, rp_s1n, rp_g2, rp_s2, rp_g3, rp_s3, rp_g4, rp_s4, rp_g5, rp_s5, rp_g6, rp_s6z, rp_s6u, rp_g7, rp_s7z, rp_s7u, rp_g8, rp_s8z, rp_s8u, rp_g9, rp_s9, rp_s9n, rw_g0, rw_s0, rw_s0n, rw_g1, rw_s1, rw_s1n, rw_g2, rw_s2, rw_s2n, rw_g3, rw_s3, sS_s, sS_n, sS_a, sS_l, sS_k, lS_l, lS_1, lS_a, lS_k, nI_eq, nI_leI, nI_ltI, nI_add, pk_mul, nN_e, nN_e', nN_l, nN_g, nN_le, nN_ge, ite_not, if_true, if_false, not_true_eq_false, not_false_eq_true, Nat.not_lt_zero, Nat.reduceEqDiff, Nat.reduceLT, Nat.reduceLeDiff, Nat.reduceAdd, Nat.zero_le, ite_self, reduceCtorEq, bI_t, bI_f, bI_z, bI_1, if_pos, if_neg]
    refine lp2 cl 0 S l _ (by omega) (by omega) hP (by omega) ?_
    intro S1 f1 p1
    rw [← e1]
    rw [← e1, e3, e4] at hob
    have ll : (l ++ emCp E m sw cl l.length).length = l.length + cl * sw := by rw [List.length_append, emCp_len lenE]
    have p11 := p1.1
    rw [ll] at p11
    unfold k_Pr_writeRepeat_2
    rw [t_nn, rp_h4 hob hf]
    have haz3 := haz2 (by omega)
    simp (disch := first | omega | assumption) only [n_lit, n_m1, t_S, t_s, ↓t_if, t_pure, t_rI, t_riI, t_rt, t_go, nt_l, nt_r, t_nn, t_nul0, t_nul1, rp_g0, rp_s0, rp_g1, rp_s1, rp_s1n, rp_g2, rp_s2, rp_g3, rp_s3, rp_g4, rp_s4, rp_g5, rp_s5, rp_g6, rp_s6z, rp_s6u, rp_g7, rp_s7z, rp_s7u, rp_g8, rp_s8z, rp_s8u, rp_g9, rp_s9, rp_s9n, rw_g0, rw_s0, rw_s0n, rw_g1, rw_s1, rw_s1n, rw_g2, rw_s2, rw_s2n, rw_g3, rw_s3, sS_s, sS_n, sS_a, sS_l, sS_k, lS_l, lS_1, lS_a, lS_k, nI_eq, nI_leI, nI_ltI, nI_add, pk_mul, nN_e, nN_e', nN_l, nN_g, nN_le, nN_ge, ite_not, if_true, if_false, not_true_eq_false, not_false_eq_true, Nat.not_lt_zero, Nat.reduceEqDiff, Nat.reduceLT, Nat.reduceLeDiff, Nat.reduceAdd, Nat.zero_le, ite_self, reduceCtorEq, bI_t, bI_f, bI_z, bI_1, if_pos, if_neg, rp_h7 hob hf, rp_h6 hob hf, p11, rp_h8 hob hf, rp_h3 hob hf]
    rw [haz3]
    refine t_O (e_addS p1 (by rw [ll]; omega) o4 fun S2 f2 p2 => ?_)
    have ll2 : (l ++ emCp E m sw cl l.length ++ [spl lz (l.length + cl * sw + 1) (l.length + cl * sw + sw + 2)]).length = l.length + cl * sw + 1 := by
      rw [List.length_append, ll]
      rfl
    refine t_C (t_mono (hA S2 _ p2 (by rw [ll2]; omega)) ?_)
    rintro _ S3 H3 ⟨rfl, f3, p3⟩
    rw [ll2] at p3
    refine t_O (e_addI p3 (by rw [List.length_append, ll2, lenE]; omega) fun S4 f4 p4 => ?_)
    simp (disch := first | omega | assumption) only [n_lit, n_m1, t_S, t_s, ↓t_if, t_pure, t_rI, t_riI, t_rt, t_go, nt_l, nt_r, t_nn, t_nul0, t_nul1, rp_g0, rp_s0, rp_g1, rp_s1, rp_s1n, rp_g2, rp_s2, rp_g3, rp_s3, rp_g4, rp_s4, rp_g5, rp_s5, rp_g6, rp_s6z, rp_s6u, rp_g7, rp_s7z, rp_s7u, rp_g8, rp_s8z, rp_s8u, rp_g9, rp_s9, rp_s9n, rw_g0, rw_s0, rw_s0n, rw_g1, rw_s1, rw_s1n, rw_g2, rw_s2, rw_s2n, rw_g3, rw_s3, sS_s, sS_n, sS_a, sS_l, sS_k, lS_l, lS_1, lS_a, lS_k, nI_eq, nI_leI, nI_ltI, nI_add, pk_mul, nN_e, nN_e', nN_l, nN_g, nN_le, nN_ge, ite_not, if_true, if_false, not_true_eq_false, not_false_eq_true, Nat.not_lt_zero, Nat.reduceEqDiff, Nat.reduceLT, Nat.reduceLeDiff, Nat.reduceAdd, Nat.zero_le, ite_self, reduceCtorEq, bI_t, bI_f, bI_z, bI_1, if_pos, if_neg]
    refine ⟨rfl, FrU_tr f4 (FrU_tr f3 (FrU_tr f2 f1)), ?_⟩
    simpa using p4
  have hh : how = 0 ∨ how = 1 ∨ how = 2 ∨ how = 3 ∨ how = 4 ∨ how = 5 ∨ how = 6 := by omega
  rcases hh with e | e | e | e | e | e | e
  · subst e
    have hw : sw + l.length ≤ 160 := hW
    have := plain 1 1 rfl rfl rfl rfl (by omega) (by omega) (by omega)
    show okT _ S H (WP H S (l ++ (emCp E m sw 1 l.length ++ [])))
    exact this
  · subst e
    have hw : sw + 2 + l.length ≤ 160 := hW
    exact endl 0 rfl rfl rfl (by omega) (by omega)
  · subst e
    have hw : sw + 1 + l.length ≤ 160 := hW
    show okT _ S H (WP H S (l ++ ((E m l.length ++ []) ++ [spl lz l.length (l.length + 1 * sw + 1)])))
    refine t_C ?_
    unfold f_Pr_writeRepeat
    refine t_fix ?_
    show okT (k_Pr_writeRepeat_0 o (g_wr o F') (some (ad y)) (nI d)) S H _
    unfold k_Pr_writeRepeat_0
    simp (disch := first | omega | assumption) only [n_lit, n_m1, t_S, t_s, ↓t_if, t_pure, t_rI, t_riI, t_rt, t_go, nt_l, nt_r, t_nn, t_nul0, t_nul1, rp_g0, rp_s0, rp_g1, rp_s1, rp_s1n, rp_g2, rp_s2, rp_g3, rp_s3, rp_g4, rp_s4, rp_g5, rp_s5, rp_g6, rp_s6z, rp_s6u, rp_g7, rp_s7z, rp_s7u, rp_g8, rp_s8z, rp_s8u, rp_g9, rp_s9, rp_s9n, rw_g0, rw_s0, rw_s0n, rw_g1, rw_s1, rw_s1n, rw_g2, rw_s2, rw_s2n, rw_g3, rw_s3, sS_s, sS_n, sS_a, sS_l, sS_k, lS_l, lS_1, lS_a, lS_k, nI_eq, nI_leI, nI_ltI, nI_add, pk_mul, nN_e, nN_e', nN_l, nN_g, nN_le, nN_ge, ite_not, if_true, if_false, not_true_eq_false, not_false_eq_true, Nat.not_lt_zero, Nat.reduceEqDiff, Nat.reduceLT, Nat.reduceLeDiff, Nat.reduceAdd, Nat.zero_le, ite_self, reduceCtorEq, bI_t, bI_f, bI_z, bI_1, if_pos, if_neg]
    refine lp2 0 0 S l _ rfl (by show 0 ≤ 9; omega) hP (by omega) ?_
    intro S1 f1 p1
    have p1' : PL S1 l := by
      have : l ++ emCp E m sw 0 l.length = l := List.append_nil l
      rw [this] at p1
      exact p1
    have p11 := p1'.1
    have hob' : H.1 (ad y) = some (oP s i nu (nI az) (nI 0) (nI 1) (nI 0) (nI 1) (nI lz) nx) := hob
    show okT (k_Pr_writeRepeat_2 o (g_wr o F') (some (ad y)) (nI d) (nI 0)) S1 H _
    unfold k_Pr_writeRepeat_2
    rw [t_nn, rp_h4 hob' hf]
    simp (disch := first | omega | assumption) only [n_lit, n_m1, t_S, t_s, ↓t_if, t_pure, t_rI, t_riI, t_rt, t_go, nt_l, nt_r, t_nn, t_nul0, t_nul1, rp_g0, rp_s0, rp_g1, rp_s1, rp_s1n, rp_g2, rp_s2, rp_g3, rp_s3, rp_g4, rp_s4, rp_g5, rp_s5, rp_g6, rp_s6z, rp_s6u, rp_g7, rp_s7z, rp_s7u, rp_g8, rp_s8z, rp_s8u, rp_g9, rp_s9, rp_s9n, rw_g0, rw_s0, rw_s0n, rw_g1, rw_s1, rw_s1n, rw_g2, rw_s2, rw_s2n, rw_g3, rw_s3, sS_s, sS_n, sS_a, sS_l, sS_k, lS_l, lS_1, lS_a, lS_k, nI_eq, nI_leI, nI_ltI, nI_add, pk_mul, nN_e, nN_e', nN_l, nN_g, nN_le, nN_ge, ite_not, if_true, if_false, not_true_eq_false, not_false_eq_true, Nat.not_lt_zero, Nat.reduceEqDiff, Nat.reduceLT, Nat.reduceLeDiff, Nat.reduceAdd, Nat.zero_le, ite_self, reduceCtorEq, bI_t, bI_f, bI_z, bI_1, if_pos, if_neg, rp_h7 hob' hf, p11]
    refine t_C (t_mono (hA S1 l p1' (by omega)) ?_)
    rintro _ S2 H2 ⟨rfl, f2, p2⟩
    have ll : (l ++ E m l.length).length = l.length + sw := by rw [List.length_append, lenE]
    have p21 := p2.1
    rw [ll] at p21
    simp (disch := first | omega | assumption) only [n_lit, n_m1, t_S, t_s, ↓t_if, t_pure, t_rI, t_riI, t_rt, t_go, nt_l, nt_r, t_nn, t_nul0, t_nul1, rp_g0, rp_s0, rp_g1, rp_s1, rp_s1n, rp_g2, rp_s2, rp_g3, rp_s3, rp_g4, rp_s4, rp_g5, rp_s5, rp_g6, rp_s6z, rp_s6u, rp_g7, rp_s7z, rp_s7u, rp_g8, rp_s8z, rp_s8u, rp_g9, rp_s9, rp_s9n, rw_g0, rw_s0, rw_s0n, rw_g1, rw_s1, rw_s1n, rw_g2, rw_s2, rw_s2n, rw_g3, rw_s3, sS_s, sS_n, sS_a, sS_l, sS_k, lS_l, lS_1, lS_a, lS_k, nI_eq, nI_leI, nI_ltI, nI_add, pk_mul, nN_e, nN_e', nN_l, nN_g, nN_le, nN_ge, ite_not, if_true, if_false, not_true_eq_false, not_false_eq_true, Nat.not_lt_zero, Nat.reduceEqDiff, Nat.reduceLT, Nat.reduceLeDiff, Nat.reduceAdd, Nat.zero_le, ite_self, reduceCtorEq, bI_t, bI_f, bI_z, bI_1, if_pos, if_neg, rp_h8 hob' hf, p21]
    refine t_O (e_addS p2 (by rw [ll]; omega) o4 fun S3 f3 p3 => ?_)
    simp (disch := first | omega | assumption) only [n_lit, n_m1, t_S, t_s, ↓t_if, t_pure, t_rI, t_riI, t_rt, t_go, nt_l, nt_r, t_nn, t_nul0, t_nul1, rp_g0, rp_s0, rp_g1, rp_s1, rp_s1n, rp_g2, rp_s2, rp_g3, rp_s3, rp_g4, rp_s4, rp_g5, rp_s5, rp_g6, rp_s6z, rp_s6u, rp_g7, rp_s7z, rp_s7u, rp_g8, rp_s8z, rp_s8u, rp_g9, rp_s9, rp_s9n, rw_g0, rw_s0, rw_s0n, rw_g1, rw_s1, rw_s1n, rw_g2, rw_s2, rw_s2n, rw_g3, rw_s3, sS_s, sS_n, sS_a, sS_l, sS_k, lS_l, lS_1, lS_a, lS_k, nI_eq, nI_leI, nI_ltI, nI_add, pk_mul, nN_e, nN_e', nN_l, nN_g, nN_le, nN_ge, ite_not, if_true, if_false, not_true_eq_false, not_false_eq_true, Nat.not_lt_zero, Nat.reduceEqDiff, Nat.reduceLT, Nat.reduceLeDiff, Nat.reduceAdd, Nat.zero_le, ite_self, reduceCtorEq, bI_t, bI_f, bI_z, bI_1, if_pos, if_neg]
    refine ⟨rfl, FrU_tr f3 (FrU_tr f2 f1), ?_⟩
    rw [List.append_nil, Nat.one_mul, ← List.append_assoc]
    exact p3
  · subst e
    have hw : sw + 1 + l.length ≤ 160 := hW
    have := plain 0 1 rfl rfl rfl rfl (by omega) (by omega) (by omega)
    have e9 : l.length + (0 * sw + (1 - 0) * (sw + 1)) = l.length + (sw + 1) := by omega
    rw [e9] at this
    exact this
  · subst e
    have hw : le * sw + l.length ≤ 160 := hW
    have := plain le le rfl rfl rfl rfl (by omega) (by omega) (by rw [Nat.sub_self]; omega)
    rw [Nat.sub_self] at this
    exact this
  · subst e
    have hw : (le + 1) * sw + 2 + l.length ≤ 160 := hW
    exact endl le rfl rfl rfl (by omega) hw
  · subst e
    have hw : le * sw + (mo - le) * (sw + 1) + l.length ≤ 160 := hW
    exact plain le mo rfl rfl rfl rfl (o5 rfl) (by omega) hw
end WRP
