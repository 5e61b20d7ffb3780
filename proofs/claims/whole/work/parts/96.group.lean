/-! READING: class and reference side by side; a choice from its beginning; groups -/
def SimC (o len : Nat) (tx : Nat → Nat) (d : Nat) (G0 : qW (Option Nat)) : Prop := ∀ c SC SM H t p g u B, CH SC len tx p u g B → MH SM len tx p u g (c + 2) d t B → NB p u g (c + 2) d → BE B u → SM.2.1 12 d = nI c → SM.2.1 13 d = nI (c + 1) → (t c).1 = 0 → (t c).2.1 = [c + 1] → (t (c + 1)).1 = 1 → (t (c + 1)).2.1 = [] → o + 21 ≤ H.2.1 → okT G0 SC H (LPost o len tx c d H.2.1 SC SM (q_up H.1 H.2.1 (oR none none none (nI 0)), H.2.1 + 1, H.2.2.1 + 1, H.2.2.2 + 4) t p g u)
theorem s_choice {o len d : Nat} {tx : Nat → Nat} {G : Nat → Option Nat → Int32 → qW (Option Nat)} (hG : ∀ c a0 w SC SM H t W ad N p g u B, LI o len tx c w d a0 SC SM H t W ad N p g u B → pe len tx p ≠ 0 → pe len tx p ≠ 41 → pe len tx p ≠ 124 → okT (G 1 none (nI d)) SC H (RPost len tx w d SC SM H t W ad N p g u)) : SimC o len tx d (f_Pa_readChoice o G (nI d)) := by
  intro c SC SM H t p g u B hC hM hB hE h12 h13 c1 c2 c3 c4 hO
  unfold f_Pa_readChoice
  refine t_fix ?_
  show okT (k_Pa_readChoice_0 o G (nI d)) SC H _
  unfold k_Pa_readChoice_0
  have hf := far_of hO
  rw [t_newR hf]
  refine t_C ?_
  unfold f_Rw_init
  simp (disch := first | omega | assumption) only [n_lit, n_m1, t_S, t_s, ↓t_if, t_pure, t_rI, t_riI, t_rt, t_go, nt_l, nt_r, t_nn, t_nul0, t_nul1, rp_g0, rp_s0, rp_g1, rp_s1, rp_s1n, rp_g2, rp_s2, rp_g3, rp_s3, rp_g4, rp_s4, rp_g5, rp_s5, rp_g6, rp_s6z, rp_s6u, rp_g7, rp_s7z, rp_s7u, rp_g8, rp_s8z, rp_s8u, rp_g9, rp_s9, rp_s9n, rw_g0, rw_s0, rw_s0n, rw_g1, rw_s1, rw_s1n, rw_g2, rw_s2, rw_s2n, rw_g3, rw_s3, sS_s, sS_n, sS_a, sS_l, sS_k, lS_l, lS_1, lS_a, lS_k, nI_eq, nI_leI, nI_ltI, nI_add, pk_mul, nN_e, nN_e', nN_l, nN_g, nN_le, nN_ge, ite_not, if_true, if_false, not_true_eq_false, not_false_eq_true, Nat.not_lt_zero, Nat.reduceEqDiff, Nat.reduceLT, Nat.reduceLeDiff, Nat.reduceAdd, Nat.zero_le, ite_self, reduceCtorEq, bI_t, bI_f, bI_z, bI_1, if_pos, if_neg]
  have hLI : LI o len tx c (c + 1) d H.2.1 SC SM (q_up H.1 H.2.1 (oR none none none (nI 0)), H.2.1 + 1, H.2.2.1 + 1, H.2.2.2 + 4) t (fun _ => 0) (fun _ => H.2.1) (c + 2) p g u B := by
    refine ⟨hC, hM, hB, hE, h12, h13, by omega, by omega, c1, c3, by rw [c2]; rfl, by rw [c2]; rfl, ?_, ⟨?_, ?_⟩, hO, ?_, rfl, ?_⟩
    · intro n a b
      have hn : n = c ∨ n = c + 1 := by omega
      rcases hn with rfl | rfl
      · unfold NdO SN HN
        rw [c2, c1]
        refine ⟨fun k hk => ?_, ⟨by omega, fun _ => ⟨by simp, fun x hx => ?_, ?_⟩, fun h => (by cases h), fun h => (by cases h), fun h => (by cases h), fun h => (by cases h)⟩, fun _ => ⟨⟨_, upS _ _ _, none, ?_⟩, trivial⟩, fun h => (by cases h)⟩
        · have : k = n + 1 := by simpa using hk
          omega
        · have : x = n + 1 := by simpa using hx
          rw [this]
          exact c3
        · rfl
        · rw [c4]
          rfl
      · unfold NdO SN HN
        rw [c4, c3]
        exact ⟨fun k hk => (by cases hk), ⟨by omega, fun h => (by cases h), fun _ => ⟨fun x hx => (by cases hx), rfl⟩, fun h => (by cases h), fun h => (by cases h), fun h => (by cases h)⟩, fun h => (by cases h), fun _ => trivial⟩
    · intro n a b hn
      show H.2.1 ≤ H.2.1 ∧ H.2.1 < H.2.1 + 1
      omega
    · intro n m a b e hn hm
      have : n = c := by omega
      subst this
      unfold isO at hn
      omega
    · show q_up H.1 H.2.1 _ H.2.1 = _
      rw [c4]
      exact upS _ _ _
    · refine ⟨fun _ => d, rfl, rfl, fun n a b => ⟨hB.2.2.2.2, fun k hk => ?_⟩⟩
      have hn : n = c ∨ n = c + 1 := by omega
      rcases hn with rfl | rfl
      · rw [c2] at hk
        have : k = n + 1 := by simpa using hk
        subst this
        rw [c3]
        rfl
      · rw [c4] at hk
        cases hk
  exact s_loop (fun w SC SM H t W ad N p g u B h => hG c _ w SC SM H t W ad N p g u B h) 49 0 (c + 1) SC SM _ t _ _ (c + 2) p g u B hLI (by omega) (by omega)
theorem SzC_cg {H H' : Nat → Option qE} : ∀ {l : List (Nat × Int32)}, SzC H l → (∀ y ∈ l, H' y.1 = H y.1) → SzC H' l := by
  intro l
  induction l with
  | nil => intro _ _; trivial
  | cons x r ih =>
    rintro ⟨⟨f, l, h1⟩, h2⟩ h3
    exact ⟨⟨f, l, (h3 x (by simp)).trans h1⟩, ih h2 (fun y hy => h3 y (by simp [hy]))⟩
theorem sOpen_r {c : Nat → Nat} {p g d : Nat} (hc : ∀ p, c p ≠ 0 → p < 48) (h0 : c p = 40) (hg : g ≤ 6) : match sOpen c p g d with
    | .inl e => p ≤ e ∧ e ≤ 48
    | .inr (q, num) => p < q ∧ q ≤ 48 ∧ d ≠ 8 ∧ num ≤ 6 ∧ ((num = 0 ∧ q = p + 3) ∨ (num = g + 1)) := by
  have h1 := hc p (by omega)
  unfold sOpen
  split
  · rename_i e he
    split at he
    · cases he; omega
    · split at he
      · rename_i h2
        have h3 := hc (p + 1) (by omega)
        split at he
        · cases he
        · cases he; omega
      · split at he
        · cases he; omega
        · cases he
  · rename_i q num he
    split at he
    · cases he
    · split at he
      · rename_i h2
        have h3 := hc (p + 1) (by omega)
        split at he
        · rename_i h4
          have h5 := hc (p + 1 + 1) (by omega)
          cases he
          omega
        · cases he
      · split at he
        · cases he
        · cases he
          omega
section GR
variable {SC SM S : qSt} {H H2 : qH} {h : Nat → Option qE} {mm : Nat × Nat × Nat} {len p u g N d w o b n1 num : Nat} {tx : Nat → Nat} {t : Nat → ND} {W ad : Nat → Nat} {B : MBf} {G G3 : Nat → Option Nat → Int32 → qW (Option Nat)} {s0 : Int32} {rs : List (Nat × Int32)}
theorem g_err {e : Nat} {Q : Unit → qSt → qH → Prop} (h85 : S.1 85 = nI e) (he : e ≤ 48) (k : Q () S H) : okT (k_Pa_readGroup_83 o G3 (some b) (nI d)) S H Q := by
  unfold k_Pa_readGroup_83
  simp (disch := first | omega | assumption) only [n_lit, n_m1, t_S, t_s, ↓t_if, t_pure, t_rI, t_riI, t_rt, t_go, nt_l, nt_r, t_nn, t_nul0, t_nul1, rp_g0, rp_s0, rp_g1, rp_s1, rp_s1n, rp_g2, rp_s2, rp_g3, rp_s3, rp_g4, rp_s4, rp_g5, rp_s5, rp_g6, rp_s6z, rp_s6u, rp_g7, rp_s7z, rp_s7u, rp_g8, rp_s8z, rp_s8u, rp_g9, rp_s9, rp_s9n, rw_g0, rw_s0, rw_s0n, rw_g1, rw_s1, rw_s1n, rw_g2, rw_s2, rw_s2n, rw_g3, rw_s3, sS_s, sS_n, sS_a, sS_l, sS_k, lS_l, lS_1, lS_a, lS_k, nI_eq, nI_leI, nI_ltI, nI_add, pk_mul, nN_e, nN_e', nN_l, nN_g, nN_le, nN_ge, ite_not, if_true, if_false, not_true_eq_false, not_false_eq_true, Nat.not_lt_zero, Nat.reduceEqDiff, Nat.reduceLT, Nat.reduceLeDiff, Nat.reduceAdd, Nat.zero_le, ite_self, reduceCtorEq, bI_t, bI_f, bI_z, bI_1, if_pos, if_neg, h85]
  exact k
theorem g_open {Q : Unit → qSt → qH → Prop} (hf : q_far o b) (hC : CH SC len tx p u g B) (hg : g ≤ 6) (hd : d ≤ 8) (x : pe len tx p = 40) (kE : ∀ e S', sOpen (pe len tx) p g d = .inl e → FrY SC S' → S'.1 85 = nI e → S'.1 83 = nI e → Q () S' (q_up h b (oP nN none (nI 0) (nI 1) (nI 1) (nI 1) (nI 0) (nI 0) (nI 0) none), mm)) (kG : ∀ q num S', sOpen (pe len tx) p g d = .inr (q, num) → FrY SC S' → CH S' len tx q u (if num = 0 then g else g + 1) B → okT (k_Pa_readGroup_83 o G3 (some b) (nI d)) S' (q_up h b (oP nN none (nI num) (nI 1) (nI 1) (nI 1) (nI 0) (nI 0) (nI 0) none), mm) Q) : okT (f_Pa_readGroup o G3 (some b) (nI d)) SC (q_up h b (oP nN none (nI 0) (nI 1) (nI 1) (nI 1) (nI 0) (nI 0) (nI 0) none), mm) Q := by
  have hb := fun q => (@pe_le SC len q tx hC.1.1).1
  have hp := ((@pe_le SC len p tx hC.1.1).2 (by omega)).1
  unfold sOpen at kE kG
  unfold f_Pa_readGroup
  by_cases h8 : d = 8
  · rw [if_pos h8] at kE
    simp (disch := first | omega | assumption) only [n_lit, n_m1, t_S, t_s, ↓t_if, t_pure, t_rI, t_riI, t_rt, t_go, nt_l, nt_r, t_nn, t_nul0, t_nul1, rp_g0, rp_s0, rp_g1, rp_s1, rp_s1n, rp_g2, rp_s2, rp_g3, rp_s3, rp_g4, rp_s4, rp_g5, rp_s5, rp_g6, rp_s6z, rp_s6u, rp_g7, rp_s7z, rp_s7u, rp_g8, rp_s8z, rp_s8u, rp_g9, rp_s9, rp_s9n, rw_g0, rw_s0, rw_s0n, rw_g1, rw_s1, rw_s1n, rw_g2, rw_s2, rw_s2n, rw_g3, rw_s3, sS_s, sS_n, sS_a, sS_l, sS_k, lS_l, lS_1, lS_a, lS_k, nI_eq, nI_leI, nI_ltI, nI_add, pk_mul, nN_e, nN_e', nN_l, nN_g, nN_le, nN_ge, ite_not, if_true, if_false, not_true_eq_false, not_false_eq_true, Nat.not_lt_zero, Nat.reduceEqDiff, Nat.reduceLT, Nat.reduceLeDiff, Nat.reduceAdd, Nat.zero_le, ite_self, reduceCtorEq, bI_t, bI_f, bI_z, bI_1, if_pos, if_neg, h8]
    refine t_O (e_fail hC.1 ?_)
    simp (disch := first | omega | assumption) only [n_lit, n_m1, t_S, t_s, ↓t_if, t_pure, t_rI, t_riI, t_rt, t_go, nt_l, nt_r, t_nn, t_nul0, t_nul1, rp_g0, rp_s0, rp_g1, rp_s1, rp_s1n, rp_g2, rp_s2, rp_g3, rp_s3, rp_g4, rp_s4, rp_g5, rp_s5, rp_g6, rp_s6z, rp_s6u, rp_g7, rp_s7z, rp_s7u, rp_g8, rp_s8z, rp_s8u, rp_g9, rp_s9, rp_s9n, rw_g0, rw_s0, rw_s0n, rw_g1, rw_s1, rw_s1n, rw_g2, rw_s2, rw_s2n, rw_g3, rw_s3, sS_s, sS_n, sS_a, sS_l, sS_k, lS_l, lS_1, lS_a, lS_k, nI_eq, nI_leI, nI_ltI, nI_add, pk_mul, nN_e, nN_e', nN_l, nN_g, nN_le, nN_ge, ite_not, if_true, if_false, not_true_eq_false, not_false_eq_true, Nat.not_lt_zero, Nat.reduceEqDiff, Nat.reduceLT, Nat.reduceLeDiff, Nat.reduceAdd, Nat.zero_le, ite_self, reduceCtorEq, bI_t, bI_f, bI_z, bI_1, if_pos, if_neg]
    exact kE p _ rfl (FrY_P (FrP_85 _ _)) sS_s ((sS_n (by omega)).trans hC.1.2.1)
  rw [if_neg h8] at kE kG
  simp (disch := first | omega | assumption) only [n_lit, n_m1, t_S, t_s, ↓t_if, t_pure, t_rI, t_riI, t_rt, t_go, nt_l, nt_r, t_nn, t_nul0, t_nul1, rp_g0, rp_s0, rp_g1, rp_s1, rp_s1n, rp_g2, rp_s2, rp_g3, rp_s3, rp_g4, rp_s4, rp_g5, rp_s5, rp_g6, rp_s6z, rp_s6u, rp_g7, rp_s7z, rp_s7u, rp_g8, rp_s8z, rp_s8u, rp_g9, rp_s9, rp_s9n, rw_g0, rw_s0, rw_s0n, rw_g1, rw_s1, rw_s1n, rw_g2, rw_s2, rw_s2n, rw_g3, rw_s3, sS_s, sS_n, sS_a, sS_l, sS_k, lS_l, lS_1, lS_a, lS_k, nI_eq, nI_leI, nI_ltI, nI_add, pk_mul, nN_e, nN_e', nN_l, nN_g, nN_le, nN_ge, ite_not, if_true, if_false, not_true_eq_false, not_false_eq_true, Nat.not_lt_zero, Nat.reduceEqDiff, Nat.reduceLT, Nat.reduceLeDiff, Nat.reduceAdd, Nat.zero_le, ite_self, reduceCtorEq, bI_t, bI_f, bI_z, bI_1, if_pos, if_neg, hC.1.2.1]
  have c1 := @CI_at SC len p (p + 1) u tx B hC.1
  refine t_O (e_peek c1 (by omega) ?_)
  have hb1 := hb (p + 1)
  by_cases h2 : pe len tx (p + 1) = 63
  · rw [if_pos h2] at kE kG
    have hp1 := ((@pe_le SC len (p + 1) tx hC.1.1).2 (by omega)).1
    rw [h2, pv_n (by omega)]
    simp (disch := first | omega | assumption) only [n_lit, n_m1, t_S, t_s, ↓t_if, t_pure, t_rI, t_riI, t_rt, t_go, nt_l, nt_r, t_nn, t_nul0, t_nul1, rp_g0, rp_s0, rp_g1, rp_s1, rp_s1n, rp_g2, rp_s2, rp_g3, rp_s3, rp_g4, rp_s4, rp_g5, rp_s5, rp_g6, rp_s6z, rp_s6u, rp_g7, rp_s7z, rp_s7u, rp_g8, rp_s8z, rp_s8u, rp_g9, rp_s9, rp_s9n, rw_g0, rw_s0, rw_s0n, rw_g1, rw_s1, rw_s1n, rw_g2, rw_s2, rw_s2n, rw_g3, rw_s3, sS_s, sS_n, sS_a, sS_l, sS_k, lS_l, lS_1, lS_a, lS_k, nI_eq, nI_leI, nI_ltI, nI_add, pk_mul, nN_e, nN_e', nN_l, nN_g, nN_le, nN_ge, ite_not, if_true, if_false, not_true_eq_false, not_false_eq_true, Nat.not_lt_zero, Nat.reduceEqDiff, Nat.reduceLT, Nat.reduceLeDiff, Nat.reduceAdd, Nat.zero_le, ite_self, reduceCtorEq, bI_t, bI_f, bI_z, bI_1, if_pos, if_neg]
    have c2 := @CI_at _ len (p + 1) (p + 1 + 1) u tx B c1
    refine t_O (e_exp c2 (by omega) (by omega) (by omega) (fun h3 => ?_) (fun h3 => ?_))
    · rw [if_pos h3] at kG
      exact kG (p + 1 + 1 + 1) 0 _ rfl (FrY_P (FrP_tr (FrP_83 _ _) (FrP_tr (FrP_83 _ _) (FrP_83 _ _)))) ⟨CI_at c2, by simp (disch := omega) only [n_lit, n_m1, ok_S, ok_s, ok_N, ok_n, ↓ok_if, ok_A, ok_a, ok_L, ok_l, ok_zn0, ok_zn1, ok_f2, ok_pure, ok_rI, ok_bn0, ok_bn1, ok_rt, ok_riI, ok_rn0, ok_rn1, ok_go, nx_l, nx_r, sS_s, sS_n, sS_a, sS_l, sS_k, aS_s, aS_n, aS_1, aS_l, aS_k, lS_l, lS_1, lS_a, lS_k, nS_s, nS_n, nS_1, nS_a, nS_l, updS, updN, nI_eq, nI_leI, nI_ltI, nI_add, pk_mul, nN_e, nN_e', nN_l, nN_g, nN_le, nN_ge, ite_not, if_true, if_false, not_true_eq_false, not_false_eq_true, Nat.not_lt_zero, Nat.reduceEqDiff, Nat.reduceLT, Nat.reduceLeDiff, Nat.reduceAdd, Nat.zero_le, ite_self, reduceCtorEq, bI_t, bI_f, bI_z, bI_1, ok_bb, if_pos, if_neg]; exact hC.2⟩
    · rw [if_neg h3] at kE
      have hp2 : p + 1 + 1 ≤ 48 := by omega
      exact g_err sS_s hp2 (kE (p + 1 + 1) _ rfl (FrY_P (FrP_tr (FrP_85 _ _) (FrP_tr (FrP_83 _ _) (FrP_83 _ _)))) sS_s (by simp (disch := omega) only [n_lit, n_m1, ok_S, ok_s, ok_N, ok_n, ↓ok_if, ok_A, ok_a, ok_L, ok_l, ok_zn0, ok_zn1, ok_f2, ok_pure, ok_rI, ok_bn0, ok_bn1, ok_rt, ok_riI, ok_rn0, ok_rn1, ok_go, nx_l, nx_r, sS_s, sS_n, sS_a, sS_l, sS_k, aS_s, aS_n, aS_1, aS_l, aS_k, lS_l, lS_1, lS_a, lS_k, nS_s, nS_n, nS_1, nS_a, nS_l, updS, updN, nI_eq, nI_leI, nI_ltI, nI_add, pk_mul, nN_e, nN_e', nN_l, nN_g, nN_le, nN_ge, ite_not, if_true, if_false, not_true_eq_false, not_false_eq_true, Nat.not_lt_zero, Nat.reduceEqDiff, Nat.reduceLT, Nat.reduceLeDiff, Nat.reduceAdd, Nat.zero_le, ite_self, reduceCtorEq, bI_t, bI_f, bI_z, bI_1, ok_bb, if_pos, if_neg]))
  · rw [if_neg h2] at kE kG
    rw [t_t (c := ¬ pv (pe len tx (p + 1)) = 63) (pv_z 63 hb1 (by decide) (by decide) h2)]
    by_cases h6 : g = 6
    · rw [if_pos h6] at kE
      simp (disch := first | omega | assumption) only [n_lit, n_m1, t_S, t_s, ↓t_if, t_pure, t_rI, t_riI, t_rt, t_go, nt_l, nt_r, t_nn, t_nul0, t_nul1, rp_g0, rp_s0, rp_g1, rp_s1, rp_s1n, rp_g2, rp_s2, rp_g3, rp_s3, rp_g4, rp_s4, rp_g5, rp_s5, rp_g6, rp_s6z, rp_s6u, rp_g7, rp_s7z, rp_s7u, rp_g8, rp_s8z, rp_s8u, rp_g9, rp_s9, rp_s9n, rw_g0, rw_s0, rw_s0n, rw_g1, rw_s1, rw_s1n, rw_g2, rw_s2, rw_s2n, rw_g3, rw_s3, sS_s, sS_n, sS_a, sS_l, sS_k, lS_l, lS_1, lS_a, lS_k, nI_eq, nI_leI, nI_ltI, nI_add, pk_mul, nN_e, nN_e', nN_l, nN_g, nN_le, nN_ge, ite_not, if_true, if_false, not_true_eq_false, not_false_eq_true, Nat.not_lt_zero, Nat.reduceEqDiff, Nat.reduceLT, Nat.reduceLeDiff, Nat.reduceAdd, Nat.zero_le, ite_self, reduceCtorEq, bI_t, bI_f, bI_z, bI_1, if_pos, if_neg, hC.2, h6]
      refine t_O (e_fail c1 ?_)
      exact g_err sS_s (by omega) (kE (p + 1) _ rfl (FrY_P (FrP_tr (FrP_85 _ _) (FrP_83 _ _))) sS_s (by simp (disch := omega) only [n_lit, n_m1, ok_S, ok_s, ok_N, ok_n, ↓ok_if, ok_A, ok_a, ok_L, ok_l, ok_zn0, ok_zn1, ok_f2, ok_pure, ok_rI, ok_bn0, ok_bn1, ok_rt, ok_riI, ok_rn0, ok_rn1, ok_go, nx_l, nx_r, sS_s, sS_n, sS_a, sS_l, sS_k, aS_s, aS_n, aS_1, aS_l, aS_k, lS_l, lS_1, lS_a, lS_k, nS_s, nS_n, nS_1, nS_a, nS_l, updS, updN, nI_eq, nI_leI, nI_ltI, nI_add, pk_mul, nN_e, nN_e', nN_l, nN_g, nN_le, nN_ge, ite_not, if_true, if_false, not_true_eq_false, not_false_eq_true, Nat.not_lt_zero, Nat.reduceEqDiff, Nat.reduceLT, Nat.reduceLeDiff, Nat.reduceAdd, Nat.zero_le, ite_self, reduceCtorEq, bI_t, bI_f, bI_z, bI_1, ok_bb, if_pos, if_neg]))
    · rw [if_neg h6] at kG
      simp (disch := first | omega | assumption) only [n_lit, n_m1, t_S, t_s, ↓t_if, t_pure, t_rI, t_riI, t_rt, t_go, nt_l, nt_r, t_nn, t_nul0, t_nul1, rp_g0, rp_s0, rp_g1, rp_s1, rp_s1n, rp_g2, rp_s2, rp_g3, rp_s3, rp_g4, rp_s4, rp_g5, rp_s5, rp_g6, rp_s6z, rp_s6u, rp_g7, rp_s7z, rp_s7u, rp_g8, rp_s8z, rp_s8u, rp_g9, rp_s9, rp_s9n, rw_g0, rw_s0, rw_s0n, rw_g1, rw_s1, rw_s1n, rw_g2, rw_s2, rw_s2n, rw_g3, rw_s3, sS_s, sS_n, sS_a, sS_l, sS_k, lS_l, lS_1, lS_a, lS_k, nI_eq, nI_leI, nI_ltI, nI_add, pk_mul, nN_e, nN_e', nN_l, nN_g, nN_le, nN_ge, ite_not, if_true, if_false, not_true_eq_false, not_false_eq_true, Nat.not_lt_zero, Nat.reduceEqDiff, Nat.reduceLT, Nat.reduceLeDiff, Nat.reduceAdd, Nat.zero_le, ite_self, reduceCtorEq, bI_t, bI_f, bI_z, bI_1, if_pos, if_neg, hC.2]
      refine kG (p + 1) (g + 1) _ rfl ⟨rfl, rfl, fun f a b c d => (sS_n c).trans (sS_n b)⟩ ⟨?_, ?_⟩
      · obtain ⟨z1, z2, z3, z4, z5, z6⟩ := c1
        exact ⟨⟨z1.1, (sS_n (by omega)).trans z1.2.1, z1.2.2⟩, (sS_n (by omega)).trans z2, (sS_n (by omega)).trans z3, (sS_n (by omega)).trans z4, z5, z6⟩
      · rw [if_neg (by omega)]
        exact sS_s
theorem g_tail {Q : Unit → qSt → qH → Prop} (h1 : H2.1 b = some (oP nN none (nI num) (nI 1) (nI 1) (nI 1) (nI 0) (nI 0) (nI 0) none)) (hS : SzC H2.1 ((n1, s0) :: rs)) (hlo : ∀ y ∈ (n1, s0) :: rs, n1 ≤ y.1) (hbn : b < n1) (ho : o + 21 ≤ b) (hn : num ≤ 6) (k : Q () S (q_up H2.1 b (oP nN (some n1) (nI num) (szF s0 rs + nI (if 0 < num then 2 else 0)) (nI 1) (nI 1) (nI 0) (nI 0) (nI 0) none), H2.2)) : okT (w_nn (some b) fun p3 => w_d o p3 4 1 (.object "PatternWalk$Row") (va_rf (some n1)) <| w_nn (some n1) fun p4 => w_is p4 o 5 <| w_C (f_Rw_sizeAsChoice o p4) fun x5 => w_DI o p3 4 2 fun x6 => w_if (x6 ≤ 0) (w_d o p3 4 3 .int (.int (x5 + 0)) <| w_pure ()) (w_d o p3 4 3 .int (.int (x5 + 2)) <| w_pure ())) S H2 Q := by
  have hf := far_of ho
  have hS2 : SzC (q_up H2.1 b (oP nN (some n1) (nI num) (nI 1) (nI 1) (nI 1) (nI 0) (nI 0) (nI 0) none)) ((n1, s0) :: rs) := SzC_cg hS (fun y hy => upN (by have := hlo y hy; omega))
  have hS3 := hS2
  obtain ⟨⟨f, l, r1⟩, _⟩ := hS2
  rw [t_nn, rp_t1 h1 hf, t_nn]
  refine (rw_is (H := (q_up H2.1 b _, H2.2)) r1 (far_of (by show o + 21 ≤ n1; omega))).mpr ?_
  refine t_C (e_sac (x := (n1, s0)) (r := rs) hS3 (fun y hy => far_of (by have := hlo y hy; omega)) ?_)
  by_cases hz : 0 < num
  · rw [if_pos hz] at k
    simp (disch := first | omega | assumption) only [n_lit, n_m1, t_S, t_s, ↓t_if, t_pure, t_rI, t_riI, t_rt, t_go, nt_l, nt_r, t_nn, t_nul0, t_nul1, rp_g0, rp_s0, rp_g1, rp_s1, rp_s1n, rp_g2, rp_s2, rp_g3, rp_s3, rp_g4, rp_s4, rp_g5, rp_s5, rp_g6, rp_s6z, rp_s6u, rp_g7, rp_s7z, rp_s7u, rp_g8, rp_s8z, rp_s8u, rp_g9, rp_s9, rp_s9n, rw_g0, rw_s0, rw_s0n, rw_g1, rw_s1, rw_s1n, rw_g2, rw_s2, rw_s2n, rw_g3, rw_s3, sS_s, sS_n, sS_a, sS_l, sS_k, lS_l, lS_1, lS_a, lS_k, nI_eq, nI_leI, nI_ltI, nI_add, pk_mul, nN_e, nN_e', nN_l, nN_g, nN_le, nN_ge, ite_not, if_true, if_false, not_true_eq_false, not_false_eq_true, Nat.not_lt_zero, Nat.reduceEqDiff, Nat.reduceLT, Nat.reduceLeDiff, Nat.reduceAdd, Nat.zero_le, ite_self, reduceCtorEq, bI_t, bI_f, bI_z, bI_1, if_pos, if_neg]
    exact k
  · rw [if_neg hz] at k
    simp (disch := first | omega | assumption) only [n_lit, n_m1, t_S, t_s, ↓t_if, t_pure, t_rI, t_riI, t_rt, t_go, nt_l, nt_r, t_nn, t_nul0, t_nul1, rp_g0, rp_s0, rp_g1, rp_s1, rp_s1n, rp_g2, rp_s2, rp_g3, rp_s3, rp_g4, rp_s4, rp_g5, rp_s5, rp_g6, rp_s6z, rp_s6u, rp_g7, rp_s7z, rp_s7u, rp_g8, rp_s8z, rp_s8u, rp_g9, rp_s9, rp_s9n, rw_g0, rw_s0, rw_s0n, rw_g1, rw_s1, rw_s1n, rw_g2, rw_s2, rw_s2n, rw_g3, rw_s3, sS_s, sS_n, sS_a, sS_l, sS_k, lS_l, lS_1, lS_a, lS_k, nI_eq, nI_leI, nI_ltI, nI_add, pk_mul, nN_e, nN_e', nN_l, nN_g, nN_le, nN_ge, ite_not, if_true, if_false, not_true_eq_false, not_false_eq_true, Nat.not_lt_zero, Nat.reduceEqDiff, Nat.reduceLT, Nat.reduceLeDiff, Nat.reduceAdd, Nat.zero_le, ite_self, reduceCtorEq, bI_t, bI_f, bI_z, bI_1, if_pos, if_neg]
    exact k
theorem tOp_v (hw : w < N) : tOp t N w num N = (2, [N + 1], 0, 0, 0, 0, w) ∧ tOp t N w num (N + 1) = (4, [N + 1 + 1], num, 0, 0, 0, N) ∧ tOp t N w num (N + 1 + 1) = (0, [N + 1 + 1 + 1], 0, 0, 0, 0, N + 1) ∧ tOp t N w num (N + 1 + 1 + 1) = (1, [], 0, 0, 0, 0, N + 1 + 1) ∧ ∀ n, n < N → tOp t N w num n = if n = w then kid (t w) N else t n := by
  have e1 : tN t N w 2 N = (2, [], 0, 0, 0, 0, w) := tN_new hw
  have e2 : tN (tN t N w 2) (N + 1) N 4 N = (2, [N + 1], 0, 0, 0, 0, w) := by
    unfold tN
    rw [tU_s]
    have : tU (tU t N (2, [], 0, 0, 0, 0, w)) w (kid (t w) N) N = (2, [], 0, 0, 0, 0, w) := e1
    rw [this]
    rfl
  refine ⟨?_, ?_, ?_, ?_, fun n hn => ?_⟩
  · show tN (tN (tU (tN (tN t N w 2) (N + 1) N 4) (N + 1) (4, [], num, 0, 0, 0, N)) (N + 1 + 1) (N + 1) 0) (N + 1 + 1 + 1) (N + 1 + 1) 1 N = _
    generalize tN (tN t N w 2) (N + 1) N 4 = t2 at e2 ⊢
    unfold tN
    rw [tU_n (by omega), tU_n (by omega), tU_n (by omega), tU_n (by omega), tU_n (by omega)]
    exact e2
  · unfold tOp
    generalize tN (tN t N w 2) (N + 1) N 4 = t2
    unfold tN
    rw [tU_n (by omega), tU_n (by omega), tU_s, tU_s]
    rfl
  · unfold tOp
    generalize tU (tN (tN t N w 2) (N + 1) N 4) (N + 1) (4, [], num, 0, 0, 0, N) = t2
    unfold tN
    rw [tU_s, tU_n (by omega), tU_s]
    rfl
  · exact tN_new (by omega)
  · unfold tOp
    unfold tN
    rw [tU_n (by omega), tU_n (by omega), tU_n (by omega), tU_n (by omega), tU_n (by omega), tU_n (by omega), tU_n (by omega)]
    by_cases e : n = w
    · subst e
      rw [tU_s, if_pos rfl]
    · rw [tU_n e, tU_n (by omega), if_neg e]
end GR
