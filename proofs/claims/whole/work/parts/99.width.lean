/-! WIDTHS, by the reference -/
theorem wRep_min2 {h l m w : Nat} : min 10000 (wRep h l m (min 10000 w)) = min 10000 (wRep h l m w) := by
  rcases Nat.lt_or_ge w 10000 with hw | hw
  · rw [Nat.min_eq_right (show w ≤ 10000 by omega)]
  · rw [Nat.min_eq_left (show 10000 ≤ w by omega)]
    unfold wRep
    split
    · omega
    split
    · omega
    split
    · rcases Nat.eq_zero_or_pos l with q | q
      · subst q
        simp only [Nat.zero_mul]
      · have a1 := mul_le1 (x := 10000) q
        have a2 := mul_le1 (x := w) q
        omega
    split
    · have a1 := mul_le1 (a := l + 1) (x := 10000) (by omega)
      have a2 := mul_le1 (a := l + 1) (x := w) (by omega)
      omega
    split
    · rcases Nat.eq_zero_or_pos l with q | q
      · subst q
        rcases Nat.eq_zero_or_pos m with q | q
        · subst q
          simp only [Nat.zero_mul, Nat.sub_zero]
        · have a1 := mul_le1 (a := m) (x := 10000 + 1) q
          have a2 := mul_le1 (a := m) (x := w + 1) q
          simp only [Nat.zero_mul, Nat.sub_zero]
          omega
      · have a1 := mul_le1 (x := 10000) q
        have a2 := mul_le1 (x := w) q
        omega
    · omega
def wd (W : Nat → Nat) (k : Nat) : Nat := min 10000 (W k)
theorem sumW_min (W : Nat → Nat) : ∀ ks : List Nat, min 10000 (sumW (wd W) ks) = min 10000 (sumW W ks) ∧ sumW (wd W) ks ≤ 10000 * ks.length := by
  intro ks
  induction ks with
  | nil => exact ⟨rfl, Nat.le_refl _⟩
  | cons x r ih =>
    have e1 : sumW (wd W) (x :: r) = wd W x + sumW (wd W) r := by
      unfold sumW
      simp
    have e2 : sumW W (x :: r) = W x + sumW W r := by
      unfold sumW
      simp
    rw [e1, e2]
    unfold wd at *
    simp only [List.length_cons]
    omega
theorem cmp10 {a : Nat} (h : a < 2 ^ 63) : (lg_cmp (lN a) (10000 : Int64) ≤ nI 0) = (a ≤ 10000) := by
  have e : (10000 : Int64) = lN 10000 := rfl
  rw [e]
  unfold lg_cmp
  apply propext
  by_cases h1 : 10000 < a
  · rw [if_pos (show lN a > lN 10000 from (pk_lLT (by omega) h).mpr h1)]
    constructor
    · intro q
      exact absurd q (by decide)
    · intro q
      omega
  · rw [if_neg (show ¬ lN a > lN 10000 from fun q => h1 ((pk_lLT (by omega) h).mp q))]
    constructor
    · intro _
      omega
    · intro _
      split <;> decide
theorem e_w242 {S : qSt} {a : Nat} {Q : qJ ⊕ Int32 → qSt → Prop} (h : a < 2 ^ 63) (k : Q (.inr (nI (min 10000 a))) S) : okS (k_Md_widthOf_242 (lN a)) S Q := by
  unfold k_Md_widthOf_242
  simp only [n_lit, ↓ok_if, cmp10 h]
  by_cases h1 : a ≤ 10000
  · rw [if_pos h1, lN_i, ok_riI]
    rw [Nat.min_eq_right h1] at k
    exact k
  · rw [if_neg h1, ok_riI]
    rw [Nat.min_eq_left (by omega)] at k
    exact k
section WD
variable {S : qSt} {t : Nat → ND} {W : Nat → Nat} {N n u g : Nat}
theorem e_w107 {v s : Nat} {Q : qJ ⊕ Int32 → qSt → Prop} (hR : RN S (t n) n) (hn : n < 220) (hs : s < 100000000) (hv : v < 2000000) (hd : (t n).1 ≤ 4) (hK : (t n).1 = 2 → okN (t n)) (k : Q (.inr (nI (min 10000 (if (t n).1 = 2 then wRep (t n).2.2.1 (t n).2.2.2.1 (t n).2.2.2.2.1 v else s)))) S) : okS (k_Md_widthOf_107 (nI n) (lN v) (lN s)) S Q := by
  obtain ⟨r1, r2, r3, r4, r5, r6, r7, r8⟩ := hR
  unfold k_Md_widthOf_107
  by_cases h2 : (t n).1 = 2
  · obtain ⟨o1, o2, o3, o4, o5⟩ := hK h2
    rw [if_pos h2] at k
    generalize (t n).2.2.1 = how at *
    generalize (t n).2.2.2.1 = le at *
    generalize (t n).2.2.2.2.1 = mo at *
    rw [h2] at r1
    have l1 : le * v ≤ 9 * 2000000 := Nat.mul_le_mul o2 (by omega)
    have l2 : (le + 1) * v ≤ 10 * 2000000 := Nat.mul_le_mul (by omega) (by omega)
    have l3 : (mo - le) * (v + 1) ≤ 9 * 2000001 := Nat.mul_le_mul (by omega) (by omega)
    have hh : how = 0 ∨ how = 1 ∨ how = 2 ∨ how = 3 ∨ how = 4 ∨ how = 5 ∨ how = 6 := by omega
    have j1 : (1 : Int64) = lN 1 := rfl
    have j2 : (2 : Int64) = lN 2 := rfl
    unfold k_Md_widthOf_153 k_Md_widthOf_240
    rcases hh with h | h | h | h | h | h | h
    · subst h
      simp (disch := omega) only [n_lit, n_m1, ok_S, ok_s, ok_N, ok_n, ↓ok_if, ok_A, ok_a, ok_L, ok_l, ok_zn0, ok_zn1, ok_f2, ok_pure, ok_rI, ok_bn0, ok_bn1, ok_rt, ok_riI, ok_rn0, ok_rn1, ok_go, nx_l, nx_r, sS_s, sS_n, sS_a, sS_l, sS_k, aS_s, aS_n, aS_1, aS_l, aS_k, lS_l, lS_1, lS_a, lS_k, nS_s, nS_n, nS_1, nS_a, nS_l, updS, updN, nI_eq, nI_leI, nI_ltI, nI_add, pk_mul, nN_e, nN_e', nN_l, nN_g, nN_le, nN_ge, ite_not, if_true, if_false, not_true_eq_false, not_false_eq_true, Nat.not_lt_zero, Nat.reduceEqDiff, Nat.reduceLT, Nat.reduceLeDiff, Nat.reduceAdd, Nat.zero_le, ite_self, reduceCtorEq, bI_t, bI_f, bI_z, bI_1, ok_bb, if_pos, if_neg, r1, r5]
      exact e_w242 (by omega) k
    · subst h
      simp (disch := omega) only [n_lit, n_m1, ok_S, ok_s, ok_N, ok_n, ↓ok_if, ok_A, ok_a, ok_L, ok_l, ok_zn0, ok_zn1, ok_f2, ok_pure, ok_rI, ok_bn0, ok_bn1, ok_rt, ok_riI, ok_rn0, ok_rn1, ok_go, nx_l, nx_r, sS_s, sS_n, sS_a, sS_l, sS_k, aS_s, aS_n, aS_1, aS_l, aS_k, lS_l, lS_1, lS_a, lS_k, nS_s, nS_n, nS_1, nS_a, nS_l, updS, updN, nI_eq, nI_leI, nI_ltI, nI_add, pk_mul, nN_e, nN_e', nN_l, nN_g, nN_le, nN_ge, ite_not, if_true, if_false, not_true_eq_false, not_false_eq_true, Nat.not_lt_zero, Nat.reduceEqDiff, Nat.reduceLT, Nat.reduceLeDiff, Nat.reduceAdd, Nat.zero_le, ite_self, reduceCtorEq, bI_t, bI_f, bI_z, bI_1, ok_bb, if_pos, if_neg, r1, r5]
      rw [j2, lN_add]
      exact e_w242 (by omega) k
    · subst h
      simp (disch := omega) only [n_lit, n_m1, ok_S, ok_s, ok_N, ok_n, ↓ok_if, ok_A, ok_a, ok_L, ok_l, ok_zn0, ok_zn1, ok_f2, ok_pure, ok_rI, ok_bn0, ok_bn1, ok_rt, ok_riI, ok_rn0, ok_rn1, ok_go, nx_l, nx_r, sS_s, sS_n, sS_a, sS_l, sS_k, aS_s, aS_n, aS_1, aS_l, aS_k, lS_l, lS_1, lS_a, lS_k, nS_s, nS_n, nS_1, nS_a, nS_l, updS, updN, nI_eq, nI_leI, nI_ltI, nI_add, pk_mul, nN_e, nN_e', nN_l, nN_g, nN_le, nN_ge, ite_not, if_true, if_false, not_true_eq_false, not_false_eq_true, Nat.not_lt_zero, Nat.reduceEqDiff, Nat.reduceLT, Nat.reduceLeDiff, Nat.reduceAdd, Nat.zero_le, ite_self, reduceCtorEq, bI_t, bI_f, bI_z, bI_1, ok_bb, if_pos, if_neg, r1, r5]
      rw [j1, lN_add]
      exact e_w242 (by omega) k
    · subst h
      simp (disch := omega) only [n_lit, n_m1, ok_S, ok_s, ok_N, ok_n, ↓ok_if, ok_A, ok_a, ok_L, ok_l, ok_zn0, ok_zn1, ok_f2, ok_pure, ok_rI, ok_bn0, ok_bn1, ok_rt, ok_riI, ok_rn0, ok_rn1, ok_go, nx_l, nx_r, sS_s, sS_n, sS_a, sS_l, sS_k, aS_s, aS_n, aS_1, aS_l, aS_k, lS_l, lS_1, lS_a, lS_k, nS_s, nS_n, nS_1, nS_a, nS_l, updS, updN, nI_eq, nI_leI, nI_ltI, nI_add, pk_mul, nN_e, nN_e', nN_l, nN_g, nN_le, nN_ge, ite_not, if_true, if_false, not_true_eq_false, not_false_eq_true, Nat.not_lt_zero, Nat.reduceEqDiff, Nat.reduceLT, Nat.reduceLeDiff, Nat.reduceAdd, Nat.zero_le, ite_self, reduceCtorEq, bI_t, bI_f, bI_z, bI_1, ok_bb, if_pos, if_neg, r1, r5]
      rw [j1, lN_add]
      exact e_w242 (by omega) k
    · subst h
      simp (disch := omega) only [n_lit, n_m1, ok_S, ok_s, ok_N, ok_n, ↓ok_if, ok_A, ok_a, ok_L, ok_l, ok_zn0, ok_zn1, ok_f2, ok_pure, ok_rI, ok_bn0, ok_bn1, ok_rt, ok_riI, ok_rn0, ok_rn1, ok_go, nx_l, nx_r, sS_s, sS_n, sS_a, sS_l, sS_k, aS_s, aS_n, aS_1, aS_l, aS_k, lS_l, lS_1, lS_a, lS_k, nS_s, nS_n, nS_1, nS_a, nS_l, updS, updN, nI_eq, nI_leI, nI_ltI, nI_add, pk_mul, nN_e, nN_e', nN_l, nN_g, nN_le, nN_ge, ite_not, if_true, if_false, not_true_eq_false, not_false_eq_true, Nat.not_lt_zero, Nat.reduceEqDiff, Nat.reduceLT, Nat.reduceLeDiff, Nat.reduceAdd, Nat.zero_le, ite_self, reduceCtorEq, bI_t, bI_f, bI_z, bI_1, ok_bb, if_pos, if_neg, r1, r5, r6, nI_l]
      rw [lN_mul]
      exact e_w242 (by omega) k
    · subst h
      simp (disch := omega) only [n_lit, n_m1, ok_S, ok_s, ok_N, ok_n, ↓ok_if, ok_A, ok_a, ok_L, ok_l, ok_zn0, ok_zn1, ok_f2, ok_pure, ok_rI, ok_bn0, ok_bn1, ok_rt, ok_riI, ok_rn0, ok_rn1, ok_go, nx_l, nx_r, sS_s, sS_n, sS_a, sS_l, sS_k, aS_s, aS_n, aS_1, aS_l, aS_k, lS_l, lS_1, lS_a, lS_k, nS_s, nS_n, nS_1, nS_a, nS_l, updS, updN, nI_eq, nI_leI, nI_ltI, nI_add, pk_mul, nN_e, nN_e', nN_l, nN_g, nN_le, nN_ge, ite_not, if_true, if_false, not_true_eq_false, not_false_eq_true, Nat.not_lt_zero, Nat.reduceEqDiff, Nat.reduceLT, Nat.reduceLeDiff, Nat.reduceAdd, Nat.zero_le, ite_self, reduceCtorEq, bI_t, bI_f, bI_z, bI_1, ok_bb, if_pos, if_neg, r1, r5, r6, nI_l]
      rw [j2, lN_mul, lN_add]
      exact e_w242 (by omega) k
    · subst h
      have o6 := o5 rfl
      simp (disch := omega) only [n_lit, n_m1, ok_S, ok_s, ok_N, ok_n, ↓ok_if, ok_A, ok_a, ok_L, ok_l, ok_zn0, ok_zn1, ok_f2, ok_pure, ok_rI, ok_bn0, ok_bn1, ok_rt, ok_riI, ok_rn0, ok_rn1, ok_go, nx_l, nx_r, sS_s, sS_n, sS_a, sS_l, sS_k, aS_s, aS_n, aS_1, aS_l, aS_k, lS_l, lS_1, lS_a, lS_k, nS_s, nS_n, nS_1, nS_a, nS_l, updS, updN, nI_eq, nI_leI, nI_ltI, nI_add, pk_mul, nN_e, nN_e', nN_l, nN_g, nN_le, nN_ge, ite_not, if_true, if_false, not_true_eq_false, not_false_eq_true, Nat.not_lt_zero, Nat.reduceEqDiff, Nat.reduceLT, Nat.reduceLeDiff, Nat.reduceAdd, Nat.zero_le, ite_self, reduceCtorEq, bI_t, bI_f, bI_z, bI_1, ok_bb, if_pos, if_neg, r1, r5, r6, r7, nI_l, pk_sub]
      rw [j1, lN_add, lN_mul, lN_mul, lN_add]
      exact e_w242 (by omega) k
  · rw [if_neg h2] at k
    simp (disch := omega) only [n_lit, n_m1, ok_S, ok_s, ok_N, ok_n, ↓ok_if, ok_A, ok_a, ok_L, ok_l, ok_zn0, ok_zn1, ok_f2, ok_pure, ok_rI, ok_bn0, ok_bn1, ok_rt, ok_riI, ok_rn0, ok_rn1, ok_go, nx_l, nx_r, sS_s, sS_n, sS_a, sS_l, sS_k, aS_s, aS_n, aS_1, aS_l, aS_k, lS_l, lS_1, lS_a, lS_k, nS_s, nS_n, nS_1, nS_a, nS_l, updS, updN, nI_eq, nI_leI, nI_ltI, nI_add, pk_mul, nN_e, nN_e', nN_l, nN_g, nN_le, nN_ge, ite_not, if_true, if_false, not_true_eq_false, not_false_eq_true, Nat.not_lt_zero, Nat.reduceEqDiff, Nat.reduceLT, Nat.reduceLeDiff, Nat.reduceAdd, Nat.zero_le, ite_self, reduceCtorEq, bI_t, bI_f, bI_z, bI_1, ok_bb, if_pos, if_neg, r1, h2]
    exact e_w242 (by omega) k
theorem e_wloop {Q : Int32 → qSt → Prop} (hn : n < 220) : ∀ (r : List Nat) (v cnt : Nat), chn (S.2.1 5) r → (∀ k ∈ r, k < 220 ∧ S.2.1 10 k = nI (wd W k)) → (∀ A c, A = v + sumW (wd W) r → c = cnt + r.length → okS (k_Md_widthOf_13 (nI n) (lN A) (nI c) nN) S (nxS b_Md_widthOf Q)) → okS (w_fix b_Md_widthOf (13, [.int (nI n), .long (lN v), .int (nI cnt), .int (hdI r)], [])) S Q := by
  intro r
  induction r with
  | nil =>
    intro v cnt h1 h2 k
    refine ok_fix ?_
    show okS (k_Md_widthOf_13 (nI n) (lN v) (nI cnt) nN) S _
    exact k v cnt rfl rfl
  | cons x r ih =>
    intro v cnt h1 h2 k
    refine ok_fix ?_
    show okS (k_Md_widthOf_13 (nI n) (lN v) (nI cnt) (nI x)) S _
    unfold k_Md_widthOf_13
    obtain ⟨x1, x2⟩ := h2 x (by simp)
    have wb : wd W x ≤ 10000 := by unfold wd; omega
    simp (disch := omega) only [n_lit, n_m1, ok_S, ok_s, ok_N, ok_n, ↓ok_if, ok_A, ok_a, ok_L, ok_l, ok_zn0, ok_zn1, ok_f2, ok_pure, ok_rI, ok_bn0, ok_bn1, ok_rt, ok_riI, ok_rn0, ok_rn1, ok_go, nx_l, nx_r, sS_s, sS_n, sS_a, sS_l, sS_k, aS_s, aS_n, aS_1, aS_l, aS_k, lS_l, lS_1, lS_a, lS_k, nS_s, nS_n, nS_1, nS_a, nS_l, updS, updN, nI_eq, nI_leI, nI_ltI, nI_add, pk_mul, nN_e, nN_e', nN_l, nN_g, nN_le, nN_ge, ite_not, if_true, if_false, not_true_eq_false, not_false_eq_true, Nat.not_lt_zero, Nat.reduceEqDiff, Nat.reduceLT, Nat.reduceLeDiff, Nat.reduceAdd, Nat.zero_le, ite_self, reduceCtorEq, bI_t, bI_f, bI_z, bI_1, ok_bb, if_pos, if_neg, x2, h1.1, nI_l]
    rw [lN_add]
    refine ih (v + wd W x) (cnt + 1) h1.2 (fun y hy => h2 y (by simp [hy])) ?_
    intro A c e1 e2
    refine k A c ?_ ?_
    · have : sumW (wd W) (x :: r) = wd W x + sumW (wd W) r := by
        unfold sumW
        simp
      omega
    · simp only [List.length_cons]
      omega
theorem pw_len : ∀ {l : List Nat} {a b : Nat}, a ≤ b → l.Pairwise (· < ·) → (∀ k ∈ l, a < k ∧ k < b) → l.length + a ≤ b := by
  intro l
  induction l with
  | nil =>
    intro a b h0 h1 h2
    simp only [List.length_nil]
    omega
  | cons x r ih =>
    intro a b h0 h1 h2
    have h3 := List.pairwise_cons.mp h1
    have h4 := h2 x (by simp)
    have := ih (a := x) (b := b) (by omega) h3.2 (fun k hk => ⟨h3.1 k hk, (h2 k (by simp [hk])).2⟩)
    simp only [List.length_cons]
    omega
theorem e_width (hg6 : g ≤ 6) (hT : RT S t N) (hn : n < N) (hN : N ≤ 110) (hS : SN t W u g n) (hw : ∀ k, n < k → k < N → S.2.1 10 k = nI (wd W k)) : okS (f_Md_widthOf (nI n)) S (fun v S' => v = nI (wd W n) ∧ S' = S) := by
  obtain ⟨rn, kn⟩ := hT n hn
  obtain ⟨s0, s1, s2, s3, s4, s5⟩ := hS
  have hlen : (t n).2.1.length + n ≤ N := pw_len (by omega) kn.2 (fun k hk => ⟨(kn.1 k hk).1, (kn.1 k hk).2.1⟩)
  have hmin := sumW_min W (t n).2.1
  have hr := rn
  obtain ⟨r1, r2, r3, r4, r5, r6, r7, r8⟩ := hr
  unfold f_Md_widthOf
  refine ok_fix ?_
  show okS (k_Md_widthOf_0 (nI n)) S _
  unfold k_Md_widthOf_0
  simp (disch := omega) only [n_lit, n_m1, ok_S, ok_s, ok_N, ok_n, ↓ok_if, ok_A, ok_a, ok_L, ok_l, ok_zn0, ok_zn1, ok_f2, ok_pure, ok_rI, ok_bn0, ok_bn1, ok_rt, ok_riI, ok_rn0, ok_rn1, ok_go, nx_l, nx_r, sS_s, sS_n, sS_a, sS_l, sS_k, aS_s, aS_n, aS_1, aS_l, aS_k, lS_l, lS_1, lS_a, lS_k, nS_s, nS_n, nS_1, nS_a, nS_l, updS, updN, nI_eq, nI_leI, nI_ltI, nI_add, pk_mul, nN_e, nN_e', nN_l, nN_g, nN_le, nN_ge, ite_not, if_true, if_false, not_true_eq_false, not_false_eq_true, Nat.not_lt_zero, Nat.reduceEqDiff, Nat.reduceLT, Nat.reduceLeDiff, Nat.reduceAdd, Nat.zero_le, ite_self, reduceCtorEq, bI_t, bI_f, bI_z, bI_1, ok_bb, if_pos, if_neg, r2]
  refine e_wloop (W := W) (n := n) (by omega) (t n).2.1 0 0 r4 (fun k hk => ⟨by have := kn.1 k hk; omega, hw k (kn.1 k hk).1 (kn.1 k hk).2.1⟩) ?_
  intro A c hA hc
  have hA2 : A ≤ 10000 * 110 := by
    have : 10000 * (t n).2.1.length ≤ 10000 * 110 := Nat.mul_le_mul (Nat.le_refl _) (by omega)
    omega
  have hKo : (t n).1 = 2 → okN (t n) := by
    intro h
    obtain ⟨m, _, _, _, z⟩ := s3 h
    exact z
  have j1 : (1 : Int64) = lN 1 := rfl
  have j2 : (2 : Int64) = lN 2 := rfl
  unfold k_Md_widthOf_13
  have hh : (t n).1 = 0 ∨ (t n).1 = 1 ∨ (t n).1 = 2 ∨ (t n).1 = 3 ∨ (t n).1 = 4 := by omega
  rcases hh with h | h | h | h | h
  · obtain ⟨z1, z2, z3⟩ := s1 h
    have hc0 : 0 < (t n).2.1.length := List.length_pos_iff.mpr z1
    rw [h] at r1
    simp (disch := omega) only [n_lit, n_m1, ok_S, ok_s, ok_N, ok_n, ↓ok_if, ok_A, ok_a, ok_L, ok_l, ok_zn0, ok_zn1, ok_f2, ok_pure, ok_rI, ok_bn0, ok_bn1, ok_rt, ok_riI, ok_rn0, ok_rn1, ok_go, nx_l, nx_r, sS_s, sS_n, sS_a, sS_l, sS_k, aS_s, aS_n, aS_1, aS_l, aS_k, lS_l, lS_1, lS_a, lS_k, nS_s, nS_n, nS_1, nS_a, nS_l, updS, updN, nI_eq, nI_leI, nI_ltI, nI_add, pk_mul, nN_e, nN_e', nN_l, nN_g, nN_le, nN_ge, ite_not, if_true, if_false, not_true_eq_false, not_false_eq_true, Nat.not_lt_zero, Nat.reduceEqDiff, Nat.reduceLT, Nat.reduceLeDiff, Nat.reduceAdd, Nat.zero_le, ite_self, reduceCtorEq, bI_t, bI_f, bI_z, bI_1, ok_bb, if_pos, if_neg, r1, pk_sub, nI_l]
    rw [lN_add]
    refine e_w107 (t := t) rn (by omega) (by omega) (by omega) s0 hKo ?_
    rw [if_neg (by omega), nx_r]
    refine ⟨?_, rfl⟩
    congr 1
    unfold wd
    omega
  · obtain ⟨z2, z3⟩ := s2 h
    rw [h] at r1
    unfold k_Md_widthOf_106
    simp (disch := omega) only [n_lit, n_m1, ok_S, ok_s, ok_N, ok_n, ↓ok_if, ok_A, ok_a, ok_L, ok_l, ok_zn0, ok_zn1, ok_f2, ok_pure, ok_rI, ok_bn0, ok_bn1, ok_rt, ok_riI, ok_rn0, ok_rn1, ok_go, nx_l, nx_r, sS_s, sS_n, sS_a, sS_l, sS_k, aS_s, aS_n, aS_1, aS_l, aS_k, lS_l, lS_1, lS_a, lS_k, nS_s, nS_n, nS_1, nS_a, nS_l, updS, updN, nI_eq, nI_leI, nI_ltI, nI_add, pk_mul, nN_e, nN_e', nN_l, nN_g, nN_le, nN_ge, ite_not, if_true, if_false, not_true_eq_false, not_false_eq_true, Nat.not_lt_zero, Nat.reduceEqDiff, Nat.reduceLT, Nat.reduceLeDiff, Nat.reduceAdd, Nat.zero_le, ite_self, reduceCtorEq, bI_t, bI_f, bI_z, bI_1, ok_bb, if_pos, if_neg, r1]
    refine e_w107 (t := t) rn (by omega) (by omega) (by omega) s0 hKo ?_
    rw [if_neg (by omega), nx_r]
    refine ⟨?_, rfl⟩
    congr 1
    unfold wd
    omega
  · obtain ⟨m, z1, z2, z3, z4⟩ := s3 h
    rw [h] at r1
    unfold k_Md_widthOf_106
    simp (disch := omega) only [n_lit, n_m1, ok_S, ok_s, ok_N, ok_n, ↓ok_if, ok_A, ok_a, ok_L, ok_l, ok_zn0, ok_zn1, ok_f2, ok_pure, ok_rI, ok_bn0, ok_bn1, ok_rt, ok_riI, ok_rn0, ok_rn1, ok_go, nx_l, nx_r, sS_s, sS_n, sS_a, sS_l, sS_k, aS_s, aS_n, aS_1, aS_l, aS_k, lS_l, lS_1, lS_a, lS_k, nS_s, nS_n, nS_1, nS_a, nS_l, updS, updN, nI_eq, nI_leI, nI_ltI, nI_add, pk_mul, nN_e, nN_e', nN_l, nN_g, nN_le, nN_ge, ite_not, if_true, if_false, not_true_eq_false, not_false_eq_true, Nat.not_lt_zero, Nat.reduceEqDiff, Nat.reduceLT, Nat.reduceLeDiff, Nat.reduceAdd, Nat.zero_le, ite_self, reduceCtorEq, bI_t, bI_f, bI_z, bI_1, ok_bb, if_pos, if_neg, r1]
    refine e_w107 (t := t) rn (by omega) (by omega) (by omega) s0 hKo ?_
    rw [if_pos h, nx_r]
    refine ⟨?_, rfl⟩
    rw [z1] at hA
    have e1 : sumW (wd W) [m] = wd W m := by
      unfold sumW
      simp
    rw [e1] at hA
    have e2 : A = min 10000 (W m) := by
      unfold wd at hA
      omega
    rw [e2, wRep_min2, ← z3]
    rfl
  · obtain ⟨z0, z1, z2⟩ := s4 h
    rw [h] at r1
    simp (disch := omega) only [n_lit, n_m1, ok_S, ok_s, ok_N, ok_n, ↓ok_if, ok_A, ok_a, ok_L, ok_l, ok_zn0, ok_zn1, ok_f2, ok_pure, ok_rI, ok_bn0, ok_bn1, ok_rt, ok_riI, ok_rn0, ok_rn1, ok_go, nx_l, nx_r, sS_s, sS_n, sS_a, sS_l, sS_k, aS_s, aS_n, aS_1, aS_l, aS_k, lS_l, lS_1, lS_a, lS_k, nS_s, nS_n, nS_1, nS_a, nS_l, updS, updN, nI_eq, nI_leI, nI_ltI, nI_add, pk_mul, nN_e, nN_e', nN_l, nN_g, nN_le, nN_ge, ite_not, if_true, if_false, not_true_eq_false, not_false_eq_true, Nat.not_lt_zero, Nat.reduceEqDiff, Nat.reduceLT, Nat.reduceLeDiff, Nat.reduceAdd, Nat.zero_le, ite_self, reduceCtorEq, bI_t, bI_f, bI_z, bI_1, ok_bb, if_pos, if_neg, r1]
    rw [j1]
    refine e_w107 (t := t) rn (by omega) (by omega) (by omega) s0 hKo ?_
    rw [if_neg (by omega), nx_r]
    refine ⟨?_, rfl⟩
    congr 1
    unfold wd
    omega
  · obtain ⟨m, z1, z2, z3, z4⟩ := s5 h
    rw [z1] at hA
    have e1 : sumW (wd W) [m] = wd W m := by
      unfold sumW
      simp
    rw [e1] at hA
    unfold wd at hA
    rw [h] at r1
    unfold k_Md_widthOf_106
    by_cases ha : (t n).2.2.1 = 0
    · rw [ha] at r5
      rw [ha] at z4
      simp (disch := omega) only [n_lit, n_m1, ok_S, ok_s, ok_N, ok_n, ↓ok_if, ok_A, ok_a, ok_L, ok_l, ok_zn0, ok_zn1, ok_f2, ok_pure, ok_rI, ok_bn0, ok_bn1, ok_rt, ok_riI, ok_rn0, ok_rn1, ok_go, nx_l, nx_r, sS_s, sS_n, sS_a, sS_l, sS_k, aS_s, aS_n, aS_1, aS_l, aS_k, lS_l, lS_1, lS_a, lS_k, nS_s, nS_n, nS_1, nS_a, nS_l, updS, updN, nI_eq, nI_leI, nI_ltI, nI_add, pk_mul, nN_e, nN_e', nN_l, nN_g, nN_le, nN_ge, ite_not, if_true, if_false, not_true_eq_false, not_false_eq_true, Nat.not_lt_zero, Nat.reduceEqDiff, Nat.reduceLT, Nat.reduceLeDiff, Nat.reduceAdd, Nat.zero_le, ite_self, reduceCtorEq, bI_t, bI_f, bI_z, bI_1, ok_bb, if_pos, if_neg, r1, r5]
      refine e_w107 (t := t) rn (by omega) (by omega) (by omega) s0 hKo ?_
      rw [if_neg (by omega), nx_r]
      refine ⟨?_, rfl⟩
      congr 1
      unfold wd
      rw [if_neg (by omega)] at z4
      omega
    · rw [if_pos (by omega)] at z4
      have ha' : (t n).2.2.1 ≤ 6 := Nat.le_trans z3 hg6
      simp (disch := omega) only [n_lit, n_m1, ok_S, ok_s, ok_N, ok_n, ↓ok_if, ok_A, ok_a, ok_L, ok_l, ok_zn0, ok_zn1, ok_f2, ok_pure, ok_rI, ok_bn0, ok_bn1, ok_rt, ok_riI, ok_rn0, ok_rn1, ok_go, nx_l, nx_r, sS_s, sS_n, sS_a, sS_l, sS_k, aS_s, aS_n, aS_1, aS_l, aS_k, lS_l, lS_1, lS_a, lS_k, nS_s, nS_n, nS_1, nS_a, nS_l, updS, updN, nI_eq, nI_leI, nI_ltI, nI_add, pk_mul, nN_e, nN_e', nN_l, nN_g, nN_le, nN_ge, ite_not, if_true, if_false, not_true_eq_false, not_false_eq_true, Nat.not_lt_zero, Nat.reduceEqDiff, Nat.reduceLT, Nat.reduceLeDiff, Nat.reduceAdd, Nat.zero_le, ite_self, reduceCtorEq, bI_t, bI_f, bI_z, bI_1, ok_bb, if_pos, if_neg, r1, r5]
      rw [j2, lN_add]
      refine e_w107 (t := t) rn (by omega) (by omega) (by omega) s0 hKo ?_
      rw [if_neg (by omega), nx_r]
      refine ⟨?_, rfl⟩
      congr 1
      unfold wd
      omega
end WD
