/-! THE REFERENCE: what can come to a match (fill) -/
theorem bI_t : bI true = nI 1 := nr rfl
theorem bI_f : bI false = nI 0 := nr rfl
theorem bI_z {b : Bool} : bI b = nI 0 ↔ b = false := by
  cases b
  · exact ⟨fun _ => rfl, fun _ => rfl⟩
  · exact ⟨fun h => absurd h (by decide), fun h => (by cases h)⟩
theorem bI_1 {b : Bool} : bI b = nI 1 ↔ b = true := by
  cases b
  · exact ⟨fun h => absurd h (by decide), fun h => (by cases h)⟩
  · exact ⟨fun _ => rfl, fun _ => rfl⟩
theorem ok_bb {b : Bool} {S : qSt} {Q : Int32 → qSt → Prop} : okS (w_ret .boolean (bI b)) S Q = Q (bI b) S := by
  cases b
  · exact ok_b0
  · exact ok_b1
def MdC (S : qSt) (P : Pg) (L n : Nat) (se : Bool) (w : Nat → Nat) (B : Nat → Int32) : Prop := S.1 22 = nI L ∧ (∀ k, k < L → S.2.1 15 k = nI (P.1 k) ∧ S.2.1 16 k = nI (P.2.1 k) ∧ S.2.1 17 k = nI (P.2.2 k)) ∧ S.1 31 = nI n ∧ S.1 30 = bI se ∧ (∀ i, i < n → S.2.1 20 i = nI (w i)) ∧ S.2.1 14 = B
def MdW (P : Pg) (L n : Nat) (w : Nat → Nat) : Prop := WF P L ∧ n ≤ 200 ∧ (∀ i, i < n → w i < 256) ∧ (∀ k, k < L → P.1 k = 0 → P.2.1 k < 48)
def tkM (P : Pg) (n : Nat) (w : Nat → Nat) (B : Nat → Int32) (i k : Nat) : Bool := decide (i < n) && mB B (P.2.1 k) (w i)
def FrM (S S' : qSt) : Prop := (∀ f, f ≠ 33 → f ≠ 34 → f ≠ 40 → S'.1 f = S.1 f) ∧ (∀ f, f < 21 → S'.2.1 f = S.2.1 f) ∧ S'.2.2 = S.2.2
theorem FrM_rfl (S : qSt) : FrM S S := ⟨fun _ _ _ _ => rfl, fun _ _ => rfl, rfl⟩
theorem FrM_trans {S S1 S2 : qSt} (h : FrM S S1) (h' : FrM S1 S2) : FrM S S2 := ⟨fun f a b c => (h'.1 f a b c).trans (h.1 f a b c), fun f a => (h'.2.1 f a).trans (h.2.1 f a), h'.2.2.trans h.2.2⟩
theorem FrM_a {S : qSt} {f : Nat} {g : Nat → Int32} (h : 21 ≤ f) : FrM S (aS S f g) := ⟨fun _ _ _ _ => rfl, fun f' h' => by rw [aS_n (by omega)], rfl⟩
theorem MdC_fr {S S' : qSt} {P : Pg} {L n : Nat} {se : Bool} {w : Nat → Nat} {B : Nat → Int32} (h : MdC S P L n se w B) (hf : FrM S S') : MdC S' P L n se w B := by
  obtain ⟨a1, a2, a3, a4, a5, a6⟩ := h
  obtain ⟨f1, f2, -⟩ := hf
  refine ⟨(f1 22 (by omega) (by omega) (by omega)).trans a1, fun k hk => ?_, (f1 31 (by omega) (by omega) (by omega)).trans a3, (f1 30 (by omega) (by omega) (by omega)).trans a4, fun i hi => ?_, (f2 14 (by omega)).trans a6⟩
  · rw [f2 15 (by omega), f2 16 (by omega), f2 17 (by omega)]; exact a2 k hk
  · rw [f2 20 (by omega)]; exact a5 i hi
def rb (g : Nat → Int32) (k i : Nat) : Bool := ib (g (7 * k + i / 32)) (i % 32)
def mayB (P : Pg) (n : Nat) (se : Bool) (tk : Nat → Nat → Bool) (g : Nat → Int32) (k i : Nat) : Bool := if P.1 k = 0 then tk i k && rb g (k + 1) (i + 1) else if P.1 k = 1 then rb g (P.2.1 k) i || rb g (P.2.2 k) i else if P.1 k = 4 then (se || i == n) else if P.1 k = 2 then rb g (P.2.1 k) i else rb g (k + 1) i
section MF
variable {S : qSt} {P : Pg} {L n i k : Nat} {se : Bool} {w : Nat → Nat} {B : Nat → Int32} {Q : Int32 → qSt → Prop}
theorem e_reaches (hk : k < 160) (hi : i < 224) (q : Q (bI (rb (S.2.1 21) k i)) S) : okS (f_Md_reaches (nI k) (nI i)) S Q := by
  unfold f_Md_reaches
  simp (disch := omega) only [n_lit, n_m1, ok_S, ok_s, ok_N, ok_n, ↓ok_if, ok_A, ok_a, ok_L, ok_l, ok_zn0, ok_zn1, ok_f2, ok_pure, ok_rI, ok_bn0, ok_bn1, ok_rt, ok_riI, ok_rn0, ok_rn1, ok_go, nx_l, nx_r, sS_s, sS_n, sS_a, sS_l, sS_k, aS_s, aS_n, aS_1, aS_l, aS_k, lS_l, lS_1, lS_a, lS_k, nS_s, nS_n, nS_1, nS_a, nS_l, updS, updN, nI_eq, nI_leI, nI_ltI, nI_add, pk_mul, nN_e, nN_e', nN_l, nN_g, nN_le, nN_ge, ite_not, if_true, if_false, not_true_eq_false, not_false_eq_true, Nat.not_lt_zero, Nat.reduceEqDiff, Nat.reduceLT, Nat.reduceLeDiff, Nat.reduceAdd, Nat.zero_le, ite_self, reduceCtorEq, bI_t, bI_f, bI_z, bI_1, ok_bb, if_pos, if_neg, n_rem32, pk_div]
  by_cases hb : ib (S.2.1 21 (7 * k + i / 32)) (i % 32) = true
  · rw [if_pos ((ib_get (by omega)).mpr hb)]
    have : rb (S.2.1 21) k i = true := hb
    rw [this] at q
    exact q
  · rw [if_neg (fun k => hb ((ib_get (by omega)).mp k))]
    have : rb (S.2.1 21) k i = false := Bool.eq_false_iff.mpr hb
    rw [this] at q
    exact q
theorem e_isMatch (hM : MdC S P L n se w B) (hn : n ≤ 200) (hi : i ≤ 200) (q : Q (bI (se || i == n)) S) : okS (f_Md_isMatch (nI i)) S Q := by
  unfold f_Md_isMatch
  obtain ⟨a1, a2, a3, a4, a5, a6⟩ := hM
  simp (disch := omega) only [n_lit, n_m1, ok_S, ok_s, ok_N, ok_n, ↓ok_if, ok_A, ok_a, ok_L, ok_l, ok_zn0, ok_zn1, ok_f2, ok_pure, ok_rI, ok_bn0, ok_bn1, ok_rt, ok_riI, ok_rn0, ok_rn1, ok_go, nx_l, nx_r, sS_s, sS_n, sS_a, sS_l, sS_k, aS_s, aS_n, aS_1, aS_l, aS_k, lS_l, lS_1, lS_a, lS_k, nS_s, nS_n, nS_1, nS_a, nS_l, updS, updN, nI_eq, nI_leI, nI_ltI, nI_add, pk_mul, nN_e, nN_e', nN_l, nN_g, nN_le, nN_ge, ite_not, if_true, if_false, not_true_eq_false, not_false_eq_true, Nat.not_lt_zero, Nat.reduceEqDiff, Nat.reduceLT, Nat.reduceLeDiff, Nat.reduceAdd, Nat.zero_le, ite_self, reduceCtorEq, bI_t, bI_f, bI_z, bI_1, ok_bb, a3, a4]
  cases se with
  | true => exact q
  | false =>
    rw [if_pos rfl]
    by_cases h : i = n
    · rw [if_pos h]
      have : (false || i == n) = true := by simp [h]
      rw [this] at q
      exact q
    · rw [if_neg h]
      have : (false || i == n) = false := by simp [h]
      rw [this] at q
      exact q
theorem e_takes (hM : MdC S P L n se w B) (hW : MdW P L n w) (hk : k < L) (h0 : P.1 k = 0) (hi : i ≤ 200) (q : Q (bI (tkM P n w B i k)) S) : okS (f_Md_takes (nI k) (nI i)) S Q := by
  unfold f_Md_takes
  obtain ⟨a1, a2, a3, a4, a5, a6⟩ := hM
  obtain ⟨w1, w2, w3, w4⟩ := hW
  have hL := w1.1
  obtain ⟨k0, k1, k2⟩ := a2 k hk
  simp (disch := omega) only [n_lit, n_m1, ok_S, ok_s, ok_N, ok_n, ↓ok_if, ok_A, ok_a, ok_L, ok_l, ok_zn0, ok_zn1, ok_f2, ok_pure, ok_rI, ok_bn0, ok_bn1, ok_rt, ok_riI, ok_rn0, ok_rn1, ok_go, nx_l, nx_r, sS_s, sS_n, sS_a, sS_l, sS_k, aS_s, aS_n, aS_1, aS_l, aS_k, lS_l, lS_1, lS_a, lS_k, nS_s, nS_n, nS_1, nS_a, nS_l, updS, updN, nI_eq, nI_leI, nI_ltI, nI_add, pk_mul, nN_e, nN_e', nN_l, nN_g, nN_le, nN_ge, ite_not, if_true, if_false, not_true_eq_false, not_false_eq_true, Nat.not_lt_zero, Nat.reduceEqDiff, Nat.reduceLT, Nat.reduceLeDiff, Nat.reduceAdd, Nat.zero_le, ite_self, reduceCtorEq, bI_t, bI_f, bI_z, bI_1, ok_bb, a3]
  by_cases hin : i < n
  · have e1 := a5 i hin
    rw [if_neg (by omega)]
    have h48 := w4 k hk h0
    have h256 := w3 i hin
    simp (disch := omega) only [n_lit, n_m1, ok_S, ok_s, ok_N, ok_n, ↓ok_if, ok_A, ok_a, ok_L, ok_l, ok_zn0, ok_zn1, ok_f2, ok_pure, ok_rI, ok_bn0, ok_bn1, ok_rt, ok_riI, ok_rn0, ok_rn1, ok_go, nx_l, nx_r, sS_s, sS_n, sS_a, sS_l, sS_k, aS_s, aS_n, aS_1, aS_l, aS_k, lS_l, lS_1, lS_a, lS_k, nS_s, nS_n, nS_1, nS_a, nS_l, updS, updN, nI_eq, nI_leI, nI_ltI, nI_add, pk_mul, nN_e, nN_e', nN_l, nN_g, nN_le, nN_ge, ite_not, if_true, if_false, not_true_eq_false, not_false_eq_true, Nat.not_lt_zero, Nat.reduceEqDiff, Nat.reduceLT, Nat.reduceLeDiff, Nat.reduceAdd, Nat.zero_le, ite_self, reduceCtorEq, bI_t, bI_f, bI_z, bI_1, ok_bb, k1, e1]
    refine ok_C (e_mHas (by omega) h256 ?_)
    rw [a6]
    have : tkM P n w B i k = mB B (P.2.1 k) (w i) := by unfold tkM; simp [hin]
    rw [this] at q
    cases hb : mB B (P.2.1 k) (w i) with
    | true =>
      rw [hb] at q
      simp (disch := omega) only [n_lit, n_m1, ok_S, ok_s, ok_N, ok_n, ↓ok_if, ok_A, ok_a, ok_L, ok_l, ok_zn0, ok_zn1, ok_f2, ok_pure, ok_rI, ok_bn0, ok_bn1, ok_rt, ok_riI, ok_rn0, ok_rn1, ok_go, nx_l, nx_r, sS_s, sS_n, sS_a, sS_l, sS_k, aS_s, aS_n, aS_1, aS_l, aS_k, lS_l, lS_1, lS_a, lS_k, nS_s, nS_n, nS_1, nS_a, nS_l, updS, updN, nI_eq, nI_leI, nI_ltI, nI_add, pk_mul, nN_e, nN_e', nN_l, nN_g, nN_le, nN_ge, ite_not, if_true, if_false, not_true_eq_false, not_false_eq_true, Nat.not_lt_zero, Nat.reduceEqDiff, Nat.reduceLT, Nat.reduceLeDiff, Nat.reduceAdd, Nat.zero_le, ite_self, reduceCtorEq, bI_t, bI_f, bI_z, bI_1, ok_bb]
      exact q
    | false =>
      rw [hb] at q
      simp (disch := omega) only [n_lit, n_m1, ok_S, ok_s, ok_N, ok_n, ↓ok_if, ok_A, ok_a, ok_L, ok_l, ok_zn0, ok_zn1, ok_f2, ok_pure, ok_rI, ok_bn0, ok_bn1, ok_rt, ok_riI, ok_rn0, ok_rn1, ok_go, nx_l, nx_r, sS_s, sS_n, sS_a, sS_l, sS_k, aS_s, aS_n, aS_1, aS_l, aS_k, lS_l, lS_1, lS_a, lS_k, nS_s, nS_n, nS_1, nS_a, nS_l, updS, updN, nI_eq, nI_leI, nI_ltI, nI_add, pk_mul, nN_e, nN_e', nN_l, nN_g, nN_le, nN_ge, ite_not, if_true, if_false, not_true_eq_false, not_false_eq_true, Nat.not_lt_zero, Nat.reduceEqDiff, Nat.reduceLT, Nat.reduceLeDiff, Nat.reduceAdd, Nat.zero_le, ite_self, reduceCtorEq, bI_t, bI_f, bI_z, bI_1, ok_bb]
      exact q
  · rw [if_pos (by omega)]
    have : tkM P n w B i k = false := by unfold tkM; simp [hin]
    rw [this] at q
    exact q
theorem e_may (hM : MdC S P L n se w B) (hW : MdW P L n w) (hk : k < L) (hi : i ≤ 200) (q : Q (bI (mayB P n se (tkM P n w B) (S.2.1 21) k i)) S) : okS (f_Md_may (nI k) (nI i)) S Q := by
  unfold f_Md_may
  obtain ⟨a1, a2, a3, a4, a5, a6⟩ := hM
  have hL := hW.1.1
  obtain ⟨k0, k1, k2⟩ := a2 k hk
  obtain ⟨⟨w1, w2, w3⟩, w4, w5, w6, w7, w8⟩ := hW.1.2.2 k hk
  unfold mayB at q
  rcases (by omega : P.1 k = 0 ∨ P.1 k = 1 ∨ P.1 k = 2 ∨ P.1 k = 3 ∨ P.1 k = 4) with hc | hc | hc | hc | hc
  · rw [if_pos hc] at q
    simp (disch := omega) only [n_lit, n_m1, ok_S, ok_s, ok_N, ok_n, ↓ok_if, ok_A, ok_a, ok_L, ok_l, ok_zn0, ok_zn1, ok_f2, ok_pure, ok_rI, ok_bn0, ok_bn1, ok_rt, ok_riI, ok_rn0, ok_rn1, ok_go, nx_l, nx_r, sS_s, sS_n, sS_a, sS_l, sS_k, aS_s, aS_n, aS_1, aS_l, aS_k, lS_l, lS_1, lS_a, lS_k, nS_s, nS_n, nS_1, nS_a, nS_l, updS, updN, nI_eq, nI_leI, nI_ltI, nI_add, pk_mul, nN_e, nN_e', nN_l, nN_g, nN_le, nN_ge, ite_not, if_true, if_false, not_true_eq_false, not_false_eq_true, Nat.not_lt_zero, Nat.reduceEqDiff, Nat.reduceLT, Nat.reduceLeDiff, Nat.reduceAdd, Nat.zero_le, ite_self, reduceCtorEq, bI_t, bI_f, bI_z, bI_1, ok_bb, k0, hc]
    refine ok_C (e_takes ⟨a1, a2, a3, a4, a5, a6⟩ hW hk hc hi ?_)
    have hk1 := w4 hc
    cases ht : tkM P n w B i k with
    | false =>
      rw [ht] at q
      simp (disch := omega) only [n_lit, n_m1, ok_S, ok_s, ok_N, ok_n, ↓ok_if, ok_A, ok_a, ok_L, ok_l, ok_zn0, ok_zn1, ok_f2, ok_pure, ok_rI, ok_bn0, ok_bn1, ok_rt, ok_riI, ok_rn0, ok_rn1, ok_go, nx_l, nx_r, sS_s, sS_n, sS_a, sS_l, sS_k, aS_s, aS_n, aS_1, aS_l, aS_k, lS_l, lS_1, lS_a, lS_k, nS_s, nS_n, nS_1, nS_a, nS_l, updS, updN, nI_eq, nI_leI, nI_ltI, nI_add, pk_mul, nN_e, nN_e', nN_l, nN_g, nN_le, nN_ge, ite_not, if_true, if_false, not_true_eq_false, not_false_eq_true, Nat.not_lt_zero, Nat.reduceEqDiff, Nat.reduceLT, Nat.reduceLeDiff, Nat.reduceAdd, Nat.zero_le, ite_self, reduceCtorEq, bI_t, bI_f, bI_z, bI_1, ok_bb]
      exact q
    | true =>
      rw [ht] at q
      simp (disch := omega) only [n_lit, n_m1, ok_S, ok_s, ok_N, ok_n, ↓ok_if, ok_A, ok_a, ok_L, ok_l, ok_zn0, ok_zn1, ok_f2, ok_pure, ok_rI, ok_bn0, ok_bn1, ok_rt, ok_riI, ok_rn0, ok_rn1, ok_go, nx_l, nx_r, sS_s, sS_n, sS_a, sS_l, sS_k, aS_s, aS_n, aS_1, aS_l, aS_k, lS_l, lS_1, lS_a, lS_k, nS_s, nS_n, nS_1, nS_a, nS_l, updS, updN, nI_eq, nI_leI, nI_ltI, nI_add, pk_mul, nN_e, nN_e', nN_l, nN_g, nN_le, nN_ge, ite_not, if_true, if_false, not_true_eq_false, not_false_eq_true, Nat.not_lt_zero, Nat.reduceEqDiff, Nat.reduceLT, Nat.reduceLeDiff, Nat.reduceAdd, Nat.zero_le, ite_self, reduceCtorEq, bI_t, bI_f, bI_z, bI_1, ok_bb]
      refine ok_C (e_reaches (by omega) (by omega) ?_)
      cases hb : rb (S.2.1 21) (k + 1) (i + 1) with
      | true => rw [hb] at q; simp (disch := omega) only [n_lit, n_m1, ok_S, ok_s, ok_N, ok_n, ↓ok_if, ok_A, ok_a, ok_L, ok_l, ok_zn0, ok_zn1, ok_f2, ok_pure, ok_rI, ok_bn0, ok_bn1, ok_rt, ok_riI, ok_rn0, ok_rn1, ok_go, nx_l, nx_r, sS_s, sS_n, sS_a, sS_l, sS_k, aS_s, aS_n, aS_1, aS_l, aS_k, lS_l, lS_1, lS_a, lS_k, nS_s, nS_n, nS_1, nS_a, nS_l, updS, updN, nI_eq, nI_leI, nI_ltI, nI_add, pk_mul, nN_e, nN_e', nN_l, nN_g, nN_le, nN_ge, ite_not, if_true, if_false, not_true_eq_false, not_false_eq_true, Nat.not_lt_zero, Nat.reduceEqDiff, Nat.reduceLT, Nat.reduceLeDiff, Nat.reduceAdd, Nat.zero_le, ite_self, reduceCtorEq, bI_t, bI_f, bI_z, bI_1, ok_bb]; exact q
      | false => rw [hb] at q; simp (disch := omega) only [n_lit, n_m1, ok_S, ok_s, ok_N, ok_n, ↓ok_if, ok_A, ok_a, ok_L, ok_l, ok_zn0, ok_zn1, ok_f2, ok_pure, ok_rI, ok_bn0, ok_bn1, ok_rt, ok_riI, ok_rn0, ok_rn1, ok_go, nx_l, nx_r, sS_s, sS_n, sS_a, sS_l, sS_k, aS_s, aS_n, aS_1, aS_l, aS_k, lS_l, lS_1, lS_a, lS_k, nS_s, nS_n, nS_1, nS_a, nS_l, updS, updN, nI_eq, nI_leI, nI_ltI, nI_add, pk_mul, nN_e, nN_e', nN_l, nN_g, nN_le, nN_ge, ite_not, if_true, if_false, not_true_eq_false, not_false_eq_true, Nat.not_lt_zero, Nat.reduceEqDiff, Nat.reduceLT, Nat.reduceLeDiff, Nat.reduceAdd, Nat.zero_le, ite_self, reduceCtorEq, bI_t, bI_f, bI_z, bI_1, ok_bb]; exact q
  · rw [if_neg (by omega), if_pos hc] at q
    have hx := (w5 hc).1
    have hy := (w5 hc).2
    simp (disch := omega) only [n_lit, n_m1, ok_S, ok_s, ok_N, ok_n, ↓ok_if, ok_A, ok_a, ok_L, ok_l, ok_zn0, ok_zn1, ok_f2, ok_pure, ok_rI, ok_bn0, ok_bn1, ok_rt, ok_riI, ok_rn0, ok_rn1, ok_go, nx_l, nx_r, sS_s, sS_n, sS_a, sS_l, sS_k, aS_s, aS_n, aS_1, aS_l, aS_k, lS_l, lS_1, lS_a, lS_k, nS_s, nS_n, nS_1, nS_a, nS_l, updS, updN, nI_eq, nI_leI, nI_ltI, nI_add, pk_mul, nN_e, nN_e', nN_l, nN_g, nN_le, nN_ge, ite_not, if_true, if_false, not_true_eq_false, not_false_eq_true, Nat.not_lt_zero, Nat.reduceEqDiff, Nat.reduceLT, Nat.reduceLeDiff, Nat.reduceAdd, Nat.zero_le, ite_self, reduceCtorEq, bI_t, bI_f, bI_z, bI_1, ok_bb, if_pos, if_neg, k0, hc, k1, k2]
    refine ok_C (e_reaches (by omega) (by omega) ?_)
    cases hb : rb (S.2.1 21) (P.2.1 k) i with
    | true => rw [hb] at q; simp (disch := omega) only [n_lit, n_m1, ok_S, ok_s, ok_N, ok_n, ↓ok_if, ok_A, ok_a, ok_L, ok_l, ok_zn0, ok_zn1, ok_f2, ok_pure, ok_rI, ok_bn0, ok_bn1, ok_rt, ok_riI, ok_rn0, ok_rn1, ok_go, nx_l, nx_r, sS_s, sS_n, sS_a, sS_l, sS_k, aS_s, aS_n, aS_1, aS_l, aS_k, lS_l, lS_1, lS_a, lS_k, nS_s, nS_n, nS_1, nS_a, nS_l, updS, updN, nI_eq, nI_leI, nI_ltI, nI_add, pk_mul, nN_e, nN_e', nN_l, nN_g, nN_le, nN_ge, ite_not, if_true, if_false, not_true_eq_false, not_false_eq_true, Nat.not_lt_zero, Nat.reduceEqDiff, Nat.reduceLT, Nat.reduceLeDiff, Nat.reduceAdd, Nat.zero_le, ite_self, reduceCtorEq, bI_t, bI_f, bI_z, bI_1, ok_bb]; exact q
    | false =>
      rw [hb] at q
      simp (disch := omega) only [n_lit, n_m1, ok_S, ok_s, ok_N, ok_n, ↓ok_if, ok_A, ok_a, ok_L, ok_l, ok_zn0, ok_zn1, ok_f2, ok_pure, ok_rI, ok_bn0, ok_bn1, ok_rt, ok_riI, ok_rn0, ok_rn1, ok_go, nx_l, nx_r, sS_s, sS_n, sS_a, sS_l, sS_k, aS_s, aS_n, aS_1, aS_l, aS_k, lS_l, lS_1, lS_a, lS_k, nS_s, nS_n, nS_1, nS_a, nS_l, updS, updN, nI_eq, nI_leI, nI_ltI, nI_add, pk_mul, nN_e, nN_e', nN_l, nN_g, nN_le, nN_ge, ite_not, if_true, if_false, not_true_eq_false, not_false_eq_true, Nat.not_lt_zero, Nat.reduceEqDiff, Nat.reduceLT, Nat.reduceLeDiff, Nat.reduceAdd, Nat.zero_le, ite_self, reduceCtorEq, bI_t, bI_f, bI_z, bI_1, ok_bb, if_pos, if_neg, k2]
      refine ok_C (e_reaches (by omega) (by omega) ?_)
      cases hb2 : rb (S.2.1 21) (P.2.2 k) i with
      | true => rw [hb2] at q; simp (disch := omega) only [n_lit, n_m1, ok_S, ok_s, ok_N, ok_n, ↓ok_if, ok_A, ok_a, ok_L, ok_l, ok_zn0, ok_zn1, ok_f2, ok_pure, ok_rI, ok_bn0, ok_bn1, ok_rt, ok_riI, ok_rn0, ok_rn1, ok_go, nx_l, nx_r, sS_s, sS_n, sS_a, sS_l, sS_k, aS_s, aS_n, aS_1, aS_l, aS_k, lS_l, lS_1, lS_a, lS_k, nS_s, nS_n, nS_1, nS_a, nS_l, updS, updN, nI_eq, nI_leI, nI_ltI, nI_add, pk_mul, nN_e, nN_e', nN_l, nN_g, nN_le, nN_ge, ite_not, if_true, if_false, not_true_eq_false, not_false_eq_true, Nat.not_lt_zero, Nat.reduceEqDiff, Nat.reduceLT, Nat.reduceLeDiff, Nat.reduceAdd, Nat.zero_le, ite_self, reduceCtorEq, bI_t, bI_f, bI_z, bI_1, ok_bb]; exact q
      | false => rw [hb2] at q; simp (disch := omega) only [n_lit, n_m1, ok_S, ok_s, ok_N, ok_n, ↓ok_if, ok_A, ok_a, ok_L, ok_l, ok_zn0, ok_zn1, ok_f2, ok_pure, ok_rI, ok_bn0, ok_bn1, ok_rt, ok_riI, ok_rn0, ok_rn1, ok_go, nx_l, nx_r, sS_s, sS_n, sS_a, sS_l, sS_k, aS_s, aS_n, aS_1, aS_l, aS_k, lS_l, lS_1, lS_a, lS_k, nS_s, nS_n, nS_1, nS_a, nS_l, updS, updN, nI_eq, nI_leI, nI_ltI, nI_add, pk_mul, nN_e, nN_e', nN_l, nN_g, nN_le, nN_ge, ite_not, if_true, if_false, not_true_eq_false, not_false_eq_true, Nat.not_lt_zero, Nat.reduceEqDiff, Nat.reduceLT, Nat.reduceLeDiff, Nat.reduceAdd, Nat.zero_le, ite_self, reduceCtorEq, bI_t, bI_f, bI_z, bI_1, ok_bb]; exact q
  · rw [if_neg (by omega), if_neg (by omega), if_neg (by omega), if_pos hc] at q
    have hx := w6 hc
    simp (disch := omega) only [n_lit, n_m1, ok_S, ok_s, ok_N, ok_n, ↓ok_if, ok_A, ok_a, ok_L, ok_l, ok_zn0, ok_zn1, ok_f2, ok_pure, ok_rI, ok_bn0, ok_bn1, ok_rt, ok_riI, ok_rn0, ok_rn1, ok_go, nx_l, nx_r, sS_s, sS_n, sS_a, sS_l, sS_k, aS_s, aS_n, aS_1, aS_l, aS_k, lS_l, lS_1, lS_a, lS_k, nS_s, nS_n, nS_1, nS_a, nS_l, updS, updN, nI_eq, nI_leI, nI_ltI, nI_add, pk_mul, nN_e, nN_e', nN_l, nN_g, nN_le, nN_ge, ite_not, if_true, if_false, not_true_eq_false, not_false_eq_true, Nat.not_lt_zero, Nat.reduceEqDiff, Nat.reduceLT, Nat.reduceLeDiff, Nat.reduceAdd, Nat.zero_le, ite_self, reduceCtorEq, bI_t, bI_f, bI_z, bI_1, ok_bb, if_pos, if_neg, k0, hc, k1, k2]
    refine ok_C (e_reaches (by omega) (by omega) ?_)
    simp (disch := omega) only [n_lit, n_m1, ok_S, ok_s, ok_N, ok_n, ↓ok_if, ok_A, ok_a, ok_L, ok_l, ok_zn0, ok_zn1, ok_f2, ok_pure, ok_rI, ok_bn0, ok_bn1, ok_rt, ok_riI, ok_rn0, ok_rn1, ok_go, nx_l, nx_r, sS_s, sS_n, sS_a, sS_l, sS_k, aS_s, aS_n, aS_1, aS_l, aS_k, lS_l, lS_1, lS_a, lS_k, nS_s, nS_n, nS_1, nS_a, nS_l, updS, updN, nI_eq, nI_leI, nI_ltI, nI_add, pk_mul, nN_e, nN_e', nN_l, nN_g, nN_le, nN_ge, ite_not, if_true, if_false, not_true_eq_false, not_false_eq_true, Nat.not_lt_zero, Nat.reduceEqDiff, Nat.reduceLT, Nat.reduceLeDiff, Nat.reduceAdd, Nat.zero_le, ite_self, reduceCtorEq, bI_t, bI_f, bI_z, bI_1, ok_bb]
    exact q
  · rw [if_neg (by omega), if_neg (by omega), if_neg (by omega), if_neg (by omega)] at q
    have hx := (w7 hc).2
    simp (disch := omega) only [n_lit, n_m1, ok_S, ok_s, ok_N, ok_n, ↓ok_if, ok_A, ok_a, ok_L, ok_l, ok_zn0, ok_zn1, ok_f2, ok_pure, ok_rI, ok_bn0, ok_bn1, ok_rt, ok_riI, ok_rn0, ok_rn1, ok_go, nx_l, nx_r, sS_s, sS_n, sS_a, sS_l, sS_k, aS_s, aS_n, aS_1, aS_l, aS_k, lS_l, lS_1, lS_a, lS_k, nS_s, nS_n, nS_1, nS_a, nS_l, updS, updN, nI_eq, nI_leI, nI_ltI, nI_add, pk_mul, nN_e, nN_e', nN_l, nN_g, nN_le, nN_ge, ite_not, if_true, if_false, not_true_eq_false, not_false_eq_true, Nat.not_lt_zero, Nat.reduceEqDiff, Nat.reduceLT, Nat.reduceLeDiff, Nat.reduceAdd, Nat.zero_le, ite_self, reduceCtorEq, bI_t, bI_f, bI_z, bI_1, ok_bb, if_pos, if_neg, k0, hc]
    refine ok_C (e_reaches (by omega) (by omega) ?_)
    simp (disch := omega) only [n_lit, n_m1, ok_S, ok_s, ok_N, ok_n, ↓ok_if, ok_A, ok_a, ok_L, ok_l, ok_zn0, ok_zn1, ok_f2, ok_pure, ok_rI, ok_bn0, ok_bn1, ok_rt, ok_riI, ok_rn0, ok_rn1, ok_go, nx_l, nx_r, sS_s, sS_n, sS_a, sS_l, sS_k, aS_s, aS_n, aS_1, aS_l, aS_k, lS_l, lS_1, lS_a, lS_k, nS_s, nS_n, nS_1, nS_a, nS_l, updS, updN, nI_eq, nI_leI, nI_ltI, nI_add, pk_mul, nN_e, nN_e', nN_l, nN_g, nN_le, nN_ge, ite_not, if_true, if_false, not_true_eq_false, not_false_eq_true, Nat.not_lt_zero, Nat.reduceEqDiff, Nat.reduceLT, Nat.reduceLeDiff, Nat.reduceAdd, Nat.zero_le, ite_self, reduceCtorEq, bI_t, bI_f, bI_z, bI_1, ok_bb]
    exact q
  · rw [if_neg (by omega), if_neg (by omega), if_pos hc] at q
    simp (disch := omega) only [n_lit, n_m1, ok_S, ok_s, ok_N, ok_n, ↓ok_if, ok_A, ok_a, ok_L, ok_l, ok_zn0, ok_zn1, ok_f2, ok_pure, ok_rI, ok_bn0, ok_bn1, ok_rt, ok_riI, ok_rn0, ok_rn1, ok_go, nx_l, nx_r, sS_s, sS_n, sS_a, sS_l, sS_k, aS_s, aS_n, aS_1, aS_l, aS_k, lS_l, lS_1, lS_a, lS_k, nS_s, nS_n, nS_1, nS_a, nS_l, updS, updN, nI_eq, nI_leI, nI_ltI, nI_add, pk_mul, nN_e, nN_e', nN_l, nN_g, nN_le, nN_ge, ite_not, if_true, if_false, not_true_eq_false, not_false_eq_true, Nat.not_lt_zero, Nat.reduceEqDiff, Nat.reduceLT, Nat.reduceLeDiff, Nat.reduceAdd, Nat.zero_le, ite_self, reduceCtorEq, bI_t, bI_f, bI_z, bI_1, ok_bb, if_pos, if_neg, k0, hc]
    refine ok_C (e_isMatch ⟨a1, a2, a3, a4, a5, a6⟩ hW.2.1 hi ?_)
    simp (disch := omega) only [n_lit, n_m1, ok_S, ok_s, ok_N, ok_n, ↓ok_if, ok_A, ok_a, ok_L, ok_l, ok_zn0, ok_zn1, ok_f2, ok_pure, ok_rI, ok_bn0, ok_bn1, ok_rt, ok_riI, ok_rn0, ok_rn1, ok_go, nx_l, nx_r, sS_s, sS_n, sS_a, sS_l, sS_k, aS_s, aS_n, aS_1, aS_l, aS_k, lS_l, lS_1, lS_a, lS_k, nS_s, nS_n, nS_1, nS_a, nS_l, updS, updN, nI_eq, nI_leI, nI_ltI, nI_add, pk_mul, nN_e, nN_e', nN_l, nN_g, nN_le, nN_ge, ite_not, if_true, if_false, not_true_eq_false, not_false_eq_true, Nat.not_lt_zero, Nat.reduceEqDiff, Nat.reduceLT, Nat.reduceLeDiff, Nat.reduceAdd, Nat.zero_le, ite_self, reduceCtorEq, bI_t, bI_f, bI_z, bI_1, ok_bb]
    exact q
end MF
theorem rb_set {g : Nat → Int32} {k p k' i' : Nat} (hp : p < 224) (hi : i' < 224) : rb (upd g (7 * k + p / 32) (g (7 * k + p / 32) ||| (nI 1 <<< (nI (p % 32) &&& nI 31)))) k' i' = (rb g k' i' || (k' == k && i' == p)) := by
  unfold rb
  by_cases h : 7 * k' + i' / 32 = 7 * k + p / 32
  · have hk : k' = k := by omega
    subst hk
    rw [h, updS, ib_or (by omega) (by omega)]
    congr 1
    by_cases hp2 : i' = p
    · subst hp2; simp
    · have : ¬ i' % 32 = p % 32 := by
        intro q
        have h3 : i' / 32 = p / 32 := by omega
        apply hp2
        rw [← Nat.div_add_mod i' 32, ← Nat.div_add_mod p 32, h3, q]
      rw [beq_self_eq_true, Bool.true_and, beq_eq_false_iff_ne.mpr this, beq_eq_false_iff_ne.mpr hp2]
  · rw [updN h]
    have : (k' == k && i' == p) = false := by
      by_cases hk : k' = k
      · subst hk
        have : i' ≠ p := by intro q; subst q; exact h rfl
        simp [this]
      · simp [hk]
    rw [this, Bool.or_false]
def cntR (g : Nat → Int32) (p : Nat) : Nat → Nat
  | 0 => 0
  | m + 1 => cntR g p m + if rb g m p = true then 1 else 0
theorem cntR_le (g : Nat → Int32) (p : Nat) : ∀ m, cntR g p m ≤ m := by
  intro m
  induction m with
  | zero => exact Nat.le_refl _
  | succ m ih => unfold cntR; split <;> omega
theorem cntR_set {g g' : Nat → Int32} {p k : Nat} (h : ∀ k', rb g' k' p = (rb g k' p || k' == k)) (hk : rb g k p = false) : ∀ m, cntR g' p m = cntR g p m + if k < m then 1 else 0 := by
  intro m
  induction m with
  | zero => rfl
  | succ m ih =>
    unfold cntR
    rw [ih, h m]
    by_cases hm : m = k
    · subst hm
      rw [hk]
      simp
    · have e1 : (rb g m p || m == k) = rb g m p := by
        have : (m == k) = false := by simp [hm]
        rw [this, Bool.or_false]
      rw [e1]
      by_cases hkm : k < m
      · rw [if_pos hkm, if_pos (show k < m + 1 by omega)]; omega
      · rw [if_neg hkm, if_neg (show ¬ k < m + 1 by omega)]; omega
section FL
variable {P : Pg} {L n : Nat} {se : Bool} {w : Nat → Nat} {B : Nat → Int32} {Q : Unit → qSt → Prop}
def colS (P : Pg) (L n : Nat) (se : Bool) (tk : Nat → Nat → Bool) (g : Nat → Int32) (p : Nat) : Prop := (∀ k, k < L → rb g k p = true → Rch P n se tk p k) ∧ (∀ k, k < L → ∀ i, p < i → i ≤ n → (rb g k i = true ↔ Rch P n se tk i k)) ∧ (∀ k, k < L → ∀ i, i < p → rb g k i = false)
theorem may_snd {tk : Nat → Nat → Bool} {g : Nat → Int32} {k p : Nat} (hw : WF P L) (hk : k < L) (htk : ∀ i k, tk i k = true → i < n) (hc : colS P L n se tk g p) (h : mayB P n se tk g k p = true) : Rch P n se tk p k := by
  obtain ⟨c1, c2, -⟩ := hc
  obtain ⟨⟨w1, w2, w3⟩, w4, w5, w6, w7, w8⟩ := hw.2.2 k hk
  unfold mayB at h
  rcases (by omega : P.1 k = 0 ∨ P.1 k = 1 ∨ P.1 k = 2 ∨ P.1 k = 3 ∨ P.1 k = 4) with h0 | h0 | h0 | h0 | h0
  · rw [if_pos h0, Bool.and_eq_true] at h
    have hp := htk p k h.1
    exact (Rch_take h0).mpr ⟨h.1, (c2 (k + 1) (w4 h0) (p + 1) (by omega) (by omega)).mp h.2⟩
  · rw [if_neg (by omega), if_pos h0, Bool.or_eq_true] at h
    rcases h with h | h
    · exact Rch_sc (by simp [sc, h0]) (c1 _ (w5 h0).1 h)
    · exact Rch_sc (by simp [sc, h0]) (c1 _ (w5 h0).2 h)
  · rw [if_neg (by omega), if_neg (by omega), if_neg (by omega), if_pos h0] at h
    exact Rch_sc (by simp [sc, h0]) (c1 _ (w6 h0) h)
  · rw [if_neg (by omega), if_neg (by omega), if_neg (by omega), if_neg (by omega)] at h
    exact Rch_sc (by simp [sc, h0]) (c1 _ (w7 h0).2 h)
  · rw [if_neg (by omega), if_neg (by omega), if_pos h0] at h
    refine (Rch_match h0).mpr ?_
    simpa using h
theorem may_cmp {tk : Nat → Nat → Bool} {g : Nat → Int32} {p : Nat} (hw : WF P L) (htk : ∀ i k, tk i k = true → i < n) (hc : colS P L n se tk g p) (hcl : ∀ k, k < L → mayB P n se tk g k p = true → rb g k p = true) : ∀ f k, k < L → Rn P n se tk f p k → rb g k p = true := by
  intro f
  induction f with
  | zero => intro k _ h; exact h.elim
  | succ f ih =>
    intro k hk h
    obtain ⟨⟨w1, w2, w3⟩, w4, w5, w6, w7, w8⟩ := hw.2.2 k hk
    apply hcl k hk
    unfold mayB
    rcases h with ⟨h0, h1, h2⟩ | ⟨h0, h1⟩ | ⟨s, h1, h2⟩
    · have hp := htk p k h1
      rw [if_pos h0, h1, Bool.true_and]
      exact (hc.2.1 (k + 1) (w4 h0) (p + 1) (by omega) (by omega)).mpr ⟨f, h2⟩
    · rw [if_neg (by omega), if_neg (by omega), if_pos h0]
      simpa using h1
    · have hb := ih s (sc_lt hw hk h1) h2
      rcases (by omega : P.1 k = 0 ∨ P.1 k = 1 ∨ P.1 k = 2 ∨ P.1 k = 3 ∨ P.1 k = 4) with h0 | h0 | h0 | h0 | h0
      · rw [sc_t (Or.inl h0)] at h1; cases h1
      · simp only [sc, h0, if_true, List.mem_cons, List.not_mem_nil, or_false] at h1
        rw [if_neg (by omega), if_pos h0]
        rcases h1 with h1 | h1
        · rw [← h1, hb, Bool.true_or]
        · rw [← h1, hb, Bool.or_true]
      · have : s = P.2.1 k := by simpa [sc, h0] using h1
        rw [if_neg (by omega), if_neg (by omega), if_neg (by omega), if_pos h0, ← this]
        exact hb
      · have : s = k + 1 := by simpa [sc, h0] using h1
        rw [if_neg (by omega), if_neg (by omega), if_neg (by omega), if_neg (by omega), ← this]
        exact hb
      · rw [sc_t (Or.inr h0)] at h1; cases h1
theorem nI_0N : nI 0 + nN = nN := by decide
theorem nI_dN (d : Nat) : nI (d + 1) + nN = nI d := pk_m1 d
theorem nI_sN (d : Nat) : nI d - nI 1 = nI d + nN := by
  rw [Int32.sub_eq_add_neg]
  rfl
theorem nN_lt0 : (nN < nI 0) = True := nN_l (by decide)
theorem fill57 (hW : MdW P L n w) {p r c0 : Nat} (hp : p ≤ n) : ∀ d, d ≤ L → ∀ (S : qSt) (b : Bool), MdC S P L n se w B → colS P L n se (tkM P n w B) (S.2.1 21) p → (b = true → c0 < cntR (S.2.1 21) p L) → (b = false → c0 ≤ cntR (S.2.1 21) p L ∧ ∀ k, d ≤ k → k < L → mayB P n se (tkM P n w B) (S.2.1 21) k p = true → rb (S.2.1 21) k p = true) →
    (∀ (g : Nat → Int32) (b' : Bool), colS P L n se (tkM P n w B) g p → (b' = true → c0 < cntR g p L) → (b' = false → ∀ k, k < L → mayB P n se (tkM P n w B) g k p = true → rb g k p = true) → okS (w_fix b_Md_fill (35, [.int (nI p), .int (bI b'), .int (nI (r + 1))], [])) (aS S 21 g) Q) → okS (w_fix b_Md_fill (57, [.int (nI p), .int (bI b), .int (nI r), .int (nI d + nN)], [])) S Q := by
  have hL := hW.1.1
  have hn := hW.2.1
  intro d
  induction d with
  | zero =>
    intro _ S b hM hc h1 h2 kk
    refine ok_fix ?_
    show okS (k_Md_fill_57 (nI p) (bI b) (nI r) (nI 0 + nN)) S _
    unfold k_Md_fill_57
    simp (disch := omega) only [n_lit, n_m1, ok_S, ok_s, ok_N, ok_n, ↓ok_if, ok_A, ok_a, ok_L, ok_l, ok_zn0, ok_zn1, ok_f2, ok_pure, ok_rI, ok_bn0, ok_bn1, ok_rt, ok_riI, ok_rn0, ok_rn1, ok_go, nx_l, nx_r, sS_s, sS_n, sS_a, sS_l, sS_k, aS_s, aS_n, aS_1, aS_l, aS_k, lS_l, lS_1, lS_a, lS_k, nS_s, nS_n, nS_1, nS_a, nS_l, updS, updN, nI_eq, nI_leI, nI_ltI, nI_add, pk_mul, nN_e, nN_e', nN_l, nN_g, nN_le, nN_ge, ite_not, if_true, if_false, not_true_eq_false, not_false_eq_true, Nat.not_lt_zero, Nat.reduceEqDiff, Nat.reduceLT, Nat.reduceLeDiff, Nat.reduceAdd, Nat.zero_le, ite_self, reduceCtorEq, bI_t, bI_f, bI_z, bI_1, ok_bb, nI_0N]
    have := kk (S.2.1 21) b hc h1 (fun hb k hk => (h2 hb).2 k (Nat.zero_le _) hk)
    rwa [aS_id] at this
  | succ d ih =>
    intro hd S b hM hc h1 h2 kk
    refine ok_fix ?_
    show okS (k_Md_fill_57 (nI p) (bI b) (nI r) (nI (d + 1) + nN)) S _
    unfold k_Md_fill_57
    simp (disch := omega) only [n_lit, n_m1, ok_S, ok_s, ok_N, ok_n, ↓ok_if, ok_A, ok_a, ok_L, ok_l, ok_zn0, ok_zn1, ok_f2, ok_pure, ok_rI, ok_bn0, ok_bn1, ok_rt, ok_riI, ok_rn0, ok_rn1, ok_go, nx_l, nx_r, sS_s, sS_n, sS_a, sS_l, sS_k, aS_s, aS_n, aS_1, aS_l, aS_k, lS_l, lS_1, lS_a, lS_k, nS_s, nS_n, nS_1, nS_a, nS_l, updS, updN, nI_eq, nI_leI, nI_ltI, nI_add, pk_mul, nN_e, nN_e', nN_l, nN_g, nN_le, nN_ge, ite_not, if_true, if_false, not_true_eq_false, not_false_eq_true, Nat.not_lt_zero, Nat.reduceEqDiff, Nat.reduceLT, Nat.reduceLeDiff, Nat.reduceAdd, Nat.zero_le, ite_self, reduceCtorEq, bI_t, bI_f, bI_z, bI_1, ok_bb, if_pos, if_neg, nI_dN]
    refine ok_C (e_reaches (by omega) (by omega) ?_)
    cases hb : rb (S.2.1 21) d p with
    | true =>
      simp (disch := omega) only [n_lit, n_m1, ok_S, ok_s, ok_N, ok_n, ↓ok_if, ok_A, ok_a, ok_L, ok_l, ok_zn0, ok_zn1, ok_f2, ok_pure, ok_rI, ok_bn0, ok_bn1, ok_rt, ok_riI, ok_rn0, ok_rn1, ok_go, nx_l, nx_r, sS_s, sS_n, sS_a, sS_l, sS_k, aS_s, aS_n, aS_1, aS_l, aS_k, lS_l, lS_1, lS_a, lS_k, nS_s, nS_n, nS_1, nS_a, nS_l, updS, updN, nI_eq, nI_leI, nI_ltI, nI_add, pk_mul, nN_e, nN_e', nN_l, nN_g, nN_le, nN_ge, ite_not, if_true, if_false, not_true_eq_false, not_false_eq_true, Nat.not_lt_zero, Nat.reduceEqDiff, Nat.reduceLT, Nat.reduceLeDiff, Nat.reduceAdd, Nat.zero_le, ite_self, reduceCtorEq, bI_t, bI_f, bI_z, bI_1, ok_bb]
      refine ih (by omega) S b hM hc h1 (fun hbf => ⟨(h2 hbf).1, fun k hk1 hk2 => ?_⟩) kk
      by_cases hkd : k = d
      · subst hkd; exact fun _ => hb
      · exact (h2 hbf).2 k (by omega) hk2
    | false =>
      simp (disch := omega) only [n_lit, n_m1, ok_S, ok_s, ok_N, ok_n, ↓ok_if, ok_A, ok_a, ok_L, ok_l, ok_zn0, ok_zn1, ok_f2, ok_pure, ok_rI, ok_bn0, ok_bn1, ok_rt, ok_riI, ok_rn0, ok_rn1, ok_go, nx_l, nx_r, sS_s, sS_n, sS_a, sS_l, sS_k, aS_s, aS_n, aS_1, aS_l, aS_k, lS_l, lS_1, lS_a, lS_k, nS_s, nS_n, nS_1, nS_a, nS_l, updS, updN, nI_eq, nI_leI, nI_ltI, nI_add, pk_mul, nN_e, nN_e', nN_l, nN_g, nN_le, nN_ge, ite_not, if_true, if_false, not_true_eq_false, not_false_eq_true, Nat.not_lt_zero, Nat.reduceEqDiff, Nat.reduceLT, Nat.reduceLeDiff, Nat.reduceAdd, Nat.zero_le, ite_self, reduceCtorEq, bI_t, bI_f, bI_z, bI_1, ok_bb]
      refine ok_C (e_may hM hW (by omega) (by omega) ?_)
      cases hm : mayB P n se (tkM P n w B) (S.2.1 21) d p with
      | false =>
        simp (disch := omega) only [n_lit, n_m1, ok_S, ok_s, ok_N, ok_n, ↓ok_if, ok_A, ok_a, ok_L, ok_l, ok_zn0, ok_zn1, ok_f2, ok_pure, ok_rI, ok_bn0, ok_bn1, ok_rt, ok_riI, ok_rn0, ok_rn1, ok_go, nx_l, nx_r, sS_s, sS_n, sS_a, sS_l, sS_k, aS_s, aS_n, aS_1, aS_l, aS_k, lS_l, lS_1, lS_a, lS_k, nS_s, nS_n, nS_1, nS_a, nS_l, updS, updN, nI_eq, nI_leI, nI_ltI, nI_add, pk_mul, nN_e, nN_e', nN_l, nN_g, nN_le, nN_ge, ite_not, if_true, if_false, not_true_eq_false, not_false_eq_true, Nat.not_lt_zero, Nat.reduceEqDiff, Nat.reduceLT, Nat.reduceLeDiff, Nat.reduceAdd, Nat.zero_le, ite_self, reduceCtorEq, bI_t, bI_f, bI_z, bI_1, ok_bb]
        refine ih (by omega) S b hM hc h1 (fun hbf => ⟨(h2 hbf).1, fun k hk1 hk2 => ?_⟩) kk
        by_cases hkd : k = d
        · subst hkd; rw [hm]; exact fun q => by cases q
        · exact (h2 hbf).2 k (by omega) hk2
      | true =>
        simp (disch := omega) only [n_lit, n_m1, ok_S, ok_s, ok_N, ok_n, ↓ok_if, ok_A, ok_a, ok_L, ok_l, ok_zn0, ok_zn1, ok_f2, ok_pure, ok_rI, ok_bn0, ok_bn1, ok_rt, ok_riI, ok_rn0, ok_rn1, ok_go, nx_l, nx_r, sS_s, sS_n, sS_a, sS_l, sS_k, aS_s, aS_n, aS_1, aS_l, aS_k, lS_l, lS_1, lS_a, lS_k, nS_s, nS_n, nS_1, nS_a, nS_l, updS, updN, nI_eq, nI_leI, nI_ltI, nI_add, pk_mul, nN_e, nN_e', nN_l, nN_g, nN_le, nN_ge, ite_not, if_true, if_false, not_true_eq_false, not_false_eq_true, Nat.not_lt_zero, Nat.reduceEqDiff, Nat.reduceLT, Nat.reduceLeDiff, Nat.reduceAdd, Nat.zero_le, ite_self, reduceCtorEq, bI_t, bI_f, bI_z, bI_1, ok_bb, if_pos, if_neg, n_rem32, pk_div]
        have hset := fun k' i' (hi : i' < 224) => rb_set (g := S.2.1 21) (k := d) (p := p) (k' := k') (i' := i') (by omega) hi
        have hcnt := cntR_set (g := S.2.1 21) (p := p) (k := d) (g' := upd (S.2.1 21) (7 * d + p / 32) (S.2.1 21 (7 * d + p / 32) ||| (nI 1 <<< (nI (p % 32) &&& nI 31)))) (fun k' => by rw [hset k' p (by omega)]; simp) hb L
        rw [if_pos (by omega)] at hcnt
        have hsd := may_snd hW.1 (show d < L by omega) (fun i k h => by unfold tkM at h; simp at h; exact h.1) hc hm
        show okS (w_fix b_Md_fill (57, [.int (nI p), .int (bI true), .int (nI r), .int (nI d + nN)], [])) _ _
        refine ih (by omega) _ true (MdC_fr hM (FrM_a (by omega))) ?_ ?_ (fun q => by cases q) ?_
        · rw [aS_s]
          refine ⟨fun k hk h => ?_, fun k hk i hi1 hi2 => ?_, fun k hk i hi => ?_⟩
          · rw [hset k p (by omega)] at h
            by_cases hkd : k = d
            · subst hkd; exact hsd
            · have : (k == d) = false := by simp [hkd]
              rw [this, Bool.false_and, Bool.or_false] at h
              exact hc.1 k hk h
          · rw [hset k i (by omega)]
            have : (i == p) = false := by simp; omega
            rw [this, Bool.and_false, Bool.or_false]
            exact hc.2.1 k hk i hi1 hi2
          · rw [hset k i (by omega)]
            have : (i == p) = false := by simp; omega
            rw [this, Bool.and_false, Bool.or_false]
            exact hc.2.2 k hk i hi
        · intro _
          rw [aS_s, hcnt]
          cases b with
          | true => have := h1 rfl; omega
          | false => have := (h2 rfl).1; omega
        · intro g b' x1 x2 x3
          rw [aS_aS]
          exact kk g b' x1 x2 x3
theorem fill35 (hW : MdW P L n w) {p : Nat} (hp : p ≤ n) : ∀ x r, r + x = L + 1 → ∀ (S : qSt) (b : Bool), MdC S P L n se w B → colS P L n se (tkM P n w B) (S.2.1 21) p → (b = true → r ≤ cntR (S.2.1 21) p L) → (b = false → ∀ k, k < L → mayB P n se (tkM P n w B) (S.2.1 21) k p = true → rb (S.2.1 21) k p = true) →
    (∀ g : Nat → Int32, (∀ k, k < L → ∀ i, p ≤ i → i ≤ n → (rb g k i = true ↔ Rch P n se (tkM P n w B) i k)) → (∀ k, k < L → ∀ i, i < p → rb g k i = false) → okS (w_fix b_Md_fill (27, [.int (nI p + nN)], [])) (aS S 21 g) Q) → okS (w_fix b_Md_fill (35, [.int (nI p), .int (bI b), .int (nI r)], [])) S Q := by
  have hL := hW.1.1
  have hn := hW.2.1
  have htk : ∀ i k, tkM P n w B i k = true → i < n := fun i k h => by unfold tkM at h; simp at h; exact h.1
  have exit : ∀ (S : qSt), colS P L n se (tkM P n w B) (S.2.1 21) p → (∀ k, k < L → mayB P n se (tkM P n w B) (S.2.1 21) k p = true → rb (S.2.1 21) k p = true) → (∀ g : Nat → Int32, (∀ k, k < L → ∀ i, p ≤ i → i ≤ n → (rb g k i = true ↔ Rch P n se (tkM P n w B) i k)) → (∀ k, k < L → ∀ i, i < p → rb g k i = false) → okS (w_fix b_Md_fill (27, [.int (nI p + nN)], [])) (aS S 21 g) Q) → okS (w_fix b_Md_fill (27, [.int (nI p + nN)], [])) S Q := by
    intro S hc hcl kk
    have := kk (S.2.1 21) (fun k hk i hi1 hi2 => ?_) hc.2.2
    · rwa [aS_id] at this
    · by_cases hip : i = p
      · subst hip
        exact ⟨hc.1 k hk, fun ⟨f, hf⟩ => may_cmp hW.1 htk hc hcl f k hk hf⟩
      · exact hc.2.1 k hk i (by omega) hi2
  intro x
  induction x with
  | zero =>
    intro r hr S b hM hc h1 h2 kk
    refine ok_fix ?_
    show okS (k_Md_fill_35 (nI p) (bI b) (nI r)) S _
    unfold k_Md_fill_35
    have a1 := hM.1
    simp (disch := omega) only [n_lit, n_m1, ok_S, ok_s, ok_N, ok_n, ↓ok_if, ok_A, ok_a, ok_L, ok_l, ok_zn0, ok_zn1, ok_f2, ok_pure, ok_rI, ok_bn0, ok_bn1, ok_rt, ok_riI, ok_rn0, ok_rn1, ok_go, nx_l, nx_r, sS_s, sS_n, sS_a, sS_l, sS_k, aS_s, aS_n, aS_1, aS_l, aS_k, lS_l, lS_1, lS_a, lS_k, nS_s, nS_n, nS_1, nS_a, nS_l, updS, updN, nI_eq, nI_leI, nI_ltI, nI_add, pk_mul, nN_e, nN_e', nN_l, nN_g, nN_le, nN_ge, ite_not, if_true, if_false, not_true_eq_false, not_false_eq_true, Nat.not_lt_zero, Nat.reduceEqDiff, Nat.reduceLT, Nat.reduceLeDiff, Nat.reduceAdd, Nat.zero_le, ite_self, reduceCtorEq, bI_t, bI_f, bI_z, bI_1, ok_bb, if_pos, if_neg, a1]
    cases b with
    | true =>
      have := h1 rfl
      have := cntR_le (S.2.1 21) p L
      omega
    | false => exact exit S hc (h2 rfl) kk
  | succ x ih =>
    intro r hr S b hM hc h1 h2 kk
    refine ok_fix ?_
    show okS (k_Md_fill_35 (nI p) (bI b) (nI r)) S _
    unfold k_Md_fill_35
    have a1 := hM.1
    cases b with
    | false =>
      simp (disch := omega) only [n_lit, n_m1, ok_S, ok_s, ok_N, ok_n, ↓ok_if, ok_A, ok_a, ok_L, ok_l, ok_zn0, ok_zn1, ok_f2, ok_pure, ok_rI, ok_bn0, ok_bn1, ok_rt, ok_riI, ok_rn0, ok_rn1, ok_go, nx_l, nx_r, sS_s, sS_n, sS_a, sS_l, sS_k, aS_s, aS_n, aS_1, aS_l, aS_k, lS_l, lS_1, lS_a, lS_k, nS_s, nS_n, nS_1, nS_a, nS_l, updS, updN, nI_eq, nI_leI, nI_ltI, nI_add, pk_mul, nN_e, nN_e', nN_l, nN_g, nN_le, nN_ge, ite_not, if_true, if_false, not_true_eq_false, not_false_eq_true, Nat.not_lt_zero, Nat.reduceEqDiff, Nat.reduceLT, Nat.reduceLeDiff, Nat.reduceAdd, Nat.zero_le, ite_self, reduceCtorEq, bI_t, bI_f, bI_z, bI_1, ok_bb, a1, ite_self]
      exact exit S hc (h2 rfl) kk
    | true =>
      simp (disch := omega) only [n_lit, n_m1, ok_S, ok_s, ok_N, ok_n, ↓ok_if, ok_A, ok_a, ok_L, ok_l, ok_zn0, ok_zn1, ok_f2, ok_pure, ok_rI, ok_bn0, ok_bn1, ok_rt, ok_riI, ok_rn0, ok_rn1, ok_go, nx_l, nx_r, sS_s, sS_n, sS_a, sS_l, sS_k, aS_s, aS_n, aS_1, aS_l, aS_k, lS_l, lS_1, lS_a, lS_k, nS_s, nS_n, nS_1, nS_a, nS_l, updS, updN, nI_eq, nI_leI, nI_ltI, nI_add, pk_mul, nN_e, nN_e', nN_l, nN_g, nN_le, nN_ge, ite_not, if_true, if_false, not_true_eq_false, not_false_eq_true, Nat.not_lt_zero, Nat.reduceEqDiff, Nat.reduceLT, Nat.reduceLeDiff, Nat.reduceAdd, Nat.zero_le, ite_self, reduceCtorEq, bI_t, bI_f, bI_z, bI_1, ok_bb, if_pos, if_neg, a1, nI_sN]
      rw [← bI_f]
      refine fill57 hW hp (c0 := r) L (Nat.le_refl _) S false hM hc (fun q => by cases q) (fun _ => ⟨h1 rfl, fun k q1 q2 => by omega⟩) ?_
      intro g b' x1 x2 x3
      refine ih (r + 1) (by omega) _ b' (MdC_fr hM (FrM_a (by omega))) (by rw [aS_s]; exact x1) (by rw [aS_s]; exact x2) (by rw [aS_s]; exact x3) ?_
      intro g' y1 y2
      rw [aS_aS]
      exact kk g' y1 y2
theorem fill27 (hW : MdW P L n w) : ∀ d, d ≤ n + 1 → ∀ (S : qSt), MdC S P L n se w B → (∀ k, k < L → ∀ i, d ≤ i → i ≤ n → (rb (S.2.1 21) k i = true ↔ Rch P n se (tkM P n w B) i k)) → (∀ k, k < L → ∀ i, i < d → rb (S.2.1 21) k i = false) → (∀ g : Nat → Int32, (∀ k, k < L → ∀ i, i ≤ n → (rb g k i = true ↔ Rch P n se (tkM P n w B) i k)) → Q () (aS S 21 g)) → okS (w_fix b_Md_fill (27, [.int (nI d + nN)], [])) S Q := by
  have hn := hW.2.1
  intro d
  induction d with
  | zero =>
    intro _ S hM h1 h2 kk
    refine ok_fix ?_
    show okS (k_Md_fill_27 (nI 0 + nN)) S _
    unfold k_Md_fill_27
    simp (disch := omega) only [n_lit, n_m1, ok_S, ok_s, ok_N, ok_n, ↓ok_if, ok_A, ok_a, ok_L, ok_l, ok_zn0, ok_zn1, ok_f2, ok_pure, ok_rI, ok_bn0, ok_bn1, ok_rt, ok_riI, ok_rn0, ok_rn1, ok_go, nx_l, nx_r, sS_s, sS_n, sS_a, sS_l, sS_k, aS_s, aS_n, aS_1, aS_l, aS_k, lS_l, lS_1, lS_a, lS_k, nS_s, nS_n, nS_1, nS_a, nS_l, updS, updN, nI_eq, nI_leI, nI_ltI, nI_add, pk_mul, nN_e, nN_e', nN_l, nN_g, nN_le, nN_ge, ite_not, if_true, if_false, not_true_eq_false, not_false_eq_true, Nat.not_lt_zero, Nat.reduceEqDiff, Nat.reduceLT, Nat.reduceLeDiff, Nat.reduceAdd, Nat.zero_le, ite_self, reduceCtorEq, bI_t, bI_f, bI_z, bI_1, ok_bb, nI_0N]
    have := kk (S.2.1 21) (fun k hk i hi => h1 k hk i (Nat.zero_le _) hi)
    rwa [aS_id] at this
  | succ d ih =>
    intro hd S hM h1 h2 kk
    refine ok_fix ?_
    show okS (k_Md_fill_27 (nI (d + 1) + nN)) S _
    unfold k_Md_fill_27
    simp (disch := omega) only [n_lit, n_m1, ok_S, ok_s, ok_N, ok_n, ↓ok_if, ok_A, ok_a, ok_L, ok_l, ok_zn0, ok_zn1, ok_f2, ok_pure, ok_rI, ok_bn0, ok_bn1, ok_rt, ok_riI, ok_rn0, ok_rn1, ok_go, nx_l, nx_r, sS_s, sS_n, sS_a, sS_l, sS_k, aS_s, aS_n, aS_1, aS_l, aS_k, lS_l, lS_1, lS_a, lS_k, nS_s, nS_n, nS_1, nS_a, nS_l, updS, updN, nI_eq, nI_leI, nI_ltI, nI_add, pk_mul, nN_e, nN_e', nN_l, nN_g, nN_le, nN_ge, ite_not, if_true, if_false, not_true_eq_false, not_false_eq_true, Nat.not_lt_zero, Nat.reduceEqDiff, Nat.reduceLT, Nat.reduceLeDiff, Nat.reduceAdd, Nat.zero_le, ite_self, reduceCtorEq, bI_t, bI_f, bI_z, bI_1, ok_bb, if_pos, if_neg, nI_dN]
    rw [← bI_t]
    refine fill35 hW (by omega) (L + 1) 0 (by omega) S true hM ⟨fun k hk h => ?_, fun k hk i hi1 hi2 => h1 k hk i (by omega) hi2, fun k hk i hi => h2 k hk i (by omega)⟩ (fun _ => Nat.zero_le _) (fun q => by cases q) ?_
    · rw [h2 k hk d (by omega)] at h; cases h
    · intro g x1 x2
      refine ih (by omega) _ (MdC_fr hM (FrM_a (by omega))) (by rw [aS_s]; exact x1) (by rw [aS_s]; exact x2) ?_
      intro g' y
      rw [aS_aS]
      exact kk g' y
theorem fill2 (hn : n ≤ 200) : ∀ d j, j + d = 1120 → ∀ (S : qSt), S.1 31 = nI n → (∀ x, x < j → S.2.1 21 x = nI 0) → (∀ g : Nat → Int32, (∀ x, x < 1120 → g x = nI 0) → okS (w_fix b_Md_fill (27, [.int (nI n)], [])) (aS S 21 g) Q) → okS (w_fix b_Md_fill (2, [.int (nI j)], [])) S Q := by
  intro d
  induction d with
  | zero =>
    intro j hj S hm h1 kk
    refine ok_fix ?_
    show okS (k_Md_fill_2 (nI j)) S _
    unfold k_Md_fill_2
    simp (disch := omega) only [n_lit, n_m1, ok_S, ok_s, ok_N, ok_n, ↓ok_if, ok_A, ok_a, ok_L, ok_l, ok_zn0, ok_zn1, ok_f2, ok_pure, ok_rI, ok_bn0, ok_bn1, ok_rt, ok_riI, ok_rn0, ok_rn1, ok_go, nx_l, nx_r, sS_s, sS_n, sS_a, sS_l, sS_k, aS_s, aS_n, aS_1, aS_l, aS_k, lS_l, lS_1, lS_a, lS_k, nS_s, nS_n, nS_1, nS_a, nS_l, updS, updN, nI_eq, nI_leI, nI_ltI, nI_add, pk_mul, nN_e, nN_e', nN_l, nN_g, nN_le, nN_ge, ite_not, if_true, if_false, not_true_eq_false, not_false_eq_true, Nat.not_lt_zero, Nat.reduceEqDiff, Nat.reduceLT, Nat.reduceLeDiff, Nat.reduceAdd, Nat.zero_le, ite_self, reduceCtorEq, bI_t, bI_f, bI_z, bI_1, ok_bb, if_pos, if_neg, hm]
    have := kk (S.2.1 21) (fun x hx => h1 x (by omega))
    rwa [aS_id] at this
  | succ d ih =>
    intro j hj S hm h1 kk
    refine ok_fix ?_
    show okS (k_Md_fill_2 (nI j)) S _
    unfold k_Md_fill_2
    simp (disch := omega) only [n_lit, n_m1, ok_S, ok_s, ok_N, ok_n, ↓ok_if, ok_A, ok_a, ok_L, ok_l, ok_zn0, ok_zn1, ok_f2, ok_pure, ok_rI, ok_bn0, ok_bn1, ok_rt, ok_riI, ok_rn0, ok_rn1, ok_go, nx_l, nx_r, sS_s, sS_n, sS_a, sS_l, sS_k, aS_s, aS_n, aS_1, aS_l, aS_k, lS_l, lS_1, lS_a, lS_k, nS_s, nS_n, nS_1, nS_a, nS_l, updS, updN, nI_eq, nI_leI, nI_ltI, nI_add, pk_mul, nN_e, nN_e', nN_l, nN_g, nN_le, nN_ge, ite_not, if_true, if_false, not_true_eq_false, not_false_eq_true, Nat.not_lt_zero, Nat.reduceEqDiff, Nat.reduceLT, Nat.reduceLeDiff, Nat.reduceAdd, Nat.zero_le, ite_self, reduceCtorEq, bI_t, bI_f, bI_z, bI_1, ok_bb, if_pos, if_neg, hm]
    refine ih (j + 1) (by omega) _ hm ?_ ?_
    · intro x hx
      rw [aS_s]
      by_cases hxj : x = j
      · subst hxj; exact updS _ _ _
      · rw [updN hxj]; exact h1 x (by omega)
    · intro g hg
      rw [aS_aS]
      exact kk g hg
theorem e_fill {S : qSt} (hW : MdW P L n w) (hM : MdC S P L n se w B) (kk : ∀ g : Nat → Int32, (∀ k, k < L → ∀ i, i ≤ n → (rb g k i = true ↔ Rch P n se (tkM P n w B) i k)) → Q () (aS S 21 g)) : okS f_Md_fill S Q := by
  unfold f_Md_fill
  refine ok_fix ?_
  show okS k_Md_fill_0 S _
  unfold k_Md_fill_0
  simp (disch := omega) only [n_lit, n_m1, ok_S, ok_s, ok_N, ok_n, ↓ok_if, ok_A, ok_a, ok_L, ok_l, ok_zn0, ok_zn1, ok_f2, ok_pure, ok_rI, ok_bn0, ok_bn1, ok_rt, ok_riI, ok_rn0, ok_rn1, ok_go, nx_l, nx_r, sS_s, sS_n, sS_a, sS_l, sS_k, aS_s, aS_n, aS_1, aS_l, aS_k, lS_l, lS_1, lS_a, lS_k, nS_s, nS_n, nS_1, nS_a, nS_l, updS, updN, nI_eq, nI_leI, nI_ltI, nI_add, pk_mul, nN_e, nN_e', nN_l, nN_g, nN_le, nN_ge, ite_not, if_true, if_false, not_true_eq_false, not_false_eq_true, Nat.not_lt_zero, Nat.reduceEqDiff, Nat.reduceLT, Nat.reduceLeDiff, Nat.reduceAdd, Nat.zero_le, ite_self, reduceCtorEq, bI_t, bI_f, bI_z, bI_1, ok_bb]
  have hn := hW.2.1
  have hL := hW.1.1
  refine fill2 hn 1120 0 rfl S hM.2.2.1 (fun x hx => by omega) ?_
  intro g hg
  rw [← nI_dN]
  refine fill27 hW (n + 1) (Nat.le_refl _) _ (MdC_fr hM (FrM_a (by omega))) (fun k hk i q1 q2 => by omega) ?_ ?_
  · intro k hk i hi
    rw [aS_s]
    unfold rb
    rw [hg _ (by omega), ib_0]
  · intro g' y
    rw [aS_aS]
    exact kk g' y
end FL
