/-! WRITING, by the reference: tasks -/
def TI (S : qSt) (ts : List (Nat × Nat)) : Prop := S.1 26 = nI ts.length ∧ ∀ i (h : i < ts.length), S.2.1 18 i = nI (ts[i]).1 ∧ S.2.1 19 i = nI (ts[i]).2
def CK (X : Nat → INS) (S : qSt) (i : Nat) : Prop := S.2.1 15 i = nI (X i).1 ∧ S.2.1 16 i = nI (X i).2.1 ∧ S.2.1 17 i = nI (X i).2.2
def AGL (X : Nat → INS) : List INS → Nat → Prop
  | [], _ => True
  | z :: r, p => z = X p ∧ AGL X r (p + 1)
def TK (t : Nat → ND) (W : Nat → Nat) (N L : Nat) (X : Nat → INS) (x : Nat × Nat) : Prop := x.1 < N ∧ 0 < W x.1 ∧ x.2 + W x.1 ≤ L ∧ AGL X (em t W N x.1 x.2) x.2
def sumT (W : Nat → Nat) (ts : List (Nat × Nat)) : Nat := (ts.map (fun x => W x.1)).sum
def FrT (S S' : qSt) : Prop := S'.2.2 = S.2.2 ∧ (∀ f, f ≠ 26 → S'.1 f = S.1 f) ∧ (∀ f, f < 15 ∨ 19 < f → S'.2.1 f = S.2.1 f)
theorem FrT_rf (S : qSt) : FrT S S := ⟨rfl, fun f _ => rfl, fun f _ => rfl⟩
theorem FrT_tr {S S1 S2 : qSt} (h2 : FrT S1 S2) (h1 : FrT S S1) : FrT S S2 := ⟨h2.1.trans h1.1, fun f a => (h2.2.1 f a).trans (h1.2.1 f a), fun f a => (h2.2.2 f a).trans (h1.2.2 f a)⟩
theorem FrT_a {f0 : Nat} (h : 15 ≤ f0 ∧ f0 ≤ 19) (S : qSt) (l : Nat → Int32) : FrT S (aS S f0 l) := ⟨rfl, fun f _ => rfl, fun f hf => aS_n (by omega)⟩
theorem FrT_s (S : qSt) (v : Int32) : FrT S (sS S 26 v) := ⟨rfl, fun f hf => sS_n hf, fun f hf => rfl⟩
theorem AGL_app {X : Nat → INS} : ∀ {a b : List INS} {p : Nat}, AGL X (a ++ b) p → AGL X a p ∧ AGL X b (p + a.length) := by
  intro a
  induction a with
  | nil => intro b p h; exact ⟨trivial, h⟩
  | cons z r ih =>
    intro b p h
    obtain ⟨h1, h2⟩ := h
    obtain ⟨h3, h4⟩ := ih h2
    refine ⟨⟨h1, h3⟩, ?_⟩
    rw [List.length_cons, show p + (r.length + 1) = p + 1 + r.length by omega]
    exact h4
theorem sumT_app (W : Nat → Nat) (a b : List (Nat × Nat)) : sumT W (a ++ b) = sumT W a + sumT W b := by
  unfold sumT
  simp
theorem sumT_len {W : Nat → Nat} : ∀ {ts : List (Nat × Nat)}, (∀ x ∈ ts, 0 < W x.1) → ts.length ≤ sumT W ts := by
  intro ts
  induction ts with
  | nil => intro _; exact Nat.zero_le _
  | cons x r ih =>
    intro h
    have h1 := h x (by simp)
    have h2 := ih (fun y hy => h y (by simp [hy]))
    have : sumT W (x :: r) = W x.1 + sumT W r := by
      unfold sumT
      simp
    rw [this, List.length_cons]
    omega
def PR (t : Nat → ND) (W : Nat → Nat) (N L : Nat) (X : Nat → INS) (S0 : qSt) (ts0 : List (Nat × Nat)) (n lo pos : Nat) (S : qSt) (nw : List (Nat × Nat)) : Prop := TI S (ts0 ++ nw) ∧ FrT S0 S ∧ (∀ i, CK X S0 i → CK X S i) ∧ (∀ x ∈ nw, TK t W N L X x ∧ n < x.1) ∧ sumT W nw + lo ≤ pos ∧ ∀ i, lo ≤ i → i < pos → CK X S i ∨ ∃ x ∈ nw, x.2 ≤ i ∧ i < x.2 + W x.1
section TW
variable {t : Nat → ND} {W : Nat → Nat} {N L n lo pos u g : Nat} {X : Nat → INS} {S0 S : qSt} {ts0 nw : List (Nat × Nat)}
theorem e_put {k x y : Nat} {Q : Unit → qSt → Prop} (h : PR t W N L X S0 ts0 n lo pos S nw) (hX : X pos = (k, x, y)) (hp : pos < 160) (q : ∀ S', PR t W N L X S0 ts0 n lo (pos + 1) S' nw → Q () S') : okS (f_Md_put (nI pos) (nI k) (nI x) (nI y)) S Q := by
  obtain ⟨h1, h2, h3, h4, h5, h6⟩ := h
  unfold f_Md_put
  simp (disch := omega) only [n_lit, n_m1, ok_S, ok_s, ok_N, ok_n, ↓ok_if, ok_A, ok_a, ok_L, ok_l, ok_zn0, ok_zn1, ok_f2, ok_pure, ok_rI, ok_bn0, ok_bn1, ok_rt, ok_riI, ok_rn0, ok_rn1, ok_go, nx_l, nx_r, sS_s, sS_n, sS_a, sS_l, sS_k, aS_s, aS_n, aS_1, aS_l, aS_k, lS_l, lS_1, lS_a, lS_k, nS_s, nS_n, nS_1, nS_a, nS_l, updS, updN, nI_eq, nI_leI, nI_ltI, nI_add, pk_mul, nN_e, nN_e', nN_l, nN_g, nN_le, nN_ge, ite_not, if_true, if_false, not_true_eq_false, not_false_eq_true, Nat.not_lt_zero, Nat.reduceEqDiff, Nat.reduceLT, Nat.reduceLeDiff, Nat.reduceAdd, Nat.zero_le, ite_self, reduceCtorEq, bI_t, bI_f, bI_z, bI_1, ok_bb, if_pos, if_neg]
  have hk : ∀ i, CK X S i → CK X (aS (aS (aS S 15 (upd (S.2.1 15) pos (nI k))) 16 (upd (S.2.1 16) pos (nI x))) 17 (upd (S.2.1 17) pos (nI y))) i := by
    intro i hi
    unfold CK at hi ⊢
    by_cases e : i = pos
    · subst e
      simp (disch := omega) only [n_lit, n_m1, ok_S, ok_s, ok_N, ok_n, ↓ok_if, ok_A, ok_a, ok_L, ok_l, ok_zn0, ok_zn1, ok_f2, ok_pure, ok_rI, ok_bn0, ok_bn1, ok_rt, ok_riI, ok_rn0, ok_rn1, ok_go, nx_l, nx_r, sS_s, sS_n, sS_a, sS_l, sS_k, aS_s, aS_n, aS_1, aS_l, aS_k, lS_l, lS_1, lS_a, lS_k, nS_s, nS_n, nS_1, nS_a, nS_l, updS, updN, nI_eq, nI_leI, nI_ltI, nI_add, pk_mul, nN_e, nN_e', nN_l, nN_g, nN_le, nN_ge, ite_not, if_true, if_false, not_true_eq_false, not_false_eq_true, Nat.not_lt_zero, Nat.reduceEqDiff, Nat.reduceLT, Nat.reduceLeDiff, Nat.reduceAdd, Nat.zero_le, ite_self, reduceCtorEq, bI_t, bI_f, bI_z, bI_1, ok_bb, if_pos, if_neg]
      rw [hX]
      exact ⟨rfl, rfl, rfl⟩
    · simp (disch := omega) only [n_lit, n_m1, ok_S, ok_s, ok_N, ok_n, ↓ok_if, ok_A, ok_a, ok_L, ok_l, ok_zn0, ok_zn1, ok_f2, ok_pure, ok_rI, ok_bn0, ok_bn1, ok_rt, ok_riI, ok_rn0, ok_rn1, ok_go, nx_l, nx_r, sS_s, sS_n, sS_a, sS_l, sS_k, aS_s, aS_n, aS_1, aS_l, aS_k, lS_l, lS_1, lS_a, lS_k, nS_s, nS_n, nS_1, nS_a, nS_l, updS, updN, nI_eq, nI_leI, nI_ltI, nI_add, pk_mul, nN_e, nN_e', nN_l, nN_g, nN_le, nN_ge, ite_not, if_true, if_false, not_true_eq_false, not_false_eq_true, Nat.not_lt_zero, Nat.reduceEqDiff, Nat.reduceLT, Nat.reduceLeDiff, Nat.reduceAdd, Nat.zero_le, ite_self, reduceCtorEq, bI_t, bI_f, bI_z, bI_1, ok_bb, if_pos, if_neg]
      exact hi
  refine q _ ⟨⟨?_, fun i hi => ?_⟩, ?_, fun i hi => hk i (h3 i hi), h4, by omega, fun i a b => ?_⟩
  · exact h1.1
  · have := h1.2 i hi
    simp (disch := omega) only [n_lit, n_m1, ok_S, ok_s, ok_N, ok_n, ↓ok_if, ok_A, ok_a, ok_L, ok_l, ok_zn0, ok_zn1, ok_f2, ok_pure, ok_rI, ok_bn0, ok_bn1, ok_rt, ok_riI, ok_rn0, ok_rn1, ok_go, nx_l, nx_r, sS_s, sS_n, sS_a, sS_l, sS_k, aS_s, aS_n, aS_1, aS_l, aS_k, lS_l, lS_1, lS_a, lS_k, nS_s, nS_n, nS_1, nS_a, nS_l, updS, updN, nI_eq, nI_leI, nI_ltI, nI_add, pk_mul, nN_e, nN_e', nN_l, nN_g, nN_le, nN_ge, ite_not, if_true, if_false, not_true_eq_false, not_false_eq_true, Nat.not_lt_zero, Nat.reduceEqDiff, Nat.reduceLT, Nat.reduceLeDiff, Nat.reduceAdd, Nat.zero_le, ite_self, reduceCtorEq, bI_t, bI_f, bI_z, bI_1, ok_bb, if_pos, if_neg]
    exact this
  · exact FrT_tr (FrT_a (by omega) _ _) (FrT_tr (FrT_a (by omega) _ _) (FrT_tr (FrT_a (by omega) _ _) h2))
  · by_cases e : i = pos
    · subst e
      left
      unfold CK
      simp (disch := omega) only [n_lit, n_m1, ok_S, ok_s, ok_N, ok_n, ↓ok_if, ok_A, ok_a, ok_L, ok_l, ok_zn0, ok_zn1, ok_f2, ok_pure, ok_rI, ok_bn0, ok_bn1, ok_rt, ok_riI, ok_rn0, ok_rn1, ok_go, nx_l, nx_r, sS_s, sS_n, sS_a, sS_l, sS_k, aS_s, aS_n, aS_1, aS_l, aS_k, lS_l, lS_1, lS_a, lS_k, nS_s, nS_n, nS_1, nS_a, nS_l, updS, updN, nI_eq, nI_leI, nI_ltI, nI_add, pk_mul, nN_e, nN_e', nN_l, nN_g, nN_le, nN_ge, ite_not, if_true, if_false, not_true_eq_false, not_false_eq_true, Nat.not_lt_zero, Nat.reduceEqDiff, Nat.reduceLT, Nat.reduceLeDiff, Nat.reduceAdd, Nat.zero_le, ite_self, reduceCtorEq, bI_t, bI_f, bI_z, bI_1, ok_bb, if_pos, if_neg]
      rw [hX]
      exact ⟨rfl, rfl, rfl⟩
    · rcases h6 i a (by omega) with z | z
      · exact Or.inl (hk i z)
      · exact Or.inr z
theorem e_later {m : Nat} {Q : Unit → qSt → Prop} (h : PR t W N L X S0 ts0 n lo pos S nw) (hm : m < N) (hnm : n < m) (hN : N ≤ 110) (h10 : S.2.1 10 m = nI (wd W m)) (hA : AGL X (em t W N m pos) pos) (hL : pos + W m ≤ L) (hL2 : L ≤ 160) (hb : ∀ x ∈ ts0, 0 < W x.1) (hb2 : sumT W ts0 + pos ≤ 400 + lo) (q : ∀ S' nw', PR t W N L X S0 ts0 n lo (pos + W m) S' nw' → Q () S') : okS (f_Md_later (nI m) (nI pos)) S Q := by
  obtain ⟨h1, h2, h3, h4, h5, h6⟩ := h
  unfold f_Md_later
  have wm : wd W m = W m := by
    unfold wd
    omega
  rw [wm] at h10
  have hlen : (ts0 ++ nw).length ≤ 400 := by
    have e1 := sumT_len (W := W) (ts := ts0 ++ nw) (by
      intro x hx
      rw [List.mem_append] at hx
      rcases hx with z | z
      · exact hb x z
      · exact (h4 x z).1.2.1)
    rw [sumT_app] at e1
    omega
  by_cases hz : W m = 0
  · rw [hz] at h10
    simp (disch := omega) only [n_lit, n_m1, ok_S, ok_s, ok_N, ok_n, ↓ok_if, ok_A, ok_a, ok_L, ok_l, ok_zn0, ok_zn1, ok_f2, ok_pure, ok_rI, ok_bn0, ok_bn1, ok_rt, ok_riI, ok_rn0, ok_rn1, ok_go, nx_l, nx_r, sS_s, sS_n, sS_a, sS_l, sS_k, aS_s, aS_n, aS_1, aS_l, aS_k, lS_l, lS_1, lS_a, lS_k, nS_s, nS_n, nS_1, nS_a, nS_l, updS, updN, nI_eq, nI_leI, nI_ltI, nI_add, pk_mul, nN_e, nN_e', nN_l, nN_g, nN_le, nN_ge, ite_not, if_true, if_false, not_true_eq_false, not_false_eq_true, Nat.not_lt_zero, Nat.reduceEqDiff, Nat.reduceLT, Nat.reduceLeDiff, Nat.reduceAdd, Nat.zero_le, ite_self, reduceCtorEq, bI_t, bI_f, bI_z, bI_1, ok_bb, if_pos, if_neg, h10]
    refine q S nw ⟨h1, h2, h3, h4, by omega, fun i a b => h6 i a (by omega)⟩
  · have h26 := h1.1
    simp (disch := omega) only [n_lit, n_m1, ok_S, ok_s, ok_N, ok_n, ↓ok_if, ok_A, ok_a, ok_L, ok_l, ok_zn0, ok_zn1, ok_f2, ok_pure, ok_rI, ok_bn0, ok_bn1, ok_rt, ok_riI, ok_rn0, ok_rn1, ok_go, nx_l, nx_r, sS_s, sS_n, sS_a, sS_l, sS_k, aS_s, aS_n, aS_1, aS_l, aS_k, lS_l, lS_1, lS_a, lS_k, nS_s, nS_n, nS_1, nS_a, nS_l, updS, updN, nI_eq, nI_leI, nI_ltI, nI_add, pk_mul, nN_e, nN_e', nN_l, nN_g, nN_le, nN_ge, ite_not, if_true, if_false, not_true_eq_false, not_false_eq_true, Nat.not_lt_zero, Nat.reduceEqDiff, Nat.reduceLT, Nat.reduceLeDiff, Nat.reduceAdd, Nat.zero_le, ite_self, reduceCtorEq, bI_t, bI_f, bI_z, bI_1, ok_bb, if_pos, if_neg, h10, h26]
    have hk : ∀ i, CK X S i → CK X (sS (aS (aS S 18 (upd (S.2.1 18) (ts0 ++ nw).length (nI m))) 19 (upd (S.2.1 19) (ts0 ++ nw).length (nI pos))) 26 (nI ((ts0 ++ nw).length + 1))) i := by
      intro i hi
      unfold CK at hi ⊢
      simp (disch := omega) only [n_lit, n_m1, ok_S, ok_s, ok_N, ok_n, ↓ok_if, ok_A, ok_a, ok_L, ok_l, ok_zn0, ok_zn1, ok_f2, ok_pure, ok_rI, ok_bn0, ok_bn1, ok_rt, ok_riI, ok_rn0, ok_rn1, ok_go, nx_l, nx_r, sS_s, sS_n, sS_a, sS_l, sS_k, aS_s, aS_n, aS_1, aS_l, aS_k, lS_l, lS_1, lS_a, lS_k, nS_s, nS_n, nS_1, nS_a, nS_l, updS, updN, nI_eq, nI_leI, nI_ltI, nI_add, pk_mul, nN_e, nN_e', nN_l, nN_g, nN_le, nN_ge, ite_not, if_true, if_false, not_true_eq_false, not_false_eq_true, Nat.not_lt_zero, Nat.reduceEqDiff, Nat.reduceLT, Nat.reduceLeDiff, Nat.reduceAdd, Nat.zero_le, ite_self, reduceCtorEq, bI_t, bI_f, bI_z, bI_1, ok_bb, if_pos, if_neg]
      exact hi
    refine q _ (nw ++ [(m, pos)]) ⟨⟨?_, fun i hi => ?_⟩, ?_, fun i hi => hk i (h3 i hi), fun x hx => ?_, ?_, fun i a b => ?_⟩
    · simp (disch := omega) only [n_lit, n_m1, ok_S, ok_s, ok_N, ok_n, ↓ok_if, ok_A, ok_a, ok_L, ok_l, ok_zn0, ok_zn1, ok_f2, ok_pure, ok_rI, ok_bn0, ok_bn1, ok_rt, ok_riI, ok_rn0, ok_rn1, ok_go, nx_l, nx_r, sS_s, sS_n, sS_a, sS_l, sS_k, aS_s, aS_n, aS_1, aS_l, aS_k, lS_l, lS_1, lS_a, lS_k, nS_s, nS_n, nS_1, nS_a, nS_l, updS, updN, nI_eq, nI_leI, nI_ltI, nI_add, pk_mul, nN_e, nN_e', nN_l, nN_g, nN_le, nN_ge, ite_not, if_true, if_false, not_true_eq_false, not_false_eq_true, Nat.not_lt_zero, Nat.reduceEqDiff, Nat.reduceLT, Nat.reduceLeDiff, Nat.reduceAdd, Nat.zero_le, ite_self, reduceCtorEq, bI_t, bI_f, bI_z, bI_1, ok_bb, if_pos, if_neg]
      rw [← List.append_assoc, List.length_append (as := ts0 ++ nw)]
      rfl
    · have hi2 : i < (ts0 ++ nw ++ [(m, pos)]).length := by rw [List.append_assoc]; exact hi
      have e1 : (ts0 ++ (nw ++ [(m, pos)]))[i] = (ts0 ++ nw ++ [(m, pos)])[i] := by
        congr 1
        rw [List.append_assoc]
      rw [e1]
      by_cases e : i = (ts0 ++ nw).length
      · subst e
        simp (disch := omega) only [n_lit, n_m1, ok_S, ok_s, ok_N, ok_n, ↓ok_if, ok_A, ok_a, ok_L, ok_l, ok_zn0, ok_zn1, ok_f2, ok_pure, ok_rI, ok_bn0, ok_bn1, ok_rt, ok_riI, ok_rn0, ok_rn1, ok_go, nx_l, nx_r, sS_s, sS_n, sS_a, sS_l, sS_k, aS_s, aS_n, aS_1, aS_l, aS_k, lS_l, lS_1, lS_a, lS_k, nS_s, nS_n, nS_1, nS_a, nS_l, updS, updN, nI_eq, nI_leI, nI_ltI, nI_add, pk_mul, nN_e, nN_e', nN_l, nN_g, nN_le, nN_ge, ite_not, if_true, if_false, not_true_eq_false, not_false_eq_true, Nat.not_lt_zero, Nat.reduceEqDiff, Nat.reduceLT, Nat.reduceLeDiff, Nat.reduceAdd, Nat.zero_le, ite_self, reduceCtorEq, bI_t, bI_f, bI_z, bI_1, ok_bb, if_pos, if_neg]
        simp
      · have hi3 : i < (ts0 ++ nw).length := by
          rw [List.length_append (as := ts0 ++ nw)] at hi2
          simp only [List.length_cons, List.length_nil] at hi2
          omega
        rw [List.getElem_append_left hi3]
        have := h1.2 i hi3
        simp (disch := omega) only [n_lit, n_m1, ok_S, ok_s, ok_N, ok_n, ↓ok_if, ok_A, ok_a, ok_L, ok_l, ok_zn0, ok_zn1, ok_f2, ok_pure, ok_rI, ok_bn0, ok_bn1, ok_rt, ok_riI, ok_rn0, ok_rn1, ok_go, nx_l, nx_r, sS_s, sS_n, sS_a, sS_l, sS_k, aS_s, aS_n, aS_1, aS_l, aS_k, lS_l, lS_1, lS_a, lS_k, nS_s, nS_n, nS_1, nS_a, nS_l, updS, updN, nI_eq, nI_leI, nI_ltI, nI_add, pk_mul, nN_e, nN_e', nN_l, nN_g, nN_le, nN_ge, ite_not, if_true, if_false, not_true_eq_false, not_false_eq_true, Nat.not_lt_zero, Nat.reduceEqDiff, Nat.reduceLT, Nat.reduceLeDiff, Nat.reduceAdd, Nat.zero_le, ite_self, reduceCtorEq, bI_t, bI_f, bI_z, bI_1, ok_bb, if_pos, if_neg]
        exact this
    · exact FrT_tr (FrT_s _ _) (FrT_tr (FrT_a (by omega) _ _) (FrT_tr (FrT_a (by omega) _ _) h2))
    · rw [List.mem_append] at hx
      rcases hx with z | z
      · exact h4 x z
      · have : x = (m, pos) := by simpa using z
        subst this
        exact ⟨⟨hm, by show 0 < W m; omega, hL, hA⟩, hnm⟩
    · rw [sumT_app]
      have : sumT W [(m, pos)] = W m := by
        unfold sumT
        simp
      omega
    · by_cases e : i < pos
      · rcases h6 i a e with z | ⟨x, z1, z2⟩
        · exact Or.inl (hk i z)
        · exact Or.inr ⟨x, by simp [z1], z2⟩
      · exact Or.inr ⟨(m, pos), by simp, by show pos ≤ i ∧ i < pos + W m; omega⟩
def MX (t : Nat → ND) (W : Nat → Nat) (N : Nat) (S : qSt) : Prop := RT S t N ∧ ∀ k, k < N → S.2.1 10 k = nI (wd W k)
theorem MX_fr {S' : qSt} (h : MX t W N S) (f : FrT S S') : MX t W N S' := ⟨RT_fr h.1 (fun j _ _ => f.2.2 j (by omega)), fun k hk => by rw [f.2.2 10 (by omega)]; exact h.2 k hk⟩
/-- a row, from its first kid on -/
theorem e_row {Q : Unit → qSt → Prop} (hM : MX t W N S0) (hN : N ≤ 110) (hL2 : L ≤ 160) (hb : ∀ x ∈ ts0, 0 < W x.1) (hb2 : sumT W ts0 ≤ 157) : ∀ (r : List Nat) (pos : Nat) (S : qSt) (nw : List (Nat × Nat)), PR t W N L X S0 ts0 n lo pos S nw → lo ≤ pos → chn (S0.2.1 5) r → (∀ k ∈ r, n < k ∧ k < N) → (∀ k ∈ r, ∀ a, (em t W N k a).length = W k) → AGL X (emSeq (em t W N) W r pos) pos → pos + sumW W r ≤ L → (∀ S' nw', PR t W N L X S0 ts0 n lo (pos + sumW W r) S' nw' → Q () S') → okS (w_fix b_Md_writeNode (83, [.int (nI pos), .int (hdI r)], [])) S Q := by
  intro r
  induction r with
  | nil =>
    intro pos S nw h _ _ _ _ _ _ q
    refine ok_fix ?_
    show okS (k_Md_writeNode_83 (nI pos) nN) S _
    unfold k_Md_writeNode_83
    simp (disch := omega) only [n_lit, n_m1, ok_S, ok_s, ok_N, ok_n, ↓ok_if, ok_A, ok_a, ok_L, ok_l, ok_zn0, ok_zn1, ok_f2, ok_pure, ok_rI, ok_bn0, ok_bn1, ok_rt, ok_riI, ok_rn0, ok_rn1, ok_go, nx_l, nx_r, sS_s, sS_n, sS_a, sS_l, sS_k, aS_s, aS_n, aS_1, aS_l, aS_k, lS_l, lS_1, lS_a, lS_k, nS_s, nS_n, nS_1, nS_a, nS_l, updS, updN, nI_eq, nI_leI, nI_ltI, nI_add, pk_mul, nN_e, nN_e', nN_l, nN_g, nN_le, nN_ge, ite_not, if_true, if_false, not_true_eq_false, not_false_eq_true, Nat.not_lt_zero, Nat.reduceEqDiff, Nat.reduceLT, Nat.reduceLeDiff, Nat.reduceAdd, Nat.zero_le, ite_self, reduceCtorEq, bI_t, bI_f, bI_z, bI_1, ok_bb, if_pos, if_neg]
    exact q S nw h
  | cons x r ih =>
    intro pos S nw h hlo hch hk hlen hA hL q
    have es : sumW W (x :: r) = W x + sumW W r := by
      unfold sumW
      simp
    rw [es] at hL q
    obtain ⟨A1, A2⟩ := AGL_app (show AGL X (em t W N x pos ++ emSeq (em t W N) W r (pos + W x)) pos from hA)
    rw [hlen x (by simp)] at A2
    obtain ⟨k1, k2⟩ := hk x (by simp)
    have hMx := MX_fr hM h.2.1
    refine ok_fix ?_
    show okS (k_Md_writeNode_83 (nI pos) (nI x)) S _
    unfold k_Md_writeNode_83
    simp (disch := omega) only [n_lit, n_m1, ok_S, ok_s, ok_N, ok_n, ↓ok_if, ok_A, ok_a, ok_L, ok_l, ok_zn0, ok_zn1, ok_f2, ok_pure, ok_rI, ok_bn0, ok_bn1, ok_rt, ok_riI, ok_rn0, ok_rn1, ok_go, nx_l, nx_r, sS_s, sS_n, sS_a, sS_l, sS_k, aS_s, aS_n, aS_1, aS_l, aS_k, lS_l, lS_1, lS_a, lS_k, nS_s, nS_n, nS_1, nS_a, nS_l, updS, updN, nI_eq, nI_leI, nI_ltI, nI_add, pk_mul, nN_e, nN_e', nN_l, nN_g, nN_le, nN_ge, ite_not, if_true, if_false, not_true_eq_false, not_false_eq_true, Nat.not_lt_zero, Nat.reduceEqDiff, Nat.reduceLT, Nat.reduceLeDiff, Nat.reduceAdd, Nat.zero_le, ite_self, reduceCtorEq, bI_t, bI_f, bI_z, bI_1, ok_bb, if_pos, if_neg]
    refine ok_C (e_later h k2 k1 hN (hMx.2 x k2) A1 (by omega) hL2 hb (by omega) fun S1 nw1 h1 => ?_)
    have hMx1 := MX_fr hM h1.2.1
    have e10 := hMx1.2 x k2
    have e5 : S1.2.1 5 x = hdI r := by rw [h1.2.1.2.2 5 (by omega)]; exact hch.1
    have wx : wd W x = W x := by
      unfold wd
      omega
    rw [wx] at e10
    simp (disch := omega) only [n_lit, n_m1, ok_S, ok_s, ok_N, ok_n, ↓ok_if, ok_A, ok_a, ok_L, ok_l, ok_zn0, ok_zn1, ok_f2, ok_pure, ok_rI, ok_bn0, ok_bn1, ok_rt, ok_riI, ok_rn0, ok_rn1, ok_go, nx_l, nx_r, sS_s, sS_n, sS_a, sS_l, sS_k, aS_s, aS_n, aS_1, aS_l, aS_k, lS_l, lS_1, lS_a, lS_k, nS_s, nS_n, nS_1, nS_a, nS_l, updS, updN, nI_eq, nI_leI, nI_ltI, nI_add, pk_mul, nN_e, nN_e', nN_l, nN_g, nN_le, nN_ge, ite_not, if_true, if_false, not_true_eq_false, not_false_eq_true, Nat.not_lt_zero, Nat.reduceEqDiff, Nat.reduceLT, Nat.reduceLeDiff, Nat.reduceAdd, Nat.zero_le, ite_self, reduceCtorEq, bI_t, bI_f, bI_z, bI_1, ok_bb, if_pos, if_neg, e10, e5]
    refine ih (pos + W x) S1 nw1 h1 (by omega) hch.2 (fun k hk' => hk k (by simp [hk'])) (fun k hk' => hlen k (by simp [hk'])) A2 (by omega) ?_
    intro S2 nw2 h2
    refine q S2 nw2 ?_
    rw [show pos + (W x + sumW W r) = pos + W x + sumW W r by omega]
    exact h2
/-- a choice, from its first row on -/
theorem e_rws {fin : Nat} {Q : Unit → qSt → Prop} (hM : MX t W N S0) (hN : N ≤ 110) (hL2 : L ≤ 160) (hfin : fin ≤ 1000) (hb : ∀ x ∈ ts0, 0 < W x.1) (hb2 : sumT W ts0 ≤ 157) : ∀ (r : List Nat) (pos : Nat) (S : qSt) (nw : List (Nat × Nat)), PR t W N L X S0 ts0 n lo pos S nw → lo ≤ pos → chn (S0.2.1 5) r → (∀ k ∈ r, n < k ∧ k < N) → (∀ k ∈ r, ∀ a, (em t W N k a).length = W k) → AGL X (emRows (em t W N) W fin r pos) pos → (r ≠ [] → pos + sumW W r + 2 * r.length ≤ L + 2) → (∀ S' nw', PR t W N L X S0 ts0 n lo (if r = [] then pos else pos + sumW W r + 2 * r.length - 2) S' nw' → Q () S') → okS (w_fix b_Md_writeChoice (20, [.int (nI fin), .int (nI pos), .int (hdI r)], [])) S Q := by
  intro r
  induction r with
  | nil =>
    intro pos S nw h _ _ _ _ _ _ q
    refine ok_fix ?_
    show okS (k_Md_writeChoice_20 (nI fin) (nI pos) nN) S _
    unfold k_Md_writeChoice_20
    simp (disch := omega) only [n_lit, n_m1, ok_S, ok_s, ok_N, ok_n, ↓ok_if, ok_A, ok_a, ok_L, ok_l, ok_zn0, ok_zn1, ok_f2, ok_pure, ok_rI, ok_bn0, ok_bn1, ok_rt, ok_riI, ok_rn0, ok_rn1, ok_go, nx_l, nx_r, sS_s, sS_n, sS_a, sS_l, sS_k, aS_s, aS_n, aS_1, aS_l, aS_k, lS_l, lS_1, lS_a, lS_k, nS_s, nS_n, nS_1, nS_a, nS_l, updS, updN, nI_eq, nI_leI, nI_ltI, nI_add, pk_mul, nN_e, nN_e', nN_l, nN_g, nN_le, nN_ge, ite_not, if_true, if_false, not_true_eq_false, not_false_eq_true, Nat.not_lt_zero, Nat.reduceEqDiff, Nat.reduceLT, Nat.reduceLeDiff, Nat.reduceAdd, Nat.zero_le, ite_self, reduceCtorEq, bI_t, bI_f, bI_z, bI_1, ok_bb, if_pos, if_neg]
    rw [if_pos rfl] at q
    exact q S nw h
  | cons x r ih =>
    intro pos S nw h hlo hch hk hlen hA hL q
    have hL' := hL (by simp)
    rw [if_neg (by simp)] at q
    have es : sumW W (x :: r) = W x + sumW W r := by
      unfold sumW
      simp
    rw [es, List.length_cons] at hL' q
    obtain ⟨k1, k2⟩ := hk x (by simp)
    have hMx := MX_fr hM h.2.1
    have wx : wd W x = W x := by
      unfold wd
      omega
    have e10 := hMx.2 x k2
    rw [wx] at e10
    have e5 : S.2.1 5 x = hdI r := by rw [h.2.1.2.2 5 (by omega)]; exact hch.1
    refine ok_fix ?_
    show okS (k_Md_writeChoice_20 (nI fin) (nI pos) (nI x)) S _
    unfold k_Md_writeChoice_20 k_Md_writeChoice_112
    cases r with
    | nil =>
      have e5' : S.2.1 5 x = nN := e5
      have s0 : sumW W [] = 0 := rfl
      rw [s0] at hL' q
      simp only [List.length_nil] at hL' q
      have A1 : AGL X (em t W N x pos) pos := by
        have : emRows (em t W N) W fin [x] pos = em t W N x pos := by
          show (if ([] : List Nat) = [] then _ else _) = _
          rw [if_pos rfl]
        rw [this] at hA
        exact hA
      simp (disch := omega) only [n_lit, n_m1, ok_S, ok_s, ok_N, ok_n, ↓ok_if, ok_A, ok_a, ok_L, ok_l, ok_zn0, ok_zn1, ok_f2, ok_pure, ok_rI, ok_bn0, ok_bn1, ok_rt, ok_riI, ok_rn0, ok_rn1, ok_go, nx_l, nx_r, sS_s, sS_n, sS_a, sS_l, sS_k, aS_s, aS_n, aS_1, aS_l, aS_k, lS_l, lS_1, lS_a, lS_k, nS_s, nS_n, nS_1, nS_a, nS_l, updS, updN, nI_eq, nI_leI, nI_ltI, nI_add, pk_mul, nN_e, nN_e', nN_l, nN_g, nN_le, nN_ge, ite_not, if_true, if_false, not_true_eq_false, not_false_eq_true, Nat.not_lt_zero, Nat.reduceEqDiff, Nat.reduceLT, Nat.reduceLeDiff, Nat.reduceAdd, Nat.zero_le, ite_self, reduceCtorEq, bI_t, bI_f, bI_z, bI_1, ok_bb, if_pos, if_neg, e5']
      refine ok_C (e_later h k2 k1 hN (hMx.2 x k2) A1 (by omega) hL2 hb (by omega) fun S1 nw1 h1 => ?_)
      have e51 : S1.2.1 5 x = nN := by rw [h1.2.1.2.2 5 (by omega)]; exact hch.1
      simp (disch := omega) only [n_lit, n_m1, ok_S, ok_s, ok_N, ok_n, ↓ok_if, ok_A, ok_a, ok_L, ok_l, ok_zn0, ok_zn1, ok_f2, ok_pure, ok_rI, ok_bn0, ok_bn1, ok_rt, ok_riI, ok_rn0, ok_rn1, ok_go, nx_l, nx_r, sS_s, sS_n, sS_a, sS_l, sS_k, aS_s, aS_n, aS_1, aS_l, aS_k, lS_l, lS_1, lS_a, lS_k, nS_s, nS_n, nS_1, nS_a, nS_l, updS, updN, nI_eq, nI_leI, nI_ltI, nI_add, pk_mul, nN_e, nN_e', nN_l, nN_g, nN_le, nN_ge, ite_not, if_true, if_false, not_true_eq_false, not_false_eq_true, Nat.not_lt_zero, Nat.reduceEqDiff, Nat.reduceLT, Nat.reduceLeDiff, Nat.reduceAdd, Nat.zero_le, ite_self, reduceCtorEq, bI_t, bI_f, bI_z, bI_1, ok_bb, if_pos, if_neg, e51]
      refine ok_fix ?_
      show okS (k_Md_writeChoice_20 (nI fin) (nI pos) nN) S1 _
      unfold k_Md_writeChoice_20
      simp (disch := omega) only [n_lit, n_m1, ok_S, ok_s, ok_N, ok_n, ↓ok_if, ok_A, ok_a, ok_L, ok_l, ok_zn0, ok_zn1, ok_f2, ok_pure, ok_rI, ok_bn0, ok_bn1, ok_rt, ok_riI, ok_rn0, ok_rn1, ok_go, nx_l, nx_r, sS_s, sS_n, sS_a, sS_l, sS_k, aS_s, aS_n, aS_1, aS_l, aS_k, lS_l, lS_1, lS_a, lS_k, nS_s, nS_n, nS_1, nS_a, nS_l, updS, updN, nI_eq, nI_leI, nI_ltI, nI_add, pk_mul, nN_e, nN_e', nN_l, nN_g, nN_le, nN_ge, ite_not, if_true, if_false, not_true_eq_false, not_false_eq_true, Nat.not_lt_zero, Nat.reduceEqDiff, Nat.reduceLT, Nat.reduceLeDiff, Nat.reduceAdd, Nat.zero_le, ite_self, reduceCtorEq, bI_t, bI_f, bI_z, bI_1, ok_bb, if_pos, if_neg]
      refine q S1 nw1 ?_
      rw [show pos + (W x + 0) + 2 * (0 + 1) - 2 = pos + W x by omega]
      exact h1
    | cons x' r' =>
      have e5' : S.2.1 5 x = nI x' := e5
      obtain ⟨k1', k2'⟩ := hk x' (by simp)
      simp only [List.length_cons] at hL' q
      have hA2 : AGL X ((1, pos + 1, pos + W x + 2) :: (em t W N x (pos + 1) ++ (2, fin, 0) :: emRows (em t W N) W fin (x' :: r') (pos + W x + 2))) pos := by
        have : emRows (em t W N) W fin (x :: x' :: r') pos = (1, pos + 1, pos + W x + 2) :: (em t W N x (pos + 1) ++ (2, fin, 0) :: emRows (em t W N) W fin (x' :: r') (pos + W x + 2)) := by
          show (if x' :: r' = [] then _ else _) = _
          rw [if_neg (by simp)]
        rw [this] at hA
        exact hA
      obtain ⟨A1, A2⟩ := hA2
      obtain ⟨A3, A4⟩ := AGL_app A2
      rw [hlen x (by simp)] at A4
      obtain ⟨A5, A6⟩ := A4
      simp (disch := omega) only [n_lit, n_m1, ok_S, ok_s, ok_N, ok_n, ↓ok_if, ok_A, ok_a, ok_L, ok_l, ok_zn0, ok_zn1, ok_f2, ok_pure, ok_rI, ok_bn0, ok_bn1, ok_rt, ok_riI, ok_rn0, ok_rn1, ok_go, nx_l, nx_r, sS_s, sS_n, sS_a, sS_l, sS_k, aS_s, aS_n, aS_1, aS_l, aS_k, lS_l, lS_1, lS_a, lS_k, nS_s, nS_n, nS_1, nS_a, nS_l, updS, updN, nI_eq, nI_leI, nI_ltI, nI_add, pk_mul, nN_e, nN_e', nN_l, nN_g, nN_le, nN_ge, ite_not, if_true, if_false, not_true_eq_false, not_false_eq_true, Nat.not_lt_zero, Nat.reduceEqDiff, Nat.reduceLT, Nat.reduceLeDiff, Nat.reduceAdd, Nat.zero_le, ite_self, reduceCtorEq, bI_t, bI_f, bI_z, bI_1, ok_bb, if_pos, if_neg, e5', e10]
      refine ok_C (e_put h A1.symm (by omega) fun S1 h1 => ?_)
      refine ok_C (e_later h1 k2 k1 hN ((MX_fr hM h1.2.1).2 x k2) A3 (by omega) hL2 hb (by omega) fun S2 nw2 h2 => ?_)
      have e102 := (MX_fr hM h2.2.1).2 x k2
      rw [wx] at e102
      simp (disch := omega) only [n_lit, n_m1, ok_S, ok_s, ok_N, ok_n, ↓ok_if, ok_A, ok_a, ok_L, ok_l, ok_zn0, ok_zn1, ok_f2, ok_pure, ok_rI, ok_bn0, ok_bn1, ok_rt, ok_riI, ok_rn0, ok_rn1, ok_go, nx_l, nx_r, sS_s, sS_n, sS_a, sS_l, sS_k, aS_s, aS_n, aS_1, aS_l, aS_k, lS_l, lS_1, lS_a, lS_k, nS_s, nS_n, nS_1, nS_a, nS_l, updS, updN, nI_eq, nI_leI, nI_ltI, nI_add, pk_mul, nN_e, nN_e', nN_l, nN_g, nN_le, nN_ge, ite_not, if_true, if_false, not_true_eq_false, not_false_eq_true, Nat.not_lt_zero, Nat.reduceEqDiff, Nat.reduceLT, Nat.reduceLeDiff, Nat.reduceAdd, Nat.zero_le, ite_self, reduceCtorEq, bI_t, bI_f, bI_z, bI_1, ok_bb, if_pos, if_neg, e102]
      have ep : pos + W x + 1 = pos + 1 + W x := by omega
      rw [ep]
      refine ok_C (e_put h2 A5.symm (by omega) fun S3 h3 => ?_)
      have e103 := (MX_fr hM h3.2.1).2 x k2
      rw [wx] at e103
      have e53 : S3.2.1 5 x = nI x' := by rw [h3.2.1.2.2 5 (by omega)]; exact hch.1
      simp (disch := omega) only [n_lit, n_m1, ok_S, ok_s, ok_N, ok_n, ↓ok_if, ok_A, ok_a, ok_L, ok_l, ok_zn0, ok_zn1, ok_f2, ok_pure, ok_rI, ok_bn0, ok_bn1, ok_rt, ok_riI, ok_rn0, ok_rn1, ok_go, nx_l, nx_r, sS_s, sS_n, sS_a, sS_l, sS_k, aS_s, aS_n, aS_1, aS_l, aS_k, lS_l, lS_1, lS_a, lS_k, nS_s, nS_n, nS_1, nS_a, nS_l, updS, updN, nI_eq, nI_leI, nI_ltI, nI_add, pk_mul, nN_e, nN_e', nN_l, nN_g, nN_le, nN_ge, ite_not, if_true, if_false, not_true_eq_false, not_false_eq_true, Nat.not_lt_zero, Nat.reduceEqDiff, Nat.reduceLT, Nat.reduceLeDiff, Nat.reduceAdd, Nat.zero_le, ite_self, reduceCtorEq, bI_t, bI_f, bI_z, bI_1, ok_bb, if_pos, if_neg, e103, e53]
      have ep2 : pos + 1 + W x + 1 = pos + (W x + 2) := by omega
      rw [ep2] at h3 A6
      refine ih (pos + (W x + 2)) S3 nw2 h3 (by omega) hch.2 (fun k hk' => hk k (by simp [hk'])) (fun k hk' => hlen k (by simp [hk'])) (by rw [show pos + W x + 2 = pos + (W x + 2) by omega] at A6; exact A6) (fun _ => by simp only [List.length_cons]; omega) ?_
      intro S4 nw4 h4
      rw [if_neg (by simp)] at h4
      refine q S4 nw4 ?_
      simp only [List.length_cons] at h4
      rw [show pos + (W x + sumW W (x' :: r')) + 2 * (r'.length + 1 + 1) - 2 = pos + (W x + 2) + sumW W (x' :: r') + 2 * (r'.length + 1) - 2 by omega]
      exact h4
end TW
