/-! READING: the characters of a set, by the reference -/
def MM (l : Nat → Int32) (B : MBf) (u : Nat) : Prop := ∀ s c, s < u → c < 256 → mB l s c = B s c
def TxM (S : qSt) (len : Nat) (tx : Nat → Nat) : Prop := len ≤ 48 ∧ S.1 1 = nI len ∧ ∀ i, i < len → 32 ≤ tx i ∧ tx i ≤ 126 ∧ S.2.1 1 i = nI (tx i)
def MI (S : qSt) (len : Nat) (tx : Nat → Nat) (p u : Nat) (B : MBf) : Prop := TxM S len tx ∧ S.1 14 = nI p ∧ u ≤ 48 ∧ MM (S.2.1 14) B u
def FrQ (S S' : qSt) : Prop := S'.2.2 = S.2.2 ∧ (∀ f, f ≠ 14 → S'.1 f = S.1 f) ∧ (∀ f, f ≠ 14 → S'.2.1 f = S.2.1 f)
def PoM (u : Nat) (S : qSt) (r : Nat ⊕ (Nat × MBf)) (v : Int32) (S' : qSt) : Prop := FrQ S S' ∧ match r with
  | .inl e => v = nI 0 ∧ S'.1 14 = nI e
  | .inr (q, B') => v = nI 1 ∧ S'.1 14 = nI q ∧ MM (S'.2.1 14) B' u
theorem FrQ_rf (S : qSt) : FrQ S S := ⟨rfl, fun f _ => rfl, fun f _ => rfl⟩
theorem FrQ_tr {S S1 S2 : qSt} (h2 : FrQ S1 S2) (h1 : FrQ S S1) : FrQ S S2 := ⟨h2.1.trans h1.1, fun f a => (h2.2.1 f a).trans (h1.2.1 f a), fun f a => (h2.2.2 f a).trans (h1.2.2 f a)⟩
theorem FrQ_s (S : qSt) (v : Int32) : FrQ S (sS S 14 v) := ⟨rfl, fun f a => sS_n a, fun f a => rfl⟩
theorem FrQ_a (S : qSt) (l : Nat → Int32) : FrQ S (aS S 14 l) := ⟨rfl, fun f a => rfl, fun f a => aS_n a⟩
theorem PoM_fr {u : Nat} {S S1 S' : qSt} {v : Int32} {r : Nat ⊕ (Nat × MBf)} (h : PoM u S1 r v S') (h1 : FrQ S S1) : PoM u S r v S' := ⟨FrQ_tr h.1 h1, h.2⟩
theorem TxM_fr {S S' : qSt} {len : Nat} {tx : Nat → Nat} (h : TxM S len tx) (f : FrQ S S') : TxM S' len tx := ⟨h.1, (f.2.1 1 (by omega)).trans h.2.1, fun i hi => by rw [f.2.2 1 (by omega)]; exact h.2.2 i hi⟩
theorem ctC {n : Nat} (h : n ≤ 126) : narrow .char (.int (nI n)) = .int (nI n) := (pk_charN (by omega)).1
section RM
variable {S S' : qSt} {len p q u s : Nat} {tx : Nat → Nat} {B B' : MBf} {l : Nat → Int32}
theorem MI_at (h : MI S len tx p u B) : MI (sS S 14 (nI q)) len tx q u B := ⟨TxM_fr h.1 (FrQ_s _ _), sS_s, h.2.2⟩
theorem MI_a (h : MI S len tx p u B) (m : MM l B' u) : MI (aS S 14 l) len tx p u B' := ⟨TxM_fr h.1 (FrQ_a _ _), h.2.1, h.2.2.1, by rw [aS_s]; exact m⟩
theorem PoM_MI {v : Int32} (h : MI S len tx p u B) (k : PoM u S (.inr (q, B')) v S') : MI S' len tx q u B' := ⟨TxM_fr h.1 k.1, k.2.2.1, h.2.2.1, k.2.2.2⟩
theorem pm_le (h : TxM S len tx) : pe len tx p ≤ 126 ∧ (pe len tx p ≠ 0 → p < 48 ∧ 32 ≤ pe len tx p) := by
  unfold pe
  split
  · rename_i hp
    have := h.2.2 p hp
    have := h.1
    exact ⟨by omega, fun _ => ⟨by omega, by omega⟩⟩
  · exact ⟨by omega, fun k => absurd rfl k⟩
theorem pm_lt (h : TxM S len tx) : ∀ p, pe len tx p ≠ 0 → p < 48 := fun p k => ((@pm_le S len p tx h).2 k).1
theorem e_hereR {Q : Int32 → qSt → Prop} (h : TxM S len tx) (hp : p < 1000) (k : Q (nI (pe len tx p)) S) : okS (f_Md_here (nI p)) S Q := by
  obtain ⟨h0, h1, h2⟩ := h
  unfold f_Md_here
  unfold pe at k
  by_cases hl : p < len
  · have := h2 p hl
    rw [if_pos hl] at k
    simp (disch := omega) only [n_lit, n_m1, ok_S, ok_s, ok_N, ok_n, ↓ok_if, ok_A, ok_a, ok_L, ok_l, ok_zn0, ok_zn1, ok_f2, ok_pure, ok_rI, ok_bn0, ok_bn1, ok_rt, ok_riI, ok_rn0, ok_rn1, ok_go, nx_l, nx_r, sS_s, sS_n, sS_a, sS_l, sS_k, aS_s, aS_n, aS_1, aS_l, aS_k, lS_l, lS_1, lS_a, lS_k, nS_s, nS_n, nS_1, nS_a, nS_l, updS, updN, nI_eq, nI_leI, nI_ltI, nI_add, pk_mul, nN_e, nN_e', nN_l, nN_g, nN_le, nN_ge, ite_not, if_true, if_false, not_true_eq_false, not_false_eq_true, Nat.not_lt_zero, Nat.reduceEqDiff, Nat.reduceLT, Nat.reduceLeDiff, Nat.reduceAdd, Nat.zero_le, ite_self, reduceCtorEq, bI_t, bI_f, bI_z, bI_1, ok_bb, if_pos, if_neg, h1, this]
    rw [ok_rB (ctC (by omega))]
    exact k
  · rw [if_neg hl] at k
    simp (disch := omega) only [n_lit, n_m1, ok_S, ok_s, ok_N, ok_n, ↓ok_if, ok_A, ok_a, ok_L, ok_l, ok_zn0, ok_zn1, ok_f2, ok_pure, ok_rI, ok_bn0, ok_bn1, ok_rt, ok_riI, ok_rn0, ok_rn1, ok_go, nx_l, nx_r, sS_s, sS_n, sS_a, sS_l, sS_k, aS_s, aS_n, aS_1, aS_l, aS_k, lS_l, lS_1, lS_a, lS_k, nS_s, nS_n, nS_1, nS_a, nS_l, updS, updN, nI_eq, nI_leI, nI_ltI, nI_add, pk_mul, nN_e, nN_e', nN_l, nN_g, nN_le, nN_ge, ite_not, if_true, if_false, not_true_eq_false, not_false_eq_true, Nat.not_lt_zero, Nat.reduceEqDiff, Nat.reduceLT, Nat.reduceLeDiff, Nat.reduceAdd, Nat.zero_le, ite_self, reduceCtorEq, bI_t, bI_f, bI_z, bI_1, ok_bb, if_pos, if_neg, h1]
    rw [ok_rB (ctC (by omega))]
    exact k
theorem MM_or {v : Nat} (hs : s < u) (hv : v < 256) (hm : MM l B u) : MM (upd l (8 * s + v / 32) (l (8 * s + v / 32) ||| (nI 1 <<< (nI (v % 32) &&& nI 31)))) (adR B s v v) u := by
  intro s' c' h1 h2
  have h3 := hm s' c' h1 h2
  unfold adR
  unfold mB at h3 ⊢
  by_cases e : 8 * s' + c' / 32 = 8 * s + v / 32
  · rw [e, updS, ib_or (by omega) (by omega), ← e, h3]
    have e1 : s' = s := by omega
    subst e1
    congr 1
    rw [beq_self_eq_true, Bool.true_and]
    by_cases e2 : c' % 32 = v % 32
    · have : c' = v := by omega
      subst this
      simp
    · have h : ¬ (v ≤ c' ∧ c' ≤ v) := by omega
      simp [e2, h]
  · rw [updN e, h3]
    by_cases e1 : s' = s
    · have h' : ¬ (v ≤ c' ∧ c' ≤ v) := by
        intro b
        have : c' = v := by omega
        subst this
        subst e1
        exact e rfl
      simp [h']
    · simp [e1]
theorem e_incl {a b : Nat} {Q : Unit → qSt → Prop} (hs : s < u) (hb : b < 256) (ha : a ≤ 256) (h : MI S len tx p u B) (k : ∀ l, MI (aS S 14 l) len tx p u (adR B s a b) → Q () (aS S 14 l)) : okS (f_Md_include (nI s) (nI a) (nI b)) S Q := by
  have hu := h.2.2.1
  have lp : ∀ d v (l : Nat → Int32) (B : MBf), b + 1 - v = d → v ≤ 256 → MI (aS S 14 l) len tx p u B → (∀ l, MI (aS S 14 l) len tx p u (adR B s v b) → Q () (aS S 14 l)) → okS (w_fix b_Md_include (3, [.int (nI s), .int (nI b), .int (nI v)], [])) (aS S 14 l) Q := by
    intro d
    induction d with
    | zero =>
      intro v l B hd hv h k
      refine ok_fix ?_
      show okS (k_Md_include_3 (nI s) (nI b) (nI v)) _ _
      unfold k_Md_include_3
      simp (disch := omega) only [n_lit, n_m1, ok_S, ok_s, ok_N, ok_n, ↓ok_if, ok_A, ok_a, ok_L, ok_l, ok_zn0, ok_zn1, ok_f2, ok_pure, ok_rI, ok_bn0, ok_bn1, ok_rt, ok_riI, ok_rn0, ok_rn1, ok_go, nx_l, nx_r, sS_s, sS_n, sS_a, sS_l, sS_k, aS_s, aS_n, aS_1, aS_l, aS_k, lS_l, lS_1, lS_a, lS_k, nS_s, nS_n, nS_1, nS_a, nS_l, updS, updN, nI_eq, nI_leI, nI_ltI, nI_add, pk_mul, nN_e, nN_e', nN_l, nN_g, nN_le, nN_ge, ite_not, if_true, if_false, not_true_eq_false, not_false_eq_true, Nat.not_lt_zero, Nat.reduceEqDiff, Nat.reduceLT, Nat.reduceLeDiff, Nat.reduceAdd, Nat.zero_le, ite_self, reduceCtorEq, bI_t, bI_f, bI_z, bI_1, ok_bb, if_pos, if_neg]
      have := k l
      rw [adR_no (by omega)] at this
      exact this h
    | succ d ih =>
      intro v l B hd hv h k
      refine ok_fix ?_
      show okS (k_Md_include_3 (nI s) (nI b) (nI v)) _ _
      unfold k_Md_include_3
      simp (disch := omega) only [n_lit, n_m1, ok_S, ok_s, ok_N, ok_n, ↓ok_if, ok_A, ok_a, ok_L, ok_l, ok_zn0, ok_zn1, ok_f2, ok_pure, ok_rI, ok_bn0, ok_bn1, ok_rt, ok_riI, ok_rn0, ok_rn1, ok_go, nx_l, nx_r, sS_s, sS_n, sS_a, sS_l, sS_k, aS_s, aS_n, aS_1, aS_l, aS_k, lS_l, lS_1, lS_a, lS_k, nS_s, nS_n, nS_1, nS_a, nS_l, updS, updN, nI_eq, nI_leI, nI_ltI, nI_add, pk_mul, nN_e, nN_e', nN_l, nN_g, nN_le, nN_ge, ite_not, if_true, if_false, not_true_eq_false, not_false_eq_true, Nat.not_lt_zero, Nat.reduceEqDiff, Nat.reduceLT, Nat.reduceLeDiff, Nat.reduceAdd, Nat.zero_le, ite_self, reduceCtorEq, bI_t, bI_f, bI_z, bI_1, ok_bb, if_pos, if_neg, n_rem32, pk_div]
      have hm : MM l B u := by
        have := h.2.2.2
        rw [aS_s] at this
        exact this
      have e : aS (aS S 14 l) 14 (upd l (8 * s + v / 32) (l (8 * s + v / 32) ||| (nI 1 <<< (nI (v % 32) &&& nI 31)))) = aS S 14 (upd l (8 * s + v / 32) (l (8 * s + v / 32) ||| (nI 1 <<< (nI (v % 32) &&& nI 31)))) := by
        unfold aS
        refine Prod.ext rfl (Prod.ext ?_ rfl)
        funext f
        unfold va_up
        by_cases q : f = 14
        · simp [q]
        · simp [q]
      rw [e]
      refine ih (v + 1) _ (adR B s v v) (by omega) (by omega) ?_ ?_
      · have := MI_a h (MM_or (v := v) hs (by omega) hm)
        rw [e] at this
        exact this
      · intro l hl
        rw [adR_one (by omega)] at hl
        exact k l hl
  have e0 : aS S 14 (S.2.1 14) = S := by
    unfold aS
    refine Prod.ext rfl (Prod.ext ?_ rfl)
    funext f
    unfold va_up
    by_cases q : f = 14
    · simp [q]
    · simp [q]
  unfold f_Md_include
  refine ok_fix ?_
  show okS (k_Md_include_0 (nI s) (nI a) (nI b)) S _
  unfold k_Md_include_0
  simp (disch := omega) only [n_lit, n_m1, ok_S, ok_s, ok_N, ok_n, ↓ok_if, ok_A, ok_a, ok_L, ok_l, ok_zn0, ok_zn1, ok_f2, ok_pure, ok_rI, ok_bn0, ok_bn1, ok_rt, ok_riI, ok_rn0, ok_rn1, ok_go, nx_l, nx_r, sS_s, sS_n, sS_a, sS_l, sS_k, aS_s, aS_n, aS_1, aS_l, aS_k, lS_l, lS_1, lS_a, lS_k, nS_s, nS_n, nS_1, nS_a, nS_l, updS, updN, nI_eq, nI_leI, nI_ltI, nI_add, pk_mul, nN_e, nN_e', nN_l, nN_g, nN_le, nN_ge, ite_not, if_true, if_false, not_true_eq_false, not_false_eq_true, Nat.not_lt_zero, Nat.reduceEqDiff, Nat.reduceLT, Nat.reduceLeDiff, Nat.reduceAdd, Nat.zero_le, ite_self, reduceCtorEq, bI_t, bI_f, bI_z, bI_1, ok_bb]
  have := lp _ a (S.2.1 14) B rfl ha (by rw [e0]; exact h) k
  rw [e0] at this
  exact this
theorem e_spec {x : Nat} {Q : Unit → qSt → Prop} (hs : s < u) (hx : x ≤ 126) (h : MI S len tx p u B) (k : ∀ S', FrQ S S' → S'.1 = S.1 → MI S' len tx p u (escB B s x) → Q () S') : okS (f_Md_includeSpecial (nI s) (nI x)) S Q := by
  unfold f_Md_includeSpecial
  unfold escB at k
  by_cases h1 : x = 100
  · rw [if_pos h1] at k
    simp (disch := omega) only [n_lit, n_m1, ok_S, ok_s, ok_N, ok_n, ↓ok_if, ok_A, ok_a, ok_L, ok_l, ok_zn0, ok_zn1, ok_f2, ok_pure, ok_rI, ok_bn0, ok_bn1, ok_rt, ok_riI, ok_rn0, ok_rn1, ok_go, nx_l, nx_r, sS_s, sS_n, sS_a, sS_l, sS_k, aS_s, aS_n, aS_1, aS_l, aS_k, lS_l, lS_1, lS_a, lS_k, nS_s, nS_n, nS_1, nS_a, nS_l, updS, updN, nI_eq, nI_leI, nI_ltI, nI_add, pk_mul, nN_e, nN_e', nN_l, nN_g, nN_le, nN_ge, ite_not, if_true, if_false, not_true_eq_false, not_false_eq_true, Nat.not_lt_zero, Nat.reduceEqDiff, Nat.reduceLT, Nat.reduceLeDiff, Nat.reduceAdd, Nat.zero_le, ite_self, reduceCtorEq, bI_t, bI_f, bI_z, bI_1, ok_bb, if_pos, if_neg, h1]
    unfold k_Md_includeSpecial_12
    simp (disch := omega) only [n_lit, n_m1, ok_S, ok_s, ok_N, ok_n, ↓ok_if, ok_A, ok_a, ok_L, ok_l, ok_zn0, ok_zn1, ok_f2, ok_pure, ok_rI, ok_bn0, ok_bn1, ok_rt, ok_riI, ok_rn0, ok_rn1, ok_go, nx_l, nx_r, sS_s, sS_n, sS_a, sS_l, sS_k, aS_s, aS_n, aS_1, aS_l, aS_k, lS_l, lS_1, lS_a, lS_k, nS_s, nS_n, nS_1, nS_a, nS_l, updS, updN, nI_eq, nI_leI, nI_ltI, nI_add, pk_mul, nN_e, nN_e', nN_l, nN_g, nN_le, nN_ge, ite_not, if_true, if_false, not_true_eq_false, not_false_eq_true, Nat.not_lt_zero, Nat.reduceEqDiff, Nat.reduceLT, Nat.reduceLeDiff, Nat.reduceAdd, Nat.zero_le, ite_self, reduceCtorEq, bI_t, bI_f, bI_z, bI_1, ok_bb]
    refine ok_C (e_incl hs (by omega) (by omega) h fun l hl => ?_)
    unfold k_Md_includeSpecial_21
    simp (disch := omega) only [n_lit, n_m1, ok_S, ok_s, ok_N, ok_n, ↓ok_if, ok_A, ok_a, ok_L, ok_l, ok_zn0, ok_zn1, ok_f2, ok_pure, ok_rI, ok_bn0, ok_bn1, ok_rt, ok_riI, ok_rn0, ok_rn1, ok_go, nx_l, nx_r, sS_s, sS_n, sS_a, sS_l, sS_k, aS_s, aS_n, aS_1, aS_l, aS_k, lS_l, lS_1, lS_a, lS_k, nS_s, nS_n, nS_1, nS_a, nS_l, updS, updN, nI_eq, nI_leI, nI_ltI, nI_add, pk_mul, nN_e, nN_e', nN_l, nN_g, nN_le, nN_ge, ite_not, if_true, if_false, not_true_eq_false, not_false_eq_true, Nat.not_lt_zero, Nat.reduceEqDiff, Nat.reduceLT, Nat.reduceLeDiff, Nat.reduceAdd, Nat.zero_le, ite_self, reduceCtorEq, bI_t, bI_f, bI_z, bI_1, ok_bb, if_pos, if_neg]
    unfold k_Md_includeSpecial_54
    simp (disch := omega) only [n_lit, n_m1, ok_S, ok_s, ok_N, ok_n, ↓ok_if, ok_A, ok_a, ok_L, ok_l, ok_zn0, ok_zn1, ok_f2, ok_pure, ok_rI, ok_bn0, ok_bn1, ok_rt, ok_riI, ok_rn0, ok_rn1, ok_go, nx_l, nx_r, sS_s, sS_n, sS_a, sS_l, sS_k, aS_s, aS_n, aS_1, aS_l, aS_k, lS_l, lS_1, lS_a, lS_k, nS_s, nS_n, nS_1, nS_a, nS_l, updS, updN, nI_eq, nI_leI, nI_ltI, nI_add, pk_mul, nN_e, nN_e', nN_l, nN_g, nN_le, nN_ge, ite_not, if_true, if_false, not_true_eq_false, not_false_eq_true, Nat.not_lt_zero, Nat.reduceEqDiff, Nat.reduceLT, Nat.reduceLeDiff, Nat.reduceAdd, Nat.zero_le, ite_self, reduceCtorEq, bI_t, bI_f, bI_z, bI_1, ok_bb, if_pos, if_neg]
    exact k _ (FrQ_a _ _) rfl hl
  rw [if_neg h1] at k
  by_cases h2 : x = 119
  · rw [if_pos h2] at k
    simp (disch := omega) only [n_lit, n_m1, ok_S, ok_s, ok_N, ok_n, ↓ok_if, ok_A, ok_a, ok_L, ok_l, ok_zn0, ok_zn1, ok_f2, ok_pure, ok_rI, ok_bn0, ok_bn1, ok_rt, ok_riI, ok_rn0, ok_rn1, ok_go, nx_l, nx_r, sS_s, sS_n, sS_a, sS_l, sS_k, aS_s, aS_n, aS_1, aS_l, aS_k, lS_l, lS_1, lS_a, lS_k, nS_s, nS_n, nS_1, nS_a, nS_l, updS, updN, nI_eq, nI_leI, nI_ltI, nI_add, pk_mul, nN_e, nN_e', nN_l, nN_g, nN_le, nN_ge, ite_not, if_true, if_false, not_true_eq_false, not_false_eq_true, Nat.not_lt_zero, Nat.reduceEqDiff, Nat.reduceLT, Nat.reduceLeDiff, Nat.reduceAdd, Nat.zero_le, ite_self, reduceCtorEq, bI_t, bI_f, bI_z, bI_1, ok_bb, if_pos, if_neg, h2]
    unfold k_Md_includeSpecial_12
    simp (disch := omega) only [n_lit, n_m1, ok_S, ok_s, ok_N, ok_n, ↓ok_if, ok_A, ok_a, ok_L, ok_l, ok_zn0, ok_zn1, ok_f2, ok_pure, ok_rI, ok_bn0, ok_bn1, ok_rt, ok_riI, ok_rn0, ok_rn1, ok_go, nx_l, nx_r, sS_s, sS_n, sS_a, sS_l, sS_k, aS_s, aS_n, aS_1, aS_l, aS_k, lS_l, lS_1, lS_a, lS_k, nS_s, nS_n, nS_1, nS_a, nS_l, updS, updN, nI_eq, nI_leI, nI_ltI, nI_add, pk_mul, nN_e, nN_e', nN_l, nN_g, nN_le, nN_ge, ite_not, if_true, if_false, not_true_eq_false, not_false_eq_true, Nat.not_lt_zero, Nat.reduceEqDiff, Nat.reduceLT, Nat.reduceLeDiff, Nat.reduceAdd, Nat.zero_le, ite_self, reduceCtorEq, bI_t, bI_f, bI_z, bI_1, ok_bb]
    refine ok_C (e_incl hs (by omega) (by omega) h fun l hl => ?_)
    unfold k_Md_includeSpecial_21
    simp (disch := omega) only [n_lit, n_m1, ok_S, ok_s, ok_N, ok_n, ↓ok_if, ok_A, ok_a, ok_L, ok_l, ok_zn0, ok_zn1, ok_f2, ok_pure, ok_rI, ok_bn0, ok_bn1, ok_rt, ok_riI, ok_rn0, ok_rn1, ok_go, nx_l, nx_r, sS_s, sS_n, sS_a, sS_l, sS_k, aS_s, aS_n, aS_1, aS_l, aS_k, lS_l, lS_1, lS_a, lS_k, nS_s, nS_n, nS_1, nS_a, nS_l, updS, updN, nI_eq, nI_leI, nI_ltI, nI_add, pk_mul, nN_e, nN_e', nN_l, nN_g, nN_le, nN_ge, ite_not, if_true, if_false, not_true_eq_false, not_false_eq_true, Nat.not_lt_zero, Nat.reduceEqDiff, Nat.reduceLT, Nat.reduceLeDiff, Nat.reduceAdd, Nat.zero_le, ite_self, reduceCtorEq, bI_t, bI_f, bI_z, bI_1, ok_bb, if_pos, if_neg]
    refine ok_C (e_incl hs (by omega) (by omega) hl fun l hl => ?_)
    refine ok_C (e_incl hs (by omega) (by omega) hl fun l hl => ?_)
    refine ok_C (e_incl hs (by omega) (by omega) hl fun l hl => ?_)
    unfold k_Md_includeSpecial_54
    simp (disch := omega) only [n_lit, n_m1, ok_S, ok_s, ok_N, ok_n, ↓ok_if, ok_A, ok_a, ok_L, ok_l, ok_zn0, ok_zn1, ok_f2, ok_pure, ok_rI, ok_bn0, ok_bn1, ok_rt, ok_riI, ok_rn0, ok_rn1, ok_go, nx_l, nx_r, sS_s, sS_n, sS_a, sS_l, sS_k, aS_s, aS_n, aS_1, aS_l, aS_k, lS_l, lS_1, lS_a, lS_k, nS_s, nS_n, nS_1, nS_a, nS_l, updS, updN, nI_eq, nI_leI, nI_ltI, nI_add, pk_mul, nN_e, nN_e', nN_l, nN_g, nN_le, nN_ge, ite_not, if_true, if_false, not_true_eq_false, not_false_eq_true, Nat.not_lt_zero, Nat.reduceEqDiff, Nat.reduceLT, Nat.reduceLeDiff, Nat.reduceAdd, Nat.zero_le, ite_self, reduceCtorEq, bI_t, bI_f, bI_z, bI_1, ok_bb, if_pos, if_neg]
    refine k _ (FrQ_tr (FrQ_a _ _) (FrQ_tr (FrQ_a _ _) (FrQ_tr (FrQ_a _ _) (FrQ_a _ _)))) rfl ?_
    rw [adR_comm (a := 48), adR_comm (a := 48)] at hl
    exact hl
  rw [if_neg h2] at k
  simp (disch := omega) only [n_lit, n_m1, ok_S, ok_s, ok_N, ok_n, ↓ok_if, ok_A, ok_a, ok_L, ok_l, ok_zn0, ok_zn1, ok_f2, ok_pure, ok_rI, ok_bn0, ok_bn1, ok_rt, ok_riI, ok_rn0, ok_rn1, ok_go, nx_l, nx_r, sS_s, sS_n, sS_a, sS_l, sS_k, aS_s, aS_n, aS_1, aS_l, aS_k, lS_l, lS_1, lS_a, lS_k, nS_s, nS_n, nS_1, nS_a, nS_l, updS, updN, nI_eq, nI_leI, nI_ltI, nI_add, pk_mul, nN_e, nN_e', nN_l, nN_g, nN_le, nN_ge, ite_not, if_true, if_false, not_true_eq_false, not_false_eq_true, Nat.not_lt_zero, Nat.reduceEqDiff, Nat.reduceLT, Nat.reduceLeDiff, Nat.reduceAdd, Nat.zero_le, ite_self, reduceCtorEq, bI_t, bI_f, bI_z, bI_1, ok_bb, if_pos, if_neg, h1, h2]
  unfold k_Md_includeSpecial_21
  simp (disch := omega) only [n_lit, n_m1, ok_S, ok_s, ok_N, ok_n, ↓ok_if, ok_A, ok_a, ok_L, ok_l, ok_zn0, ok_zn1, ok_f2, ok_pure, ok_rI, ok_bn0, ok_bn1, ok_rt, ok_riI, ok_rn0, ok_rn1, ok_go, nx_l, nx_r, sS_s, sS_n, sS_a, sS_l, sS_k, aS_s, aS_n, aS_1, aS_l, aS_k, lS_l, lS_1, lS_a, lS_k, nS_s, nS_n, nS_1, nS_a, nS_l, updS, updN, nI_eq, nI_leI, nI_ltI, nI_add, pk_mul, nN_e, nN_e', nN_l, nN_g, nN_le, nN_ge, ite_not, if_true, if_false, not_true_eq_false, not_false_eq_true, Nat.not_lt_zero, Nat.reduceEqDiff, Nat.reduceLT, Nat.reduceLeDiff, Nat.reduceAdd, Nat.zero_le, ite_self, reduceCtorEq, bI_t, bI_f, bI_z, bI_1, ok_bb, if_pos, if_neg, h2]
  unfold k_Md_includeSpecial_54
  simp (disch := omega) only [n_lit, n_m1, ok_S, ok_s, ok_N, ok_n, ↓ok_if, ok_A, ok_a, ok_L, ok_l, ok_zn0, ok_zn1, ok_f2, ok_pure, ok_rI, ok_bn0, ok_bn1, ok_rt, ok_riI, ok_rn0, ok_rn1, ok_go, nx_l, nx_r, sS_s, sS_n, sS_a, sS_l, sS_k, aS_s, aS_n, aS_1, aS_l, aS_k, lS_l, lS_1, lS_a, lS_k, nS_s, nS_n, nS_1, nS_a, nS_l, updS, updN, nI_eq, nI_leI, nI_ltI, nI_add, pk_mul, nN_e, nN_e', nN_l, nN_g, nN_le, nN_ge, ite_not, if_true, if_false, not_true_eq_false, not_false_eq_true, Nat.not_lt_zero, Nat.reduceEqDiff, Nat.reduceLT, Nat.reduceLeDiff, Nat.reduceAdd, Nat.zero_le, ite_self, reduceCtorEq, bI_t, bI_f, bI_z, bI_1, ok_bb, if_pos, if_neg, h1, h2]
  refine ok_C (e_incl hs (by omega) (by omega) h fun l hl => ?_)
  simp (disch := omega) only [n_lit, n_m1, ok_S, ok_s, ok_N, ok_n, ↓ok_if, ok_A, ok_a, ok_L, ok_l, ok_zn0, ok_zn1, ok_f2, ok_pure, ok_rI, ok_bn0, ok_bn1, ok_rt, ok_riI, ok_rn0, ok_rn1, ok_go, nx_l, nx_r, sS_s, sS_n, sS_a, sS_l, sS_k, aS_s, aS_n, aS_1, aS_l, aS_k, lS_l, lS_1, lS_a, lS_k, nS_s, nS_n, nS_1, nS_a, nS_l, updS, updN, nI_eq, nI_leI, nI_ltI, nI_add, pk_mul, nN_e, nN_e', nN_l, nN_g, nN_le, nN_ge, ite_not, if_true, if_false, not_true_eq_false, not_false_eq_true, Nat.not_lt_zero, Nat.reduceEqDiff, Nat.reduceLT, Nat.reduceLeDiff, Nat.reduceAdd, Nat.zero_le, ite_self, reduceCtorEq, bI_t, bI_f, bI_z, bI_1, ok_bb]
  exact k _ (FrQ_a _ _) rfl hl
theorem e_isItM {x : Nat} {Q : Int32 → qSt → Prop} (hx : x ≤ 126) (k : Q (bI (isIt x)) S) : okS (f_Md_isItem (nI x)) S Q := by
  have hk : Q (bI (isIt x)) S = if (x = 0 ∨ x = 93 ∨ x = 91 ∨ x = 92 ∨ x = 45 ∨ x = 94) then Q (nI 0) S else Q (nI 1) S := by
    by_cases g : (x = 0 ∨ x = 93 ∨ x = 91 ∨ x = 92 ∨ x = 45 ∨ x = 94)
    · rw [if_pos g]
      have : isIt x = false := by
        unfold isIt
        simp only [Bool.not_eq_false', Bool.or_eq_true, beq_iff_eq]
        omega
      rw [this, bI_f]
    · rw [if_neg g]
      have : isIt x = true := by
        unfold isIt
        simp only [Bool.not_eq_true', Bool.or_eq_false_iff, beq_eq_false_iff_ne]
        omega
      rw [this, bI_t]
  rw [hk] at k
  clear hk
  unfold f_Md_isItem
  repeat' (rw [ok_if]; split)
  all_goals
    simp (disch := omega) only [n_lit, n_m1, nI_eq, nI_leI, ok_bn0, ok_bn1] at *
    first
      | (rw [if_pos (by omega)] at k; exact k)
      | (rw [if_neg (by omega)] at k; exact k)
theorem e_m230 {iv : Bool} (hs : s < u) (hp : p ≤ 200) (h : MI S len tx p u B) : okS (k_Md_readSet_230 (nI s) (bI iv)) S (nxS b_Md_readSet (fun v S' => PoM u S (.inr (p + 1, if iv = true then nvB B s else B)) v S')) := by
  have hu := h.2.2.1
  unfold k_Md_readSet_230
  simp (disch := omega) only [n_lit, n_m1, ok_S, ok_s, ok_N, ok_n, ↓ok_if, ok_A, ok_a, ok_L, ok_l, ok_zn0, ok_zn1, ok_f2, ok_pure, ok_rI, ok_bn0, ok_bn1, ok_rt, ok_riI, ok_rn0, ok_rn1, ok_go, nx_l, nx_r, sS_s, sS_n, sS_a, sS_l, sS_k, aS_s, aS_n, aS_1, aS_l, aS_k, lS_l, lS_1, lS_a, lS_k, nS_s, nS_n, nS_1, nS_a, nS_l, updS, updN, nI_eq, nI_leI, nI_ltI, nI_add, pk_mul, nN_e, nN_e', nN_l, nN_g, nN_le, nN_ge, ite_not, if_true, if_false, not_true_eq_false, not_false_eq_true, Nat.not_lt_zero, Nat.reduceEqDiff, Nat.reduceLT, Nat.reduceLeDiff, Nat.reduceAdd, Nat.zero_le, ite_self, reduceCtorEq, bI_t, bI_f, bI_z, bI_1, ok_bb, if_pos, if_neg, h.2.1]
  have h2 := @MI_at S len p (p + 1) u tx B h
  generalize hS : sS S 14 (nI (p + 1)) = S2 at h2
  have hF : FrQ S S2 := by rw [← hS]; exact FrQ_s _ _
  have h14 : S2.1 14 = nI (p + 1) := h2.2.1
  cases iv with
  | false =>
    refine ok_fix ?_
    show okS (k_Md_readSet_243 (nI s) (nI 0) (nI 0)) S2 _
    unfold k_Md_readSet_243
    simp (disch := omega) only [n_lit, n_m1, ok_S, ok_s, ok_N, ok_n, ↓ok_if, ok_A, ok_a, ok_L, ok_l, ok_zn0, ok_zn1, ok_f2, ok_pure, ok_rI, ok_bn0, ok_bn1, ok_rt, ok_riI, ok_rn0, ok_rn1, ok_go, nx_l, nx_r, sS_s, sS_n, sS_a, sS_l, sS_k, aS_s, aS_n, aS_1, aS_l, aS_k, lS_l, lS_1, lS_a, lS_k, nS_s, nS_n, nS_1, nS_a, nS_l, updS, updN, nI_eq, nI_leI, nI_ltI, nI_add, pk_mul, nN_e, nN_e', nN_l, nN_g, nN_le, nN_ge, ite_not, if_true, if_false, not_true_eq_false, not_false_eq_true, Nat.not_lt_zero, Nat.reduceEqDiff, Nat.reduceLT, Nat.reduceLeDiff, Nat.reduceAdd, Nat.zero_le, ite_self, reduceCtorEq, bI_t, bI_f, bI_z, bI_1, ok_bb, if_pos, if_neg]
    exact ⟨hF, rfl, h14, h2.2.2.2⟩
  | true =>
    have lp : ∀ d v (l : Nat → Int32), v + d = 8 → (∀ i, i / 8 ≠ s ∨ v ≤ i % 8 → l i = S2.2.1 14 i) → (∀ i, i / 8 = s → i % 8 < v → l i = S2.2.1 14 i ^^^ nN) → okS (w_fix b_Md_readSet (243, [.int (nI s), .int (nI 1), .int (nI v)], [])) (aS S2 14 l) (fun v S' => PoM u S (.inr (p + 1, nvB B s)) v S') := by
      intro d
      induction d with
      | zero =>
        intro v l hd h3 h4
        refine ok_fix ?_
        show okS (k_Md_readSet_243 (nI s) (nI 1) (nI v)) _ _
        unfold k_Md_readSet_243
        simp (disch := omega) only [n_lit, n_m1, ok_S, ok_s, ok_N, ok_n, ↓ok_if, ok_A, ok_a, ok_L, ok_l, ok_zn0, ok_zn1, ok_f2, ok_pure, ok_rI, ok_bn0, ok_bn1, ok_rt, ok_riI, ok_rn0, ok_rn1, ok_go, nx_l, nx_r, sS_s, sS_n, sS_a, sS_l, sS_k, aS_s, aS_n, aS_1, aS_l, aS_k, lS_l, lS_1, lS_a, lS_k, nS_s, nS_n, nS_1, nS_a, nS_l, updS, updN, nI_eq, nI_leI, nI_ltI, nI_add, pk_mul, nN_e, nN_e', nN_l, nN_g, nN_le, nN_ge, ite_not, if_true, if_false, not_true_eq_false, not_false_eq_true, Nat.not_lt_zero, Nat.reduceEqDiff, Nat.reduceLT, Nat.reduceLeDiff, Nat.reduceAdd, Nat.zero_le, ite_self, reduceCtorEq, bI_t, bI_f, bI_z, bI_1, ok_bb, if_pos, if_neg]
        refine ⟨FrQ_tr (FrQ_a _ _) hF, rfl, h14, ?_⟩
        rw [aS_s]
        intro s' c' h5 h6
        have h7 := h2.2.2.2 s' c' h5 h6
        unfold mB at h7 ⊢
        unfold nvB
        by_cases e : s' = s
        · rw [h4 _ (by omega) (by omega), ib_not (by omega), h7, if_pos e]
        · rw [h3 _ (by omega), h7, if_neg e]
      | succ d ih =>
        intro v l hd h3 h4
        refine ok_fix ?_
        show okS (k_Md_readSet_243 (nI s) (nI 1) (nI v)) _ _
        unfold k_Md_readSet_243
        simp (disch := omega) only [n_lit, n_m1, ok_S, ok_s, ok_N, ok_n, ↓ok_if, ok_A, ok_a, ok_L, ok_l, ok_zn0, ok_zn1, ok_f2, ok_pure, ok_rI, ok_bn0, ok_bn1, ok_rt, ok_riI, ok_rn0, ok_rn1, ok_go, nx_l, nx_r, sS_s, sS_n, sS_a, sS_l, sS_k, aS_s, aS_n, aS_1, aS_l, aS_k, lS_l, lS_1, lS_a, lS_k, nS_s, nS_n, nS_1, nS_a, nS_l, updS, updN, nI_eq, nI_leI, nI_ltI, nI_add, pk_mul, nN_e, nN_e', nN_l, nN_g, nN_le, nN_ge, ite_not, if_true, if_false, not_true_eq_false, not_false_eq_true, Nat.not_lt_zero, Nat.reduceEqDiff, Nat.reduceLT, Nat.reduceLeDiff, Nat.reduceAdd, Nat.zero_le, ite_self, reduceCtorEq, bI_t, bI_f, bI_z, bI_1, ok_bb, if_pos, if_neg]
        have e : aS (aS S2 14 l) 14 (upd l (8 * s + v) (l (8 * s + v) ^^^ nN)) = aS S2 14 (upd l (8 * s + v) (l (8 * s + v) ^^^ nN)) := by
          unfold aS
          refine Prod.ext rfl (Prod.ext ?_ rfl)
          funext f
          unfold va_up
          by_cases q : f = 14
          · simp [q]
          · simp [q]
        rw [e]
        refine ih (v + 1) _ (by omega) ?_ ?_
        · intro i hi
          rw [updN (by omega)]
          exact h3 i (by omega)
        · intro i hi hj
          by_cases e : i = 8 * s + v
          · rw [e, updS, h3 _ (by omega)]
          · rw [updN e]
            exact h4 i hi (by omega)
    have e0 : aS S2 14 (S2.2.1 14) = S2 := by
      unfold aS
      refine Prod.ext rfl (Prod.ext ?_ rfl)
      funext f
      unfold va_up
      by_cases q : f = 14
      · simp [q]
      · simp [q]
    have := lp 8 0 (S2.2.1 14) rfl (fun _ _ => rfl) (fun i _ hj => by omega)
    rw [e0] at this
    rw [if_pos rfl]
    exact this
theorem e_m42 {iv : Bool} (hs : s < u) : ∀ (f p v : Nat) (S : qSt) (B : MBf), MI S len tx p u B → v < p → p ≤ 48 → 50 ≤ p + f → (v ≠ 0 → pe len tx p ≠ 93) → okS (w_fix b_Md_readSet (42, [.int (nI s), .int (bI iv), .int (nI v)], [])) S (fun x S2 => PoM u S (match sItems (pe len tx) s f p B with
    | .inl e => .inl e
    | .inr (q, B') => .inr (q, if iv = true then nvB B' s else B')) x S2) := by
  intro f
  induction f with
  | zero => intro p v S B h h1 h2 h3; omega
  | succ f ih =>
    intro p v S B h h1 h2 h3 hv
    have hb := @pm_le S len p tx h.1
    refine ok_fix ?_
    show okS (k_Md_readSet_42 (nI s) (bI iv) (nI v)) S _
    have e65 : okS (k_Md_readSet_65 (nI s) (bI iv) (nI v)) S (nxS b_Md_readSet (fun x S2 => PoM u S (match sItems (pe len tx) s (f + 1) p B with
        | .inl e => .inl e
        | .inr (q, B') => .inr (q, if iv = true then nvB B' s else B')) x S2)) → okS (k_Md_readSet_42 (nI s) (bI iv) (nI v)) S (nxS b_Md_readSet (fun x S2 => PoM u S (match sItems (pe len tx) s (f + 1) p B with
        | .inl e => .inl e
        | .inr (q, B') => .inr (q, if iv = true then nvB B' s else B')) x S2)) := by
      intro g
      unfold k_Md_readSet_42
      simp (disch := omega) only [n_lit, n_m1, ok_S, ok_s, ok_N, ok_n, ↓ok_if, ok_A, ok_a, ok_L, ok_l, ok_zn0, ok_zn1, ok_f2, ok_pure, ok_rI, ok_bn0, ok_bn1, ok_rt, ok_riI, ok_rn0, ok_rn1, ok_go, nx_l, nx_r, sS_s, sS_n, sS_a, sS_l, sS_k, aS_s, aS_n, aS_1, aS_l, aS_k, lS_l, lS_1, lS_a, lS_k, nS_s, nS_n, nS_1, nS_a, nS_l, updS, updN, nI_eq, nI_leI, nI_ltI, nI_add, pk_mul, nN_e, nN_e', nN_l, nN_g, nN_le, nN_ge, ite_not, if_true, if_false, not_true_eq_false, not_false_eq_true, Nat.not_lt_zero, Nat.reduceEqDiff, Nat.reduceLT, Nat.reduceLeDiff, Nat.reduceAdd, Nat.zero_le, ite_self, reduceCtorEq, bI_t, bI_f, bI_z, bI_1, ok_bb, if_pos, if_neg, h.2.1]
      refine ok_C (e_hereR h.1 (by omega) ?_)
      by_cases h9 : pe len tx p = 93
      · have : v = 0 := Classical.byContradiction (fun q => hv q h9)
        subst this
        simp (disch := omega) only [n_lit, n_m1, ok_S, ok_s, ok_N, ok_n, ↓ok_if, ok_A, ok_a, ok_L, ok_l, ok_zn0, ok_zn1, ok_f2, ok_pure, ok_rI, ok_bn0, ok_bn1, ok_rt, ok_riI, ok_rn0, ok_rn1, ok_go, nx_l, nx_r, sS_s, sS_n, sS_a, sS_l, sS_k, aS_s, aS_n, aS_1, aS_l, aS_k, lS_l, lS_1, lS_a, lS_k, nS_s, nS_n, nS_1, nS_a, nS_l, updS, updN, nI_eq, nI_leI, nI_ltI, nI_add, pk_mul, nN_e, nN_e', nN_l, nN_g, nN_le, nN_ge, ite_not, if_true, if_false, not_true_eq_false, not_false_eq_true, Nat.not_lt_zero, Nat.reduceEqDiff, Nat.reduceLT, Nat.reduceLeDiff, Nat.reduceAdd, Nat.zero_le, ite_self, reduceCtorEq, bI_t, bI_f, bI_z, bI_1, ok_bb, if_pos, if_neg, h9]
        exact g
      · simp (disch := omega) only [n_lit, n_m1, ok_S, ok_s, ok_N, ok_n, ↓ok_if, ok_A, ok_a, ok_L, ok_l, ok_zn0, ok_zn1, ok_f2, ok_pure, ok_rI, ok_bn0, ok_bn1, ok_rt, ok_riI, ok_rn0, ok_rn1, ok_go, nx_l, nx_r, sS_s, sS_n, sS_a, sS_l, sS_k, aS_s, aS_n, aS_1, aS_l, aS_k, lS_l, lS_1, lS_a, lS_k, nS_s, nS_n, nS_1, nS_a, nS_l, updS, updN, nI_eq, nI_leI, nI_ltI, nI_add, pk_mul, nN_e, nN_e', nN_l, nN_g, nN_le, nN_ge, ite_not, if_true, if_false, not_true_eq_false, not_false_eq_true, Nat.not_lt_zero, Nat.reduceEqDiff, Nat.reduceLT, Nat.reduceLeDiff, Nat.reduceAdd, Nat.zero_le, ite_self, reduceCtorEq, bI_t, bI_f, bI_z, bI_1, ok_bb, if_pos, if_neg, h9]
        exact g
    refine e65 ?_
    clear e65
    -- after an item
    have aft : ∀ q B' S1, p < q → q ≤ 48 → MI S1 len tx q u B' → FrQ S S1 → okS (w_fix b_Md_readSet (42, [.int (nI s), .int (bI iv), .int (nI (v + 1))], [])) S1 (fun x S2 => PoM u S (match (if pe len tx q = 93 then (.inr (q + 1, B') : Nat ⊕ (Nat × MBf)) else sItems (pe len tx) s f q B') with
        | .inl e => .inl e
        | .inr (q, B') => .inr (q, if iv = true then nvB B' s else B')) x S2) := by
      intro q B' S1 hq1 hq2 hM hF
      by_cases h9 : pe len tx q = 93
      · rw [if_pos h9]
        refine ok_fix ?_
        show okS (k_Md_readSet_42 (nI s) (bI iv) (nI (v + 1))) S1 _
        unfold k_Md_readSet_42
        simp (disch := omega) only [n_lit, n_m1, ok_S, ok_s, ok_N, ok_n, ↓ok_if, ok_A, ok_a, ok_L, ok_l, ok_zn0, ok_zn1, ok_f2, ok_pure, ok_rI, ok_bn0, ok_bn1, ok_rt, ok_riI, ok_rn0, ok_rn1, ok_go, nx_l, nx_r, sS_s, sS_n, sS_a, sS_l, sS_k, aS_s, aS_n, aS_1, aS_l, aS_k, lS_l, lS_1, lS_a, lS_k, nS_s, nS_n, nS_1, nS_a, nS_l, updS, updN, nI_eq, nI_leI, nI_ltI, nI_add, pk_mul, nN_e, nN_e', nN_l, nN_g, nN_le, nN_ge, ite_not, if_true, if_false, not_true_eq_false, not_false_eq_true, Nat.not_lt_zero, Nat.reduceEqDiff, Nat.reduceLT, Nat.reduceLeDiff, Nat.reduceAdd, Nat.zero_le, ite_self, reduceCtorEq, bI_t, bI_f, bI_z, bI_1, ok_bb, if_pos, if_neg, hM.2.1]
        refine ok_C (e_hereR hM.1 (by omega) ?_)
        simp (disch := omega) only [n_lit, n_m1, ok_S, ok_s, ok_N, ok_n, ↓ok_if, ok_A, ok_a, ok_L, ok_l, ok_zn0, ok_zn1, ok_f2, ok_pure, ok_rI, ok_bn0, ok_bn1, ok_rt, ok_riI, ok_rn0, ok_rn1, ok_go, nx_l, nx_r, sS_s, sS_n, sS_a, sS_l, sS_k, aS_s, aS_n, aS_1, aS_l, aS_k, lS_l, lS_1, lS_a, lS_k, nS_s, nS_n, nS_1, nS_a, nS_l, updS, updN, nI_eq, nI_leI, nI_ltI, nI_add, pk_mul, nN_e, nN_e', nN_l, nN_g, nN_le, nN_ge, ite_not, if_true, if_false, not_true_eq_false, not_false_eq_true, Nat.not_lt_zero, Nat.reduceEqDiff, Nat.reduceLT, Nat.reduceLeDiff, Nat.reduceAdd, Nat.zero_le, ite_self, reduceCtorEq, bI_t, bI_f, bI_z, bI_1, ok_bb, if_pos, if_neg, h9]
        refine ok_mono (e_m230 hs (by omega) hM) ?_
        intro x S2 k
        cases x with
        | inl y =>
          rw [nx_l] at k ⊢
          refine ok_mono k ?_
          intro _ S3 k
          exact PoM_fr k hF
        | inr y =>
          rw [nx_r] at k ⊢
          exact PoM_fr k hF
      · rw [if_neg h9]
        refine ok_mono (ih q (v + 1) S1 B' hM (by omega) hq2 (by omega) (fun _ => h9)) ?_
        intro x S2 k
        exact PoM_fr k hF
    unfold k_Md_readSet_65
    simp (disch := omega) only [n_lit, n_m1, ok_S, ok_s, ok_N, ok_n, ↓ok_if, ok_A, ok_a, ok_L, ok_l, ok_zn0, ok_zn1, ok_f2, ok_pure, ok_rI, ok_bn0, ok_bn1, ok_rt, ok_riI, ok_rn0, ok_rn1, ok_go, nx_l, nx_r, sS_s, sS_n, sS_a, sS_l, sS_k, aS_s, aS_n, aS_1, aS_l, aS_k, lS_l, lS_1, lS_a, lS_k, nS_s, nS_n, nS_1, nS_a, nS_l, updS, updN, nI_eq, nI_leI, nI_ltI, nI_add, pk_mul, nN_e, nN_e', nN_l, nN_g, nN_le, nN_ge, ite_not, if_true, if_false, not_true_eq_false, not_false_eq_true, Nat.not_lt_zero, Nat.reduceEqDiff, Nat.reduceLT, Nat.reduceLeDiff, Nat.reduceAdd, Nat.zero_le, ite_self, reduceCtorEq, bI_t, bI_f, bI_z, bI_1, ok_bb, if_pos, if_neg, h.2.1]
    refine ok_C (e_hereR h.1 (by omega) ?_)
    unfold sItems
    by_cases h0 : pe len tx p = 92
    · simp (disch := omega) only [n_lit, n_m1, ok_S, ok_s, ok_N, ok_n, ↓ok_if, ok_A, ok_a, ok_L, ok_l, ok_zn0, ok_zn1, ok_f2, ok_pure, ok_rI, ok_bn0, ok_bn1, ok_rt, ok_riI, ok_rn0, ok_rn1, ok_go, nx_l, nx_r, sS_s, sS_n, sS_a, sS_l, sS_k, aS_s, aS_n, aS_1, aS_l, aS_k, lS_l, lS_1, lS_a, lS_k, nS_s, nS_n, nS_1, nS_a, nS_l, updS, updN, nI_eq, nI_leI, nI_ltI, nI_add, pk_mul, nN_e, nN_e', nN_l, nN_g, nN_le, nN_ge, ite_not, if_true, if_false, not_true_eq_false, not_false_eq_true, Nat.not_lt_zero, Nat.reduceEqDiff, Nat.reduceLT, Nat.reduceLeDiff, Nat.reduceAdd, Nat.zero_le, ite_self, reduceCtorEq, bI_t, bI_f, bI_z, bI_1, ok_bb, if_pos, if_neg, h0, h.2.1]
      have h4 := @MI_at S len p (p + 1) u tx B h
      refine ok_C (e_hereR h4.1 (by omega) ?_)
      have hb4 := @pm_le S len (p + 1) tx h.1
      have ei : sItem (pe len tx) s p B = sEsc (pe len tx) s (p + 1) B := by
        unfold sItem
        rw [if_pos h0]
      rw [ei]
      unfold sEsc
      by_cases h5 : pe len tx (p + 1) = 0
      · rw [if_pos h5]
        simp (disch := omega) only [n_lit, n_m1, ok_S, ok_s, ok_N, ok_n, ↓ok_if, ok_A, ok_a, ok_L, ok_l, ok_zn0, ok_zn1, ok_f2, ok_pure, ok_rI, ok_bn0, ok_bn1, ok_rt, ok_riI, ok_rn0, ok_rn1, ok_go, nx_l, nx_r, sS_s, sS_n, sS_a, sS_l, sS_k, aS_s, aS_n, aS_1, aS_l, aS_k, lS_l, lS_1, lS_a, lS_k, nS_s, nS_n, nS_1, nS_a, nS_l, updS, updN, nI_eq, nI_leI, nI_ltI, nI_add, pk_mul, nN_e, nN_e', nN_l, nN_g, nN_le, nN_ge, ite_not, if_true, if_false, not_true_eq_false, not_false_eq_true, Nat.not_lt_zero, Nat.reduceEqDiff, Nat.reduceLT, Nat.reduceLeDiff, Nat.reduceAdd, Nat.zero_le, ite_self, reduceCtorEq, bI_t, bI_f, bI_z, bI_1, ok_bb, if_pos, if_neg, h5]
        exact ⟨FrQ_s _ _, rfl, sS_s⟩
      · rw [if_neg h5]
        simp (disch := omega) only [n_lit, n_m1, ok_S, ok_s, ok_N, ok_n, ↓ok_if, ok_A, ok_a, ok_L, ok_l, ok_zn0, ok_zn1, ok_f2, ok_pure, ok_rI, ok_bn0, ok_bn1, ok_rt, ok_riI, ok_rn0, ok_rn1, ok_go, nx_l, nx_r, sS_s, sS_n, sS_a, sS_l, sS_k, aS_s, aS_n, aS_1, aS_l, aS_k, lS_l, lS_1, lS_a, lS_k, nS_s, nS_n, nS_1, nS_a, nS_l, updS, updN, nI_eq, nI_leI, nI_ltI, nI_add, pk_mul, nN_e, nN_e', nN_l, nN_g, nN_le, nN_ge, ite_not, if_true, if_false, not_true_eq_false, not_false_eq_true, Nat.not_lt_zero, Nat.reduceEqDiff, Nat.reduceLT, Nat.reduceLeDiff, Nat.reduceAdd, Nat.zero_le, ite_self, reduceCtorEq, bI_t, bI_f, bI_z, bI_1, ok_bb, if_pos, if_neg, h5]
        refine ok_C (e_hereR h4.1 (by omega) ?_)
        refine ok_C (e_spec hs hb4.1 h4 ?_)
        intro S1 hF1 hF2 hM1
        have e14 : S1.1 14 = nI (p + 1) := hM1.2.1
        simp (disch := omega) only [n_lit, n_m1, ok_S, ok_s, ok_N, ok_n, ↓ok_if, ok_A, ok_a, ok_L, ok_l, ok_zn0, ok_zn1, ok_f2, ok_pure, ok_rI, ok_bn0, ok_bn1, ok_rt, ok_riI, ok_rn0, ok_rn1, ok_go, nx_l, nx_r, sS_s, sS_n, sS_a, sS_l, sS_k, aS_s, aS_n, aS_1, aS_l, aS_k, lS_l, lS_1, lS_a, lS_k, nS_s, nS_n, nS_1, nS_a, nS_l, updS, updN, nI_eq, nI_leI, nI_ltI, nI_add, pk_mul, nN_e, nN_e', nN_l, nN_g, nN_le, nN_ge, ite_not, if_true, if_false, not_true_eq_false, not_false_eq_true, Nat.not_lt_zero, Nat.reduceEqDiff, Nat.reduceLT, Nat.reduceLeDiff, Nat.reduceAdd, Nat.zero_le, ite_self, reduceCtorEq, bI_t, bI_f, bI_z, bI_1, ok_bb, if_pos, if_neg, e14]
        have h6 := hb4.2 h5
        refine aft (p + 1 + 1) _ _ (by omega) (by omega) (MI_at hM1) (FrQ_tr (FrQ_s _ _) (FrQ_tr hF1 (FrQ_s _ _)))
    · simp (disch := omega) only [n_lit, n_m1, ok_S, ok_s, ok_N, ok_n, ↓ok_if, ok_A, ok_a, ok_L, ok_l, ok_zn0, ok_zn1, ok_f2, ok_pure, ok_rI, ok_bn0, ok_bn1, ok_rt, ok_riI, ok_rn0, ok_rn1, ok_go, nx_l, nx_r, sS_s, sS_n, sS_a, sS_l, sS_k, aS_s, aS_n, aS_1, aS_l, aS_k, lS_l, lS_1, lS_a, lS_k, nS_s, nS_n, nS_1, nS_a, nS_l, updS, updN, nI_eq, nI_leI, nI_ltI, nI_add, pk_mul, nN_e, nN_e', nN_l, nN_g, nN_le, nN_ge, ite_not, if_true, if_false, not_true_eq_false, not_false_eq_true, Nat.not_lt_zero, Nat.reduceEqDiff, Nat.reduceLT, Nat.reduceLeDiff, Nat.reduceAdd, Nat.zero_le, ite_self, reduceCtorEq, bI_t, bI_f, bI_z, bI_1, ok_bb, if_pos, if_neg, h0]
      refine ok_C (e_isItM hb.1 ?_)
      cases hi : isIt (pe len tx p) with
      | false =>
        have ei : sItem (pe len tx) s p B = .inl p := by
          unfold sItem
          rw [if_neg h0, if_pos hi]
        rw [ei]
        simp (disch := omega) only [n_lit, n_m1, ok_S, ok_s, ok_N, ok_n, ↓ok_if, ok_A, ok_a, ok_L, ok_l, ok_zn0, ok_zn1, ok_f2, ok_pure, ok_rI, ok_bn0, ok_bn1, ok_rt, ok_riI, ok_rn0, ok_rn1, ok_go, nx_l, nx_r, sS_s, sS_n, sS_a, sS_l, sS_k, aS_s, aS_n, aS_1, aS_l, aS_k, lS_l, lS_1, lS_a, lS_k, nS_s, nS_n, nS_1, nS_a, nS_l, updS, updN, nI_eq, nI_leI, nI_ltI, nI_add, pk_mul, nN_e, nN_e', nN_l, nN_g, nN_le, nN_ge, ite_not, if_true, if_false, not_true_eq_false, not_false_eq_true, Nat.not_lt_zero, Nat.reduceEqDiff, Nat.reduceLT, Nat.reduceLeDiff, Nat.reduceAdd, Nat.zero_le, ite_self, reduceCtorEq, bI_t, bI_f, bI_z, bI_1, ok_bb, if_pos, if_neg]
        exact ⟨FrQ_rf _, rfl, h.2.1⟩
      | true =>
        have h1' := isIt_0 hi
        have hp1 := (hb.2 h1').1
        have h4 := @MI_at S len p (p + 1) u tx B h
        have hb4 := (@pm_le S len (p + 1) tx h.1).1
        simp (disch := omega) only [n_lit, n_m1, ok_S, ok_s, ok_N, ok_n, ↓ok_if, ok_A, ok_a, ok_L, ok_l, ok_zn0, ok_zn1, ok_f2, ok_pure, ok_rI, ok_bn0, ok_bn1, ok_rt, ok_riI, ok_rn0, ok_rn1, ok_go, nx_l, nx_r, sS_s, sS_n, sS_a, sS_l, sS_k, aS_s, aS_n, aS_1, aS_l, aS_k, lS_l, lS_1, lS_a, lS_k, nS_s, nS_n, nS_1, nS_a, nS_l, updS, updN, nI_eq, nI_leI, nI_ltI, nI_add, pk_mul, nN_e, nN_e', nN_l, nN_g, nN_le, nN_ge, ite_not, if_true, if_false, not_true_eq_false, not_false_eq_true, Nat.not_lt_zero, Nat.reduceEqDiff, Nat.reduceLT, Nat.reduceLeDiff, Nat.reduceAdd, Nat.zero_le, ite_self, reduceCtorEq, bI_t, bI_f, bI_z, bI_1, ok_bb, if_pos, if_neg, h.2.1]
        refine ok_C (e_hereR h4.1 (by omega) ?_)
        by_cases h5 : pe len tx (p + 1) = 45
        · simp (disch := omega) only [n_lit, n_m1, ok_S, ok_s, ok_N, ok_n, ↓ok_if, ok_A, ok_a, ok_L, ok_l, ok_zn0, ok_zn1, ok_f2, ok_pure, ok_rI, ok_bn0, ok_bn1, ok_rt, ok_riI, ok_rn0, ok_rn1, ok_go, nx_l, nx_r, sS_s, sS_n, sS_a, sS_l, sS_k, aS_s, aS_n, aS_1, aS_l, aS_k, lS_l, lS_1, lS_a, lS_k, nS_s, nS_n, nS_1, nS_a, nS_l, updS, updN, nI_eq, nI_leI, nI_ltI, nI_add, pk_mul, nN_e, nN_e', nN_l, nN_g, nN_le, nN_ge, ite_not, if_true, if_false, not_true_eq_false, not_false_eq_true, Nat.not_lt_zero, Nat.reduceEqDiff, Nat.reduceLT, Nat.reduceLeDiff, Nat.reduceAdd, Nat.zero_le, ite_self, reduceCtorEq, bI_t, bI_f, bI_z, bI_1, ok_bb, if_pos, if_neg, h5]
          have h6 := @MI_at _ len (p + 1) (p + 1 + 1) u tx B h4
          refine ok_C (e_hereR h6.1 (by omega) ?_)
          have hb6 := @pm_le S len (p + 1 + 1) tx h.1
          refine ok_C (e_isItM hb6.1 ?_)
          cases hj : isIt (pe len tx (p + 1 + 1)) with
          | false =>
            have ei : sItem (pe len tx) s p B = .inl (p + 1 + 1) := by
              unfold sItem
              rw [if_neg h0, if_neg (by simp [hi]), if_pos h5, if_pos hj]
            rw [ei]
            simp (disch := omega) only [n_lit, n_m1, ok_S, ok_s, ok_N, ok_n, ↓ok_if, ok_A, ok_a, ok_L, ok_l, ok_zn0, ok_zn1, ok_f2, ok_pure, ok_rI, ok_bn0, ok_bn1, ok_rt, ok_riI, ok_rn0, ok_rn1, ok_go, nx_l, nx_r, sS_s, sS_n, sS_a, sS_l, sS_k, aS_s, aS_n, aS_1, aS_l, aS_k, lS_l, lS_1, lS_a, lS_k, nS_s, nS_n, nS_1, nS_a, nS_l, updS, updN, nI_eq, nI_leI, nI_ltI, nI_add, pk_mul, nN_e, nN_e', nN_l, nN_g, nN_le, nN_ge, ite_not, if_true, if_false, not_true_eq_false, not_false_eq_true, Nat.not_lt_zero, Nat.reduceEqDiff, Nat.reduceLT, Nat.reduceLeDiff, Nat.reduceAdd, Nat.zero_le, ite_self, reduceCtorEq, bI_t, bI_f, bI_z, bI_1, ok_bb, if_pos, if_neg]
            exact ⟨FrQ_tr (FrQ_s _ _) (FrQ_s _ _), rfl, sS_s⟩
          | true =>
            by_cases h7 : pe len tx (p + 1 + 1) < pe len tx p
            · have ei : sItem (pe len tx) s p B = .inl (p + 1 + 1) := by
                unfold sItem
                rw [if_neg h0, if_neg (by simp [hi]), if_pos h5, if_neg (by simp [hj]), if_pos h7]
              rw [ei]
              simp (disch := omega) only [n_lit, n_m1, ok_S, ok_s, ok_N, ok_n, ↓ok_if, ok_A, ok_a, ok_L, ok_l, ok_zn0, ok_zn1, ok_f2, ok_pure, ok_rI, ok_bn0, ok_bn1, ok_rt, ok_riI, ok_rn0, ok_rn1, ok_go, nx_l, nx_r, sS_s, sS_n, sS_a, sS_l, sS_k, aS_s, aS_n, aS_1, aS_l, aS_k, lS_l, lS_1, lS_a, lS_k, nS_s, nS_n, nS_1, nS_a, nS_l, updS, updN, nI_eq, nI_leI, nI_ltI, nI_add, pk_mul, nN_e, nN_e', nN_l, nN_g, nN_le, nN_ge, ite_not, if_true, if_false, not_true_eq_false, not_false_eq_true, Nat.not_lt_zero, Nat.reduceEqDiff, Nat.reduceLT, Nat.reduceLeDiff, Nat.reduceAdd, Nat.zero_le, ite_self, reduceCtorEq, bI_t, bI_f, bI_z, bI_1, ok_bb, if_pos, if_neg]
              exact ⟨FrQ_tr (FrQ_s _ _) (FrQ_s _ _), rfl, sS_s⟩
            · have ei : sItem (pe len tx) s p B = .inr (p + 1 + 1 + 1, adR B s (pe len tx p) (pe len tx (p + 1 + 1))) := by
                unfold sItem
                rw [if_neg h0, if_neg (by simp [hi]), if_pos h5, if_neg (by simp [hj]), if_neg h7]
              rw [ei]
              simp (disch := omega) only [n_lit, n_m1, ok_S, ok_s, ok_N, ok_n, ↓ok_if, ok_A, ok_a, ok_L, ok_l, ok_zn0, ok_zn1, ok_f2, ok_pure, ok_rI, ok_bn0, ok_bn1, ok_rt, ok_riI, ok_rn0, ok_rn1, ok_go, nx_l, nx_r, sS_s, sS_n, sS_a, sS_l, sS_k, aS_s, aS_n, aS_1, aS_l, aS_k, lS_l, lS_1, lS_a, lS_k, nS_s, nS_n, nS_1, nS_a, nS_l, updS, updN, nI_eq, nI_leI, nI_ltI, nI_add, pk_mul, nN_e, nN_e', nN_l, nN_g, nN_le, nN_ge, ite_not, if_true, if_false, not_true_eq_false, not_false_eq_true, Nat.not_lt_zero, Nat.reduceEqDiff, Nat.reduceLT, Nat.reduceLeDiff, Nat.reduceAdd, Nat.zero_le, ite_self, reduceCtorEq, bI_t, bI_f, bI_z, bI_1, ok_bb, if_pos, if_neg]
              unfold k_Md_readSet_215
              refine ok_C (e_incl hs (by omega) (by omega) (MI_at h6) fun l hl => ?_)
              simp (disch := omega) only [n_lit, n_m1, ok_S, ok_s, ok_N, ok_n, ↓ok_if, ok_A, ok_a, ok_L, ok_l, ok_zn0, ok_zn1, ok_f2, ok_pure, ok_rI, ok_bn0, ok_bn1, ok_rt, ok_riI, ok_rn0, ok_rn1, ok_go, nx_l, nx_r, sS_s, sS_n, sS_a, sS_l, sS_k, aS_s, aS_n, aS_1, aS_l, aS_k, lS_l, lS_1, lS_a, lS_k, nS_s, nS_n, nS_1, nS_a, nS_l, updS, updN, nI_eq, nI_leI, nI_ltI, nI_add, pk_mul, nN_e, nN_e', nN_l, nN_g, nN_le, nN_ge, ite_not, if_true, if_false, not_true_eq_false, not_false_eq_true, Nat.not_lt_zero, Nat.reduceEqDiff, Nat.reduceLT, Nat.reduceLeDiff, Nat.reduceAdd, Nat.zero_le, ite_self, reduceCtorEq, bI_t, bI_f, bI_z, bI_1, ok_bb, if_pos, if_neg]
              have := hb6.2 (isIt_0 hj)
              exact aft (p + 1 + 1 + 1) _ _ (by omega) (by omega) hl (FrQ_tr (FrQ_a _ _) (FrQ_tr (FrQ_s _ _) (FrQ_tr (FrQ_s _ _) (FrQ_s _ _))))
        · have ei : sItem (pe len tx) s p B = .inr (p + 1, adR B s (pe len tx p) (pe len tx p)) := by
            unfold sItem
            rw [if_neg h0, if_neg (by simp [hi]), if_neg h5]
          rw [ei]
          simp (disch := omega) only [n_lit, n_m1, ok_S, ok_s, ok_N, ok_n, ↓ok_if, ok_A, ok_a, ok_L, ok_l, ok_zn0, ok_zn1, ok_f2, ok_pure, ok_rI, ok_bn0, ok_bn1, ok_rt, ok_riI, ok_rn0, ok_rn1, ok_go, nx_l, nx_r, sS_s, sS_n, sS_a, sS_l, sS_k, aS_s, aS_n, aS_1, aS_l, aS_k, lS_l, lS_1, lS_a, lS_k, nS_s, nS_n, nS_1, nS_a, nS_l, updS, updN, nI_eq, nI_leI, nI_ltI, nI_add, pk_mul, nN_e, nN_e', nN_l, nN_g, nN_le, nN_ge, ite_not, if_true, if_false, not_true_eq_false, not_false_eq_true, Nat.not_lt_zero, Nat.reduceEqDiff, Nat.reduceLT, Nat.reduceLeDiff, Nat.reduceAdd, Nat.zero_le, ite_self, reduceCtorEq, bI_t, bI_f, bI_z, bI_1, ok_bb, if_pos, if_neg, h5]
          unfold k_Md_readSet_215
          refine ok_C (e_incl hs (by omega) (by omega) h4 fun l hl => ?_)
          simp (disch := omega) only [n_lit, n_m1, ok_S, ok_s, ok_N, ok_n, ↓ok_if, ok_A, ok_a, ok_L, ok_l, ok_zn0, ok_zn1, ok_f2, ok_pure, ok_rI, ok_bn0, ok_bn1, ok_rt, ok_riI, ok_rn0, ok_rn1, ok_go, nx_l, nx_r, sS_s, sS_n, sS_a, sS_l, sS_k, aS_s, aS_n, aS_1, aS_l, aS_k, lS_l, lS_1, lS_a, lS_k, nS_s, nS_n, nS_1, nS_a, nS_l, updS, updN, nI_eq, nI_leI, nI_ltI, nI_add, pk_mul, nN_e, nN_e', nN_l, nN_g, nN_le, nN_ge, ite_not, if_true, if_false, not_true_eq_false, not_false_eq_true, Nat.not_lt_zero, Nat.reduceEqDiff, Nat.reduceLT, Nat.reduceLeDiff, Nat.reduceAdd, Nat.zero_le, ite_self, reduceCtorEq, bI_t, bI_f, bI_z, bI_1, ok_bb, if_pos, if_neg]
          exact aft (p + 1) _ _ (by omega) (by omega) hl (FrQ_tr (FrQ_a _ _) (FrQ_s _ _))
theorem e_mset (hs : s < u) (hp : p ≤ 48) (h0 : 0 < p) (h : MI S len tx p u B) : okS (f_Md_readSet (nI s)) S (fun v S' => PoM u S (sSet (pe len tx) s p B) v S') := by
  unfold f_Md_readSet sSet
  refine ok_fix ?_
  show okS (k_Md_readSet_0 (nI s)) S _
  unfold k_Md_readSet_0
  simp (disch := omega) only [n_lit, n_m1, ok_S, ok_s, ok_N, ok_n, ↓ok_if, ok_A, ok_a, ok_L, ok_l, ok_zn0, ok_zn1, ok_f2, ok_pure, ok_rI, ok_bn0, ok_bn1, ok_rt, ok_riI, ok_rn0, ok_rn1, ok_go, nx_l, nx_r, sS_s, sS_n, sS_a, sS_l, sS_k, aS_s, aS_n, aS_1, aS_l, aS_k, lS_l, lS_1, lS_a, lS_k, nS_s, nS_n, nS_1, nS_a, nS_l, updS, updN, nI_eq, nI_leI, nI_ltI, nI_add, pk_mul, nN_e, nN_e', nN_l, nN_g, nN_le, nN_ge, ite_not, if_true, if_false, not_true_eq_false, not_false_eq_true, Nat.not_lt_zero, Nat.reduceEqDiff, Nat.reduceLT, Nat.reduceLeDiff, Nat.reduceAdd, Nat.zero_le, ite_self, reduceCtorEq, bI_t, bI_f, bI_z, bI_1, ok_bb, if_pos, if_neg, h.2.1]
  refine ok_C (e_hereR h.1 (by omega) ?_)
  have hb := @pm_le S len p tx h.1
  unfold k_Md_readSet_18
  by_cases h9 : pe len tx p = 94
  · rw [if_pos h9]
    have := (hb.2 (by omega)).1
    simp (disch := omega) only [n_lit, n_m1, ok_S, ok_s, ok_N, ok_n, ↓ok_if, ok_A, ok_a, ok_L, ok_l, ok_zn0, ok_zn1, ok_f2, ok_pure, ok_rI, ok_bn0, ok_bn1, ok_rt, ok_riI, ok_rn0, ok_rn1, ok_go, nx_l, nx_r, sS_s, sS_n, sS_a, sS_l, sS_k, aS_s, aS_n, aS_1, aS_l, aS_k, lS_l, lS_1, lS_a, lS_k, nS_s, nS_n, nS_1, nS_a, nS_l, updS, updN, nI_eq, nI_leI, nI_ltI, nI_add, pk_mul, nN_e, nN_e', nN_l, nN_g, nN_le, nN_ge, ite_not, if_true, if_false, not_true_eq_false, not_false_eq_true, Nat.not_lt_zero, Nat.reduceEqDiff, Nat.reduceLT, Nat.reduceLeDiff, Nat.reduceAdd, Nat.zero_le, ite_self, reduceCtorEq, bI_t, bI_f, bI_z, bI_1, ok_bb, if_pos, if_neg, h9, h.2.1]
    refine ok_mono (e_m42 (iv := true) hs 60 (p + 1) 0 _ B (MI_at h) (by omega) (by omega) (by omega) (fun q => absurd rfl q)) ?_
    intro _ S2 k
    exact PoM_fr k (FrQ_s _ _)
  · rw [if_neg h9]
    simp (disch := omega) only [n_lit, n_m1, ok_S, ok_s, ok_N, ok_n, ↓ok_if, ok_A, ok_a, ok_L, ok_l, ok_zn0, ok_zn1, ok_f2, ok_pure, ok_rI, ok_bn0, ok_bn1, ok_rt, ok_riI, ok_rn0, ok_rn1, ok_go, nx_l, nx_r, sS_s, sS_n, sS_a, sS_l, sS_k, aS_s, aS_n, aS_1, aS_l, aS_k, lS_l, lS_1, lS_a, lS_k, nS_s, nS_n, nS_1, nS_a, nS_l, updS, updN, nI_eq, nI_leI, nI_ltI, nI_add, pk_mul, nN_e, nN_e', nN_l, nN_g, nN_le, nN_ge, ite_not, if_true, if_false, not_true_eq_false, not_false_eq_true, Nat.not_lt_zero, Nat.reduceEqDiff, Nat.reduceLT, Nat.reduceLeDiff, Nat.reduceAdd, Nat.zero_le, ite_self, reduceCtorEq, bI_t, bI_f, bI_z, bI_1, ok_bb, if_pos, if_neg, h9, h.2.1]
    refine ok_mono (e_m42 (iv := false) hs 60 p 0 _ B (MI_at h) (by omega) (by omega) (by omega) (fun q => absurd rfl q)) ?_
    intro _ S2 k
    cases hi : sItems (pe len tx) s 60 p B with
    | inl e => rw [hi] at k; exact PoM_fr k (FrQ_s _ _)
    | inr z => rw [hi] at k; exact PoM_fr k (FrQ_s _ _)
end RM
