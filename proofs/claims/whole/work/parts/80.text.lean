/-! READING, as pure functions of the text; the sets of the class -/
abbrev MBf : Type := Nat → Nat → Bool
def pe (len : Nat) (tx : Nat → Nat) (p : Nat) : Nat := if p < len then tx p else 0
def pv (x : Nat) : Int32 := if x = 0 then nN else nI x
def isIt (x : Nat) : Bool := !(x == 0 || x == 93 || x == 91 || x == 92 || x == 45 || x == 94)
def isPl (x : Nat) : Bool := !(x == 0 || x == 40 || x == 41 || x == 42 || x == 43 || x == 46 || x == 63 || x == 91 || x == 92 || x == 93 || x == 123 || x == 124 || x == 125)
def adR (B : MBf) (s a b : Nat) : MBf := fun s' c' => B s' c' || (s' == s && decide (a ≤ c' ∧ c' ≤ b))
def escB (B : MBf) (s x : Nat) : MBf := if x = 100 then adR B s 48 57 else if x = 119 then adR (adR (adR (adR B s 97 122) s 65 90) s 48 57) s 95 95 else adR B s x x
def nvB (B : MBf) (s : Nat) : MBf := fun s' c' => if s' = s then !B s' c' else B s' c'
def sEsc (c : Nat → Nat) (s p : Nat) (B : MBf) : Nat ⊕ (Nat × MBf) := if c p = 0 then .inl p else .inr (p + 1, escB B s (c p))
def sItem (c : Nat → Nat) (s p : Nat) (B : MBf) : Nat ⊕ (Nat × MBf) := if c p = 92 then sEsc c s (p + 1) B else if isIt (c p) = false then .inl p else if c (p + 1) = 45 then (if isIt (c (p + 2)) = false then .inl (p + 2) else if c (p + 2) < c p then .inl (p + 2) else .inr (p + 3, adR B s (c p) (c (p + 2)))) else .inr (p + 1, adR B s (c p) (c p))
def sItems (c : Nat → Nat) (s : Nat) : Nat → Nat → MBf → Nat ⊕ (Nat × MBf)
  | 0, p, _ => .inl p
  | f + 1, p, B => match sItem c s p B with
    | .inl e => .inl e
    | .inr (q, B') => if c q = 93 then .inr (q + 1, B') else sItems c s f q B'
def sSet (c : Nat → Nat) (s p : Nat) (B : MBf) : Nat ⊕ (Nat × MBf) := if c p = 94 then (match sItems c s 60 (p + 1) B with
    | .inl e => .inl e
    | .inr (q, B') => .inr (q, nvB B' s)) else sItems c s 60 p B
def sChars (c : Nat → Nat) (s p : Nat) (B : MBf) : Nat ⊕ (Nat × MBf) := if c p = 91 then sSet c s (p + 1) B else if c p = 92 then sEsc c s (p + 1) B else if c p = 46 then .inr (p + 1, adR B s 0 255) else if isPl (c p) = true then .inr (p + 1, adR B s (c p) (c p)) else .inl p
theorem pv_0 : pv 0 = nN := if_pos rfl
theorem pv_n {x : Nat} (h : x ≠ 0) : pv x = nI x := if_neg h
/-- the class's text, place, sets -/
def MC (l : Nat → Int64) (B : MBf) : Prop := ∀ s c, s < 48 → c < 256 → cB l s c = B s c
def TxC (S : qSt) (len : Nat) (tx : Nat → Nat) : Prop := len ≤ 48 ∧ S.1 82 = nI len ∧ ∀ i, i < len → 32 ≤ tx i ∧ tx i ≤ 126 ∧ S.2.1 1 i = nI (tx i)
def CI (S : qSt) (len : Nat) (tx : Nat → Nat) (p u : Nat) (B : MBf) : Prop := TxC S len tx ∧ S.1 83 = nI p ∧ S.1 85 = nN ∧ S.1 41 = nI u ∧ u ≤ 48 ∧ MC S.2.2.1 B
def FrP (S S' : qSt) : Prop := S'.2.1 = S.2.1 ∧ S'.2.2.2 = S.2.2.2 ∧ ∀ f, f ≠ 83 → f ≠ 85 → S'.1 f = S.1 f
def PoC (S : qSt) (r : Nat ⊕ (Nat × MBf)) (S' : qSt) : Prop := FrP S S' ∧ match r with
  | .inl e => S'.1 83 = nI e ∧ S'.1 85 = nI e
  | .inr (q, B') => S'.1 83 = nI q ∧ S'.1 85 = nN ∧ MC S'.2.2.1 B'
theorem FrP_rf (S : qSt) : FrP S S := ⟨rfl, rfl, fun f _ _ => rfl⟩
theorem FrP_tr {S S1 S2 : qSt} (h2 : FrP S1 S2) (h1 : FrP S S1) : FrP S S2 := ⟨h2.1.trans h1.1, h2.2.1.trans h1.2.1, fun f a b => (h2.2.2 f a b).trans (h1.2.2 f a b)⟩
theorem FrP_83 (S : qSt) (v : Int32) : FrP S (sS S 83 v) := ⟨rfl, rfl, fun f a b => sS_n a⟩
theorem FrP_85 (S : qSt) (v : Int32) : FrP S (sS S 85 v) := ⟨rfl, rfl, fun f a b => sS_n b⟩
theorem FrP_l (S : qSt) (l : Nat → Int64) : FrP S (lS S l) := ⟨rfl, rfl, fun f a b => rfl⟩
theorem PoC_fr {S S1 S' : qSt} {r : Nat ⊕ (Nat × MBf)} (h : PoC S1 r S') (h1 : FrP S S1) : PoC S r S' := ⟨FrP_tr h.1 h1, h.2⟩
theorem TxC_fr {S S' : qSt} {len : Nat} {tx : Nat → Nat} (h : TxC S len tx) (f : FrP S S') : TxC S' len tx := ⟨h.1, (f.2.2 82 (by omega) (by omega)).trans h.2.1, fun i hi => by rw [f.1]; exact h.2.2 i hi⟩
section CIS
variable {S S' : qSt} {len p q u s o : Nat} {tx : Nat → Nat} {B B' : MBf} {l : Nat → Int64}
theorem CI_at (h : CI S len tx p u B) : CI (sS S 83 (nI q)) len tx q u B := by
  obtain ⟨h1, h2, h3, h4, h5, h6⟩ := h
  exact ⟨TxC_fr h1 (FrP_83 _ _), sS_s, (sS_n (by omega)).trans h3, (sS_n (by omega)).trans h4, h5, h6⟩
theorem CI_l (h : CI S len tx p u B) (m : MC l B') : CI (lS S l) len tx p u B' := by
  obtain ⟨h1, h2, h3, h4, h5, h6⟩ := h
  exact ⟨TxC_fr h1 (FrP_l _ _), h2, h3, h4, h5, m⟩
theorem PoC_CI (h : CI S len tx p u B) (k : PoC S (.inr (q, B')) S') : CI S' len tx q u B' := by
  obtain ⟨h1, h2, h3, h4, h5, h6⟩ := h
  obtain ⟨k1, k2, k3, k4⟩ := k
  exact ⟨TxC_fr h1 k1, k2, k3, (k1.2.2 41 (by omega) (by omega)).trans h4, h5, k4⟩
theorem pe_le (h : TxC S len tx) : pe len tx p ≤ 126 ∧ (pe len tx p ≠ 0 → p < 48 ∧ 32 ≤ pe len tx p) := by
  unfold pe
  split
  · rename_i hp
    have := h.2.2 p hp
    have := h.1
    exact ⟨by omega, fun _ => ⟨by omega, by omega⟩⟩
  · exact ⟨by omega, fun k => absurd rfl k⟩
theorem e_peek0 {Q : Int32 → qSt → Prop} (h : TxC S len tx) (h3 : S.1 83 = nI p) (hp : p < 1000) (k : Q (pv (pe len tx p)) S) : okS (f_Pa_peek o) S Q := by
  obtain ⟨h0, h1, h2⟩ := h
  unfold f_Pa_peek
  unfold pe at k
  by_cases hl : p < len
  · have := h2 p hl
    rw [if_pos hl, pv_n (by omega)] at k
    simp (disch := omega) only [n_lit, n_m1, ok_S, ok_s, ok_N, ok_n, ↓ok_if, ok_A, ok_a, ok_L, ok_l, ok_zn0, ok_zn1, ok_f2, ok_pure, ok_rI, ok_bn0, ok_bn1, ok_rt, ok_riI, ok_rn0, ok_rn1, ok_go, nx_l, nx_r, sS_s, sS_n, sS_a, sS_l, sS_k, aS_s, aS_n, aS_1, aS_l, aS_k, lS_l, lS_1, lS_a, lS_k, nS_s, nS_n, nS_1, nS_a, nS_l, updS, updN, nI_eq, nI_leI, nI_ltI, nI_add, pk_mul, nN_e, nN_e', nN_l, nN_g, nN_le, nN_ge, ite_not, if_true, if_false, not_true_eq_false, not_false_eq_true, Nat.not_lt_zero, Nat.reduceEqDiff, Nat.reduceLT, Nat.reduceLeDiff, Nat.reduceAdd, Nat.zero_le, ite_self, reduceCtorEq, bI_t, bI_f, bI_z, bI_1, ok_bb, if_pos, if_neg, h3, h1, this]
    exact k
  · rw [if_neg hl, pv_0] at k
    simp (disch := omega) only [n_lit, n_m1, ok_S, ok_s, ok_N, ok_n, ↓ok_if, ok_A, ok_a, ok_L, ok_l, ok_zn0, ok_zn1, ok_f2, ok_pure, ok_rI, ok_bn0, ok_bn1, ok_rt, ok_riI, ok_rn0, ok_rn1, ok_go, nx_l, nx_r, sS_s, sS_n, sS_a, sS_l, sS_k, aS_s, aS_n, aS_1, aS_l, aS_k, lS_l, lS_1, lS_a, lS_k, nS_s, nS_n, nS_1, nS_a, nS_l, updS, updN, nI_eq, nI_leI, nI_ltI, nI_add, pk_mul, nN_e, nN_e', nN_l, nN_g, nN_le, nN_ge, ite_not, if_true, if_false, not_true_eq_false, not_false_eq_true, Nat.not_lt_zero, Nat.reduceEqDiff, Nat.reduceLT, Nat.reduceLeDiff, Nat.reduceAdd, Nat.zero_le, ite_self, reduceCtorEq, bI_t, bI_f, bI_z, bI_1, ok_bb, if_pos, if_neg, h3, h1]
    exact k
theorem e_peek {Q : Int32 → qSt → Prop} (h : CI S len tx p u B) (hp : p < 1000) (k : Q (pv (pe len tx p)) S) : okS (f_Pa_peek o) S Q := e_peek0 h.1 h.2.1 hp k
theorem e_fail {Q : Unit → qSt → Prop} (h : CI S len tx p u B) (k : Q () (sS S 85 (nI p))) : okS (f_Pa_fail o) S Q := by
  obtain ⟨_, h3, h4, _⟩ := h
  unfold f_Pa_fail
  simp (disch := omega) only [n_lit, n_m1, ok_S, ok_s, ok_N, ok_n, ↓ok_if, ok_A, ok_a, ok_L, ok_l, ok_zn0, ok_zn1, ok_f2, ok_pure, ok_rI, ok_bn0, ok_bn1, ok_rt, ok_riI, ok_rn0, ok_rn1, ok_go, nx_l, nx_r, sS_s, sS_n, sS_a, sS_l, sS_k, aS_s, aS_n, aS_1, aS_l, aS_k, lS_l, lS_1, lS_a, lS_k, nS_s, nS_n, nS_1, nS_a, nS_l, updS, updN, nI_eq, nI_leI, nI_ltI, nI_add, pk_mul, nN_e, nN_e', nN_l, nN_g, nN_le, nN_ge, ite_not, if_true, if_false, not_true_eq_false, not_false_eq_true, Nat.not_lt_zero, Nat.reduceEqDiff, Nat.reduceLT, Nat.reduceLeDiff, Nat.reduceAdd, Nat.zero_le, ite_self, reduceCtorEq, bI_t, bI_f, bI_z, bI_1, ok_bb, if_pos, if_neg, h3, h4]
  exact k
theorem PoC_fail (h : CI S len tx p u B) : PoC S (.inl p) (sS S 85 (nI p)) := ⟨FrP_85 _ _, (sS_n (by omega)).trans h.2.1, sS_s⟩
theorem MC_or {v : Nat} (hs : s < 48) (hv : v < 256) (hm : MC l B) : MC (vp_updL l (s * 4 + v / 64) (l (s * 4 + v / 64) ||| ((1 : Int64) <<< ((nI (v % 64)).toInt64 &&& 63)))) (adR B s v v) := by
  intro s' c' h1 h2
  have h3 := hm s' c' h1 h2
  unfold adR
  unfold cB at h3 ⊢
  unfold vp_updL
  by_cases e : s' * 4 + c' / 64 = s * 4 + v / 64
  · rw [if_pos e, jb_or (by omega) (by omega), ← e, h3]
    have e1 : s' = s := by omega
    subst e1
    congr 1
    rw [beq_self_eq_true, Bool.true_and]
    by_cases e2 : c' % 64 = v % 64
    · have : c' = v := by omega
      subst this
      simp
    · have h : ¬ (v ≤ c' ∧ c' ≤ v) := by omega
      simp [e2, h]
  · rw [if_neg e, h3]
    have h : ¬ (s' = s ∧ (v ≤ c' ∧ c' ≤ v)) := by
      rintro ⟨a, b⟩
      have : c' = v := by omega
      subst this
      subst a
      exact e rfl
    by_cases e1 : s' = s
    · have h' : ¬ (v ≤ c' ∧ c' ≤ v) := fun q => h ⟨e1, q⟩
      simp [h']
    · simp [e1]
theorem adR_one {v b : Nat} (h : v ≤ b) : adR (adR B s v v) s (v + 1) b = adR B s v b := by
  funext s' c'
  unfold adR
  rw [Bool.or_assoc, ← Bool.and_or_distrib_left]
  congr 2
  rw [← Bool.decide_or]
  apply decide_eq_decide.mpr
  omega
theorem adR_no {v b : Nat} (h : b < v) : adR B s v b = B := by
  funext s' c'
  unfold adR
  have : ¬ (v ≤ c' ∧ c' ≤ b) := by omega
  simp [this]
theorem adR_comm {a b c d : Nat} : adR (adR B s a b) s c d = adR (adR B s c d) s a b := by
  funext s' c'
  unfold adR
  rw [Bool.or_assoc, Bool.or_assoc]
  congr 1
  rw [Bool.or_comm]
theorem e_addR {a b : Nat} {Q : Unit → qSt → Prop} (hs : s < u) (hb : b < 256) (ha : a ≤ 256) (h : CI S len tx p u B) (k : ∀ l, CI (lS S l) len tx p u (adR B s a b) → Q () (lS S l)) : okS (f_Cs_addRange o (nI s) (nI a) (nI b)) S Q := by
  have lp : ∀ d v (S : qSt) (B : MBf) (Q : Unit → qSt → Prop), b + 1 - v = d → v ≤ 256 → CI S len tx p u B → (∀ l, CI (lS S l) len tx p u (adR B s v b) → Q () (lS S l)) → okS (w_fix (b_Cs_addRange o) (16, [.int (nI s), .int (nI b), .int (nI v)], [])) S Q := by
    intro d
    induction d with
    | zero =>
      intro v S B Q hd hv h k
      refine ok_fix ?_
      show okS (k_Cs_addRange_16 o (nI s) (nI b) (nI v)) S _
      unfold k_Cs_addRange_16
      simp (disch := omega) only [n_lit, n_m1, ok_S, ok_s, ok_N, ok_n, ↓ok_if, ok_A, ok_a, ok_L, ok_l, ok_zn0, ok_zn1, ok_f2, ok_pure, ok_rI, ok_bn0, ok_bn1, ok_rt, ok_riI, ok_rn0, ok_rn1, ok_go, nx_l, nx_r, sS_s, sS_n, sS_a, sS_l, sS_k, aS_s, aS_n, aS_1, aS_l, aS_k, lS_l, lS_1, lS_a, lS_k, nS_s, nS_n, nS_1, nS_a, nS_l, updS, updN, nI_eq, nI_leI, nI_ltI, nI_add, pk_mul, nN_e, nN_e', nN_l, nN_g, nN_le, nN_ge, ite_not, if_true, if_false, not_true_eq_false, not_false_eq_true, Nat.not_lt_zero, Nat.reduceEqDiff, Nat.reduceLT, Nat.reduceLeDiff, Nat.reduceAdd, Nat.zero_le, ite_self, reduceCtorEq, bI_t, bI_f, bI_z, bI_1, ok_bb, if_pos, if_neg]
      have := k S.2.2.1
      rw [adR_no (by omega)] at this
      exact this h
    | succ d ih =>
      intro v S B Q hd hv h k
      refine ok_fix ?_
      show okS (k_Cs_addRange_16 o (nI s) (nI b) (nI v)) S _
      unfold k_Cs_addRange_16
      have hu := h.2.2.2.2.1
      simp (disch := omega) only [n_lit, n_m1, ok_S, ok_s, ok_N, ok_n, ↓ok_if, ok_A, ok_a, ok_L, ok_l, ok_zn0, ok_zn1, ok_f2, ok_pure, ok_rI, ok_bn0, ok_bn1, ok_rt, ok_riI, ok_rn0, ok_rn1, ok_go, nx_l, nx_r, sS_s, sS_n, sS_a, sS_l, sS_k, aS_s, aS_n, aS_1, aS_l, aS_k, lS_l, lS_1, lS_a, lS_k, nS_s, nS_n, nS_1, nS_a, nS_l, updS, updN, nI_eq, nI_leI, nI_ltI, nI_add, pk_mul, nN_e, nN_e', nN_l, nN_g, nN_le, nN_ge, ite_not, if_true, if_false, not_true_eq_false, not_false_eq_true, Nat.not_lt_zero, Nat.reduceEqDiff, Nat.reduceLT, Nat.reduceLeDiff, Nat.reduceAdd, Nat.zero_le, ite_self, reduceCtorEq, bI_t, bI_f, bI_z, bI_1, ok_bb, if_pos, if_neg, b_c6, b_c63]
      refine ih (v + 1) _ (adR B s v v) Q (by omega) (by omega) (CI_l h (MC_or (by omega) (by omega) h.2.2.2.2.2)) ?_
      intro l hl
      rw [adR_one (by omega)] at hl
      exact k l hl
  unfold f_Cs_addRange
  refine ok_fix ?_
  show okS (k_Cs_addRange_0 o (nI s) (nI a) (nI b)) S _
  unfold k_Cs_addRange_0
  refine ok_C (e_isOpen h.2.2.2.1 h.2.2.2.2.1 hs ?_)
  simp (disch := omega) only [n_lit, n_m1, ok_S, ok_s, ok_N, ok_n, ↓ok_if, ok_A, ok_a, ok_L, ok_l, ok_zn0, ok_zn1, ok_f2, ok_pure, ok_rI, ok_bn0, ok_bn1, ok_rt, ok_riI, ok_rn0, ok_rn1, ok_go, nx_l, nx_r, sS_s, sS_n, sS_a, sS_l, sS_k, aS_s, aS_n, aS_1, aS_l, aS_k, lS_l, lS_1, lS_a, lS_k, nS_s, nS_n, nS_1, nS_a, nS_l, updS, updN, nI_eq, nI_leI, nI_ltI, nI_add, pk_mul, nN_e, nN_e', nN_l, nN_g, nN_le, nN_ge, ite_not, if_true, if_false, not_true_eq_false, not_false_eq_true, Nat.not_lt_zero, Nat.reduceEqDiff, Nat.reduceLT, Nat.reduceLeDiff, Nat.reduceAdd, Nat.zero_le, ite_self, reduceCtorEq, bI_t, bI_f, bI_z, bI_1, ok_bb, if_pos, if_neg]
  exact lp _ a S B Q rfl ha h k
theorem e_inv {Q : Unit → qSt → Prop} (hs : s < u) (hu : S.1 41 = nI u) (h1 : u ≤ 48) (k : ∀ l, (∀ B, MC S.2.2.1 B → MC l (nvB B s)) → Q () (lS S l)) : okS (f_Cs_invert o (nI s)) S Q := by
  have lp : ∀ d v (l : Nat → Int64), v + d = 4 → (∀ i, i / 4 ≠ s ∨ v ≤ i % 4 → l i = S.2.2.1 i) → (∀ i, i / 4 = s → i % 4 < v → l i = S.2.2.1 i ^^^ (-1 : Int64)) → okS (w_fix (b_Cs_invert o) (11, [.int (nI s), .int (nI v)], [])) (lS S l) Q := by
    intro d
    induction d with
    | zero =>
      intro v l hd h2 h3
      refine ok_fix ?_
      show okS (k_Cs_invert_11 o (nI s) (nI v)) _ _
      unfold k_Cs_invert_11
      simp (disch := omega) only [n_lit, n_m1, ok_S, ok_s, ok_N, ok_n, ↓ok_if, ok_A, ok_a, ok_L, ok_l, ok_zn0, ok_zn1, ok_f2, ok_pure, ok_rI, ok_bn0, ok_bn1, ok_rt, ok_riI, ok_rn0, ok_rn1, ok_go, nx_l, nx_r, sS_s, sS_n, sS_a, sS_l, sS_k, aS_s, aS_n, aS_1, aS_l, aS_k, lS_l, lS_1, lS_a, lS_k, nS_s, nS_n, nS_1, nS_a, nS_l, updS, updN, nI_eq, nI_leI, nI_ltI, nI_add, pk_mul, nN_e, nN_e', nN_l, nN_g, nN_le, nN_ge, ite_not, if_true, if_false, not_true_eq_false, not_false_eq_true, Nat.not_lt_zero, Nat.reduceEqDiff, Nat.reduceLT, Nat.reduceLeDiff, Nat.reduceAdd, Nat.zero_le, ite_self, reduceCtorEq, bI_t, bI_f, bI_z, bI_1, ok_bb, if_pos, if_neg]
      refine k l ?_
      intro B hB s' c' h4 h5
      have h6 := hB s' c' h4 h5
      unfold cB at h6 ⊢
      unfold nvB
      by_cases e : s' = s
      · rw [h3 _ (by omega) (by omega), jb_not (by omega), h6, if_pos e]
      · rw [h2 _ (by omega), h6, if_neg e]
    | succ d ih =>
      intro v l hd h2 h3
      refine ok_fix ?_
      show okS (k_Cs_invert_11 o (nI s) (nI v)) _ _
      unfold k_Cs_invert_11
      simp (disch := omega) only [n_lit, n_m1, ok_S, ok_s, ok_N, ok_n, ↓ok_if, ok_A, ok_a, ok_L, ok_l, ok_zn0, ok_zn1, ok_f2, ok_pure, ok_rI, ok_bn0, ok_bn1, ok_rt, ok_riI, ok_rn0, ok_rn1, ok_go, nx_l, nx_r, sS_s, sS_n, sS_a, sS_l, sS_k, aS_s, aS_n, aS_1, aS_l, aS_k, lS_l, lS_1, lS_a, lS_k, nS_s, nS_n, nS_1, nS_a, nS_l, updS, updN, nI_eq, nI_leI, nI_ltI, nI_add, pk_mul, nN_e, nN_e', nN_l, nN_g, nN_le, nN_ge, ite_not, if_true, if_false, not_true_eq_false, not_false_eq_true, Nat.not_lt_zero, Nat.reduceEqDiff, Nat.reduceLT, Nat.reduceLeDiff, Nat.reduceAdd, Nat.zero_le, ite_self, reduceCtorEq, bI_t, bI_f, bI_z, bI_1, ok_bb, if_pos, if_neg]
      refine ih (v + 1) (vp_updL l (s * 4 + v) (l (s * 4 + v) ^^^ (-1 : Int64))) (by omega) ?_ ?_
      · intro i hi
        unfold vp_updL
        rw [if_neg (by omega)]
        exact h2 i (by omega)
      · intro i hi hj
        unfold vp_updL
        by_cases e : i = s * 4 + v
        · rw [if_pos e, e, h2 _ (by omega)]
        · rw [if_neg e]
          exact h3 i hi (by omega)
  unfold f_Cs_invert
  refine ok_fix ?_
  show okS (k_Cs_invert_0 o (nI s)) S _
  unfold k_Cs_invert_0
  refine ok_C (e_isOpen hu h1 hs ?_)
  simp (disch := omega) only [n_lit, n_m1, ok_S, ok_s, ok_N, ok_n, ↓ok_if, ok_A, ok_a, ok_L, ok_l, ok_zn0, ok_zn1, ok_f2, ok_pure, ok_rI, ok_bn0, ok_bn1, ok_rt, ok_riI, ok_rn0, ok_rn1, ok_go, nx_l, nx_r, sS_s, sS_n, sS_a, sS_l, sS_k, aS_s, aS_n, aS_1, aS_l, aS_k, lS_l, lS_1, lS_a, lS_k, nS_s, nS_n, nS_1, nS_a, nS_l, updS, updN, nI_eq, nI_leI, nI_ltI, nI_add, pk_mul, nN_e, nN_e', nN_l, nN_g, nN_le, nN_ge, ite_not, if_true, if_false, not_true_eq_false, not_false_eq_true, Nat.not_lt_zero, Nat.reduceEqDiff, Nat.reduceLT, Nat.reduceLeDiff, Nat.reduceAdd, Nat.zero_le, ite_self, reduceCtorEq, bI_t, bI_f, bI_z, bI_1, ok_bb, if_pos, if_neg]
  exact lp 4 0 S.2.2.1 rfl (fun _ _ => rfl) (fun i _ hj => by omega)
end CIS
