/-! THE REFERENCE: work -/
def runW (P : Pg) (se : Bool) (tk : Nat → Nat → Bool) : Nat → Wst
  | 0 => begW P se
  | p + 1 => stpW P se (p + 1) (tk p) (runW P se tk p).2.1 (runW P se tk p).2.2.1
theorem begW_tk {P : Pg} {L : Nat} {se : Bool} (hw : WF P L) : TkOk P L (begW P se).2.1 := fol1_tk hw hw.2.1 (fun e h => by cases h)
theorem finW_tk {P : Pg} {L i : Nat} {se : Bool} {st : Wst} (hw : WF P L) (h1 : TkOk P L st.2.1) : TkOk P L (finW P se i st).2.1 := by
  unfold finW
  split
  · exact fol1_tk hw hw.2.1 h1
  · exact h1
theorem stpW_tk {P : Pg} {L i : Nat} {se : Bool} {t : Nat → Bool} {ws : List (Nat × Mk)} {fd : Option Mk} (hw : WF P L) (h : TkOk P L ws) : TkOk P L (stpW P se i t ws fd).2.1 := by
  have h1 : TkOk P L (folW P se i t ws (fun _ => false, [], if se = true then fd else none, false)).2.1 := folW_tk hw ws _ h (fun e h => by cases h)
  exact finW_tk hw h1
theorem runW_tk {P : Pg} {L : Nat} {se : Bool} {tk : Nat → Nat → Bool} (hw : WF P L) : ∀ p, TkOk P L (runW P se tk p).2.1 := by
  intro p
  induction p with
  | zero => exact begW_tk hw
  | succ p ih => exact stpW_tk hw ih
def atI (a : Option Nat) : Int32 := match a with
  | none => nN
  | some k => nI k
def FrK (S S' : qSt) : Prop := (∀ f, f ≠ 40 → S'.1 f = S.1 f) ∧ (∀ f, f < 22 → S'.2.1 f = S.2.1 f) ∧ S'.2.2 = S.2.2
theorem FrK_rfl (S : qSt) : FrK S S := ⟨fun _ _ => rfl, fun _ _ => rfl, rfl⟩
theorem FrK_tr {S S1 S2 : qSt} (h' : FrK S1 S2) (h : FrK S S1) : FrK S S2 := ⟨fun f a => (h'.1 f a).trans (h.1 f a), fun f a => (h'.2.1 f a).trans (h.2.1 f a), h'.2.2.trans h.2.2⟩
theorem FrK_M {S S' : qSt} (h : FrK S S') : FrM S S' := ⟨fun f _ _ a => h.1 f a, fun f a => h.2.1 f (by omega), h.2.2⟩
def Can (P : Pg) (L n : Nat) (se : Bool) (tk : Nat → Nat → Bool) (g : Nat → Int32) : Prop := ∀ k, k < L → ∀ j, j ≤ n → (rb g k j = true ↔ Rch P n se tk j k)
section WO
variable {P : Pg} {L n s p : Nat} {se : Bool} {w : Nat → Nat} {B : Nat → Int32} {S : qSt}
theorem w253 {Q : Unit → qSt → Prop} {at_ : Option Nat} {H : Nat → Bool} (hW : MdW P L n w) (hM : MdC S P L n se w B) (hp : p ≤ n) (hH : RowB L (S.2.1 24) H) (k1 : p < n → ∀ S' V', FrK S S' → S'.2.1 22 = S.2.1 22 → RowB L (S'.2.1 24) V' → clo P V' → (∀ q, V' q = true ↔ ∃ k, k < L ∧ H k = true ∧ P.1 k = 0 ∧ tkM P n w B p k = true ∧ Eps P (k + 1) q) → okS (w_fix b_Md_work (126, [.int (nI s), .int (atI at_), .int (nI (p + 1))], [])) S' Q) (k2 : p = n → okS (w_fix b_Md_work (126, [.int (nI s), .int (atI at_), .int (nI (p + 1))], [])) S Q) : okS (k_Md_work_253 (nI s) (atI at_) (nI p)) S (nxS b_Md_work Q) := by
  unfold k_Md_work_253
  have h31 := hM.2.2.1
  have hn := hW.2.1
  by_cases hpn : p < n
  · simp (disch := omega) only [n_lit, n_m1, ok_S, ok_s, ok_N, ok_n, ↓ok_if, ok_A, ok_a, ok_L, ok_l, ok_zn0, ok_zn1, ok_f2, ok_pure, ok_rI, ok_bn0, ok_bn1, ok_rt, ok_riI, ok_rn0, ok_rn1, ok_go, nx_l, nx_r, sS_s, sS_n, sS_a, sS_l, sS_k, aS_s, aS_n, aS_1, aS_l, aS_k, lS_l, lS_1, lS_a, lS_k, nS_s, nS_n, nS_1, nS_a, nS_l, updS, updN, nI_eq, nI_leI, nI_ltI, nI_add, pk_mul, nN_e, nN_e', nN_l, nN_g, nN_le, nN_ge, ite_not, if_true, if_false, not_true_eq_false, not_false_eq_true, Nat.not_lt_zero, Nat.reduceEqDiff, Nat.reduceLT, Nat.reduceLeDiff, Nat.reduceAdd, Nat.zero_le, ite_self, reduceCtorEq, bI_t, bI_f, bI_z, bI_1, ok_bb, if_pos, if_neg, h31]
    refine ok_C (e_stepM hW (by omega) hM hH ?_)
    intro S' V' f1 f2 f3 r c q
    simp (disch := omega) only [n_lit, n_m1, ok_S, ok_s, ok_N, ok_n, ↓ok_if, ok_A, ok_a, ok_L, ok_l, ok_zn0, ok_zn1, ok_f2, ok_pure, ok_rI, ok_bn0, ok_bn1, ok_rt, ok_riI, ok_rn0, ok_rn1, ok_go, nx_l, nx_r, sS_s, sS_n, sS_a, sS_l, sS_k, aS_s, aS_n, aS_1, aS_l, aS_k, lS_l, lS_1, lS_a, lS_k, nS_s, nS_n, nS_1, nS_a, nS_l, updS, updN, nI_eq, nI_leI, nI_ltI, nI_add, pk_mul, nN_e, nN_e', nN_l, nN_g, nN_le, nN_ge, ite_not, if_true, if_false, not_true_eq_false, not_false_eq_true, Nat.not_lt_zero, Nat.reduceEqDiff, Nat.reduceLT, Nat.reduceLeDiff, Nat.reduceAdd, Nat.zero_le, ite_self, reduceCtorEq, bI_t, bI_f, bI_z, bI_1, ok_bb]
    exact k1 hpn S' V' ⟨f1, fun f h => f2 f (by omega) (by omega) (by omega), f3⟩ (f2 22 (by omega) (by omega) (by omega)) r c q
  · simp (disch := omega) only [n_lit, n_m1, ok_S, ok_s, ok_N, ok_n, ↓ok_if, ok_A, ok_a, ok_L, ok_l, ok_zn0, ok_zn1, ok_f2, ok_pure, ok_rI, ok_bn0, ok_bn1, ok_rt, ok_riI, ok_rn0, ok_rn1, ok_go, nx_l, nx_r, sS_s, sS_n, sS_a, sS_l, sS_k, aS_s, aS_n, aS_1, aS_l, aS_k, lS_l, lS_1, lS_a, lS_k, nS_s, nS_n, nS_1, nS_a, nS_l, updS, updN, nI_eq, nI_leI, nI_ltI, nI_add, pk_mul, nN_e, nN_e', nN_l, nN_g, nN_le, nN_ge, ite_not, if_true, if_false, not_true_eq_false, not_false_eq_true, Nat.not_lt_zero, Nat.reduceEqDiff, Nat.reduceLT, Nat.reduceLeDiff, Nat.reduceAdd, Nat.zero_le, ite_self, reduceCtorEq, bI_t, bI_f, bI_z, bI_1, ok_bb, if_pos, if_neg, h31]
    exact k2 (by omega)
theorem w214 {Q : qJ ⊕ Unit → qSt → Prop} {at1 : Option Nat} {H1 : Nat → Bool} {mk : Mk} (hW : MdW P L n w) (hM : MdC S P L n se w B) (hp : p ≤ n) (hG : Can P L n se (tkM P n w B) (S.2.1 21)) (hH : RowB L (S.2.1 24) H1) (hm : Mks (S.2.1 22) mk) (ha : ∀ a, at1 = some a → a < L ∧ Rch P n se (tkM P n w B) p a)
    (kk : ∀ S' (H' : Nat → Bool) (at_ : Option Nat) (mk' : Mk), FrK S S' → RowB L (S'.2.1 24) H' → Mks (S'.2.1 22) mk' → ((at1 = none ∧ (∀ j, j < L → H' j = H1 j) ∧ at_ = none ∧ mk' = mk) ∨ ∃ a A e C, at1 = some a ∧ dfs P (nI p) 400 [(a, mk)] (fun _ => false) = A ++ e :: C ∧ Stq P n se (tkM P n w B) p e.1 ∧ (∀ x ∈ A, ¬ Stq P n se (tkM P n w B) p x.1) ∧ (∀ j, j < L → (H' j = true ↔ H1 j = true ∨ (P.1 j = 0 ∧ ∃ x ∈ A, x.1 = j))) ∧ at_ = (if P.1 e.1 = 0 then some (e.1 + 1) else none) ∧ mk' = e.2) → okS (k_Md_work_253 (nI s) (atI at_) (nI p)) S' Q) : okS (k_Md_work_214 (nI s) (nI p) (atI at1)) S Q := by
  unfold k_Md_work_214
  have hw := hW.1
  have hL := hw.1
  have hn := hW.2.1
  cases at1 with
  | none =>
    have e : atI none = nN := rfl
    simp (disch := omega) only [n_lit, n_m1, ok_S, ok_s, ok_N, ok_n, ↓ok_if, ok_A, ok_a, ok_L, ok_l, ok_zn0, ok_zn1, ok_f2, ok_pure, ok_rI, ok_bn0, ok_bn1, ok_rt, ok_riI, ok_rn0, ok_rn1, ok_go, nx_l, nx_r, sS_s, sS_n, sS_a, sS_l, sS_k, aS_s, aS_n, aS_1, aS_l, aS_k, lS_l, lS_1, lS_a, lS_k, nS_s, nS_n, nS_1, nS_a, nS_l, updS, updN, nI_eq, nI_leI, nI_ltI, nI_add, pk_mul, nN_e, nN_e', nN_l, nN_g, nN_le, nN_ge, ite_not, if_true, if_false, not_true_eq_false, not_false_eq_true, Nat.not_lt_zero, Nat.reduceEqDiff, Nat.reduceLT, Nat.reduceLeDiff, Nat.reduceAdd, Nat.zero_le, ite_self, reduceCtorEq, bI_t, bI_f, bI_z, bI_1, ok_bb, e]
    exact kk S H1 none mk (FrK_rfl S) hH hm (Or.inl ⟨rfl, fun _ _ => rfl, rfl, rfl⟩)
  | some a =>
    have e : atI (some a) = nI a := rfl
    obtain ⟨ha1, ha2⟩ := ha a rfl
    simp (disch := omega) only [n_lit, n_m1, ok_S, ok_s, ok_N, ok_n, ↓ok_if, ok_A, ok_a, ok_L, ok_l, ok_zn0, ok_zn1, ok_f2, ok_pure, ok_rI, ok_bn0, ok_bn1, ok_rt, ok_riI, ok_rn0, ok_rn1, ok_go, nx_l, nx_r, sS_s, sS_n, sS_a, sS_l, sS_k, aS_s, aS_n, aS_1, aS_l, aS_k, lS_l, lS_1, lS_a, lS_k, nS_s, nS_n, nS_1, nS_a, nS_l, updS, updN, nI_eq, nI_leI, nI_ltI, nI_add, pk_mul, nN_e, nN_e', nN_l, nN_g, nN_le, nN_ge, ite_not, if_true, if_false, not_true_eq_false, not_false_eq_true, Nat.not_lt_zero, Nat.reduceEqDiff, Nat.reduceLT, Nat.reduceLeDiff, Nat.reduceAdd, Nat.zero_le, ite_self, reduceCtorEq, bI_t, bI_f, bI_z, bI_1, ok_bb, if_pos, if_neg, e]
    obtain ⟨A, x, C, h1, h2, h3, -⟩ := win (m := mk) (V0 := fun _ => false) hw clo_nil (fun k h => by cases h) ha1 ha2
    refine ok_C (e_choose (m0 := mk) hW hp hM ha1 hG hH h1 h2 h3 ?_)
    intro S1 f1 r1 ⟨l, p1, p2, p3⟩
    have hxl := p2 x.1 (List.mem_cons_self ..)
    obtain ⟨⟨w1, w2, w3⟩, w4, w5, w6, w7, w8⟩ := hw.2.2 x.1 hxl
    have hM1 := MdC_fr hM (FrCh_M f1)
    refine ok_C (e_setMarks (m0 := mk) hW hM1 p1 p2 (by rcases h2.1 with q | q <;> omega) (by rw [f1.2.1 22 (by omega) (by omega) (by omega) (by omega) (by omega)]; exact hm) ?_)
    intro S2 g1 g2 g3 hm2
    have fk : FrK S S2 := ⟨fun f h => (g1 f).trans (f1.1 f h), fun f h => (g2 f (by omega) (by omega)).trans (f1.2.1 f (by omega) (by omega) (by omega) (by omega) (by omega)), g3.trans f1.2.2⟩
    have hM2 := MdC_fr hM (FrK_M fk)
    obtain ⟨k0, -, -⟩ := hM2.2.1 x.1 hxl
    have r2 : RowB L (S2.2.1 24) (chH P H1 A) := by rw [g2 24 (by omega) (by omega)]; exact r1
    have hH' : ∀ j, j < L → (chH P H1 A j = true ↔ H1 j = true ∨ (P.1 j = 0 ∧ ∃ x ∈ A, x.1 = j)) := by
      intro j hj
      unfold chH
      rw [Bool.or_eq_true, List.any_eq_true]
      constructor
      · rintro (h | ⟨y, h, h'⟩)
        · exact Or.inl h
        · rw [Bool.and_eq_true, beq_iff_eq, beq_iff_eq] at h'
          obtain ⟨h4, h5⟩ := h'
          subst h4
          exact Or.inr ⟨h5, y, h, rfl⟩
      · rintro (h | ⟨h, y, h4, h5⟩)
        · exact Or.inl h
        · subst h5
          exact Or.inr ⟨y, h4, by rw [Bool.and_eq_true, beq_iff_eq, beq_iff_eq]; exact ⟨rfl, h⟩⟩
    simp (disch := omega) only [n_lit, n_m1, ok_S, ok_s, ok_N, ok_n, ↓ok_if, ok_A, ok_a, ok_L, ok_l, ok_zn0, ok_zn1, ok_f2, ok_pure, ok_rI, ok_bn0, ok_bn1, ok_rt, ok_riI, ok_rn0, ok_rn1, ok_go, nx_l, nx_r, sS_s, sS_n, sS_a, sS_l, sS_k, aS_s, aS_n, aS_1, aS_l, aS_k, lS_l, lS_1, lS_a, lS_k, nS_s, nS_n, nS_1, nS_a, nS_l, updS, updN, nI_eq, nI_leI, nI_ltI, nI_add, pk_mul, nN_e, nN_e', nN_l, nN_g, nN_le, nN_ge, ite_not, if_true, if_false, not_true_eq_false, not_false_eq_true, Nat.not_lt_zero, Nat.reduceEqDiff, Nat.reduceLT, Nat.reduceLeDiff, Nat.reduceAdd, Nat.zero_le, ite_self, reduceCtorEq, bI_t, bI_f, bI_z, bI_1, ok_bb, if_pos, if_neg, k0]
    by_cases h0 : P.1 x.1 = 0
    · simp (disch := omega) only [n_lit, n_m1, ok_S, ok_s, ok_N, ok_n, ↓ok_if, ok_A, ok_a, ok_L, ok_l, ok_zn0, ok_zn1, ok_f2, ok_pure, ok_rI, ok_bn0, ok_bn1, ok_rt, ok_riI, ok_rn0, ok_rn1, ok_go, nx_l, nx_r, sS_s, sS_n, sS_a, sS_l, sS_k, aS_s, aS_n, aS_1, aS_l, aS_k, lS_l, lS_1, lS_a, lS_k, nS_s, nS_n, nS_1, nS_a, nS_l, updS, updN, nI_eq, nI_leI, nI_ltI, nI_add, pk_mul, nN_e, nN_e', nN_l, nN_g, nN_le, nN_ge, ite_not, if_true, if_false, not_true_eq_false, not_false_eq_true, Nat.not_lt_zero, Nat.reduceEqDiff, Nat.reduceLT, Nat.reduceLeDiff, Nat.reduceAdd, Nat.zero_le, ite_self, reduceCtorEq, bI_t, bI_f, bI_z, bI_1, ok_bb, if_pos, if_neg, h0]
      exact kk S2 (chH P H1 A) (some (x.1 + 1)) (mo P p mk l) fk r2 hm2 (Or.inr ⟨a, A, x, C, rfl, h1, h2, h3, hH', by rw [if_pos h0], p3.symm⟩)
    · simp (disch := omega) only [n_lit, n_m1, ok_S, ok_s, ok_N, ok_n, ↓ok_if, ok_A, ok_a, ok_L, ok_l, ok_zn0, ok_zn1, ok_f2, ok_pure, ok_rI, ok_bn0, ok_bn1, ok_rt, ok_riI, ok_rn0, ok_rn1, ok_go, nx_l, nx_r, sS_s, sS_n, sS_a, sS_l, sS_k, aS_s, aS_n, aS_1, aS_l, aS_k, lS_l, lS_1, lS_a, lS_k, nS_s, nS_n, nS_1, nS_a, nS_l, updS, updN, nI_eq, nI_leI, nI_ltI, nI_add, pk_mul, nN_e, nN_e', nN_l, nN_g, nN_le, nN_ge, ite_not, if_true, if_false, not_true_eq_false, not_false_eq_true, Nat.not_lt_zero, Nat.reduceEqDiff, Nat.reduceLT, Nat.reduceLeDiff, Nat.reduceAdd, Nat.zero_le, ite_self, reduceCtorEq, bI_t, bI_f, bI_z, bI_1, ok_bb, if_pos, if_neg, h0]
      exact kk S2 (chH P H1 A) none (mo P p mk l) fk r2 hm2 (Or.inr ⟨a, A, x, C, rfl, h1, h2, h3, hH', by rw [if_neg h0], p3.symm⟩)
theorem w186 {Q : qJ ⊕ Unit → qSt → Prop} {at0 : Option Nat} {mt : Bool} (hM : MdC S P L n se w B) (hn : n ≤ 200) (hp : p ≤ n) (hs : s ≤ n + 1) (h34 : S.1 34 = bI mt) (hmt : mt = if se = true then decide (s ≤ n) else decide (s = 0)) (kk : ∀ at1, ((((se = true ∧ p = s) ∨ (se = false ∧ s = 0 ∧ p = 0)) ∧ at1 = some 0) ∨ (¬ ((se = true ∧ p = s) ∨ (se = false ∧ s = 0 ∧ p = 0)) ∧ at1 = at0)) → okS (k_Md_work_214 (nI s) (nI p) (atI at1)) S Q) : okS (k_Md_work_186 (nI s) (atI at0) (nI p)) S Q := by
  unfold k_Md_work_186 k_Md_work_213 k_Md_work_206 k_Md_work_213
  have h30 := hM.2.2.2.1
  have e0 : atI (some 0) = nI 0 := rfl
  cases se with
  | true =>
    have hmt' : mt = decide (s ≤ n) := hmt
    by_cases hsn : s ≤ n
    · have hb : mt = true := by rw [hmt']; simpa using hsn
      subst hb
      by_cases hps : p = s
      · simp (disch := omega) only [n_lit, n_m1, ok_S, ok_s, ok_N, ok_n, ↓ok_if, ok_A, ok_a, ok_L, ok_l, ok_zn0, ok_zn1, ok_f2, ok_pure, ok_rI, ok_bn0, ok_bn1, ok_rt, ok_riI, ok_rn0, ok_rn1, ok_go, nx_l, nx_r, sS_s, sS_n, sS_a, sS_l, sS_k, aS_s, aS_n, aS_1, aS_l, aS_k, lS_l, lS_1, lS_a, lS_k, nS_s, nS_n, nS_1, nS_a, nS_l, updS, updN, nI_eq, nI_leI, nI_ltI, nI_add, pk_mul, nN_e, nN_e', nN_l, nN_g, nN_le, nN_ge, ite_not, if_true, if_false, not_true_eq_false, not_false_eq_true, Nat.not_lt_zero, Nat.reduceEqDiff, Nat.reduceLT, Nat.reduceLeDiff, Nat.reduceAdd, Nat.zero_le, ite_self, reduceCtorEq, bI_t, bI_f, bI_z, bI_1, ok_bb, if_pos, if_neg, h34, h30]
        exact kk (some 0) (Or.inl ⟨Or.inl ⟨rfl, hps⟩, rfl⟩)
      · simp (disch := omega) only [n_lit, n_m1, ok_S, ok_s, ok_N, ok_n, ↓ok_if, ok_A, ok_a, ok_L, ok_l, ok_zn0, ok_zn1, ok_f2, ok_pure, ok_rI, ok_bn0, ok_bn1, ok_rt, ok_riI, ok_rn0, ok_rn1, ok_go, nx_l, nx_r, sS_s, sS_n, sS_a, sS_l, sS_k, aS_s, aS_n, aS_1, aS_l, aS_k, lS_l, lS_1, lS_a, lS_k, nS_s, nS_n, nS_1, nS_a, nS_l, updS, updN, nI_eq, nI_leI, nI_ltI, nI_add, pk_mul, nN_e, nN_e', nN_l, nN_g, nN_le, nN_ge, ite_not, if_true, if_false, not_true_eq_false, not_false_eq_true, Nat.not_lt_zero, Nat.reduceEqDiff, Nat.reduceLT, Nat.reduceLeDiff, Nat.reduceAdd, Nat.zero_le, ite_self, reduceCtorEq, bI_t, bI_f, bI_z, bI_1, ok_bb, if_pos, if_neg, h34, h30]
        exact kk at0 (Or.inr ⟨(by rintro (⟨-, q⟩ | ⟨q, -⟩); exact hps q; cases q), rfl⟩)
    · have hb : mt = false := by rw [hmt']; simpa using hsn
      subst hb
      simp (disch := omega) only [n_lit, n_m1, ok_S, ok_s, ok_N, ok_n, ↓ok_if, ok_A, ok_a, ok_L, ok_l, ok_zn0, ok_zn1, ok_f2, ok_pure, ok_rI, ok_bn0, ok_bn1, ok_rt, ok_riI, ok_rn0, ok_rn1, ok_go, nx_l, nx_r, sS_s, sS_n, sS_a, sS_l, sS_k, aS_s, aS_n, aS_1, aS_l, aS_k, lS_l, lS_1, lS_a, lS_k, nS_s, nS_n, nS_1, nS_a, nS_l, updS, updN, nI_eq, nI_leI, nI_ltI, nI_add, pk_mul, nN_e, nN_e', nN_l, nN_g, nN_le, nN_ge, ite_not, if_true, if_false, not_true_eq_false, not_false_eq_true, Nat.not_lt_zero, Nat.reduceEqDiff, Nat.reduceLT, Nat.reduceLeDiff, Nat.reduceAdd, Nat.zero_le, ite_self, reduceCtorEq, bI_t, bI_f, bI_z, bI_1, ok_bb, if_pos, if_neg, h34]
      exact kk at0 (Or.inr ⟨(by rintro (⟨-, q⟩ | ⟨q, -⟩); omega; cases q), rfl⟩)
  | false =>
    have hmt' : mt = decide (s = 0) := hmt
    by_cases hs0 : s = 0
    · have hb : mt = true := by rw [hmt']; simpa using hs0
      subst hb
      by_cases hp0 : p = 0
      · simp (disch := omega) only [n_lit, n_m1, ok_S, ok_s, ok_N, ok_n, ↓ok_if, ok_A, ok_a, ok_L, ok_l, ok_zn0, ok_zn1, ok_f2, ok_pure, ok_rI, ok_bn0, ok_bn1, ok_rt, ok_riI, ok_rn0, ok_rn1, ok_go, nx_l, nx_r, sS_s, sS_n, sS_a, sS_l, sS_k, aS_s, aS_n, aS_1, aS_l, aS_k, lS_l, lS_1, lS_a, lS_k, nS_s, nS_n, nS_1, nS_a, nS_l, updS, updN, nI_eq, nI_leI, nI_ltI, nI_add, pk_mul, nN_e, nN_e', nN_l, nN_g, nN_le, nN_ge, ite_not, if_true, if_false, not_true_eq_false, not_false_eq_true, Nat.not_lt_zero, Nat.reduceEqDiff, Nat.reduceLT, Nat.reduceLeDiff, Nat.reduceAdd, Nat.zero_le, ite_self, reduceCtorEq, bI_t, bI_f, bI_z, bI_1, ok_bb, if_pos, if_neg, h34, h30]
        exact kk (some 0) (Or.inl ⟨Or.inr ⟨rfl, hs0, hp0⟩, rfl⟩)
      · simp (disch := omega) only [n_lit, n_m1, ok_S, ok_s, ok_N, ok_n, ↓ok_if, ok_A, ok_a, ok_L, ok_l, ok_zn0, ok_zn1, ok_f2, ok_pure, ok_rI, ok_bn0, ok_bn1, ok_rt, ok_riI, ok_rn0, ok_rn1, ok_go, nx_l, nx_r, sS_s, sS_n, sS_a, sS_l, sS_k, aS_s, aS_n, aS_1, aS_l, aS_k, lS_l, lS_1, lS_a, lS_k, nS_s, nS_n, nS_1, nS_a, nS_l, updS, updN, nI_eq, nI_leI, nI_ltI, nI_add, pk_mul, nN_e, nN_e', nN_l, nN_g, nN_le, nN_ge, ite_not, if_true, if_false, not_true_eq_false, not_false_eq_true, Nat.not_lt_zero, Nat.reduceEqDiff, Nat.reduceLT, Nat.reduceLeDiff, Nat.reduceAdd, Nat.zero_le, ite_self, reduceCtorEq, bI_t, bI_f, bI_z, bI_1, ok_bb, if_pos, if_neg, h34, h30]
        exact kk at0 (Or.inr ⟨(by rintro (⟨q, -⟩ | ⟨-, -, q⟩); cases q; exact hp0 q), rfl⟩)
    · have hb : mt = false := by rw [hmt']; simpa using hs0
      subst hb
      simp (disch := omega) only [n_lit, n_m1, ok_S, ok_s, ok_N, ok_n, ↓ok_if, ok_A, ok_a, ok_L, ok_l, ok_zn0, ok_zn1, ok_f2, ok_pure, ok_rI, ok_bn0, ok_bn1, ok_rt, ok_riI, ok_rn0, ok_rn1, ok_go, nx_l, nx_r, sS_s, sS_n, sS_a, sS_l, sS_k, aS_s, aS_n, aS_1, aS_l, aS_k, lS_l, lS_1, lS_a, lS_k, nS_s, nS_n, nS_1, nS_a, nS_l, updS, updN, nI_eq, nI_leI, nI_ltI, nI_add, pk_mul, nN_e, nN_e', nN_l, nN_g, nN_le, nN_ge, ite_not, if_true, if_false, not_true_eq_false, not_false_eq_true, Nat.not_lt_zero, Nat.reduceEqDiff, Nat.reduceLT, Nat.reduceLeDiff, Nat.reduceAdd, Nat.zero_le, ite_self, reduceCtorEq, bI_t, bI_f, bI_z, bI_1, ok_bb, if_pos, if_neg, h34]
      exact kk at0 (Or.inr ⟨(by rintro (⟨q, -⟩ | ⟨-, q, -⟩); cases q; exact hs0 q), rfl⟩)
theorem w126 {Q : Unit → qSt → Prop} {at0 : Option Nat} {mt : Bool} {H0 : Nat → Bool} (hW : MdW P L n w) (hM : MdC S P L n se w B) (hp : p ≤ n) (hs : s ≤ n + 1) (h34 : S.1 34 = bI mt) (hmt : mt = if se = true then decide (s ≤ n) else decide (s = 0)) (hR : RowB L (S.2.1 24) H0) (hc : clo P H0)
    (kk : ∀ S' H1, FrSp 24 S S' → RowB L (S'.2.1 24) H1 → (∀ j, j < L → (H1 j = true ↔ H0 j = true ∨ (((se = true ∧ p < s) ∨ (se = false ∧ p = 0)) ∧ Eps P 0 j))) → okS (k_Md_work_186 (nI s) (atI at0) (nI p)) S' (nxS b_Md_work Q)) : okS (w_fix b_Md_work (126, [.int (nI s), .int (atI at0), .int (nI p)], [])) S Q := by
  refine ok_fix ?_
  show okS (k_Md_work_126 (nI s) (atI at0) (nI p)) S _
  unfold k_Md_work_126 k_Md_work_153
  have h31 := hM.2.2.1
  have h30 := hM.2.2.2.1
  have hw := hW.1
  have hn := hW.2.1
  have no : ¬ ((se = true ∧ p < s) ∨ (se = false ∧ p = 0)) → okS (k_Md_work_170 (nI s) (atI at0) (nI p) (nI 0)) S (nxS b_Md_work Q) := by
    intro hb
    unfold k_Md_work_170
    simp (disch := omega) only [n_lit, n_m1, ok_S, ok_s, ok_N, ok_n, ↓ok_if, ok_A, ok_a, ok_L, ok_l, ok_zn0, ok_zn1, ok_f2, ok_pure, ok_rI, ok_bn0, ok_bn1, ok_rt, ok_riI, ok_rn0, ok_rn1, ok_go, nx_l, nx_r, sS_s, sS_n, sS_a, sS_l, sS_k, aS_s, aS_n, aS_1, aS_l, aS_k, lS_l, lS_1, lS_a, lS_k, nS_s, nS_n, nS_1, nS_a, nS_l, updS, updN, nI_eq, nI_leI, nI_ltI, nI_add, pk_mul, nN_e, nN_e', nN_l, nN_g, nN_le, nN_ge, ite_not, if_true, if_false, not_true_eq_false, not_false_eq_true, Nat.not_lt_zero, Nat.reduceEqDiff, Nat.reduceLT, Nat.reduceLeDiff, Nat.reduceAdd, Nat.zero_le, ite_self, reduceCtorEq, bI_t, bI_f, bI_z, bI_1, ok_bb]
    exact kk S H0 ⟨fun _ _ => rfl, fun _ _ _ => rfl, rfl⟩ hR (fun j _ => ⟨fun h => Or.inl h, fun h => h.elim id (fun h => absurd h.1 hb)⟩)
  have yes : ((se = true ∧ p < s) ∨ (se = false ∧ p = 0)) → okS (k_Md_work_170 (nI s) (atI at0) (nI p) (nI 1)) S (nxS b_Md_work Q) := by
    intro hb
    unfold k_Md_work_170
    simp (disch := omega) only [n_lit, n_m1, ok_S, ok_s, ok_N, ok_n, ↓ok_if, ok_A, ok_a, ok_L, ok_l, ok_zn0, ok_zn1, ok_f2, ok_pure, ok_rI, ok_bn0, ok_bn1, ok_rt, ok_riI, ok_rn0, ok_rn1, ok_go, nx_l, nx_r, sS_s, sS_n, sS_a, sS_l, sS_k, aS_s, aS_n, aS_1, aS_l, aS_k, lS_l, lS_1, lS_a, lS_k, nS_s, nS_n, nS_1, nS_a, nS_l, updS, updN, nI_eq, nI_leI, nI_ltI, nI_add, pk_mul, nN_e, nN_e', nN_l, nN_g, nN_le, nN_ge, ite_not, if_true, if_false, not_true_eq_false, not_false_eq_true, Nat.not_lt_zero, Nat.reduceEqDiff, Nat.reduceLT, Nat.reduceLeDiff, Nat.reduceAdd, Nat.zero_le, ite_self, reduceCtorEq, bI_t, bI_f, bI_z, bI_1, ok_bb]
    refine ok_C (e_spreadH hw hw.2.1 hM hR hc ?_)
    intro S' V' f r c q
    exact kk S' V' f r (fun j _ => by rw [q j]; exact ⟨fun h => h.elim Or.inl (fun h => Or.inr ⟨hb, h⟩), fun h => h.elim Or.inl (fun h => Or.inr h.2)⟩)
  cases se with
  | false =>
    by_cases hp0 : p = 0
    · simp (disch := omega) only [n_lit, n_m1, ok_S, ok_s, ok_N, ok_n, ↓ok_if, ok_A, ok_a, ok_L, ok_l, ok_zn0, ok_zn1, ok_f2, ok_pure, ok_rI, ok_bn0, ok_bn1, ok_rt, ok_riI, ok_rn0, ok_rn1, ok_go, nx_l, nx_r, sS_s, sS_n, sS_a, sS_l, sS_k, aS_s, aS_n, aS_1, aS_l, aS_k, lS_l, lS_1, lS_a, lS_k, nS_s, nS_n, nS_1, nS_a, nS_l, updS, updN, nI_eq, nI_leI, nI_ltI, nI_add, pk_mul, nN_e, nN_e', nN_l, nN_g, nN_le, nN_ge, ite_not, if_true, if_false, not_true_eq_false, not_false_eq_true, Nat.not_lt_zero, Nat.reduceEqDiff, Nat.reduceLT, Nat.reduceLeDiff, Nat.reduceAdd, Nat.zero_le, ite_self, reduceCtorEq, bI_t, bI_f, bI_z, bI_1, ok_bb, if_pos, if_neg, h31, h30]
      exact yes (Or.inr ⟨rfl, hp0⟩)
    · simp (disch := omega) only [n_lit, n_m1, ok_S, ok_s, ok_N, ok_n, ↓ok_if, ok_A, ok_a, ok_L, ok_l, ok_zn0, ok_zn1, ok_f2, ok_pure, ok_rI, ok_bn0, ok_bn1, ok_rt, ok_riI, ok_rn0, ok_rn1, ok_go, nx_l, nx_r, sS_s, sS_n, sS_a, sS_l, sS_k, aS_s, aS_n, aS_1, aS_l, aS_k, lS_l, lS_1, lS_a, lS_k, nS_s, nS_n, nS_1, nS_a, nS_l, updS, updN, nI_eq, nI_leI, nI_ltI, nI_add, pk_mul, nN_e, nN_e', nN_l, nN_g, nN_le, nN_ge, ite_not, if_true, if_false, not_true_eq_false, not_false_eq_true, Nat.not_lt_zero, Nat.reduceEqDiff, Nat.reduceLT, Nat.reduceLeDiff, Nat.reduceAdd, Nat.zero_le, ite_self, reduceCtorEq, bI_t, bI_f, bI_z, bI_1, ok_bb, if_pos, if_neg, h31, h30]
      exact no (by rintro (⟨q, -⟩ | ⟨-, q⟩); cases q; exact hp0 q)
  | true =>
    have hmt' : mt = decide (s ≤ n) := hmt
    by_cases hsn : s ≤ n
    · have hb : mt = true := by rw [hmt']; simpa using hsn
      subst hb
      by_cases hps : p < s
      · simp (disch := omega) only [n_lit, n_m1, ok_S, ok_s, ok_N, ok_n, ↓ok_if, ok_A, ok_a, ok_L, ok_l, ok_zn0, ok_zn1, ok_f2, ok_pure, ok_rI, ok_bn0, ok_bn1, ok_rt, ok_riI, ok_rn0, ok_rn1, ok_go, nx_l, nx_r, sS_s, sS_n, sS_a, sS_l, sS_k, aS_s, aS_n, aS_1, aS_l, aS_k, lS_l, lS_1, lS_a, lS_k, nS_s, nS_n, nS_1, nS_a, nS_l, updS, updN, nI_eq, nI_leI, nI_ltI, nI_add, pk_mul, nN_e, nN_e', nN_l, nN_g, nN_le, nN_ge, ite_not, if_true, if_false, not_true_eq_false, not_false_eq_true, Nat.not_lt_zero, Nat.reduceEqDiff, Nat.reduceLT, Nat.reduceLeDiff, Nat.reduceAdd, Nat.zero_le, ite_self, reduceCtorEq, bI_t, bI_f, bI_z, bI_1, ok_bb, if_pos, if_neg, h31, h30, h34]
        exact yes (Or.inl ⟨rfl, hps⟩)
      · simp (disch := omega) only [n_lit, n_m1, ok_S, ok_s, ok_N, ok_n, ↓ok_if, ok_A, ok_a, ok_L, ok_l, ok_zn0, ok_zn1, ok_f2, ok_pure, ok_rI, ok_bn0, ok_bn1, ok_rt, ok_riI, ok_rn0, ok_rn1, ok_go, nx_l, nx_r, sS_s, sS_n, sS_a, sS_l, sS_k, aS_s, aS_n, aS_1, aS_l, aS_k, lS_l, lS_1, lS_a, lS_k, nS_s, nS_n, nS_1, nS_a, nS_l, updS, updN, nI_eq, nI_leI, nI_ltI, nI_add, pk_mul, nN_e, nN_e', nN_l, nN_g, nN_le, nN_ge, ite_not, if_true, if_false, not_true_eq_false, not_false_eq_true, Nat.not_lt_zero, Nat.reduceEqDiff, Nat.reduceLT, Nat.reduceLeDiff, Nat.reduceAdd, Nat.zero_le, ite_self, reduceCtorEq, bI_t, bI_f, bI_z, bI_1, ok_bb, if_pos, if_neg, h31, h30, h34]
        exact no (by rintro (⟨-, q⟩ | ⟨q, -⟩); exact hps q; cases q)
    · have hb : mt = false := by rw [hmt']; simpa using hsn
      subst hb
      simp (disch := omega) only [n_lit, n_m1, ok_S, ok_s, ok_N, ok_n, ↓ok_if, ok_A, ok_a, ok_L, ok_l, ok_zn0, ok_zn1, ok_f2, ok_pure, ok_rI, ok_bn0, ok_bn1, ok_rt, ok_riI, ok_rn0, ok_rn1, ok_go, nx_l, nx_r, sS_s, sS_n, sS_a, sS_l, sS_k, aS_s, aS_n, aS_1, aS_l, aS_k, lS_l, lS_1, lS_a, lS_k, nS_s, nS_n, nS_1, nS_a, nS_l, updS, updN, nI_eq, nI_leI, nI_ltI, nI_add, pk_mul, nN_e, nN_e', nN_l, nN_g, nN_le, nN_ge, ite_not, if_true, if_false, not_true_eq_false, not_false_eq_true, Nat.not_lt_zero, Nat.reduceEqDiff, Nat.reduceLT, Nat.reduceLeDiff, Nat.reduceAdd, Nat.zero_le, ite_self, reduceCtorEq, bI_t, bI_f, bI_z, bI_1, ok_bb, if_pos, if_neg, h31, h30, h34]
      exact yes (Or.inl ⟨rfl, by omega⟩)
def InvP (P : Pg) (L n : Nat) (se : Bool) (tk : Nat → Nat → Bool) (s p : Nat) (H0 : Nat → Bool) (at_ : Option Nat) (mk : Mk) : Prop :=
  (p = 0 ∧ H0 = (fun _ => false) ∧ at_ = none ∧ mk = mk0) ∨ ∃ p' H, p = p' + 1 ∧ JJ P L n se tk s p' (runW P se tk p') H at_ mk ∧ (∀ j, j < L → (H0 j = true ↔ ∃ k, k < L ∧ H k = true ∧ P.1 k = 0 ∧ tk p' k = true ∧ Eps P (k + 1) j))
theorem placeL {Q : Unit → qSt → Prop} {mt : Bool} (hW : MdW P L n w) (hs : s ≤ n + 1) (hmt : mt = if se = true then decide (s ≤ n) else decide (s = 0)) (hs1 : ∀ q, q < s → ¬ Rch P n se (tkM P n w B) q 0) (hs2 : s ≤ n → Rch P n se (tkM P n w B) s 0) : ∀ d p, p + d = n + 1 → 0 < d → ∀ (S : qSt) (H0 : Nat → Bool) (at_ : Option Nat) (mk : Mk), MdC S P L n se w B → S.1 34 = bI mt → Can P L n se (tkM P n w B) (S.2.1 21) → RowB L (S.2.1 24) H0 → clo P H0 → Mks (S.2.1 22) mk → InvP P L n se (tkM P n w B) s p H0 at_ mk →
    (∀ S' H at_ mk, FrK S S' → RowB L (S'.2.1 24) H → Mks (S'.2.1 22) mk → JJ P L n se (tkM P n w B) s n (runW P se (tkM P n w B) n) H at_ mk → okS (w_fix b_Md_work (274, [.int (nI 0)], [])) S' Q) → okS (w_fix b_Md_work (126, [.int (nI s), .int (atI at_), .int (nI p)], [])) S Q := by
  have hw := hW.1
  have hn := hW.2.1
  intro d
  induction d with
  | zero => intro p _ h; omega
  | succ d ih =>
    intro p hpd _ S H0 at_ mk hM h34 hG hR hc hm hI kk
    have hp : p ≤ n := by omega
    refine w126 (mt := mt) hW hM hp hs h34 hmt hR hc ?_
    intro S1 H1 f1 r1 q1
    have hM1 := MdC_fr hM (FrSp_M (by omega) f1)
    refine w186 (mt := mt) hM1 hn hp hs ((f1.1 34 (by omega)).trans h34) hmt ?_
    intro at1 hat1
    have hG1 : Can P L n se (tkM P n w B) (S1.2.1 21) := by rw [f1.2.1 21 (by omega) (by omega)]; exact hG
    refine w214 (mk := mk) hW hM1 hp hG1 r1 (by rw [f1.2.1 22 (by omega) (by omega)]; exact hm) ?_ ?_
    · intro a ha
      rcases hat1 with ⟨hst, h⟩ | ⟨hst, h⟩
      · rw [h] at ha
        cases ha
        refine ⟨hw.2.1, ?_⟩
        rcases hst with ⟨-, q⟩ | ⟨-, q, q'⟩
        · rw [q]; exact hs2 (by omega)
        · have := hs2 (by omega); rw [q] at this; rw [q']; exact this
      · rw [h] at ha
        rcases hI with ⟨-, -, q, -⟩ | ⟨p', H, e1, e2, -⟩
        · rw [q] at ha; cases ha
        · subst e1
          rw [ha] at e2
          exact J_at hw (runW_tk hw p') e2
    · intro S2 H2 at2 mk2 f2 r2 m2 hcase
      have hRef : RefP P L n se (tkM P n w B) s p H0 at_ mk H2 at2 mk2 := ⟨H1, at1, q1, hat1, hcase⟩
      have hJ : JJ P L n se (tkM P n w B) s p (runW P se (tkM P n w B) p) H2 at2 mk2 := by
        rcases hI with ⟨e1, e2, e3, e4⟩ | ⟨p', H, e1, e2, e3⟩
        · subst e1 e2 e3 e4
          exact J_beg hw hs1 hs2 hRef
        · subst e1
          exact J_stp hw hs1 hs2 (by omega) (runW_tk hw p') e2 e3 hRef
      have fk : FrK S S2 := FrK_tr f2 ⟨f1.1, fun f h => f1.2.1 f (by omega) (by omega), f1.2.2⟩
      have hM2 := MdC_fr hM (FrK_M fk)
      refine w253 hW hM2 hp r2 ?_ ?_
      · intro hpn S3 V3 f3 e22 r3 c3 q3
        have fk3 := FrK_tr f3 fk
        refine ih (p + 1) (by omega) (by omega) S3 V3 at2 mk2 (MdC_fr hM (FrK_M fk3)) ((fk3.1 34 (by omega)).trans h34) (by rw [fk3.2.1 21 (by omega)]; exact hG) r3 c3 (by rw [e22]; exact m2) (Or.inr ⟨p, H2, rfl, hJ, fun j _ => q3 j⟩) ?_
        intro S' H at' mk' f4 r4 m4 j4
        exact kk S' H at' mk' (FrK_tr f4 fk3) r4 m4 j4
      · intro hpn
        subst hpn
        refine ok_fix ?_
        show okS (k_Md_work_126 (nI s) (atI at2) (nI (p + 1))) S2 _
        unfold k_Md_work_126
        have h31 := hM2.2.2.1
        simp (disch := omega) only [n_lit, n_m1, ok_S, ok_s, ok_N, ok_n, ↓ok_if, ok_A, ok_a, ok_L, ok_l, ok_zn0, ok_zn1, ok_f2, ok_pure, ok_rI, ok_bn0, ok_bn1, ok_rt, ok_riI, ok_rn0, ok_rn1, ok_go, nx_l, nx_r, sS_s, sS_n, sS_a, sS_l, sS_k, aS_s, aS_n, aS_1, aS_l, aS_k, lS_l, lS_1, lS_a, lS_k, nS_s, nS_n, nS_1, nS_a, nS_l, updS, updN, nI_eq, nI_leI, nI_ltI, nI_add, pk_mul, nN_e, nN_e', nN_l, nN_g, nN_le, nN_ge, ite_not, if_true, if_false, not_true_eq_false, not_false_eq_true, Nat.not_lt_zero, Nat.reduceEqDiff, Nat.reduceLT, Nat.reduceLeDiff, Nat.reduceAdd, Nat.zero_le, ite_self, reduceCtorEq, bI_t, bI_f, bI_z, bI_1, ok_bb, if_pos, if_neg, h31]
        exact kk S2 H2 at2 mk2 fk r2 m2 hJ
end WO
