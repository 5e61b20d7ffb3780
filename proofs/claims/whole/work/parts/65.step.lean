/-! THE WALK of the class: begin and step -/
abbrev Wst : Type := (Nat → Bool) × List (Nat × Mk) × Option Mk × Bool
def fol1 (P : Pg) (se : Bool) (i k : Nat) (m : Mk) (st : Wst) : Wst := (visV st.1 (cutl P se (dfs P (nI i) 400 [(k, m)] st.1)), st.2.1 ++ tks P (cutl P se (dfs P (nI i) 400 [(k, m)] st.1)), fdF P st.2.2.1 (cutl P se (dfs P (nI i) 400 [(k, m)] st.1)), se && hit P (cutl P se (dfs P (nI i) 400 [(k, m)] st.1)))
def folW (P : Pg) (se : Bool) (i : Nat) (tk : Nat → Bool) : List (Nat × Mk) → Wst → Wst
  | [], st => st
  | e :: l, st => if st.2.2.2 = true then st else if tk e.1 = true then folW P se i tk l (fol1 P se i (e.1 + 1) e.2 st) else folW P se i tk l st
def mk0 : Mk := fun _ => nN
def finW (P : Pg) (se : Bool) (i : Nat) (st : Wst) : Wst := if se = true ∧ st.2.2.1 = none then fol1 P se i 0 mk0 st else st
def begW (P : Pg) (se : Bool) : Wst := fol1 P se 0 0 mk0 (fun _ => false, [], none, false)
def stpW (P : Pg) (se : Bool) (i : Nat) (tk : Nat → Bool) (ws : List (Nat × Mk)) (fd : Option Mk) : Wst := finW P se i (folW P se i tk ws (fun _ => false, [], if se = true then fd else none, false))
def FrB (S S' : qSt) : Prop := S'.2.2.1 = S.2.2.1 ∧ (∀ f, f < 187 → S'.1 f = S.1 f) ∧ (∀ f, f < 11 → S'.2.1 f = S.2.1 f)
theorem FrB_of {S S' : qSt} (h : FrF S S') : FrB S S' := ⟨by rw [h.1], fun f hf => h.2.1 f (by omega) (by omega) (by omega) (by omega), fun f hf => h.2.2 f (by omega) (by omega) (by omega) (by omega) (by omega) (by omega) (by omega)⟩
theorem FrB_trans {S S1 S2 : qSt} (h : FrB S S1) (h' : FrB S1 S2) : FrB S S2 := ⟨h'.1.trans h.1, fun f hf => (h'.2.1 f hf).trans (h.2.1 f hf), fun f hf => (h'.2.2 f hf).trans (h.2.2 f hf)⟩
theorem PgS_frB {S S' : qSt} {P : Pg} {L : Nat} (h : PgS S P L) (hf : FrB S S') : PgS S' P L := by
  refine ⟨(hf.2.1 103 (by omega)).trans h.1, fun k hk => ?_⟩
  rw [hf.2.2 6 (by omega), hf.2.2 7 (by omega), hf.2.2 8 (by omega)]
  exact h.2 k hk
def TkOk (P : Pg) (L : Nat) (ws : List (Nat × Mk)) : Prop := ∀ e ∈ ws, e.1 < L ∧ P.1 e.1 = 0
/-- a state of the walk, and how much it holds -/
def WkT (S : qSt) (L i : Nat) (st : Wst) : Prop := ∃ m, WkS S i st.1 st.2.1 st.2.2.1 st.2.2.2 m ∧ st.2.1.length + unv st.1 L ≤ 160
theorem e_fol1 {o : Nat} {P : Pg} {L i : Nat} {se : Bool} {S : qSt} {st : Wst} {m : Mk} {k : Nat} (hw : WF P L) (hi : i ≤ 200) (hk : k < L) (hP : PgS S P L) (hse : S.1 191 = bI se) (hc : st.2.2.2 = false) (hW : WkS S i st.1 st.2.1 st.2.2.1 st.2.2.2 m) (hu : st.2.1.length + unv st.1 L ≤ 160) : okS (f_Wk_follow o (nI k)) S (fun _ S' => FrF S S' ∧ WkT S' L i (fol1 P se i k m st)) := by
  rw [hc] at hW
  refine ok_mono (e_follow hw hi hk hP hse hW hu) ?_
  intro _ S' h
  obtain ⟨m', h1, h2, h3⟩ := h
  exact ⟨h1, m', h2, h3⟩
theorem e_start {o : Nat} {P : Pg} {L i : Nat} {se : Bool} {S : qSt} {st : Wst} (hw : WF P L) (hi : i ≤ 200) (hP : PgS S P L) (hse : S.1 191 = bI se) (hc : st.2.2.2 = false) (hW : WkT S L i st) : okS (f_Wk_followFromStart o) S (fun _ S' => FrF S S' ∧ WkT S' L i (fol1 P se i 0 mk0 st)) := by
  unfold f_Wk_followFromStart
  obtain ⟨m, hW, hu⟩ := hW
  simp (disch := omega) only [n_lit, n_m1, ok_S, ok_s, ok_N, ok_n, ↓ok_if, ok_A, ok_a, ok_L, ok_l, ok_zn0, ok_zn1, ok_f2, ok_pure, ok_rI, ok_bn0, ok_bn1, ok_rt, ok_riI, ok_rn0, ok_rn1, ok_go, nx_l, nx_r, sS_s, sS_n, sS_a, sS_l, sS_k, aS_s, aS_n, aS_1, aS_l, aS_k, lS_l, lS_1, lS_a, lS_k, nS_s, nS_n, nS_1, nS_a, nS_l, updS, updN, nI_eq, nI_leI, nI_ltI, nI_add, pk_mul, nN_e, nN_e', nN_l, nN_g, nN_le, nN_ge, ite_not, if_true, if_false, not_true_eq_false, not_false_eq_true, Nat.not_lt_zero, Nat.reduceEqDiff, Nat.reduceLT, Nat.reduceLeDiff, Nat.reduceAdd, Nat.zero_le, ite_self, reduceCtorEq]
  refine ok_C (e_fill19 ?_)
  intro g hg
  have ef : FrF S (aS S 19 g) := by
    refine ⟨rfl, fun f h1 h2 h3 h4 => rfl, fun f h1 h2 h3 h4 h5 h6 h7 => ?_⟩
    simp (disch := omega) only [n_lit, n_m1, ok_S, ok_s, ok_N, ok_n, ↓ok_if, ok_A, ok_a, ok_L, ok_l, ok_zn0, ok_zn1, ok_f2, ok_pure, ok_rI, ok_bn0, ok_bn1, ok_rt, ok_riI, ok_rn0, ok_rn1, ok_go, nx_l, nx_r, sS_s, sS_n, sS_a, sS_l, sS_k, aS_s, aS_n, aS_1, aS_l, aS_k, lS_l, lS_1, lS_a, lS_k, nS_s, nS_n, nS_1, nS_a, nS_l, updS, updN, nI_eq, nI_leI, nI_ltI, nI_add, pk_mul, nN_e, nN_e', nN_l, nN_g, nN_le, nN_ge, ite_not, if_true, if_false, not_true_eq_false, not_false_eq_true, Nat.not_lt_zero, Nat.reduceEqDiff, Nat.reduceLT, Nat.reduceLeDiff, Nat.reduceAdd, Nat.zero_le, ite_self, reduceCtorEq]
  refine ok_C (ok_mono (e_fol1 (st := st) (m := mk0) (k := 0) hw hi hw.2.1 (PgS_fr hP ef hW.2.2.1) hse hc ?_ hu) ?_)
  · exact WkS_mk hW rfl rfl (by simp (disch := omega) only [n_lit, n_m1, ok_S, ok_s, ok_N, ok_n, ↓ok_if, ok_A, ok_a, ok_L, ok_l, ok_zn0, ok_zn1, ok_f2, ok_pure, ok_rI, ok_bn0, ok_bn1, ok_rt, ok_riI, ok_rn0, ok_rn1, ok_go, nx_l, nx_r, sS_s, sS_n, sS_a, sS_l, sS_k, aS_s, aS_n, aS_1, aS_l, aS_k, lS_l, lS_1, lS_a, lS_k, nS_s, nS_n, nS_1, nS_a, nS_l, updS, updN, nI_eq, nI_leI, nI_ltI, nI_add, pk_mul, nN_e, nN_e', nN_l, nN_g, nN_le, nN_ge, ite_not, if_true, if_false, not_true_eq_false, not_false_eq_true, Nat.not_lt_zero, Nat.reduceEqDiff, Nat.reduceLT, Nat.reduceLeDiff, Nat.reduceAdd, Nat.zero_le, ite_self, reduceCtorEq]; exact hW.2.1) rfl (by simp (disch := omega) only [n_lit, n_m1, ok_S, ok_s, ok_N, ok_n, ↓ok_if, ok_A, ok_a, ok_L, ok_l, ok_zn0, ok_zn1, ok_f2, ok_pure, ok_rI, ok_bn0, ok_bn1, ok_rt, ok_riI, ok_rn0, ok_rn1, ok_go, nx_l, nx_r, sS_s, sS_n, sS_a, sS_l, sS_k, aS_s, aS_n, aS_1, aS_l, aS_k, lS_l, lS_1, lS_a, lS_k, nS_s, nS_n, nS_1, nS_a, nS_l, updS, updN, nI_eq, nI_leI, nI_ltI, nI_add, pk_mul, nN_e, nN_e', nN_l, nN_g, nN_le, nN_ge, ite_not, if_true, if_false, not_true_eq_false, not_false_eq_true, Nat.not_lt_zero, Nat.reduceEqDiff, Nat.reduceLT, Nat.reduceLeDiff, Nat.reduceAdd, Nat.zero_le, ite_self, reduceCtorEq]) (by simp (disch := omega) only [n_lit, n_m1, ok_S, ok_s, ok_N, ok_n, ↓ok_if, ok_A, ok_a, ok_L, ok_l, ok_zn0, ok_zn1, ok_f2, ok_pure, ok_rI, ok_bn0, ok_bn1, ok_rt, ok_riI, ok_rn0, ok_rn1, ok_go, nx_l, nx_r, sS_s, sS_n, sS_a, sS_l, sS_k, aS_s, aS_n, aS_1, aS_l, aS_k, lS_l, lS_1, lS_a, lS_k, nS_s, nS_n, nS_1, nS_a, nS_l, updS, updN, nI_eq, nI_leI, nI_ltI, nI_add, pk_mul, nN_e, nN_e', nN_l, nN_g, nN_le, nN_ge, ite_not, if_true, if_false, not_true_eq_false, not_false_eq_true, Nat.not_lt_zero, Nat.reduceEqDiff, Nat.reduceLT, Nat.reduceLeDiff, Nat.reduceAdd, Nat.zero_le, ite_self, reduceCtorEq]) rfl (by simp (disch := omega) only [n_lit, n_m1, ok_S, ok_s, ok_N, ok_n, ↓ok_if, ok_A, ok_a, ok_L, ok_l, ok_zn0, ok_zn1, ok_f2, ok_pure, ok_rI, ok_bn0, ok_bn1, ok_rt, ok_riI, ok_rn0, ok_rn1, ok_go, nx_l, nx_r, sS_s, sS_n, sS_a, sS_l, sS_k, aS_s, aS_n, aS_1, aS_l, aS_k, lS_l, lS_1, lS_a, lS_k, nS_s, nS_n, nS_1, nS_a, nS_l, updS, updN, nI_eq, nI_leI, nI_ltI, nI_add, pk_mul, nN_e, nN_e', nN_l, nN_g, nN_le, nN_ge, ite_not, if_true, if_false, not_true_eq_false, not_false_eq_true, Nat.not_lt_zero, Nat.reduceEqDiff, Nat.reduceLT, Nat.reduceLeDiff, Nat.reduceAdd, Nat.zero_le, ite_self, reduceCtorEq]) rfl (by simp (disch := omega) only [n_lit, n_m1, ok_S, ok_s, ok_N, ok_n, ↓ok_if, ok_A, ok_a, ok_L, ok_l, ok_zn0, ok_zn1, ok_f2, ok_pure, ok_rI, ok_bn0, ok_bn1, ok_rt, ok_riI, ok_rn0, ok_rn1, ok_go, nx_l, nx_r, sS_s, sS_n, sS_a, sS_l, sS_k, aS_s, aS_n, aS_1, aS_l, aS_k, lS_l, lS_1, lS_a, lS_k, nS_s, nS_n, nS_1, nS_a, nS_l, updS, updN, nI_eq, nI_leI, nI_ltI, nI_add, pk_mul, nN_e, nN_e', nN_l, nN_g, nN_le, nN_ge, ite_not, if_true, if_false, not_true_eq_false, not_false_eq_true, Nat.not_lt_zero, Nat.reduceEqDiff, Nat.reduceLT, Nat.reduceLeDiff, Nat.reduceAdd, Nat.zero_le, ite_self, reduceCtorEq]; exact hg)
  · intro _ S' h
    simp (disch := omega) only [n_lit, n_m1, ok_S, ok_s, ok_N, ok_n, ↓ok_if, ok_A, ok_a, ok_L, ok_l, ok_zn0, ok_zn1, ok_f2, ok_pure, ok_rI, ok_bn0, ok_bn1, ok_rt, ok_riI, ok_rn0, ok_rn1, ok_go, nx_l, nx_r, sS_s, sS_n, sS_a, sS_l, sS_k, aS_s, aS_n, aS_1, aS_l, aS_k, lS_l, lS_1, lS_a, lS_k, nS_s, nS_n, nS_1, nS_a, nS_l, updS, updN, nI_eq, nI_leI, nI_ltI, nI_add, pk_mul, nN_e, nN_e', nN_l, nN_g, nN_le, nN_ge, ite_not, if_true, if_false, not_true_eq_false, not_false_eq_true, Nat.not_lt_zero, Nat.reduceEqDiff, Nat.reduceLT, Nat.reduceLeDiff, Nat.reduceAdd, Nat.zero_le, ite_self, reduceCtorEq]
    exact ⟨FrF_trans ef h.1, h.2⟩
theorem e_begin {o : Nat} {P : Pg} {L : Nat} {se : Bool} {S : qSt} (hw : WF P L) (hP : PgS S P L) (hf : S.2.2.2 0 < 2) : okS (f_Wk_begin o (bI se)) S (fun _ S' => FrB S S' ∧ S'.2.2.2 = S.2.2.2 ∧ S'.1 190 = nI 1 ∧ S'.1 191 = bI se ∧ WkT S' L 0 (begW P se)) := by
  unfold f_Wk_begin
  rw [ok_z1, ok_zv (bI_01 se)]
  simp (disch := omega) only [n_lit, n_m1, ok_S, ok_s, ok_N, ok_n, ↓ok_if, ok_A, ok_a, ok_L, ok_l, ok_zn0, ok_zn1, ok_f2, ok_pure, ok_rI, ok_bn0, ok_bn1, ok_rt, ok_riI, ok_rn0, ok_rn1, ok_go, nx_l, nx_r, sS_s, sS_n, sS_a, sS_l, sS_k, aS_s, aS_n, aS_1, aS_l, aS_k, lS_l, lS_1, lS_a, lS_k, nS_s, nS_n, nS_1, nS_a, nS_l, updS, updN, nI_eq, nI_leI, nI_ltI, nI_add, pk_mul, nN_e, nN_e', nN_l, nN_g, nN_le, nN_ge, ite_not, if_true, if_false, not_true_eq_false, not_false_eq_true, Nat.not_lt_zero, Nat.reduceEqDiff, Nat.reduceLT, Nat.reduceLeDiff, Nat.reduceAdd, Nat.zero_le, ite_self, reduceCtorEq]
  refine ok_C (e_fill16 ?_)
  intro g hg
  have eb : FrB S (aS (sS (sS (sS (sS (sS (sS S 190 (nI 1)) 191 (bI se)) 192 (nI 0)) 193 (nI 0)) 194 (nI 0)) (202 + 60 * S.2.2.2 0) (nI 0)) 16 g) := by
    refine ⟨rfl, fun f h1 => ?_, fun f h1 => ?_⟩
    · simp (disch := omega) only [n_lit, n_m1, ok_S, ok_s, ok_N, ok_n, ↓ok_if, ok_A, ok_a, ok_L, ok_l, ok_zn0, ok_zn1, ok_f2, ok_pure, ok_rI, ok_bn0, ok_bn1, ok_rt, ok_riI, ok_rn0, ok_rn1, ok_go, nx_l, nx_r, sS_s, sS_n, sS_a, sS_l, sS_k, aS_s, aS_n, aS_1, aS_l, aS_k, lS_l, lS_1, lS_a, lS_k, nS_s, nS_n, nS_1, nS_a, nS_l, updS, updN, nI_eq, nI_leI, nI_ltI, nI_add, pk_mul, nN_e, nN_e', nN_l, nN_g, nN_le, nN_ge, ite_not, if_true, if_false, not_true_eq_false, not_false_eq_true, Nat.not_lt_zero, Nat.reduceEqDiff, Nat.reduceLT, Nat.reduceLeDiff, Nat.reduceAdd, Nat.zero_le, ite_self, reduceCtorEq]
    · simp (disch := omega) only [n_lit, n_m1, ok_S, ok_s, ok_N, ok_n, ↓ok_if, ok_A, ok_a, ok_L, ok_l, ok_zn0, ok_zn1, ok_f2, ok_pure, ok_rI, ok_bn0, ok_bn1, ok_rt, ok_riI, ok_rn0, ok_rn1, ok_go, nx_l, nx_r, sS_s, sS_n, sS_a, sS_l, sS_k, aS_s, aS_n, aS_1, aS_l, aS_k, lS_l, lS_1, lS_a, lS_k, nS_s, nS_n, nS_1, nS_a, nS_l, updS, updN, nI_eq, nI_leI, nI_ltI, nI_add, pk_mul, nN_e, nN_e', nN_l, nN_g, nN_le, nN_ge, ite_not, if_true, if_false, not_true_eq_false, not_false_eq_true, Nat.not_lt_zero, Nat.reduceEqDiff, Nat.reduceLT, Nat.reduceLeDiff, Nat.reduceAdd, Nat.zero_le, ite_self, reduceCtorEq]
  have hwk : WkT (aS (sS (sS (sS (sS (sS (sS S 190 (nI 1)) 191 (bI se)) 192 (nI 0)) 193 (nI 0)) 194 (nI 0)) (202 + 60 * S.2.2.2 0) (nI 0)) 16 g) L 0 (fun _ => false, [], none, false) := by
    refine ⟨S.2.1 19, ⟨by simp (disch := omega) only [n_lit, n_m1, ok_S, ok_s, ok_N, ok_n, ↓ok_if, ok_A, ok_a, ok_L, ok_l, ok_zn0, ok_zn1, ok_f2, ok_pure, ok_rI, ok_bn0, ok_bn1, ok_rt, ok_riI, ok_rn0, ok_rn1, ok_go, nx_l, nx_r, sS_s, sS_n, sS_a, sS_l, sS_k, aS_s, aS_n, aS_1, aS_l, aS_k, lS_l, lS_1, lS_a, lS_k, nS_s, nS_n, nS_1, nS_a, nS_l, updS, updN, nI_eq, nI_leI, nI_ltI, nI_add, pk_mul, nN_e, nN_e', nN_l, nN_g, nN_le, nN_ge, ite_not, if_true, if_false, not_true_eq_false, not_false_eq_true, Nat.not_lt_zero, Nat.reduceEqDiff, Nat.reduceLT, Nat.reduceLeDiff, Nat.reduceAdd, Nat.zero_le, ite_self, reduceCtorEq], ?_, hf, ?_, ⟨by simp (disch := omega) only [n_lit, n_m1, ok_S, ok_s, ok_N, ok_n, ↓ok_if, ok_A, ok_a, ok_L, ok_l, ok_zn0, ok_zn1, ok_f2, ok_pure, ok_rI, ok_bn0, ok_bn1, ok_rt, ok_riI, ok_rn0, ok_rn1, ok_go, nx_l, nx_r, sS_s, sS_n, sS_a, sS_l, sS_k, aS_s, aS_n, aS_1, aS_l, aS_k, lS_l, lS_1, lS_a, lS_k, nS_s, nS_n, nS_1, nS_a, nS_l, updS, updN, nI_eq, nI_leI, nI_ltI, nI_add, pk_mul, nN_e, nN_e', nN_l, nN_g, nN_le, nN_ge, ite_not, if_true, if_false, not_true_eq_false, not_false_eq_true, Nat.not_lt_zero, Nat.reduceEqDiff, Nat.reduceLT, Nat.reduceLeDiff, Nat.reduceAdd, Nat.zero_le, ite_self, reduceCtorEq]; rfl, fun fm h => by cases h⟩, by simp (disch := omega) only [n_lit, n_m1, ok_S, ok_s, ok_N, ok_n, ↓ok_if, ok_A, ok_a, ok_L, ok_l, ok_zn0, ok_zn1, ok_f2, ok_pure, ok_rI, ok_bn0, ok_bn1, ok_rt, ok_riI, ok_rn0, ok_rn1, ok_go, nx_l, nx_r, sS_s, sS_n, sS_a, sS_l, sS_k, aS_s, aS_n, aS_1, aS_l, aS_k, lS_l, lS_1, lS_a, lS_k, nS_s, nS_n, nS_1, nS_a, nS_l, updS, updN, nI_eq, nI_leI, nI_ltI, nI_add, pk_mul, nN_e, nN_e', nN_l, nN_g, nN_le, nN_ge, ite_not, if_true, if_false, not_true_eq_false, not_false_eq_true, Nat.not_lt_zero, Nat.reduceEqDiff, Nat.reduceLT, Nat.reduceLeDiff, Nat.reduceAdd, Nat.zero_le, ite_self, reduceCtorEq]; rfl, by simp (disch := omega) only [n_lit, n_m1, ok_S, ok_s, ok_N, ok_n, ↓ok_if, ok_A, ok_a, ok_L, ok_l, ok_zn0, ok_zn1, ok_f2, ok_pure, ok_rI, ok_bn0, ok_bn1, ok_rt, ok_riI, ok_rn0, ok_rn1, ok_go, nx_l, nx_r, sS_s, sS_n, sS_a, sS_l, sS_k, aS_s, aS_n, aS_1, aS_l, aS_k, lS_l, lS_1, lS_a, lS_k, nS_s, nS_n, nS_1, nS_a, nS_l, updS, updN, nI_eq, nI_leI, nI_ltI, nI_add, pk_mul, nN_e, nN_e', nN_l, nN_g, nN_le, nN_ge, ite_not, if_true, if_false, not_true_eq_false, not_false_eq_true, Nat.not_lt_zero, Nat.reduceEqDiff, Nat.reduceLT, Nat.reduceLeDiff, Nat.reduceAdd, Nat.zero_le, ite_self, reduceCtorEq]; exact fun j hj => rfl⟩, ?_⟩
    · simp (disch := omega) only [n_lit, n_m1, ok_S, ok_s, ok_N, ok_n, ↓ok_if, ok_A, ok_a, ok_L, ok_l, ok_zn0, ok_zn1, ok_f2, ok_pure, ok_rI, ok_bn0, ok_bn1, ok_rt, ok_riI, ok_rn0, ok_rn1, ok_go, nx_l, nx_r, sS_s, sS_n, sS_a, sS_l, sS_k, aS_s, aS_n, aS_1, aS_l, aS_k, lS_l, lS_1, lS_a, lS_k, nS_s, nS_n, nS_1, nS_a, nS_l, updS, updN, nI_eq, nI_leI, nI_ltI, nI_add, pk_mul, nN_e, nN_e', nN_l, nN_g, nN_le, nN_ge, ite_not, if_true, if_false, not_true_eq_false, not_false_eq_true, Nat.not_lt_zero, Nat.reduceEqDiff, Nat.reduceLT, Nat.reduceLeDiff, Nat.reduceAdd, Nat.zero_le, ite_self, reduceCtorEq]
      intro k hk
      rw [hg k hk]
      exact ⟨⟨fun q => (by rw [nN_e' (by omega)] at q; exact q.elim), fun q => by cases q⟩, Or.inl rfl⟩
    · refine ⟨by simp (disch := omega) only [n_lit, n_m1, ok_S, ok_s, ok_N, ok_n, ↓ok_if, ok_A, ok_a, ok_L, ok_l, ok_zn0, ok_zn1, ok_f2, ok_pure, ok_rI, ok_bn0, ok_bn1, ok_rt, ok_riI, ok_rn0, ok_rn1, ok_go, nx_l, nx_r, sS_s, sS_n, sS_a, sS_l, sS_k, aS_s, aS_n, aS_1, aS_l, aS_k, lS_l, lS_1, lS_a, lS_k, nS_s, nS_n, nS_1, nS_a, nS_l, updS, updN, nI_eq, nI_leI, nI_ltI, nI_add, pk_mul, nN_e, nN_e', nN_l, nN_g, nN_le, nN_ge, ite_not, if_true, if_false, not_true_eq_false, not_false_eq_true, Nat.not_lt_zero, Nat.reduceEqDiff, Nat.reduceLT, Nat.reduceLeDiff, Nat.reduceAdd, Nat.zero_le, ite_self, reduceCtorEq]; rfl, fun n e he => by cases he⟩
    · have := unv_le (fun _ => false) L
      have := hw.1
      show 0 + unv (fun _ => false) L ≤ 160
      omega
  refine ok_C (ok_mono (e_start (se := se) (st := (fun _ => false, [], none, false)) hw (by omega) (PgS_frB hP eb) (by simp (disch := omega) only [n_lit, n_m1, ok_S, ok_s, ok_N, ok_n, ↓ok_if, ok_A, ok_a, ok_L, ok_l, ok_zn0, ok_zn1, ok_f2, ok_pure, ok_rI, ok_bn0, ok_bn1, ok_rt, ok_riI, ok_rn0, ok_rn1, ok_go, nx_l, nx_r, sS_s, sS_n, sS_a, sS_l, sS_k, aS_s, aS_n, aS_1, aS_l, aS_k, lS_l, lS_1, lS_a, lS_k, nS_s, nS_n, nS_1, nS_a, nS_l, updS, updN, nI_eq, nI_leI, nI_ltI, nI_add, pk_mul, nN_e, nN_e', nN_l, nN_g, nN_le, nN_ge, ite_not, if_true, if_false, not_true_eq_false, not_false_eq_true, Nat.not_lt_zero, Nat.reduceEqDiff, Nat.reduceLT, Nat.reduceLeDiff, Nat.reduceAdd, Nat.zero_le, ite_self, reduceCtorEq]) rfl hwk) ?_)
  intro _ S' h
  simp (disch := omega) only [n_lit, n_m1, ok_S, ok_s, ok_N, ok_n, ↓ok_if, ok_A, ok_a, ok_L, ok_l, ok_zn0, ok_zn1, ok_f2, ok_pure, ok_rI, ok_bn0, ok_bn1, ok_rt, ok_riI, ok_rn0, ok_rn1, ok_go, nx_l, nx_r, sS_s, sS_n, sS_a, sS_l, sS_k, aS_s, aS_n, aS_1, aS_l, aS_k, lS_l, lS_1, lS_a, lS_k, nS_s, nS_n, nS_1, nS_a, nS_l, updS, updN, nI_eq, nI_leI, nI_ltI, nI_add, pk_mul, nN_e, nN_e', nN_l, nN_g, nN_le, nN_ge, ite_not, if_true, if_false, not_true_eq_false, not_false_eq_true, Nat.not_lt_zero, Nat.reduceEqDiff, Nat.reduceLT, Nat.reduceLeDiff, Nat.reduceAdd, Nat.zero_le, ite_self, reduceCtorEq]
  refine ⟨FrB_trans eb (FrB_of h.1), ?_, ?_, ?_, h.2⟩
  · rw [h.1.1]; rfl
  · rw [h.1.2.1 190 (by omega) (by omega) (by omega) (by simp (disch := omega) only [n_lit, n_m1, ok_S, ok_s, ok_N, ok_n, ↓ok_if, ok_A, ok_a, ok_L, ok_l, ok_zn0, ok_zn1, ok_f2, ok_pure, ok_rI, ok_bn0, ok_bn1, ok_rt, ok_riI, ok_rn0, ok_rn1, ok_go, nx_l, nx_r, sS_s, sS_n, sS_a, sS_l, sS_k, aS_s, aS_n, aS_1, aS_l, aS_k, lS_l, lS_1, lS_a, lS_k, nS_s, nS_n, nS_1, nS_a, nS_l, updS, updN, nI_eq, nI_leI, nI_ltI, nI_add, pk_mul, nN_e, nN_e', nN_l, nN_g, nN_le, nN_ge, ite_not, if_true, if_false, not_true_eq_false, not_false_eq_true, Nat.not_lt_zero, Nat.reduceEqDiff, Nat.reduceLT, Nat.reduceLeDiff, Nat.reduceAdd, Nat.zero_le, ite_self, reduceCtorEq]; omega)]
    simp (disch := omega) only [n_lit, n_m1, ok_S, ok_s, ok_N, ok_n, ↓ok_if, ok_A, ok_a, ok_L, ok_l, ok_zn0, ok_zn1, ok_f2, ok_pure, ok_rI, ok_bn0, ok_bn1, ok_rt, ok_riI, ok_rn0, ok_rn1, ok_go, nx_l, nx_r, sS_s, sS_n, sS_a, sS_l, sS_k, aS_s, aS_n, aS_1, aS_l, aS_k, lS_l, lS_1, lS_a, lS_k, nS_s, nS_n, nS_1, nS_a, nS_l, updS, updN, nI_eq, nI_leI, nI_ltI, nI_add, pk_mul, nN_e, nN_e', nN_l, nN_g, nN_le, nN_ge, ite_not, if_true, if_false, not_true_eq_false, not_false_eq_true, Nat.not_lt_zero, Nat.reduceEqDiff, Nat.reduceLT, Nat.reduceLeDiff, Nat.reduceAdd, Nat.zero_le, ite_self, reduceCtorEq]
  · rw [h.1.2.1 191 (by omega) (by omega) (by omega) (by simp (disch := omega) only [n_lit, n_m1, ok_S, ok_s, ok_N, ok_n, ↓ok_if, ok_A, ok_a, ok_L, ok_l, ok_zn0, ok_zn1, ok_f2, ok_pure, ok_rI, ok_bn0, ok_bn1, ok_rt, ok_riI, ok_rn0, ok_rn1, ok_go, nx_l, nx_r, sS_s, sS_n, sS_a, sS_l, sS_k, aS_s, aS_n, aS_1, aS_l, aS_k, lS_l, lS_1, lS_a, lS_k, nS_s, nS_n, nS_1, nS_a, nS_l, updS, updN, nI_eq, nI_leI, nI_ltI, nI_add, pk_mul, nN_e, nN_e', nN_l, nN_g, nN_le, nN_ge, ite_not, if_true, if_false, not_true_eq_false, not_false_eq_true, Nat.not_lt_zero, Nat.reduceEqDiff, Nat.reduceLT, Nat.reduceLeDiff, Nat.reduceAdd, Nat.zero_le, ite_self, reduceCtorEq]; omega)]
    simp (disch := omega) only [n_lit, n_m1, ok_S, ok_s, ok_N, ok_n, ↓ok_if, ok_A, ok_a, ok_L, ok_l, ok_zn0, ok_zn1, ok_f2, ok_pure, ok_rI, ok_bn0, ok_bn1, ok_rt, ok_riI, ok_rn0, ok_rn1, ok_go, nx_l, nx_r, sS_s, sS_n, sS_a, sS_l, sS_k, aS_s, aS_n, aS_1, aS_l, aS_k, lS_l, lS_1, lS_a, lS_k, nS_s, nS_n, nS_1, nS_a, nS_l, updS, updN, nI_eq, nI_leI, nI_ltI, nI_add, pk_mul, nN_e, nN_e', nN_l, nN_g, nN_le, nN_ge, ite_not, if_true, if_false, not_true_eq_false, not_false_eq_true, Nat.not_lt_zero, Nat.reduceEqDiff, Nat.reduceLT, Nat.reduceLeDiff, Nat.reduceAdd, Nat.zero_le, ite_self, reduceCtorEq]
theorem fdF_hit {P : Pg} : ∀ (l : List (Nat × Mk)) (fd : Option Mk), hit P l = true ∨ fd ≠ none → fdF P fd l ≠ none := by
  intro l
  induction l with
  | nil =>
    intro fd h
    rcases h with h | h
    · cases h
    · exact h
  | cons e l ih =>
    intro fd h
    show fdF P (if P.1 e.1 = 4 then some e.2 else fd) l ≠ none
    apply ih
    by_cases h4 : P.1 e.1 = 4
    · rw [if_pos h4]
      exact Or.inr (by intro q; cases q)
    · rw [if_neg h4]
      rcases h with h | h
      · have : (P.1 e.1 == 4) = false := by simpa using h4
        simp only [hit, List.any_cons, this, Bool.false_or] at h
        exact Or.inl h
      · exact Or.inr h
theorem fol1_cut {P : Pg} {se : Bool} {i k : Nat} {m : Mk} {st : Wst} (h : (fol1 P se i k m st).2.2.2 = true) : (fol1 P se i k m st).2.2.1 ≠ none := by
  apply fdF_hit
  have : (se && hit P (cutl P se (dfs P (nI i) 400 [(k, m)] st.1))) = true := h
  rw [Bool.and_eq_true] at this
  exact Or.inl this.2
theorem folW_cut {P : Pg} {se : Bool} {i : Nat} {tk : Nat → Bool} : ∀ (l : List (Nat × Mk)) (st : Wst), (st.2.2.2 = true → st.2.2.1 ≠ none) → (folW P se i tk l st).2.2.2 = true → (folW P se i tk l st).2.2.1 ≠ none := by
  intro l
  induction l with
  | nil => intro st h; exact h
  | cons e l ih =>
    intro st h
    unfold folW
    split
    · exact h
    · split
      · exact ih _ fol1_cut
      · exact ih _ h
set_option maxHeartbeats 1000000 in
theorem e_stepL {o : Nat} {P : Pg} {L i c u f : Nat} {se : Bool} {ws : List (Nat × Mk)} (hw : WF P L) (hi : i ≤ 200) (hc : c < 256) (hf : f < 2) (hn : ws.length ≤ 160) (hT : TkOk P L ws) (hu1 : u ≤ 48) (hu : ∀ k, k < L → P.1 k = 0 → P.2.1 k < u) : ∀ d w, w + d = ws.length → ∀ S st, PgS S P L → S.1 191 = bI se → S.1 41 = nI u → S.2.2.2 0 ≠ f → Wys (S.1 (202 + 60 * f)) (S.2.1 (11 + 3 * f)) (S.2.1 (12 + 3 * f)) ws → WkT S L i st → (st.2.2.2 = true → st.2.2.1 ≠ none) →
    okS (w_fix (b_Wk_step o) (66, [.int (nI c), .int (nI w)], [some f])) S (fun _ S' => FrF S S' ∧ WkT S' L i (finW P se i (folW P se i (fun k => cB S.2.2.1 (P.2.1 k) c) (ws.drop w) st))) := by
  have fin : ∀ (S : qSt) (st : Wst), PgS S P L → S.1 191 = bI se → WkT S L i st → (st.2.2.2 = true → st.2.2.1 ≠ none) → okS (k_Wk_step_131 o) S (nxS (b_Wk_step o) (fun _ S' => FrF S S' ∧ WkT S' L i (finW P se i st))) := by
    intro S st hP hse hW hcf
    unfold k_Wk_step_131
    obtain ⟨m, hW1, hW2⟩ := hW
    have h192 : S.1 192 = bI st.2.2.1.isSome := hW1.2.2.2.2.1.1
    cases se with
    | false =>
      have hse' : S.1 191 = nI 0 := hse
      simp (disch := omega) only [n_lit, n_m1, ok_S, ok_s, ok_N, ok_n, ↓ok_if, ok_A, ok_a, ok_L, ok_l, ok_zn0, ok_zn1, ok_f2, ok_pure, ok_rI, ok_bn0, ok_bn1, ok_rt, ok_riI, ok_rn0, ok_rn1, ok_go, nx_l, nx_r, sS_s, sS_n, sS_a, sS_l, sS_k, aS_s, aS_n, aS_1, aS_l, aS_k, lS_l, lS_1, lS_a, lS_k, nS_s, nS_n, nS_1, nS_a, nS_l, updS, updN, nI_eq, nI_leI, nI_ltI, nI_add, pk_mul, nN_e, nN_e', nN_l, nN_g, nN_le, nN_ge, ite_not, if_true, if_false, not_true_eq_false, not_false_eq_true, Nat.not_lt_zero, Nat.reduceEqDiff, Nat.reduceLT, Nat.reduceLeDiff, Nat.reduceAdd, Nat.zero_le, ite_self, reduceCtorEq, hse']
      have e : finW P false i st = st := if_neg (fun q => by cases q.1)
      rw [e]
      exact ⟨FrF_rfl _, m, hW1, hW2⟩
    | true =>
      have hse' : S.1 191 = nI 1 := hse
      cases hfd : st.2.2.1 with
      | some fm =>
        have h192' : S.1 192 = nI 1 := by rw [h192, hfd]; rfl
        simp (disch := omega) only [n_lit, n_m1, ok_S, ok_s, ok_N, ok_n, ↓ok_if, ok_A, ok_a, ok_L, ok_l, ok_zn0, ok_zn1, ok_f2, ok_pure, ok_rI, ok_bn0, ok_bn1, ok_rt, ok_riI, ok_rn0, ok_rn1, ok_go, nx_l, nx_r, sS_s, sS_n, sS_a, sS_l, sS_k, aS_s, aS_n, aS_1, aS_l, aS_k, lS_l, lS_1, lS_a, lS_k, nS_s, nS_n, nS_1, nS_a, nS_l, updS, updN, nI_eq, nI_leI, nI_ltI, nI_add, pk_mul, nN_e, nN_e', nN_l, nN_g, nN_le, nN_ge, ite_not, if_true, if_false, not_true_eq_false, not_false_eq_true, Nat.not_lt_zero, Nat.reduceEqDiff, Nat.reduceLT, Nat.reduceLeDiff, Nat.reduceAdd, Nat.zero_le, ite_self, reduceCtorEq, hse', h192']
        have e : finW P true i st = st := if_neg (fun q => by rw [hfd] at q; cases q.2)
        rw [e]
        exact ⟨FrF_rfl _, m, hW1, hW2⟩
      | none =>
        have h192' : S.1 192 = nI 0 := by rw [h192, hfd]; rfl
        simp (disch := omega) only [n_lit, n_m1, ok_S, ok_s, ok_N, ok_n, ↓ok_if, ok_A, ok_a, ok_L, ok_l, ok_zn0, ok_zn1, ok_f2, ok_pure, ok_rI, ok_bn0, ok_bn1, ok_rt, ok_riI, ok_rn0, ok_rn1, ok_go, nx_l, nx_r, sS_s, sS_n, sS_a, sS_l, sS_k, aS_s, aS_n, aS_1, aS_l, aS_k, lS_l, lS_1, lS_a, lS_k, nS_s, nS_n, nS_1, nS_a, nS_l, updS, updN, nI_eq, nI_leI, nI_ltI, nI_add, pk_mul, nN_e, nN_e', nN_l, nN_g, nN_le, nN_ge, ite_not, if_true, if_false, not_true_eq_false, not_false_eq_true, Nat.not_lt_zero, Nat.reduceEqDiff, Nat.reduceLT, Nat.reduceLeDiff, Nat.reduceAdd, Nat.zero_le, ite_self, reduceCtorEq, hse', h192']
        have hct : st.2.2.2 = false := by
          cases hct : st.2.2.2 with
          | false => rfl
          | true => exact absurd hfd (hcf hct)
        refine ok_C (ok_mono (e_start (se := true) (st := st) hw hi hP hse hct ⟨m, hW1, hW2⟩) ?_)
        intro _ S' h
        simp (disch := omega) only [n_lit, n_m1, ok_S, ok_s, ok_N, ok_n, ↓ok_if, ok_A, ok_a, ok_L, ok_l, ok_zn0, ok_zn1, ok_f2, ok_pure, ok_rI, ok_bn0, ok_bn1, ok_rt, ok_riI, ok_rn0, ok_rn1, ok_go, nx_l, nx_r, sS_s, sS_n, sS_a, sS_l, sS_k, aS_s, aS_n, aS_1, aS_l, aS_k, lS_l, lS_1, lS_a, lS_k, nS_s, nS_n, nS_1, nS_a, nS_l, updS, updN, nI_eq, nI_leI, nI_ltI, nI_add, pk_mul, nN_e, nN_e', nN_l, nN_g, nN_le, nN_ge, ite_not, if_true, if_false, not_true_eq_false, not_false_eq_true, Nat.not_lt_zero, Nat.reduceEqDiff, Nat.reduceLT, Nat.reduceLeDiff, Nat.reduceAdd, Nat.zero_le, ite_self, reduceCtorEq]
        have e : finW P true i st = fol1 P true i 0 mk0 st := if_pos ⟨rfl, hfd⟩
        rw [e]
        exact h
  intro d
  induction d with
  | zero =>
    intro w hwd S st hP hse h41 hne hY hW hcf
    refine ok_fix ?_
    show okS (k_Wk_step_66 o (nI c) f (nI w)) S _
    unfold k_Wk_step_66
    have hc1 := hY.1
    simp (disch := omega) only [n_lit, n_m1, ok_S, ok_s, ok_N, ok_n, ↓ok_if, ok_A, ok_a, ok_L, ok_l, ok_zn0, ok_zn1, ok_f2, ok_pure, ok_rI, ok_bn0, ok_bn1, ok_rt, ok_riI, ok_rn0, ok_rn1, ok_go, nx_l, nx_r, sS_s, sS_n, sS_a, sS_l, sS_k, aS_s, aS_n, aS_1, aS_l, aS_k, lS_l, lS_1, lS_a, lS_k, nS_s, nS_n, nS_1, nS_a, nS_l, updS, updN, nI_eq, nI_leI, nI_ltI, nI_add, pk_mul, nN_e, nN_e', nN_l, nN_g, nN_le, nN_ge, ite_not, if_true, if_false, not_true_eq_false, not_false_eq_true, Nat.not_lt_zero, Nat.reduceEqDiff, Nat.reduceLT, Nat.reduceLeDiff, Nat.reduceAdd, Nat.zero_le, ite_self, reduceCtorEq, if_pos, if_neg, hc1]
    have e : ws.drop w = [] := List.drop_eq_nil_of_le (by omega)
    rw [e]
    exact fin S st hP hse hW hcf
  | succ d ih =>
    intro w hwd S st hP hse h41 hne hY hW hcf
    refine ok_fix ?_
    show okS (k_Wk_step_66 o (nI c) f (nI w)) S _
    unfold k_Wk_step_66
    have hc1 := hY.1
    have hW' := hW
    obtain ⟨m, hW1, hW2⟩ := hW
    have h193 : S.1 193 = bI st.2.2.2 := hW1.2.2.2.2.2.1
    have hwl : w < ws.length := by omega
    have ed : ws.drop w = ws[w] :: ws.drop (w + 1) := List.drop_eq_getElem_cons hwl
    have heg : ws[w]? = some ws[w] := List.getElem?_eq_getElem hwl
    obtain ⟨hT1, hT2⟩ := hT ws[w] (List.getElem_mem hwl)
    obtain ⟨hY1, hY2⟩ := hY.2 w ws[w] heg
    obtain ⟨⟨w1, w2, w3⟩, w4, w5⟩ := hw.2.2 ws[w].1 hT1
    have hL := hw.1
    cases hct : st.2.2.2 with
    | true =>
      have h193' : S.1 193 = nI 1 := by rw [h193, hct]; rfl
      simp (disch := omega) only [n_lit, n_m1, ok_S, ok_s, ok_N, ok_n, ↓ok_if, ok_A, ok_a, ok_L, ok_l, ok_zn0, ok_zn1, ok_f2, ok_pure, ok_rI, ok_bn0, ok_bn1, ok_rt, ok_riI, ok_rn0, ok_rn1, ok_go, nx_l, nx_r, sS_s, sS_n, sS_a, sS_l, sS_k, aS_s, aS_n, aS_1, aS_l, aS_k, lS_l, lS_1, lS_a, lS_k, nS_s, nS_n, nS_1, nS_a, nS_l, updS, updN, nI_eq, nI_leI, nI_ltI, nI_add, pk_mul, nN_e, nN_e', nN_l, nN_g, nN_le, nN_ge, ite_not, if_true, if_false, not_true_eq_false, not_false_eq_true, Nat.not_lt_zero, Nat.reduceEqDiff, Nat.reduceLT, Nat.reduceLeDiff, Nat.reduceAdd, Nat.zero_le, ite_self, reduceCtorEq, if_pos, if_neg, hc1, h193']
      have e : folW P se i (fun k => cB S.2.2.1 (P.2.1 k) c) (ws.drop w) st = st := by
        rw [ed]
        exact if_pos hct
      rw [e]
      exact fin S st hP hse hW' hcf
    | false =>
      have h193' : S.1 193 = nI 0 := by rw [h193, hct]; rfl
      simp (disch := omega) only [n_lit, n_m1, ok_S, ok_s, ok_N, ok_n, ↓ok_if, ok_A, ok_a, ok_L, ok_l, ok_zn0, ok_zn1, ok_f2, ok_pure, ok_rI, ok_bn0, ok_bn1, ok_rt, ok_riI, ok_rn0, ok_rn1, ok_go, nx_l, nx_r, sS_s, sS_n, sS_a, sS_l, sS_k, aS_s, aS_n, aS_1, aS_l, aS_k, lS_l, lS_1, lS_a, lS_k, nS_s, nS_n, nS_1, nS_a, nS_l, updS, updN, nI_eq, nI_leI, nI_ltI, nI_add, pk_mul, nN_e, nN_e', nN_l, nN_g, nN_le, nN_ge, ite_not, if_true, if_false, not_true_eq_false, not_false_eq_true, Nat.not_lt_zero, Nat.reduceEqDiff, Nat.reduceLT, Nat.reduceLeDiff, Nat.reduceAdd, Nat.zero_le, ite_self, reduceCtorEq, if_pos, if_neg, hc1, h193']
      have e : folW P se i (fun k => cB S.2.2.1 (P.2.1 k) c) (ws.drop w) st = if cB S.2.2.1 (P.2.1 ws[w].1) c = true then folW P se i (fun k => cB S.2.2.1 (P.2.1 k) c) (ws.drop (w + 1)) (fol1 P se i (ws[w].1 + 1) ws[w].2 st) else folW P se i (fun k => cB S.2.2.1 (P.2.1 k) c) (ws.drop (w + 1)) st := by
        rw [ed]
        exact if_neg (by rw [hct]; exact Bool.false_ne_true)
      rw [e]
      refine ok_C ?_
      unfold f_Wy_takeOf
      simp (disch := omega) only [n_lit, n_m1, ok_S, ok_s, ok_N, ok_n, ↓ok_if, ok_A, ok_a, ok_L, ok_l, ok_zn0, ok_zn1, ok_f2, ok_pure, ok_rI, ok_bn0, ok_bn1, ok_rt, ok_riI, ok_rn0, ok_rn1, ok_go, nx_l, nx_r, sS_s, sS_n, sS_a, sS_l, sS_k, aS_s, aS_n, aS_1, aS_l, aS_k, lS_l, lS_1, lS_a, lS_k, nS_s, nS_n, nS_1, nS_a, nS_l, updS, updN, nI_eq, nI_leI, nI_ltI, nI_add, pk_mul, nN_e, nN_e', nN_l, nN_g, nN_le, nN_ge, ite_not, if_true, if_false, not_true_eq_false, not_false_eq_true, Nat.not_lt_zero, Nat.reduceEqDiff, Nat.reduceLT, Nat.reduceLeDiff, Nat.reduceAdd, Nat.zero_le, ite_self, reduceCtorEq, if_pos, if_neg, hc1, hY1]
      refine ok_C (e_xOf hP.1 hL hT1 ?_)
      rw [(hP.2 _ hT1).2.1]
      refine ok_C (e_cHas h41 hu1 (hu _ hT1 hT2) hc ?_)
      cases htk : cB S.2.2.1 (P.2.1 ws[w].1) c with
      | false =>
        show okS (w_if (nI 0 = 0) _ _) S _
        simp (disch := omega) only [n_lit, n_m1, ok_S, ok_s, ok_N, ok_n, ↓ok_if, ok_A, ok_a, ok_L, ok_l, ok_zn0, ok_zn1, ok_f2, ok_pure, ok_rI, ok_bn0, ok_bn1, ok_rt, ok_riI, ok_rn0, ok_rn1, ok_go, nx_l, nx_r, sS_s, sS_n, sS_a, sS_l, sS_k, aS_s, aS_n, aS_1, aS_l, aS_k, lS_l, lS_1, lS_a, lS_k, nS_s, nS_n, nS_1, nS_a, nS_l, updS, updN, nI_eq, nI_leI, nI_ltI, nI_add, pk_mul, nN_e, nN_e', nN_l, nN_g, nN_le, nN_ge, ite_not, if_true, if_false, not_true_eq_false, not_false_eq_true, Nat.not_lt_zero, Nat.reduceEqDiff, Nat.reduceLT, Nat.reduceLeDiff, Nat.reduceAdd, Nat.zero_le, ite_self, reduceCtorEq]
        exact ih (w + 1) (by omega) S st hP hse h41 hne hY hW' hcf
      | true =>
        show okS (w_if (nI 1 = 0) _ _) S _
        simp (disch := omega) only [n_lit, n_m1, ok_S, ok_s, ok_N, ok_n, ↓ok_if, ok_A, ok_a, ok_L, ok_l, ok_zn0, ok_zn1, ok_f2, ok_pure, ok_rI, ok_bn0, ok_bn1, ok_rt, ok_riI, ok_rn0, ok_rn1, ok_go, nx_l, nx_r, sS_s, sS_n, sS_a, sS_l, sS_k, aS_s, aS_n, aS_1, aS_l, aS_k, lS_l, lS_1, lS_a, lS_k, nS_s, nS_n, nS_1, nS_a, nS_l, updS, updN, nI_eq, nI_leI, nI_ltI, nI_add, pk_mul, nN_e, nN_e', nN_l, nN_g, nN_le, nN_ge, ite_not, if_true, if_false, not_true_eq_false, not_false_eq_true, Nat.not_lt_zero, Nat.reduceEqDiff, Nat.reduceLT, Nat.reduceLeDiff, Nat.reduceAdd, Nat.zero_le, ite_self, reduceCtorEq]
        have hwf : w < 160 := by omega
        refine ok_C (e_copy hf hwf ?_)
        intro g hg
        have ef : FrF S (aS S 19 g) := by
          refine ⟨rfl, fun f h1 h2 h3 h4 => rfl, fun f h1 h2 h3 h4 h5 h6 h7 => ?_⟩
          simp (disch := omega) only [n_lit, n_m1, ok_S, ok_s, ok_N, ok_n, ↓ok_if, ok_A, ok_a, ok_L, ok_l, ok_zn0, ok_zn1, ok_f2, ok_pure, ok_rI, ok_bn0, ok_bn1, ok_rt, ok_riI, ok_rn0, ok_rn1, ok_go, nx_l, nx_r, sS_s, sS_n, sS_a, sS_l, sS_k, aS_s, aS_n, aS_1, aS_l, aS_k, lS_l, lS_1, lS_a, lS_k, nS_s, nS_n, nS_1, nS_a, nS_l, updS, updN, nI_eq, nI_leI, nI_ltI, nI_add, pk_mul, nN_e, nN_e', nN_l, nN_g, nN_le, nN_ge, ite_not, if_true, if_false, not_true_eq_false, not_false_eq_true, Nat.not_lt_zero, Nat.reduceEqDiff, Nat.reduceLT, Nat.reduceLeDiff, Nat.reduceAdd, Nat.zero_le, ite_self, reduceCtorEq]
        refine ok_C (ok_mono (e_fol1 (st := st) (m := ws[w].2) (k := ws[w].1 + 1) hw hi (w4 hT2) (PgS_fr hP ef hW1.2.2.1) hse hct ?_ hW2) ?_)
        · refine WkS_mk hW1 rfl rfl (by simp (disch := omega) only [n_lit, n_m1, ok_S, ok_s, ok_N, ok_n, ↓ok_if, ok_A, ok_a, ok_L, ok_l, ok_zn0, ok_zn1, ok_f2, ok_pure, ok_rI, ok_bn0, ok_bn1, ok_rt, ok_riI, ok_rn0, ok_rn1, ok_go, nx_l, nx_r, sS_s, sS_n, sS_a, sS_l, sS_k, aS_s, aS_n, aS_1, aS_l, aS_k, lS_l, lS_1, lS_a, lS_k, nS_s, nS_n, nS_1, nS_a, nS_l, updS, updN, nI_eq, nI_leI, nI_ltI, nI_add, pk_mul, nN_e, nN_e', nN_l, nN_g, nN_le, nN_ge, ite_not, if_true, if_false, not_true_eq_false, not_false_eq_true, Nat.not_lt_zero, Nat.reduceEqDiff, Nat.reduceLT, Nat.reduceLeDiff, Nat.reduceAdd, Nat.zero_le, ite_self, reduceCtorEq]; exact hW1.2.1) rfl (by simp (disch := omega) only [n_lit, n_m1, ok_S, ok_s, ok_N, ok_n, ↓ok_if, ok_A, ok_a, ok_L, ok_l, ok_zn0, ok_zn1, ok_f2, ok_pure, ok_rI, ok_bn0, ok_bn1, ok_rt, ok_riI, ok_rn0, ok_rn1, ok_go, nx_l, nx_r, sS_s, sS_n, sS_a, sS_l, sS_k, aS_s, aS_n, aS_1, aS_l, aS_k, lS_l, lS_1, lS_a, lS_k, nS_s, nS_n, nS_1, nS_a, nS_l, updS, updN, nI_eq, nI_leI, nI_ltI, nI_add, pk_mul, nN_e, nN_e', nN_l, nN_g, nN_le, nN_ge, ite_not, if_true, if_false, not_true_eq_false, not_false_eq_true, Nat.not_lt_zero, Nat.reduceEqDiff, Nat.reduceLT, Nat.reduceLeDiff, Nat.reduceAdd, Nat.zero_le, ite_self, reduceCtorEq]) (by simp (disch := omega) only [n_lit, n_m1, ok_S, ok_s, ok_N, ok_n, ↓ok_if, ok_A, ok_a, ok_L, ok_l, ok_zn0, ok_zn1, ok_f2, ok_pure, ok_rI, ok_bn0, ok_bn1, ok_rt, ok_riI, ok_rn0, ok_rn1, ok_go, nx_l, nx_r, sS_s, sS_n, sS_a, sS_l, sS_k, aS_s, aS_n, aS_1, aS_l, aS_k, lS_l, lS_1, lS_a, lS_k, nS_s, nS_n, nS_1, nS_a, nS_l, updS, updN, nI_eq, nI_leI, nI_ltI, nI_add, pk_mul, nN_e, nN_e', nN_l, nN_g, nN_le, nN_ge, ite_not, if_true, if_false, not_true_eq_false, not_false_eq_true, Nat.not_lt_zero, Nat.reduceEqDiff, Nat.reduceLT, Nat.reduceLeDiff, Nat.reduceAdd, Nat.zero_le, ite_self, reduceCtorEq]) rfl (by simp (disch := omega) only [n_lit, n_m1, ok_S, ok_s, ok_N, ok_n, ↓ok_if, ok_A, ok_a, ok_L, ok_l, ok_zn0, ok_zn1, ok_f2, ok_pure, ok_rI, ok_bn0, ok_bn1, ok_rt, ok_riI, ok_rn0, ok_rn1, ok_go, nx_l, nx_r, sS_s, sS_n, sS_a, sS_l, sS_k, aS_s, aS_n, aS_1, aS_l, aS_k, lS_l, lS_1, lS_a, lS_k, nS_s, nS_n, nS_1, nS_a, nS_l, updS, updN, nI_eq, nI_leI, nI_ltI, nI_add, pk_mul, nN_e, nN_e', nN_l, nN_g, nN_le, nN_ge, ite_not, if_true, if_false, not_true_eq_false, not_false_eq_true, Nat.not_lt_zero, Nat.reduceEqDiff, Nat.reduceLT, Nat.reduceLeDiff, Nat.reduceAdd, Nat.zero_le, ite_self, reduceCtorEq]) rfl ?_
          simp (disch := omega) only [n_lit, n_m1, ok_S, ok_s, ok_N, ok_n, ↓ok_if, ok_A, ok_a, ok_L, ok_l, ok_zn0, ok_zn1, ok_f2, ok_pure, ok_rI, ok_bn0, ok_bn1, ok_rt, ok_riI, ok_rn0, ok_rn1, ok_go, nx_l, nx_r, sS_s, sS_n, sS_a, sS_l, sS_k, aS_s, aS_n, aS_1, aS_l, aS_k, lS_l, lS_1, lS_a, lS_k, nS_s, nS_n, nS_1, nS_a, nS_l, updS, updN, nI_eq, nI_leI, nI_ltI, nI_add, pk_mul, nN_e, nN_e', nN_l, nN_g, nN_le, nN_ge, ite_not, if_true, if_false, not_true_eq_false, not_false_eq_true, Nat.not_lt_zero, Nat.reduceEqDiff, Nat.reduceLT, Nat.reduceLeDiff, Nat.reduceAdd, Nat.zero_le, ite_self, reduceCtorEq]
          exact fun j hj => (hg j hj).trans (hY2 j hj)
        · intro _ S1 h
          simp (disch := omega) only [n_lit, n_m1, ok_S, ok_s, ok_N, ok_n, ↓ok_if, ok_A, ok_a, ok_L, ok_l, ok_zn0, ok_zn1, ok_f2, ok_pure, ok_rI, ok_bn0, ok_bn1, ok_rt, ok_riI, ok_rn0, ok_rn1, ok_go, nx_l, nx_r, sS_s, sS_n, sS_a, sS_l, sS_k, aS_s, aS_n, aS_1, aS_l, aS_k, lS_l, lS_1, lS_a, lS_k, nS_s, nS_n, nS_1, nS_a, nS_l, updS, updN, nI_eq, nI_leI, nI_ltI, nI_add, pk_mul, nN_e, nN_e', nN_l, nN_g, nN_le, nN_ge, ite_not, if_true, if_false, not_true_eq_false, not_false_eq_true, Nat.not_lt_zero, Nat.reduceEqDiff, Nat.reduceLT, Nat.reduceLeDiff, Nat.reduceAdd, Nat.zero_le, ite_self, reduceCtorEq]
          have ef1 := FrF_trans ef h.1
          have h2 := hW1.2.2.1
          have hfam : S1.2.2.2 = S.2.2.2 := by rw [ef1.1]
          have hln : S1.2.2.1 = S.2.2.1 := by rw [ef1.1]
          have := ih (w + 1) (by omega) S1 (fol1 P se i (ws[w].1 + 1) ws[w].2 st) (PgS_fr hP ef1 h2) ((ef1.2.1 191 (by omega) (by omega) (by omega) (by omega)).trans hse) ((ef1.2.1 41 (by omega) (by omega) (by omega) (by omega)).trans h41) (by rw [hfam]; exact hne) (by rw [ef1.2.1 (202 + 60 * f) (by omega) (by omega) (by omega) (by omega), ef1.2.2 (11 + 3 * f) (by omega) (by omega) (by omega) (by omega) (by omega) (by omega) (by omega), ef1.2.2 (12 + 3 * f) (by omega) (by omega) (by omega) (by omega) (by omega) (by omega) (by omega)]; exact hY) h.2 fol1_cut
          rw [hln] at this
          refine ok_mono this ?_
          intro _ S' h'
          exact ⟨FrF_trans ef1 h'.1, h'.2⟩
theorem e_step0 {o i c : Nat} {se : Bool} {S : qSt} {fd : Option Mk} {Q : Unit → qSt → Prop} (a1 : S.1 194 = nI i) (hb2 : S.2.2.2 1 < 2) (h192 : S.1 192 = bI fd.isSome) (hse : S.1 191 = bI se) (gx : ∀ v : Bool, v = (if se = true then fd else none).isSome → okS (w_fix (b_Wk_step o) (66, [.int (nI c), .int (nI 0)], [some (S.2.2.2 0)])) (sS (sS (sS (sS (nS (nS S 0 (S.2.2.2 1)) 1 (S.2.2.2 0)) (202 + 60 * S.2.2.2 1) (nI 0)) 194 (nI (i + 1))) 193 (nI 0)) 192 (bI v)) Q) : okS (k_Wk_step_0 o (nI c)) S (nxS (b_Wk_step o) Q) := by
  unfold k_Wk_step_0
  simp (disch := omega) only [n_lit, n_m1, ok_S, ok_s, ok_N, ok_n, ↓ok_if, ok_A, ok_a, ok_L, ok_l, ok_zn0, ok_zn1, ok_f2, ok_pure, ok_rI, ok_bn0, ok_bn1, ok_rt, ok_riI, ok_rn0, ok_rn1, ok_go, nx_l, nx_r, sS_s, sS_n, sS_a, sS_l, sS_k, aS_s, aS_n, aS_1, aS_l, aS_k, lS_l, lS_1, lS_a, lS_k, nS_s, nS_n, nS_1, nS_a, nS_l, updS, updN, nI_eq, nI_leI, nI_ltI, nI_add, pk_mul, nN_e, nN_e', nN_l, nN_g, nN_le, nN_ge, ite_not, if_true, if_false, not_true_eq_false, not_false_eq_true, Nat.not_lt_zero, Nat.reduceEqDiff, Nat.reduceLT, Nat.reduceLeDiff, Nat.reduceAdd, Nat.zero_le, ite_self, reduceCtorEq, a1, h192, hse]
  cases fd with
  | none =>
    have e : bI (none : Option Mk).isSome = nI 0 := rfl
    simp (disch := omega) only [n_lit, n_m1, ok_S, ok_s, ok_N, ok_n, ↓ok_if, ok_A, ok_a, ok_L, ok_l, ok_zn0, ok_zn1, ok_f2, ok_pure, ok_rI, ok_bn0, ok_bn1, ok_rt, ok_riI, ok_rn0, ok_rn1, ok_go, nx_l, nx_r, sS_s, sS_n, sS_a, sS_l, sS_k, aS_s, aS_n, aS_1, aS_l, aS_k, lS_l, lS_1, lS_a, lS_k, nS_s, nS_n, nS_1, nS_a, nS_l, updS, updN, nI_eq, nI_leI, nI_ltI, nI_add, pk_mul, nN_e, nN_e', nN_l, nN_g, nN_le, nN_ge, ite_not, if_true, if_false, not_true_eq_false, not_false_eq_true, Nat.not_lt_zero, Nat.reduceEqDiff, Nat.reduceLT, Nat.reduceLeDiff, Nat.reduceAdd, Nat.zero_le, ite_self, reduceCtorEq, e]
    exact gx false (by cases se <;> rfl)
  | some fm =>
    have e : bI (some fm : Option Mk).isSome = nI 1 := rfl
    cases se with
    | false =>
      have e2 : bI false = nI 0 := rfl
      simp (disch := omega) only [n_lit, n_m1, ok_S, ok_s, ok_N, ok_n, ↓ok_if, ok_A, ok_a, ok_L, ok_l, ok_zn0, ok_zn1, ok_f2, ok_pure, ok_rI, ok_bn0, ok_bn1, ok_rt, ok_riI, ok_rn0, ok_rn1, ok_go, nx_l, nx_r, sS_s, sS_n, sS_a, sS_l, sS_k, aS_s, aS_n, aS_1, aS_l, aS_k, lS_l, lS_1, lS_a, lS_k, nS_s, nS_n, nS_1, nS_a, nS_l, updS, updN, nI_eq, nI_leI, nI_ltI, nI_add, pk_mul, nN_e, nN_e', nN_l, nN_g, nN_le, nN_ge, ite_not, if_true, if_false, not_true_eq_false, not_false_eq_true, Nat.not_lt_zero, Nat.reduceEqDiff, Nat.reduceLT, Nat.reduceLeDiff, Nat.reduceAdd, Nat.zero_le, ite_self, reduceCtorEq, e, e2]
      exact gx false rfl
    | true =>
      have e2 : bI true = nI 1 := rfl
      simp (disch := omega) only [n_lit, n_m1, ok_S, ok_s, ok_N, ok_n, ↓ok_if, ok_A, ok_a, ok_L, ok_l, ok_zn0, ok_zn1, ok_f2, ok_pure, ok_rI, ok_bn0, ok_bn1, ok_rt, ok_riI, ok_rn0, ok_rn1, ok_go, nx_l, nx_r, sS_s, sS_n, sS_a, sS_l, sS_k, aS_s, aS_n, aS_1, aS_l, aS_k, lS_l, lS_1, lS_a, lS_k, nS_s, nS_n, nS_1, nS_a, nS_l, updS, updN, nI_eq, nI_leI, nI_ltI, nI_add, pk_mul, nN_e, nN_e', nN_l, nN_g, nN_le, nN_ge, ite_not, if_true, if_false, not_true_eq_false, not_false_eq_true, Nat.not_lt_zero, Nat.reduceEqDiff, Nat.reduceLT, Nat.reduceLeDiff, Nat.reduceAdd, Nat.zero_le, ite_self, reduceCtorEq, e, e2]
      exact gx true rfl
theorem e_step {o : Nat} {P : Pg} {L i c u : Nat} {se : Bool} {S : qSt} {st : Wst} (hw : WF P L) (hi : i < 200) (hc : c < 256) (hT : TkOk P L st.2.1) (hu1 : u ≤ 48) (hu : ∀ k, k < L → P.1 k = 0 → P.2.1 k < u) (hP : PgS S P L) (hse : S.1 191 = bI se) (h41 : S.1 41 = nI u) (h0 : S.2.2.2 0 < 2) (h1 : S.2.2.2 1 = 1 - S.2.2.2 0) (hW : WkT S L i st) :
    okS (f_Wk_step o (nI c)) S (fun _ S' => FrB S S' ∧ S'.2.2.2 0 < 2 ∧ S'.2.2.2 1 = 1 - S'.2.2.2 0 ∧ S'.1 190 = S.1 190 ∧ S'.1 191 = bI se ∧ WkT S' L (i + 1) (stpW P se (i + 1) (fun k => cB S.2.2.1 (P.2.1 k) c) st.2.1 st.2.2.1)) := by
  unfold f_Wk_step
  refine ok_fix ?_
  show okS (k_Wk_step_0 o (nI c)) S _
  obtain ⟨m, ⟨a1, a2, a3, a4, a5, a6, a7⟩, hW2⟩ := hW
  have hL := hw.1
  have hln : st.2.1.length ≤ 160 := by omega
  have main : ∀ (S1 : qSt) (v : Bool), S1.1 = upd (upd (upd (upd S.1 (202 + 60 * S.2.2.2 1) (nI 0)) 194 (nI (i + 1))) 193 (nI 0)) 192 (bI v) → S1.2.1 = S.2.1 → S1.2.2.1 = S.2.2.1 → S1.2.2.2 0 = S.2.2.2 1 → S1.2.2.2 1 = S.2.2.2 0 → v = (if se = true then st.2.2.1 else none).isSome →
      okS (w_fix (b_Wk_step o) (66, [.int (nI c), .int (nI 0)], [some (S.2.2.2 0)])) S1 (fun _ S' => FrB S S' ∧ S'.2.2.2 0 < 2 ∧ S'.2.2.2 1 = 1 - S'.2.2.2 0 ∧ S'.1 190 = S.1 190 ∧ S'.1 191 = bI se ∧ WkT S' L (i + 1) (stpW P se (i + 1) (fun k => cB S.2.2.1 (P.2.1 k) c) st.2.1 st.2.2.1)) := by
    intro S1 v q1 q2 q3 q4 q5 q6
    have eb : FrB S S1 := by
      refine ⟨q3, fun f hf => ?_, fun f hf => by rw [q2]⟩
      rw [q1]
      simp (disch := omega) only [n_lit, n_m1, ok_S, ok_s, ok_N, ok_n, ↓ok_if, ok_A, ok_a, ok_L, ok_l, ok_zn0, ok_zn1, ok_f2, ok_pure, ok_rI, ok_bn0, ok_bn1, ok_rt, ok_riI, ok_rn0, ok_rn1, ok_go, nx_l, nx_r, sS_s, sS_n, sS_a, sS_l, sS_k, aS_s, aS_n, aS_1, aS_l, aS_k, lS_l, lS_1, lS_a, lS_k, nS_s, nS_n, nS_1, nS_a, nS_l, updS, updN, nI_eq, nI_leI, nI_ltI, nI_add, pk_mul, nN_e, nN_e', nN_l, nN_g, nN_le, nN_ge, ite_not, if_true, if_false, not_true_eq_false, not_false_eq_true, Nat.not_lt_zero, Nat.reduceEqDiff, Nat.reduceLT, Nat.reduceLeDiff, Nat.reduceAdd, Nat.zero_le, ite_self, reduceCtorEq]
    have hwk : WkT S1 L (i + 1) (fun _ => false, [], if se = true then st.2.2.1 else none, false) := by
      refine ⟨m, ⟨by rw [q1]; simp (disch := omega) only [n_lit, n_m1, ok_S, ok_s, ok_N, ok_n, ↓ok_if, ok_A, ok_a, ok_L, ok_l, ok_zn0, ok_zn1, ok_f2, ok_pure, ok_rI, ok_bn0, ok_bn1, ok_rt, ok_riI, ok_rn0, ok_rn1, ok_go, nx_l, nx_r, sS_s, sS_n, sS_a, sS_l, sS_k, aS_s, aS_n, aS_1, aS_l, aS_k, lS_l, lS_1, lS_a, lS_k, nS_s, nS_n, nS_1, nS_a, nS_l, updS, updN, nI_eq, nI_leI, nI_ltI, nI_add, pk_mul, nN_e, nN_e', nN_l, nN_g, nN_le, nN_ge, ite_not, if_true, if_false, not_true_eq_false, not_false_eq_true, Nat.not_lt_zero, Nat.reduceEqDiff, Nat.reduceLT, Nat.reduceLeDiff, Nat.reduceAdd, Nat.zero_le, ite_self, reduceCtorEq], ?_, by rw [q4]; omega, ?_, ⟨?_, ?_⟩, by rw [q1]; simp (disch := omega) only [n_lit, n_m1, ok_S, ok_s, ok_N, ok_n, ↓ok_if, ok_A, ok_a, ok_L, ok_l, ok_zn0, ok_zn1, ok_f2, ok_pure, ok_rI, ok_bn0, ok_bn1, ok_rt, ok_riI, ok_rn0, ok_rn1, ok_go, nx_l, nx_r, sS_s, sS_n, sS_a, sS_l, sS_k, aS_s, aS_n, aS_1, aS_l, aS_k, lS_l, lS_1, lS_a, lS_k, nS_s, nS_n, nS_1, nS_a, nS_l, updS, updN, nI_eq, nI_leI, nI_ltI, nI_add, pk_mul, nN_e, nN_e', nN_l, nN_g, nN_le, nN_ge, ite_not, if_true, if_false, not_true_eq_false, not_false_eq_true, Nat.not_lt_zero, Nat.reduceEqDiff, Nat.reduceLT, Nat.reduceLeDiff, Nat.reduceAdd, Nat.zero_le, ite_self, reduceCtorEq]; rfl, by rw [q2]; exact a7⟩, ?_⟩
      · rw [q2]
        intro k hk
        obtain ⟨-, b2⟩ := a2 k hk
        have hne : ¬ S.2.1 16 k = nI (i + 1) := by
          rcases b2 with b2 | ⟨j, b2, b3⟩
          · rw [b2, nN_e' (by omega)]
            exact fun q => q
          · rw [b3, nI_eq (by omega) (by omega)]
            omega
        refine ⟨⟨fun q => absurd q hne, fun q => by cases q⟩, ?_⟩
        rcases b2 with b2 | ⟨j, b2, b3⟩
        · exact Or.inl b2
        · exact Or.inr ⟨j, by omega, b3⟩
      · refine ⟨?_, fun n e he => by cases he⟩
        rw [q4, q1]
        simp (disch := omega) only [n_lit, n_m1, ok_S, ok_s, ok_N, ok_n, ↓ok_if, ok_A, ok_a, ok_L, ok_l, ok_zn0, ok_zn1, ok_f2, ok_pure, ok_rI, ok_bn0, ok_bn1, ok_rt, ok_riI, ok_rn0, ok_rn1, ok_go, nx_l, nx_r, sS_s, sS_n, sS_a, sS_l, sS_k, aS_s, aS_n, aS_1, aS_l, aS_k, lS_l, lS_1, lS_a, lS_k, nS_s, nS_n, nS_1, nS_a, nS_l, updS, updN, nI_eq, nI_leI, nI_ltI, nI_add, pk_mul, nN_e, nN_e', nN_l, nN_g, nN_le, nN_ge, ite_not, if_true, if_false, not_true_eq_false, not_false_eq_true, Nat.not_lt_zero, Nat.reduceEqDiff, Nat.reduceLT, Nat.reduceLeDiff, Nat.reduceAdd, Nat.zero_le, ite_self, reduceCtorEq]
        rfl
      · show S1.1 192 = bI (if se = true then st.2.2.1 else none).isSome
        rw [q1, ← q6]
        simp (disch := omega) only [n_lit, n_m1, ok_S, ok_s, ok_N, ok_n, ↓ok_if, ok_A, ok_a, ok_L, ok_l, ok_zn0, ok_zn1, ok_f2, ok_pure, ok_rI, ok_bn0, ok_bn1, ok_rt, ok_riI, ok_rn0, ok_rn1, ok_go, nx_l, nx_r, sS_s, sS_n, sS_a, sS_l, sS_k, aS_s, aS_n, aS_1, aS_l, aS_k, lS_l, lS_1, lS_a, lS_k, nS_s, nS_n, nS_1, nS_a, nS_l, updS, updN, nI_eq, nI_leI, nI_ltI, nI_add, pk_mul, nN_e, nN_e', nN_l, nN_g, nN_le, nN_ge, ite_not, if_true, if_false, not_true_eq_false, not_false_eq_true, Nat.not_lt_zero, Nat.reduceEqDiff, Nat.reduceLT, Nat.reduceLeDiff, Nat.reduceAdd, Nat.zero_le, ite_self, reduceCtorEq]
      · intro fm hfm
        show Mks (S1.2.1 20) fm
        rw [q2]
        have hs : st.2.2.1 = some fm := by
          cases se with
          | true => exact hfm
          | false => cases hfm
        exact a5.2 fm hs
      · have := unv_le (fun _ => false) L
        show 0 + unv (fun _ => false) L ≤ 160
        omega
    have hh := e_stepL (o := o) (se := se) (ws := st.2.1) (f := S.2.2.2 0) (i := i + 1) hw (by omega) hc a3 hln hT hu1 hu st.2.1.length 0 (by omega) S1 (fun _ => false, [], if se = true then st.2.2.1 else none, false) (PgS_frB hP eb) (by rw [q1]; simp (disch := omega) only [n_lit, n_m1, ok_S, ok_s, ok_N, ok_n, ↓ok_if, ok_A, ok_a, ok_L, ok_l, ok_zn0, ok_zn1, ok_f2, ok_pure, ok_rI, ok_bn0, ok_bn1, ok_rt, ok_riI, ok_rn0, ok_rn1, ok_go, nx_l, nx_r, sS_s, sS_n, sS_a, sS_l, sS_k, aS_s, aS_n, aS_1, aS_l, aS_k, lS_l, lS_1, lS_a, lS_k, nS_s, nS_n, nS_1, nS_a, nS_l, updS, updN, nI_eq, nI_leI, nI_ltI, nI_add, pk_mul, nN_e, nN_e', nN_l, nN_g, nN_le, nN_ge, ite_not, if_true, if_false, not_true_eq_false, not_false_eq_true, Nat.not_lt_zero, Nat.reduceEqDiff, Nat.reduceLT, Nat.reduceLeDiff, Nat.reduceAdd, Nat.zero_le, ite_self, reduceCtorEq]; exact hse) ((eb.2.1 41 (by omega)).trans h41) (by rw [q4]; omega) (by rw [q1, q2]; simp (disch := omega) only [n_lit, n_m1, ok_S, ok_s, ok_N, ok_n, ↓ok_if, ok_A, ok_a, ok_L, ok_l, ok_zn0, ok_zn1, ok_f2, ok_pure, ok_rI, ok_bn0, ok_bn1, ok_rt, ok_riI, ok_rn0, ok_rn1, ok_go, nx_l, nx_r, sS_s, sS_n, sS_a, sS_l, sS_k, aS_s, aS_n, aS_1, aS_l, aS_k, lS_l, lS_1, lS_a, lS_k, nS_s, nS_n, nS_1, nS_a, nS_l, updS, updN, nI_eq, nI_leI, nI_ltI, nI_add, pk_mul, nN_e, nN_e', nN_l, nN_g, nN_le, nN_ge, ite_not, if_true, if_false, not_true_eq_false, not_false_eq_true, Nat.not_lt_zero, Nat.reduceEqDiff, Nat.reduceLT, Nat.reduceLeDiff, Nat.reduceAdd, Nat.zero_le, ite_self, reduceCtorEq]; exact a4) hwk (fun q => by cases q)
    rw [q3, List.drop_zero] at hh
    refine ok_mono hh ?_
    intro _ S' h
    have ef := h.1
    have hfam : S'.2.2.2 = S1.2.2.2 := by rw [ef.1]
    refine ⟨FrB_trans eb (FrB_of ef), by rw [hfam, q4]; omega, by rw [hfam, q4, q5]; omega, ?_, ?_, h.2⟩
    · rw [ef.2.1 190 (by omega) (by omega) (by omega) (by omega), q1]
      simp (disch := omega) only [n_lit, n_m1, ok_S, ok_s, ok_N, ok_n, ↓ok_if, ok_A, ok_a, ok_L, ok_l, ok_zn0, ok_zn1, ok_f2, ok_pure, ok_rI, ok_bn0, ok_bn1, ok_rt, ok_riI, ok_rn0, ok_rn1, ok_go, nx_l, nx_r, sS_s, sS_n, sS_a, sS_l, sS_k, aS_s, aS_n, aS_1, aS_l, aS_k, lS_l, lS_1, lS_a, lS_k, nS_s, nS_n, nS_1, nS_a, nS_l, updS, updN, nI_eq, nI_leI, nI_ltI, nI_add, pk_mul, nN_e, nN_e', nN_l, nN_g, nN_le, nN_ge, ite_not, if_true, if_false, not_true_eq_false, not_false_eq_true, Nat.not_lt_zero, Nat.reduceEqDiff, Nat.reduceLT, Nat.reduceLeDiff, Nat.reduceAdd, Nat.zero_le, ite_self, reduceCtorEq]
    · rw [ef.2.1 191 (by omega) (by omega) (by omega) (by omega), q1]
      simp (disch := omega) only [n_lit, n_m1, ok_S, ok_s, ok_N, ok_n, ↓ok_if, ok_A, ok_a, ok_L, ok_l, ok_zn0, ok_zn1, ok_f2, ok_pure, ok_rI, ok_bn0, ok_bn1, ok_rt, ok_riI, ok_rn0, ok_rn1, ok_go, nx_l, nx_r, sS_s, sS_n, sS_a, sS_l, sS_k, aS_s, aS_n, aS_1, aS_l, aS_k, lS_l, lS_1, lS_a, lS_k, nS_s, nS_n, nS_1, nS_a, nS_l, updS, updN, nI_eq, nI_leI, nI_ltI, nI_add, pk_mul, nN_e, nN_e', nN_l, nN_g, nN_le, nN_ge, ite_not, if_true, if_false, not_true_eq_false, not_false_eq_true, Nat.not_lt_zero, Nat.reduceEqDiff, Nat.reduceLT, Nat.reduceLeDiff, Nat.reduceAdd, Nat.zero_le, ite_self, reduceCtorEq]
      exact hse
  have hb2 : S.2.2.2 1 < 2 := by omega
  have h192 : S.1 192 = bI st.2.2.1.isSome := a5.1
  have fx : ∀ v : Bool, (sS (sS (sS (sS (nS (nS S 0 (S.2.2.2 1)) 1 (S.2.2.2 0)) (202 + 60 * S.2.2.2 1) (nI 0)) 194 (nI (i + 1))) 193 (nI 0)) 192 (bI v)).2.2.2 0 = S.2.2.2 1 := by
    intro v
    simp (disch := omega) only [n_lit, n_m1, ok_S, ok_s, ok_N, ok_n, ↓ok_if, ok_A, ok_a, ok_L, ok_l, ok_zn0, ok_zn1, ok_f2, ok_pure, ok_rI, ok_bn0, ok_bn1, ok_rt, ok_riI, ok_rn0, ok_rn1, ok_go, nx_l, nx_r, sS_s, sS_n, sS_a, sS_l, sS_k, aS_s, aS_n, aS_1, aS_l, aS_k, lS_l, lS_1, lS_a, lS_k, nS_s, nS_n, nS_1, nS_a, nS_l, updS, updN, nI_eq, nI_leI, nI_ltI, nI_add, pk_mul, nN_e, nN_e', nN_l, nN_g, nN_le, nN_ge, ite_not, if_true, if_false, not_true_eq_false, not_false_eq_true, Nat.not_lt_zero, Nat.reduceEqDiff, Nat.reduceLT, Nat.reduceLeDiff, Nat.reduceAdd, Nat.zero_le, ite_self, reduceCtorEq]
  have gx : ∀ v : Bool, v = (if se = true then st.2.2.1 else none).isSome → okS (w_fix (b_Wk_step o) (66, [.int (nI c), .int (nI 0)], [some (S.2.2.2 0)])) (sS (sS (sS (sS (nS (nS S 0 (S.2.2.2 1)) 1 (S.2.2.2 0)) (202 + 60 * S.2.2.2 1) (nI 0)) 194 (nI (i + 1))) 193 (nI 0)) 192 (bI v)) (fun _ S' => FrB S S' ∧ S'.2.2.2 0 < 2 ∧ S'.2.2.2 1 = 1 - S'.2.2.2 0 ∧ S'.1 190 = S.1 190 ∧ S'.1 191 = bI se ∧ WkT S' L (i + 1) (stpW P se (i + 1) (fun k => cB S.2.2.1 (P.2.1 k) c) st.2.1 st.2.2.1)) := by
    intro v hv
    exact main _ v rfl rfl rfl (fx v) (by simp (disch := omega) only [n_lit, n_m1, ok_S, ok_s, ok_N, ok_n, ↓ok_if, ok_A, ok_a, ok_L, ok_l, ok_zn0, ok_zn1, ok_f2, ok_pure, ok_rI, ok_bn0, ok_bn1, ok_rt, ok_riI, ok_rn0, ok_rn1, ok_go, nx_l, nx_r, sS_s, sS_n, sS_a, sS_l, sS_k, aS_s, aS_n, aS_1, aS_l, aS_k, lS_l, lS_1, lS_a, lS_k, nS_s, nS_n, nS_1, nS_a, nS_l, updS, updN, nI_eq, nI_leI, nI_ltI, nI_add, pk_mul, nN_e, nN_e', nN_l, nN_g, nN_le, nN_ge, ite_not, if_true, if_false, not_true_eq_false, not_false_eq_true, Nat.not_lt_zero, Nat.reduceEqDiff, Nat.reduceLT, Nat.reduceLeDiff, Nat.reduceAdd, Nat.zero_le, ite_self, reduceCtorEq]) hv
  exact e_step0 a1 hb2 h192 hse gx
