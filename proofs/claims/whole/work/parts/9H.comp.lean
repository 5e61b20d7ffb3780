/-! COMPILE: the program as a list; the reference's compile -/
def full (t : Nat → ND) (W : Nat → Nat) (N : Nat) : List INS := [(3, 0, 0)] ++ em t W N 0 1 ++ [(3, 1, 0)] ++ [(4, 0, 0)]
def XF (l : List INS) (i : Nat) : INS := l.getD i (0, 0, 0)
theorem AGL_of {l : List INS} : ∀ (a b c : List INS), l = a ++ b ++ c → AGL (XF l) b a.length := by
  intro a b
  induction b generalizing a with
  | nil => intro c _; trivial
  | cons z r ih =>
    intro c h
    refine ⟨?_, ?_⟩
    · unfold XF
      rw [h]
      simp
    · have := ih (a ++ [z]) c (by rw [h]; simp)
      rw [List.length_append] at this
      exact this
theorem XF_mem {l : List INS} {i : Nat} (h : i < l.length) : XF l i = l[i] := by
  unfold XF
  rw [List.getD_eq_getElem?_getD, List.getElem?_eq_getElem h]
  rfl
section CF
variable {t : Nat → ND} {W : Nat → Nat} {N u g : Nat}
theorem full_len (hS : Sh t W u g N) (hN : 0 < N) : (full t W N).length = W 0 + 3 := by
  unfold full
  have := E_len hS N 0 hN (by omega) 1
  simp only [List.length_append, List.length_cons, List.length_nil, this]
  omega
theorem full_at (hS : Sh t W u g N) (hN : 0 < N) : XF (full t W N) 0 = (3, 0, 0) ∧ XF (full t W N) (W 0 + 1) = (3, 1, 0) ∧ XF (full t W N) (W 0 + 2) = (4, 0, 0) ∧ AGL (XF (full t W N)) (em t W N 0 1) 1 ∧ ∀ i, 0 < i → i < W 0 + 1 → ∃ z ∈ em t W N 0 1, XF (full t W N) i = z := by
  have el := E_len hS N 0 hN (by omega) 1
  refine ⟨rfl, ?_, ?_, ?_, fun i h1 h2 => ?_⟩
  · have := AGL_of (l := full t W N) ([(3, 0, 0)] ++ em t W N 0 1) [(3, 1, 0)] [(4, 0, 0)] rfl
    rw [List.length_append, el] at this
    have e : [((3 : Nat), (0 : Nat), (0 : Nat))].length + W 0 = W 0 + 1 := by
      simp only [List.length_cons, List.length_nil]
      omega
    rw [e] at this
    exact this.1.symm
  · have := AGL_of (l := full t W N) ([(3, 0, 0)] ++ em t W N 0 1 ++ [(3, 1, 0)]) [(4, 0, 0)] [] (by simp [full])
    rw [List.length_append, List.length_append, el] at this
    have e : [((3 : Nat), (0 : Nat), (0 : Nat))].length + W 0 + [((3 : Nat), (1 : Nat), (0 : Nat))].length = W 0 + 2 := by
      simp only [List.length_cons, List.length_nil]
      omega
    rw [e] at this
    exact this.1.symm
  · exact AGL_of (l := full t W N) [(3, 0, 0)] (em t W N 0 1) ([(3, 1, 0)] ++ [(4, 0, 0)]) (by simp [full])
  · have hl := full_len hS hN
    have hi : i - 1 < (em t W N 0 1).length := by omega
    refine ⟨(em t W N 0 1)[i - 1], List.getElem_mem hi, ?_⟩
    unfold XF full
    obtain ⟨j, rfl⟩ : ∃ j, i = j + 1 := ⟨i - 1, by omega⟩
    have hj : j < (em t W N 0 1).length := by omega
    simp only [List.append_assoc, List.cons_append, List.nil_append, List.getD_cons_succ, Nat.add_sub_cancel]
    rw [List.getD_eq_getElem?_getD, List.getElem?_append_left hj, List.getElem?_eq_getElem hj]
    rfl
theorem full_WF (hS : Sh t W u g N) (hN : 0 < N) (hg : g ≤ 6) (hu : u ≤ 48) (hW : W 0 + 3 ≤ 160) : WF (fun k => (XF (full t W N) k).1, fun k => (XF (full t W N) k).2.1, fun k => (XF (full t W N) k).2.2) (W 0 + 3) ∧ (∀ k, k < W 0 + 3 → (XF (full t W N) k).1 = 0 → (XF (full t W N) k).2.1 < u) ∧ ∀ k, k < W 0 + 3 → (XF (full t W N) k).1 = 3 → (XF (full t W N) k).2.1 ≤ 2 * g + 1 := by
  obtain ⟨f0, f1, f2, f3, f4⟩ := full_at hS hN
  have el := E_len hS N 0 hN (by omega) 1
  have hg4 : ∀ k, 0 < k → k < W 0 + 1 → gI u g (1 + W 0) (XF (full t W N) k) := by
    intro k h1 h2
    obtain ⟨z, hz, e⟩ := f4 k h1 h2
    rw [e]
    exact E_g hS N 0 hN (by omega) 1 z hz
  have cs : ∀ k, k < W 0 + 3 → k = 0 ∨ (0 < k ∧ k < W 0 + 1) ∨ k = W 0 + 1 ∨ k = W 0 + 2 := by
    intro k hk
    omega
  refine ⟨⟨by omega, by omega, fun k hk => ?_⟩, fun k hk h => ?_, fun k hk h => ?_⟩
  · dsimp only
    rcases cs k hk with h | h | h | h
    · subst h
      rw [f0]
      exact ⟨⟨by omega, by show 0 < 200; omega, by show 0 < 200; omega⟩, fun q => (by cases q), fun q => (by cases q), fun q => (by cases q), fun _ => ⟨by show 0 < 14; omega, by omega⟩, ⟨fun q => (by cases q), fun q => by omega⟩⟩
    · obtain ⟨z1, z2, z3, z4, z5⟩ := hg4 k h.1 h.2
      have c4 : (XF (full t W N) k).1 = 0 ∨ (XF (full t W N) k).1 = 1 ∨ (XF (full t W N) k).1 = 2 ∨ (XF (full t W N) k).1 = 3 := by omega
      refine ⟨⟨by omega, ?_, ?_⟩, fun q => by omega, fun q => ?_, fun q => ?_, fun q => ?_, fun q => by omega, fun q => by omega⟩
      · rcases c4 with q | q | q | q
        · have := (z2 q).1; omega
        · have := (z3 q).1; omega
        · have := (z4 q).1; omega
        · have := (z5 q).1; omega
      · rcases c4 with q | q | q | q
        · have := (z2 q).2; omega
        · have := (z3 q).2; omega
        · have := (z4 q).2; omega
        · have := (z5 q).2; omega
      · have := z3 q; omega
      · have := (z4 q).1; omega
      · have := (z5 q).1; omega
    · subst h
      rw [f1]
      exact ⟨⟨by omega, by show 1 < 200; omega, by show 0 < 200; omega⟩, fun q => (by cases q), fun q => (by cases q), fun q => (by cases q), fun _ => ⟨by show 1 < 14; omega, by omega⟩, ⟨fun q => (by cases q), fun q => by omega⟩⟩
    · subst h
      rw [f2]
      exact ⟨⟨by omega, by show 0 < 200; omega, by show 0 < 200; omega⟩, fun q => (by cases q), fun q => (by cases q), fun q => (by cases q), fun q => (by cases q), ⟨fun _ => by omega, fun _ => rfl⟩⟩
  · rcases cs k hk with q | q | q | q
    · subst q; rw [f0] at h; cases h
    · exact ((hg4 k q.1 q.2).2.1 h).1
    · subst q; rw [f1] at h; cases h
    · subst q; rw [f2] at h; cases h
  · rcases cs k hk with q | q | q | q
    · subst q; rw [f0]; show 0 ≤ _; omega
    · exact ((hg4 k q.1 q.2).2.2.2.2 h).1
    · subst q; rw [f1]; show 1 ≤ _; omega
    · subst q; rw [f2] at h; cases h
end CF
def dI (j : Nat) : Int32 := if j = 0 then nN else nI (j - 1)
theorem dI_dec (j : Nat) (h : j < 2 ^ 30) : nI j + nN = dI j := by
  unfold dI
  by_cases e : j = 0
  · subst e
    rw [if_pos rfl]
    rfl
  · rw [if_neg e]
    have h1 : nN = nI 0 - nI 1 := by decide
    obtain ⟨i, rfl⟩ : ∃ i, j = i + 1 := ⟨j - 1, by omega⟩
    rw [Nat.add_sub_cancel, ← nI_add, Int32.add_assoc]
    have : nI 1 + nN = nI 0 := by decide
    rw [this, nI_add]
    rfl
def FrTen (S S' : qSt) : Prop := S'.1 = S.1 ∧ S'.2.2 = S.2.2 ∧ ∀ f, f ≠ 10 → S'.2.1 f = S.2.1 f
section MC
variable {t : Nat → ND} {W : Nat → Nat} {N u g : Nat} {S : qSt}
theorem e_w62 {Q : Int32 → qSt → Prop} (hS : Sh t W u g N) (hg : g ≤ 6) (hN : N ≤ 110) : ∀ (j : Nat) (S : qSt), j ≤ N → RT S t N → (∀ k, j ≤ k → k < N → S.2.1 10 k = nI (wd W k)) → (∀ S', FrTen S S' → MX t W N S' → okS (k_Md_compile_87 (nI 0) (nI 1)) S' (nxS b_Md_compile Q)) → okS (w_fix b_Md_compile (62, [.int (nI 0), .int (nI 1), .int (dI j)], [])) S Q := by
  intro j
  induction j with
  | zero =>
    intro S hj hR hw q
    refine ok_fix ?_
    show okS (k_Md_compile_62 (nI 0) (nI 1) nN) S _
    unfold k_Md_compile_62
    simp (disch := omega) only [n_lit, n_m1, ok_S, ok_s, ok_N, ok_n, ↓ok_if, ok_A, ok_a, ok_L, ok_l, ok_zn0, ok_zn1, ok_f2, ok_pure, ok_rI, ok_bn0, ok_bn1, ok_rt, ok_riI, ok_rn0, ok_rn1, ok_go, nx_l, nx_r, sS_s, sS_n, sS_a, sS_l, sS_k, aS_s, aS_n, aS_1, aS_l, aS_k, lS_l, lS_1, lS_a, lS_k, nS_s, nS_n, nS_1, nS_a, nS_l, updS, updN, nI_eq, nI_leI, nI_ltI, nI_add, pk_mul, nN_e, nN_e', nN_l, nN_g, nN_le, nN_ge, ite_not, if_true, if_false, not_true_eq_false, not_false_eq_true, Nat.not_lt_zero, Nat.reduceEqDiff, Nat.reduceLT, Nat.reduceLeDiff, Nat.reduceAdd, Nat.zero_le, ite_self, reduceCtorEq, bI_t, bI_f, bI_z, bI_1, ok_bb, if_pos, if_neg]
    exact q S ⟨rfl, rfl, fun f _ => rfl⟩ ⟨hR, fun k hk => hw k (Nat.zero_le k) hk⟩
  | succ j ih =>
    intro S hj hR hw q
    have ej : dI (j + 1) = nI j := by
      unfold dI
      rw [if_neg (by omega), Nat.add_sub_cancel]
    rw [ej]
    refine ok_fix ?_
    show okS (k_Md_compile_62 (nI 0) (nI 1) (nI j)) S _
    unfold k_Md_compile_62
    simp (disch := omega) only [n_lit, n_m1, ok_S, ok_s, ok_N, ok_n, ↓ok_if, ok_A, ok_a, ok_L, ok_l, ok_zn0, ok_zn1, ok_f2, ok_pure, ok_rI, ok_bn0, ok_bn1, ok_rt, ok_riI, ok_rn0, ok_rn1, ok_go, nx_l, nx_r, sS_s, sS_n, sS_a, sS_l, sS_k, aS_s, aS_n, aS_1, aS_l, aS_k, lS_l, lS_1, lS_a, lS_k, nS_s, nS_n, nS_1, nS_a, nS_l, updS, updN, nI_eq, nI_leI, nI_ltI, nI_add, pk_mul, nN_e, nN_e', nN_l, nN_g, nN_le, nN_ge, ite_not, if_true, if_false, not_true_eq_false, not_false_eq_true, Nat.not_lt_zero, Nat.reduceEqDiff, Nat.reduceLT, Nat.reduceLeDiff, Nat.reduceAdd, Nat.zero_le, ite_self, reduceCtorEq, bI_t, bI_f, bI_z, bI_1, ok_bb, if_pos, if_neg]
    refine ok_C (ok_mono (e_width hg hR (show j < N by omega) hN (hS j (by omega)).2 (fun k h1 h2 => hw k (by omega) h2)) ?_)
    rintro v S1 ⟨rfl, rfl⟩
    simp (disch := omega) only [n_lit, n_m1, ok_S, ok_s, ok_N, ok_n, ↓ok_if, ok_A, ok_a, ok_L, ok_l, ok_zn0, ok_zn1, ok_f2, ok_pure, ok_rI, ok_bn0, ok_bn1, ok_rt, ok_riI, ok_rn0, ok_rn1, ok_go, nx_l, nx_r, sS_s, sS_n, sS_a, sS_l, sS_k, aS_s, aS_n, aS_1, aS_l, aS_k, lS_l, lS_1, lS_a, lS_k, nS_s, nS_n, nS_1, nS_a, nS_l, updS, updN, nI_eq, nI_leI, nI_ltI, nI_add, pk_mul, nN_e, nN_e', nN_l, nN_g, nN_le, nN_ge, ite_not, if_true, if_false, not_true_eq_false, not_false_eq_true, Nat.not_lt_zero, Nat.reduceEqDiff, Nat.reduceLT, Nat.reduceLeDiff, Nat.reduceAdd, Nat.zero_le, ite_self, reduceCtorEq, bI_t, bI_f, bI_z, bI_1, ok_bb, if_pos, if_neg]
    rw [dI_dec j (by omega)]
    refine ih _ (by omega) (RT_fr hR (fun f a b => aS_n (by omega))) (fun k h1 h2 => ?_) (fun S' f' m' => q S' ⟨f'.1, f'.2.1, fun f hf => (f'.2.2 f hf).trans (aS_n hf)⟩ m')
    rw [aS_s]
    by_cases e : k = j
    · subst e
      rw [updS]
    · rw [updN e]
      exact hw k (by omega) h2
end MC
