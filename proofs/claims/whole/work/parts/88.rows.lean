/-! ROWS AND REPEATS of the class: their sizes, appending -/
def rsz (az le mo en pl : Int32) : Int32 := if pl = nI 0 then (if en = nI 0 then le * az + (mo - le) * (az + nI 1) else (le + nI 1) * az + nI 2) else az + nI 1
def mnI (x : Int32) : Int32 := if x < nI 1000 then x else nI 1000
section RW
variable {S : qSt} {H : qH} {o r a b : Nat} {s nu az le mo en pl lz s2 nu2 az2 le2 mo2 en2 pl2 lz2 sz : Int32} {i nx f n i2 nx2 : Option Nat}
theorem e_rsize {Q : Int32 → qSt → qH → Prop} (hf : q_far o b) (hb : H.1 b = some (oP s i nu az le mo en pl lz nx)) (k : Q (rsz az le mo en pl) S H) : okT (f_Rp_size o b) S H Q := by
  obtain ⟨h, mm⟩ := H
  have e : (h, mm) = (q_up h b (oP s i nu az le mo en pl lz nx), mm) := by rw [upI hb]
  rw [e] at k ⊢
  unfold rsz at k
  unfold f_Rp_size
  by_cases h1 : pl = nI 0
  · rw [if_pos h1] at k
    by_cases h2 : en = nI 0
    · rw [if_pos h2] at k
      simp (disch := first | omega | assumption) only [n_lit, n_m1, t_S, t_s, ↓t_if, t_pure, t_rI, t_riI, t_rt, t_go, nt_l, nt_r, t_nn, t_nul0, t_nul1, rp_g0, rp_s0, rp_g1, rp_s1, rp_s1n, rp_g2, rp_s2, rp_g3, rp_s3, rp_g4, rp_s4, rp_g5, rp_s5, rp_g6, rp_s6z, rp_s6u, rp_g7, rp_s7z, rp_s7u, rp_g8, rp_s8z, rp_s8u, rp_g9, rp_s9, rp_s9n, rw_g0, rw_s0, rw_s0n, rw_g1, rw_s1, rw_s1n, rw_g2, rw_s2, rw_s2n, rw_g3, rw_s3, sS_s, sS_n, sS_a, sS_l, sS_k, lS_l, lS_1, lS_a, lS_k, nI_eq, nI_leI, nI_ltI, nI_add, pk_mul, nN_e, nN_e', nN_l, nN_g, nN_le, nN_ge, ite_not, if_true, if_false, not_true_eq_false, not_false_eq_true, Nat.not_lt_zero, Nat.reduceEqDiff, Nat.reduceLT, Nat.reduceLeDiff, Nat.reduceAdd, Nat.zero_le, ite_self, reduceCtorEq, bI_t, bI_f, bI_z, bI_1, if_pos, if_neg, h1, h2]
      subst h1
      subst h2
      exact k
    · rw [if_neg h2] at k
      subst h1
      simp (disch := first | omega | assumption) only [n_lit, n_m1, t_S, t_s, ↓t_if, t_pure, t_rI, t_riI, t_rt, t_go, nt_l, nt_r, t_nn, t_nul0, t_nul1, rp_g0, rp_s0, rp_g1, rp_s1, rp_s1n, rp_g2, rp_s2, rp_g3, rp_s3, rp_g4, rp_s4, rp_g5, rp_s5, rp_g6, rp_s6z, rp_s6u, rp_g7, rp_s7z, rp_s7u, rp_g8, rp_s8z, rp_s8u, rp_g9, rp_s9, rp_s9n, rw_g0, rw_s0, rw_s0n, rw_g1, rw_s1, rw_s1n, rw_g2, rw_s2, rw_s2n, rw_g3, rw_s3, sS_s, sS_n, sS_a, sS_l, sS_k, lS_l, lS_1, lS_a, lS_k, nI_eq, nI_leI, nI_ltI, nI_add, pk_mul, nN_e, nN_e', nN_l, nN_g, nN_le, nN_ge, ite_not, if_true, if_false, not_true_eq_false, not_false_eq_true, Nat.not_lt_zero, Nat.reduceEqDiff, Nat.reduceLT, Nat.reduceLeDiff, Nat.reduceAdd, Nat.zero_le, ite_self, reduceCtorEq, bI_t, bI_f, bI_z, bI_1, if_pos, if_neg, h2]
      exact k
  · rw [if_neg h1] at k
    simp (disch := first | omega | assumption) only [n_lit, n_m1, t_S, t_s, ↓t_if, t_pure, t_rI, t_riI, t_rt, t_go, nt_l, nt_r, t_nn, t_nul0, t_nul1, rp_g0, rp_s0, rp_g1, rp_s1, rp_s1n, rp_g2, rp_s2, rp_g3, rp_s3, rp_g4, rp_s4, rp_g5, rp_s5, rp_g6, rp_s6z, rp_s6u, rp_g7, rp_s7z, rp_s7u, rp_g8, rp_s8z, rp_s8u, rp_g9, rp_s9, rp_s9n, rw_g0, rw_s0, rw_s0n, rw_g1, rw_s1, rw_s1n, rw_g2, rw_s2, rw_s2n, rw_g3, rw_s3, sS_s, sS_n, sS_a, sS_l, sS_k, lS_l, lS_1, lS_a, lS_k, nI_eq, nI_leI, nI_ltI, nI_add, pk_mul, nN_e, nN_e', nN_l, nN_g, nN_le, nN_ge, ite_not, if_true, if_false, not_true_eq_false, not_false_eq_true, Nat.not_lt_zero, Nat.reduceEqDiff, Nat.reduceLT, Nat.reduceLeDiff, Nat.reduceAdd, Nat.zero_le, ite_self, reduceCtorEq, bI_t, bI_f, bI_z, bI_1, if_pos, if_neg, h1]
    exact k
theorem e_k23 {l : Option Nat} {Q : Unit → qSt → qH → Prop} (hr : q_far o r) (hf : q_far o b) (hR : H.1 r = some (oR f l n sz)) (hb : H.1 b = some (oP s i nu az le mo en pl lz nx)) (hne : b ≠ r) (k : Q () S (q_up H.1 r (oR f (some b) n (mnI (sz + rsz az le mo en pl))), H.2)) : okT (k_Rw_append_23 o (some r) (some b)) S H Q := by
  obtain ⟨h, mm⟩ := H
  have e : (h, mm) = (q_up h r (oR f l n sz), mm) := by rw [upI hR]
  rw [e]
  unfold k_Rw_append_23
  simp (disch := first | omega | assumption) only [n_lit, n_m1, t_S, t_s, ↓t_if, t_pure, t_rI, t_riI, t_rt, t_go, nt_l, nt_r, t_nn, t_nul0, t_nul1, rp_g0, rp_s0, rp_g1, rp_s1, rp_s1n, rp_g2, rp_s2, rp_g3, rp_s3, rp_g4, rp_s4, rp_g5, rp_s5, rp_g6, rp_s6z, rp_s6u, rp_g7, rp_s7z, rp_s7u, rp_g8, rp_s8z, rp_s8u, rp_g9, rp_s9, rp_s9n, rw_g0, rw_s0, rw_s0n, rw_g1, rw_s1, rw_s1n, rw_g2, rw_s2, rw_s2n, rw_g3, rw_s3, sS_s, sS_n, sS_a, sS_l, sS_k, lS_l, lS_1, lS_a, lS_k, nI_eq, nI_leI, nI_ltI, nI_add, pk_mul, nN_e, nN_e', nN_l, nN_g, nN_le, nN_ge, ite_not, if_true, if_false, not_true_eq_false, not_false_eq_true, Nat.not_lt_zero, Nat.reduceEqDiff, Nat.reduceLT, Nat.reduceLeDiff, Nat.reduceAdd, Nat.zero_le, ite_self, reduceCtorEq, bI_t, bI_f, bI_z, bI_1, if_pos, if_neg]
  have hb2 : (q_up h r (oR f (some b) n sz), mm).1 b = some (oP s i nu az le mo en pl lz nx) := (upN hne).trans hb
  rw [rp_is hb2 hf]
  refine t_C (e_rsize hf hb2 ?_)
  simp (disch := first | omega | assumption) only [n_lit, n_m1, t_S, t_s, ↓t_if, t_pure, t_rI, t_riI, t_rt, t_go, nt_l, nt_r, t_nn, t_nul0, t_nul1, rp_g0, rp_s0, rp_g1, rp_s1, rp_s1n, rp_g2, rp_s2, rp_g3, rp_s3, rp_g4, rp_s4, rp_g5, rp_s5, rp_g6, rp_s6z, rp_s6u, rp_g7, rp_s7z, rp_s7u, rp_g8, rp_s8z, rp_s8u, rp_g9, rp_s9, rp_s9n, rw_g0, rw_s0, rw_s0n, rw_g1, rw_s1, rw_s1n, rw_g2, rw_s2, rw_s2n, rw_g3, rw_s3, sS_s, sS_n, sS_a, sS_l, sS_k, lS_l, lS_1, lS_a, lS_k, nI_eq, nI_leI, nI_ltI, nI_add, pk_mul, nN_e, nN_e', nN_l, nN_g, nN_le, nN_ge, ite_not, if_true, if_false, not_true_eq_false, not_false_eq_true, Nat.not_lt_zero, Nat.reduceEqDiff, Nat.reduceLT, Nat.reduceLeDiff, Nat.reduceAdd, Nat.zero_le, ite_self, reduceCtorEq, bI_t, bI_f, bI_z, bI_1, if_pos, if_neg]
  exact k
theorem e_app0 {Q : Unit → qSt → qH → Prop} (hr : q_far o r) (hf : q_far o b) (hR : H.1 r = some (oR f none n sz)) (hb : H.1 b = some (oP s i nu az le mo en pl lz nx)) (hne : b ≠ r) (k : Q () S (q_up H.1 r (oR (some b) (some b) n (mnI (sz + rsz az le mo en pl))), H.2)) : okT (f_Rw_append o r (some b)) S H Q := by
  unfold f_Rw_append
  rw [rw_h1 hR hr, t_nul0, rw_t0 hR hr]
  refine e_k23 hr hf (upS _ _ _) ((upN hne).trans hb) hne ?_
  rw [show (q_up H.1 r (oR (some b) none n sz), H.2).1 = q_up H.1 r (oR (some b) none n sz) from rfl, upU]
  exact k
theorem e_app1 {Q : Unit → qSt → qH → Prop} (hr : q_far o r) (hf : q_far o b) (ha : q_far o a) (hR : H.1 r = some (oR f (some a) n sz)) (hA : H.1 a = some (oP s2 i2 nu2 az2 le2 mo2 en2 pl2 lz2 nx2)) (hb : H.1 b = some (oP s i nu az le mo en pl lz nx)) (hne : b ≠ r) (hba : b ≠ a) (har : a ≠ r) (k : Q () S (q_up (q_up H.1 a (oP s2 i2 nu2 az2 le2 mo2 en2 pl2 lz2 (some b))) r (oR f (some b) n (mnI (sz + rsz az le mo en pl))), H.2)) : okT (f_Rw_append o r (some b)) S H Q := by
  unfold f_Rw_append
  rw [rw_h1 hR hr, t_nul1, rw_h1 hR hr, t_nn, rp_t9 hA ha]
  exact e_k23 hr hf ((upN (fun q => har q.symm)).trans hR) ((upN hba).trans hb) hne k
end RW
/-- rows in a chain, with their sizes -/
def SzC (H : Nat → Option qE) : List (Nat × Int32) → Prop
  | [] => True
  | x :: r => (∃ f l, H x.1 = some (oR f l (r.head?.map Prod.fst) x.2)) ∧ SzC H r
def szF (v : Int32) : List (Nat × Int32) → Int32
  | [] => v
  | x :: r => szF (mnI (v + nI 2 + x.2)) r
theorem e_sac {S : qSt} {H : qH} {o : Nat} {x : Nat × Int32} {r : List (Nat × Int32)} {Q : Int32 → qSt → qH → Prop} (hC : SzC H.1 (x :: r)) (hf : ∀ y ∈ x :: r, q_far o y.1) (k : Q (szF x.2 r) S H) : okT (f_Rw_sizeAsChoice o x.1) S H Q := by
  have lp : ∀ (r : List (Nat × Int32)) (v : Int32), SzC H.1 r → (∀ y ∈ r, q_far o y.1) → Q (szF v r) S H → okT (w_fix (b_Rw_sizeAsChoice o) (10, [.int v], [r.head?.map Prod.fst])) S H Q := by
    intro r
    induction r with
    | nil =>
      intro v h1 h2 k
      refine t_fix ?_
      show okT (k_Rw_sizeAsChoice_10 o v none) S H _
      unfold k_Rw_sizeAsChoice_10
      rw [t_nul0, t_riI, nt_r]
      exact k
    | cons y r ih =>
      intro v h1 h2 k
      obtain ⟨⟨f, l, h3⟩, h4⟩ := h1
      refine t_fix ?_
      show okT (k_Rw_sizeAsChoice_10 o v (some y.1)) S H _
      unfold k_Rw_sizeAsChoice_10
      rw [t_nul1, rw_h3 h3 (h2 y (by simp)), rw_h2 h3 (h2 y (by simp)), t_go, nt_l]
      exact ih _ h4 (fun z hz => h2 z (by simp [hz])) k
  obtain ⟨⟨f, l, h3⟩, h4⟩ := hC
  unfold f_Rw_sizeAsChoice
  refine t_fix ?_
  show okT (k_Rw_sizeAsChoice_0 o x.1) S H _
  unfold k_Rw_sizeAsChoice_0
  rw [rw_h3 h3 (hf x (by simp)), rw_h2 h3 (hf x (by simp)), t_go, nt_l]
  exact lp r x.2 h4 (fun z hz => hf z (by simp [hz])) k
theorem mnI_n {a : Nat} (h : a < 100000) : mnI (nI a) = nI (min 1000 a) := by
  unfold mnI
  by_cases q : a < 1000
  · rw [if_pos (by rw [nI_ltI (by omega) (by omega)]; exact q), Nat.min_eq_right (by omega)]
  · rw [if_neg (by rw [nI_ltI (by omega) (by omega)]; exact q), Nat.min_eq_left (by omega)]
theorem szF_n (W : Nat → Nat) (ad : Nat → Nat) : ∀ (r : List Nat) (v : Nat), szF (nI (min 1000 v)) (r.map (fun x => (ad x, nI (min 1000 (W x))))) = nI (min 1000 (v + sumW W r + 2 * r.length)) := by
  intro r
  induction r with
  | nil =>
    intro v
    rfl
  | cons x r ih =>
    intro v
    show szF (mnI (nI (min 1000 v) + nI 2 + nI (min 1000 (W x)))) (r.map _) = _
    rw [nI_add, nI_add, mnI_n (by omega)]
    have e : min 1000 (min 1000 v + 2 + min 1000 (W x)) = min 1000 (v + 2 + W x) := by omega
    rw [e, ih]
    congr 2
    have : sumW W (x :: r) = W x + sumW W r := by
      unfold sumW
      simp
    rw [this]
    simp only [List.length_cons]
    omega
theorem SzC_of {t : Nat → ND} {W ad : Nat → Nat} {H : Nat → Option qE} : ∀ {ks : List Nat}, LC (fRw t W ad) H ad ks → SzC H (ks.map (fun x => (ad x, nI (min 1000 (W x))))) := by
  intro ks
  induction ks with
  | nil => intro _; trivial
  | cons x r ih =>
    rintro ⟨⟨e, h1, l, h2⟩, h3⟩
    refine ⟨⟨(t x).2.1.head?.map ad, l, ?_⟩, ih h3⟩
    show H (ad x) = _
    rw [h1, h2]
    congr 2
    cases r with
    | nil => rfl
    | cons y r' => rfl
theorem rsz_n {d : ND} {az : Nat} (hd : okN d) (ha : az ≤ 1100) : rsz (nI az) (nI (cle d.2.2.1 d.2.2.2.1)) (nI (cmo d.2.2.1 d.2.2.2.1 d.2.2.2.2.1)) (nI (cen d.2.2.1)) (nI (cpl d.2.2.1)) = nI (wRep d.2.2.1 d.2.2.2.1 d.2.2.2.2.1 az) ∧ wRep d.2.2.1 d.2.2.2.1 d.2.2.2.2.1 az < 30000 := by
  obtain ⟨h1, h2, h3, h4, h5⟩ := hd
  generalize d.2.2.1 = how at *
  generalize d.2.2.2.1 = l at *
  generalize d.2.2.2.2.1 = m at *
  have hl : l * az ≤ 9 * 1100 := Nat.mul_le_mul h2 ha
  have hl2 : (l + 1) * az ≤ 10 * 1100 := Nat.mul_le_mul (by omega) ha
  have hl3 : (m - l) * (az + 1) ≤ 9 * 1101 := Nat.mul_le_mul (by omega) (by omega)
  have hh : how = 0 ∨ how = 1 ∨ how = 2 ∨ how = 3 ∨ how = 4 ∨ how = 5 ∨ how = 6 := by omega
  unfold rsz
  rcases hh with h | h | h | h | h | h | h
  · subst h
    refine ⟨?_, by show az < 30000; omega⟩
    show (if nI 0 = nI 0 then if nI 0 = nI 0 then nI 1 * nI az + (nI 1 - nI 1) * (nI az + nI 1) else _ else _) = nI az
    rw [if_pos rfl, if_pos rfl]
    simp (disch := omega) only [pk_mul, pk_sub, nI_add]
    congr 1
    omega
  · subst h
    refine ⟨?_, by show az + 2 < 30000; omega⟩
    show (if nI 0 = nI 0 then if nI 1 = nI 0 then _ else (nI 0 + nI 1) * nI az + nI 2 else _) = nI (az + 2)
    rw [if_pos rfl, if_neg (by rw [nI_eq (by omega) (by omega)]; omega)]
    simp (disch := omega) only [pk_mul, pk_sub, nI_add]
    congr 1
    omega
  · subst h
    refine ⟨?_, by show az + 1 < 30000; omega⟩
    show (if nI 1 = nI 0 then _ else nI az + nI 1) = nI (az + 1)
    rw [if_neg (by rw [nI_eq (by omega) (by omega)]; omega)]
    simp (disch := omega) only [pk_mul, pk_sub, nI_add]
  · subst h
    refine ⟨?_, by show az + 1 < 30000; omega⟩
    show (if nI 0 = nI 0 then if nI 0 = nI 0 then nI 0 * nI az + (nI 1 - nI 0) * (nI az + nI 1) else _ else _) = nI (az + 1)
    rw [if_pos rfl, if_pos rfl]
    simp (disch := omega) only [pk_mul, pk_sub, nI_add]
    congr 1
    omega
  · subst h
    refine ⟨?_, by show l * az < 30000; omega⟩
    show (if nI 0 = nI 0 then if nI 0 = nI 0 then nI l * nI az + (nI l - nI l) * (nI az + nI 1) else _ else _) = nI (l * az)
    rw [if_pos rfl, if_pos rfl]
    simp (disch := omega) only [pk_mul, pk_sub, nI_add]
    congr 1
    rw [Nat.sub_self, Nat.zero_mul]
    omega
  · subst h
    refine ⟨?_, by show (l + 1) * az + 2 < 30000; omega⟩
    show (if nI 0 = nI 0 then if nI 1 = nI 0 then _ else (nI l + nI 1) * nI az + nI 2 else _) = nI ((l + 1) * az + 2)
    rw [if_pos rfl, if_neg (by rw [nI_eq (by omega) (by omega)]; omega)]
    simp (disch := omega) only [pk_mul, pk_sub, nI_add]
  · subst h
    have := h5 rfl
    refine ⟨?_, by show l * az + (m - l) * (az + 1) < 30000; omega⟩
    show (if nI 0 = nI 0 then if nI 0 = nI 0 then nI l * nI az + (nI m - nI l) * (nI az + nI 1) else _ else _) = nI (l * az + (m - l) * (az + 1))
    rw [if_pos rfl, if_pos rfl]
    simp (disch := omega) only [pk_mul, pk_sub, nI_add]
