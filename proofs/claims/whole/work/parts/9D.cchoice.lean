/-! WRITING, by the class: a choice; the whole program -/
section WCH
variable {o c u g N a0 a1 : Nat} {t : Nat → ND} {W ad dp : Nat → Nat} {H : qH}
theorem w_choice (h : WX o t W ad dp H u g N a0 a1) (hc : c < N) (h0 : (t c).1 = 0) (ihR : ∀ y, c < y → y < N → (t y).1 = 2 → ∀ nx, H.1 (ad y) = some (rpOb t W ad y nx) → ∀ F S l, 3 * (8 - dp y) + 2 ≤ F → PL S l → W y + l.length ≤ 160 → okT (g_wr o F 1 (some (ad y)) (nI (dp y))) S H (WP H S (l ++ em t W N y l.length))) : WC o t W ad dp H N c := by
  intro F S l hF hP hW
  have hSh := WX_Sh h
  obtain ⟨F', rfl⟩ : ∃ F', F = F' + 1 := ⟨F - 1, by omega⟩
  obtain ⟨c1, ⟨_, cs, _⟩, cd, _⟩ := h.1 c (Nat.zero_le c) hc
  obtain ⟨cs1, cs2, cs3⟩ := cs h0
  have cLC := cd h0
  have dpc := h.2.2.2.1 c hc
  have eE : em t W N c l.length = emRows (em t W N) W (l.length + W c) (t c).2.1 l.length := by
    rw [E_eq hSh hc]
    unfold emB
    rw [if_pos h0]
  rw [eE]
  show okT (w_C (f_Pr_writeChoice o (g_wr o F') (some (ad (k0 (t c)))) (nI (dp c))) fun _ => w_pure none) S H _
  -- the repeats of a row
  have lp67 : ∀ (ys : List Nat) (x fin : Nat) (S : qSt) (l : List INS) (Q : Unit → qSt → qH → Prop), LC (fRp t W ad) H.1 ad ys → (∀ y ∈ ys, c < y ∧ y < N ∧ (t y).1 = 2 ∧ dp y = dp c) → PL S l → sumW W ys + l.length ≤ 160 → (∀ S', FrU S S' → PL S' (l ++ emSeq (em t W N) W ys l.length) → okT (k_Pr_writeChoice_67 o (g_wr o F') (nI (dp c)) (nI fin) (some (ad x)) none) S' H (nxT (b_Pr_writeChoice o (g_wr o F')) Q)) → okT (w_fix (b_Pr_writeChoice o (g_wr o F')) (67, [.int (nI (dp c)), .int (nI fin)], [some (ad x), ys.head?.map ad])) S H Q := by
    intro ys
    induction ys with
    | nil =>
      intro x fin S l Q _ _ hP _ kk
      refine t_fix ?_
      show okT (k_Pr_writeChoice_67 o (g_wr o F') (nI (dp c)) (nI fin) (some (ad x)) none) S H _
      refine kk S (FrU_rf _) ?_
      show PL S (l ++ [])
      rw [List.append_nil]
      exact hP
    | cons y ys ih =>
      intro x fin S l Q hL hy hP hl kk
      obtain ⟨⟨e, e1, e2⟩, hL2⟩ := hL
      have e2' : e = rpOb t W ad y (ys.head?.map ad) := e2
      rw [e2'] at e1
      obtain ⟨y1, y2, y3, y4⟩ := hy y (by simp)
      have hf := far_ad h y2 (Or.inr y3)
      have es : sumW W (y :: ys) = W y + sumW W ys := by
        unfold sumW
        simp
      rw [es] at hl
      refine t_fix ?_
      show okT (k_Pr_writeChoice_67 o (g_wr o F') (nI (dp c)) (nI fin) (some (ad x)) (some (ad y))) S H _
      unfold k_Pr_writeChoice_67
      rw [t_nul1]
      have wr := ihR y y1 y2 y3 _ e1 F' S l (by rw [y4]; omega) hP (by omega)
      rw [y4] at wr
      refine t_C (t_mono wr ?_)
      rintro _ S1 H1 ⟨rfl, f1, p1⟩
      obtain ⟨s', i', nu', az', ob, _⟩ := rp_flds h y2 y3
      have e3 := e1
      rw [ob] at e3
      rw [rp_h9 e3 hf, t_go, nt_l]
      have elen := E_len hSh N y y2 (by omega) l.length
      refine ih x fin S1 _ Q hL2 (fun z hz => hy z (by simp [hz])) p1 (by rw [List.length_append, elen]; omega) ?_
      intro S2 f2 p2
      refine kk S2 (FrU_tr f2 f1) ?_
      rw [List.length_append, elen, List.append_assoc] at p2
      exact p2
  -- the rows
  have lp24 : ∀ (xs : List Nat) (fin : Nat) (S : qSt) (l : List INS) (Q : Unit → qSt → qH → Prop), fin ≤ 1000 → LC (fRw t W ad) H.1 ad xs → (∀ x ∈ xs, c < x ∧ x < N ∧ (t x).1 = 1 ∧ dp x = dp c) → PL S l → (xs ≠ [] → sumW W xs + 2 * xs.length + l.length ≤ 162) → (∀ S', FrU S S' → PL S' (l ++ emRows (em t W N) W fin xs l.length) → Q () S' H) → okT (w_fix (b_Pr_writeChoice o (g_wr o F')) (24, [.int (nI (dp c)), .int (nI fin)], [xs.head?.map ad])) S H Q := by
    intro xs
    induction xs with
    | nil =>
      intro fin S l Q _ _ _ hP _ kk
      refine t_fix ?_
      show okT (k_Pr_writeChoice_24 o (g_wr o F') (nI (dp c)) (nI fin) none) S H _
      unfold k_Pr_writeChoice_24
      rw [t_nul0, t_rt, nt_r]
      refine kk S (FrU_rf _) ?_
      show PL S (l ++ [])
      rw [List.append_nil]
      exact hP
    | cons x xs ih =>
      intro fin S l Q hfin hL hx hP hl kk
      obtain ⟨⟨e, e1, lst, e2⟩, hL2⟩ := hL
      rw [e2] at e1
      obtain ⟨x1, x2, x3, x4⟩ := hx x (by simp)
      have hf := far_ad h x2 (Or.inl x3)
      have es : sumW W (x :: xs) = W x + sumW W xs := by
        unfold sumW
        simp
      have hl' := hl (by simp)
      rw [es] at hl'
      simp only [List.length_cons] at hl'
      obtain ⟨xa1, ⟨_, _, xs2, _⟩, _, xd2⟩ := h.1 x (Nat.zero_le x) x2
      obtain ⟨xs3, xs4⟩ := xs2 x3
      clear xs2
      have xdp := (h.2.2.2.1 x x2).2
      have xk : ∀ y ∈ (t x).2.1, c < y ∧ y < N ∧ (t y).1 = 2 ∧ dp y = dp c := by
        intro y hy
        have q1 := xa1 y hy
        have q2 := xs3 y hy
        have q3 := xdp y hy
        rw [if_neg (by omega)] at q3
        exact ⟨by omega, q1.2, q2, by omega⟩
      have eX : ∀ a, em t W N x a = emSeq (em t W N) W (t x).2.1 a := by
        intro a
        rw [E_eq hSh x2]
        unfold emB
        rw [if_neg (by omega), if_pos x3]
      have lenX : ∀ a, (em t W N x a).length = W x := fun a => E_len hSh N x x2 (by omega) a
      refine t_fix ?_
      show okT (k_Pr_writeChoice_24 o (g_wr o F') (nI (dp c)) (nI fin) (some (ad x))) S H _
      unfold k_Pr_writeChoice_24
      rw [t_nul1, rw_h2 e1 hf]
      cases xs with
      | nil =>
        rw [show (([] : List Nat).head?.map ad) = none from rfl] at e1 ⊢
        rw [t_nul0, rw_h0 e1 hf, t_go, nt_l]
        refine lp67 (t x).2.1 x fin S l Q (xd2 x3) xk hP (by simp only [List.length_nil] at hl'; have : sumW W [] = 0 := rfl; omega) ?_
        intro S1 f1 p1
        unfold k_Pr_writeChoice_67
        rw [t_nul0, t_nn, rw_h2 e1 hf, t_nul0, rw_h2 e1 hf, t_go, nt_l]
        refine ih fin S1 _ Q hfin trivial (fun _ q => (by cases q)) p1 (fun q => absurd rfl q) ?_
        intro S2 f2 p2
        refine kk S2 (FrU_tr f2 f1) ?_
        have e5 : emRows (em t W N) W fin [x] l.length = em t W N x l.length := by
          unfold emRows
          rw [if_pos rfl]
        have e6 : l ++ emSeq (em t W N) W (t x).2.1 l.length ++ emRows (em t W N) W fin [] (l ++ emSeq (em t W N) W (t x).2.1 l.length).length = l ++ em t W N x l.length := by
          rw [eX]
          exact List.append_nil _
        rw [e6] at p2
        rw [e5]
        exact p2
      | cons x' xs' =>
        have hP1 := hP.1
        rw [show ((x' :: xs').head?.map ad) = some (ad x') from rfl] at e1 ⊢
        rw [t_nul1, t_S, hP1, t_S, hP1, rw_h3 e1 hf, Nat.min_eq_right (show W x ≤ 1000 by omega)]
        have a1 : (nI l.length + 1 : Int32) = nI (l.length + 1) := nI_add _ 1
        have a2 : (nI l.length + nI (W x) + 2 : Int32) = nI (l.length + W x + 2) := by
          rw [nI_add]
          exact nI_add _ 2
        rw [a1, a2]
        refine t_O (e_addI (k := 1) hP (by simp only [List.length_cons] at hl'; omega) fun S1 f1 p1 => ?_)
        rw [rw_h0 e1 hf, t_go, nt_l]
        have ll : (l ++ [((1 : Nat), l.length + 1, l.length + W x + 2)]).length = l.length + 1 := by simp
        refine lp67 (t x).2.1 x fin S1 _ Q (xd2 x3) xk p1 (by rw [ll]; simp only [List.length_cons] at hl'; omega) ?_
        intro S2 f2 p2
        rw [ll, ← eX] at p2
        unfold k_Pr_writeChoice_67
        rw [t_nul0, t_nn, rw_h2 e1 hf, t_nul1]
        have ll2 : (l ++ [((1 : Nat), l.length + 1, l.length + W x + 2)] ++ em t W N x (l.length + 1)).length = l.length + 1 + W x := by rw [List.length_append, ll, lenX]
        refine t_O (e_addI (k := 2) (y := 0) p2 (by rw [ll2]; simp only [List.length_cons] at hl'; omega) fun S3 f3 p3 => ?_)
        rw [rw_h2 e1 hf, t_go, nt_l]
        have ll3 : (l ++ [((1 : Nat), l.length + 1, l.length + W x + 2)] ++ em t W N x (l.length + 1) ++ [((2 : Nat), fin, 0)]).length = l.length + W x + 2 := by
          rw [List.length_append, ll2]
          simp only [List.length_cons, List.length_nil]
          omega
        refine ih fin S3 _ Q hfin hL2 (fun z hz => hx z (by simp [hz])) p3 (fun _ => by rw [ll3]; simp only [List.length_cons] at hl' ⊢; omega) ?_
        intro S4 f4 p4
        refine kk S4 (FrU_tr f4 (FrU_tr f3 (FrU_tr f2 f1))) ?_
        rw [ll3] at p4
        have e5 : emRows (em t W N) W fin (x :: x' :: xs') l.length = (1, l.length + 1, l.length + W x + 2) :: (em t W N x (l.length + 1) ++ (2, fin, 0) :: emRows (em t W N) W fin (x' :: xs') (l.length + W x + 2)) := by
          show (if x' :: xs' = [] then _ else _) = _
          rw [if_neg (by simp)]
        rw [e5]
        simpa using p4
  -- the beginning
  refine t_C ?_
  unfold f_Pr_writeChoice
  refine t_fix ?_
  show okT (k_Pr_writeChoice_0 o (g_wr o F') (some (ad (k0 (t c)))) (nI (dp c))) S H _
  unfold k_Pr_writeChoice_0
  cases hk : (t c).2.1 with
  | nil => exact absurd hk cs1
  | cons r rr =>
    have k0c : k0 (t c) = r := by
      unfold k0
      rw [hk]
      rfl
    have ck : ∀ x ∈ (t c).2.1, c < x ∧ x < N ∧ (t x).1 = 1 ∧ dp x = dp c := by
      intro x hx
      have q1 := c1 x hx
      have q2 := cs2 x hx
      have q3 := dpc.2 x hx
      rw [if_neg (by omega)] at q3
      exact ⟨q1.1, q1.2, q2, by omega⟩
    obtain ⟨r1, r2, r3, r4⟩ := ck r (by rw [hk]; simp)
    have hf := far_ad h r2 (Or.inl r3)
    have szc := SzC_of cLC
    have hob : ∃ f l n s, H.1 (ad r) = some (oR f l n s) := by
      have := cLC
      rw [hk] at this
      obtain ⟨⟨e, e1, lst, e2⟩, _⟩ := this
      exact ⟨_, _, _, _, e1.trans (congrArg some e2)⟩
    obtain ⟨f', l', n', s', hob⟩ := hob
    rw [k0c, t_nul1]
    have hP1 := hP.1
    have d8 := dpc.1
    rw [t_t (c := nI (dp c) ≤ 8) ((nI_leI (by omega) (by decide)).mpr d8), t_S, hP1, rw_is hob hf]
    have szv := szF_n W ad rr (W r)
    have hW3 : W r + sumW W rr + 2 * rr.length = W c := by
      rw [hk] at cs3
      have e1 : sumW W (r :: rr) = W r + sumW W rr := by
        unfold sumW
        simp
      rw [e1] at cs3
      simp only [List.length_cons] at cs3
      omega
    rw [hW3, Nat.min_eq_right (show W c ≤ 1000 by omega)] at szv
    rw [hk] at szc
    refine t_C (e_sac (x := (ad r, nI (min 1000 (W r)))) (r := rr.map (fun x => (ad x, nI (min 1000 (W x))))) szc (fun z hz => ?_) ?_)
    · have hz' : z ∈ (r :: rr).map (fun x => (ad x, nI (min 1000 (W x)))) := hz
      obtain ⟨x', x1, x2⟩ := List.mem_map.mp hz'
      rw [← x2]
      have := ck x' (by rw [hk]; exact x1)
      exact far_ad h this.2.1 (Or.inl this.2.2.1)
    · show okT (w_go 24 [.int (nI (dp c)), .int (nI l.length + szF (nI (min 1000 (W r))) (rr.map (fun x => (ad x, nI (min 1000 (W x))))))] [some (ad r)]) S H _
      rw [szv, nI_add, t_go, nt_l]
      have := lp24 (t c).2.1 (l.length + W c) S l (fun _ S1 H1 => okT (w_pure (none : Option Nat)) S1 H1 (WP H S (l ++ emRows (em t W N) W (l.length + W c) (t c).2.1 l.length))) (by omega) cLC ck hP (fun _ => by omega) (fun S1 f1 p1 => by rw [t_pure]; exact ⟨rfl, f1, p1⟩)
      rw [hk] at this
      exact this
theorem w_all (h : WX o t W ad dp H u g N a0 a1) : ∀ (j c : Nat), N - c ≤ j → c < N → (t c).1 = 0 → WC o t W ad dp H N c := by
  intro j
  induction j with
  | zero => intro c h1 h2; omega
  | succ j ih =>
    intro c h1 h2 h3
    refine w_choice h h2 h3 ?_
    intro y y1 y2 y3 nx hob F S l hF hP hW
    exact w_rep h y2 y3 hob (fun c' q1 q2 q3 => ih c' (by omega) q2 q3) hF hP hW
end WCH
theorem w_write {o u g N a0 a1 : Nat} {t : Nat → ND} {W ad dp : Nat → Nat} {H : qH} {S : qSt} (h : WX o t W ad dp H u g N a0 a1) (hN : 0 < N) (h0 : (t 0).1 = 0) (hd : dp 0 = 0) (hW : W 0 + 3 ≤ 160) (hg : g ≤ 6) {Q : Unit → qSt → qH → Prop} (k : ∀ S', FrU (sS (sS (sS S 103 (nI 0)) 104 (nI 0)) 104 (nI g)) S' → PL S' ([(3, 0, 0)] ++ em t W N 0 1 ++ [(3, 1, 0)] ++ [(4, 0, 0)]) → Q () S' H) : okT (f_Pr_write o (some (ad (k0 (t 0)))) (nI g)) S H Q := by
  have hSh := WX_Sh h
  unfold f_Pr_write
  refine t_O ?_
  unfold f_Pr_erase
  simp (disch := omega) only [n_lit, n_m1, ok_S, ok_s, ok_N, ok_n, ↓ok_if, ok_A, ok_a, ok_L, ok_l, ok_zn0, ok_zn1, ok_f2, ok_pure, ok_rI, ok_bn0, ok_bn1, ok_rt, ok_riI, ok_rn0, ok_rn1, ok_go, nx_l, nx_r, sS_s, sS_n, sS_a, sS_l, sS_k, aS_s, aS_n, aS_1, aS_l, aS_k, lS_l, lS_1, lS_a, lS_k, nS_s, nS_n, nS_1, nS_a, nS_l, updS, updN, nI_eq, nI_leI, nI_ltI, nI_add, pk_mul, nN_e, nN_e', nN_l, nN_g, nN_le, nN_ge, ite_not, if_true, if_false, not_true_eq_false, not_false_eq_true, Nat.not_lt_zero, Nat.reduceEqDiff, Nat.reduceLT, Nat.reduceLeDiff, Nat.reduceAdd, Nat.zero_le, ite_self, reduceCtorEq, bI_t, bI_f, bI_z, bI_1, ok_bb, if_pos, if_neg]
  rw [t_s]
  generalize hS1 : sS (sS (sS S 103 (nI 0)) 104 (nI 0)) 104 (nI g) = S1 at k ⊢
  have p0 : PL S1 [] := by
    refine ⟨?_, fun i hi => ?_⟩
    · rw [← hS1]
      simp (disch := omega) only [n_lit, n_m1, ok_S, ok_s, ok_N, ok_n, ↓ok_if, ok_A, ok_a, ok_L, ok_l, ok_zn0, ok_zn1, ok_f2, ok_pure, ok_rI, ok_bn0, ok_bn1, ok_rt, ok_riI, ok_rn0, ok_rn1, ok_go, nx_l, nx_r, sS_s, sS_n, sS_a, sS_l, sS_k, aS_s, aS_n, aS_1, aS_l, aS_k, lS_l, lS_1, lS_a, lS_k, nS_s, nS_n, nS_1, nS_a, nS_l, updS, updN, nI_eq, nI_leI, nI_ltI, nI_add, pk_mul, nN_e, nN_e', nN_l, nN_g, nN_le, nN_ge, ite_not, if_true, if_false, not_true_eq_false, not_false_eq_true, Nat.not_lt_zero, Nat.reduceEqDiff, Nat.reduceLT, Nat.reduceLeDiff, Nat.reduceAdd, Nat.zero_le, ite_self, reduceCtorEq, bI_t, bI_f, bI_z, bI_1, ok_bb, if_pos, if_neg]
      rfl
    · simp at hi
  refine t_O (e_addI (k := 3) (x := 0) (y := 0) p0 (by simp) fun S2 f2 p2 => ?_)
  have wc := w_all h N 0 (by omega) hN h0 40 S2 [(3, 0, 0)] (by rw [hd]; omega) p2 (by simp only [List.length_cons, List.length_nil]; omega)
  rw [hd] at wc
  refine t_C (t_mono wc ?_)
  rintro _ S3 H3 ⟨rfl, f3, p3⟩
  have elen := E_len hSh N 0 hN (by omega) 1
  have p3' : PL S3 ([(3, 0, 0)] ++ em t W N 0 1) := p3
  have ll : ([((3 : Nat), (0 : Nat), (0 : Nat))] ++ em t W N 0 1).length = 1 + W 0 := by rw [List.length_append, elen]; rfl
  refine t_O (e_addI (k := 3) (x := 1) (y := 0) p3' (by rw [ll]; omega) fun S4 f4 p4 => ?_)
  refine t_O (e_addI (k := 4) (x := 0) (y := 0) p4 (by rw [List.length_append, ll]; simp only [List.length_cons, List.length_nil]; omega) fun S5 f5 p5 => ?_)
  rw [t_pure]
  exact k S5 (FrU_tr f5 (FrU_tr f4 (FrU_tr f3 f2))) p5
