/-! THE CLASS'S WAYS AND THE REFERENCE'S: the first place, the next place -/
section JK
variable {P : Pg} {L n i k s p : Nat} {se : Bool} {tk : Nat → Nat → Bool}
theorem dfs_eps {m : Mk} {V : Nat → Bool} {j : Int32} (hw : WF P L) (hk : k < L) {e : Nat × Mk} (he : e ∈ dfs P j 400 [(k, m)] V) : Eps P k e.1 := by
  obtain ⟨w, h1, h2⟩ := ((dfs_all (i := j) hw 400 [(k, m)] V (un_ok hw _ _) (one_lt hk)).2 e he).2.2.2
  rcases List.mem_cons.mp h1 with h1 | h1
  · rw [h1] at h2; exact h2
  · cases h1
theorem WsV_nil (fd : Option Mk) : WsV P (fun _ => false, [], fd, false) := by
  intro k
  constructor
  · rintro ⟨e, h, -⟩; cases h
  · rintro ⟨h, -⟩; cases h
theorem stpW_f (P : Pg) (i : Nat) (t : Nat → Bool) (ws : List (Nat × Mk)) (fd : Option Mk) : stpW P false i t ws fd = folW P false i t ws (fun _ => false, [], none, false) := by
  unfold stpW finW
  rw [if_neg (fun q => Bool.false_ne_true q.1)]
  rfl
theorem clo_nil : clo P (fun _ => false) := fun k h => by cases h
theorem J_beg {H : Nat → Bool} {at_ : Option Nat} {mk : Mk} (hw : WF P L) (hs1 : ∀ q, q < s → ¬ Rch P n se tk q 0) (hs2 : s ≤ n → Rch P n se tk s 0) (hR : RefP P L n se tk s 0 (fun _ => false) none mk0 H at_ mk) : JJ P L n se tk s 0 (begW P se) H at_ mk := by
  obtain ⟨H1, at1, r1, r2, r3⟩ := hR
  have hL := hw.2.1
  have hWs : WsV P (begW P se) := fol1_WsV (WsV_nil none)
  by_cases hpre : preJ se s 0
  · have hn0 : ¬ Rch P n se tk 0 0 := by
      rcases hpre with ⟨-, h⟩ | ⟨-, h⟩
      · exact hs1 0 h
      · exact hs1 0 (by omega)
    have hat1 : at1 = none := by
      rcases r2 with ⟨h, -⟩ | ⟨-, h⟩
      · rcases hpre with ⟨h2, h3⟩ | ⟨h2, h3⟩
        · rcases h with ⟨-, h⟩ | ⟨h, -⟩
          · omega
          · rw [h2] at h; cases h
        · rcases h with ⟨h, -⟩ | ⟨-, h, -⟩
          · rw [h2] at h; cases h
          · exact absurd h h3
      · exact h
    obtain ⟨a1, a2, a3, a4, -⟩ := fol1_set (i := 0) (m := mk0) (st := (fun _ => false, [], none, false)) (tk := tk) (n := n) (se := se) hw hL clo_nil (fun _ => hn0)
    rcases r3 with ⟨-, r4, r5, r6⟩ | ⟨a, A, e, B, q, -⟩
    · refine Or.inl ⟨hpre, r5, r6, ?_, ?_, ?_⟩
      · intro e he hr
        have := ((hWs e.1).mp ⟨e, he, rfl⟩).1
        rcases (a3 e.1).mp this with q | q
        · cases q
        · exact hn0 (Rch_back q hr)
      · intro hm
        exact a4 hn0 hm
      · intro j hj hj0
        rw [r4 j hj, r1 j hj]
        have hb : (se = true ∧ 0 < s) ∨ (se = false ∧ (0 : Nat) = 0) := by
          rcases hpre with h | h
          · exact Or.inl h
          · exact Or.inr ⟨h.1, rfl⟩
        constructor
        · rintro (q | ⟨-, q⟩)
          · cases q
          · exact (hWs j).mpr ⟨(a3 j).mpr (Or.inr q), hj0⟩
        · intro q
          rcases (a3 j).mp ((hWs j).mp q).1 with q | q
          · cases q
          · exact Or.inr ⟨hb, q⟩
    · rw [hat1] at q; cases q
  · have hs0 : s = 0 := by
      apply Classical.byContradiction
      intro q
      apply hpre
      cases hse : se with
      | true => exact Or.inl ⟨rfl, by omega⟩
      | false => exact Or.inr ⟨rfl, q⟩
    subst hs0
    have hR0 : Rch P n se tk 0 0 := hs2 (Nat.zero_le _)
    have hat1 : at1 = some 0 := by
      rcases r2 with ⟨-, h⟩ | ⟨h, -⟩
      · exact h
      · exfalso
        apply h
        cases hse : se with
        | true => exact Or.inl ⟨rfl, rfl⟩
        | false => exact Or.inr ⟨rfl, rfl, rfl⟩
    rcases r3 with ⟨q, -⟩ | ⟨a, A, e, B, q, r4, r5, r6, r7, r8, r9⟩
    · rw [hat1] at q; cases q
    · rw [hat1] at q
      cases q
      rw [r8, r9]
      refine J_win (σ := (fun _ => false, [], none, false)) (k := 0) (m := mk0) (A := A) (B := B) hw hpre clo_nil (fun k h => by cases h) (WsV_nil none) hL r4 r5 r6 (fun _ => ⟨[], (List.append_nil _).symm⟩) (fun _ _ _ _ => rfl) (fun _ _ => rfl) ?_ ?_ trivial
      · intro hse j hj hj0
        obtain ⟨a1, a2, a3, a4, -⟩ := fol1_set (i := 0) (m := mk0) (st := (fun _ => false, [], none, false)) (tk := tk) (n := n) (se := se) hw hL clo_nil (fun h => by rw [hse] at h; cases h)
        rw [r7 j hj, r1 j hj]
        constructor
        · rintro ((q | ⟨-, q⟩) | ⟨-, x, hx, hx2⟩)
          · cases q
          · exact (hWs j).mpr ⟨(a3 j).mpr (Or.inr q), hj0⟩
          · refine (hWs j).mpr ⟨(a3 j).mpr (Or.inr ?_), hj0⟩
            rw [← hx2]
            exact dfs_eps hw hL (by rw [r4]; exact List.mem_append_left _ hx)
        · intro q
          rcases (a3 j).mp ((hWs j).mp q).1 with q | q
          · cases q
          · exact Or.inl (Or.inr ⟨Or.inr ⟨hse, rfl⟩, q⟩)
      · intro hse j hj
        rw [r7 j hj, r1 j hj]
        constructor
        · rintro ((q | ⟨q, -⟩) | q)
          · cases q
          · rcases q with ⟨-, q⟩ | ⟨q, -⟩
            · omega
            · rw [hse] at q; cases q
          · exact Or.inr q
        · rintro (q | q)
          · cases q
          · exact Or.inr q
theorem H_eq {H H0 : Nat → Bool} {ws : List (Nat × Mk)} {t : Nat → Bool} (hH : Hq P L H ws) (hT : TkOk P L ws) (h0 : ∀ j, j < L → (H0 j = true ↔ ∃ k, k < L ∧ H k = true ∧ P.1 k = 0 ∧ t k = true ∧ Eps P (k + 1) j)) (j : Nat) (hj : j < L) : H0 j = true ↔ ∃ e ∈ ws, t e.1 = true ∧ Eps P (e.1 + 1) j := by
  rw [h0 j hj]
  constructor
  · rintro ⟨k, h1, h2, h3, h4, h5⟩
    obtain ⟨e, h6, h7⟩ := (hH k h1 h3).mp h2
    subst h7
    exact ⟨e, h6, h4, h5⟩
  · rintro ⟨e, h1, h2, h3⟩
    have := hT e h1
    exact ⟨e.1, this.1, (hH e.1 this.1 this.2).mpr ⟨e, h1, rfl⟩, this.2, h2, h3⟩
theorem J_stp {st : Wst} {H H0 H' : Nat → Bool} {at_ at' : Option Nat} {mk mk' : Mk} (hw : WF P L) (hs1 : ∀ q, q < s → ¬ Rch P n se tk q 0) (hs2 : s ≤ n → Rch P n se tk s 0) (hpn : p < n) (hT : TkOk P L st.2.1) (hJ : JJ P L n se tk s p st H at_ mk) (hH0 : ∀ j, j < L → (H0 j = true ↔ ∃ k, k < L ∧ H k = true ∧ P.1 k = 0 ∧ tk p k = true ∧ Eps P (k + 1) j)) (hR : RefP P L n se tk s (p + 1) H0 at_ mk H' at' mk') :
    JJ P L n se tk s (p + 1) (stpW P se (p + 1) (tk p) st.2.1 st.2.2.1) H' at' mk' := by
  obtain ⟨H1, at1, r1, r2, r3⟩ := hR
  have hL := hw.2.1
  -- the ways of a part that comes to no match
  have non : ∀ (l : List (Nat × Mk)), TkOk P L l → (∀ e ∈ l, ¬ Rch P n se tk p e.1) → ∀ fd, (∀ e ∈ l, tk p e.1 = true → ¬ Rch P n se tk (p + 1) (e.1 + 1)) ∧ (folW P se (p + 1) (tk p) l (fun _ => false, [], fd, false)).2.2.2 = false ∧ clo P (folW P se (p + 1) (tk p) l (fun _ => false, [], fd, false)).1 ∧ (∀ j, (folW P se (p + 1) (tk p) l (fun _ => false, [], fd, false)).1 j = true ↔ ∃ e ∈ l, tk p e.1 = true ∧ Eps P (e.1 + 1) j) ∧ ((se = true ∨ p + 1 = n) → (folW P se (p + 1) (tk p) l (fun _ => false, [], fd, false)).2.2.1 = fd) ∧ (∀ k, (folW P se (p + 1) (tk p) l (fun _ => false, [], fd, false)).1 k = true → ¬ Rch P n se tk (p + 1) k) := by
    intro l hTl hl fd
    have hN : ∀ e ∈ l, tk p e.1 = true → ¬ Rch P n se tk (p + 1) (e.1 + 1) := fun e he ht hr => hl e he ((Rch_take (hTl e he).2).mpr ⟨ht, hr⟩)
    obtain ⟨b1, b2, b3, b4⟩ := folW_set (i := p + 1) (t := tk p) (tk := tk) (n := n) (se := se) hw l (fun _ => false, [], fd, false) hTl rfl clo_nil (fun _ => hN)
    have b3' : ∀ j, (folW P se (p + 1) (tk p) l (fun _ => false, [], fd, false)).1 j = true ↔ ∃ e ∈ l, tk p e.1 = true ∧ Eps P (e.1 + 1) j := by
      intro j
      rw [b3 j]
      constructor
      · rintro (q | q)
        · cases q
        · exact q
      · exact fun q => Or.inr q
    refine ⟨hN, b1, b2, b3', fun h => b4 hN h, ?_⟩
    intro k hk hr
    obtain ⟨e, h1, h2, h3⟩ := (b3' k).mp hk
    exact hN e h1 h2 (Rch_back h3 hr)
  -- all ways, where nothing is cut
  have full : se = false → (∀ j, (stpW P se (p + 1) (tk p) st.2.1 st.2.2.1).1 j = true ↔ ∃ e ∈ st.2.1, tk p e.1 = true ∧ Eps P (e.1 + 1) j) ∧ WsV P (stpW P se (p + 1) (tk p) st.2.1 st.2.2.1) := by
    intro hse
    subst hse
    obtain ⟨-, -, b3, -⟩ := folW_set (i := p + 1) (t := tk p) (tk := tk) (n := n) (se := false) hw st.2.1 (fun _ => false, [], none, false) hT rfl clo_nil (fun q => by cases q)
    have e1 := stpW_f P (p + 1) (tk p) st.2.1 st.2.2.1
    rw [e1]
    refine ⟨fun j => ?_, folW_WsV _ _ (WsV_nil none)⟩
    rw [b3 j]
    constructor
    · rintro (q | q)
      · cases q
      · exact q
    · exact fun q => Or.inr q
  rcases hJ with ⟨j1, j2, j3, j4, j5, j6⟩ | ⟨j1, A0, e0, B0, j2, j3, j4, j5, j6, j7, j8⟩ | ⟨j1, j2, j3, j4, j5, j6⟩
  · -- no way yet
    have hE := H_eq j6 hT hH0
    obtain ⟨hN, b1, b2, b3, b4, b5⟩ := non st.2.1 hT j4 (if se = true then st.2.2.1 else none)
    have hσW := folW_WsV (se := se) (i := p + 1) (t := tk p) st.2.1 _ (WsV_nil (P := P) (if se = true then st.2.2.1 else none))
    cases hse : se with
    | true =>
      subst hse
      have hfd : st.2.2.1 = none := j5 (Or.inl rfl)
      have hps : p < s := by
        rcases j1 with ⟨-, h⟩ | ⟨h, -⟩
        · exact h
        · cases h
      rw [if_pos rfl] at b1 b2 b3 b4 b5 hσW
      have est : stpW P true (p + 1) (tk p) st.2.1 st.2.2.1 = fol1 P true (p + 1) 0 mk0 (folW P true (p + 1) (tk p) st.2.1 (fun _ => false, [], st.2.2.1, false)) := if_pos ⟨rfl, by rw [if_pos rfl, b4 (Or.inl rfl)]; exact hfd⟩
      rw [est]
      by_cases hlt : p + 1 < s
      · have hn0 := hs1 (p + 1) hlt
        obtain ⟨a1, a2, a3, a4, -⟩ := fol1_set (i := p + 1) (m := mk0) (st := folW P true (p + 1) (tk p) st.2.1 (fun _ => false, [], st.2.2.1, false)) (tk := tk) (n := n) (se := true) hw hL b2 (fun _ => hn0)
        have hW2 := fol1_WsV (se := true) (i := p + 1) (k := 0) (m := mk0) hσW
        have hat1 : at1 = none := by
          rcases r2 with ⟨h, -⟩ | ⟨-, h⟩
          · rcases h with ⟨-, h⟩ | ⟨h, -⟩
            · omega
            · cases h
          · rw [h, j2]
        rcases r3 with ⟨-, r4, r5, r6⟩ | ⟨a, A, e, B, q, -⟩
        · refine Or.inl ⟨Or.inl ⟨rfl, hlt⟩, r5, r6.trans j3, ?_, ?_, ?_⟩
          · intro e he hr
            rcases (a3 e.1).mp ((hW2 e.1).mp ⟨e, he, rfl⟩).1 with q | q
            · exact b5 e.1 q hr
            · exact hn0 (Rch_back q hr)
          · intro _
            rw [a4 hn0 (Or.inl rfl), b4 (Or.inl rfl)]
            exact hfd
          · intro j hj hj0
            rw [r4 j hj, r1 j hj, hE j hj, hW2 j]
            rw [a3 j, b3 j]
            constructor
            · rintro (q | ⟨-, q⟩)
              · exact ⟨Or.inl q, hj0⟩
              · exact ⟨Or.inr q, hj0⟩
            · rintro ⟨q | q, -⟩
              · exact Or.inl q
              · exact Or.inr ⟨Or.inl ⟨rfl, hlt⟩, q⟩
        · rw [hat1] at q; cases q
      · have hps1 : p + 1 = s := by omega
        have hat1 : at1 = some 0 := by
          rcases r2 with ⟨-, h⟩ | ⟨h, -⟩
          · exact h
          · exact absurd (Or.inl ⟨rfl, hps1⟩) h
        have hpre : ¬ preJ true s (p + 1) := by
          rintro (⟨-, h⟩ | ⟨h, -⟩)
          · exact hlt h
          · cases h
        rcases r3 with ⟨q, -⟩ | ⟨a, A, e, B, q, r4, r5, r6, r7, r8, r9⟩
        · rw [hat1] at q; cases q
        · rw [hat1] at q
          cases q
          rw [j3] at r4
          rw [r8, r9]
          refine J_win (k := 0) (m := mk0) (A := A) (B := B) hw hpre b2 b5 hσW hL r4 r5 r6 (fun _ => ⟨[], (List.append_nil _).symm⟩) (fun _ _ _ _ => rfl) (fun q => by cases q) (fun q => by cases q) ?_ trivial
          intro _ j hj
          rw [r7 j hj, r1 j hj, hE j hj, b3 j]
          constructor
          · rintro ((q | ⟨q, -⟩) | q)
            · exact Or.inl q
            · rcases q with ⟨-, q⟩ | ⟨q, -⟩
              · exact absurd q hlt
              · cases q
            · exact Or.inr q
          · rintro (q | q)
            · exact Or.inl (Or.inl q)
            · exact Or.inr q
    | false =>
      subst hse
      have hs0 : s ≠ 0 := by
        rcases j1 with ⟨h, -⟩ | ⟨-, h⟩
        · cases h
        · exact h
      obtain ⟨f1, f2⟩ := full rfl
      have est := stpW_f P (p + 1) (tk p) st.2.1 st.2.2.1
      have hat1 : at1 = none := by
        rcases r2 with ⟨h, -⟩ | ⟨-, h⟩
        · rcases h with ⟨h, -⟩ | ⟨-, h, -⟩
          · cases h
          · exact absurd h hs0
        · rw [h, j2]
      rcases r3 with ⟨-, r4, r5, r6⟩ | ⟨a, A, e, B, q, -⟩
      · refine Or.inl ⟨Or.inr ⟨rfl, hs0⟩, r5, r6.trans j3, ?_, ?_, ?_⟩
        · intro e he hr
          obtain ⟨x, h1, h2, h3⟩ := (f1 e.1).mp ((f2 e.1).mp ⟨e, he, rfl⟩).1
          exact hN x h1 h2 (Rch_back h3 hr)
        · intro h
          rw [est]
          exact b4 h
        · intro j hj hj0
          rw [r4 j hj, r1 j hj, hE j hj, f2 j, f1 j]
          constructor
          · rintro (q | ⟨q, -⟩)
            · exact ⟨q, hj0⟩
            · rcases q with ⟨q, -⟩ | ⟨-, q⟩
              · cases q
              · omega
          · rintro ⟨q, -⟩
            exact Or.inl q
      · rw [hat1] at q; cases q
  · -- a way is under way
    have hTA : TkOk P L A0 := fun a ha => hT a (by rw [j2]; exact List.mem_append_left _ ha)
    have hTB : TkOk P L B0 := fun a ha => hT a (by rw [j2]; exact List.mem_append_right _ (List.mem_cons_of_mem _ ha))
    have hTe := hT e0 (by rw [j2]; exact List.mem_append_right _ (List.mem_cons_self ..))
    obtain ⟨hte, hRe⟩ := (Rch_take hTe.2).mp j4
    have hk : e0.1 + 1 < L := (hw.2.2 e0.1 hTe.1).2.1 hTe.2
    obtain ⟨hN, b1, b2, b3, b4, b5⟩ := non A0 hTA j3 (if se = true then st.2.2.1 else none)
    have hσW := folW_WsV (se := se) (i := p + 1) (t := tk p) A0 _ (WsV_nil (P := P) (if se = true then st.2.2.1 else none))
    have hpre : ¬ preJ se s (p + 1) := by
      rintro (⟨h, h2⟩ | h)
      · exact j1 (Or.inl ⟨h, by omega⟩)
      · exact j1 (Or.inr h)
    have est : stpW P se (p + 1) (tk p) st.2.1 st.2.2.1 = finW P se (p + 1) (folW P se (p + 1) (tk p) B0 (fol1 P se (p + 1) (e0.1 + 1) e0.2 (folW P se (p + 1) (tk p) A0 (fun _ => false, [], if se = true then st.2.2.1 else none, false)))) := by
      unfold stpW
      rw [j2, folW_app]
      congr 1
      show (if _ = true then _ else if tk p e0.1 = true then _ else _) = _
      rw [b1, if_neg Bool.false_ne_true, if_pos hte]
    have hat1 : at1 = some (e0.1 + 1) := by
      rcases r2 with ⟨h, -⟩ | ⟨-, h⟩
      · exfalso
        rcases h with ⟨h, h2⟩ | ⟨-, -, h⟩
        · exact j1 (Or.inl ⟨h, by omega⟩)
        · omega
      · rw [h, j5]
    have hbeg : ¬ ((se = true ∧ p + 1 < s) ∨ (se = false ∧ p + 1 = 0)) := by
      rintro (⟨h, h2⟩ | ⟨-, h⟩)
      · exact j1 (Or.inl ⟨h, by omega⟩)
      · omega
    rcases r3 with ⟨q, -⟩ | ⟨a, A, e, B, q, r4, r5, r6, r7, r8, r9⟩
    · rw [hat1] at q; cases q
    · rw [hat1] at q
      cases q
      rw [j6] at r4
      rw [r8, r9]
      refine J_win (σ := folW P se (p + 1) (tk p) A0 (fun _ => false, [], if se = true then st.2.2.1 else none, false)) (k := e0.1 + 1) (m := e0.2) (A := A) (B := B) hw hpre b2 b5 hσW hk r4 r5 r6 ?_ ?_ ?_ ?_ ?_ trivial
      · intro _
        rw [est]
        obtain ⟨C1, hC1⟩ := folW_ext (P := P) (se := se) (i := p + 1) (t := tk p) B0 (fol1 P se (p + 1) (e0.1 + 1) e0.2 (folW P se (p + 1) (tk p) A0 (fun _ => false, [], if se = true then st.2.2.1 else none, false)))
        obtain ⟨C2, hC2⟩ := finW_ext (P := P) (se := se) (i := p + 1) (folW P se (p + 1) (tk p) B0 (fol1 P se (p + 1) (e0.1 + 1) e0.2 (folW P se (p + 1) (tk p) A0 (fun _ => false, [], if se = true then st.2.2.1 else none, false))))
        exact ⟨C1 ++ C2, by rw [hC2, hC1, List.append_assoc]⟩
      · intro hse hct hfd _
        rw [est]
        have e2 : ∀ st2 : Wst, st2.2.2.2 = true → folW P se (p + 1) (tk p) B0 st2 = st2 := by
          intro st2 h
          cases B0 with
          | nil => rfl
          | cons x l => exact if_pos h
        rw [e2 _ hct]
        exact if_neg (fun q => hfd q.2)
      · intro hse hv
        rw [est]
        subst hse
        have e2 : ∀ st2 : Wst, finW P false (p + 1) st2 = st2 := fun st2 => if_neg (fun q => by cases q.1)
        rw [e2]
        exact folW_fd hw B0 _ hTB hv
      · intro hse j hj hj0
        obtain ⟨f1, f2⟩ := full hse
        rw [r7 j hj, r1 j hj, H_eq (j8 hse) hT hH0 j hj, f2 j, f1 j]
        constructor
        · rintro ((q | ⟨q, -⟩) | ⟨-, x, hx, hx2⟩)
          · exact ⟨q, hj0⟩
          · exact absurd q hbeg
          · refine ⟨⟨e0, by rw [j2]; exact List.mem_append_right _ (List.mem_cons_self ..), hte, ?_⟩, hj0⟩
            rw [← hx2]
            exact dfs_eps hw hk (by rw [r4]; exact List.mem_append_left _ hx)
        · rintro ⟨q, -⟩
          exact Or.inl (Or.inl q)
      · intro hse j hj
        rw [r7 j hj, r1 j hj, H_eq (j7 hse) hTA hH0 j hj, b3 j]
        constructor
        · rintro ((q | ⟨q, -⟩) | q)
          · exact Or.inl q
          · exact absurd q hbeg
          · exact Or.inr q
        · rintro (q | q)
          · exact Or.inl (Or.inl q)
          · exact Or.inr q
  · -- the match has been found
    cases hse : se with
    | false =>
      have := j5 hse
      omega
    | true =>
      subst hse
      have hE := H_eq j6 hT hH0
      obtain ⟨hN, b1, b2, b3, b4, b5⟩ := non st.2.1 hT (j4 rfl) st.2.2.1
      have hσW := folW_WsV (se := true) (i := p + 1) (t := tk p) st.2.1 _ (WsV_nil (P := P) st.2.2.1)
      have hsp : s ≤ p := by
        apply Classical.byContradiction
        intro q
        exact j1 (Or.inl ⟨rfl, by omega⟩)
      have est : stpW P true (p + 1) (tk p) st.2.1 st.2.2.1 = folW P true (p + 1) (tk p) st.2.1 (fun _ => false, [], st.2.2.1, false) := if_neg (fun q => by
        have := q.2
        rw [if_pos rfl, b4 (Or.inl rfl), j3] at this
        cases this)
      rw [est]
      have hat1 : at1 = none := by
        rcases r2 with ⟨h, -⟩ | ⟨-, h⟩
        · rcases h with ⟨-, h⟩ | ⟨h, -⟩
          · omega
          · cases h
        · rw [h, j2]
      rcases r3 with ⟨-, r4, r5, r6⟩ | ⟨a, A, e, B, q, -⟩
      · refine Or.inr (Or.inr ⟨?_, r5, by rw [b4 (Or.inl rfl), j3, r6], ?_, fun q => (by cases q), ?_⟩)
        · rintro (⟨-, h⟩ | ⟨h, -⟩)
          · omega
          · cases h
        · intro _ e he
          exact b5 e.1 ((hσW e.1).mp ⟨e, he, rfl⟩).1
        · intro j hj hj0
          rw [r4 j hj, r1 j hj, hE j hj, hσW j, b3 j]
          constructor
          · rintro (q | ⟨q, -⟩)
            · exact ⟨q, hj0⟩
            · rcases q with ⟨-, q⟩ | ⟨q, -⟩
              · omega
              · cases q
          · rintro ⟨q, -⟩
            exact Or.inl q
      · rw [hat1] at q; cases q
theorem J_at {st : Wst} {H : Nat → Bool} {a : Nat} {mk : Mk} (hw : WF P L) (hT : TkOk P L st.2.1) (hJ : JJ P L n se tk s p st H (some a) mk) : a < L ∧ Rch P n se tk (p + 1) a := by
  rcases hJ with ⟨-, h, -⟩ | ⟨-, A, e, B, h1, h2, h3, h4, -⟩ | ⟨-, h, -⟩
  · cases h
  · cases h4
    have := hT e (by rw [h1]; exact List.mem_append_right _ (List.mem_cons_self ..))
    exact ⟨(hw.2.2 e.1 this.1).2.1 this.2, ((Rch_take this.2).mp h3).2⟩
  · cases h
/-- at the end of the word -/
theorem J_end {st : Wst} {H : Nat → Bool} {at_ : Option Nat} {mk : Mk} (hT : TkOk P L st.2.1) (htk : ∀ k, tk n k = false) (hs2 : s ≤ n → Rch P n se tk s 0) (hs1 : ∀ q, q < s → ¬ Rch P n se tk q 0) (hJ : JJ P L n se tk s n st H at_ mk) : Hq P L H st.2.1 ∧ (if (se = true ∧ s ≤ n) ∨ (se = false ∧ s = 0) then st.2.2.1 = some mk else st.2.2.1 = none) := by
  rcases hJ with ⟨j1, j2, j3, j4, j5, j6⟩ | ⟨j1, A0, e0, B0, j2, j3, j4, j5, j6, j7, j8⟩ | ⟨j1, j2, j3, j4, j5, j6⟩
  · refine ⟨j6, ?_⟩
    rw [if_neg]
    · exact j5 (Or.inr rfl)
    · rintro (⟨h1, h2⟩ | ⟨h1, h2⟩)
      · rcases j1 with ⟨-, h⟩ | ⟨h, -⟩
        · omega
        · rw [h1] at h; cases h
      · rcases j1 with ⟨h, -⟩ | ⟨-, h⟩
        · rw [h1] at h; cases h
        · exact h h2
  · exfalso
    have hTe := hT e0 (by rw [j2]; exact List.mem_append_right _ (List.mem_cons_self ..))
    have := ((Rch_take hTe.2).mp j4).1
    rw [htk] at this
    cases this
  · refine ⟨j6, ?_⟩
    rw [if_pos]
    · exact j3
    · cases hse : se with
      | true =>
        refine Or.inl ⟨rfl, ?_⟩
        apply Classical.byContradiction
        intro q
        exact j1 (Or.inl ⟨hse, by omega⟩)
      | false =>
        refine Or.inr ⟨rfl, ?_⟩
        apply Classical.byContradiction
        intro q
        exact j1 (Or.inr ⟨hse, q⟩)
end JK
