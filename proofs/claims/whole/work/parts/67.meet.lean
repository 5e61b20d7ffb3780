/-! THE CLASS'S WAYS AND THE REFERENCE'S, place by place -/
section JJ
variable {P : Pg} {L n i k s p : Nat} {se : Bool} {tk : Nat → Nat → Bool}
def Hq (P : Pg) (L : Nat) (H : Nat → Bool) (ws : List (Nat × Mk)) : Prop := ∀ k, k < L → P.1 k = 0 → (H k = true ↔ ∃ e ∈ ws, e.1 = k)
def preJ (se : Bool) (s p : Nat) : Prop := (se = true ∧ p < s) ∨ (se = false ∧ s ≠ 0)
def JJ (P : Pg) (L n : Nat) (se : Bool) (tk : Nat → Nat → Bool) (s p : Nat) (st : Wst) (H : Nat → Bool) (at_ : Option Nat) (mk : Mk) : Prop :=
  (preJ se s p ∧ at_ = none ∧ mk = mk0 ∧ (∀ e ∈ st.2.1, ¬ Rch P n se tk p e.1) ∧ ((se = true ∨ p = n) → st.2.2.1 = none) ∧ Hq P L H st.2.1)
  ∨ (¬ preJ se s p ∧ ∃ A e B, st.2.1 = A ++ e :: B ∧ (∀ a ∈ A, ¬ Rch P n se tk p a.1) ∧ Rch P n se tk p e.1 ∧ at_ = some (e.1 + 1) ∧ mk = e.2 ∧ (se = true → Hq P L H A) ∧ (se = false → Hq P L H st.2.1))
  ∨ (¬ preJ se s p ∧ at_ = none ∧ st.2.2.1 = some mk ∧ (se = true → ∀ e ∈ st.2.1, ¬ Rch P n se tk p e.1) ∧ (se = false → p = n) ∧ Hq P L H st.2.1)
def RefP (P : Pg) (L n : Nat) (se : Bool) (tk : Nat → Nat → Bool) (s p : Nat) (H0 : Nat → Bool) (at0 : Option Nat) (mk : Mk) (H : Nat → Bool) (at_ : Option Nat) (mk' : Mk) : Prop :=
  ∃ (H1 : Nat → Bool) (at1 : Option Nat), (∀ j, j < L → (H1 j = true ↔ H0 j = true ∨ (((se = true ∧ p < s) ∨ (se = false ∧ p = 0)) ∧ Eps P 0 j))) ∧
    ((((se = true ∧ p = s) ∨ (se = false ∧ s = 0 ∧ p = 0)) ∧ at1 = some 0) ∨ (¬ ((se = true ∧ p = s) ∨ (se = false ∧ s = 0 ∧ p = 0)) ∧ at1 = at0)) ∧
    ((at1 = none ∧ (∀ j, j < L → H j = H1 j) ∧ at_ = none ∧ mk' = mk) ∨
      ∃ a A e B, at1 = some a ∧ dfs P (nI p) 400 [(a, mk)] (fun _ => false) = A ++ e :: B ∧ Stq P n se tk p e.1 ∧ (∀ x ∈ A, ¬ Stq P n se tk p x.1) ∧ (∀ j, j < L → (H j = true ↔ H1 j = true ∨ (P.1 j = 0 ∧ ∃ x ∈ A, x.1 = j))) ∧ at_ = (if P.1 e.1 = 0 then some (e.1 + 1) else none) ∧ mk' = e.2)
theorem win_fil {V0 : Nat → Bool} {m : Mk} {A B : List (Nat × Mk)} {e : Nat × Mk} (hw : WF P L) (hc : clo P V0) (hV : ∀ k, V0 k = true → ¬ Rch P n se tk i k) (hk : k < L) (h4 : dfs P (nI i) 400 [(k, m)] (fun _ => false) = A ++ e :: B) (h5 : Rch P n se tk i e.1) : dfs P (nI i) 400 [(k, m)] V0 = A.filter (fun e => !V0 e.1) ++ e :: B.filter (fun e => !V0 e.1) := by
  have hf := dfs_fil (i := nI i) (V0 := V0) hw hc 800 400 400 [(k, m)] [(k, m)] (fun _ => false) (Nat.le_refl _) (un_ok hw _ _) (un_ok hw _ _) (one_lt hk) (one_lt hk) rfl
  have e1 : (fun k => (false || V0 k)) = V0 := by
    funext j
    exact Bool.false_or _
  rw [e1, h4, List.filter_append] at hf
  have he : V0 e.1 = false := by
    cases hq : V0 e.1 with
    | false => rfl
    | true => exact absurd h5 (hV e.1 hq)
  rw [List.filter_cons_of_pos (by simp [he])] at hf
  exact hf
theorem tks_mem {l : List (Nat × Mk)} {e : Nat × Mk} : e ∈ tks P l ↔ e ∈ l ∧ P.1 e.1 = 0 := by
  unfold tks
  rw [List.mem_filter]
  constructor
  · rintro ⟨h1, h2⟩; exact ⟨h1, by simpa using h2⟩
  · rintro ⟨h1, h2⟩; exact ⟨h1, by simpa using h2⟩
theorem tks_cons1 {e : Nat × Mk} {l : List (Nat × Mk)} (h : P.1 e.1 = 0) : tks P (e :: l) = e :: tks P l := by simp [tks, h]
theorem tks_cons0 {e : Nat × Mk} {l : List (Nat × Mk)} (h : P.1 e.1 ≠ 0) : tks P (e :: l) = tks P l := by simp [tks, h]
theorem dfs_nd {j : Int32} (hw : WF P L) : ∀ F (W : List (Nat × Mk)) (V : Nat → Bool), W.length + 2 * unv V L < F → (∀ e ∈ W, e.1 < L) → (dfs P j F W V).Pairwise (fun a b => a.1 ≠ b.1) := by
  intro F
  induction F with
  | zero => intro W V h; omega
  | succ F ih =>
    intro W V hF hW
    cases W with
    | nil => exact List.Pairwise.nil
    | cons e W =>
      have he := hW e (List.mem_cons_self ..)
      cases hv : V e.1 with
      | true =>
        rw [dfs_v hv]
        exact ih W V (by simp only [List.length_cons] at hF; omega) (fun a ha => hW a (List.mem_cons_of_mem _ ha))
      | false =>
        have hl := scm_len P j e.1 e.2
        have hu := unv_in hv L he
        have hF' : (scm P j e.1 e.2 ++ W).length + 2 * unv (vset V e.1) L < F := by simp only [List.length_cons, List.length_append] at hF ⊢; omega
        have hW' : ∀ a ∈ scm P j e.1 e.2 ++ W, a.1 < L := by
          intro a ha
          rcases List.mem_append.mp ha with ha | ha
          · exact sc_lt hw he (scm_mem ha)
          · exact hW a (List.mem_cons_of_mem _ ha)
        rw [dfs_n hv]
        refine List.Pairwise.cons ?_ (ih _ _ hF' hW')
        intro a ha q
        have := ((dfs_all (i := j) hw F _ _ hF' hW').2 a ha).2.1
        rw [← q, vset_s] at this
        cases this
/-- the place where the first way goes on -/
theorem J_win {σ ρ : Wst} {m : Mk} {A B : List (Nat × Mk)} {e : Nat × Mk} {H : Nat → Bool} (hw : WF P L) (hpre : ¬ preJ se s i) (hc : clo P σ.1) (hV : ∀ k, σ.1 k = true → ¬ Rch P n se tk i k) (hWs : WsV P σ) (hk : k < L) (hd : dfs P (nI i) 400 [(k, m)] (fun _ => false) = A ++ e :: B) (hS : Stq P n se tk i e.1) (hA : ∀ x ∈ A, ¬ Stq P n se tk i x.1)
    (h1 : P.1 e.1 = 0 → ∃ C, ρ.2.1 = (fol1 P se i k m σ).2.1 ++ C) (h2 : se = true → (fol1 P se i k m σ).2.2.2 = true → (fol1 P se i k m σ).2.2.1 ≠ none → P.1 e.1 = 4 → ρ = fol1 P se i k m σ) (h3 : se = false → (fol1 P se i k m σ).1 (L - 1) = true → ρ.2.2.1 = (fol1 P se i k m σ).2.2.1) (h4 : se = false → Hq P L H ρ.2.1) (h5 : se = true → ∀ j, j < L → (H j = true ↔ σ.1 j = true ∨ (P.1 j = 0 ∧ ∃ x ∈ A, x.1 = j))) (h5' : True) :
    JJ P L n se tk s i ρ H (if P.1 e.1 = 0 then some (e.1 + 1) else none) e.2 := by
  have hfil := win_fil hw hc hV hk hd hS.2
  have hAf : ∀ x ∈ A.filter (fun e => !σ.1 e.1), ¬ Stq P n se tk i x.1 := fun x hx => hA x (List.mem_filter.mp hx).1
  have hA4 : ∀ x ∈ A.filter (fun e => !σ.1 e.1), se = true → P.1 x.1 ≠ 4 := by
    intro x hx hs q
    exact hAf x hx ⟨Or.inr q, (Rch_match q).mpr (Or.inl hs)⟩
  have hcut : cutl P se (dfs P (nI i) 400 [(k, m)] σ.1) = A.filter (fun e => !σ.1 e.1) ++ cutl P se (e :: B.filter (fun e => !σ.1 e.1)) := by
    rw [hfil]
    exact cutl_app _ _ hA4
  have hnon : ∀ a ∈ σ.2.1 ++ tks P (A.filter (fun e => !σ.1 e.1)), ¬ Rch P n se tk i a.1 := by
    intro a ha
    rcases List.mem_append.mp ha with ha | ha
    · exact hV a.1 ((hWs a.1).mp ⟨a, ha, rfl⟩).1
    · obtain ⟨q1, q2⟩ := tks_mem.mp ha
      exact fun q => hAf a q1 ⟨Or.inl q2, q⟩
  have hHq : se = true → Hq P L H (σ.2.1 ++ tks P (A.filter (fun e => !σ.1 e.1))) := by
    intro hs j hj hj0
    rw [h5 hs j hj]
    constructor
    · rintro (h | ⟨-, x, hx, hx2⟩)
      · obtain ⟨a, ha, ha2⟩ := (hWs j).mpr ⟨h, hj0⟩
        exact ⟨a, List.mem_append_left _ ha, ha2⟩
      · by_cases hv : σ.1 j = true
        · obtain ⟨a, ha, ha2⟩ := (hWs j).mpr ⟨hv, hj0⟩
          exact ⟨a, List.mem_append_left _ ha, ha2⟩
        · refine ⟨x, List.mem_append_right _ (tks_mem.mpr ⟨List.mem_filter.mpr ⟨hx, ?_⟩, ?_⟩), hx2⟩
          · rw [hx2]; simpa using hv
          · rw [hx2]; exact hj0
    · rintro ⟨a, ha, ha2⟩
      rcases List.mem_append.mp ha with ha | ha
      · exact Or.inl ((hWs j).mp ⟨a, ha, ha2⟩).1
      · obtain ⟨q1, q2⟩ := tks_mem.mp ha
        exact Or.inr ⟨hj0, a, (List.mem_filter.mp q1).1, ha2⟩
  rcases hS.1 with he | he
  · -- a TAKE
    rw [if_pos he]
    obtain ⟨C, hC⟩ := h1 he
    have hcut2 : cutl P se (e :: B.filter (fun e => !σ.1 e.1)) = e :: cutl P se (B.filter (fun e => !σ.1 e.1)) := if_neg (fun q => by omega)
    have hws : (fol1 P se i k m σ).2.1 = σ.2.1 ++ tks P (cutl P se (dfs P (nI i) 400 [(k, m)] σ.1)) := rfl
    rw [hcut, hcut2, tks_app, tks_cons1 he] at hws
    refine Or.inr (Or.inl ⟨hpre, σ.2.1 ++ tks P (A.filter (fun e => !σ.1 e.1)), e, tks P (cutl P se (B.filter (fun e => !σ.1 e.1))) ++ C, ?_, hnon, hS.2, rfl, rfl, hHq, h4⟩)
    rw [hC, hws]
    simp only [List.append_assoc, List.cons_append]
  · -- the match
    rw [if_neg (by omega)]
    cases hs : se with
    | true =>
      subst hs
      have hcut2 : cutl P true (e :: B.filter (fun e => !σ.1 e.1)) = [e] := if_pos ⟨rfl, he⟩
      have hcut3 : cutl P true (dfs P (nI i) 400 [(k, m)] σ.1) = A.filter (fun e => !σ.1 e.1) ++ [e] := by rw [hcut, hcut2]
      have hfd : (fol1 P true i k m σ).2.2.1 = some e.2 := by
        show fdF P σ.2.2.1 (cutl P true (dfs P (nI i) 400 [(k, m)] σ.1)) = some e.2
        rw [hcut3, fdF_app]
        exact fdF_1 he
      have hct : (fol1 P true i k m σ).2.2.2 = true := by
        show (true && hit P (cutl P true (dfs P (nI i) 400 [(k, m)] σ.1))) = true
        rw [hcut3]
        simp [hit, he]
      have hws : (fol1 P true i k m σ).2.1 = σ.2.1 ++ tks P (A.filter (fun e => !σ.1 e.1)) := by
        show σ.2.1 ++ tks P (cutl P true (dfs P (nI i) 400 [(k, m)] σ.1)) = _
        rw [hcut3, tks_app, tks_0 (by omega), List.append_nil]
      have hρ := h2 rfl hct (by rw [hfd]; exact fun q => by cases q) he
      refine Or.inr (Or.inr ⟨hpre, rfl, by rw [hρ, hfd], fun _ => ?_, fun q => (by cases q), ?_⟩)
      · rw [hρ, hws]; exact hnon
      · rw [hρ, hws]; exact hHq rfl
    | false =>
      subst hs
      have hin : i = n := by
        rcases (Rch_match he).mp hS.2 with q | q
        · cases q
        · exact q
      have hcutF : cutl P false (dfs P (nI i) 400 [(k, m)] σ.1) = dfs P (nI i) 400 [(k, m)] σ.1 := cutl_id _ (fun _ _ q => by cases q)
      have ha := dfs_all (i := nI i) hw 400 [(k, m)] (fun _ => false) (un_ok hw _ _) (one_lt hk)
      have hel : e.1 < L := (ha.2 e (by rw [hd]; exact List.mem_append_right _ (List.mem_cons_self ..))).1
      have heL : e.1 = L - 1 := by
        have := ((hw.2.2 e.1 hel).2.2.2.2.2).mp he
        omega
      have hvis : (fol1 P false i k m σ).1 (L - 1) = true := by
        show visV σ.1 (cutl P false (dfs P (nI i) 400 [(k, m)] σ.1)) (L - 1) = true
        rw [hcutF, hfil]
        exact visV_iff.mpr (Or.inr ⟨e, List.mem_append_right _ (List.mem_cons_self ..), heL⟩)
      have hB4 : ∀ x ∈ B.filter (fun e => !σ.1 e.1), P.1 x.1 ≠ 4 := by
        intro x hx q
        have hxl : x.1 < L := (ha.2 x (by rw [hd]; exact List.mem_append_right _ (List.mem_cons_of_mem _ (List.mem_filter.mp hx).1))).1
        have hxL : x.1 = L - 1 := by
          have := ((hw.2.2 x.1 hxl).2.2.2.2.2).mp q
          omega
        have hnd : (dfs P (nI i) 400 [(k, m)] (fun _ => false)).Pairwise (fun a b => a.1 ≠ b.1) := dfs_nd hw 400 _ _ (un_ok hw _ _) (one_lt hk)
        rw [hd, List.pairwise_append] at hnd
        have := (List.pairwise_cons.mp hnd.2.1).1 x (List.mem_filter.mp hx).1
        exact this (by rw [heL, hxL])
      have hfd : (fol1 P false i k m σ).2.2.1 = some e.2 := by
        show fdF P σ.2.2.1 (cutl P false (dfs P (nI i) 400 [(k, m)] σ.1)) = some e.2
        rw [hcutF, hfil, fdF_app]
        show fdF P (if P.1 e.1 = 4 then some e.2 else _) _ = _
        rw [if_pos he]
        exact fdF_id _ _ hB4
      refine Or.inr (Or.inr ⟨hpre, rfl, by rw [h3 rfl hvis, hfd], fun q => (by cases q), fun _ => hin, h4 rfl⟩)
end JJ
