/-! WAYS, the pure picture: programs, ways that spread from instructions without taking a character -/
abbrev Mk : Type := Nat → Int32
abbrev Pg : Type := (Nat → Nat) × (Nat → Nat) × (Nat → Nat)
def sc (P : Pg) (k : Nat) : List Nat := if P.1 k = 1 then [P.2.1 k, P.2.2 k] else if P.1 k = 2 then [P.2.1 k] else if P.1 k = 3 then [k + 1] else []
def scm (P : Pg) (i : Int32) (k : Nat) (m : Mk) : List (Nat × Mk) := if P.1 k = 1 then [(P.2.1 k, m), (P.2.2 k, m)] else if P.1 k = 2 then [(P.2.1 k, m)] else if P.1 k = 3 then [(k + 1, upd m (P.2.1 k) i)] else []
def vset (V : Nat → Bool) (k : Nat) : Nat → Bool := fun j => V j || j == k
def dfs (P : Pg) (i : Int32) : Nat → List (Nat × Mk) → (Nat → Bool) → List (Nat × Mk)
  | 0, _, _ => []
  | _ + 1, [], _ => []
  | F + 1, e :: W, V => if V e.1 = true then dfs P i F W V else e :: dfs P i F (scm P i e.1 e.2 ++ W) (vset V e.1)
def visV (V : Nat → Bool) (out : List (Nat × Mk)) : Nat → Bool := fun k => V k || out.any (fun e => e.1 == k)
def unv (V : Nat → Bool) : Nat → Nat
  | 0 => 0
  | n + 1 => unv V n + if V n = true then 0 else 1
def WF (P : Pg) (L : Nat) : Prop := L ≤ 160 ∧ 0 < L ∧ ∀ k, k < L → (P.1 k ≤ 4 ∧ P.2.1 k < 200 ∧ P.2.2 k < 200) ∧ (P.1 k = 0 → k + 1 < L) ∧ (P.1 k = 1 → P.2.1 k < L ∧ P.2.2 k < L) ∧ (P.1 k = 2 → P.2.1 k < L) ∧ (P.1 k = 3 → P.2.1 k < 14 ∧ k + 1 < L) ∧ (P.1 k = 4 ↔ k + 1 = L)
def Eps (P : Pg) (a b : Nat) : Prop := ∀ X : Nat → Prop, X a → (∀ u v, X u → v ∈ sc P u → X v) → X b
theorem Eps_refl (P : Pg) (a : Nat) : Eps P a a := fun _ h _ => h
theorem Eps_step {P : Pg} {a b c : Nat} (h : Eps P a b) (hs : c ∈ sc P b) : Eps P a c := fun X h1 h2 => h2 b c (h X h1 h2) hs
theorem Eps_head {P : Pg} {a b c : Nat} (hs : b ∈ sc P a) (h : Eps P b c) : Eps P a c := fun X h1 h2 => h X (h2 a b h1 hs) h2
theorem scm_map (P : Pg) (i : Int32) (k : Nat) (m : Mk) : (scm P i k m).map (fun e => e.1) = sc P k := by
  unfold scm sc
  split
  · rfl
  · split
    · rfl
    · split <;> rfl
theorem scm_mem {P : Pg} {i : Int32} {k : Nat} {m : Mk} {e : Nat × Mk} (h : e ∈ scm P i k m) : e.1 ∈ sc P k := by
  rw [← scm_map P i k m]
  exact List.mem_map_of_mem h
theorem scm_len (P : Pg) (i : Int32) (k : Nat) (m : Mk) : (scm P i k m).length ≤ 2 := by
  unfold scm
  split
  · exact Nat.le_refl _
  · split
    · exact Nat.le_succ _
    · split
      · exact Nat.le_succ _
      · exact Nat.zero_le _
theorem sc_lt {P : Pg} {L k j : Nat} (h : WF P L) (hk : k < L) (hj : j ∈ sc P k) : j < L := by
  obtain ⟨h1, h2, h3, h4, h5, h6⟩ := h.2.2 k hk
  unfold sc at hj
  split at hj
  · rename_i h7
    simp only [List.mem_cons, List.not_mem_nil, or_false] at hj
    rcases hj with hj | hj
    · rw [hj]; exact (h3 h7).1
    · rw [hj]; exact (h3 h7).2
  · split at hj
    · rename_i h7
      simp only [List.mem_cons, List.not_mem_nil, or_false] at hj
      rw [hj]; exact h4 h7
    · split at hj
      · rename_i h7
        simp only [List.mem_cons, List.not_mem_nil, or_false] at hj
        rw [hj]; exact (h5 h7).2
      · cases hj
theorem vset_s (V : Nat → Bool) (k : Nat) : vset V k k = true := by simp [vset]
theorem vset_n {V : Nat → Bool} {k j : Nat} (h : j ≠ k) : vset V k j = V j := by simp [vset, h]
theorem unv_out {V : Nat → Bool} {k : Nat} : ∀ n, n ≤ k → unv (vset V k) n = unv V n := by
  intro n
  induction n with
  | zero => intro _; rfl
  | succ n ih =>
    intro h
    unfold unv
    rw [ih (by omega), vset_n (by omega)]
theorem unv_in {V : Nat → Bool} {k : Nat} (hv : V k = false) : ∀ n, k < n → unv (vset V k) n + 1 = unv V n := by
  intro n
  induction n with
  | zero => intro h; omega
  | succ n ih =>
    intro h
    unfold unv
    by_cases hk : n = k
    · subst hk
      rw [unv_out n (Nat.le_refl _), vset_s, hv]
      simp
    · rw [vset_n hk, ← ih (by omega)]
      omega
theorem unv_le (V : Nat → Bool) : ∀ n, unv V n ≤ n := by
  intro n
  induction n with
  | zero => exact Nat.le_refl _
  | succ n ih =>
    unfold unv
    split <;> omega
theorem visV_nil (V : Nat → Bool) : visV V [] = V := by
  funext k
  simp [visV]
theorem visV_cons (V : Nat → Bool) (e : Nat × Mk) (l : List (Nat × Mk)) : visV V (e :: l) = visV (vset V e.1) l := by
  funext k
  simp only [visV, vset, List.any_cons]
  have : (e.1 == k) = (k == e.1) := by
    by_cases h : e.1 = k
    · subst h; rfl
    · rw [beq_eq_false_iff_ne.mpr h, beq_eq_false_iff_ne.mpr (fun q => h q.symm)]
  rw [this, Bool.or_assoc]
theorem visV_app (V : Nat → Bool) (l r : List (Nat × Mk)) : visV V (l ++ r) = visV (visV V l) r := by
  funext k
  simp only [visV, List.any_append, Bool.or_assoc]
theorem visV_of {V : Nat → Bool} {l : List (Nat × Mk)} {k : Nat} (h : V k = true) : visV V l k = true := by
  simp [visV, h]
theorem visV_iff {V : Nat → Bool} {l : List (Nat × Mk)} {k : Nat} : visV V l k = true ↔ V k = true ∨ ∃ e ∈ l, e.1 = k := by
  simp only [visV, Bool.or_eq_true, List.any_eq_true, beq_iff_eq]
def clo (P : Pg) (V : Nat → Bool) : Prop := ∀ k, V k = true → ∀ s ∈ sc P k, V s = true
/-- what a spreading visits -/
theorem dfs_all {P : Pg} {i : Int32} {L : Nat} (hw : WF P L) : ∀ F (W : List (Nat × Mk)) (V : Nat → Bool), W.length + 2 * unv V L < F → (∀ e ∈ W, e.1 < L) →
    (∀ e ∈ W, visV V (dfs P i F W V) e.1 = true) ∧ (∀ e ∈ dfs P i F W V, e.1 < L ∧ V e.1 = false ∧ (∀ s ∈ sc P e.1, visV V (dfs P i F W V) s = true) ∧ ∃ w ∈ W, Eps P w.1 e.1) := by
  intro F
  induction F with
  | zero => intro W V h; omega
  | succ F ih =>
    intro W V hF hW
    cases W with
    | nil => exact ⟨fun e h => (by cases h), fun e h => (by cases h)⟩
    | cons e W =>
      have he := hW e (List.mem_cons_self ..)
      by_cases hv : V e.1 = true
      · have eq : dfs P i (F + 1) (e :: W) V = dfs P i F W V := if_pos hv
        rw [eq]
        obtain ⟨h1, h2⟩ := ih W V (by simp only [List.length_cons] at hF; omega) (fun a ha => hW a (List.mem_cons_of_mem _ ha))
        refine ⟨?_, ?_⟩
        · intro a ha
          rcases List.mem_cons.mp ha with ha | ha
          · subst ha; exact visV_of hv
          · exact h1 a ha
        · intro a ha
          obtain ⟨h3, h4, h5, w, h6, h7⟩ := h2 a ha
          exact ⟨h3, h4, h5, w, List.mem_cons_of_mem _ h6, h7⟩
      · have eq : dfs P i (F + 1) (e :: W) V = e :: dfs P i F (scm P i e.1 e.2 ++ W) (vset V e.1) := if_neg hv
        have hv' : V e.1 = false := by simpa using hv
        have hl := scm_len P i e.1 e.2
        have hu := unv_in hv' L he
        obtain ⟨h1, h2⟩ := ih (scm P i e.1 e.2 ++ W) (vset V e.1) (by simp only [List.length_cons, List.length_append] at hF ⊢; omega) (fun a ha => by
          rcases List.mem_append.mp ha with ha | ha
          · exact sc_lt hw he (scm_mem ha)
          · exact hW a (List.mem_cons_of_mem _ ha))
        rw [eq, visV_cons]
        refine ⟨?_, ?_⟩
        · intro a ha
          rcases List.mem_cons.mp ha with ha | ha
          · subst ha; exact visV_of (vset_s _ _)
          · exact h1 a (List.mem_append_right _ ha)
        · intro a ha
          rcases List.mem_cons.mp ha with ha | ha
          · subst ha
            refine ⟨he, hv', ?_, a, List.mem_cons_self .., Eps_refl _ _⟩
            intro s hs
            rw [← scm_map P i a.1 a.2] at hs
            obtain ⟨b, hb, hb2⟩ := List.mem_map.mp hs
            rw [← hb2]
            exact h1 b (List.mem_append_left _ hb)
          · obtain ⟨h3, h4, h5, w, h6, h7⟩ := h2 a ha
            have hne : a.1 ≠ e.1 := by
              intro q
              rw [q, vset_s] at h4
              cases h4
            refine ⟨h3, by rwa [vset_n hne] at h4, h5, ?_⟩
            rcases List.mem_append.mp h6 with h6 | h6
            · exact ⟨e, List.mem_cons_self .., Eps_head (scm_mem h6) h7⟩
            · exact ⟨w, List.mem_cons_of_mem _ h6, h7⟩
theorem dfs_clo {P : Pg} {i : Int32} {L F : Nat} {W : List (Nat × Mk)} {V : Nat → Bool} (hw : WF P L) (hF : W.length + 2 * unv V L < F) (hW : ∀ e ∈ W, e.1 < L) (hc : clo P V) : clo P (visV V (dfs P i F W V)) := by
  obtain ⟨h1, h2⟩ := dfs_all (i := i) hw F W V hF hW
  intro k hk s hs
  rcases visV_iff.mp hk with h | ⟨e, h, h3⟩
  · exact visV_of (hc k h s hs)
  · subst h3
    exact (h2 e h).2.2.1 s hs
/-- the nodes that a spreading visits, over what is closed -/
theorem dfs_set {P : Pg} {i : Int32} {L F : Nat} {W : List (Nat × Mk)} {V : Nat → Bool} (hw : WF P L) (hF : W.length + 2 * unv V L < F) (hW : ∀ e ∈ W, e.1 < L) (hc : clo P V) (k : Nat) : visV V (dfs P i F W V) k = true ↔ V k = true ∨ ∃ w ∈ W, Eps P w.1 k := by
  obtain ⟨h1, h2⟩ := dfs_all (i := i) hw F W V hF hW
  constructor
  · intro h
    rcases visV_iff.mp h with h | ⟨e, h4, h3⟩
    · exact Or.inl h
    · subst h3; exact Or.inr (h2 e h4).2.2.2
  · intro h
    rcases h with h | ⟨w, h, h3⟩
    · exact visV_of h
    · exact h3 (fun u => visV V (dfs P i F W V) u = true) (h1 w h) (fun u v hu hv => dfs_clo hw hF hW hc u hu v hv)
/-- over what is closed, a spreading visits what one over nothing visits, and no more, in the same order -/
theorem dfs_fil {P : Pg} {i : Int32} {L : Nat} {V0 : Nat → Bool} (hw : WF P L) (hc : clo P V0) : ∀ n F F' (W1 W2 : List (Nat × Mk)) (V2 : Nat → Bool), F + F' ≤ n → W1.length + 2 * unv (fun k => V2 k || V0 k) L < F → W2.length + 2 * unv V2 L < F' → (∀ e ∈ W1, e.1 < L) → (∀ e ∈ W2, e.1 < L) → W1.filter (fun e => !V0 e.1) = W2.filter (fun e => !V0 e.1) →
    dfs P i F W1 (fun k => V2 k || V0 k) = (dfs P i F' W2 V2).filter (fun e => !V0 e.1) := by
  intro n
  induction n with
  | zero => intro F F' W1 W2 V2 h0 h1; omega
  | succ n ih =>
    intro F F' W1 W2 V2 h0 h1 h2 b1 b2 hf
    obtain ⟨F, rfl⟩ : ∃ G, F = G + 1 := ⟨F - 1, by omega⟩
    obtain ⟨F', rfl⟩ : ∃ G, F' = G + 1 := ⟨F' - 1, by omega⟩
    have skip1 : ∀ e W, W1 = e :: W → V0 e.1 = true → dfs P i (F + 1) W1 (fun k => V2 k || V0 k) = (dfs P i (F' + 1) W2 V2).filter (fun e => !V0 e.1) := by
      intro e W q hv
      subst q
      have eq : dfs P i (F + 1) (e :: W) (fun k => V2 k || V0 k) = dfs P i F W (fun k => V2 k || V0 k) := if_pos (by simp [hv])
      rw [eq]
      refine ih F (F' + 1) W W2 V2 (by omega) (by simp only [List.length_cons] at h1; omega) h2 (fun a ha => b1 a (List.mem_cons_of_mem _ ha)) b2 ?_
      rw [← hf, List.filter_cons_of_neg (by simp [hv])]
    have skip2 : ∀ e W, W2 = e :: W → V0 e.1 = true → dfs P i (F + 1) W1 (fun k => V2 k || V0 k) = (dfs P i (F' + 1) W2 V2).filter (fun e => !V0 e.1) := by
      intro e W q hv
      subst q
      have he := b2 e (List.mem_cons_self ..)
      have hf' : W1.filter (fun e => !V0 e.1) = W.filter (fun e => !V0 e.1) := by rw [hf, List.filter_cons_of_neg (by simp [hv])]
      by_cases hv2 : V2 e.1 = true
      · have eq : dfs P i (F' + 1) (e :: W) V2 = dfs P i F' W V2 := if_pos hv2
        rw [eq]
        exact ih (F + 1) F' W1 W V2 (by omega) h1 (by simp only [List.length_cons] at h2; omega) b1 (fun a ha => b2 a (List.mem_cons_of_mem _ ha)) hf'
      · have eq : dfs P i (F' + 1) (e :: W) V2 = e :: dfs P i F' (scm P i e.1 e.2 ++ W) (vset V2 e.1) := if_neg hv2
        have hv' : V2 e.1 = false := by simpa using hv2
        have hl := scm_len P i e.1 e.2
        have hu := unv_in hv' L he
        have ev : (fun k => V2 k || V0 k) = (fun k => vset V2 e.1 k || V0 k) := by
          funext k
          by_cases hk : k = e.1
          · subst hk; simp [hv]
          · rw [vset_n hk]
        rw [eq, List.filter_cons_of_neg (by simp [hv]), ev]
        refine ih (F + 1) F' W1 (scm P i e.1 e.2 ++ W) (vset V2 e.1) (by omega) (by rw [← ev]; exact h1) (by simp only [List.length_cons, List.length_append] at h2 ⊢; omega) b1 (fun a ha => ?_) ?_
        · rcases List.mem_append.mp ha with ha | ha
          · exact sc_lt hw he (scm_mem ha)
          · exact b2 a (List.mem_cons_of_mem _ ha)
        · rw [hf', List.filter_append]
          have : (scm P i e.1 e.2).filter (fun e => !V0 e.1) = [] := by
            rw [List.filter_eq_nil_iff]
            intro a ha
            simp [hc e.1 hv a.1 (scm_mem ha)]
          rw [this, List.nil_append]
    cases W2 with
    | nil =>
      cases W1 with
      | nil => rfl
      | cons e W =>
        by_cases hv : V0 e.1 = true
        · exact skip1 e W rfl hv
        · rw [List.filter_cons_of_pos (by simpa using hv)] at hf
          cases hf
    | cons e2 W2 =>
      by_cases hv2 : V0 e2.1 = true
      · exact skip2 e2 W2 rfl hv2
      · cases W1 with
        | nil =>
          rw [List.filter_cons_of_pos (by simpa using hv2)] at hf
          cases hf
        | cons e W1 =>
          by_cases hv : V0 e.1 = true
          · exact skip1 e W1 rfl hv
          · rw [List.filter_cons_of_pos (by simpa using hv), List.filter_cons_of_pos (by simpa using hv2)] at hf
            injection hf with hf1 hf2
            subst hf1
            have he := b1 e (List.mem_cons_self ..)
            have hv0 : V0 e.1 = false := by simpa using hv
            by_cases h3 : V2 e.1 = true
            · have eq : dfs P i (F' + 1) (e :: W2) V2 = dfs P i F' W2 V2 := if_pos h3
              have eq1 : dfs P i (F + 1) (e :: W1) (fun k => V2 k || V0 k) = dfs P i F W1 (fun k => V2 k || V0 k) := if_pos (by simp [h3])
              rw [eq, eq1]
              exact ih F F' W1 W2 V2 (by omega) (by simp only [List.length_cons] at h1; omega) (by simp only [List.length_cons] at h2; omega) (fun a ha => b1 a (List.mem_cons_of_mem _ ha)) (fun a ha => b2 a (List.mem_cons_of_mem _ ha)) hf2
            · have h3' : V2 e.1 = false := by simpa using h3
              have eq : dfs P i (F' + 1) (e :: W2) V2 = e :: dfs P i F' (scm P i e.1 e.2 ++ W2) (vset V2 e.1) := if_neg h3
              have eq1 : dfs P i (F + 1) (e :: W1) (fun k => V2 k || V0 k) = e :: dfs P i F (scm P i e.1 e.2 ++ W1) (vset (fun k => V2 k || V0 k) e.1) := if_neg (by simp [h3, hv0])
              have hl := scm_len P i e.1 e.2
              have hu := unv_in h3' L he
              have hu1 := unv_in (V := fun k => V2 k || V0 k) (by simp [h3', hv0]) L he
              have ev : vset (fun k => V2 k || V0 k) e.1 = (fun k => vset V2 e.1 k || V0 k) := by
                funext k
                simp only [vset]
                cases V2 k <;> cases V0 k <;> simp
              rw [eq, eq1, List.filter_cons_of_pos (by simp [hv0]), ev]
              congr 1
              refine ih F F' (scm P i e.1 e.2 ++ W1) (scm P i e.1 e.2 ++ W2) (vset V2 e.1) (by omega) (by rw [← ev]; simp only [List.length_cons, List.length_append] at h1 ⊢; omega) (by simp only [List.length_cons, List.length_append] at h2 ⊢; omega) (fun a ha => ?_) (fun a ha => ?_) ?_
              · rcases List.mem_append.mp ha with ha | ha
                · exact sc_lt hw he (scm_mem ha)
                · exact b1 a (List.mem_cons_of_mem _ ha)
              · rcases List.mem_append.mp ha with ha | ha
                · exact sc_lt hw he (scm_mem ha)
                · exact b2 a (List.mem_cons_of_mem _ ha)
              · rw [List.filter_append, List.filter_append, hf2]
