/-! WAYS that come to a match, and the first of them: the class's ways and the reference's choice -/
def Rn (P : Pg) (n : Nat) (se : Bool) (tk : Nat → Nat → Bool) : Nat → Nat → Nat → Prop
  | 0, _, _ => False
  | f + 1, i, k => (P.1 k = 0 ∧ tk i k = true ∧ Rn P n se tk f (i + 1) (k + 1)) ∨ (P.1 k = 4 ∧ (se = true ∨ i = n)) ∨ ∃ s, s ∈ sc P k ∧ Rn P n se tk f i s
def Rch (P : Pg) (n : Nat) (se : Bool) (tk : Nat → Nat → Bool) (i k : Nat) : Prop := ∃ f, Rn P n se tk f i k
theorem sc_t {P : Pg} {k : Nat} (h : P.1 k = 0 ∨ P.1 k = 4) : sc P k = [] := by
  rcases h with h | h <;> simp [sc, h]
theorem fst_split {α : Type} (q : α → Prop) : ∀ l : List α, (∃ e ∈ l, q e) → ∃ A e B, l = A ++ e :: B ∧ q e ∧ ∀ a ∈ A, ¬ q a := by
  intro l
  induction l with
  | nil => rintro ⟨e, h, -⟩; cases h
  | cons x l ih =>
    rintro ⟨e, h, he⟩
    by_cases hx : q x
    · exact ⟨[], x, l, rfl, hx, fun a ha => by cases ha⟩
    · rcases List.mem_cons.mp h with h | h
      · subst h; exact absurd he hx
      · obtain ⟨A, y, B, h1, h2, h3⟩ := ih ⟨e, h, he⟩
        refine ⟨x :: A, y, B, by rw [h1]; rfl, h2, ?_⟩
        intro a ha
        rcases List.mem_cons.mp ha with ha | ha
        · rw [ha]; exact hx
        · exact h3 a ha
section RC
variable {P : Pg} {L n i k : Nat} {se : Bool} {tk : Nat → Nat → Bool}
theorem Rch_take (h : P.1 k = 0) : Rch P n se tk i k ↔ tk i k = true ∧ Rch P n se tk (i + 1) (k + 1) := by
  constructor
  · rintro ⟨f, hf⟩
    cases f with
    | zero => exact hf.elim
    | succ f =>
      rcases hf with ⟨-, h1, h2⟩ | ⟨h1, -⟩ | ⟨s, h1, -⟩
      · exact ⟨h1, f, h2⟩
      · omega
      · rw [sc_t (Or.inl h)] at h1; cases h1
  · rintro ⟨h1, f, h2⟩
    exact ⟨f + 1, Or.inl ⟨h, h1, h2⟩⟩
theorem Rch_match (h : P.1 k = 4) : Rch P n se tk i k ↔ (se = true ∨ i = n) := by
  constructor
  · rintro ⟨f, hf⟩
    cases f with
    | zero => exact hf.elim
    | succ f =>
      rcases hf with ⟨h1, -⟩ | ⟨-, h1⟩ | ⟨s, h1, -⟩
      · omega
      · exact h1
      · rw [sc_t (Or.inr h)] at h1; cases h1
  · intro h1
    exact ⟨1, Or.inr (Or.inl ⟨h, h1⟩)⟩
theorem Rch_sc {s : Nat} (hs : s ∈ sc P k) (h : Rch P n se tk i s) : Rch P n se tk i k := by
  obtain ⟨f, hf⟩ := h
  exact ⟨f + 1, Or.inr (Or.inr ⟨s, hs, hf⟩)⟩
theorem Rch_back {a b : Nat} (h : Eps P a b) (hb : Rch P n se tk i b) : Rch P n se tk i a := by
  apply Classical.byContradiction
  intro ha
  exact h (fun u => ¬ Rch P n se tk i u) ha (fun u v hu hv hr => hu (Rch_sc hv hr)) hb
theorem Rch_term (h : Rch P n se tk i k) : ∃ t, Eps P k t ∧ Rch P n se tk i t ∧ (P.1 t = 0 ∨ P.1 t = 4) := by
  obtain ⟨f, hf⟩ := h
  induction f generalizing k with
  | zero => exact hf.elim
  | succ f ih =>
    rcases hf with ⟨h1, h2, h3⟩ | ⟨h1, h2⟩ | ⟨s, h1, h2⟩
    · exact ⟨k, Eps_refl _ _, ⟨f + 1, Or.inl ⟨h1, h2, h3⟩⟩, Or.inl h1⟩
    · exact ⟨k, Eps_refl _ _, ⟨f + 1, Or.inr (Or.inl ⟨h1, h2⟩)⟩, Or.inr h1⟩
    · obtain ⟨t, h3, h4⟩ := ih h2
      exact ⟨t, Eps_head h1 h3, h4⟩
theorem Eps_lt (hw : WF P L) {a b : Nat} (ha : a < L) (h : Eps P a b) : b < L := h (fun u => u < L) ha (fun _ _ hu hv => sc_lt hw hu hv)
theorem un_ok (hw : WF P L) (V : Nat → Bool) (e : Nat × Mk) : [e].length + 2 * unv V L < 400 := by
  have := unv_le V L
  have := hw.1
  simp only [List.length_cons, List.length_nil]
  omega
theorem one_lt {m : Mk} (hk : k < L) : ∀ e ∈ [(k, m)], e.1 < L := by
  intro e he
  rcases List.mem_cons.mp he with he | he
  · rw [he]; exact hk
  · cases he
def Stq (P : Pg) (n : Nat) (se : Bool) (tk : Nat → Nat → Bool) (i k : Nat) : Prop := (P.1 k = 0 ∨ P.1 k = 4) ∧ Rch P n se tk i k
/-- the first way that comes to a match, over what comes to none -/
theorem win {V0 : Nat → Bool} {m : Mk} (hw : WF P L) (hc : clo P V0) (hV : ∀ k, V0 k = true → ¬ Rch P n se tk i k) (hk : k < L) (hR : Rch P n se tk i k) : ∃ A e B, dfs P (nI i) 400 [(k, m)] (fun _ => false) = A ++ e :: B ∧ Stq P n se tk i e.1 ∧ (∀ a ∈ A, ¬ Stq P n se tk i a.1) ∧ dfs P (nI i) 400 [(k, m)] V0 = A.filter (fun e => !V0 e.1) ++ e :: B.filter (fun e => !V0 e.1) := by
  have hc0 : clo P (fun _ => false) := fun k hk => by cases hk
  obtain ⟨t, h1, h2, h3⟩ := Rch_term hR
  have hv := (dfs_set (i := nI i) (W := [(k, m)]) (V := fun _ => false) hw (un_ok hw _ _) (one_lt hk) hc0 t).mpr (Or.inr ⟨(k, m), List.mem_cons_self .., h1⟩)
  have hex : ∃ e ∈ dfs P (nI i) 400 [(k, m)] (fun _ => false), Stq P n se tk i e.1 := by
    rcases visV_iff.mp hv with h | ⟨e, h, h4⟩
    · cases h
    · exact ⟨e, h, by rw [h4]; exact ⟨h3, h2⟩⟩
  obtain ⟨A, e, B, h4, h5, h6⟩ := fst_split (fun e : Nat × Mk => Stq P n se tk i e.1) _ hex
  refine ⟨A, e, B, h4, h5, h6, ?_⟩
  have hf := dfs_fil (i := nI i) (V0 := V0) hw hc 800 400 400 [(k, m)] [(k, m)] (fun _ => false) (Nat.le_refl _) (un_ok hw _ _) (un_ok hw _ _) (one_lt hk) (one_lt hk) rfl
  have e1 : (fun k => (false || V0 k)) = V0 := by
    funext j
    exact Bool.false_or _
  rw [e1, h4, List.filter_append] at hf
  have he : V0 e.1 = false := by
    cases hq : V0 e.1 with
    | false => rfl
    | true => exact absurd h5.2 (hV e.1 hq)
  rw [List.filter_cons_of_pos (by simp [he])] at hf
  exact hf
theorem cutl_id : ∀ l : List (Nat × Mk), (∀ e ∈ l, se = true → P.1 e.1 ≠ 4) → cutl P se l = l := by
  intro l
  induction l with
  | nil => intro _; rfl
  | cons e l ih =>
    intro h
    have : ¬ (se = true ∧ P.1 e.1 = 4) := fun q => h e (List.mem_cons_self ..) q.1 q.2
    show (if se = true ∧ P.1 e.1 = 4 then [e] else e :: cutl P se l) = _
    rw [if_neg this, ih (fun a ha => h a (List.mem_cons_of_mem _ ha))]
theorem cutl_app : ∀ (l r : List (Nat × Mk)), (∀ e ∈ l, se = true → P.1 e.1 ≠ 4) → cutl P se (l ++ r) = l ++ cutl P se r := by
  intro l
  induction l with
  | nil => intro _ _; rfl
  | cons e l ih =>
    intro r h
    have : ¬ (se = true ∧ P.1 e.1 = 4) := fun q => h e (List.mem_cons_self ..) q.1 q.2
    show (if se = true ∧ P.1 e.1 = 4 then [e] else e :: cutl P se (l ++ r)) = _
    rw [if_neg this, ih r (fun a ha => h a (List.mem_cons_of_mem _ ha))]
    rfl
theorem hit_0 : ∀ l : List (Nat × Mk), (∀ e ∈ l, P.1 e.1 ≠ 4) → hit P l = false := by
  intro l h
  unfold hit
  rw [List.any_eq_false]
  intro e he
  have := h e he
  simpa using this
theorem fdF_id : ∀ (l : List (Nat × Mk)) (fd : Option Mk), (∀ e ∈ l, P.1 e.1 ≠ 4) → fdF P fd l = fd := by
  intro l
  induction l with
  | nil => intro _ _; rfl
  | cons e l ih =>
    intro fd h
    show fdF P (if P.1 e.1 = 4 then some e.2 else fd) l = fd
    rw [if_neg (h e (List.mem_cons_self ..)), ih fd (fun a ha => h a (List.mem_cons_of_mem _ ha))]
theorem fdF_app (l r : List (Nat × Mk)) (fd : Option Mk) : fdF P fd (l ++ r) = fdF P (fdF P fd l) r := List.foldl_append
theorem tks_app (l r : List (Nat × Mk)) : tks P (l ++ r) = tks P l ++ tks P r := List.filter_append l r
def WsV (P : Pg) (st : Wst) : Prop := ∀ k, (∃ e ∈ st.2.1, e.1 = k) ↔ (st.1 k = true ∧ P.1 k = 0)
theorem fol1_WsV {m : Mk} {st : Wst} (h : WsV P st) : WsV P (fol1 P se i k m st) := by
  intro j
  show (∃ e ∈ st.2.1 ++ tks P _, e.1 = j) ↔ (visV st.1 _ j = true ∧ P.1 j = 0)
  generalize cutl P se (dfs P (nI i) 400 [(k, m)] st.1) = out
  rw [visV_iff]
  constructor
  · rintro ⟨e, he, hj⟩
    rcases List.mem_append.mp he with he | he
    · have := (h j).mp ⟨e, he, hj⟩
      exact ⟨Or.inl this.1, this.2⟩
    · unfold tks at he
      rw [List.mem_filter] at he
      subst hj
      exact ⟨Or.inr ⟨e, he.1, rfl⟩, by simpa using he.2⟩
  · rintro ⟨h1 | ⟨e, h1, h2⟩, h3⟩
    · obtain ⟨e, h4, h5⟩ := (h j).mpr ⟨h1, h3⟩
      exact ⟨e, List.mem_append_left _ h4, h5⟩
    · refine ⟨e, List.mem_append_right _ ?_, h2⟩
      unfold tks
      rw [List.mem_filter]
      refine ⟨h1, ?_⟩
      rw [h2]
      simpa using h3
theorem fol1_tk {m : Mk} {st : Wst} (hw : WF P L) (hk : k < L) (h : TkOk P L st.2.1) : TkOk P L (fol1 P se i k m st).2.1 := by
  have hc : ∀ l : List (Nat × Mk), ∀ e ∈ cutl P se l, e ∈ l := by
    intro l
    induction l with
    | nil => intro e he; exact he
    | cons x l ih =>
      intro e he
      have he' : e ∈ (if se = true ∧ P.1 x.1 = 4 then [x] else x :: cutl P se l) := he
      split at he'
      · rcases List.mem_cons.mp he' with h1 | h1
        · rw [h1]; exact List.mem_cons_self ..
        · cases h1
      · rcases List.mem_cons.mp he' with h1 | h1
        · rw [h1]; exact List.mem_cons_self ..
        · exact List.mem_cons_of_mem _ (ih e h1)
  intro e he
  have he' : e ∈ st.2.1 ++ tks P (cutl P se (dfs P (nI i) 400 [(k, m)] st.1)) := he
  rcases List.mem_append.mp he' with he' | he'
  · exact h e he'
  · unfold tks at he'
    rw [List.mem_filter] at he'
    have := (dfs_all (i := nI i) hw 400 [(k, m)] st.1 (un_ok hw _ _) (one_lt hk)).2 e (hc _ e he'.1)
    exact ⟨this.1, by simpa using he'.2⟩
/-- a spreading that is not cut -/
theorem fol1_set {m : Mk} {st : Wst} (hw : WF P L) (hk : k < L) (hc : clo P st.1) (hN : se = true → ¬ Rch P n se tk i k) :
    (fol1 P se i k m st).2.2.2 = false ∧ clo P (fol1 P se i k m st).1 ∧ (∀ j, (fol1 P se i k m st).1 j = true ↔ st.1 j = true ∨ Eps P k j) ∧ (¬ Rch P n se tk i k → (se = true ∨ i = n) → (fol1 P se i k m st).2.2.1 = st.2.2.1) ∧ ∃ C, (fol1 P se i k m st).2.1 = st.2.1 ++ C := by
  have ha := dfs_all (i := nI i) hw 400 [(k, m)] st.1 (un_ok hw _ _) (one_lt hk)
  have hE : ∀ e ∈ dfs P (nI i) 400 [(k, m)] st.1, Eps P k e.1 := by
    intro e he
    obtain ⟨w, h1, h2⟩ := (ha.2 e he).2.2.2
    rcases List.mem_cons.mp h1 with h1 | h1
    · rw [h1] at h2; exact h2
    · cases h1
  have h4 : ¬ Rch P n se tk i k → (se = true ∨ i = n) → ∀ e ∈ dfs P (nI i) 400 [(k, m)] st.1, P.1 e.1 ≠ 4 := by
    intro hr hm e he q
    exact hr (Rch_back (hE e he) ((Rch_match q).mpr hm))
  have hcut : cutl P se (dfs P (nI i) 400 [(k, m)] st.1) = dfs P (nI i) 400 [(k, m)] st.1 := cutl_id _ (fun e he hs => h4 (hN hs) (Or.inl hs) e he)
  unfold fol1
  rw [hcut]
  refine ⟨?_, dfs_clo hw (un_ok hw _ _) (one_lt hk) hc, ?_, ?_, ⟨_, rfl⟩⟩
  · show (se && hit P _) = false
    cases hs : se with
    | false => rfl
    | true => exact hit_0 _ (h4 (hN hs) (Or.inl hs))
  · intro j
    show visV st.1 _ j = true ↔ _
    rw [dfs_set hw (un_ok hw _ _) (one_lt hk) hc j]
    constructor
    · rintro (h | ⟨w, h1, h2⟩)
      · exact Or.inl h
      · rcases List.mem_cons.mp h1 with h1 | h1
        · rw [h1] at h2; exact Or.inr h2
        · cases h1
    · rintro (h | h)
      · exact Or.inl h
      · exact Or.inr ⟨(k, m), List.mem_cons_self .., h⟩
  · intro hr hm
    exact fdF_id _ _ (h4 hr hm)
theorem folW_app {t : Nat → Bool} : ∀ (l r : List (Nat × Mk)) (st : Wst), folW P se i t (l ++ r) st = folW P se i t r (folW P se i t l st) := by
  intro l
  induction l with
  | nil => intro r st; rfl
  | cons e l ih =>
    intro r st
    show (if st.2.2.2 = true then st else if t e.1 = true then folW P se i t (l ++ r) (fol1 P se i (e.1 + 1) e.2 st) else folW P se i t (l ++ r) st) = folW P se i t r (if st.2.2.2 = true then st else if t e.1 = true then folW P se i t l (fol1 P se i (e.1 + 1) e.2 st) else folW P se i t l st)
    by_cases hc : st.2.2.2 = true
    · rw [if_pos hc, if_pos hc]
      cases r with
      | nil => rfl
      | cons x r => exact (if_pos hc).symm
    · rw [if_neg hc, if_neg hc]
      by_cases ht : t e.1 = true
      · rw [if_pos ht, if_pos ht, ih]
      · rw [if_neg ht, if_neg ht, ih]
theorem folW_WsV {t : Nat → Bool} : ∀ (l : List (Nat × Mk)) (st : Wst), WsV P st → WsV P (folW P se i t l st) := by
  intro l
  induction l with
  | nil => intro st h; exact h
  | cons e l ih =>
    intro st h
    unfold folW
    split
    · exact h
    · split
      · exact ih _ (fol1_WsV h)
      · exact ih _ h
theorem folW_tk {t : Nat → Bool} (hw : WF P L) : ∀ (l : List (Nat × Mk)) (st : Wst), TkOk P L l → TkOk P L st.2.1 → TkOk P L (folW P se i t l st).2.1 := by
  intro l
  induction l with
  | nil => intro st _ h; exact h
  | cons e l ih =>
    intro st hl h
    have he := hl e (List.mem_cons_self ..)
    have hl' : TkOk P L l := fun a ha => hl a (List.mem_cons_of_mem _ ha)
    unfold folW
    split
    · exact h
    · split
      · exact ih _ hl' (fol1_tk hw ((hw.2.2 e.1 he.1).2.1 he.2) h)
      · exact ih _ hl' h
theorem folW_ext {t : Nat → Bool} : ∀ (l : List (Nat × Mk)) (st : Wst), ∃ C, (folW P se i t l st).2.1 = st.2.1 ++ C := by
  intro l
  induction l with
  | nil => intro st; exact ⟨[], (List.append_nil _).symm⟩
  | cons e l ih =>
    intro st
    unfold folW
    split
    · exact ⟨[], (List.append_nil _).symm⟩
    · split
      · obtain ⟨C, hC⟩ := ih (fol1 P se i (e.1 + 1) e.2 st)
        refine ⟨tks P (cutl P se (dfs P (nI i) 400 [(e.1 + 1, e.2)] st.1)) ++ C, ?_⟩
        rw [hC, ← List.append_assoc]
        rfl
      · exact ih st
theorem finW_ext (st : Wst) : ∃ C, (finW P se i st).2.1 = st.2.1 ++ C := by
  unfold finW
  split
  · exact ⟨_, rfl⟩
  · exact ⟨[], (List.append_nil _).symm⟩
/-- ways none of which is cut -/
theorem folW_set {t : Nat → Bool} (hw : WF P L) : ∀ (l : List (Nat × Mk)) (st : Wst), TkOk P L l → st.2.2.2 = false → clo P st.1 → (se = true → ∀ e ∈ l, t e.1 = true → ¬ Rch P n se tk i (e.1 + 1)) →
    (folW P se i t l st).2.2.2 = false ∧ clo P (folW P se i t l st).1 ∧ (∀ j, (folW P se i t l st).1 j = true ↔ st.1 j = true ∨ ∃ e ∈ l, t e.1 = true ∧ Eps P (e.1 + 1) j) ∧ ((∀ e ∈ l, t e.1 = true → ¬ Rch P n se tk i (e.1 + 1)) → (se = true ∨ i = n) → (folW P se i t l st).2.2.1 = st.2.2.1) := by
  intro l
  induction l with
  | nil =>
    intro st _ h1 h2 _
    refine ⟨h1, h2, fun j => ⟨fun h => Or.inl h, ?_⟩, fun _ _ => rfl⟩
    rintro (h | ⟨e, h, -⟩)
    · exact h
    · cases h
  | cons e l ih =>
    intro st hl hct hc hN
    have he := hl e (List.mem_cons_self ..)
    have hl' : TkOk P L l := fun a ha => hl a (List.mem_cons_of_mem _ ha)
    have hk := (hw.2.2 e.1 he.1).2.1 he.2
    have hN' : se = true → ∀ a ∈ l, t a.1 = true → ¬ Rch P n se tk i (a.1 + 1) := fun hs a ha => hN hs a (List.mem_cons_of_mem _ ha)
    by_cases ht : t e.1 = true
    · have eq : folW P se i t (e :: l) st = folW P se i t l (fol1 P se i (e.1 + 1) e.2 st) := by
        show (if st.2.2.2 = true then st else if t e.1 = true then _ else _) = _
        rw [hct, if_neg Bool.false_ne_true, if_pos ht]
      obtain ⟨a1, a2, a3, a4, -⟩ := fol1_set (m := e.2) (tk := tk) (n := n) hw hk hc (fun hs => hN hs e (List.mem_cons_self ..) ht)
      obtain ⟨b1, b2, b3, b4⟩ := ih (fol1 P se i (e.1 + 1) e.2 st) hl' a1 a2 hN'
      rw [eq]
      refine ⟨b1, b2, fun j => ?_, fun h1 h2 => ?_⟩
      · rw [b3 j, a3 j]
        constructor
        · rintro ((h | h) | ⟨a, h, h2⟩)
          · exact Or.inl h
          · exact Or.inr ⟨e, List.mem_cons_self .., ht, h⟩
          · exact Or.inr ⟨a, List.mem_cons_of_mem _ h, h2⟩
        · rintro (h | ⟨a, h, h2, h3⟩)
          · exact Or.inl (Or.inl h)
          · rcases List.mem_cons.mp h with h | h
            · rw [h] at h3; exact Or.inl (Or.inr h3)
            · exact Or.inr ⟨a, h, h2, h3⟩
      · rw [b4 (fun a ha => h1 a (List.mem_cons_of_mem _ ha)) h2, a4 (h1 e (List.mem_cons_self ..) ht) h2]
    · have eq : folW P se i t (e :: l) st = folW P se i t l st := by
        show (if st.2.2.2 = true then st else if t e.1 = true then _ else _) = _
        rw [hct, if_neg Bool.false_ne_true, if_neg ht]
      obtain ⟨b1, b2, b3, b4⟩ := ih st hl' hct hc hN'
      rw [eq]
      refine ⟨b1, b2, fun j => ?_, fun h1 h2 => b4 (fun a ha => h1 a (List.mem_cons_of_mem _ ha)) h2⟩
      rw [b3 j]
      constructor
      · rintro (h | ⟨a, h, h2⟩)
        · exact Or.inl h
        · exact Or.inr ⟨a, List.mem_cons_of_mem _ h, h2⟩
      · rintro (h | ⟨a, h, h2, h3⟩)
        · exact Or.inl h
        · rcases List.mem_cons.mp h with h | h
          · rw [h] at h2; exact absurd h2 ht
          · exact Or.inr ⟨a, h, h2, h3⟩
/-- where the match stands already, nothing finds it again -/
theorem fol1_fd {m : Mk} {st : Wst} (hw : WF P L) (hk : k < L) (hv : st.1 (L - 1) = true) : (fol1 P se i k m st).2.2.1 = st.2.2.1 ∧ (fol1 P se i k m st).1 (L - 1) = true ∧ (fol1 P se i k m st).2.2.2 = false := by
  have ha := dfs_all (i := nI i) hw 400 [(k, m)] st.1 (un_ok hw _ _) (one_lt hk)
  have h4 : ∀ e ∈ dfs P (nI i) 400 [(k, m)] st.1, P.1 e.1 ≠ 4 := by
    intro e he q
    obtain ⟨h1, h2, -⟩ := ha.2 e he
    have := ((hw.2.2 e.1 h1).2.2.2.2.2).mp q
    have e1 : e.1 = L - 1 := by omega
    rw [e1, hv] at h2
    cases h2
  have hcut : cutl P se (dfs P (nI i) 400 [(k, m)] st.1) = dfs P (nI i) 400 [(k, m)] st.1 := cutl_id _ (fun e he _ => h4 e he)
  unfold fol1
  rw [hcut]
  refine ⟨fdF_id _ _ h4, visV_of hv, ?_⟩
  show (se && hit P _) = false
  rw [hit_0 _ h4, Bool.and_false]
theorem folW_fd {t : Nat → Bool} (hw : WF P L) : ∀ (l : List (Nat × Mk)) (st : Wst), TkOk P L l → st.1 (L - 1) = true → (folW P se i t l st).2.2.1 = st.2.2.1 := by
  intro l
  induction l with
  | nil => intro st _ _; rfl
  | cons e l ih =>
    intro st hl hv
    have he := hl e (List.mem_cons_self ..)
    have hl' : TkOk P L l := fun a ha => hl a (List.mem_cons_of_mem _ ha)
    have hk := (hw.2.2 e.1 he.1).2.1 he.2
    unfold folW
    split
    · rfl
    · split
      · obtain ⟨a1, a2, -⟩ := fol1_fd (se := se) (i := i) (m := e.2) hw hk hv
        rw [ih _ hl' a2, a1]
      · exact ih _ hl' hv
end RC
