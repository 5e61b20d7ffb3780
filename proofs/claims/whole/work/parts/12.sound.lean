/-! THE SMALL MACHINE IS TRUE, 1: locals, cells, the goal -/
theorem q_getD_set {α : Type} (l : List (Option α)) (i j : Nat) (x : Option α) (hi : i < l.length) : (l.set i x).getD j none = if j = i then x else l.getD j none := by
  rw [List.getD_eq_getElem?_getD, List.getD_eq_getElem?_getD, List.getElem?_set]
  by_cases h : i = j
  · subst h; simp [hi]
  · have h2 : ¬ j = i := fun z => h z.symm
    simp [h, h2]
theorem q_getD_lt {α : Type} {l : List (Option α)} {i : Nat} {x : α} (h : l.getD i none = some x) : i < l.length := by
  rcases Nat.lt_or_ge i l.length with q | q
  · exact q
  · rw [List.getD_eq_getElem?_getD, List.getElem?_eq_none q] at h; cases h
theorem q_kill_len (lo : qL) (i : Nat) : (q_kill lo i).length = lo.length := by
  cases i with
  | zero => rfl
  | succ j =>
    simp only [q_kill]
    cases lo.getD j none with
    | none => rfl
    | some v =>
      dsimp only
      split
      · simp
      · rfl
theorem q_kill_get {lo : qL} {i j : Nat} {u : Value} (h : (q_kill lo i).getD j none = some u) : lo.getD j none = some u ∧ ¬ (j + 1 = i ∧ u.category = 2) := by
  cases i with
  | zero => exact ⟨h, fun z => by omega⟩
  | succ k =>
    simp only [q_kill] at h
    cases hk : lo.getD k none with
    | none =>
      rw [hk] at h
      refine ⟨h, fun z => ?_⟩
      have : j = k := by omega
      subst this
      rw [hk] at h; cases h
    | some v =>
      rw [hk] at h
      dsimp only at h
      by_cases hv : v.category = 2
      · rw [if_pos hv, q_getD_set _ _ _ _ (q_getD_lt hk)] at h
        by_cases hj : j = k
        · rw [if_pos hj] at h; cases h
        · rw [if_neg hj] at h
          exact ⟨h, fun z => hj (by omega)⟩
      · rw [if_neg hv] at h
        refine ⟨h, fun z => ?_⟩
        have : j = k := by omega
        subst this
        rw [hk] at h
        cases h
        exact hv z.2
theorem q_st1_len (lo : qL) (i : Nat) (v : Value) : (q_st1 lo i v).length = lo.length := by simp [q_st1, q_kill_len]
theorem q_st2_len (lo : qL) (i : Nat) (v : Value) : (q_st2 lo i v).length = lo.length := by simp [q_st2, q_kill_len]
def q_lv (lo : qL) : List (Nat × Value) := (List.range lo.length).filterMap (fun i => (lo.getD i none).map (fun v => (i, v)))
theorem q_lv_mem {lo : qL} {i : Nat} {v : Value} : (i, v) ∈ q_lv lo ↔ lo.getD i none = some v := by
  unfold q_lv
  rw [List.mem_filterMap]
  constructor
  · rintro ⟨j, -, hj⟩
    cases h : lo.getD j none with
    | none => rw [h] at hj; cases hj
    | some u =>
      rw [h] at hj
      cases hj
      exact h
  · intro h
    exact ⟨i, List.mem_range.mpr (q_getD_lt h), by rw [h]; rfl⟩
def q_rel (lo : qL) (ls : Array Slot) : Prop := ls.size = lo.length ∧ lv_wf ls ∧ ∀ (i : Nat) (v : Value), lo.getD i none = some v → ls[i]? = some (.val v)
theorem q_rel.has {lo : qL} {ls : Array Slot} (h : q_rel lo ls) : lv_has ls lo.length (q_lv lo) := ⟨h.1, h.2.1, fun q hq => h.2.2 q.1 q.2 (q_lv_mem.mp hq)⟩
theorem q_rel.st1 {lo : qL} {ls' : Array Slot} {i : Nat} {v : Value} (hi : i < lo.length) (h : lv_has ls' lo.length ((i, v) :: (q_lv lo).filter (fun q => !(q.1 == i) && !(q.1 + 1 == i && q.2.category == 2)))) : q_rel (q_st1 lo i v) ls' := by
  refine ⟨by rw [q_st1_len]; exact h.1, h.2.1, fun j u hj => ?_⟩
  unfold q_st1 at hj
  rw [q_getD_set _ _ _ _ (by rw [q_kill_len]; exact hi)] at hj
  by_cases e : j = i
  · rw [if_pos e] at hj
    cases hj
    subst e
    exact h.2.2 (j, v) List.mem_cons_self
  · rw [if_neg e] at hj
    obtain ⟨h1, h2⟩ := q_kill_get hj
    refine h.2.2 (j, u) (List.mem_cons_of_mem _ (List.mem_filter.mpr ⟨q_lv_mem.mpr h1, ?_⟩))
    simp only [Bool.and_eq_true, Bool.not_eq_true', beq_eq_false_iff_ne, ne_eq, Bool.and_eq_false_iff]
    refine ⟨e, ?_⟩
    by_cases e1 : j + 1 = i
    · exact Or.inr (fun z => h2 ⟨e1, z⟩)
    · exact Or.inl e1
theorem q_rel.st2 {lo : qL} {ls' : Array Slot} {i : Nat} {v : Value} (hi : i + 1 < lo.length) (h : lv_has ls' lo.length ((i, v) :: (q_lv lo).filter (fun q => !(q.1 == i) && (!(q.1 == i + 1) && !(q.1 + 1 == i && q.2.category == 2))))) : q_rel (q_st2 lo i v) ls' := by
  refine ⟨by rw [q_st2_len]; exact h.1, h.2.1, fun j u hj => ?_⟩
  unfold q_st2 at hj
  rw [q_getD_set _ _ _ _ (by rw [List.length_set, q_kill_len]; exact hi)] at hj
  by_cases e0 : j = i + 1
  · rw [if_pos e0] at hj; cases hj
  · rw [if_neg e0, q_getD_set _ _ _ _ (by rw [q_kill_len]; omega)] at hj
    by_cases e : j = i
    · rw [if_pos e] at hj
      cases hj
      subst e
      exact h.2.2 (j, v) List.mem_cons_self
    · rw [if_neg e] at hj
      obtain ⟨h1, h2⟩ := q_kill_get hj
      refine h.2.2 (j, u) (List.mem_cons_of_mem _ (List.mem_filter.mpr ⟨q_lv_mem.mpr h1, ?_⟩))
      simp only [Bool.and_eq_true, Bool.not_eq_true', beq_eq_false_iff_ne, ne_eq, Bool.and_eq_false_iff]
      refine ⟨e, e0, ?_⟩
      by_cases e1 : j + 1 = i
      · exact Or.inr (fun z => h2 ⟨e1, z⟩)
      · exact Or.inl e1
theorem q_args_len (as : List Value) : (q_args as).length = (lg_sl as).length := by
  induction as with
  | nil => rfl
  | cons v vs ih =>
    have e : lg_sl (v :: vs) = (if v.category = 2 then [Slot.val v, .second] else [.val v]) ++ lg_sl vs := by simp [lg_sl]
    rw [e]
    unfold q_args
    split <;> simp [ih] <;> omega
theorem q_args_at : ∀ (as : List Value) (k i : Nat) (v : Value), (q_args as).getD i none = some v → (k + i, v) ∈ lv_args k as := by
  intro as
  induction as with
  | nil => intro k i v h; simp [q_args] at h
  | cons u us ih =>
    intro k i v h
    unfold q_args at h
    unfold lv_args
    by_cases hc : u.category = 2
    · rw [if_pos hc] at h ⊢
      match i, h with
      | 0, h => simp at h; subst h; simp
      | 1, h => simp at h
      | i + 2, h =>
        have := ih (k + 2) i v (by simpa using h)
        rw [show k + (i + 2) = k + 2 + i by omega]
        exact List.mem_cons_of_mem _ this
    · rw [if_neg hc] at h ⊢
      match i, h with
      | 0, h => simp at h; subst h; simp
      | i + 1, h =>
        have := ih (k + 1) i v (by simpa using h)
        rw [show k + (i + 1) = k + 1 + i by omega]
        exact List.mem_cons_of_mem _ this
theorem q_entry_len {n : Nat} {as : List Value} (h : (q_args as).length ≤ n) : (q_entry n as).length = n := by
  unfold q_entry; rw [List.length_append, List.length_replicate]; omega
theorem q_rel_entry {n : Nat} {as : List Value} (h : (q_args as).length ≤ n) : q_rel (q_entry n as) ((lg_sl as ++ List.replicate (n - (lg_sl as).length) Slot.unset).toArray) := by
  have hl := lv_entry as (n := n) (by rw [← q_args_len]; exact h)
  refine ⟨by rw [q_entry_len h]; exact hl.1, hl.2.1, fun i v hi => ?_⟩
  have h2 : (q_args as).getD i none = some v := by
    unfold q_entry at hi
    rw [List.getD_eq_getElem?_getD] at hi ⊢
    by_cases hlt : i < (q_args as).length
    · rw [List.getElem?_append_left hlt] at hi; exact hi
    · rw [List.getElem?_append_right (by omega)] at hi
      rw [List.getElem?_replicate] at hi
      split at hi <;> cases hi
  have := q_args_at as 0 i v h2
  rw [Nat.zero_add] at this
  exact hl.2.2 (i, v) this
def q_conv (ac : Nat → ClassId) : qE → va_E
  | .inl (k, x) => .inl (ac k, x)
  | .inr o => .inr o
def q_hold (D : va_G) (cl : List vw_C) (ac : Nat → ClassId) (B0 : Nat) (σ : qH) (H : Heap) : Prop :=
  H.size = σ.2.1 ∧ ∀ (a : Nat) (e : qE), σ.1 a = some e → B0 ≤ a ∧ va_at D cl (a, q_conv ac e) H
def q_tys (ac : Nat → ClassId) : List (ClassId × FieldType) := [(ac 0, .int), (ac 1, .char), (ac 2, .long), (ac 3, .boolean)]
def q_Cx (p : Program) (s : State) (m : MethodId) (args : Array Value) (c : Code) (D : va_G) (cl : List vw_C) (ac : Nat → ClassId) (B0 : Nat) (own : String) (cc : ByteArray) (nL : Nat) (Ts Ns : List Cond) : Prop :=
  p.tables.exec = Jvm.exec ∧ c.code = cc ∧ c.maxLocals = nL ∧ s.vm.findClass own = some m.cls ∧ (∀ w ∈ Ts, w.before args s = true) ∧ (∀ w ∈ Ns, va_Nw w s) ∧ va_K D cl (q_tys ac) s ∧ B0 ≤ s.heap.size
theorem q_P1 {D : va_G} {cl : List vw_C} {q : Nat × va_E} {H : Heap} (h : va_at D cl q H) : va_P D cl [q] H := by
  intro k x hk
  cases k with
  | zero => cases hk; exact h
  | succ k => cases hk
theorem q_hold.put {D : va_G} {cl : List vw_C} {ac : Nat → ClassId} {B0 : Nat} {σ : qH} {H H1 : Heap} {a : Nat} {e : qE} (h : q_hold D cl ac B0 σ H) (z : H1.size = H.size) (oq : ∀ q : Nat, q ≠ a → H1[q]? = H[q]?) (hB : B0 ≤ a) (he : va_at D cl (a, q_conv ac e) H1) : q_hold D cl ac B0 (q_up σ.1 a e, σ.2) H1 := by
  refine ⟨z.trans h.1, fun b x hx => ?_⟩
  unfold q_up at hx
  dsimp only at hx
  by_cases hb : b = a
  · rw [if_pos hb] at hx
    cases hx
    subst hb
    exact ⟨hB, he⟩
  · rw [if_neg hb] at hx
    obtain ⟨h1, h2⟩ := h.2 b x hx
    exact ⟨h1, h2.kept (oq b hb)⟩
theorem q_hold.new {D : va_G} {cl : List vw_C} {ac : Nat → ClassId} {B0 : Nat} {σ : qH} {H H1 : Heap} {e : qE} {k w : Nat} (h : q_hold D cl ac B0 σ H) (z : H1.size = H.size + 1) (oq : ∀ q : Nat, q < H.size → H1[q]? = H[q]?) (hB : B0 ≤ H.size) (he : va_at D cl (H.size, q_conv ac e) H1) : q_hold D cl ac B0 (q_up σ.1 σ.2.1 e, σ.2.1 + 1, k, w) H1 := by
  refine ⟨by rw [z, h.1], fun b x hx => ?_⟩
  unfold q_up at hx
  dsimp only at hx
  by_cases hb : b = σ.2.1
  · rw [if_pos hb] at hx
    cases hx
    rw [hb, ← h.1]
    exact ⟨hB, he⟩
  · rw [if_neg hb] at hx
    obtain ⟨h1, h2⟩ := h.2 b x hx
    exact ⟨h1, h2.kept (oq b h2.lt)⟩
