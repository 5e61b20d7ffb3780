/-! THE SMALL MACHINE IS TRUE, 2: a step -/
/-- the goal at a state of the small machine -/
def q_G (p : Program) (l : Launch) (e : Env) (R : Room) (s : State) (m : MethodId) (args : Array Value) (below : List Frame) (meth : Method) (c : Code) (D : va_G) (cl : List vw_C) (ac : Nat → ClassId) (B0 nL k0 w0 : Nat) (Q : State → Prop) (x : qS) : Prop :=
  ∀ (H : Heap) (locs : List Loc) (ls : Array Slot), q_rel x.2.1 ls → x.2.1.length = nL → q_hold D cl ac B0 x.2.2.2 H → va_S (fun q : Nat => B0 ≤ q) s.heap H locs → k0 ≤ x.2.2.2.2.2.1 → w0 ≤ x.2.2.2.2.2.2 →
    W p l e R s m args below meth c H locs (x.2.2.2.2.2.1 - k0) (x.2.2.2.2.2.2 - w0) Q (F0 m x.1 ls x.2.2.1)
/-- what is known of a field's number in a pool -/
def q_fok (cl : List vw_C) (Ts Ns : List Cond) (own : String) (idx : Nat) (f : Nat × Nat × FieldType × Nat) : Prop :=
  ∃ (C : String) (T : u_T) (N : Nat) (ty0 : Nat → FieldType), cl[f.1]? = some (C, T, N) ∧ f.2.1 < N ∧ (∀ w ∈ u_ws C T N, w ∈ Ts) ∧ (∀ k, k < N → parseFieldDescriptor (T k).2.2.1 = some (ty0 k)) ∧ (∀ a, a < N → ∀ b, b < N → a ≠ b → (T a).2.1 ≠ (T b).2.1) ∧ parseFieldDescriptor (T f.2.1).2.2.1 = some f.2.2.1 ∧
    (f.2.2.2 = 0 → (T f.2.1).2.2.2 = false) ∧ (f.2.2.2 = 1 → (T f.2.1).2.2.2 = true ∧ (T f.2.1).1 = own ∧ Cond.fieldLink own idx (T f.2.1).1 (T f.2.1).2.1 (T f.2.1).2.2.1 ∈ Ts) ∧
    (Cond.fieldLink own idx (T f.2.1).1 (T f.2.1).2.1 (T f.2.1).2.2.1 ∈ Ts ∨ ∃ host : String, Cond.fieldLinkNest own idx (T f.2.1).1 (T f.2.1).2.1 (T f.2.1).2.2.1 host ∈ Ns)
/-- of a class's number, at 'new' -/
def q_nok (cl : List vw_C) (Ts : List Cond) (own : String) (idx : Nat) (n : Nat × List Value) : Prop :=
  ∃ (C : String) (T : u_T) (N : Nat) (ty0 : Nat → FieldType), cl[n.1]? = some (C, T, N) ∧ n.2.length = N ∧ (∀ w ∈ u_ws C T N, w ∈ Ts) ∧ (∀ k, k < N → parseFieldDescriptor (T k).2.2.1 = some (ty0 k)) ∧ (∀ j, j < N → defaultValue (ty0 j) = vp_V n.2 j) ∧
    Cond.classLink own idx C ∈ Ts ∧ Cond.instantiable C N ∈ Ts ∧ Cond.initialized C ∈ Ts
section QS
variable {p : Program} {l : Launch} {e : Env} {R : Room} {s : State} {m : MethodId} {args : Array Value} {below : List Frame} {meth : Method} {c : Code} {D : va_G} {cl : List vw_C} {ac : Nat → ClassId} {B0 nL k0 w0 : Nat} {Q : State → Prop} {own : String} {cc : ByteArray} {Ts Ns : List Cond} {pc : Nat} {lo : qL} {st : List Value} {σ : qH} {x' : qS}
theorem q_ok_push {v : Value} {n : Nat} (hk : ∀ (H : Heap) (locs : List Loc) (ls : Array Slot) (k w : Nat), W p l e R s m args below meth c H locs k w Q (F0 m (pc + n) ls (v :: st)) → W p l e R s m args below meth c H locs k w Q (F0 m pc ls st))
    (h : q_push v n pc lo st σ = some (.inl x')) (kk : q_G p l e R s m args below meth c D cl ac B0 nL k0 w0 Q x') : q_G p l e R s m args below meth c D cl ac B0 nL k0 w0 Q (pc, lo, st, σ) := by
  cases h
  exact fun H locs ls h1 h2 h3 h4 h5 h6 => hk _ _ _ _ _ (kk H locs ls h1 h2 h3 h4 h5 h6)
theorem q_ok_iload {i n : Nat} (hk : ∀ (x : Int32) (H : Heap) (locs : List Loc) (ls : Array Slot) (k w : Nat), ls[i]? = some (.val (.int x)) → W p l e R s m args below meth c H locs k w Q (F0 m (pc + n) ls (.int x :: st)) → W p l e R s m args below meth c H locs k w Q (F0 m pc ls st))
    (h : q_iload i n pc lo st σ = some (.inl x')) (kk : q_G p l e R s m args below meth c D cl ac B0 nL k0 w0 Q x') : q_G p l e R s m args below meth c D cl ac B0 nL k0 w0 Q (pc, lo, st, σ) := by
  unfold q_iload at h
  split at h
  · rename_i x hx
    cases h
    exact fun H locs ls h1 h2 h3 h4 h5 h6 => hk x _ _ _ _ _ (h1.2.2 i _ hx) (kk H locs ls h1 h2 h3 h4 h5 h6)
  · cases h
theorem q_ok_lload {i n : Nat} (hk : ∀ (x : Int64) (H : Heap) (locs : List Loc) (ls : Array Slot) (k w : Nat), ls[i]? = some (.val (.long x)) → W p l e R s m args below meth c H locs k w Q (F0 m (pc + n) ls (.long x :: st)) → W p l e R s m args below meth c H locs k w Q (F0 m pc ls st))
    (h : q_lload i n pc lo st σ = some (.inl x')) (kk : q_G p l e R s m args below meth c D cl ac B0 nL k0 w0 Q x') : q_G p l e R s m args below meth c D cl ac B0 nL k0 w0 Q (pc, lo, st, σ) := by
  unfold q_lload at h
  split at h
  · rename_i x hx
    cases h
    exact fun H locs ls h1 h2 h3 h4 h5 h6 => hk x _ _ _ _ _ (h1.2.2 i _ hx) (kk H locs ls h1 h2 h3 h4 h5 h6)
  · cases h
theorem q_ok_aload {i n : Nat} (hk : ∀ (x : Nat) (H : Heap) (locs : List Loc) (ls : Array Slot) (k w : Nat), ls[i]? = some (.val (.ref x)) → W p l e R s m args below meth c H locs k w Q (F0 m (pc + n) ls (.ref x :: st)) → W p l e R s m args below meth c H locs k w Q (F0 m pc ls st))
    (hN : ∀ (H : Heap) (locs : List Loc) (ls : Array Slot) (k w : Nat), ls[i]? = some (.val .null) → W p l e R s m args below meth c H locs k w Q (F0 m (pc + n) ls (.null :: st)) → W p l e R s m args below meth c H locs k w Q (F0 m pc ls st))
    (h : q_aload i n pc lo st σ = some (.inl x')) (kk : q_G p l e R s m args below meth c D cl ac B0 nL k0 w0 Q x') : q_G p l e R s m args below meth c D cl ac B0 nL k0 w0 Q (pc, lo, st, σ) := by
  unfold q_aload at h
  split at h
  · rename_i x hx
    cases h
    exact fun H locs ls h1 h2 h3 h4 h5 h6 => hk x _ _ _ _ _ (h1.2.2 i _ hx) (kk H locs ls h1 h2 h3 h4 h5 h6)
  · rename_i hx
    cases h
    exact fun H locs ls h1 h2 h3 h4 h5 h6 => hN _ _ _ _ _ (h1.2.2 i _ hx) (kk H locs ls h1 h2 h3 h4 h5 h6)
  · cases h
theorem q_ok_istore {i n : Nat} (hk : ∀ (x : Int32) (r : List Value) (H : Heap) (locs : List Loc) (ls : Array Slot) (k w : Nat) (lv : List (Nat × Value)), lv_has ls nL lv → i < nL → (∀ ls' : Array Slot, lv_has ls' nL ((i, Value.int x) :: lv.filter (fun q => !(q.1 == i) && !(q.1 + 1 == i && q.2.category == 2))) → W p l e R s m args below meth c H locs k w Q (F0 m (pc + n) ls' r)) → W p l e R s m args below meth c H locs k w Q (F0 m pc ls (.int x :: r)))
    (h : q_istore i n pc lo st σ = some (.inl x')) (kk : q_G p l e R s m args below meth c D cl ac B0 nL k0 w0 Q x') : q_G p l e R s m args below meth c D cl ac B0 nL k0 w0 Q (pc, lo, st, σ) := by
  unfold q_istore at h
  split at h
  · rename_i x r
    split at h
    · rename_i hi
      cases h
      intro H locs ls h1 h2 h3 h4 h5 h6
      dsimp only at h1 h2
      subst h2
      exact hk x r _ _ _ _ _ (q_lv lo) h1.has hi fun ls' hl => kk H locs ls' (q_rel.st1 hi hl) (q_st1_len _ _ _) h3 h4 h5 h6
    · cases h
  · cases h
theorem q_ok_lstore {i n : Nat} (hk : ∀ (x : Int64) (r : List Value) (H : Heap) (locs : List Loc) (ls : Array Slot) (k w : Nat) (lv : List (Nat × Value)), lv_has ls nL lv → i + 1 < nL → (∀ ls' : Array Slot, lv_has ls' nL ((i, Value.long x) :: lv.filter (fun q => !(q.1 == i) && (!(q.1 == i + 1) && !(q.1 + 1 == i && q.2.category == 2)))) → W p l e R s m args below meth c H locs k w Q (F0 m (pc + n) ls' r)) → W p l e R s m args below meth c H locs k w Q (F0 m pc ls (.long x :: r)))
    (h : q_lstore i n pc lo st σ = some (.inl x')) (kk : q_G p l e R s m args below meth c D cl ac B0 nL k0 w0 Q x') : q_G p l e R s m args below meth c D cl ac B0 nL k0 w0 Q (pc, lo, st, σ) := by
  unfold q_lstore at h
  split at h
  · rename_i x r
    split at h
    · rename_i hi
      cases h
      intro H locs ls h1 h2 h3 h4 h5 h6
      dsimp only at h1 h2
      subst h2
      exact hk x r _ _ _ _ _ (q_lv lo) h1.has hi fun ls' hl => kk H locs ls' (q_rel.st2 hi hl) (q_st2_len _ _ _) h3 h4 h5 h6
    · cases h
  · cases h
theorem q_ok_astore {i n : Nat} (hk : ∀ (x : Nat) (r : List Value) (H : Heap) (locs : List Loc) (ls : Array Slot) (k w : Nat) (lv : List (Nat × Value)), lv_has ls nL lv → i < nL → (∀ ls' : Array Slot, lv_has ls' nL ((i, Value.ref x) :: lv.filter (fun q => !(q.1 == i) && !(q.1 + 1 == i && q.2.category == 2))) → W p l e R s m args below meth c H locs k w Q (F0 m (pc + n) ls' r)) → W p l e R s m args below meth c H locs k w Q (F0 m pc ls (.ref x :: r)))
    (hN : ∀ (r : List Value) (H : Heap) (locs : List Loc) (ls : Array Slot) (k w : Nat) (lv : List (Nat × Value)), lv_has ls nL lv → i < nL → (∀ ls' : Array Slot, lv_has ls' nL ((i, Value.null) :: lv.filter (fun q => !(q.1 == i) && !(q.1 + 1 == i && q.2.category == 2))) → W p l e R s m args below meth c H locs k w Q (F0 m (pc + n) ls' r)) → W p l e R s m args below meth c H locs k w Q (F0 m pc ls (.null :: r)))
    (h : q_astore i n pc lo st σ = some (.inl x')) (kk : q_G p l e R s m args below meth c D cl ac B0 nL k0 w0 Q x') : q_G p l e R s m args below meth c D cl ac B0 nL k0 w0 Q (pc, lo, st, σ) := by
  unfold q_astore at h
  split at h
  · rename_i x r
    split at h
    · rename_i hi
      cases h
      intro H locs ls h1 h2 h3 h4 h5 h6
      dsimp only at h1 h2
      subst h2
      exact hk x r _ _ _ _ _ (q_lv lo) h1.has hi fun ls' hl => kk H locs ls' (q_rel.st1 hi hl) (q_st1_len _ _ _) h3 h4 h5 h6
    · cases h
  · rename_i r
    split at h
    · rename_i hi
      cases h
      intro H locs ls h1 h2 h3 h4 h5 h6
      dsimp only at h1 h2
      subst h2
      exact hN r _ _ _ _ _ (q_lv lo) h1.has hi fun ls' hl => kk H locs ls' (q_rel.st1 hi hl) (q_st1_len _ _ _) h3 h4 h5 h6
    · cases h
  · cases h
theorem q_ok_iinc {i : Nat} {k : Int} (hx : p.tables.exec = Jvm.exec) (hb : c.code = cc) (hd : decode cc pc = .ok (.iinc i k, 3))
    (h : q_iinc i k 3 pc lo st σ = some (.inl x')) (kk : q_G p l e R s m args below meth c D cl ac B0 nL k0 w0 Q x') : q_G p l e R s m args below meth c D cl ac B0 nL k0 w0 Q (pc, lo, st, σ) := by
  unfold q_iinc at h
  split at h
  · rename_i x hx0
    split at h
    · rename_i hi
      cases h
      intro H locs ls h1 h2 h3 h4 h5 h6
      dsimp only at h1 h2
      subst h2
      obtain ⟨j, hj⟩ := List.getElem?_of_mem (q_lv_mem.mpr hx0)
      exact lv_iinc hx hb hd h1.has hj rfl hi rfl fun ls' hl => kk H locs ls' (q_rel.st1 hi hl) (q_st1_len _ _ _) h3 h4 h5 h6
    · cases h
  · cases h
theorem q_ok_i1 {f : Int32 → Value} (hk : ∀ (x : Int32) (r : List Value) (H : Heap) (locs : List Loc) (ls : Array Slot) (k w : Nat), W p l e R s m args below meth c H locs k w Q (F0 m (pc + 1) ls (f x :: r)) → W p l e R s m args below meth c H locs k w Q (F0 m pc ls (.int x :: r)))
    (h : q_i1 f pc lo st σ = some (.inl x')) (kk : q_G p l e R s m args below meth c D cl ac B0 nL k0 w0 Q x') : q_G p l e R s m args below meth c D cl ac B0 nL k0 w0 Q (pc, lo, st, σ) := by
  unfold q_i1 at h
  split at h
  · cases h
    exact fun H locs ls h1 h2 h3 h4 h5 h6 => hk _ _ _ _ _ _ _ (kk H locs ls h1 h2 h3 h4 h5 h6)
  · cases h
theorem q_ok_l1 {f : Int64 → Value} (hk : ∀ (x : Int64) (r : List Value) (H : Heap) (locs : List Loc) (ls : Array Slot) (k w : Nat), W p l e R s m args below meth c H locs k w Q (F0 m (pc + 1) ls (f x :: r)) → W p l e R s m args below meth c H locs k w Q (F0 m pc ls (.long x :: r)))
    (h : q_l1 f pc lo st σ = some (.inl x')) (kk : q_G p l e R s m args below meth c D cl ac B0 nL k0 w0 Q x') : q_G p l e R s m args below meth c D cl ac B0 nL k0 w0 Q (pc, lo, st, σ) := by
  unfold q_l1 at h
  split at h
  · cases h
    exact fun H locs ls h1 h2 h3 h4 h5 h6 => hk _ _ _ _ _ _ _ (kk H locs ls h1 h2 h3 h4 h5 h6)
  · cases h
theorem q_ok_i2 {f : Int32 → Int32 → Int32} (hk : ∀ (x y : Int32) (r : List Value) (H : Heap) (locs : List Loc) (ls : Array Slot) (k w : Nat), W p l e R s m args below meth c H locs k w Q (F0 m (pc + 1) ls (.int (f x y) :: r)) → W p l e R s m args below meth c H locs k w Q (F0 m pc ls (.int y :: .int x :: r)))
    (h : q_i2 f pc lo st σ = some (.inl x')) (kk : q_G p l e R s m args below meth c D cl ac B0 nL k0 w0 Q x') : q_G p l e R s m args below meth c D cl ac B0 nL k0 w0 Q (pc, lo, st, σ) := by
  unfold q_i2 at h
  split at h
  · cases h
    exact fun H locs ls h1 h2 h3 h4 h5 h6 => hk _ _ _ _ _ _ _ _ (kk H locs ls h1 h2 h3 h4 h5 h6)
  · cases h
theorem q_ok_d2 {f : Int32 → Int32 → Int32} (hk : ∀ (x y : Int32) (r : List Value) (H : Heap) (locs : List Loc) (ls : Array Slot) (k w : Nat), ¬ y = 0 → W p l e R s m args below meth c H locs k w Q (F0 m (pc + 1) ls (.int (f x y) :: r)) → W p l e R s m args below meth c H locs k w Q (F0 m pc ls (.int y :: .int x :: r)))
    (h : q_d2 f pc lo st σ = some (.inl x')) (kk : q_G p l e R s m args below meth c D cl ac B0 nL k0 w0 Q x') : q_G p l e R s m args below meth c D cl ac B0 nL k0 w0 Q (pc, lo, st, σ) := by
  unfold q_d2 at h
  split at h
  · split at h
    · cases h
    · rename_i hy
      cases h
      exact fun H locs ls h1 h2 h3 h4 h5 h6 => hk _ _ _ _ _ _ _ _ hy (kk H locs ls h1 h2 h3 h4 h5 h6)
  · cases h
theorem q_ok_l2 {f : Int64 → Int64 → Value} (hk : ∀ (x y : Int64) (r : List Value) (H : Heap) (locs : List Loc) (ls : Array Slot) (k w : Nat), W p l e R s m args below meth c H locs k w Q (F0 m (pc + 1) ls (f x y :: r)) → W p l e R s m args below meth c H locs k w Q (F0 m pc ls (.long y :: .long x :: r)))
    (h : q_l2 f pc lo st σ = some (.inl x')) (kk : q_G p l e R s m args below meth c D cl ac B0 nL k0 w0 Q x') : q_G p l e R s m args below meth c D cl ac B0 nL k0 w0 Q (pc, lo, st, σ) := by
  unfold q_l2 at h
  split at h
  · cases h
    exact fun H locs ls h1 h2 h3 h4 h5 h6 => hk _ _ _ _ _ _ _ _ (kk H locs ls h1 h2 h3 h4 h5 h6)
  · cases h
theorem q_ok_ls {f : Int64 → Int32 → Int64} (hk : ∀ (x : Int64) (y : Int32) (r : List Value) (H : Heap) (locs : List Loc) (ls : Array Slot) (k w : Nat), W p l e R s m args below meth c H locs k w Q (F0 m (pc + 1) ls (.long (f x y) :: r)) → W p l e R s m args below meth c H locs k w Q (F0 m pc ls (.int y :: .long x :: r)))
    (h : q_ls f pc lo st σ = some (.inl x')) (kk : q_G p l e R s m args below meth c D cl ac B0 nL k0 w0 Q x') : q_G p l e R s m args below meth c D cl ac B0 nL k0 w0 Q (pc, lo, st, σ) := by
  unfold q_ls at h
  split at h
  · cases h
    exact fun H locs ls h1 h2 h3 h4 h5 h6 => hk _ _ _ _ _ _ _ _ (kk H locs ls h1 h2 h3 h4 h5 h6)
  · cases h
theorem q_ok_br {P : Prop} [Decidable P] {off : Int} {r : List Value} (hk : ∀ (H : Heap) (locs : List Loc) (ls : Array Slot) (k w : Nat) (tgt : Nat), (pc : Int) + off = (tgt : Int) → (P → W p l e R s m args below meth c H locs k w Q (F0 m tgt ls r)) → (¬ P → W p l e R s m args below meth c H locs k w Q (F0 m (pc + 3) ls r)) → W p l e R s m args below meth c H locs k w Q (F0 m pc ls st))
    (h : q_br P pc off lo r σ = some (.inl x')) (kk : q_G p l e R s m args below meth c D cl ac B0 nL k0 w0 Q x') : q_G p l e R s m args below meth c D cl ac B0 nL k0 w0 Q (pc, lo, st, σ) := by
  unfold q_br at h
  split at h
  · rename_i ht
    cases h
    intro H locs ls h1 h2 h3 h4 h5 h6
    refine hk H locs ls _ _ _ ht (fun hP => ?_) (fun hP => ?_)
    · have := kk H locs ls h1 h2 h3 h4 h5 h6
      simp only [if_pos hP] at this
      exact this
    · have := kk H locs ls h1 h2 h3 h4 h5 h6
      simp only [if_neg hP] at this
      exact this
  · cases h
end QS
