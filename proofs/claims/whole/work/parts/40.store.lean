/-! THE STORE: numbers, rows, longs, small numbers, and the rest of the heap; programs over it; rows that walk the small machine and such a program together -/
abbrev qT : Type := (Nat → Int32) × (Nat → Nat → Int32) × (Nat → Int64) × (Nat → Nat) × qH
abbrev qW (β : Type) : Type := qT → Option (β × qT)
def sU (T : qT) (f : Nat) (v : Int32) : qT := (upd T.1 f v, T.2)
def aU (T : qT) (f : Nat) (g : Nat → Int32) : qT := (T.1, va_up T.2.1 f g, T.2.2)
def lU (T : qT) (g : Nat → Int64) : qT := (T.1, T.2.1, g, T.2.2.2)
def nU (T : qT) (f v : Nat) : qT := (T.1, T.2.1, T.2.2.1, va_up T.2.2.2.1 f v, T.2.2.2.2)
def w_S {β : Type} (f : Nat) (K : Int32 → qW β) : qW β := fun T => K (T.1 f) T
def w_s {β : Type} (f : Nat) (v : Int32) (K : qW β) : qW β := fun T => K (sU T f v)
def w_z {β : Type} (f : Nat) (v : Int32) (K : qW β) : qW β := fun T => if narrow .boolean (.int v) = .int v ∧ fits .boolean (.int v) = true then K (sU T f v) else none
def w_A {β : Type} (f n : Nat) (i : Int32) (K : Int32 → qW β) : qW β := fun T => if i < 0 ∨ n ≤ i.toNatClampNeg then none else K (T.2.1 f i.toNatClampNeg) T
def w_a {β : Type} (f n : Nat) (i v : Int32) (K : qW β) : qW β := fun T => if i < 0 ∨ n ≤ i.toNatClampNeg then none else K (aU T f (upd (T.2.1 f) i.toNatClampNeg v))
def w_L {β : Type} (n : Nat) (i : Int32) (K : Int64 → qW β) : qW β := fun T => if i < 0 ∨ n ≤ i.toNatClampNeg then none else K (T.2.2.1 i.toNatClampNeg) T
def w_l {β : Type} (n : Nat) (i : Int32) (v : Int64) (K : qW β) : qW β := fun T => if i < 0 ∨ n ≤ i.toNatClampNeg then none else K (lU T (vp_updL T.2.2.1 i.toNatClampNeg v))
def w_N {β : Type} (f : Nat) (K : Nat → qW β) : qW β := fun T => K (T.2.2.2.1 f) T
def w_n {β : Type} (f v : Nat) (K : qW β) : qW β := fun T => K (nU T f v)
def w_if {β : Type} (c : Prop) [Decidable c] (A B : qW β) : qW β := fun T => if c then A T else B T
def w_nz {β : Type} (y : Int32) (K : qW β) : qW β := fun T => if y = 0 then none else K T
def w_C {α β : Type} (m : qW α) (K : α → qW β) : qW β := fun T => match m T with
  | some (a, T1) => K a T1
  | none => none
def w_no {β : Type} : qW β := fun _ => none
def w_pure {β : Type} (v : β) : qW β := fun T => some (v, T)
def w_ret (t : FieldType) (x : Int32) : qW Int32 := fun T => if narrow t (.int x) = .int x then some (x, T) else none
/-- a place in a method: its head and the values that live there -/
abbrev qJ : Type := Nat × List Value × List (Option Nat)
def w_go {β : Type} (L : Nat) (vs : List Value) (ws : List (Option Nat)) : qW (qJ ⊕ β) := fun T => some (.inl (L, vs, ws), T)
def w_rt {β : Type} (v : β) : qW (qJ ⊕ β) := fun T => some (.inr v, T)
def w_ri (t : FieldType) (x : Int32) : qW (qJ ⊕ Int32) := fun T => if narrow t (.int x) = .int x then some (.inr x, T) else none
def w_run {β : Type} (b : qJ → qW (qJ ⊕ β)) : Nat → qJ → qW β
  | 0, _ => fun _ => none
  | n + 1, x => fun T => match b x T with
    | some (.inl x', T') => w_run b n x' T'
    | some (.inr v, T') => some (v, T')
    | none => none
def w_end {β : Type} (b : qJ → qW (qJ ⊕ β)) (n : Nat) (r : qJ ⊕ β) (T : qT) : Option (β × qT) := match r with
  | .inl x => w_run b n x T
  | .inr v => some (v, T)
theorem w_run_succ {β : Type} {b : qJ → qW (qJ ⊕ β)} {n : Nat} {x : qJ} {T : qT} {o : β × qT} (h : w_run b (n + 1) x T = some o) : ∃ r T1, b x T = some (r, T1) ∧ w_end b n r T1 = some o := by
  simp only [w_run] at h
  split at h
  · rename_i x' T' hb; exact ⟨_, _, hb, h⟩
  · rename_i v T' hb; exact ⟨_, _, hb, h⟩
  · cases h
theorem w_run_up {β : Type} {b : qJ → qW (qJ ⊕ β)} : ∀ (n : Nat) (x : qJ) (T : qT) (o : β × qT), w_run b n x T = some o → ∀ k, w_run b (n + k) x T = some o := by
  intro n
  induction n with
  | zero => intro x T o h; cases h
  | succ n ih =>
    intro x T o h k
    rw [show n + 1 + k = (n + k) + 1 by omega]
    simp only [w_run] at h ⊢
    split at h
    · rename_i x' T' hb; exact ih _ _ _ h k
    · exact h
    · cases h
theorem w_run_det {β : Type} {b : qJ → qW (qJ ⊕ β)} {n k : Nat} {x : qJ} {T : qT} {o o' : β × qT} (h : w_run b n x T = some o) (h' : w_run b k x T = some o') : o = o' := by
  have h1 := w_run_up n x T o h k
  have h2 := w_run_up k x T o' h' n
  rw [Nat.add_comm k n] at h2
  exact Option.some.inj (h1.symm.trans h2)
noncomputable def w_fix {β : Type} (b : qJ → qW (qJ ⊕ β)) (x : qJ) : qW β := fun T => @dite _ (∃ (o : β × qT), ∃ (n : Nat), w_run b n x T = some o) (Classical.propDecidable _) (fun h => some (Classical.choose h)) (fun _ => none)
theorem w_fix_iff {β : Type} {b : qJ → qW (qJ ⊕ β)} {x : qJ} {T : qT} {o : β × qT} : w_fix b x T = some o ↔ ∃ n, w_run b n x T = some o := by
  unfold w_fix
  constructor
  · intro h
    split at h
    · rename_i hx
      cases h
      exact Classical.choose_spec hx
    · cases h
  · intro h
    have hx : ∃ (o : β × qT), ∃ (n : Nat), w_run b n x T = some o := ⟨o, h⟩
    rw [dif_pos hx]
    obtain ⟨n, hn⟩ := Classical.choose_spec hx
    obtain ⟨k, hk⟩ := h
    rw [w_run_det hn hk]
/-- one turn of a loop -/
theorem w_fix_eq {β : Type} (b : qJ → qW (qJ ⊕ β)) (x : qJ) (T : qT) : w_fix b x T = match b x T with
    | some (.inl x', T') => w_fix b x' T'
    | some (.inr v, T') => some (v, T')
    | none => none := by
  apply Option.ext
  intro o
  rw [w_fix_iff]
  constructor
  · rintro ⟨n, hn⟩
    cases n with
    | zero => cases hn
    | succ n =>
      simp only [w_run] at hn
      split at hn
      · rename_i x' T' hb; exact w_fix_iff.mpr ⟨n, hn⟩
      · exact hn
      · cases hn
  · intro h
    split at h
    · rename_i x' T' hb
      obtain ⟨n, hn⟩ := w_fix_iff.mp h
      exact ⟨n + 1, by simp only [w_run, hb]; exact hn⟩
    · rename_i v T' hb
      exact ⟨1, by simp only [w_run, hb]; exact h⟩
    · cases h
/-- where the store's parts lie -/
def q_scl (lay : qT → qH) (a ci k f : Nat) : Prop := ∀ T, ∃ fs : List Value, (lay T).1 a = some (.inr (ci, fs)) ∧ fs[k]? = some (.int (T.1 f)) ∧ k < fs.length ∧ ∀ v : Int32, (q_up (lay T).1 a (.inr (ci, fs.set k (.int v))), (lay T).2) = lay (sU T f v)
def q_arr (lay : qT → qH) (a kd n f : Nat) : Prop := ∀ T, (lay T).1 a = some (.inl (kd, n, .inl (T.2.1 f))) ∧ ∀ g : Nat → Int32, (q_up (lay T).1 a (.inl (kd, n, .inl g)), (lay T).2) = lay (aU T f g)
def q_lng (lay : qT → qH) (a n : Nat) : Prop := ∀ T, (lay T).1 a = some (.inl (2, n, .inr (.inl T.2.2.1))) ∧ ∀ g : Nat → Int64, (q_up (lay T).1 a (.inl (2, n, .inr (.inl g))), (lay T).2) = lay (lU T g)
def q_ref (lay : qT → qH) (a ci k : Nat) (v : Value) : Prop := ∀ T, ∃ fs : List Value, (lay T).1 a = some (.inr (ci, fs)) ∧ fs[k]? = some v
def q_obj (lay : qT → qH) (a ci : Nat) : Prop := ∀ T, ∃ fs : List Value, (lay T).1 a = some (.inr (ci, fs))
section QY
variable {rc : qC} {M : qM} {pc : Nat} {lo : qL} {st : List Value} {lay : qT → qH} {β : Type} {T : qT} {o : β × qT} {X : Option qO} {a ci k f n idx md : Nat}
theorem s_get {ty : FieldType} {K : Int32 → qW β} (hd : decode M.1 pc = .ok (.getfield idx, 3)) (hp : M.2.2.2.2.1 idx = some (ci, k, ty, md)) (hF : q_scl lay a ci k f) (h : w_S f K T = some o) (kk : ∀ x, K x T = some o → q_out rc M (pc + 3, lo, .int x :: st, lay T) = X) : q_out rc M (pc, lo, .ref a :: st, lay T) = X := by
  obtain ⟨fs, h1, h2, -⟩ := hF T
  exact (o_getf hd hp h1 h2).trans (kk _ h)
theorem s_ref {ty : FieldType} {v : Value} (hd : decode M.1 pc = .ok (.getfield idx, 3)) (hp : M.2.2.2.2.1 idx = some (ci, k, ty, md)) (hF : q_ref lay a ci k v) (kk : q_out rc M (pc + 3, lo, v :: st, lay T) = X) : q_out rc M (pc, lo, .ref a :: st, lay T) = X := by
  obtain ⟨fs, h1, h2⟩ := hF T
  exact (o_getf hd hp h1 h2).trans kk
theorem s_put {v : Int32} {K : qW β} (hd : decode M.1 pc = .ok (.putfield idx, 3)) (hp : M.2.2.2.2.1 idx = some (ci, k, .int, 0)) (hF : q_scl lay a ci k f) (h : w_s f v K T = some o) (kk : ∀ T1, K T1 = some o → q_out rc M (pc + 3, lo, st, lay T1) = X) : q_out rc M (pc, lo, .int v :: .ref a :: st, lay T) = X := by
  obtain ⟨fs, h1, h2, h3, h4⟩ := hF T
  refine (o_putf hd hp h1 h3 rfl rfl (Or.inl rfl) rfl).trans ?_
  have := kk _ h
  rw [← h4 v] at this
  exact this
theorem s_putZ {v : Int32} {K : qW β} (hd : decode M.1 pc = .ok (.putfield idx, 3)) (hp : M.2.2.2.2.1 idx = some (ci, k, .boolean, 0)) (hF : q_scl lay a ci k f) (h : w_z f v K T = some o) (kk : ∀ T1, K T1 = some o → q_out rc M (pc + 3, lo, st, lay T1) = X) : q_out rc M (pc, lo, .int v :: .ref a :: st, lay T) = X := by
  obtain ⟨fs, h1, h2, h3, h4⟩ := hF T
  unfold w_z at h
  split at h
  · rename_i hv
    refine (o_putf hd hp h1 h3 hv.1 hv.2 (Or.inl rfl) rfl).trans ?_
    have := kk _ h
    rw [← h4 v] at this
    exact this
  · cases h
theorem s_iald {i : Int32} {K : Int32 → qW β} (hd : decode M.1 pc = .ok (.iaload, 1)) (hF : q_arr lay a 0 n f) (h : w_A f n i K T = some o) (kk : ∀ x, K x T = some o → q_out rc M (pc + 1, lo, .int x :: st, lay T) = X) : q_out rc M (pc, lo, .int i :: .ref a :: st, lay T) = X := by
  unfold w_A at h
  split at h
  · cases h
  · rename_i hi
    exact (o_iaload hd (hF T).1 hi).trans (kk _ h)
theorem s_cald {i : Int32} {K : Int32 → qW β} (hd : decode M.1 pc = .ok (.caload, 1)) (hF : q_arr lay a 1 n f) (h : w_A f n i K T = some o) (kk : ∀ x, K x T = some o → q_out rc M (pc + 1, lo, .int x :: st, lay T) = X) : q_out rc M (pc, lo, .int i :: .ref a :: st, lay T) = X := by
  unfold w_A at h
  split at h
  · cases h
  · rename_i hi
    exact (o_caload hd (hF T).1 hi).trans (kk _ h)
theorem s_zald {i : Int32} {K : Int32 → qW β} (hd : decode M.1 pc = .ok (.baload, 1)) (hF : q_arr lay a 3 n f) (h : w_A f n i K T = some o) (kk : ∀ x, K x T = some o → q_out rc M (pc + 1, lo, .int x :: st, lay T) = X) : q_out rc M (pc, lo, .int i :: .ref a :: st, lay T) = X := by
  unfold w_A at h
  split at h
  · cases h
  · rename_i hi
    exact (o_baload hd (hF T).1 hi).trans (kk _ h)
theorem s_iast {i v : Int32} {K : qW β} (hd : decode M.1 pc = .ok (.iastore, 1)) (hF : q_arr lay a 0 n f) (h : w_a f n i v K T = some o) (kk : ∀ T1, K T1 = some o → q_out rc M (pc + 1, lo, st, lay T1) = X) : q_out rc M (pc, lo, .int v :: .int i :: .ref a :: st, lay T) = X := by
  unfold w_a at h
  split at h
  · cases h
  · rename_i hi
    refine (o_iastore hd (hF T).1 hi rfl).trans ?_
    have := kk _ h
    rw [← (hF T).2] at this
    exact this
theorem s_cast {i v : Int32} {K : qW β} (hd : decode M.1 pc = .ok (.castore, 1)) (hF : q_arr lay a 1 n f) (h : w_a f n i (vp_nar .char v) K T = some o) (kk : ∀ T1, K T1 = some o → q_out rc M (pc + 1, lo, st, lay T1) = X) : q_out rc M (pc, lo, .int v :: .int i :: .ref a :: st, lay T) = X := by
  unfold w_a at h
  split at h
  · cases h
  · rename_i hi
    refine (o_castore hd (hF T).1 hi rfl).trans ?_
    have := kk _ h
    rw [← (hF T).2] at this
    exact this
theorem s_zast {i v : Int32} {K : qW β} (hd : decode M.1 pc = .ok (.bastore, 1)) (hF : q_arr lay a 3 n f) (h : w_a f n i (vp_nar .boolean v) K T = some o) (kk : ∀ T1, K T1 = some o → q_out rc M (pc + 1, lo, st, lay T1) = X) : q_out rc M (pc, lo, .int v :: .int i :: .ref a :: st, lay T) = X := by
  unfold w_a at h
  split at h
  · cases h
  · rename_i hi
    refine (o_bastore hd (hF T).1 hi rfl).trans ?_
    have := kk _ h
    rw [← (hF T).2] at this
    exact this
theorem s_lald {i : Int32} {K : Int64 → qW β} (hd : decode M.1 pc = .ok (.laload, 1)) (hF : q_lng lay a n) (h : w_L n i K T = some o) (kk : ∀ x, K x T = some o → q_out rc M (pc + 1, lo, .long x :: st, lay T) = X) : q_out rc M (pc, lo, .int i :: .ref a :: st, lay T) = X := by
  unfold w_L at h
  split at h
  · cases h
  · rename_i hi
    exact (o_laload hd (hF T).1 hi).trans (kk _ h)
theorem s_last {i : Int32} {v : Int64} {K : qW β} (hd : decode M.1 pc = .ok (.lastore, 1)) (hF : q_lng lay a n) (h : w_l n i v K T = some o) (kk : ∀ T1, K T1 = some o → q_out rc M (pc + 1, lo, st, lay T1) = X) : q_out rc M (pc, lo, .long v :: .int i :: .ref a :: st, lay T) = X := by
  unfold w_l at h
  split at h
  · cases h
  · rename_i hi
    refine (o_lastore hd (hF T).1 hi rfl).trans ?_
    have := kk _ h
    rw [← (hF T).2] at this
    exact this
theorem w_if_t {c : Prop} [Decidable c] {A B : qW β} (h : w_if c A B T = some o) (hc : c) : A T = some o := by unfold w_if at h; rwa [if_pos hc] at h
theorem w_if_f {c : Prop} [Decidable c] {A B : qW β} (h : w_if c A B T = some o) (hc : ¬ c) : B T = some o := by unfold w_if at h; rwa [if_neg hc] at h
theorem w_nz_of {y : Int32} {K : qW β} (h : w_nz y K T = some o) : ¬ y = 0 ∧ K T = some o := by
  unfold w_nz at h
  split at h
  · cases h
  · rename_i hy; exact ⟨hy, h⟩
theorem w_C_of {α : Type} {m : qW α} {K : α → qW β} (h : w_C m K T = some o) : ∃ v T1, m T = some (v, T1) ∧ K v T1 = some o := by
  unfold w_C at h
  split at h
  · rename_i v T1 hm; exact ⟨v, T1, hm, h⟩
  · cases h
theorem s_if_eq {x : Int32} {off : Int} {t : Nat} {A B : qW β} (hd : decode M.1 pc = .ok (.ifCond .eq off, 3)) (ht : (pc : Int) + off = (t : Int)) (h : w_if (x = 0) A B T = some o) (k1 : A T = some o → q_out rc M (t, lo, st, lay T) = X) (k2 : B T = some o → q_out rc M (pc + 3, lo, st, lay T) = X) : q_out rc M (pc, lo, .int x :: st, lay T) = X := by
  by_cases hc : x = 0
  · exact (o_if_eq_t hd ht hc).trans (k1 (w_if_t h hc))
  · exact (o_if_eq_f hd ht hc).trans (k2 (w_if_f h hc))
theorem s_icmp_eq {x y : Int32} {off : Int} {t : Nat} {A B : qW β} (hd : decode M.1 pc = .ok (.if_icmp .eq off, 3)) (ht : (pc : Int) + off = (t : Int)) (h : w_if (x = y) A B T = some o) (k1 : A T = some o → q_out rc M (t, lo, st, lay T) = X) (k2 : B T = some o → q_out rc M (pc + 3, lo, st, lay T) = X) : q_out rc M (pc, lo, .int y :: .int x :: st, lay T) = X := by
  by_cases hc : x = y
  · exact (o_icmp_eq_t hd ht hc).trans (k1 (w_if_t h hc))
  · exact (o_icmp_eq_f hd ht hc).trans (k2 (w_if_f h hc))
theorem s_if_ne {x : Int32} {off : Int} {t : Nat} {A B : qW β} (hd : decode M.1 pc = .ok (.ifCond .ne off, 3)) (ht : (pc : Int) + off = (t : Int)) (h : w_if (¬ x = 0) A B T = some o) (k1 : A T = some o → q_out rc M (t, lo, st, lay T) = X) (k2 : B T = some o → q_out rc M (pc + 3, lo, st, lay T) = X) : q_out rc M (pc, lo, .int x :: st, lay T) = X := by
  by_cases hc : ¬ x = 0
  · exact (o_if_ne_t hd ht hc).trans (k1 (w_if_t h hc))
  · exact (o_if_ne_f hd ht hc).trans (k2 (w_if_f h hc))
theorem s_icmp_ne {x y : Int32} {off : Int} {t : Nat} {A B : qW β} (hd : decode M.1 pc = .ok (.if_icmp .ne off, 3)) (ht : (pc : Int) + off = (t : Int)) (h : w_if (¬ x = y) A B T = some o) (k1 : A T = some o → q_out rc M (t, lo, st, lay T) = X) (k2 : B T = some o → q_out rc M (pc + 3, lo, st, lay T) = X) : q_out rc M (pc, lo, .int y :: .int x :: st, lay T) = X := by
  by_cases hc : ¬ x = y
  · exact (o_icmp_ne_t hd ht hc).trans (k1 (w_if_t h hc))
  · exact (o_icmp_ne_f hd ht hc).trans (k2 (w_if_f h hc))
theorem s_if_lt {x : Int32} {off : Int} {t : Nat} {A B : qW β} (hd : decode M.1 pc = .ok (.ifCond .lt off, 3)) (ht : (pc : Int) + off = (t : Int)) (h : w_if (x < 0) A B T = some o) (k1 : A T = some o → q_out rc M (t, lo, st, lay T) = X) (k2 : B T = some o → q_out rc M (pc + 3, lo, st, lay T) = X) : q_out rc M (pc, lo, .int x :: st, lay T) = X := by
  by_cases hc : x < 0
  · exact (o_if_lt_t hd ht hc).trans (k1 (w_if_t h hc))
  · exact (o_if_lt_f hd ht hc).trans (k2 (w_if_f h hc))
theorem s_icmp_lt {x y : Int32} {off : Int} {t : Nat} {A B : qW β} (hd : decode M.1 pc = .ok (.if_icmp .lt off, 3)) (ht : (pc : Int) + off = (t : Int)) (h : w_if (x < y) A B T = some o) (k1 : A T = some o → q_out rc M (t, lo, st, lay T) = X) (k2 : B T = some o → q_out rc M (pc + 3, lo, st, lay T) = X) : q_out rc M (pc, lo, .int y :: .int x :: st, lay T) = X := by
  by_cases hc : x < y
  · exact (o_icmp_lt_t hd ht hc).trans (k1 (w_if_t h hc))
  · exact (o_icmp_lt_f hd ht hc).trans (k2 (w_if_f h hc))
theorem s_if_ge {x : Int32} {off : Int} {t : Nat} {A B : qW β} (hd : decode M.1 pc = .ok (.ifCond .ge off, 3)) (ht : (pc : Int) + off = (t : Int)) (h : w_if (0 ≤ x) A B T = some o) (k1 : A T = some o → q_out rc M (t, lo, st, lay T) = X) (k2 : B T = some o → q_out rc M (pc + 3, lo, st, lay T) = X) : q_out rc M (pc, lo, .int x :: st, lay T) = X := by
  by_cases hc : 0 ≤ x
  · exact (o_if_ge_t hd ht hc).trans (k1 (w_if_t h hc))
  · exact (o_if_ge_f hd ht hc).trans (k2 (w_if_f h hc))
theorem s_icmp_ge {x y : Int32} {off : Int} {t : Nat} {A B : qW β} (hd : decode M.1 pc = .ok (.if_icmp .ge off, 3)) (ht : (pc : Int) + off = (t : Int)) (h : w_if (y ≤ x) A B T = some o) (k1 : A T = some o → q_out rc M (t, lo, st, lay T) = X) (k2 : B T = some o → q_out rc M (pc + 3, lo, st, lay T) = X) : q_out rc M (pc, lo, .int y :: .int x :: st, lay T) = X := by
  by_cases hc : y ≤ x
  · exact (o_icmp_ge_t hd ht hc).trans (k1 (w_if_t h hc))
  · exact (o_icmp_ge_f hd ht hc).trans (k2 (w_if_f h hc))
theorem s_if_gt {x : Int32} {off : Int} {t : Nat} {A B : qW β} (hd : decode M.1 pc = .ok (.ifCond .gt off, 3)) (ht : (pc : Int) + off = (t : Int)) (h : w_if (0 < x) A B T = some o) (k1 : A T = some o → q_out rc M (t, lo, st, lay T) = X) (k2 : B T = some o → q_out rc M (pc + 3, lo, st, lay T) = X) : q_out rc M (pc, lo, .int x :: st, lay T) = X := by
  by_cases hc : 0 < x
  · exact (o_if_gt_t hd ht hc).trans (k1 (w_if_t h hc))
  · exact (o_if_gt_f hd ht hc).trans (k2 (w_if_f h hc))
theorem s_icmp_gt {x y : Int32} {off : Int} {t : Nat} {A B : qW β} (hd : decode M.1 pc = .ok (.if_icmp .gt off, 3)) (ht : (pc : Int) + off = (t : Int)) (h : w_if (y < x) A B T = some o) (k1 : A T = some o → q_out rc M (t, lo, st, lay T) = X) (k2 : B T = some o → q_out rc M (pc + 3, lo, st, lay T) = X) : q_out rc M (pc, lo, .int y :: .int x :: st, lay T) = X := by
  by_cases hc : y < x
  · exact (o_icmp_gt_t hd ht hc).trans (k1 (w_if_t h hc))
  · exact (o_icmp_gt_f hd ht hc).trans (k2 (w_if_f h hc))
theorem s_if_le {x : Int32} {off : Int} {t : Nat} {A B : qW β} (hd : decode M.1 pc = .ok (.ifCond .le off, 3)) (ht : (pc : Int) + off = (t : Int)) (h : w_if (x ≤ 0) A B T = some o) (k1 : A T = some o → q_out rc M (t, lo, st, lay T) = X) (k2 : B T = some o → q_out rc M (pc + 3, lo, st, lay T) = X) : q_out rc M (pc, lo, .int x :: st, lay T) = X := by
  by_cases hc : x ≤ 0
  · exact (o_if_le_t hd ht hc).trans (k1 (w_if_t h hc))
  · exact (o_if_le_f hd ht hc).trans (k2 (w_if_f h hc))
theorem s_icmp_le {x y : Int32} {off : Int} {t : Nat} {A B : qW β} (hd : decode M.1 pc = .ok (.if_icmp .le off, 3)) (ht : (pc : Int) + off = (t : Int)) (h : w_if (x ≤ y) A B T = some o) (k1 : A T = some o → q_out rc M (t, lo, st, lay T) = X) (k2 : B T = some o → q_out rc M (pc + 3, lo, st, lay T) = X) : q_out rc M (pc, lo, .int y :: .int x :: st, lay T) = X := by
  by_cases hc : x ≤ y
  · exact (o_icmp_le_t hd ht hc).trans (k1 (w_if_t h hc))
  · exact (o_icmp_le_f hd ht hc).trans (k2 (w_if_f h hc))
theorem s_iret {x : Int32} {t : FieldType} {v : Int32} {T1 : qT} (hd : decode M.1 pc = .ok (.ireturn, 1)) (hr : M.2.2.1 = some t) (h : w_ret t x T = some (v, T1)) : q_out rc M (pc, lo, [.int x], lay T) = some (.inl (some (.int v)), lay T1) := by
  unfold w_ret at h
  split at h
  · rename_i hn; cases h; exact o_ireturn hd hr hn
  · cases h
theorem s_vret {v : Unit} {T1 : qT} (hd : decode M.1 pc = .ok (.return_, 1)) (hr : M.2.2.1 = none) (h : w_pure () T = some (v, T1)) : q_out rc M (pc, lo, [], lay T) = some (.inl none, lay T1) := by
  cases h; exact o_return hd hr
theorem s_iretJ {x : Int32} {t : FieldType} {r : qJ ⊕ Int32} {v : Int32} {b : qJ → qW (qJ ⊕ Int32)} {T1 T2 : qT} (hd : decode M.1 pc = .ok (.ireturn, 1)) (hr : M.2.2.1 = some t) (h : w_ri t x T = some (r, T1)) (hE : w_end b n r T1 = some (v, T2)) : q_out rc M (pc, lo, [.int x], lay T) = some (.inl (some (.int v)), lay T2) := by
  unfold w_ri at h
  split at h
  · rename_i hn; cases h; cases hE; exact o_ireturn hd hr hn
  · cases h
theorem s_vretJ {r : qJ ⊕ Unit} {v : Unit} {b : qJ → qW (qJ ⊕ Unit)} {T1 T2 : qT} (hd : decode M.1 pc = .ok (.return_, 1)) (hr : M.2.2.1 = none) (h : w_rt () T = some (r, T1)) (hE : w_end b n r T1 = some (v, T2)) : q_out rc M (pc, lo, [], lay T) = some (.inl none, lay T2) := by
  cases h; cases hE; exact o_return hd hr
end QY
theorem s_jump {β : Type} {b : qJ → qW (qJ ⊕ β)} {n L : Nat} {vs : List Value} {ws : List (Option Nat)} {r : qJ ⊕ β} {T T1 : qT} {o : β × qT} (h : w_go L vs ws T = some (r, T1)) (hE : w_end b n r T1 = some o) : w_run b n (L, vs, ws) T = some o := by
  cases h; exact hE
