/-! WRITING: the program of a tree, as a list -/
abbrev INS : Type := Nat × Nat × Nat
def spl (lz x y : Nat) : INS := if lz = 0 then (1, x, y) else (1, y, x)
def emSeq (e : Nat → Nat → List INS) (W : Nat → Nat) : List Nat → Nat → List INS
  | [], _ => []
  | x :: r, at' => e x at' ++ emSeq e W r (at' + W x)
def emRows (e : Nat → Nat → List INS) (W : Nat → Nat) (fin : Nat) : List Nat → Nat → List INS
  | [], _ => []
  | x :: r, at' => if r = [] then e x at' else (1, at' + 1, at' + W x + 2) :: (e x (at' + 1) ++ (2, fin, 0) :: emRows e W fin r (at' + W x + 2))
def emCp (e : Nat → Nat → List INS) (m s : Nat) : Nat → Nat → List INS
  | 0, _ => []
  | k + 1, at' => e m at' ++ emCp e m s k (at' + s)
def emOp (e : Nat → Nat → List INS) (m s lz fin : Nat) : Nat → Nat → List INS
  | 0, _ => []
  | k + 1, at' => spl lz (at' + 1) fin :: (e m (at' + 1) ++ emOp e m s lz fin k (at' + s + 1))
def plN (how le : Nat) : Nat := if how = 0 ∨ how = 2 then 1 else if how ≤ 3 then 0 else le
def emTl (e : Nat → Nat → List INS) (m s how le mo lz at0 wn pos : Nat) : List INS := if how = 2 then [spl lz at0 (pos + 1)] else if how = 1 ∨ how = 5 then spl lz (pos + 1) (pos + s + 2) :: (e m (pos + 1) ++ [(2, pos, 0)]) else if how = 3 ∨ how = 6 then emOp e m s lz (at0 + wn) (if how = 3 then 1 else mo - le) pos else []
def emB (e : Nat → Nat → List INS) (t : Nat → ND) (W : Nat → Nat) (n at' : Nat) : List INS :=
  if (t n).1 = 0 then emRows e W (at' + W n) (t n).2.1 at' else if (t n).1 = 1 then emSeq e W (t n).2.1 at' else if (t n).1 = 2 then emCp e (k0 (t n)) (W (k0 (t n))) (plN (t n).2.2.1 (t n).2.2.2.1) at' ++ emTl e (k0 (t n)) (W (k0 (t n))) (t n).2.2.1 (t n).2.2.2.1 (t n).2.2.2.2.1 (t n).2.2.2.2.2.1 at' (W n) (at' + plN (t n).2.2.1 (t n).2.2.2.1 * W (k0 (t n))) else if (t n).1 = 3 then [(0, (t n).2.2.1, 0)] else if 0 < (t n).2.2.1 then (3, 2 * (t n).2.2.1, 0) :: (e (k0 (t n)) (at' + 1) ++ [(3, 2 * (t n).2.2.1 + 1, 0)]) else e (k0 (t n)) at'
def em (t : Nat → ND) (W : Nat → Nat) : Nat → Nat → Nat → List INS
  | 0 => fun _ _ => []
  | f + 1 => fun n at' => emB (em t W f) t W n at'
/-- the shape alone -/
def Sh (t : Nat → ND) (W : Nat → Nat) (u g N : Nat) : Prop := ∀ n, n < N → (∀ k ∈ (t n).2.1, n < k ∧ k < N) ∧ SN t W u g n
section EM
variable {e e' : Nat → Nat → List INS} {t : Nat → ND} {W : Nat → Nat} {u g N n : Nat}
theorem emSeq_cg : ∀ {ks : List Nat} (a : Nat), (∀ k ∈ ks, ∀ b, e k b = e' k b) → emSeq e W ks a = emSeq e' W ks a := by
  intro ks
  induction ks with
  | nil => intro a _; rfl
  | cons x r ih =>
    intro a h
    show e x a ++ emSeq e W r (a + W x) = e' x a ++ emSeq e' W r (a + W x)
    rw [h x (by simp), ih _ (fun k hk => h k (by simp [hk]))]
theorem emRows_cg {fin : Nat} : ∀ {ks : List Nat} (a : Nat), (∀ k ∈ ks, ∀ b, e k b = e' k b) → emRows e W fin ks a = emRows e' W fin ks a := by
  intro ks
  induction ks with
  | nil => intro a _; rfl
  | cons x r ih =>
    intro a h
    unfold emRows
    rw [h x (by simp), h x (by simp), ih _ (fun k hk => h k (by simp [hk]))]
theorem emCp_cg {m s : Nat} (h : ∀ b, e m b = e' m b) : ∀ (k a : Nat), emCp e m s k a = emCp e' m s k a := by
  intro k
  induction k with
  | zero => intro a; rfl
  | succ k ih =>
    intro a
    show e m a ++ emCp e m s k (a + s) = e' m a ++ emCp e' m s k (a + s)
    rw [h, ih]
theorem emOp_cg {m s lz fin : Nat} (h : ∀ b, e m b = e' m b) : ∀ (k a : Nat), emOp e m s lz fin k a = emOp e' m s lz fin k a := by
  intro k
  induction k with
  | zero => intro a; rfl
  | succ k ih =>
    intro a
    show _ :: (e m (a + 1) ++ emOp e m s lz fin k (a + s + 1)) = _ :: (e' m (a + 1) ++ emOp e' m s lz fin k (a + s + 1))
    rw [h, ih]
theorem emB_cg (hS : SN t W u g n) (h : ∀ k ∈ (t n).2.1, ∀ b, e k b = e' k b) (a : Nat) : emB e t W n a = emB e' t W n a := by
  obtain ⟨s0, s1, s2, s3, s4, s5⟩ := hS
  unfold emB
  by_cases h0 : (t n).1 = 0
  · rw [if_pos h0, if_pos h0, emRows_cg _ h]
  rw [if_neg h0, if_neg h0]
  by_cases h1 : (t n).1 = 1
  · rw [if_pos h1, if_pos h1, emSeq_cg _ h]
  rw [if_neg h1, if_neg h1]
  by_cases h2 : (t n).1 = 2
  · rw [if_pos h2, if_pos h2]
    obtain ⟨m, z1, _⟩ := s3 h2
    have k0m : k0 (t n) = m := by
      unfold k0
      rw [z1]
      rfl
    have hm := h m (by rw [z1]; simp)
    rw [k0m, emCp_cg hm]
    unfold emTl
    rw [hm, emOp_cg hm]
  rw [if_neg h2, if_neg h2]
  by_cases h3 : (t n).1 = 3
  · rw [if_pos h3, if_pos h3]
  rw [if_neg h3, if_neg h3]
  obtain ⟨m, z1, _⟩ := s5 (by omega)
  have k0m : k0 (t n) = m := by
    unfold k0
    rw [z1]
    rfl
  have hm := h m (by rw [z1]; simp)
  rw [k0m, hm, hm]
theorem em_fuel (hS : Sh t W u g N) : ∀ (j n : Nat), n < N → N - n ≤ j → ∀ f f', N - n ≤ f → N - n ≤ f' → ∀ a, em t W f n a = em t W f' n a := by
  intro j
  induction j with
  | zero => intro n hn hj; omega
  | succ j ih =>
    intro n hn hj f f' hf hf' a
    obtain ⟨f1, rfl⟩ : ∃ f1, f = f1 + 1 := ⟨f - 1, by omega⟩
    obtain ⟨f2, rfl⟩ : ∃ f2, f' = f2 + 1 := ⟨f' - 1, by omega⟩
    show emB (em t W f1) t W n a = emB (em t W f2) t W n a
    refine emB_cg (hS n hn).2 (fun k hk b => ?_) a
    have := (hS n hn).1 k hk
    exact ih k (by omega) (by omega) f1 f2 (by omega) (by omega) b
theorem E_eq (hS : Sh t W u g N) (hn : n < N) (a : Nat) : em t W N n a = emB (em t W N) t W n a := by
  obtain ⟨N', rfl⟩ : ∃ N', N = N' + 1 := ⟨N - 1, by omega⟩
  show emB (em t W N') t W n a = emB (em t W (N' + 1)) t W n a
  refine emB_cg (hS n hn).2 (fun k hk b => ?_) a
  have := (hS n hn).1 k hk
  exact em_fuel hS (N' + 1) k (by omega) (by omega) N' (N' + 1) (by omega) (by omega) b
theorem emSeq_len : ∀ {ks : List Nat} (a : Nat), (∀ k ∈ ks, ∀ b, (e k b).length = W k) → (emSeq e W ks a).length = sumW W ks := by
  intro ks
  induction ks with
  | nil => intro a _; rfl
  | cons x r ih =>
    intro a h
    have e2 : sumW W (x :: r) = W x + sumW W r := by
      unfold sumW
      simp
    show (e x a ++ emSeq e W r (a + W x)).length = _
    rw [List.length_append, h x (by simp), ih _ (fun k hk => h k (by simp [hk])), e2]
theorem emRows_len {fin : Nat} : ∀ {ks : List Nat} (a : Nat), ks ≠ [] → (∀ k ∈ ks, ∀ b, (e k b).length = W k) → (emRows e W fin ks a).length + 2 = sumW W ks + 2 * ks.length := by
  intro ks
  induction ks with
  | nil => intro a h; exact absurd rfl h
  | cons x r ih =>
    intro a _ h
    have e2 : sumW W (x :: r) = W x + sumW W r := by
      unfold sumW
      simp
    unfold emRows
    rw [e2]
    by_cases hr : r = []
    · rw [if_pos hr, h x (by simp), hr]
      rfl
    · rw [if_neg hr]
      have := ih (a + W x + 2) hr (fun k hk => h k (by simp [hk]))
      simp only [List.length_cons, List.length_append]
      rw [h x (by simp)]
      omega
theorem emCp_len {m s : Nat} (h : ∀ b, (e m b).length = s) : ∀ (k a : Nat), (emCp e m s k a).length = k * s := by
  intro k
  induction k with
  | zero => intro a; simp [emCp]
  | succ k ih =>
    intro a
    show (e m a ++ emCp e m s k (a + s)).length = _
    rw [List.length_append, h, ih, Nat.succ_mul]
    omega
theorem emOp_len {m s lz fin : Nat} (h : ∀ b, (e m b).length = s) : ∀ (k a : Nat), (emOp e m s lz fin k a).length = k * (s + 1) := by
  intro k
  induction k with
  | zero => intro a; simp [emOp]
  | succ k ih =>
    intro a
    show (_ :: (e m (a + 1) ++ emOp e m s lz fin k (a + s + 1))).length = _
    rw [List.length_cons, List.length_append, h, ih, Nat.succ_mul]
    omega
theorem E_len (hS : Sh t W u g N) : ∀ (j n : Nat), n < N → N - n ≤ j → ∀ a, (em t W N n a).length = W n := by
  intro j
  induction j with
  | zero => intro n hn hj; omega
  | succ j ih =>
    intro n hn hj a
    have hk : ∀ k ∈ (t n).2.1, ∀ b, (em t W N k b).length = W k := by
      intro k hk b
      have := (hS n hn).1 k hk
      exact ih k (by omega) (by omega) b
    obtain ⟨s0, s1, s2, s3, s4, s5⟩ := (hS n hn).2
    rw [E_eq hS hn]
    unfold emB
    by_cases h0 : (t n).1 = 0
    · rw [if_pos h0]
      obtain ⟨z1, z2, z3⟩ := s1 h0
      have := emRows_len (fin := a + W n) a z1 hk
      omega
    rw [if_neg h0]
    by_cases h1 : (t n).1 = 1
    · rw [if_pos h1, emSeq_len _ hk, (s2 h1).2]
    rw [if_neg h1]
    by_cases h2 : (t n).1 = 2
    · rw [if_pos h2]
      obtain ⟨m, z1, z2, z3, z4⟩ := s3 h2
      have k0m : k0 (t n) = m := by
        unfold k0
        rw [z1]
        rfl
      have hm := hk m (by rw [z1]; simp)
      obtain ⟨o1, o2, o3, o4, o5⟩ := z4
      rw [k0m, List.length_append, emCp_len hm, z3]
      generalize (t n).2.2.1 = how at *
      generalize (t n).2.2.2.1 = le at *
      generalize (t n).2.2.2.2.1 = mo at *
      unfold emTl wRep plN
      have hh : how = 0 ∨ how = 1 ∨ how = 2 ∨ how = 3 ∨ how = 4 ∨ how = 5 ∨ how = 6 := by omega
      rcases hh with h | h | h | h | h | h | h
      · subst h
        simp
      · subst h
        simp [hm]
      · subst h
        simp
      · subst h
        simp [emOp_len hm]
      · subst h
        simp
      · subst h
        simp [hm, Nat.succ_mul]
        omega
      · subst h
        simp [emOp_len hm]
    rw [if_neg h2]
    by_cases h3 : (t n).1 = 3
    · rw [if_pos h3, (s4 h3).2.2]
      rfl
    rw [if_neg h3]
    obtain ⟨m, z1, z2, z3, z4⟩ := s5 (by omega)
    have k0m : k0 (t n) = m := by
      unfold k0
      rw [z1]
      rfl
    have hm := hk m (by rw [z1]; simp)
    rw [k0m, z4]
    by_cases ha : 0 < (t n).2.2.1
    · rw [if_pos ha, if_pos ha]
      simp [hm]
    · rw [if_neg ha, if_neg ha, hm]
      rfl
/-- what an instruction may be -/
def gI (u g hi : Nat) (z : INS) : Prop := z.1 ≤ 3 ∧ (z.1 = 0 → z.2.1 < u ∧ z.2.2 = 0) ∧ (z.1 = 1 → z.2.1 ≤ hi ∧ z.2.2 ≤ hi) ∧ (z.1 = 2 → z.2.1 ≤ hi ∧ z.2.2 = 0) ∧ (z.1 = 3 → z.2.1 ≤ 2 * g + 1 ∧ z.2.2 = 0)
theorem gI_up {hi hi' : Nat} {z : INS} (h : gI u g hi z) (hh : hi ≤ hi') : gI u g hi' z := by
  obtain ⟨a, b, c, d, f⟩ := h
  exact ⟨a, b, fun q => ⟨Nat.le_trans (c q).1 hh, Nat.le_trans (c q).2 hh⟩, fun q => ⟨Nat.le_trans (d q).1 hh, (d q).2⟩, f⟩
theorem gI_spl {hi lz x y : Nat} (h1 : x ≤ hi) (h2 : y ≤ hi) : gI u g hi (spl lz x y) := by
  unfold spl
  split
  · exact ⟨by show 1 ≤ 3; omega, fun q => (by cases q), fun _ => ⟨h1, h2⟩, fun q => (by cases q), fun q => (by cases q)⟩
  · exact ⟨by show 1 ≤ 3; omega, fun q => (by cases q), fun _ => ⟨h2, h1⟩, fun q => (by cases q), fun q => (by cases q)⟩
theorem gI_sp {hi x y : Nat} (h1 : x ≤ hi) (h2 : y ≤ hi) : gI u g hi (1, x, y) := @gI_spl u g hi 0 x y h1 h2
theorem gI_j {hi x : Nat} (h1 : x ≤ hi) : gI u g hi (2, x, 0) := ⟨by show 2 ≤ 3; omega, fun q => (by cases q), fun q => (by cases q), fun _ => ⟨h1, rfl⟩, fun q => (by cases q)⟩
theorem gI_m {hi x : Nat} (h1 : x ≤ 2 * g + 1) : gI u g hi (3, x, 0) := ⟨by show 3 ≤ 3; omega, fun q => (by cases q), fun q => (by cases q), fun q => (by cases q), fun _ => ⟨h1, rfl⟩⟩
theorem emSeq_g {hi : Nat} : ∀ {ks : List Nat} (a : Nat), a + sumW W ks ≤ hi → (∀ k ∈ ks, ∀ b, ∀ z ∈ e k b, gI u g (b + W k) z) → ∀ z ∈ emSeq e W ks a, gI u g hi z := by
  intro ks
  induction ks with
  | nil => intro a _ _ z hz; cases hz
  | cons x r ih =>
    intro a h1 h z hz
    have e2 : sumW W (x :: r) = W x + sumW W r := by
      unfold sumW
      simp
    have hz' : z ∈ e x a ++ emSeq e W r (a + W x) := hz
    rw [List.mem_append] at hz'
    rcases hz' with q | q
    · exact gI_up (h x (by simp) a z q) (by omega)
    · exact ih (a + W x) (by omega) (fun k hk => h k (by simp [hk])) z q
theorem emRows_g {hi fin : Nat} (hf : fin ≤ hi) : ∀ {ks : List Nat} (a : Nat), a + sumW W ks + 2 * ks.length ≤ hi + 2 → (∀ k ∈ ks, ∀ b, ∀ z ∈ e k b, gI u g (b + W k) z) → ∀ z ∈ emRows e W fin ks a, gI u g hi z := by
  intro ks
  induction ks with
  | nil => intro a _ _ z hz; cases hz
  | cons x r ih =>
    intro a h1 h z hz
    have e2 : sumW W (x :: r) = W x + sumW W r := by
      unfold sumW
      simp
    simp only [List.length_cons] at h1
    unfold emRows at hz
    by_cases hr : r = []
    · rw [if_pos hr] at hz
      rw [hr] at h1 e2
      exact gI_up (h x (by simp) a z hz) (by simp only [List.length_nil] at h1; have : sumW W [] = 0 := rfl; omega)
    · rw [if_neg hr] at hz
      have hl : 0 < r.length := List.length_pos_iff.mpr hr
      rcases List.mem_cons.mp hz with q | q
      · subst q
        exact gI_sp (by omega) (by omega)
      · rw [List.mem_append] at q
        rcases q with q | q
        · exact gI_up (h x (by simp) (a + 1) z q) (by omega)
        · rcases List.mem_cons.mp q with q | q
          · subst q
            exact gI_j hf
          · exact ih (a + W x + 2) (by omega) (fun k hk => h k (by simp [hk])) z q
theorem emCp_g {m s hi : Nat} (h : ∀ b, ∀ z ∈ e m b, gI u g (b + s) z) : ∀ (k a : Nat), a + k * s ≤ hi → ∀ z ∈ emCp e m s k a, gI u g hi z := by
  intro k
  induction k with
  | zero => intro a _ z hz; cases hz
  | succ k ih =>
    intro a h1 z hz
    rw [Nat.succ_mul] at h1
    have hz' : z ∈ e m a ++ emCp e m s k (a + s) := hz
    rw [List.mem_append] at hz'
    rcases hz' with q | q
    · exact gI_up (h a z q) (by omega)
    · exact ih (a + s) (by omega) z q
theorem emOp_g {m s hi lz fin : Nat} (hf : fin ≤ hi) (h : ∀ b, ∀ z ∈ e m b, gI u g (b + s) z) : ∀ (k a : Nat), a + k * (s + 1) ≤ hi → ∀ z ∈ emOp e m s lz fin k a, gI u g hi z := by
  intro k
  induction k with
  | zero => intro a _ z hz; cases hz
  | succ k ih =>
    intro a h1 z hz
    rw [Nat.succ_mul] at h1
    have hz' : z ∈ spl lz (a + 1) fin :: (e m (a + 1) ++ emOp e m s lz fin k (a + s + 1)) := hz
    rcases List.mem_cons.mp hz' with q | q
    · subst q
      exact gI_spl (by omega) hf
    · rw [List.mem_append] at q
      rcases q with q | q
      · exact gI_up (h (a + 1) z q) (by omega)
      · exact ih (a + s + 1) (by omega) z q
theorem E_g (hS : Sh t W u g N) : ∀ (j n : Nat), n < N → N - n ≤ j → ∀ a, ∀ z ∈ em t W N n a, gI u g (a + W n) z := by
  intro j
  induction j with
  | zero => intro n hn hj; omega
  | succ j ih =>
    intro n hn hj a z hz
    have hk : ∀ k ∈ (t n).2.1, ∀ b, ∀ z ∈ em t W N k b, gI u g (b + W k) z := by
      intro k hk b
      have := (hS n hn).1 k hk
      exact ih k (by omega) (by omega) b
    obtain ⟨s0, s1, s2, s3, s4, s5⟩ := (hS n hn).2
    rw [E_eq hS hn] at hz
    unfold emB at hz
    by_cases h0 : (t n).1 = 0
    · rw [if_pos h0] at hz
      obtain ⟨z1, z2, z3⟩ := s1 h0
      exact emRows_g (Nat.le_refl _) a (by omega) hk z hz
    rw [if_neg h0] at hz
    by_cases h1 : (t n).1 = 1
    · rw [if_pos h1] at hz
      have := (s2 h1).2
      exact emSeq_g a (by omega) hk z hz
    rw [if_neg h1] at hz
    by_cases h2 : (t n).1 = 2
    · rw [if_pos h2] at hz
      obtain ⟨m, z1, z2, z3, z4⟩ := s3 h2
      have k0m : k0 (t n) = m := by
        unfold k0
        rw [z1]
        rfl
      have hm := hk m (by rw [z1]; simp)
      obtain ⟨o1, o2, o3, o4, o5⟩ := z4
      rw [k0m] at hz
      generalize hW : W n = wn at *
      generalize (t n).2.2.1 = how at *
      generalize (t n).2.2.2.1 = le at *
      generalize (t n).2.2.2.2.1 = mo at *
      generalize (t n).2.2.2.2.2.1 = lz at *
      rw [List.mem_append] at hz
      have hh : how = 0 ∨ how = 1 ∨ how = 2 ∨ how = 3 ∨ how = 4 ∨ how = 5 ∨ how = 6 := by omega
      unfold wRep at z3
      rcases hh with h | h | h | h | h | h | h
      · subst h
        have e1 : wn = W m := z3
        rcases hz with q | q
        · exact emCp_g hm 1 a (by omega) z q
        · cases q
      · subst h
        have e1 : wn = W m + 2 := z3
        rcases hz with q | q
        · cases q
        · have q' : z ∈ spl lz (a + 0 * W m + 1) (a + 0 * W m + W m + 2) :: (em t W N m (a + 0 * W m + 1) ++ [(2, a + 0 * W m, 0)]) := q
          rcases List.mem_cons.mp q' with q | q
          · subst q
            exact gI_spl (by omega) (by omega)
          · rw [List.mem_append] at q
            rcases q with q | q
            · exact gI_up (hm _ z q) (by omega)
            · have : z = (2, a + 0 * W m, 0) := by simpa using q
              subst this
              exact gI_j (by omega)
      · subst h
        have e1 : wn = W m + 1 := z3
        rcases hz with q | q
        · exact emCp_g hm 1 a (by omega) z q
        · have : z = spl lz a (a + 1 * W m + 1) := by
            have q' : z ∈ [spl lz a (a + 1 * W m + 1)] := q
            simpa using q'
          subst this
          exact gI_spl (by omega) (by omega)
      · subst h
        have e1 : wn = W m + 1 := z3
        rcases hz with q | q
        · cases q
        · have q' : z ∈ emOp (em t W N) m (W m) lz (a + wn) 1 (a + 0 * W m) := q
          exact emOp_g (by omega) hm 1 _ (by omega) z q'
      · subst h
        have e1 : wn = le * W m := z3
        rcases hz with q | q
        · exact emCp_g hm le a (by omega) z q
        · cases q
      · subst h
        have e1 : wn = (le + 1) * W m + 2 := z3
        rw [Nat.succ_mul] at e1
        rcases hz with q | q
        · exact emCp_g hm le a (by omega) z q
        · have q' : z ∈ spl lz (a + le * W m + 1) (a + le * W m + W m + 2) :: (em t W N m (a + le * W m + 1) ++ [(2, a + le * W m, 0)]) := q
          rcases List.mem_cons.mp q' with q | q
          · subst q
            exact gI_spl (by omega) (by omega)
          · rw [List.mem_append] at q
            rcases q with q | q
            · exact gI_up (hm _ z q) (by omega)
            · have : z = (2, a + le * W m, 0) := by simpa using q
              subst this
              exact gI_j (by omega)
      · subst h
        have e1 : wn = le * W m + (mo - le) * (W m + 1) := z3
        rcases hz with q | q
        · exact emCp_g hm le a (by omega) z q
        · have q' : z ∈ emOp (em t W N) m (W m) lz (a + wn) (mo - le) (a + le * W m) := q
          exact emOp_g (Nat.le_refl _) hm (mo - le) _ (by omega) z q'
    rw [if_neg h2] at hz
    by_cases h3 : (t n).1 = 3
    · rw [if_pos h3] at hz
      have : z = (0, (t n).2.2.1, 0) := by simpa using hz
      subst this
      exact ⟨by show 0 ≤ 3; omega, fun _ => ⟨(s4 h3).2.1, rfl⟩, fun q => (by cases q), fun q => (by cases q), fun q => (by cases q)⟩
    rw [if_neg h3] at hz
    obtain ⟨m, z1, z2, z3, z4⟩ := s5 (by omega)
    have k0m : k0 (t n) = m := by
      unfold k0
      rw [z1]
      rfl
    have hm := hk m (by rw [z1]; simp)
    rw [k0m] at hz
    by_cases ha : 0 < (t n).2.2.1
    · rw [if_pos ha] at hz z4
      rcases List.mem_cons.mp hz with q | q
      · subst q
        exact gI_m (by omega)
      · rw [List.mem_append] at q
        rcases q with q | q
        · exact gI_up (hm _ z q) (by omega)
        · have : z = (3, 2 * (t n).2.2.1 + 1, 0) := by simpa using q
          subst this
          exact gI_m (by omega)
    · rw [if_neg ha] at hz z4
      exact gI_up (hm _ z hz) (by omega)
end EM
