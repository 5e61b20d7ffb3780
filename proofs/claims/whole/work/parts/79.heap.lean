/-! THE STORE, 4: what a program does at a store and a heap of rows and repeats -/
def okT {β : Type} (m : qW β) (S : qSt) (H : qH) (Q : β → qSt → qH → Prop) : Prop := ∃ v S' H', m (vT S H) = some (v, vT S' H') ∧ Q v S' H'
def nxT {β : Type} (b : qJ → qW (qJ ⊕ β)) (Q : β → qSt → qH → Prop) (r : qJ ⊕ β) (S : qSt) (H : qH) : Prop := match r with
  | .inl x => okT (w_fix b x) S H Q
  | .inr v => Q v S H
/-- a repeat's cell, a row's cell -/
def oP (s : Int32) (i : Option Nat) (nu az le mo en pl lz : Int32) (nx : Option Nat) : qE := .inr (4, [.int s, va_rf i, .int nu, .int az, .int le, .int mo, .int en, .int pl, .int lz, va_rf nx])
def oR (f l n : Option Nat) (s : Int32) : qE := .inr (5, [va_rf f, va_rf l, va_rf n, .int s])
theorem upS (h : Nat → Option qE) (a : Nat) (e : qE) : q_up h a e a = some e := if_pos rfl
theorem upN {h : Nat → Option qE} {a b : Nat} {e : qE} (n : b ≠ a) : q_up h a e b = h b := if_neg n
theorem upU (h : Nat → Option qE) (a : Nat) (e e' : qE) : q_up (q_up h a e) a e' = q_up h a e' := by
  funext b
  unfold q_up
  by_cases n : b = a
  · rw [if_pos n, if_pos n]
  · rw [if_neg n, if_neg n, if_neg n]
theorem upI {h : Nat → Option qE} {a : Nat} {e : qE} (n : h a = some e) : q_up h a e = h := by
  funext b
  unfold q_up
  by_cases m : b = a
  · rw [if_pos m, m, n]
  · rw [if_neg m]
theorem vT_inj2 {S S' : qSt} {hm hm' : qH} (h : vT S hm = vT S' hm') : hm = hm' := by
  obtain ⟨a, b, c, d⟩ := S
  obtain ⟨a', b', c', d'⟩ := S'
  simp only [vT, Prod.mk.injEq] at h
  exact h.2.2.2.2
theorem fitO (c : String) (r : Option Nat) : narrow (.object c) (va_rf r) = va_rf r ∧ fits (.object c) (va_rf r) = true := by
  cases r <;> exact ⟨rfl, rfl⟩
section HT
variable {α β : Type} {S : qSt} {H : qH} {Q : β → qSt → qH → Prop} {f n a i j ci k o : Nat} {x v : Int32}
theorem t_mono {m : qW β} {Q' : β → qSt → qH → Prop} (h : okT m S H Q) (kk : ∀ v S' H', Q v S' H' → Q' v S' H') : okT m S H Q' := by
  obtain ⟨v, S', H', h1, h2⟩ := h
  exact ⟨v, S', H', h1, kk v S' H' h2⟩
theorem t_S {K : Int32 → qW β} : okT (w_S f K) S H Q = okT (K (S.1 f)) S H Q := nr rfl
theorem t_s {K : qW β} : okT (w_s f v K) S H Q = okT K (sS S f v) H Q := nr rfl
theorem t_t {c : Prop} [Decidable c] {A B : qW β} (h : c) : okT (w_if c A B) S H Q = okT A S H Q := by
  unfold okT w_if
  simp only [if_pos h]
theorem t_f {c : Prop} [Decidable c] {A B : qW β} (h : ¬ c) : okT (w_if c A B) S H Q = okT B S H Q := by
  unfold okT w_if
  simp only [if_neg h]
theorem t_if {c : Prop} [Decidable c] {A B : qW β} : okT (w_if c A B) S H Q = if c then okT A S H Q else okT B S H Q := by
  by_cases h : c
  · rw [t_t h, if_pos h]
  · rw [t_f h, if_neg h]
theorem t_just {r : β} : okT (fun T => some (r, T)) S H Q = Q r S H := by
  apply propext
  constructor
  · rintro ⟨v, S', H', h1, h2⟩
    simp only [Option.some.injEq, Prod.mk.injEq] at h1
    rw [h1.1, vT_inj h1.2, vT_inj2 h1.2]
    exact h2
  · intro h
    exact ⟨r, S, H, rfl, h⟩
theorem t_pure {r : β} : okT (w_pure r) S H Q = Q r S H := t_just
theorem t_rI {Q : Int32 → qSt → qH → Prop} : okT (w_ret .int x) S H Q = Q x S H := by
  have : w_ret .int x = fun T => some (x, T) := by
    funext T
    unfold w_ret
    exact if_pos rfl
  rw [this]
  exact t_just
theorem t_riI {Q : qJ ⊕ Int32 → qSt → qH → Prop} : okT (w_ri .int x) S H Q = Q (.inr x) S H := by
  have : w_ri .int x = fun T => some (.inr x, T) := by
    funext T
    unfold w_ri
    exact if_pos rfl
  rw [this]
  exact t_just
theorem t_rt {Q : qJ ⊕ β → qSt → qH → Prop} {r : β} : okT (w_rt r) S H Q = Q (.inr r) S H := t_just
theorem t_go {Q : qJ ⊕ β → qSt → qH → Prop} {L : Nat} {vs : List Value} {ws : List (Option Nat)} : okT (w_go L vs ws) S H Q = Q (.inl (L, vs, ws)) S H := t_just
theorem nt_l {b : qJ → qW (qJ ⊕ β)} {y : qJ} : nxT b Q (.inl y) S H = okT (w_fix b y) S H Q := nr rfl
theorem nt_r {b : qJ → qW (qJ ⊕ β)} {r : β} : nxT b Q (.inr r) S H = Q r S H := nr rfl
theorem t_C {m : qW α} {K : α → qW β} (h : okT m S H (fun v S1 H1 => okT (K v) S1 H1 Q)) : okT (w_C m K) S H Q := by
  obtain ⟨v, S1, H1, h1, r, S2, H2, h2, h3⟩ := h
  refine ⟨r, S2, H2, ?_, h3⟩
  unfold w_C
  rw [h1]
  exact h2
theorem t_Cm {m : qW α} {K : α → qW β} {P : α → qSt → qH → Prop} (h : okT m S H P) (k : ∀ v S1 H1, P v S1 H1 → okT (K v) S1 H1 Q) : okT (w_C m K) S H Q := t_C (t_mono h k)
theorem t_of {m : qW β} (h : okS m S (fun v S1 => Q v S1 H)) : okT m S H Q := by
  obtain ⟨v, S1, h1, h2⟩ := h
  exact ⟨v, S1, H, h1 H, h2⟩
theorem t_O {m : qW α} {K : α → qW β} (h : okS m S (fun v S1 => okT (K v) S1 H Q)) : okT (w_C m K) S H Q := t_C (t_of h)
theorem t_fix {b : qJ → qW (qJ ⊕ β)} {y : qJ} (h : okT (b y) S H (nxT b Q)) : okT (w_fix b y) S H Q := by
  obtain ⟨r, S1, H1, h1, h2⟩ := h
  cases r with
  | inl y' =>
    obtain ⟨v, S2, H2, h3, h4⟩ := h2
    refine ⟨v, S2, H2, ?_, h4⟩
    rw [w_fix_eq, h1]
    exact h3
  | inr v =>
    refine ⟨v, S1, H1, ?_, h2⟩
    rw [w_fix_eq, h1]
theorem t_new {fs : List Value} {K : Nat → qW β} (hf : q_far o H.2.1) : okT (w_new o ci fs K) S H Q = okT (K H.2.1) S (q_up H.1 H.2.1 (.inr (ci, fs)), H.2.1 + 1, H.2.2.1 + 1, H.2.2.2 + fs.length) Q := by
  have : w_new o ci fs K (vT S H) = K H.2.1 (vT S (q_up H.1 H.2.1 (.inr (ci, fs)), H.2.1 + 1, H.2.2.1 + 1, H.2.2.2 + fs.length)) := by
    unfold w_new
    exact if_pos hf
  unfold okT
  rw [this]
theorem t_nn {K : Nat → qW β} : okT (w_nn (some a) K) S H Q = okT (K a) S H Q := nr rfl
theorem t_nul0 {A : qW β} {B : Nat → qW β} : okT (w_nul none A B) S H Q = okT A S H Q := nr rfl
theorem t_nul1 {A : qW β} {B : Nat → qW β} : okT (w_nul (some a) A B) S H Q = okT (B a) S H Q := nr rfl
theorem t_DI {fs : List Value} {K : Int32 → qW β} (hf : q_far o a) (ha : H.1 a = some (.inr (ci, fs))) (hx : fs[k]? = some (.int x)) : okT (w_DI o a ci k K) S H Q = okT (K x) S H Q := by
  have : w_DI o a ci k K (vT S H) = K x (vT S H) := by
    unfold w_DI
    refine (if_pos hf).trans ?_
    have ha' : (vT S H).2.2.2.2.1 a = some (.inr (ci, fs)) := ha
    rw [ha']
    dsimp only
    rw [if_pos rfl, hx]
  unfold okT
  rw [this]
theorem t_DR {fs : List Value} {r : Option Nat} {K : Option Nat → qW β} (hf : q_far o a) (ha : H.1 a = some (.inr (ci, fs))) (hx : fs[k]? = some (va_rf r)) : okT (w_DR o a ci k K) S H Q = okT (K r) S H Q := by
  have : w_DR o a ci k K (vT S H) = K r (vT S H) := by
    unfold w_DR
    refine (if_pos hf).trans ?_
    have ha' : (vT S H).2.2.2.2.1 a = some (.inr (ci, fs)) := ha
    rw [ha']
    dsimp only
    rw [if_pos rfl, hx]
    cases r <;> rfl
  unfold okT
  rw [this]
theorem t_d {fs : List Value} {ty : FieldType} {y : Value} {K : qW β} (hf : q_far o a) (ha : H.1 a = some (.inr (ci, fs))) (hk : k < fs.length) (hv : narrow ty y = y ∧ fits ty y = true) : okT (w_d o a ci k ty y K) S H Q = okT K S (q_up H.1 a (.inr (ci, fs.set k y)), H.2) Q := by
  have : w_d o a ci k ty y K (vT S H) = K (vT S (q_up H.1 a (.inr (ci, fs.set k y)), H.2)) := by
    unfold w_d
    refine (if_pos hf).trans ?_
    have ha' : (vT S H).2.2.2.2.1 a = some (.inr (ci, fs)) := ha
    rw [ha']
    dsimp only
    rw [if_pos ⟨rfl, hk, hv⟩]
    rfl
  unfold okT
  rw [this]
theorem t_is {fs : List Value} {K : qW β} (hf : q_far o a) (ha : H.1 a = some (.inr (ci, fs))) : okT (w_is a o ci K) S H Q = okT K S H Q := by
  have : w_is a o ci K (vT S H) = K (vT S H) := by
    unfold w_is
    refine (if_pos hf).trans ?_
    have ha' : (vT S H).2.2.2.2.1 a = some (.inr (ci, fs)) := ha
    rw [ha']
    dsimp only
    exact if_pos rfl
  unfold okT
  rw [this]
end HT
section HP
variable {β : Type} {S : qSt} {H : qH} {h : Nat → Option qE} {mm : Nat × Nat × Nat} {Q : β → qSt → qH → Prop} {p o : Nat} {s nu az le mo en pl lz v : Int32} {i nx r f l n : Option Nat} {K : Int32 → qW β} {KR : Option Nat → qW β} {KU : qW β}
theorem rp_g0 (hf : q_far o p) : okT (w_DI o p 4 0 K) S (q_up h p (oP s i nu az le mo en pl lz nx), mm) Q = okT (K s) S (q_up h p (oP s i nu az le mo en pl lz nx), mm) Q := t_DI hf (upS _ _ _) rfl
theorem rp_h0 (ha : H.1 p = some (oP s i nu az le mo en pl lz nx)) (hf : q_far o p) : okT (w_DI o p 4 0 K) S H Q = okT (K s) S H Q := t_DI hf ha rfl
theorem rp_s0 (hf : q_far o p) : okT (w_d o p 4 0 .int (.int v) KU) S (q_up h p (oP s i nu az le mo en pl lz nx), mm) Q = okT KU S (q_up h p (oP v i nu az le mo en pl lz nx), mm) Q := (t_d hf (upS _ _ _) (Nat.le_of_ble_eq_true rfl) ⟨rfl, rfl⟩).trans (by show okT KU S (q_up (q_up h p _) p _, mm) Q = _; rw [upU]; rfl)
theorem rp_t0 (ha : H.1 p = some (oP s i nu az le mo en pl lz nx)) (hf : q_far o p) : okT (w_d o p 4 0 .int (.int v) KU) S H Q = okT KU S (q_up H.1 p (oP v i nu az le mo en pl lz nx), H.2) Q := (t_d hf ha (Nat.le_of_ble_eq_true rfl) ⟨rfl, rfl⟩).trans rfl
theorem rp_g1 (hf : q_far o p) : okT (w_DR o p 4 1 KR) S (q_up h p (oP s i nu az le mo en pl lz nx), mm) Q = okT (KR i) S (q_up h p (oP s i nu az le mo en pl lz nx), mm) Q := t_DR hf (upS _ _ _) rfl
theorem rp_h1 (ha : H.1 p = some (oP s i nu az le mo en pl lz nx)) (hf : q_far o p) : okT (w_DR o p 4 1 KR) S H Q = okT (KR i) S H Q := t_DR hf ha rfl
theorem rp_s1 (hf : q_far o p) : okT (w_d o p 4 1 (.object "PatternWalk$Row") (va_rf r) KU) S (q_up h p (oP s i nu az le mo en pl lz nx), mm) Q = okT KU S (q_up h p (oP s r nu az le mo en pl lz nx), mm) Q := (t_d hf (upS _ _ _) (Nat.le_of_ble_eq_true rfl) (fitO _ r)).trans (by show okT KU S (q_up (q_up h p _) p _, mm) Q = _; rw [upU]; rfl)
theorem rp_t1 (ha : H.1 p = some (oP s i nu az le mo en pl lz nx)) (hf : q_far o p) : okT (w_d o p 4 1 (.object "PatternWalk$Row") (va_rf r) KU) S H Q = okT KU S (q_up H.1 p (oP s r nu az le mo en pl lz nx), H.2) Q := (t_d hf ha (Nat.le_of_ble_eq_true rfl) (fitO _ r)).trans rfl
theorem rp_s1n (hf : q_far o p) : okT (w_d o p 4 1 (.object "PatternWalk$Row") (.null) KU) S (q_up h p (oP s i nu az le mo en pl lz nx), mm) Q = okT KU S (q_up h p (oP s none nu az le mo en pl lz nx), mm) Q := (t_d hf (upS _ _ _) (Nat.le_of_ble_eq_true rfl) (fitO _ none)).trans (by show okT KU S (q_up (q_up h p _) p _, mm) Q = _; rw [upU]; rfl)
theorem rp_t1n (ha : H.1 p = some (oP s i nu az le mo en pl lz nx)) (hf : q_far o p) : okT (w_d o p 4 1 (.object "PatternWalk$Row") (.null) KU) S H Q = okT KU S (q_up H.1 p (oP s none nu az le mo en pl lz nx), H.2) Q := (t_d hf ha (Nat.le_of_ble_eq_true rfl) (fitO _ none)).trans rfl
theorem rp_g2 (hf : q_far o p) : okT (w_DI o p 4 2 K) S (q_up h p (oP s i nu az le mo en pl lz nx), mm) Q = okT (K nu) S (q_up h p (oP s i nu az le mo en pl lz nx), mm) Q := t_DI hf (upS _ _ _) rfl
theorem rp_h2 (ha : H.1 p = some (oP s i nu az le mo en pl lz nx)) (hf : q_far o p) : okT (w_DI o p 4 2 K) S H Q = okT (K nu) S H Q := t_DI hf ha rfl
theorem rp_s2 (hf : q_far o p) : okT (w_d o p 4 2 .int (.int v) KU) S (q_up h p (oP s i nu az le mo en pl lz nx), mm) Q = okT KU S (q_up h p (oP s i v az le mo en pl lz nx), mm) Q := (t_d hf (upS _ _ _) (Nat.le_of_ble_eq_true rfl) ⟨rfl, rfl⟩).trans (by show okT KU S (q_up (q_up h p _) p _, mm) Q = _; rw [upU]; rfl)
theorem rp_t2 (ha : H.1 p = some (oP s i nu az le mo en pl lz nx)) (hf : q_far o p) : okT (w_d o p 4 2 .int (.int v) KU) S H Q = okT KU S (q_up H.1 p (oP s i v az le mo en pl lz nx), H.2) Q := (t_d hf ha (Nat.le_of_ble_eq_true rfl) ⟨rfl, rfl⟩).trans rfl
theorem rp_g3 (hf : q_far o p) : okT (w_DI o p 4 3 K) S (q_up h p (oP s i nu az le mo en pl lz nx), mm) Q = okT (K az) S (q_up h p (oP s i nu az le mo en pl lz nx), mm) Q := t_DI hf (upS _ _ _) rfl
theorem rp_h3 (ha : H.1 p = some (oP s i nu az le mo en pl lz nx)) (hf : q_far o p) : okT (w_DI o p 4 3 K) S H Q = okT (K az) S H Q := t_DI hf ha rfl
theorem rp_s3 (hf : q_far o p) : okT (w_d o p 4 3 .int (.int v) KU) S (q_up h p (oP s i nu az le mo en pl lz nx), mm) Q = okT KU S (q_up h p (oP s i nu v le mo en pl lz nx), mm) Q := (t_d hf (upS _ _ _) (Nat.le_of_ble_eq_true rfl) ⟨rfl, rfl⟩).trans (by show okT KU S (q_up (q_up h p _) p _, mm) Q = _; rw [upU]; rfl)
theorem rp_t3 (ha : H.1 p = some (oP s i nu az le mo en pl lz nx)) (hf : q_far o p) : okT (w_d o p 4 3 .int (.int v) KU) S H Q = okT KU S (q_up H.1 p (oP s i nu v le mo en pl lz nx), H.2) Q := (t_d hf ha (Nat.le_of_ble_eq_true rfl) ⟨rfl, rfl⟩).trans rfl
theorem rp_g4 (hf : q_far o p) : okT (w_DI o p 4 4 K) S (q_up h p (oP s i nu az le mo en pl lz nx), mm) Q = okT (K le) S (q_up h p (oP s i nu az le mo en pl lz nx), mm) Q := t_DI hf (upS _ _ _) rfl
theorem rp_h4 (ha : H.1 p = some (oP s i nu az le mo en pl lz nx)) (hf : q_far o p) : okT (w_DI o p 4 4 K) S H Q = okT (K le) S H Q := t_DI hf ha rfl
theorem rp_s4 (hf : q_far o p) : okT (w_d o p 4 4 .int (.int v) KU) S (q_up h p (oP s i nu az le mo en pl lz nx), mm) Q = okT KU S (q_up h p (oP s i nu az v mo en pl lz nx), mm) Q := (t_d hf (upS _ _ _) (Nat.le_of_ble_eq_true rfl) ⟨rfl, rfl⟩).trans (by show okT KU S (q_up (q_up h p _) p _, mm) Q = _; rw [upU]; rfl)
theorem rp_t4 (ha : H.1 p = some (oP s i nu az le mo en pl lz nx)) (hf : q_far o p) : okT (w_d o p 4 4 .int (.int v) KU) S H Q = okT KU S (q_up H.1 p (oP s i nu az v mo en pl lz nx), H.2) Q := (t_d hf ha (Nat.le_of_ble_eq_true rfl) ⟨rfl, rfl⟩).trans rfl
theorem rp_g5 (hf : q_far o p) : okT (w_DI o p 4 5 K) S (q_up h p (oP s i nu az le mo en pl lz nx), mm) Q = okT (K mo) S (q_up h p (oP s i nu az le mo en pl lz nx), mm) Q := t_DI hf (upS _ _ _) rfl
theorem rp_h5 (ha : H.1 p = some (oP s i nu az le mo en pl lz nx)) (hf : q_far o p) : okT (w_DI o p 4 5 K) S H Q = okT (K mo) S H Q := t_DI hf ha rfl
theorem rp_s5 (hf : q_far o p) : okT (w_d o p 4 5 .int (.int v) KU) S (q_up h p (oP s i nu az le mo en pl lz nx), mm) Q = okT KU S (q_up h p (oP s i nu az le v en pl lz nx), mm) Q := (t_d hf (upS _ _ _) (Nat.le_of_ble_eq_true rfl) ⟨rfl, rfl⟩).trans (by show okT KU S (q_up (q_up h p _) p _, mm) Q = _; rw [upU]; rfl)
theorem rp_t5 (ha : H.1 p = some (oP s i nu az le mo en pl lz nx)) (hf : q_far o p) : okT (w_d o p 4 5 .int (.int v) KU) S H Q = okT KU S (q_up H.1 p (oP s i nu az le v en pl lz nx), H.2) Q := (t_d hf ha (Nat.le_of_ble_eq_true rfl) ⟨rfl, rfl⟩).trans rfl
theorem rp_g6 (hf : q_far o p) : okT (w_DI o p 4 6 K) S (q_up h p (oP s i nu az le mo en pl lz nx), mm) Q = okT (K en) S (q_up h p (oP s i nu az le mo en pl lz nx), mm) Q := t_DI hf (upS _ _ _) rfl
theorem rp_h6 (ha : H.1 p = some (oP s i nu az le mo en pl lz nx)) (hf : q_far o p) : okT (w_DI o p 4 6 K) S H Q = okT (K en) S H Q := t_DI hf ha rfl
theorem rp_s6z (hf : q_far o p) : okT (w_d o p 4 6 .boolean (.int (nI 0)) KU) S (q_up h p (oP s i nu az le mo en pl lz nx), mm) Q = okT KU S (q_up h p (oP s i nu az le mo (nI 0) pl lz nx), mm) Q := (t_d hf (upS _ _ _) (Nat.le_of_ble_eq_true rfl) ⟨rfl, rfl⟩).trans (by show okT KU S (q_up (q_up h p _) p _, mm) Q = _; rw [upU]; rfl)
theorem rp_t6z (ha : H.1 p = some (oP s i nu az le mo en pl lz nx)) (hf : q_far o p) : okT (w_d o p 4 6 .boolean (.int (nI 0)) KU) S H Q = okT KU S (q_up H.1 p (oP s i nu az le mo (nI 0) pl lz nx), H.2) Q := (t_d hf ha (Nat.le_of_ble_eq_true rfl) ⟨rfl, rfl⟩).trans rfl
theorem rp_s6u (hf : q_far o p) : okT (w_d o p 4 6 .boolean (.int (nI 1)) KU) S (q_up h p (oP s i nu az le mo en pl lz nx), mm) Q = okT KU S (q_up h p (oP s i nu az le mo (nI 1) pl lz nx), mm) Q := (t_d hf (upS _ _ _) (Nat.le_of_ble_eq_true rfl) ⟨rfl, rfl⟩).trans (by show okT KU S (q_up (q_up h p _) p _, mm) Q = _; rw [upU]; rfl)
theorem rp_t6u (ha : H.1 p = some (oP s i nu az le mo en pl lz nx)) (hf : q_far o p) : okT (w_d o p 4 6 .boolean (.int (nI 1)) KU) S H Q = okT KU S (q_up H.1 p (oP s i nu az le mo (nI 1) pl lz nx), H.2) Q := (t_d hf ha (Nat.le_of_ble_eq_true rfl) ⟨rfl, rfl⟩).trans rfl
theorem rp_g7 (hf : q_far o p) : okT (w_DI o p 4 7 K) S (q_up h p (oP s i nu az le mo en pl lz nx), mm) Q = okT (K pl) S (q_up h p (oP s i nu az le mo en pl lz nx), mm) Q := t_DI hf (upS _ _ _) rfl
theorem rp_h7 (ha : H.1 p = some (oP s i nu az le mo en pl lz nx)) (hf : q_far o p) : okT (w_DI o p 4 7 K) S H Q = okT (K pl) S H Q := t_DI hf ha rfl
theorem rp_s7z (hf : q_far o p) : okT (w_d o p 4 7 .boolean (.int (nI 0)) KU) S (q_up h p (oP s i nu az le mo en pl lz nx), mm) Q = okT KU S (q_up h p (oP s i nu az le mo en (nI 0) lz nx), mm) Q := (t_d hf (upS _ _ _) (Nat.le_of_ble_eq_true rfl) ⟨rfl, rfl⟩).trans (by show okT KU S (q_up (q_up h p _) p _, mm) Q = _; rw [upU]; rfl)
theorem rp_t7z (ha : H.1 p = some (oP s i nu az le mo en pl lz nx)) (hf : q_far o p) : okT (w_d o p 4 7 .boolean (.int (nI 0)) KU) S H Q = okT KU S (q_up H.1 p (oP s i nu az le mo en (nI 0) lz nx), H.2) Q := (t_d hf ha (Nat.le_of_ble_eq_true rfl) ⟨rfl, rfl⟩).trans rfl
theorem rp_s7u (hf : q_far o p) : okT (w_d o p 4 7 .boolean (.int (nI 1)) KU) S (q_up h p (oP s i nu az le mo en pl lz nx), mm) Q = okT KU S (q_up h p (oP s i nu az le mo en (nI 1) lz nx), mm) Q := (t_d hf (upS _ _ _) (Nat.le_of_ble_eq_true rfl) ⟨rfl, rfl⟩).trans (by show okT KU S (q_up (q_up h p _) p _, mm) Q = _; rw [upU]; rfl)
theorem rp_t7u (ha : H.1 p = some (oP s i nu az le mo en pl lz nx)) (hf : q_far o p) : okT (w_d o p 4 7 .boolean (.int (nI 1)) KU) S H Q = okT KU S (q_up H.1 p (oP s i nu az le mo en (nI 1) lz nx), H.2) Q := (t_d hf ha (Nat.le_of_ble_eq_true rfl) ⟨rfl, rfl⟩).trans rfl
theorem rp_g8 (hf : q_far o p) : okT (w_DI o p 4 8 K) S (q_up h p (oP s i nu az le mo en pl lz nx), mm) Q = okT (K lz) S (q_up h p (oP s i nu az le mo en pl lz nx), mm) Q := t_DI hf (upS _ _ _) rfl
theorem rp_h8 (ha : H.1 p = some (oP s i nu az le mo en pl lz nx)) (hf : q_far o p) : okT (w_DI o p 4 8 K) S H Q = okT (K lz) S H Q := t_DI hf ha rfl
theorem rp_s8z (hf : q_far o p) : okT (w_d o p 4 8 .boolean (.int (nI 0)) KU) S (q_up h p (oP s i nu az le mo en pl lz nx), mm) Q = okT KU S (q_up h p (oP s i nu az le mo en pl (nI 0) nx), mm) Q := (t_d hf (upS _ _ _) (Nat.le_of_ble_eq_true rfl) ⟨rfl, rfl⟩).trans (by show okT KU S (q_up (q_up h p _) p _, mm) Q = _; rw [upU]; rfl)
theorem rp_t8z (ha : H.1 p = some (oP s i nu az le mo en pl lz nx)) (hf : q_far o p) : okT (w_d o p 4 8 .boolean (.int (nI 0)) KU) S H Q = okT KU S (q_up H.1 p (oP s i nu az le mo en pl (nI 0) nx), H.2) Q := (t_d hf ha (Nat.le_of_ble_eq_true rfl) ⟨rfl, rfl⟩).trans rfl
theorem rp_s8u (hf : q_far o p) : okT (w_d o p 4 8 .boolean (.int (nI 1)) KU) S (q_up h p (oP s i nu az le mo en pl lz nx), mm) Q = okT KU S (q_up h p (oP s i nu az le mo en pl (nI 1) nx), mm) Q := (t_d hf (upS _ _ _) (Nat.le_of_ble_eq_true rfl) ⟨rfl, rfl⟩).trans (by show okT KU S (q_up (q_up h p _) p _, mm) Q = _; rw [upU]; rfl)
theorem rp_t8u (ha : H.1 p = some (oP s i nu az le mo en pl lz nx)) (hf : q_far o p) : okT (w_d o p 4 8 .boolean (.int (nI 1)) KU) S H Q = okT KU S (q_up H.1 p (oP s i nu az le mo en pl (nI 1) nx), H.2) Q := (t_d hf ha (Nat.le_of_ble_eq_true rfl) ⟨rfl, rfl⟩).trans rfl
theorem rp_g9 (hf : q_far o p) : okT (w_DR o p 4 9 KR) S (q_up h p (oP s i nu az le mo en pl lz nx), mm) Q = okT (KR nx) S (q_up h p (oP s i nu az le mo en pl lz nx), mm) Q := t_DR hf (upS _ _ _) rfl
theorem rp_h9 (ha : H.1 p = some (oP s i nu az le mo en pl lz nx)) (hf : q_far o p) : okT (w_DR o p 4 9 KR) S H Q = okT (KR nx) S H Q := t_DR hf ha rfl
theorem rp_s9 (hf : q_far o p) : okT (w_d o p 4 9 (.object "PatternWalk$Repeat") (va_rf r) KU) S (q_up h p (oP s i nu az le mo en pl lz nx), mm) Q = okT KU S (q_up h p (oP s i nu az le mo en pl lz r), mm) Q := (t_d hf (upS _ _ _) (Nat.le_of_ble_eq_true rfl) (fitO _ r)).trans (by show okT KU S (q_up (q_up h p _) p _, mm) Q = _; rw [upU]; rfl)
theorem rp_t9 (ha : H.1 p = some (oP s i nu az le mo en pl lz nx)) (hf : q_far o p) : okT (w_d o p 4 9 (.object "PatternWalk$Repeat") (va_rf r) KU) S H Q = okT KU S (q_up H.1 p (oP s i nu az le mo en pl lz r), H.2) Q := (t_d hf ha (Nat.le_of_ble_eq_true rfl) (fitO _ r)).trans rfl
theorem rp_s9n (hf : q_far o p) : okT (w_d o p 4 9 (.object "PatternWalk$Repeat") (.null) KU) S (q_up h p (oP s i nu az le mo en pl lz nx), mm) Q = okT KU S (q_up h p (oP s i nu az le mo en pl lz none), mm) Q := (t_d hf (upS _ _ _) (Nat.le_of_ble_eq_true rfl) (fitO _ none)).trans (by show okT KU S (q_up (q_up h p _) p _, mm) Q = _; rw [upU]; rfl)
theorem rp_t9n (ha : H.1 p = some (oP s i nu az le mo en pl lz nx)) (hf : q_far o p) : okT (w_d o p 4 9 (.object "PatternWalk$Repeat") (.null) KU) S H Q = okT KU S (q_up H.1 p (oP s i nu az le mo en pl lz none), H.2) Q := (t_d hf ha (Nat.le_of_ble_eq_true rfl) (fitO _ none)).trans rfl
theorem rp_is (ha : H.1 p = some (oP s i nu az le mo en pl lz nx)) (hf : q_far o p) : okT (w_is p o 4 KU) S H Q = okT KU S H Q := t_is hf ha
theorem rw_g0 (hf : q_far o p) : okT (w_DR o p 5 0 KR) S (q_up h p (oR f l n s), mm) Q = okT (KR f) S (q_up h p (oR f l n s), mm) Q := t_DR hf (upS _ _ _) rfl
theorem rw_h0 (ha : H.1 p = some (oR f l n s)) (hf : q_far o p) : okT (w_DR o p 5 0 KR) S H Q = okT (KR f) S H Q := t_DR hf ha rfl
theorem rw_s0 (hf : q_far o p) : okT (w_d o p 5 0 (.object "PatternWalk$Repeat") (va_rf r) KU) S (q_up h p (oR f l n s), mm) Q = okT KU S (q_up h p (oR r l n s), mm) Q := (t_d hf (upS _ _ _) (Nat.le_of_ble_eq_true rfl) (fitO _ r)).trans (by show okT KU S (q_up (q_up h p _) p _, mm) Q = _; rw [upU]; rfl)
theorem rw_t0 (ha : H.1 p = some (oR f l n s)) (hf : q_far o p) : okT (w_d o p 5 0 (.object "PatternWalk$Repeat") (va_rf r) KU) S H Q = okT KU S (q_up H.1 p (oR r l n s), H.2) Q := (t_d hf ha (Nat.le_of_ble_eq_true rfl) (fitO _ r)).trans rfl
theorem rw_s0n (hf : q_far o p) : okT (w_d o p 5 0 (.object "PatternWalk$Repeat") (.null) KU) S (q_up h p (oR f l n s), mm) Q = okT KU S (q_up h p (oR none l n s), mm) Q := (t_d hf (upS _ _ _) (Nat.le_of_ble_eq_true rfl) (fitO _ none)).trans (by show okT KU S (q_up (q_up h p _) p _, mm) Q = _; rw [upU]; rfl)
theorem rw_t0n (ha : H.1 p = some (oR f l n s)) (hf : q_far o p) : okT (w_d o p 5 0 (.object "PatternWalk$Repeat") (.null) KU) S H Q = okT KU S (q_up H.1 p (oR none l n s), H.2) Q := (t_d hf ha (Nat.le_of_ble_eq_true rfl) (fitO _ none)).trans rfl
theorem rw_g1 (hf : q_far o p) : okT (w_DR o p 5 1 KR) S (q_up h p (oR f l n s), mm) Q = okT (KR l) S (q_up h p (oR f l n s), mm) Q := t_DR hf (upS _ _ _) rfl
theorem rw_h1 (ha : H.1 p = some (oR f l n s)) (hf : q_far o p) : okT (w_DR o p 5 1 KR) S H Q = okT (KR l) S H Q := t_DR hf ha rfl
theorem rw_s1 (hf : q_far o p) : okT (w_d o p 5 1 (.object "PatternWalk$Repeat") (va_rf r) KU) S (q_up h p (oR f l n s), mm) Q = okT KU S (q_up h p (oR f r n s), mm) Q := (t_d hf (upS _ _ _) (Nat.le_of_ble_eq_true rfl) (fitO _ r)).trans (by show okT KU S (q_up (q_up h p _) p _, mm) Q = _; rw [upU]; rfl)
theorem rw_t1 (ha : H.1 p = some (oR f l n s)) (hf : q_far o p) : okT (w_d o p 5 1 (.object "PatternWalk$Repeat") (va_rf r) KU) S H Q = okT KU S (q_up H.1 p (oR f r n s), H.2) Q := (t_d hf ha (Nat.le_of_ble_eq_true rfl) (fitO _ r)).trans rfl
theorem rw_s1n (hf : q_far o p) : okT (w_d o p 5 1 (.object "PatternWalk$Repeat") (.null) KU) S (q_up h p (oR f l n s), mm) Q = okT KU S (q_up h p (oR f none n s), mm) Q := (t_d hf (upS _ _ _) (Nat.le_of_ble_eq_true rfl) (fitO _ none)).trans (by show okT KU S (q_up (q_up h p _) p _, mm) Q = _; rw [upU]; rfl)
theorem rw_t1n (ha : H.1 p = some (oR f l n s)) (hf : q_far o p) : okT (w_d o p 5 1 (.object "PatternWalk$Repeat") (.null) KU) S H Q = okT KU S (q_up H.1 p (oR f none n s), H.2) Q := (t_d hf ha (Nat.le_of_ble_eq_true rfl) (fitO _ none)).trans rfl
theorem rw_g2 (hf : q_far o p) : okT (w_DR o p 5 2 KR) S (q_up h p (oR f l n s), mm) Q = okT (KR n) S (q_up h p (oR f l n s), mm) Q := t_DR hf (upS _ _ _) rfl
theorem rw_h2 (ha : H.1 p = some (oR f l n s)) (hf : q_far o p) : okT (w_DR o p 5 2 KR) S H Q = okT (KR n) S H Q := t_DR hf ha rfl
theorem rw_s2 (hf : q_far o p) : okT (w_d o p 5 2 (.object "PatternWalk$Row") (va_rf r) KU) S (q_up h p (oR f l n s), mm) Q = okT KU S (q_up h p (oR f l r s), mm) Q := (t_d hf (upS _ _ _) (Nat.le_of_ble_eq_true rfl) (fitO _ r)).trans (by show okT KU S (q_up (q_up h p _) p _, mm) Q = _; rw [upU]; rfl)
theorem rw_t2 (ha : H.1 p = some (oR f l n s)) (hf : q_far o p) : okT (w_d o p 5 2 (.object "PatternWalk$Row") (va_rf r) KU) S H Q = okT KU S (q_up H.1 p (oR f l r s), H.2) Q := (t_d hf ha (Nat.le_of_ble_eq_true rfl) (fitO _ r)).trans rfl
theorem rw_s2n (hf : q_far o p) : okT (w_d o p 5 2 (.object "PatternWalk$Row") (.null) KU) S (q_up h p (oR f l n s), mm) Q = okT KU S (q_up h p (oR f l none s), mm) Q := (t_d hf (upS _ _ _) (Nat.le_of_ble_eq_true rfl) (fitO _ none)).trans (by show okT KU S (q_up (q_up h p _) p _, mm) Q = _; rw [upU]; rfl)
theorem rw_t2n (ha : H.1 p = some (oR f l n s)) (hf : q_far o p) : okT (w_d o p 5 2 (.object "PatternWalk$Row") (.null) KU) S H Q = okT KU S (q_up H.1 p (oR f l none s), H.2) Q := (t_d hf ha (Nat.le_of_ble_eq_true rfl) (fitO _ none)).trans rfl
theorem rw_g3 (hf : q_far o p) : okT (w_DI o p 5 3 K) S (q_up h p (oR f l n s), mm) Q = okT (K s) S (q_up h p (oR f l n s), mm) Q := t_DI hf (upS _ _ _) rfl
theorem rw_h3 (ha : H.1 p = some (oR f l n s)) (hf : q_far o p) : okT (w_DI o p 5 3 K) S H Q = okT (K s) S H Q := t_DI hf ha rfl
theorem rw_s3 (hf : q_far o p) : okT (w_d o p 5 3 .int (.int v) KU) S (q_up h p (oR f l n s), mm) Q = okT KU S (q_up h p (oR f l n v), mm) Q := (t_d hf (upS _ _ _) (Nat.le_of_ble_eq_true rfl) ⟨rfl, rfl⟩).trans (by show okT KU S (q_up (q_up h p _) p _, mm) Q = _; rw [upU]; rfl)
theorem rw_t3 (ha : H.1 p = some (oR f l n s)) (hf : q_far o p) : okT (w_d o p 5 3 .int (.int v) KU) S H Q = okT KU S (q_up H.1 p (oR f l n v), H.2) Q := (t_d hf ha (Nat.le_of_ble_eq_true rfl) ⟨rfl, rfl⟩).trans rfl
theorem rw_is (ha : H.1 p = some (oR f l n s)) (hf : q_far o p) : okT (w_is p o 5 KU) S H Q = okT KU S H Q := t_is hf ha
end HP
