/-! THE STORE, 3: what a program does at a store, whatever the rest of the heap is -/
def okS {β : Type} (m : qW β) (S : qSt) (Q : β → qSt → Prop) : Prop := ∃ v S', (∀ hm, m (vT S hm) = some (v, vT S' hm)) ∧ Q v S'
def sS (S : qSt) (f : Nat) (v : Int32) : qSt := (upd S.1 f v, S.2)
def aS (S : qSt) (f : Nat) (g : Nat → Int32) : qSt := (S.1, va_up S.2.1 f g, S.2.2)
def lS (S : qSt) (g : Nat → Int64) : qSt := (S.1, S.2.1, g, S.2.2.2)
def nS (S : qSt) (f v : Nat) : qSt := (S.1, S.2.1, S.2.2.1, va_up S.2.2.2 f v)
def nxS {β : Type} (b : qJ → qW (qJ ⊕ β)) (Q : β → qSt → Prop) (r : qJ ⊕ β) (S : qSt) : Prop := match r with
  | .inl x => okS (w_fix b x) S Q
  | .inr v => Q v S
theorem nr {p : Prop} (h : p) : p := Classical.byContradiction (fun k => k h)
theorem n_lit (n : Nat) : (no_index (OfNat.ofNat n) : Int32) = nI n := Classical.byContradiction (fun h => h rfl)
theorem updS (g : Nat → Int32) (k : Nat) (v : Int32) : upd g k v k = v := if_pos rfl
theorem updN {g : Nat → Int32} {j k : Nat} {v : Int32} (h : j ≠ k) : upd g k v j = g j := if_neg h
theorem nI_in2 {c N : Nat} (h : c < N) (hN : N < 2 ^ 31) : ¬ (nI c < 0 ∨ N ≤ c) := by
  have := nI_in h hN
  rwa [nI_clamp (Nat.lt_trans h hN)] at this
section HO
variable {α β : Type} {S : qSt} {Q : β → qSt → Prop} {f n a i j : Nat} {x v : Int32}
theorem sS_s : (sS S f v).1 f = v := if_pos rfl
theorem sS_n (h : j ≠ f) : (sS S f v).1 j = S.1 j := if_neg h
theorem sS_a : (sS S f v).2.1 = S.2.1 := rfl
theorem sS_l : (sS S f v).2.2.1 = S.2.2.1 := rfl
theorem sS_k : (sS S f v).2.2.2 = S.2.2.2 := rfl
theorem aS_s {g : Nat → Int32} : (aS S f g).2.1 f = g := if_pos rfl
theorem aS_n {g : Nat → Int32} (h : j ≠ f) : (aS S f g).2.1 j = S.2.1 j := if_neg h
theorem aS_1 {g : Nat → Int32} : (aS S f g).1 = S.1 := rfl
theorem aS_l {g : Nat → Int32} : (aS S f g).2.2.1 = S.2.2.1 := rfl
theorem aS_k {g : Nat → Int32} : (aS S f g).2.2.2 = S.2.2.2 := rfl
theorem lS_l {g : Nat → Int64} : (lS S g).2.2.1 = g := rfl
theorem lS_1 {g : Nat → Int64} : (lS S g).1 = S.1 := rfl
theorem lS_a {g : Nat → Int64} : (lS S g).2.1 = S.2.1 := rfl
theorem lS_k {g : Nat → Int64} : (lS S g).2.2.2 = S.2.2.2 := rfl
theorem nS_s : (nS S f a).2.2.2 f = a := if_pos rfl
theorem nS_n (h : j ≠ f) : (nS S f a).2.2.2 j = S.2.2.2 j := if_neg h
theorem nS_1 : (nS S f a).1 = S.1 := rfl
theorem nS_a : (nS S f a).2.1 = S.2.1 := rfl
theorem nS_l : (nS S f a).2.2.1 = S.2.2.1 := rfl
theorem ok_mono {m : qW β} {Q' : β → qSt → Prop} (h : okS m S Q) (k : ∀ v S', Q v S' → Q' v S') : okS m S Q' := by
  obtain ⟨v, S', h1, h2⟩ := h
  exact ⟨v, S', h1, k v S' h2⟩
theorem ok_S {K : Int32 → qW β} : okS (w_S f K) S Q = okS (K (S.1 f)) S Q := nr rfl
theorem ok_s {K : qW β} : okS (w_s f v K) S Q = okS K (sS S f v) Q := nr rfl
theorem ok_N {K : Nat → qW β} : okS (w_N f K) S Q = okS (K (S.2.2.2 f)) S Q := nr rfl
theorem ok_n {K : qW β} : okS (w_n f a K) S Q = okS K (nS S f a) Q := nr rfl
theorem ok_t {c : Prop} [Decidable c] {A B : qW β} (h : c) : okS (w_if c A B) S Q = okS A S Q := by
  unfold okS w_if
  simp only [if_pos h]
theorem ok_f {c : Prop} [Decidable c] {A B : qW β} (h : ¬ c) : okS (w_if c A B) S Q = okS B S Q := by
  unfold okS w_if
  simp only [if_neg h]
theorem ok_if {c : Prop} [Decidable c] {A B : qW β} : okS (w_if c A B) S Q = if c then okS A S Q else okS B S Q := by
  by_cases h : c
  · rw [ok_t h, if_pos h]
  · rw [ok_f h, if_neg h]
theorem ok_A {K : Int32 → qW β} (h : a < n) (hn : n < 2 ^ 31) : okS (w_A f n (nI a) K) S Q = okS (K (S.2.1 f a)) S Q := by
  unfold okS w_A
  simp only [nI_clamp (Nat.lt_trans h hn), if_neg (nI_in2 h hn)]
  rfl
theorem ok_a {K : qW β} (h : a < n) (hn : n < 2 ^ 31) : okS (w_a f n (nI a) v K) S Q = okS K (aS S f (upd (S.2.1 f) a v)) Q := by
  unfold okS w_a
  simp only [nI_clamp (Nat.lt_trans h hn), if_neg (nI_in2 h hn)]
  rfl
theorem ok_L {K : Int64 → qW β} (h : a < n) (hn : n < 2 ^ 31) : okS (w_L n (nI a) K) S Q = okS (K (S.2.2.1 a)) S Q := by
  unfold okS w_L
  simp only [nI_clamp (Nat.lt_trans h hn), if_neg (nI_in2 h hn)]
  rfl
theorem ok_l {K : qW β} {y : Int64} (h : a < n) (hn : n < 2 ^ 31) : okS (w_l n (nI a) y K) S Q = okS K (lS S (vp_updL S.2.2.1 a y)) Q := by
  unfold okS w_l
  simp only [nI_clamp (Nat.lt_trans h hn), if_neg (nI_in2 h hn)]
  rfl
theorem ok_z0 {K : qW β} : okS (w_z f 0 K) S Q = okS K (sS S f 0) Q := nr rfl
theorem ok_z1 {K : qW β} : okS (w_z f 1 K) S Q = okS K (sS S f 1) Q := nr rfl
theorem ok_zv {K : qW β} (h : v = 0 ∨ v = 1) : okS (w_z f v K) S Q = okS K (sS S f v) Q := by
  rcases h with h | h <;> subst h <;> rfl
theorem ok_f2 {K : qW β} (h : i < 2) : okS (w_f2 i K) S Q = okS K S Q := by
  unfold okS w_f2
  simp only [if_pos h]
theorem ok_nz {K : qW β} (h : ¬ x = 0) : okS (w_nz x K) S Q = okS K S Q := by
  unfold okS w_nz
  simp only [if_neg h]
theorem vT_inj {S S' : qSt} {hm hm' : qH} (h : vT S hm = vT S' hm') : S = S' := by
  obtain ⟨a, b, c, d⟩ := S
  obtain ⟨a', b', c', d'⟩ := S'
  simp only [vT, Prod.mk.injEq] at h
  simp only [h]
theorem ok_just {r : β} : okS (fun T => some (r, T)) S Q = Q r S := by
  apply propext
  constructor
  · rintro ⟨v, S', h1, h2⟩
    have h3 := h1 (fun _ => none, 0, 0, 0)
    simp only [Option.some.injEq, Prod.mk.injEq] at h3
    rw [h3.1, vT_inj h3.2]
    exact h2
  · intro h
    exact ⟨r, S, fun _ => rfl, h⟩
theorem ok_pure {r : β} : okS (w_pure r) S Q = Q r S := ok_just
theorem ok_rB {Q : Int32 → qSt → Prop} {t : FieldType} (h : narrow t (.int x) = .int x) : okS (w_ret t x) S Q = Q x S := by
  have : w_ret t x = fun T => some (x, T) := by
    funext T
    unfold w_ret
    rw [if_pos h]
  rw [this]
  exact ok_just
theorem ok_rI {Q : Int32 → qSt → Prop} : okS (w_ret .int x) S Q = Q x S := ok_rB rfl
theorem ok_b0 {Q : Int32 → qSt → Prop} : okS (w_ret .boolean 0) S Q = Q 0 S := ok_rB rfl
theorem ok_b1 {Q : Int32 → qSt → Prop} : okS (w_ret .boolean 1) S Q = Q 1 S := ok_rB rfl
theorem ok_rt {Q : qJ ⊕ β → qSt → Prop} {r : β} : okS (w_rt r) S Q = Q (.inr r) S := ok_just
theorem ok_ri {Q : qJ ⊕ Int32 → qSt → Prop} {t : FieldType} (h : narrow t (.int x) = .int x) : okS (w_ri t x) S Q = Q (.inr x) S := by
  have : w_ri t x = fun T => some (.inr x, T) := by
    funext T
    unfold w_ri
    rw [if_pos h]
  rw [this]
  exact ok_just
theorem ok_riI {Q : qJ ⊕ Int32 → qSt → Prop} : okS (w_ri .int x) S Q = Q (.inr x) S := ok_ri rfl
theorem ok_ri0 {Q : qJ ⊕ Int32 → qSt → Prop} : okS (w_ri .boolean 0) S Q = Q (.inr 0) S := ok_ri rfl
theorem ok_ri1 {Q : qJ ⊕ Int32 → qSt → Prop} : okS (w_ri .boolean 1) S Q = Q (.inr 1) S := ok_ri rfl
theorem ok_go {Q : qJ ⊕ β → qSt → Prop} {L : Nat} {vs : List Value} {ws : List (Option Nat)} : okS (w_go L vs ws) S Q = Q (.inl (L, vs, ws)) S := ok_just
theorem nx_l {b : qJ → qW (qJ ⊕ β)} {y : qJ} : nxS b Q (.inl y) S = okS (w_fix b y) S Q := nr rfl
theorem nx_r {b : qJ → qW (qJ ⊕ β)} {r : β} : nxS b Q (.inr r) S = Q r S := nr rfl
theorem ok_C {m : qW α} {K : α → qW β} (h : okS m S (fun v S1 => okS (K v) S1 Q)) : okS (w_C m K) S Q := by
  obtain ⟨v, S1, h1, r, S2, h2, h3⟩ := h
  refine ⟨r, S2, fun hm => ?_, h3⟩
  unfold w_C
  rw [h1 hm]
  exact h2 hm
theorem ok_Cm {m : qW α} {K : α → qW β} {P : α → qSt → Prop} (h : okS m S P) (k : ∀ v S1, P v S1 → okS (K v) S1 Q) : okS (w_C m K) S Q := ok_C (ok_mono h k)
theorem ok_fix {b : qJ → qW (qJ ⊕ β)} {y : qJ} (h : okS (b y) S (nxS b Q)) : okS (w_fix b y) S Q := by
  obtain ⟨r, S1, h1, h2⟩ := h
  cases r with
  | inl y' =>
    obtain ⟨v, S2, h3, h4⟩ := h2
    refine ⟨v, S2, fun hm => ?_, h4⟩
    rw [w_fix_eq, h1 hm]
    exact h3 hm
  | inr v =>
    refine ⟨v, S1, fun hm => ?_, h2⟩
    rw [w_fix_eq, h1 hm]
end HO
section HN
variable {β : Type} {S : qSt} {Q : β → qSt → Prop} {f a : Nat}
theorem ok_zn0 {K : qW β} : okS (w_z f (nI 0) K) S Q = okS K (sS S f (nI 0)) Q := ok_z0
theorem ok_zn1 {K : qW β} : okS (w_z f (nI 1) K) S Q = okS K (sS S f (nI 1)) Q := ok_z1
theorem ok_bn0 {Q : Int32 → qSt → Prop} : okS (w_ret .boolean (nI 0)) S Q = Q (nI 0) S := ok_b0
theorem ok_bn1 {Q : Int32 → qSt → Prop} : okS (w_ret .boolean (nI 1)) S Q = Q (nI 1) S := ok_b1
theorem ok_rn0 {Q : qJ ⊕ Int32 → qSt → Prop} : okS (w_ri .boolean (nI 0)) S Q = Q (.inr (nI 0)) S := ok_ri0
theorem ok_rn1 {Q : qJ ⊕ Int32 → qSt → Prop} : okS (w_ri .boolean (nI 1)) S Q = Q (.inr (nI 1)) S := ok_ri1
end HN
/-- nothing there -/
def nN : Int32 := -1
theorem n_m1 : -nI 1 = nN := nr rfl
theorem nN_i (n : Nat) : nN.toInt = -1 := by decide
theorem nN_e {a : Nat} (h : a < 2 ^ 31) : (nI a = nN) = False := by
  apply eq_false
  intro q
  have := congrArg Int32.toInt q
  rw [nI_toInt h, nN_i 0] at this
  omega
theorem nN_e' {a : Nat} (h : a < 2 ^ 31) : (nN = nI a) = False := by
  apply eq_false
  intro q
  have q' := q.symm
  rw [nN_e h] at q'
  exact q'
theorem nN_l {a : Nat} (h : a < 2 ^ 31) : (nN < nI a) = True := by
  apply eq_true
  rw [Int32.lt_iff_toInt_lt, nI_toInt h, nN_i 0]
  omega
theorem nN_g {a : Nat} (h : a < 2 ^ 31) : (nI a < nN) = False := by
  apply eq_false
  rw [Int32.lt_iff_toInt_lt, nI_toInt h, nN_i 0]
  omega
theorem nN_le {a : Nat} (h : a < 2 ^ 31) : (nN ≤ nI a) = True := by
  apply eq_true
  rw [Int32.le_iff_toInt_le, nI_toInt h, nN_i 0]
  omega
theorem nN_ge {a : Nat} (h : a < 2 ^ 31) : (nI a ≤ nN) = False := by
  apply eq_false
  rw [Int32.le_iff_toInt_le, nI_toInt h, nN_i 0]
  omega
theorem nN_sub (x : Nat) : nN - (nN - nI x) = nI x := by
  rw [Int32.sub_eq_add_neg, Int32.neg_sub, Int32.add_comm nN, Int32.sub_add_cancel]
theorem nN_neg {x : Nat} (h : x < 2 ^ 31) : (nN - nI x < nI 0) = True := by
  apply eq_true
  rw [Int32.lt_iff_toInt_lt]
  have h2 := nI_toInt h
  have h3 := nN_i 0
  rw [Int32.toInt_sub, h2, h3, nI_toInt (by omega)]
  unfold Int.bmod
  dsimp only
  split <;> omega
theorem opI_of {R : qSt → qSt → Prop} {fC fM : qW Int32} (h : ∀ SC SM, R SC SM → okS fC SC (fun v SC' => okS fM SM (fun v' SM' => v = v' ∧ R SC' SM'))) : opI R fC fM := by
  intro SC SM hR
  obtain ⟨v, SC', h1, v', SM', h2, h3, h4⟩ := h SC SM hR
  subst h3
  exact ⟨v, SC', SM', h1, h2, h4⟩
theorem opV_of {R : qSt → qSt → Prop} {fC fM : qW Unit} (h : ∀ SC SM, R SC SM → okS fC SC (fun _ SC' => okS fM SM (fun _ SM' => R SC' SM'))) : opV R fC fM := by
  intro SC SM hR
  obtain ⟨v, SC', h1, v', SM', h2, h4⟩ := h SC SM hR
  exact ⟨SC', SM', h1, h2, h4⟩
/-- a push, a mark -/
theorem e_push {S : qSt} {o h : Nat} {a b : Int32} {Q : Unit → qSt → Prop} (hh : S.1 187 = nI h) (h3 : h < 321) (k : Q () (sS (aS (aS S 17 (upd (S.2.1 17) h a)) 18 (upd (S.2.1 18) h b)) 187 (nI (h + 1)))) : okS (f_Wk_push o a b) S Q := by
  unfold f_Wk_push
  simp (disch := omega) only [n_lit, ok_S, hh, nI_ltI, ok_if, ok_a, ok_s, ok_pure, aS_1, nI_add, aS_n, Nat.not_lt_zero, h3, if_true, if_false]
  exact k
