/-! THE TREE: what it is, and how the class's rows and repeats lie for it -/
def k0 (d : ND) : Nat := d.2.1.headD 0
def sumW (W : Nat → Nat) (ks : List Nat) : Nat := (ks.map W).sum
def wRep (how le mo w : Nat) : Nat := if how = 1 then w + 2 else if how = 2 ∨ how = 3 then w + 1 else if how = 4 then le * w else if how = 5 then (le + 1) * w + 2 else if how = 6 then le * w + (mo - le) * (w + 1) else w
def rpC (d : ND) (s : Int32) (i : Option Nat) (nu az : Int32) (nx : Option Nat) : qE := oP s i nu az (nI (cle d.2.2.1 d.2.2.2.1)) (nI (cmo d.2.2.1 d.2.2.2.1 d.2.2.2.2.1)) (nI (cen d.2.2.1)) (nI (cpl d.2.2.1)) (nI d.2.2.2.2.2.1) nx
def azOf (a w : Nat) : Nat := min 1000 w + if 0 < a then 2 else 0
def rpOb (t : Nat → ND) (W ad : Nat → Nat) (x : Nat) (nx : Option Nat) : qE := if (t (k0 (t x))).1 = 3 then rpC (t x) (nI (t (k0 (t x))).2.2.1) none (nI 0) (nI 1) nx else rpC (t x) nN (some (ad (k0 (t (k0 (t (k0 (t x)))))))) (nI (t (k0 (t x))).2.2.1) (nI (azOf (t (k0 (t x))).2.2.1 (W (k0 (t (k0 (t x))))))) nx
def okN (d : ND) : Prop := d.2.2.1 ≤ 6 ∧ d.2.2.2.1 ≤ 9 ∧ d.2.2.2.2.1 ≤ 9 ∧ d.2.2.2.2.2.1 ≤ 1 ∧ (d.2.2.1 = 6 → d.2.2.2.1 ≤ d.2.2.2.2.1)
def SN (t : Nat → ND) (W : Nat → Nat) (u g n : Nat) : Prop := (t n).1 ≤ 4 ∧
  ((t n).1 = 0 → (t n).2.1 ≠ [] ∧ (∀ x ∈ (t n).2.1, (t x).1 = 1) ∧ W n + 2 = sumW W (t n).2.1 + 2 * (t n).2.1.length) ∧
  ((t n).1 = 1 → (∀ x ∈ (t n).2.1, (t x).1 = 2) ∧ W n = sumW W (t n).2.1) ∧
  ((t n).1 = 2 → ∃ m, (t n).2.1 = [m] ∧ ((t m).1 = 3 ∨ (t m).1 = 4) ∧ W n = wRep (t n).2.2.1 (t n).2.2.2.1 (t n).2.2.2.2.1 (W m) ∧ okN (t n)) ∧
  ((t n).1 = 3 → (t n).2.1 = [] ∧ (t n).2.2.1 < u ∧ W n = 1) ∧
  ((t n).1 = 4 → ∃ c, (t n).2.1 = [c] ∧ (t c).1 = 0 ∧ (t n).2.2.1 ≤ g ∧ W n = W c + if 0 < (t n).2.2.1 then 2 else 0)
def LC (f : Nat → Option Nat → qE → Prop) (H : Nat → Option qE) (ad : Nat → Nat) : List Nat → Prop
  | [] => True
  | x :: r => (∃ e, H (ad x) = some e ∧ f x (r.head?.map ad) e) ∧ LC f H ad r
def fRp (t : Nat → ND) (W ad : Nat → Nat) : Nat → Option Nat → qE → Prop := fun x nx e => e = rpOb t W ad x nx
def fRw (t : Nat → ND) (W ad : Nat → Nat) : Nat → Option Nat → qE → Prop := fun x nx e => ∃ l, e = oR ((t x).2.1.head?.map ad) l nx (nI (min 1000 (W x)))
def HN (H : Nat → Option qE) (t : Nat → ND) (W ad : Nat → Nat) (n : Nat) : Prop := ((t n).1 = 0 → LC (fRw t W ad) H ad (t n).2.1) ∧ ((t n).1 = 1 → LC (fRp t W ad) H ad (t n).2.1)
def NdO (t : Nat → ND) (W ad : Nat → Nat) (H : Nat → Option qE) (u g hi n : Nat) : Prop := (∀ k ∈ (t n).2.1, n < k ∧ k < hi) ∧ SN t W u g n ∧ HN H t W ad n
def Sg (t : Nat → ND) (W ad : Nat → Nat) (H : Nat → Option qE) (u g lo hi : Nat) : Prop := ∀ n, lo ≤ n → n < hi → NdO t W ad H u g hi n
def isO (d : ND) : Prop := d.1 = 1 ∨ d.1 = 2
def AdO (t : Nat → ND) (ad : Nat → Nat) (lo hi a0 a1 : Nat) : Prop := (∀ n, lo ≤ n → n < hi → isO (t n) → a0 ≤ ad n ∧ ad n < a1) ∧ ∀ n m, lo ≤ n → n < m → m < hi → isO (t n) → isO (t m) → ad n < ad m
theorem hd_map {ad ad' : Nat → Nat} {r : List Nat} (h : ∀ y ∈ r, ad' y = ad y) : r.head?.map ad' = r.head?.map ad := by
  cases r with
  | nil => rfl
  | cons x r => simp [h x (by simp)]
theorem LC_cg {f f' : Nat → Option Nat → qE → Prop} {H H' : Nat → Option qE} {ad ad' : Nat → Nat} : ∀ {ks : List Nat}, (∀ y ∈ ks, ad' y = ad y) → (∀ y ∈ ks, ∀ nx e, H (ad y) = some e → f y nx e → ∃ e', H' (ad' y) = some e' ∧ f' y nx e') → LC f H ad ks → LC f' H' ad' ks := by
  intro ks
  induction ks with
  | nil => intro _ _ _; trivial
  | cons x r ih =>
    intro h1 h2 h3
    obtain ⟨⟨e, h4, h5⟩, h6⟩ := h3
    refine ⟨?_, ih (fun y hy => h1 y (by simp [hy])) (fun y hy => h2 y (by simp [hy])) h6⟩
    rw [hd_map (fun y hy => h1 y (by simp [hy]))]
    exact h2 x (by simp) _ e h4 h5
theorem LC_snoc {f : Nat → Option Nat → qE → Prop} {H H' : Nat → Option qE} {ad : Nat → Nat} {x N : Nat} (hx : ∃ e, H' (ad x) = some e ∧ f x (some (ad N)) e) (hN : ∃ e, H' (ad N) = some e ∧ f N none e) : ∀ {ks : List Nat}, LC f H ad ks → ks.getLast? = some x → ks.Pairwise (· < ·) → (∀ y ∈ ks, y ≠ x → H' (ad y) = H (ad y)) → LC f H' ad (ks ++ [N]) := by
  intro ks
  induction ks with
  | nil => intro _ h; cases h
  | cons y r ih =>
    intro h1 h2 h3 h4
    cases r with
    | nil =>
      simp at h2
      subst h2
      exact ⟨hx, hN, trivial⟩
    | cons z r' =>
      have h5 : (z :: r').getLast? = some x := by
        rw [List.getLast?_cons_cons] at h2
        exact h2
      have h6 : x ∈ z :: r' := List.mem_of_getLast? h5
      have h7 := List.pairwise_cons.mp h3
      have h8 : y ≠ x := by
        have := h7.1 x h6
        omega
      obtain ⟨⟨e, a1, a2⟩, a3⟩ := h1
      exact ⟨⟨e, (h4 y (by simp) h8).trans a1, a2⟩, ih a3 h5 h7.2 (fun w hw => h4 w (by simp [hw]))⟩
theorem sumW_cg {W W' : Nat → Nat} {ks : List Nat} (h : ∀ y ∈ ks, W' y = W y) : sumW W' ks = sumW W ks := by
  unfold sumW
  congr 1
  apply List.map_congr_left
  exact h
theorem sumW_snoc (W : Nat → Nat) (ks : List Nat) (N : Nat) : sumW W (ks ++ [N]) = sumW W ks + W N := by
  unfold sumW
  simp
section SG
variable {t t' : Nat → ND} {W W' ad ad' : Nat → Nat} {H H' : Nat → Option qE} {u u' g g' lo hi n : Nat} {D E : Nat → Prop}
theorem Nd_cg (hS : Sg t W ad H u g lo hi) (c1 : ∀ m, lo ≤ m → m < hi → ¬ D m → t' m = t m ∧ W' m = W m) (c2 : ∀ m, lo ≤ m → m < hi → ad' m = ad m) (c3 : ∀ m, lo ≤ m → m < hi → isO (t m) → ¬ E m → H' (ad m) = H (ad m)) (c5 : ∀ m, lo ≤ m → m < hi → ¬ D m → ∀ k ∈ (t m).2.1, ¬ D k ∧ ¬ E k) (hD : ∀ m, D m → (t m).1 = 0 ∨ (t m).1 = 1) (hu : u ≤ u') (hg : g ≤ g') (h1 : lo ≤ n) (h2 : n < hi) (h3 : ¬ D n) : NdO t' W' ad' H' u' g' hi n := by
  obtain ⟨a1, ⟨b0, b1, b2, b3, b4, b5⟩, d1, d2⟩ := hS n h1 h2
  obtain ⟨e1, e2⟩ := c1 n h1 h2 h3
  have kd : ∀ k ∈ (t n).2.1, lo ≤ k ∧ k < hi ∧ t' k = t k ∧ W' k = W k ∧ ad' k = ad k ∧ (isO (t k) → H' (ad k) = H (ad k)) ∧ ¬ D k := by
    intro k hk
    have := a1 k hk
    have q := c5 n h1 h2 h3 k hk
    have w := c1 k (by omega) (by omega) q.1
    exact ⟨by omega, by omega, w.1, w.2, c2 k (by omega) (by omega), fun o => c3 k (by omega) (by omega) o q.2, q.1⟩
  unfold NdO SN HN
  rw [e1, e2]
  refine ⟨a1, ⟨b0, fun h => ?_, fun h => ?_, fun h => ?_, fun h => ?_, fun h => ?_⟩, fun h => ?_, fun h => ?_⟩
  · obtain ⟨f1, f2, f3⟩ := b1 h
    refine ⟨f1, fun x hx => ?_, ?_⟩
    · rw [(kd x hx).2.2.1]; exact f2 x hx
    · rw [sumW_cg (fun y hy => (kd y hy).2.2.2.1)]; exact f3
  · obtain ⟨f2, f3⟩ := b2 h
    refine ⟨fun x hx => ?_, ?_⟩
    · rw [(kd x hx).2.2.1]; exact f2 x hx
    · rw [sumW_cg (fun y hy => (kd y hy).2.2.2.1)]; exact f3
  · obtain ⟨m, f1, f2, f3⟩ := b3 h
    have := kd m (by rw [f1]; simp)
    exact ⟨m, f1, by rw [this.2.2.1]; exact f2, by rw [this.2.2.2.1]; exact f3⟩
  · obtain ⟨f0, f1, f2⟩ := b4 h
    exact ⟨f0, by omega, f2⟩
  · obtain ⟨c, f1, f2, f3, f4⟩ := b5 h
    have := kd c (by rw [f1]; simp)
    exact ⟨c, f1, by rw [this.2.2.1]; exact f2, by omega, by rw [this.2.2.2.1]; exact f4⟩
  · refine LC_cg (fun y hy => (kd y hy).2.2.2.2.1) ?_ (d1 h)
    rintro y hy nx e he ⟨l, hl⟩
    have k1 := kd y hy
    have k2 := (b1 h).2.1 y hy
    refine ⟨e, ?_, l, ?_⟩
    · rw [k1.2.2.2.2.1, k1.2.2.2.2.2.1 (Or.inl k2)]; exact he
    · rw [k1.2.2.1, k1.2.2.2.1, hl]
      congr 1
      refine (hd_map (fun z hz => ?_)).symm
      have := (hS y k1.1 k1.2.1).1 z hz
      exact c2 z (by omega) (by omega)
  · refine LC_cg (fun y hy => (kd y hy).2.2.2.2.1) ?_ (d2 h)
    intro y hy nx e he hl
    have k1 := kd y hy
    have k2 := (b2 h).1 y hy
    refine ⟨e, ?_, ?_⟩
    · rw [k1.2.2.2.2.1, k1.2.2.2.2.2.1 (Or.inr k2)]; exact he
    · have hl' : e = rpOb t W ad y nx := hl
      show e = rpOb t' W' ad' y nx
      rw [hl']
      obtain ⟨y1, ⟨_, _, _, y2, _⟩, _⟩ := hS y k1.1 k1.2.1
      obtain ⟨m, z1, z2, z3, z4⟩ := y2 k2
      have m1 := y1 m (by rw [z1]; simp)
      have m2 : ¬ D m := by
        intro q
        rcases hD m q with q | q <;> rcases z2 with z | z <;> omega
      have m3 := c1 m (by omega) (by omega) m2
      have k0y : k0 (t y) = m := by
        unfold k0
        rw [z1]
        rfl
      unfold rpOb
      rw [k1.2.2.1, k0y, m3.1]
      rcases z2 with z | z
      · rw [if_pos z, if_pos z]
      · have z' : ¬ (t m).1 = 3 := by omega
        rw [if_neg z', if_neg z']
        obtain ⟨x1, ⟨_, _, _, _, _, x2⟩, _⟩ := hS m (by omega) (by omega)
        obtain ⟨c, w1, w2, w3, w4⟩ := x2 z
        have k0m : k0 (t m) = c := by
          unfold k0
          rw [w1]
          rfl
        have cr := x1 c (by rw [w1]; simp)
        have c6 := c5 m (by omega) (by omega) m2 c (by rw [w1]; simp)
        have c7 := c1 c (by omega) (by omega) c6.1
        rw [k0m, c7.1, c7.2]
        obtain ⟨v1, ⟨_, v2, _⟩, _⟩ := hS c (by omega) (by omega)
        obtain ⟨v3, v4, v5⟩ := v2 w2
        cases hr : (t c).2.1 with
        | nil => exact absurd hr v3
        | cons r r' =>
          have k0c : k0 (t c) = r := by
            unfold k0
            rw [hr]
            rfl
          have := v1 r (by rw [hr]; simp)
          rw [k0c, c2 r (by omega) (by omega)]
theorem Sg_cg (hS : Sg t W ad H u g lo hi) (c1 : ∀ m, lo ≤ m → m < hi → t' m = t m ∧ W' m = W m) (c2 : ∀ m, lo ≤ m → m < hi → ad' m = ad m) (c3 : ∀ m, lo ≤ m → m < hi → isO (t m) → H' (ad m) = H (ad m)) (hu : u ≤ u') (hg : g ≤ g') : Sg t' W' ad' H' u' g' lo hi := by
  intro n h1 h2
  exact Nd_cg (D := fun _ => False) (E := fun _ => False) hS (fun m a b _ => c1 m a b) c2 (fun m a b c _ => c3 m a b c) (fun m _ _ _ k _ => ⟨id, id⟩) (fun m q => q.elim) hu hg h1 h2 id
theorem Nd_hi {hi' : Nat} (h : NdO t W ad H u g hi n) (hh : hi ≤ hi') : NdO t W ad H u g hi' n := ⟨fun k hk => ⟨(h.1 k hk).1, Nat.lt_of_lt_of_le (h.1 k hk).2 hh⟩, h.2⟩
theorem Sg_app {mid : Nat} (h1 : Sg t W ad H u g lo mid) (h2 : Sg t W ad H u g mid hi) (hm : mid ≤ hi) : Sg t W ad H u g lo hi := by
  intro n a b
  by_cases h : n < mid
  · exact Nd_hi (h1 n a h) hm
  · exact h2 n (by omega) b
end SG
theorem mul_le1 {a x : Nat} (h : 0 < a) : x ≤ a * x := Nat.le_mul_of_pos_left x h
theorem wRep_min {h l m s s' w e : Nat} (hs : s = min 1000 s') : min 1000 (s + wRep h l m (min 1000 w + e)) = min 1000 (s' + wRep h l m (w + e)) := by
  subst hs
  rcases Nat.lt_or_ge w 1000 with hw | hw
  · rw [Nat.min_eq_right (show w ≤ 1000 by omega)]
    omega
  · rw [Nat.min_eq_left (show 1000 ≤ w by omega)]
    unfold wRep
    split
    · omega
    split
    · omega
    split
    · rcases Nat.eq_zero_or_pos l with q | q
      · subst q
        simp only [Nat.zero_mul]
        omega
      · have a1 := mul_le1 (x := 1000 + e) q
        have a2 := mul_le1 (x := w + e) q
        omega
    split
    · have a1 := mul_le1 (a := l + 1) (x := 1000 + e) (by omega)
      have a2 := mul_le1 (a := l + 1) (x := w + e) (by omega)
      omega
    split
    · rcases Nat.eq_zero_or_pos l with q | q
      · subst q
        rcases Nat.eq_zero_or_pos m with q | q
        · subst q
          simp only [Nat.zero_mul, Nat.sub_zero]
          omega
        · have a1 := mul_le1 (a := m) (x := 1000 + e + 1) q
          have a2 := mul_le1 (a := m) (x := w + e + 1) q
          simp only [Nat.zero_mul, Nat.sub_zero]
          omega
      · have a1 := mul_le1 (x := 1000 + e) q
        have a2 := mul_le1 (x := w + e) q
        omega
    · omega
