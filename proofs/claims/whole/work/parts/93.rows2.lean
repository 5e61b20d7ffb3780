/-! READING: class and reference side by side; rows -/
def LPost (o len : Nat) (tx : Nat → Nat) (c d a0 : Nat) (SC SM : qSt) (H : qH) (t : Nat → ND) (p g u : Nat) (r : Option Nat) (SC' : qSt) (H' : qH) : Prop :=
  r = some a0 ∧ FrY SC SC' ∧ (∀ a, a < a0 → H'.1 a = H.1 a) ∧ H.2.1 ≤ H'.2.1 ∧
  ((∃ e q s0 rs, SC'.1 85 = nI e ∧ e ≤ 48 ∧ SC'.1 83 = nI q ∧ p ≤ q ∧ q ≤ 48 ∧ ErM SM e ∧ Ctr H H' p q 1 10 ∧ SzC H'.1 ((a0, s0) :: rs) ∧ ∀ y ∈ (a0, s0) :: rs, a0 ≤ y.1) ∨
  ∃ SM' t' W' ad' N' p' g' u' B' w', Ld SM SM' ∧ FrZ SM SM' ∧ LI o len tx c w' d a0 SC' SM' H' t' W' ad' N' p' g' u' B' ∧ (pe len tx p' = 0 ∨ pe len tx p' = 41) ∧ (∀ n, n < c → t' n = t n) ∧ StK SM SM' d ∧ p ≤ p' ∧ u ≤ u' ∧ g ≤ g' ∧ Ctr H H' p p' 0 0)
theorem LP_tr {o len c d a0 p g u p1 g1 u1 : Nat} {tx : Nat → Nat} {SC SM SC1 SM1 SC' : qSt} {H H1 H' : qH} {t t1 : Nat → ND} {r : Option Nat} (h : LPost o len tx c d a0 SC1 SM1 H1 t1 p1 g1 u1 r SC' H') (f1 : FrY SC SC1) (f2 : ∀ a, a < a0 → H1.1 a = H.1 a) (f3 : H.2.1 ≤ H1.2.1) (f4 : Ld SM SM1) (f5 : FrZ SM SM1) (f6 : ∀ n, n < c → t1 n = t n) (f7 : StK SM SM1 d) (f8 : p ≤ p1) (f9 : u ≤ u1) (f10 : g ≤ g1) (f11 : Ctr H H1 p p1 0 0) : LPost o len tx c d a0 SC SM H t p g u r SC' H' := by
  obtain ⟨a1, a2, a3, a4, a5⟩ := h
  refine ⟨a1, FrY_tr a2 f1, fun a ha => (a3 a ha).trans (f2 a ha), Nat.le_trans f3 a4, ?_⟩
  rcases a5 with ⟨e, q, s0, rs, b1, b2, b3, b4, b5, b6, b7, b8, b9⟩ | ⟨SM', t', W', ad', N', p', g', u', B', w', b1, b2, b3, b4, b5, b6, b7, b8, b9, b10⟩
  · refine Or.inl ⟨e, q, s0, rs, b1, b2, b3, by omega, b5, Er_Ld b6 f4 f5, ?_, b8, b9⟩
    unfold Ctr at *
    omega
  · refine Or.inr ⟨SM', t', W', ad', N', p', g', u', B', w', Ld_tr f4 b1, FrZ_tr b2 f5, b3, b4, fun n hn => (b5 n hn).trans (f6 n hn), StK_tr b6 f7, by omega, by omega, by omega, ?_⟩
    unfold Ctr at *
    omega
def fAny : Nat → Option Nat → qE → Prop := fun _ nx e => ∃ f l s, e = oR f l nx s
theorem SzC_any {H : Nat → Option qE} {ad : Nat → Nat} : ∀ {ks : List Nat}, LC fAny H ad ks → ∃ rs : List (Nat × Int32), SzC H rs ∧ rs.map Prod.fst = ks.map ad := by
  intro ks
  induction ks with
  | nil => intro _; exact ⟨[], trivial, rfl⟩
  | cons x r ih =>
    rintro ⟨⟨e, h1, f, l, s, h2⟩, h3⟩
    obtain ⟨rs, i1, i2⟩ := ih h3
    refine ⟨(ad x, s) :: rs, ⟨⟨f, l, ?_⟩, i1⟩, by simp [i2]⟩
    show H (ad x) = _
    rw [h1, h2]
    have e1 : rs.head?.map Prod.fst = r.head?.map ad := by
      rw [← List.head?_map, ← List.head?_map, i2]
    rw [e1]
theorem LC_last {f : Nat → Option Nat → qE → Prop} {H : Nat → Option qE} {ad : Nat → Nat} {x : Nat} : ∀ {ks : List Nat}, LC f H ad ks → ks.getLast? = some x → ∃ e, H (ad x) = some e ∧ f x none e := by
  intro ks
  induction ks with
  | nil => intro _ h; cases h
  | cons y r ih =>
    intro h1 h2
    cases r with
    | nil =>
      simp at h2
      subst h2
      exact h1.1
    | cons z r' =>
      rw [List.getLast?_cons_cons] at h2
      exact ih h1.2 h2
theorem oR_nx {f l n f' l' n' : Option Nat} {s s' : Int32} (h : oR f l n s = oR f' l' n' s') : n = n' := by
  unfold oR at h
  simp only [Sum.inr.injEq, Prod.mk.injEq, List.cons.injEq, true_and, and_true] at h
  have h1 := h.2.2.1
  cases n <;> cases n' <;> simp_all [va_rf]
theorem rpOb_oP (t : Nat → ND) (W ad : Nat → Nat) (x : Nat) : ∃ s i nu az le mo en pl lz, ∀ nx, rpOb t W ad x nx = oP s i nu az le mo en pl lz nx := by
  unfold rpOb
  by_cases h : (t (k0 (t x))).1 = 3
  · simp only [if_pos h]
    exact ⟨_, _, _, _, _, _, _, _, _, fun _ => rfl⟩
  · simp only [if_neg h]
    exact ⟨_, _, _, _, _, _, _, _, _, fun _ => rfl⟩
section RPC
variable {t t' : Nat → ND} {W W' ad ad' : Nat → Nat} {H : Nat → Option qE} {u g lo hi y : Nat} {D : Nat → Prop} {nx : Option Nat}
theorem Rp_cg (hS : Sg t W ad H u g lo hi) (c1 : ∀ m, lo ≤ m → m < hi → ¬ D m → t' m = t m ∧ W' m = W m) (c2 : ∀ m, lo ≤ m → m < hi → ad' m = ad m) (c5 : ∀ m, lo ≤ m → m < hi → ¬ D m → ∀ k ∈ (t m).2.1, ¬ D k) (hD : ∀ m, D m → (t m).1 = 0 ∨ (t m).1 = 1) (h1 : lo ≤ y) (h2 : y < hi) (k2 : (t y).1 = 2) : rpOb t' W' ad' y nx = rpOb t W ad y nx := by
  have yD : ¬ D y := by
    intro q
    rcases hD y q with z | z <;> omega
  have k1 := c1 y h1 h2 yD
  obtain ⟨y1, ⟨_, _, _, y2, _⟩, _⟩ := hS y h1 h2
  obtain ⟨m, z1, z2, z3, z4⟩ := y2 k2
  have m1 := y1 m (by rw [z1]; simp)
  have m2 : ¬ D m := by
    intro q
    rcases hD m q with q | q <;> rcases z2 with z | z <;> omega
  have m3 := c1 m (by omega) (by omega) m2
  have k0y : k0 (t y) = m := by
    unfold k0
    rw [z1]
    rfl
  unfold rpOb
  rw [k1.1, k0y, m3.1]
  rcases z2 with z | z
  · rw [if_pos z, if_pos z]
  · have z' : ¬ (t m).1 = 3 := by omega
    rw [if_neg z', if_neg z']
    obtain ⟨x1, ⟨_, _, _, _, _, x2⟩, _⟩ := hS m (by omega) (by omega)
    obtain ⟨c, w1, w2, w3, w4⟩ := x2 z
    have k0m : k0 (t m) = c := by
      unfold k0
      rw [w1]
      rfl
    have cr := x1 c (by rw [w1]; simp)
    have c6 := c5 m (by omega) (by omega) m2 c (by rw [w1]; simp)
    have c7 := c1 c (by omega) (by omega) c6
    rw [k0m, c7.1, c7.2]
    obtain ⟨v1, ⟨_, v2, _⟩, _⟩ := hS c (by omega) (by omega)
    obtain ⟨v3, v4, v5⟩ := v2 w2
    cases hr : (t c).2.1 with
    | nil => exact absurd hr v3
    | cons r r' =>
      have k0c : k0 (t c) = r := by
        unfold k0
        rw [hr]
        rfl
      have := v1 r (by rw [hr]; simp)
      rw [k0c, c2 r (by omega) (by omega)]
end RPC
section RB
variable {SC SM : qSt} {H : qH} {len p u g N d w c a0 o : Nat} {tx : Nat → Nat} {t : Nat → ND} {W ad : Nat → Nat} {B : MBf}
/-- a bar: a new row -/
theorem LI_bar {SM' : qSt} (h : LI o len tx c w d a0 SC SM H t W ad N p g u B) (hM : MH SM' len tx (p + 1) u g (N + 1) d (tN t N c 1) B) (s12 : SM'.2.1 12 = SM.2.1 12) (s13 : SM'.2.1 13 = upd (SM.2.1 13) d (nI N)) (hp : p < 48) : LI o len tx c N d a0 (sS SC 83 (nI (p + 1))) SM' (q_up (q_up H.1 H.2.1 (oR none none none (nI 0))) (ad w) (oR ((t w).2.1.head?.map ad) ((t w).2.1.getLast?.map ad) (some H.2.1) (nI (min 1000 (W w)))), H.2.1 + 1, H.2.2.1 + 1, H.2.2.2 + 4) (tN t N c 1) (fun n => if n = N then 0 else if n = c then W c + 2 else W n) (fun n => if n = N then H.2.1 else ad n) (N + 1) (p + 1) g u B := by
  obtain ⟨hC, hM0, ⟨n1, n2, n3, n4, n5⟩, hE, g12, g13, l1, l2, l3, l4, l5, l6, hS, ⟨hA1, hA2⟩, hO, hW, hA0, dp, dp1, dp2, dp3⟩ := h
  have wO := hA1 w (by omega) l2 (Or.inl l4)
  have kc := (hM0.2.2.2.2.2.2.2 c (by omega)).2
  have tc : tN t N c 1 c = kid (t c) N := by
    unfold tN
    rw [tU_s]
  have tNn : tN t N c 1 N = (1, [], 0, 0, 0, 0, c) := tN_new (by omega)
  have to : ∀ m, m < N → m ≠ c → tN t N c 1 m = t m := by
    intro m h1 h2
    unfold tN
    rw [tU_n h2, tU_n (by omega)]
  have wk : w ∈ (t c).2.1 := List.mem_of_getLast? l5
  have parw := (kc.1 w wk).2.2
  have hne : (t c).2.1 ≠ [] := by
    intro q
    rw [q] at wk
    cases wk
  refine ⟨⟨CI_at hC.1, (sS_n (by omega)).trans hC.2⟩, hM, ⟨by omega, by omega, n3, by omega, n5⟩, hE, by rw [s12]; exact g12, by rw [s13, updS], by omega, by omega, by rw [tc]; exact l3, by rw [tNn], by rw [tc]; exact List.getLast?_concat, ?_, ?_, ⟨?_, ?_⟩, hO, ?_, ?_, ?_⟩
  · rw [tc]
    show ((t c).2.1 ++ [N]).head? = some (c + 1)
    cases hk : (t c).2.1 with
    | nil => exact absurd hk hne
    | cons x r =>
      rw [hk] at l6
      exact l6
  · intro n a b
    have obj : ∀ m, c ≤ m → m < N → isO (t m) → m ≠ w → q_up (q_up H.1 H.2.1 (oR none none none (nI 0))) (ad w) (oR ((t w).2.1.head?.map ad) ((t w).2.1.getLast?.map ad) (some H.2.1) (nI (min 1000 (W w)))) (ad m) = H.1 (ad m) := by
      intro m h1 h2 h3 h4
      have q1 := hA1 m h1 h2 h3
      have q2 : ad m ≠ ad w := by
        rcases Nat.lt_or_ge m w with q | q
        · have := hA2 m w h1 q l2 h3 (Or.inl l4)
          omega
        · have := hA2 w m (by omega) (by omega) h2 (Or.inl l4) h3
          omega
      rw [upN q2, upN (by omega)]
    by_cases eN : n = N
    · subst eN
      unfold NdO SN HN
      rw [tNn]
      refine ⟨fun k hk => (by cases hk), ⟨by omega, fun h => (by cases h), fun _ => ⟨fun x hx => (by cases hx), ?_⟩, fun h => (by cases h), fun h => (by cases h), fun h => (by cases h)⟩, fun h => (by cases h), fun _ => trivial⟩
      dsimp only
      rw [if_pos rfl]
      rfl
    by_cases ec : n = c
    · subst ec
      obtain ⟨a1, ⟨b0, b1, _⟩, d1, _⟩ := hS n (Nat.le_refl _) (by omega)
      obtain ⟨f1, f2, f3⟩ := b1 l3
      unfold NdO SN HN
      rw [tc]
      have kin : ∀ k ∈ (t n).2.1, n < k ∧ k < N := a1
      refine ⟨fun k hk => ?_, ⟨by show (t n).1 ≤ 4; omega, fun _ => ⟨?_, fun x hx => ?_, ?_⟩, fun h => (by have h' : (t n).1 = 1 := h; omega), fun h => (by have h' : (t n).1 = 2 := h; omega), fun h => (by have h' : (t n).1 = 3 := h; omega), fun h => (by have h' : (t n).1 = 4 := h; omega)⟩, fun _ => ?_, fun h => (by have h' : (t n).1 = 1 := h; omega)⟩
      · have hk' : k ∈ (t n).2.1 ++ [N] := hk
        rw [List.mem_append] at hk'
        rcases hk' with q | q
        · have := kin k q
          omega
        · have : k = N := by simpa using q
          omega
      · show (t n).2.1 ++ [N] ≠ []
        simp
      · have hk' : x ∈ (t n).2.1 ++ [N] := hx
        rw [List.mem_append] at hk'
        rcases hk' with q | q
        · have := kin x q
          rw [to x (by omega) (by omega)]
          exact f2 x q
        · have : x = N := by simpa using q
          subst this
          rw [tNn]
      · show (if n = N then 0 else if n = n then W n + 2 else W n) + 2 = sumW _ ((t n).2.1 ++ [N]) + 2 * ((t n).2.1 ++ [N]).length
        rw [if_neg eN, if_pos rfl, sumW_snoc, if_pos rfl, sumW_cg (W := W) (fun y hy => ?_)]
        · simp only [List.length_append, List.length_cons, List.length_nil]
          omega
        · have := kin y hy
          rw [if_neg (by omega), if_neg (by omega)]
      · show LC _ _ _ ((t n).2.1 ++ [N])
        have LC1 : LC (fRw (tN t N n 1) (fun m => if m = N then 0 else if m = n then W n + 2 else W m) (fun m => if m = N then H.2.1 else ad m)) H.1 (fun m => if m = N then H.2.1 else ad m) (t n).2.1 := by
          refine LC_cg (fun y hy => ?_) ?_ (d1 l3)
          · have := kin y hy
            rw [if_neg (by omega)]
          · rintro y hy nx e he ⟨l, hl⟩
            have hy1 := kin y hy
            refine ⟨e, ?_, l, ?_⟩
            · rw [if_neg (by omega)]
              exact he
            · rw [to y (by omega) (by omega)]
              dsimp only
              rw [if_neg (by omega), if_neg (by omega), hl]
              congr 1
              refine (hd_map (fun z hz => ?_)).symm
              have := (hS y (by omega) (by omega)).1 z hz
              rw [if_neg (by omega)]
        refine LC_snoc (x := w) ?_ ?_ LC1 l5 kc.2 (fun y hy hyw => ?_)
        · dsimp only
          rw [if_neg (show w ≠ N by omega), if_pos rfl]
          refine ⟨_, upS _ _ _, (t w).2.1.getLast?.map ad, ?_⟩
          rw [to w (by omega) (by omega)]
          try dsimp only
          rw [if_neg (show w ≠ N by omega), if_neg (show w ≠ n by omega)]
          congr 1
          refine (hd_map (fun z hz => ?_)).symm
          have := (hS w (by omega) (by omega)).1 z hz
          rw [if_neg (by omega)]
        · dsimp only
          rw [if_pos rfl]
          refine ⟨oR none none none (nI 0), ?_, none, ?_⟩
          · rw [upN (by omega), upS]
          · rw [tNn]
            try dsimp only
            try rw [if_pos rfl]
            rfl
        · have hy1 := kin y hy
          dsimp only
          rw [if_neg (show y ≠ N by omega)]
          exact obj y (by omega) (by omega) (Or.inl (f2 y hy)) hyw
    refine Nd_hi (Nd_cg (D := fun m => m = c) (E := fun m => m = w) hS (fun m h1 h2 h3 => ?_) (fun m h1 h2 => ?_) (fun m h1 h2 h3 h4 => obj m h1 h2 h3 h4) (fun m h1 h2 h3 k hk => ⟨?_, ?_⟩) (fun m hm => ?_) (Nat.le_refl u) (Nat.le_refl g) a (by omega) ec) (by omega)
    · try dsimp only
      rw [to m h2 h3, if_neg (by omega), if_neg h3]
      exact ⟨rfl, rfl⟩
    · try dsimp only
      rw [if_neg (by omega)]
    · have := (hS m h1 h2).1 k hk
      omega
    · intro q
      subst q
      have := ((hM0.2.2.2.2.2.2.2 m (by omega)).2.1 k hk).2.2
      exact h3 (this.symm.trans parw)
    · subst hm
      exact Or.inl l3
  · intro n a b hn
    by_cases eN : n = N
    · subst eN
      dsimp only
      rw [if_pos rfl]
      show a0 ≤ H.2.1 ∧ H.2.1 < H.2.1 + 1
      omega
    · dsimp only
      rw [if_neg eN]
      have hn' : isO (t n) := by
        by_cases ec : n = c
        · subst ec
          rw [tc] at hn
          exact hn
        · rw [to n (by omega) ec] at hn
          exact hn
      have := hA1 n a (by omega) hn'
      show a0 ≤ ad n ∧ ad n < H.2.1 + 1
      omega
  · intro n m a b e hn hm
    have isn : ∀ x, c ≤ x → x < N → isO (tN t N c 1 x) → isO (t x) := by
      intro x h1 h2 hx
      by_cases ec : x = c
      · subst ec
        rw [tc] at hx
        exact hx
      · rw [to x h2 ec] at hx
        exact hx
    have hn' := isn n a (by omega) hn
    dsimp only
    rw [if_neg (show n ≠ N by omega)]
    by_cases eN : m = N
    · rw [if_pos eN]
      exact (hA1 n a (by omega) hn').2
    · rw [if_neg eN]
      exact hA2 n m a b (by omega) hn' (isn m (by omega) (by omega) hm)
  · dsimp only
    rw [if_pos rfl, if_pos rfl, tNn, upN (by omega), upS]
    rfl
  · dsimp only
    rw [if_neg (by omega)]
    exact hA0
  · obtain ⟨dr, r1, r2⟩ : ∃ dr : Nat → Nat, dr N = d ∧ ∀ n, n ≠ N → dr n = dp n := ⟨fun n => if n = N then d else dp n, if_pos rfl, fun n h => if_neg h⟩
    refine ⟨dr, (r2 c (by omega)).trans dp1, r1, fun n a b => ?_⟩
    by_cases eN : n = N
    · rw [eN, r1]
      refine ⟨n5, fun k hk => ?_⟩
      rw [tNn] at hk
      cases hk
    · rw [r2 n eN]
      obtain ⟨z1, z2⟩ := dp3 n a (by omega)
      refine ⟨z1, fun k hk => ?_⟩
      by_cases ec : n = c
      · subst ec
        rw [tc] at hk
        have hk' : k ∈ (t n).2.1 ++ [N] := hk
        rw [List.mem_append] at hk'
        rcases hk' with q | q
        · have hkr := (hS n (Nat.le_refl n) (by omega)).1 k q
          rw [r2 k (by omega), to k (by omega) (by omega)]
          exact z2 k q
        · have : k = N := by simpa using q
          subst this
          rw [r1, tNn, dp1]
          rfl
      · rw [to n (by omega) ec] at hk
        have hkr := (hS n a (by omega)).1 k hk
        rw [r2 k (by omega), to k (by omega) (by omega)]
        exact z2 k hk
end RB
