/-! READING: class and reference side by side; appending a repeat -/
theorem rp_sz {t : Nat → ND} {W ad : Nat → Nat} {H : Nat → Option qE} {u g lo hi y : Nat} (hS : Sg t W ad H u g lo hi) (h1 : lo ≤ y) (h2 : y < hi) (k2 : (t y).1 = 2) : ∃ s i nu az le mo en pl lz, (∀ nx, rpOb t W ad y nx = oP s i nu az le mo en pl lz nx) ∧ ∀ v, mnI (nI (min 1000 v) + rsz az le mo en pl) = nI (min 1000 (v + W y)) := by
  obtain ⟨y1, ⟨_, _, _, y2, _⟩, _⟩ := hS y h1 h2
  obtain ⟨m, z1, z2, z3, z4⟩ := y2 k2
  have m1 := y1 m (by rw [z1]; simp)
  have k0y : k0 (t y) = m := by
    unfold k0
    rw [z1]
    rfl
  unfold rpOb
  rw [k0y]
  rcases z2 with z | z
  · simp only [if_pos z]
    unfold rpC
    refine ⟨_, _, _, _, _, _, _, _, _, fun _ => rfl, fun v => ?_⟩
    obtain ⟨r1, r2⟩ := rsz_n (az := 1) z4 (by omega)
    obtain ⟨_, ⟨_, _, _, _, s1, _⟩, _⟩ := hS m (by omega) (by omega)
    rw [r1, nI_add, mnI_n (by omega), z3, (s1 z).2.2]
    congr 1
    omega
  · have z' : ¬ (t m).1 = 3 := by omega
    simp only [if_neg z']
    unfold rpC
    refine ⟨_, _, _, _, _, _, _, _, _, fun _ => rfl, fun v => ?_⟩
    obtain ⟨x1, ⟨_, _, _, _, _, x2⟩, _⟩ := hS m (by omega) (by omega)
    obtain ⟨c, w1, w2, w3, w4⟩ := x2 z
    have k0m : k0 (t m) = c := by
      unfold k0
      rw [w1]
      rfl
    rw [k0m]
    have hz : azOf (t m).2.2.1 (W c) ≤ 1100 := by
      unfold azOf
      split <;> omega
    obtain ⟨r1, r2⟩ := rsz_n z4 hz
    rw [r1, nI_add, mnI_n (by omega), z3, w4]
    congr 1
    unfold azOf
    exact wRep_min rfl
section LA
variable {SC SM SC' SM' : qSt} {H H' H2 : qH} {len p u g N d w c a0 o p' g' u' N' b : Nat} {tx : Nat → Nat} {t t' : Nat → ND} {W ad W' ad' : Nat → Nat} {B B' : MBf}
theorem LI_app (h : LI o len tx c w d a0 SC SM H t W ad N p g u B) (hC : CH SC' len tx p' u' g' B') (hM : MH SM' len tx p' u' g' N' d t' B') (hB : NB p' u' g' N' d) (hE : BE B' u') (hK : ∀ i, i ≤ d → SM'.2.1 11 i = SM.2.1 11 i ∧ SM'.2.1 12 i = SM.2.1 12 i ∧ SM'.2.1 13 i = SM.2.1 13 i) (hu : u ≤ u') (hg : g ≤ g') (hN : N < N') (ht : ∀ n, n < N → t' n = (if n = w then kid (t w) N else t n) ∧ W' n = W n ∧ ad' n = ad n) (tN2 : (t' N).1 = 2) (hS' : Sg t' W' ad' H'.1 u' g' N N') (hA' : AdO t' ad' N N' H.2.1 H'.2.1) (hb : ad' N = H.2.1) (hb2 : H'.1 H.2.1 = some (rpOb t' W' ad' N none)) (hfr : ∀ a, a < H.2.1 → H'.1 a = H.1 a) (hlt : H.2.1 < H'.2.1) (q1 : H2.1 (ad w) = some (oR (((t w).2.1 ++ [N]).head?.map ad') (some H.2.1) none (nI (min 1000 (W w + W' N))))) (q2 : ∀ x, (t w).2.1.getLast? = some x → H2.1 (ad x) = some (rpOb t W ad x (some H.2.1))) (q3 : ∀ a, a ≠ ad w → (∀ x, (t w).2.1.getLast? = some x → a ≠ ad x) → H2.1 a = H'.1 a) (q4 : H2.2 = H'.2) (hDP : DP t' N N d N') : LI o len tx c w d a0 SC' SM' H2 t' (fun n => if n = w then W w + W' N else if n = c then W c + W' N else W' n) ad' N' p' g' u' B' := by
  obtain ⟨hC0, hM0, ⟨n1, n2, n3, n4, n5⟩, hE0, g12, g13, l1, l2, l3, l4, l5, l6, hS, ⟨hA1, hA2⟩, hO, hW, hA0, dp, dp1, dp2, dp3⟩ := h
  obtain ⟨dq, dq1, _, dq3⟩ := hDP
  have wO := hA1 w (by omega) l2 (Or.inl l4)
  have kc := (hM0.2.2.2.2.2.2.2 c (by omega)).2
  have kw := (hM0.2.2.2.2.2.2.2 w (by omega)).2
  have wk : w ∈ (t c).2.1 := List.mem_of_getLast? l5
  have parw := (kc.1 w wk).2.2
  have tw : t' w = kid (t w) N := by rw [(ht w l2).1, if_pos rfl]
  have tm : ∀ m, m < N → m ≠ w → t' m = t m := fun m h1 h2 => by rw [(ht m h1).1, if_neg h2]
  have tc : t' c = t c := tm c (by omega) (by omega)
  have adm : ∀ m, m < N → ad' m = ad m := fun m h1 => (ht m h1).2.2
  have Wm : ∀ m, m < N → W' m = W m := fun m h1 => (ht m h1).2.1
  obtain ⟨wa1, ⟨_, _, wb2, _⟩, _, wd2⟩ := hS w (by omega) l2
  obtain ⟨wf1, wf2⟩ := wb2 l4
  have obj : ∀ m, c ≤ m → m < N → isO (t m) → m ≠ w → (t w).2.1.getLast? ≠ some m → H2.1 (ad m) = H.1 (ad m) := by
    intro m h1 h2 h3 h4 h5
    have q := hA1 m h1 h2 h3
    rw [q3 (ad m) ?_ ?_, hfr (ad m) (by omega)]
    · rcases Nat.lt_or_ge m w with z | z
      · have := hA2 m w h1 z l2 h3 (Or.inl l4)
        omega
      · have := hA2 w m (by omega) (by omega) h2 (Or.inl l4) h3
        omega
    · intro x hx
      have xk := List.mem_of_getLast? hx
      have xr := wa1 x xk
      have xo : isO (t x) := Or.inr (wf1 x xk)
      rcases Nat.lt_trichotomy m x with z | z | z
      · have := hA2 m x h1 z (by omega) h3 xo
        omega
      · subst z
        exact absurd hx h5
      · have := hA2 x m (by omega) z h2 xo h3
        omega
  have objN : ∀ a, H.2.1 ≤ a → H2.1 a = H'.1 a := by
    intro a ha
    refine q3 a (by omega) (fun x hx => ?_)
    have xk := List.mem_of_getLast? hx
    have xr := wa1 x xk
    have := hA1 x (by omega) (by omega) (Or.inr (wf1 x xk))
    omega
  have c5 : ∀ m, c ≤ m → m < N → ¬ (m = c ∨ m = w) → ∀ k ∈ (t m).2.1, ¬ (k = c ∨ k = w) ∧ ¬ (k = w ∨ (t w).2.1.getLast? = some k) := by
    intro m h1 h2 h3 k hk
    have hk1 := (hS m h1 h2).1 k hk
    have hk2 := ((hM0.2.2.2.2.2.2.2 m (by omega)).2.1 k hk).2.2
    have nw : k ≠ w := by
      intro q
      subst q
      exact h3 (Or.inl (hk2.symm.trans parw))
    refine ⟨fun q => ?_, fun q => ?_⟩
    · rcases q with q | q
      · omega
      · exact nw q
    · rcases q with q | q
      · exact nw q
      · have := (kw.1 k (List.mem_of_getLast? q)).2.2
        exact h3 (Or.inr (hk2.symm.trans this))
  have c1 : ∀ m, c ≤ m → m < N → ¬ (m = c ∨ m = w) → t' m = t m ∧ (fun n => if n = w then W w + W' N else if n = c then W c + W' N else W' n) m = W m := by
    intro m h1 h2 h3
    dsimp only
    rw [if_neg (fun q => h3 (Or.inr q)), if_neg (fun q => h3 (Or.inl q))]
    exact ⟨tm m h2 (fun q => h3 (Or.inr q)), Wm m h2⟩
  have hD : ∀ m, (m = c ∨ m = w) → (t m).1 = 0 ∨ (t m).1 = 1 := by
    rintro m (q | q)
    · subst q; exact Or.inl l3
    · subst q; exact Or.inr l4
  refine ⟨hC, hM, hB, hE, by rw [(hK d (Nat.le_refl d)).2.1]; exact g12, by rw [(hK d (Nat.le_refl d)).2.2]; exact g13, l1, by omega, by rw [tc]; exact l3, by rw [tw]; exact l4, by rw [tc]; exact l5, by rw [tc]; exact l6, ?_, ⟨?_, ?_⟩, hO, ?_, ?_, ?_⟩
  · intro n a hn
    rcases Nat.lt_or_ge n N with hlt' | hge
    · by_cases ec : n = c
      · subst ec
        obtain ⟨a1, ⟨b0, b1, _⟩, d1, _⟩ := hS n (Nat.le_refl _) (by omega)
        obtain ⟨f1, f2, f3⟩ := b1 l3
        unfold NdO SN HN
        rw [tc]
        refine ⟨fun k hk => ?_, ⟨by omega, fun _ => ⟨f1, fun x hx => ?_, ?_⟩, fun h => (by omega), fun h => (by omega), fun h => (by omega), fun h => (by omega)⟩, fun _ => ?_, fun h => (by omega)⟩
        · have := a1 k hk
          omega
        · by_cases e : x = w
          · subst e
            rw [tw]
            exact l4
          · have := a1 x hx
            rw [tm x (by omega) e]
            exact f2 x hx
        · have sw : ∀ ks : List Nat, ks.Pairwise (· < ·) → (∀ k ∈ ks, n < k ∧ k < N) → w ∈ ks → sumW (fun m => if m = w then W w + W' N else if m = n then W n + W' N else W' m) ks = sumW W ks + W' N := by
            intro ks
            induction ks with
            | nil => intro _ _ h; cases h
            | cons k r ih =>
              intro h1 h2 h3
              have h4 := List.pairwise_cons.mp h1
              have h5 := h2 k (by simp)
              unfold sumW at ih ⊢
              simp only [List.map_cons, List.sum_cons]
              by_cases e : k = w
              · subst e
                rw [if_pos rfl]
                have e2 : (r.map (fun m => if m = k then W k + W' N else if m = n then W n + W' N else W' m)).sum = (r.map W).sum := by
                  congr 1
                  apply List.map_congr_left
                  intro y hy
                  have := h4.1 y hy
                  have := h2 y (by simp [hy])
                  rw [if_neg (by omega), if_neg (by omega), Wm y (by omega)]
                rw [e2]
                omega
              · have h6 : w ∈ r := by
                  rcases List.mem_cons.mp h3 with q | q
                  · exact absurd q.symm e
                  · exact q
                rw [ih h4.2 (fun y hy => h2 y (by simp [hy])) h6, if_neg e, if_neg (by omega), Wm k (by omega)]
                omega
          dsimp only
          rw [if_neg (by omega), if_pos rfl, sw _ kc.2 a1 wk]
          omega
        · refine LC_cg (fun y hy => adm y (a1 y hy).2) ?_ (d1 l3)
          rintro y hy nx e he ⟨l, hl⟩
          have hy1 := a1 y hy
          by_cases ey : y = w
          · subst ey
            have hnx : nx = none := by
              rw [hW] at he
              injection he with he
              rw [hl] at he
              exact (oR_nx he).symm
            subst hnx
            refine ⟨_, by rw [adm y hy1.2]; exact q1, some H.2.1, ?_⟩
            rw [tw]
            dsimp only
            rw [if_pos rfl]
            rfl
          · refine ⟨e, ?_, l, ?_⟩
            · rw [adm y hy1.2, obj y (by omega) hy1.2 (Or.inl (f2 y hy)) ey ?_]
              · exact he
              · intro q
                have h1 := wf1 y (List.mem_of_getLast? q)
                have h2 := f2 y hy
                omega
            · rw [tm y hy1.2 ey]
              dsimp only
              rw [if_neg ey, if_neg (by omega), Wm y hy1.2, hl]
              congr 1
              refine (hd_map (fun z hz => ?_)).symm
              have := (hS y (by omega) hy1.2).1 z hz
              exact adm z (by omega)
      by_cases ew : n = w
      · subst ew
        unfold NdO SN HN
        rw [tw]
        refine ⟨fun k hk => ?_, ⟨by show (t n).1 ≤ 4; omega, fun h => (by have h' : (t n).1 = 0 := h; omega), fun _ => ⟨fun x hx => ?_, ?_⟩, fun h => (by have h' : (t n).1 = 2 := h; omega), fun h => (by have h' : (t n).1 = 3 := h; omega), fun h => (by have h' : (t n).1 = 4 := h; omega)⟩, fun h => (by have h' : (t n).1 = 0 := h; omega), fun _ => ?_⟩
        · have hk' : k ∈ (t n).2.1 ++ [N] := hk
          rw [List.mem_append] at hk'
          rcases hk' with q | q
          · have := wa1 k q
            omega
          · have : k = N := by simpa using q
            omega
        · have hk' : x ∈ (t n).2.1 ++ [N] := hx
          rw [List.mem_append] at hk'
          rcases hk' with q | q
          · have := wa1 x q
            rw [tm x (by omega) (by omega)]
            exact wf1 x q
          · have : x = N := by simpa using q
            subst this
            exact tN2
        · show (if n = n then W n + W' N else _) = sumW _ ((t n).2.1 ++ [N])
          rw [if_pos rfl, sumW_snoc, if_neg (by omega), if_neg (by omega), sumW_cg (W := W) (fun y hy => ?_), ← wf2]
          have := wa1 y hy
          rw [if_neg (by omega), if_neg (by omega), Wm y (by omega)]
        · show LC _ _ _ ((t n).2.1 ++ [N])
          have rc : ∀ y ∈ (t n).2.1, ∀ nx, rpOb t' (fun m => if m = n then W n + W' N else if m = c then W c + W' N else W' m) ad' y nx = rpOb t W ad y nx := by
            intro y hy nx
            have := wa1 y hy
            exact Rp_cg (D := fun m => m = c ∨ m = n) hS c1 (fun m _ h2 => adm m h2) (fun m h1 h2 h3 k hk => (c5 m h1 h2 h3 k hk).1) hD (by omega) (by omega) (wf1 y hy)
          have rN : rpOb t' (fun m => if m = n then W n + W' N else if m = c then W c + W' N else W' m) ad' N none = rpOb t' W' ad' N none := by
            refine Rp_cg (D := fun _ => False) hS' (fun m h1 _ _ => ⟨rfl, ?_⟩) (fun _ _ _ => rfl) (fun _ _ _ _ _ _ => id) (fun _ q => q.elim) (Nat.le_refl N) hN tN2
            try dsimp only
            rw [if_neg (by omega), if_neg (by omega)]
          have LC1 : LC (fRp t' (fun m => if m = n then W n + W' N else if m = c then W c + W' N else W' m) ad') H.1 ad' (t n).2.1 := by
            refine LC_cg (fun y hy => adm y (wa1 y hy).2) ?_ (wd2 l4)
            intro y hy nx e he hl
            have hl' : e = rpOb t W ad y nx := hl
            refine ⟨e, by rw [adm y (wa1 y hy).2]; exact he, ?_⟩
            show e = rpOb t' _ ad' y nx
            rw [rc y hy nx]
            exact hl'
          have hNe : ∃ e, H2.1 (ad' N) = some e ∧ fRp t' (fun m => if m = n then W n + W' N else if m = c then W c + W' N else W' m) ad' N none e := by
            refine ⟨_, ?_, rN.symm⟩
            rw [hb, objN _ (Nat.le_refl _)]
            exact hb2
          cases hl : (t n).2.1.getLast? with
          | none =>
            have : (t n).2.1 = [] := List.getLast?_eq_none_iff.mp hl
            rw [this]
            exact ⟨hNe, trivial⟩
          | some x =>
            have xk := List.mem_of_getLast? hl
            have xr := wa1 x xk
            refine LC_snoc (x := x) ⟨rpOb t W ad x (some H.2.1), ?_, ?_⟩ hNe LC1 hl kw.2 (fun y hy hyx => ?_)
            · rw [adm x (by omega)]
              exact q2 x hl
            · show rpOb t W ad x (some H.2.1) = rpOb t' _ ad' x (some (ad' N))
              rw [rc x xk, hb]
            · have := wa1 y hy
              rw [adm y (by omega)]
              refine obj y (by omega) (by omega) (Or.inr (wf1 y hy)) (by omega) ?_
              rw [hl]
              intro q
              injection q with q
              exact hyx q.symm
      refine Nd_hi (Nd_cg (D := fun m => m = c ∨ m = w) (E := fun m => m = w ∨ (t w).2.1.getLast? = some m) hS c1 (fun m _ h2 => adm m h2) (fun m h1 h2 h3 h4 => obj m h1 h2 h3 (fun q => h4 (Or.inl q)) (fun q => h4 (Or.inr q))) c5 hD hu hg a hlt' (fun q => ?_)) (by omega)
      rcases q with q | q
      · exact ec q
      · exact ew q
    · refine Sg_cg hS' (fun m h1 h2 => ⟨rfl, ?_⟩) (fun m h1 h2 => rfl) (fun m h1 h2 h3 => ?_) (Nat.le_refl _) (Nat.le_refl _) n hge hn
      · try dsimp only
        rw [if_neg (by omega), if_neg (by omega)]
      · have := hA'.1 m h1 h2 h3
        exact objN _ (by omega)
  · intro n a b hn
    rcases Nat.lt_or_ge n N with hlt' | hge
    · have hn' : isO (t n) := by
        by_cases ew : n = w
        · subst ew
          exact Or.inl l4
        · rw [tm n hlt' ew] at hn
          exact hn
      have := hA1 n a hlt' hn'
      rw [adm n hlt', q4]
      omega
    · have := hA'.1 n hge b hn
      rw [q4]
      have w1 := wO.1
      omega
  · intro n m a b e hn hm
    have isn : ∀ x, x < N → isO (t' x) → isO (t x) := by
      intro x h2 hx
      by_cases ew : x = w
      · subst ew
        exact Or.inl l4
      · rw [tm x h2 ew] at hx
        exact hx
    rcases Nat.lt_or_ge m N with h1 | h1
    · rw [adm n (by omega), adm m h1]
      exact hA2 n m a b h1 (isn n (by omega) hn) (isn m h1 hm)
    · rcases Nat.lt_or_ge n N with h2 | h2
      · have q5 := hA1 n a h2 (isn n h2 hn)
        have q6 := hA'.1 m h1 e hm
        rw [adm n h2]
        omega
      · exact hA'.2 n m h2 b e hn hm
  · dsimp only
    rw [adm w l2, q1, tw, if_pos rfl]
    show _ = some (oR _ (((t w).2.1 ++ [N]).getLast?.map ad') none _)
    rw [List.getLast?_concat]
    show _ = some (oR _ (some (ad' N)) none _)
    rw [hb]
    rfl
  · have wl : c + 1 < N := by omega
    rw [adm (c + 1) wl]
    exact hA0
  · obtain ⟨dr, r1, r2⟩ : ∃ dr : Nat → Nat, (∀ n, n < N → dr n = dp n) ∧ ∀ n, ¬ n < N → dr n = dq n := ⟨fun n => if n < N then dp n else dq n, fun n h => if_pos h, fun n h => if_neg h⟩
    refine ⟨dr, (r1 c (by omega)).trans dp1, (r1 w l2).trans dp2, fun n a b => ?_⟩
    by_cases eN : n < N
    · rw [r1 n eN]
      obtain ⟨z1, z2⟩ := dp3 n a eN
      refine ⟨z1, fun k hk => ?_⟩
      have kind : ∀ k, k < N → (t' k).1 = (t k).1 := by
        intro k h1
        by_cases ew : k = w
        · subst ew
          rw [tw]
          rfl
        · rw [tm k h1 ew]
      by_cases ew : n = w
      · subst ew
        rw [tw] at hk
        have hk' : k ∈ (t n).2.1 ++ [N] := hk
        rw [List.mem_append] at hk'
        rcases hk' with q | q
        · have hkr := (hS n a (by omega)).1 k q
          rw [r1 k (by omega), kind k (by omega)]
          exact z2 k q
        · have : k = N := by simpa using q
          subst this
          rw [r2 k (by omega), tN2, dp2, dq1]
          rfl
      · rw [tm n eN ew] at hk
        have hkr := (hS n a (by omega)).1 k hk
        rw [r1 k (by omega), kind k (by omega)]
        exact z2 k hk
    · rw [r2 n eN]
      obtain ⟨z1, z2⟩ := dq3 n (by omega) b
      refine ⟨z1, fun k hk => ?_⟩
      have hkr := (hS' n (by omega) b).1 k hk
      rw [r2 k (by omega)]
      exact z2 k hk
end LA
