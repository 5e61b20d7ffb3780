/-! READING: how far it goes -/
def RB (p s : Nat) (B : MBf) (x : Nat ⊕ (Nat × MBf)) : Prop := match x with
  | .inl e => p ≤ e ∧ e ≤ 48
  | .inr (q, B') => p < q ∧ q ≤ 48 ∧ ∀ s' c', s' ≠ s → B' s' c' = B s' c'
def RK (p : Nat) (x : Nat ⊕ (Nat × Nat × Nat × Nat × Nat)) : Prop := match x with
  | .inl e => p ≤ e ∧ e ≤ 48
  | .inr (q, how, le, mo, lz) => p ≤ q ∧ q ≤ 48 ∧ how ≤ 6 ∧ le ≤ 9 ∧ mo ≤ 9 ∧ lz ≤ 1 ∧ (how = 6 → le ≤ mo)
section BO
variable {c : Nat → Nat} {s p q : Nat} {B B0 : MBf}
theorem adR_o {a b : Nat} : ∀ s' c', s' ≠ s → adR B s a b s' c' = B s' c' := by
  intro s' c' h
  unfold adR
  simp [h]
theorem escB_o {x : Nat} : ∀ s' c', s' ≠ s → escB B s x s' c' = B s' c' := by
  intro s' c' h
  unfold escB
  split
  · exact adR_o s' c' h
  · split
    · rw [adR_o s' c' h, adR_o s' c' h, adR_o s' c' h, adR_o s' c' h]
    · exact adR_o s' c' h
theorem sEsc_r (hc : ∀ p, c p ≠ 0 → p < 48) (hp : p ≤ 48) : RB p s B (sEsc c s p B) := by
  unfold sEsc
  split
  · exact ⟨Nat.le_refl _, hp⟩
  · rename_i h
    have := hc p h
    exact ⟨by omega, by omega, escB_o⟩
theorem RB_up {x : Nat ⊕ (Nat × MBf)} (h : RB q s B x) (hq : p ≤ q) : RB p s B x := by
  cases x with
  | inl e => exact ⟨Nat.le_trans hq h.1, h.2⟩
  | inr z => exact ⟨Nat.lt_of_le_of_lt hq h.1, h.2⟩
theorem sItem_r (hc : ∀ p, c p ≠ 0 → p < 48) (hp : p ≤ 48) : RB p s B (sItem c s p B) := by
  unfold sItem
  split
  · rename_i h
    have := hc p (by omega)
    exact RB_up (sEsc_r hc (by omega)) (by omega)
  · split
    · exact ⟨Nat.le_refl _, hp⟩
    · rename_i h1 h2
      have h3 := hc p (isIt_0 (by simpa using h2))
      split
      · rename_i h4
        have h5 := hc (p + 1) (by omega)
        split
        · exact ⟨by omega, by omega⟩
        · rename_i h6
          have h7 := hc (p + 2) (isIt_0 (by simpa using h6))
          split
          · exact ⟨by omega, by omega⟩
          · exact ⟨by omega, by omega, adR_o⟩
      · exact ⟨by omega, by omega, adR_o⟩
theorem sItems_r (hc : ∀ p, c p ≠ 0 → p < 48) : ∀ (f p : Nat) (B : MBf), p ≤ 48 → RB p s B (sItems c s f p B) := by
  intro f
  induction f with
  | zero => intro p B hp; exact ⟨Nat.le_refl _, hp⟩
  | succ f ih =>
    intro p B hp
    have h := @sItem_r c s p B hc hp
    unfold sItems
    cases hx : sItem c s p B with
    | inl e => rw [hx] at h; exact h
    | inr z =>
      obtain ⟨q, B'⟩ := z
      rw [hx] at h
      obtain ⟨h1, h2, h3⟩ := h
      dsimp only
      split
      · rename_i h4
        have := hc q (by omega)
        exact ⟨by omega, by omega, h3⟩
      · have h5 := ih q B' h2
        cases hy : sItems c s f q B' with
        | inl e => rw [hy] at h5; exact ⟨by have := h5.1; omega, h5.2⟩
        | inr z =>
          obtain ⟨q2, B2⟩ := z
          rw [hy] at h5
          exact ⟨by have := h5.1; omega, h5.2.1, fun s' c' h => (h5.2.2 s' c' h).trans (h3 s' c' h)⟩
theorem sSet_r (hc : ∀ p, c p ≠ 0 → p < 48) (hp : p ≤ 48) : RB p s B (sSet c s p B) := by
  unfold sSet
  split
  · rename_i h
    have h1 := hc p (by omega)
    have h5 := @sItems_r c s hc 60 (p + 1) B (by omega)
    cases hy : sItems c s 60 (p + 1) B with
    | inl e => rw [hy] at h5; exact ⟨by have := h5.1; omega, h5.2⟩
    | inr z =>
      obtain ⟨q2, B2⟩ := z
      rw [hy] at h5
      refine ⟨by have := h5.1; omega, h5.2.1, fun s' c' h => ?_⟩
      unfold nvB
      rw [if_neg h]
      exact h5.2.2 s' c' h
  · exact sItems_r hc 60 p B hp
theorem sChars_r (hc : ∀ p, c p ≠ 0 → p < 48) (hp : p ≤ 48) : RB p s B (sChars c s p B) := by
  unfold sChars
  split
  · rename_i h
    have h1 := hc p (by omega)
    exact RB_up (sSet_r hc (by omega)) (by omega)
  · split
    · rename_i h
      have h1 := hc p (by omega)
      exact RB_up (sEsc_r hc (by omega)) (by omega)
    · split
      · rename_i h
        have h1 := hc p (by omega)
        exact ⟨by omega, by omega, adR_o⟩
      · split
        · rename_i h
          have h1 := hc p (by
            intro e
            rw [e] at h
            exact absurd h (by decide))
          exact ⟨by omega, by omega, adR_o⟩
        · exact ⟨Nat.le_refl _, hp⟩
theorem sLz_r {how le mo : Nat} (hc : ∀ p, c p ≠ 0 → p < 48) (hp : p ≤ q) (hq : q ≤ 48) (h1 : how ≤ 6) (h2 : le ≤ 9) (h3 : mo ≤ 9) (h4 : how = 6 → le ≤ mo) : RK p (sLz c q how le mo) := by
  unfold sLz
  split
  · rename_i h
    have := hc q (by omega)
    exact ⟨by omega, by omega, h1, h2, h3, by omega, h4⟩
  · exact ⟨hp, hq, h1, h2, h3, by omega, h4⟩
theorem sCount_r (hc : ∀ p, c p ≠ 0 → p < 48) (hp : p ≤ 48) : RK p (sCount c p) := by
  unfold sCount
  have k1 := hc p
  have k2 := hc (p + 1)
  have k3 := hc (p + 1 + 1)
  have k4 := hc (p + 1 + 1 + 1)
  have k5 := hc (p + 1 + 1 + 1 + 1)
  split
  · have := k1 (by omega)
    exact sLz_r hc (by omega) (by omega) (by omega) (by omega) (by omega) (by omega)
  split
  · have := k1 (by omega)
    exact sLz_r hc (by omega) (by omega) (by omega) (by omega) (by omega) (by omega)
  split
  · have := k1 (by omega)
    exact sLz_r hc (by omega) (by omega) (by omega) (by omega) (by omega) (by omega)
  split
  · have g1 := k1 (by omega)
    split
    · have g2 := k2 (by omega)
      split
      · have g3 := k3 (by omega)
        split
        · have g4 := k4 (by omega)
          split
          · exact ⟨by omega, by omega⟩
          · split
            · have g5 := k5 (by omega)
              exact sLz_r hc (by omega) (by omega) (by omega) (by omega) (by omega) (by omega)
            · exact ⟨by omega, by omega⟩
        · split
          · have g4 := k4 (by omega)
            exact sLz_r hc (by omega) (by omega) (by omega) (by omega) (by omega) (by omega)
          · exact ⟨by omega, by omega⟩
      · split
        · have g3 := k3 (by omega)
          exact sLz_r hc (by omega) (by omega) (by omega) (by omega) (by omega) (by omega)
        · exact ⟨by omega, by omega⟩
    · exact ⟨by omega, by omega⟩
  · exact ⟨Nat.le_refl _, hp, by omega, by omega, by omega, by omega, by omega⟩
end BO
