/-! a dead local, after its neighbour was written -/
def q_dk (e : Option Value) : Option Value := match e with
  | some v => if v.category = 2 then none else some v
  | none => none
theorem q_kill_dk {lo : qL} {j : Nat} (hj : j < lo.length) : q_kill lo (j + 1) = lo.set j (q_dk (lo.getD j none)) := by
  have hs : lo.set j (lo.getD j none) = lo := by
    apply List.ext_getElem?
    intro i
    rw [List.getElem?_set]
    by_cases h : j = i
    · subst h
      rw [if_pos rfl, if_pos hj, List.getD_eq_getElem?_getD, List.getElem?_eq_getElem hj]
      rfl
    · rw [if_neg h]
  simp only [q_kill]
  cases h : lo.getD j none with
  | none => rw [h] at hs; exact hs.symm
  | some v =>
    rw [h] at hs
    by_cases hv : v.category = 2
    · simp only [q_dk, if_pos hv]
    · simp only [q_dk, if_neg hv]; exact hs.symm
theorem q_st1_dk {lo : qL} {j : Nat} {v : Value} (hj : j < lo.length) : q_st1 lo (j + 1) v = (lo.set j (q_dk (lo.getD j none))).set (j + 1) (some v) := by unfold q_st1; rw [q_kill_dk hj]
theorem q_st2_dk {lo : qL} {j : Nat} {v : Value} (hj : j < lo.length) : q_st2 lo (j + 1) v = ((lo.set j (q_dk (lo.getD j none))).set (j + 1) (some v)).set (j + 1 + 1) none := by unfold q_st2; rw [q_kill_dk hj]
theorem pL_Cs_35 : q_PCs.2.2.2.2 35 = some (-1) := rfl
theorem pL_Md_176 : q_PMd.2.2.2.2 176 = some (2) := rfl
theorem pL_Md_178 : q_PMd.2.2.2.2 178 = some (10000) := rfl
theorem pL_Lo_314 : q_PLo.2.2.2.2 314 = some (6148914691236517205) := rfl
theorem pL_Lo_316 : q_PLo.2.2.2.2 316 = some (3689348814741910323) := rfl
theorem pL_Lo_318 : q_PLo.2.2.2.2 318 = some (1085102592571150095) := rfl
