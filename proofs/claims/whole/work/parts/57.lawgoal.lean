/-! THE LAW: its goal, and steps of it by the small machine -/
abbrev qSt : Type := (Nat → Int32) × (Nat → Nat → Int32) × (Nat → Int64) × (Nat → Nat)
def vT (S : qSt) (hm : qH) : qT := (S.1, S.2.1, S.2.2.1, S.2.2.2, hm)
theorem cC_v (o : Nat) (S : qSt) (hm hm' : qH) : cC o (vT S hm) = cC o (vT S hm') := by funext j; rfl
theorem cM_v (r : Nat) (S : qSt) (hm hm' : qH) : cM r (vT S hm) = cM r (vT S hm') := by funext j; rfl
theorem ov_comm {o N r K : Nat} {c d : Nat → qE} {h : Nat → Option qE} (hd : o + N ≤ r) : ov o N c (ov r K d h) = ov r K d (ov o N c h) := by
  funext a
  unfold ov
  by_cases h1 : o ≤ a ∧ a < o + N
  · rw [if_pos h1, if_neg (by omega), if_pos h1]
  · rw [if_neg h1]
    by_cases h2 : r ≤ a ∧ a < r + K
    · rw [if_pos h2, if_pos h2]
    · rw [if_neg h2, if_neg h2, if_neg h1]
/-- the heap of the law: the class's block, the reference's block, the rest -/
def Lw (o : Nat) (SC SM : qSt) (g : Nat → Option qE) (m : Nat × Nat × Nat) : qH := (ov o 21 (cC o (vT SC (g, m))) (ov (o + 21) 30 (cM (o + 21) (vT SM (g, m))) g), m)
def LwR (o : Nat) (SM : qSt) (g : Nat → Option qE) (m : Nat × Nat × Nat) : qH := (ov (o + 21) 30 (cM (o + 21) (vT SM (g, m))) g, m)
def LwL (o : Nat) (SC : qSt) (g : Nat → Option qE) (m : Nat × Nat × Nat) : qH := (ov o 21 (cC o (vT SC (g, m))) g, m)
theorem Lw_C (o : Nat) (SC SM : qSt) (g : Nat → Option qE) (m : Nat × Nat × Nat) : layC o (vT SC (LwR o SM g m)) = Lw o SC SM g m := by
  show (ov o 21 (cC o (vT SC (LwR o SM g m))) _, _) = _
  rw [cC_v o SC _ (g, m)]
  rfl
theorem Lw_M (o : Nat) (SC SM : qSt) (g : Nat → Option qE) (m : Nat × Nat × Nat) : layM (o + 21) (vT SM (LwL o SC g m)) = Lw o SC SM g m := by
  show (ov (o + 21) 30 (cM (o + 21) (vT SM (LwL o SC g m))) (ov o 21 (cC o (vT SC (g, m))) g), m) = _
  rw [cM_v (o + 21) SM _ (g, m), ← ov_comm (Nat.le_refl _)]
  rfl
/-- what is owed of class and reference: an answer alike, states alike -/
def opI (R : qSt → qSt → Prop) (fC fM : qW Int32) : Prop := ∀ SC SM, R SC SM → ∃ v SC' SM', (∀ hm, fC (vT SC hm) = some (v, vT SC' hm)) ∧ (∀ hm, fM (vT SM hm) = some (v, vT SM' hm)) ∧ R SC' SM'
def opV (R : qSt → qSt → Prop) (fC fM : qW Unit) : Prop := ∀ SC SM, R SC SM → ∃ SC' SM', (∀ hm, fC (vT SC hm) = some ((), vT SC' hm)) ∧ (∀ hm, fM (vT SM hm) = some ((), vT SM' hm)) ∧ R SC' SM'
def opX (R : qSt → qSt → Prop) (o : Nat) : Prop := ∀ SC SM, R SC SM → ∀ (h : Nat → Option qE) (n k w : Nat), o + 21 ≤ n → ∃ (res : Int32 ⊕ Nat) (SC' SM' : qSt) (x t : Int32),
  (∃ h' n' k' w', f_PW_compile o (vT SC (h, n, k, w)) = some (res, vT SC' (h', n', k', w')) ∧ (∀ a, a < n → h' a = h a) ∧ n ≤ n' ∧ k' ≤ k + 300 ∧ w' ≤ w + 3000) ∧
  (∀ hm, ∃ T1, f_Md_compile (vT SM hm) = some (x, T1) ∧ f_Md_thrown T1 = some (t, vT SM' hm)) ∧ ((res = .inl x ∧ t = 0) ∨ (∃ e : Nat, res = .inr e ∧ t = nI e ∧ (e = 1 ∨ e = 2))) ∧ R SC' SM'
section LAW
variable {p : Program} {l : Launch} {e : Env} {s : State} {m : MethodId} {below : List Frame} {meth : Method} {c : Code} {D : va_G} {ac : Nat → ClassId} {b L : Nat} {xs : Nat → Int32}
def q_GL (p : Program) (l : Launch) (e : Env) (s : State) (m : MethodId) (below : List Frame) (meth : Method) (c : Code) (D : va_G) (ac : Nat → ClassId) (b : Nat) (x : qS) : Prop :=
  q_G p l e room_1 s m #[Value.ref b] below meth c D q_cl ac s.heap.size 7 0 0 (lw_Z below #[Value.ref b] s) x
theorem gl_cx (C0 : lw_At p s m meth c b L xs) (hK : va_K D q_cl (q_tys ac) s) : q_Cx p s m #[Value.ref b] c D q_cl ac s.heap.size "PatternWalkLaw" q_mLa.1 7 q_Ts q_Ns := by
  obtain ⟨hx, hb, hr, hml, hown, hts, hX, hbl, hlocks, hgv⟩ := C0
  exact ⟨hx, hb, hml, hown, fun w hw => hts w (q_Ts_tbl w hw), fun w hw => va_Nw.of (q_isN_on (q_Ns_isN w hw)) (hts w (List.mem_filter.mp hw).1), hK, Nat.le_refl _⟩
theorem gl_step {x x' : qS} (C0 : lw_At p s m meth c b L xs) (hK : va_K D q_cl (q_tys ac) s) (h : q_step (q_ev q_Mt 100) q_mLa x = some (.inl x')) (hk : x'.2.2.2.2.2.1 ≤ 601024) (hw : x'.2.2.2.2.2.2 ≤ 7293034) (kk : q_GL p l e s m below meth c D ac b x') : q_GL p l e s m below meth c D ac b x := by
  obtain ⟨pc, lo, st, σ⟩ := x
  unfold q_step at h
  dsimp only at h
  split at h
  · rename_i i hins
    unfold q_ins at hins
    split at hins
    · rename_i i' n' hdec
      split at hins
      · rename_i hn
        cases hins
        exact q_ok_ex (d := 100) (gl_cx C0 hK) (fun z => by cases z) q_Ts_good q_Ns_isN (q_true 100) q_pokLa q_arrs (by decide) (by decide) (by rw [Nat.sub_zero]; exact hk) (by rw [Nat.sub_zero]; exact hw) hdec hn h kk
      · cases hins
    · cases hins
  · cases h
theorem gl_sld {pc : Nat} {lo : qL} {st : List Value} {σ : qH} {i : Int32} (C0 : lw_At p s m meth c b L xs) (hi : vp_in i L) (hd : decode q_mLa.1 pc = .ok (.iaload, 1)) (kk : q_GL p l e s m below meth c D ac b (pc + 1, lo, .int (xs i.toNatClampNeg) :: st, σ)) : q_GL p l e s m below meth c D ac b (pc, lo, .int i :: .ref b :: st, σ) := by
  obtain ⟨hx, hb, hr, hml, hown, hts, hX, hbl, hlocks, hgv⟩ := C0
  intro H locs ls h1 h2 h3 h4 h5 h6
  exact va_sld hx hb hX hbl (Nat.not_le.mpr hbl) h4 hi hd (kk H locs ls h1 h2 h3 h4 h5 h6)
theorem gl_slen {pc : Nat} {lo : qL} {st : List Value} {σ : qH} (C0 : lw_At p s m meth c b L xs) (hd : decode q_mLa.1 pc = .ok (.arraylength, 1)) (kk : q_GL p l e s m below meth c D ac b (pc + 1, lo, .int (Int32.ofNat L) :: st, σ)) : q_GL p l e s m below meth c D ac b (pc, lo, .ref b :: st, σ) := by
  obtain ⟨hx, hb, hr, hml, hown, hts, hX, hbl, hlocks, hgv⟩ := C0
  intro H locs ls h1 h2 h3 h4 h5 h6
  exact va_slen hx hb hX hbl (Nat.not_le.mpr hbl) h4 hd (kk H locs ls h1 h2 h3 h4 h5 h6)
theorem gl_ret {pc : Nat} {lo : qL} {σ : qH} (C0 : lw_At p s m meth c b L xs) (hd : decode q_mLa.1 pc = .ok (.ireturn, 1)) (hk : σ.2.2.1 ≤ 601024) (hw : σ.2.2.2 ≤ 7293034) : q_GL p l e s m below meth c D ac b (pc, lo, [.int 1], σ) := by
  obtain ⟨hx, hb, hr, hml, hown, hts, hX, hbl, hlocks, hgv⟩ := C0
  intro H locs ls h1 h2 h3 h4 h5 h6
  refine va_forget (fun q hq => h4.2.2 q hq) ?_
  refine W.widen (k := 601024) (n := 7293034) hk hw ?_
  exact lw_ret hx hb hr hlocks hd
/-- what PatternWalkLaw.compile does, at the law's call of it (owed apart) -/
def q_LC (p : Program) (l : Launch) (e : Env) (s : State) (m : MethodId) (below : List Frame) (meth : Method) (c : Code) (D : va_G) (ac : Nat → ClassId) (b : Nat) : Prop :=
  ∀ (lo : qL) (σ σ1 : qH) (res : Option Value ⊕ Nat) (q : Nat) (f : Nat → Int64) (fs : List Value), lo.length = 7 → σ.1 s.heap.size = some (.inr (0, fs)) → σ.1 q = some (.inl (2, 1, .inr (.inl f))) → q_ev q_Mt 60 13 [.ref (s.heap.size + 0)] σ = some (res, σ1) → σ1.1 q = some (.inl (2, 1, .inr (.inl f))) → σ1.2.2.1 + 10 ≤ 601024 → σ1.2.2.2 + 100 ≤ 7293034 →
    (∀ x : Int32, res = .inl (some (.int x)) → q_GL p l e s m below meth c D ac b (136, lo, [.int 0], (q_up σ1.1 q (.inl (2, 1, .inr (.inl (vp_updL f 0 x.toInt64)))), σ1.2))) →
    (∀ (z n2 : Nat), res = .inr z → σ.2.1 ≤ n2 → (z = 1 ∨ z = 2) → q_GL p l e s m below meth c D ac b (136, lo, [.int (nI z)], (σ1.1, n2, σ1.2.2))) →
    q_GL p l e s m below meth c D ac b (133, lo, [.ref q, .ref s.heap.size], σ)
end LAW
