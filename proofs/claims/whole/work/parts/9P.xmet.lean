/-! THROWING, 6: PatternWalkLaw.compile, and the law's call of it -/
def xRes (res : Option Value ⊕ Nat) (σ σ1 : qH) (q : Nat) (f : Nat → Int64) (v : Option Value) (τ : qH) : Prop :=
  (∃ x : Int32, res = .inl (some (.int x)) ∧ v = some (.int 0) ∧ τ = (q_up σ1.1 q (.inl (2, 1, .inr (.inl (vp_updL f 0 x.toInt64)))), σ1.2)) ∨ (∃ z n2 : Nat, res = .inr z ∧ σ.2.1 ≤ n2 ∧ (z = 1 ∨ z = 2) ∧ v = some (.int (nI z)) ∧ τ = (σ1.1, n2, σ1.2.2))
def xQc (D : va_G) (ac : Nat → ClassId) (B0 : Nat) (res : Option Value ⊕ Nat) (σ σ1 : qH) (q : Nat) (f : Nat → Int64) : Array Value → State → Outcome → State → Prop := fun a st oc t => ∃ v τ, xRes res σ σ1 q f v τ ∧ q_Post D q_cl ac B0 v τ a st oc t
theorem x_weak {p : Program} {l : Launch} {e : Env} {R : Room} {s : State} {m : MethodId} {args : Array Value} {below : List Frame} {meth : Method} {c : Code} {D : va_G} {cl : List vw_C} {ac : Nat → ClassId} {B0 nL k0 w0 : Nat} {Q Q' : State → Prop} {x : qS} (h : q_G p l e R s m args below meth c D cl ac B0 nL k0 w0 Q x) (hq : ∀ t, Q t → Q' t) : q_G p l e R s m args below meth c D cl ac B0 nL k0 w0 Q' x := by
  intro H locs ls h1 h2 h3 h4 h5 h6 T hT X
  obtain ⟨t, a1, b1⟩ := h H locs ls h1 h2 h3 h4 h5 h6 T hT X
  exact ⟨t, a1, hq t b1⟩
theorem x_mq {below : List Frame} {D : va_G} {ac : Nat → ClassId} {B0 : Nat} {res : Option Value ⊕ Nat} {σ σ1 : qH} {q : Nat} {f : Nat → Int64} {v : Option Value} {τ : qH} {args : Array Value} {s : State} {mc ms : Nat} (h : xRes res σ σ1 q f v τ) (t : State) (ht : MQ below (q_Post D q_cl ac B0 v τ) args s mc ms (fun q : Nat => B0 ≤ q) t) : MQ below (xQc D ac B0 res σ σ1 q f) args s mc ms (fun q : Nat => B0 ≤ q) t := by
  obtain ⟨o, h1, h2, h3, h4⟩ := ht
  exact ⟨o, h1, h2, ⟨v, τ, h, h3⟩, h4⟩
set_option maxHeartbeats 4000000 in
theorem x_met {l : Launch} {s0 : State} {D : va_G} {ac : Nat → ClassId} {o q : Nat} {σ σ1 : qH} {res : Option Value ⊕ Nat} {f : Nat → Int64} {fs : List Value} (hfl : l.flags = flags0) (hw : xW0 s0) {A9 : Array Value} (hnc : (Cond.not (.castable xISE xIAE)).before A9 s0 = true)
    (h : q_ev q_Mt 60 13 [.ref o] σ = some (res, σ1)) (ho : σ.1 o = some (.inr (0, fs))) (hq : σ1.1 q = some (.inl (2, 1, .inr (.inl f)))) :
    Met l q_yC (Cond.codeWith q_yC q_cLc 3 (some .int) q_hC :: q_Ts) (q_rm 61 (σ1.2.2.1 - σ.2.2.1) (σ1.2.2.2 - σ.2.2.2)) (xPre D ac s0 σ [.ref o, .ref q]) (xQc D ac s0.heap.size res σ σ1 q f) (σ1.2.2.1 - σ.2.2.1) (σ1.2.2.2 - σ.2.2.2) (fun q : Nat => s0.heap.size ≤ q) := by
  obtain ⟨hm1, hm2, hres⟩ := x_res (l := l) (D := D) (ac := ac) (d := 59) h
  refine va_MetW (cc := q_cLc) (maxL := 3) (ret := some .int) (hh := q_hC) (by decide +kernel) rfl ?_
  intro p e s m args below meth c s₁ B hml hv
  obtain ⟨rfl, ⟨hh, hK, hns, hB⟩, hk⟩ := hv
  have hts := atoms_spec (ws := Cond.codeWith q_yC q_cLc 3 (some .int) q_hC :: q_Ts) B.pre
  have hown : s.vm.findClass "PatternWalkLaw" = some m.cls := findClass_of_methodNamed B.named
  have Cx : q_Cx p s m [Value.ref o, Value.ref q].toArray c D q_cl ac s0.heap.size "PatternWalkLaw" q_mLc.1 3 q_Ts q_Ns := ⟨B.exec, B.bytes, hml, hown, fun w hw => hts w (List.mem_cons_of_mem _ hw), hns, hK, hB⟩
  have hlen : (q_args [Value.ref o, Value.ref q]).length ≤ 3 := Nat.le_of_ble_eq_true rfl
  have hgo : q_G p l e (headSpec (Cond.codeWith q_yC q_cLc 3 (some .int) q_hC :: q_Ts) (q_rm 61 (σ1.2.2.1 - σ.2.2.1) (σ1.2.2.2 - σ.2.2.2))).room s m [Value.ref o, Value.ref q].toArray below meth c D q_cl ac s0.heap.size 3 σ.2.2.1 σ.2.2.2 (MQ below (xQc D ac s0.heap.size res σ σ1 q f) [Value.ref o, Value.ref q].toArray s (σ1.2.2.1 - σ.2.2.1) (σ1.2.2.2 - σ.2.2.2) (fun q : Nat => s0.heap.size ≤ q)) (0, [some (.ref o), some (.ref q), none], [], σ) := by
    rcases hres with ⟨y, hy⟩ | ⟨z, hz, hz2⟩
    · subst hy
      obtain ⟨n, hrun⟩ := q_out_iff.mp (x_lc_ret (q := q) h ho hq)
      exact x_weak (q_ok_run (M := q_mLc) (d := 60) (rc := q_ev q_Mt 60) Cx (fun hz => by cases hz) B.returns B.notSynchronized q_Ts_good q_Ns_isN (q_true 60) q_pokLa q_arrs (Nat.le_refl _) (Nat.le_refl _) (Nat.le_refl _) (Nat.le_refl _) n _ hrun) (x_mq (Or.inl ⟨y, rfl, rfl, rfl⟩))
    · subst hz
      have htab : c.exceptionTable.toList.map (fun h => (h.startPc, h.endPc, h.handlerPc, h.catchType)) = q_hC := by
        obtain ⟨m9, meth9, c9, hn9, g1, g2, -, -, g5, -⟩ := Cond.codeWith_spec (hts _ List.mem_cons_self)
        cases B.named.symm.trans hn9
        cases B.method.symm.trans g1
        cases (Stand.of_body B).code.symm.trans g2
        exact g5
      have st : ∀ {x x' : qS}, q_step (q_ev q_Mt 60) q_mLc x = some (.inl x') → x'.2.2.2 = σ → q_G p l e (headSpec (Cond.codeWith q_yC q_cLc 3 (some .int) q_hC :: q_Ts) (q_rm 61 (σ1.2.2.1 - σ.2.2.1) (σ1.2.2.2 - σ.2.2.2))).room s m [Value.ref o, Value.ref q].toArray below meth c D q_cl ac s0.heap.size 3 σ.2.2.1 σ.2.2.2 (MQ below (xQc D ac s0.heap.size (.inr z) σ σ1 q f) [Value.ref o, Value.ref q].toArray s (σ1.2.2.1 - σ.2.2.1) (σ1.2.2.2 - σ.2.2.2) (fun q : Nat => s0.heap.size ≤ q)) x' → q_G p l e (headSpec (Cond.codeWith q_yC q_cLc 3 (some .int) q_hC :: q_Ts) (q_rm 61 (σ1.2.2.1 - σ.2.2.1) (σ1.2.2.2 - σ.2.2.2))).room s m [Value.ref o, Value.ref q].toArray below meth c D q_cl ac s0.heap.size 3 σ.2.2.1 σ.2.2.2 (MQ below (xQc D ac s0.heap.size (.inr z) σ σ1 q f) [Value.ref o, Value.ref q].toArray s (σ1.2.2.1 - σ.2.2.1) (σ1.2.2.2 - σ.2.2.2) (fun q : Nat => s0.heap.size ≤ q)) x := by
        intro x x' hs he kk
        obtain ⟨pc, lo, st, τ⟩ := x
        unfold q_step at hs
        dsimp only at hs
        split at hs
        · rename_i i hins
          unfold q_ins at hins
          split at hins
          · rename_i i' n' hdec
            split at hins
            · rename_i hn
              cases hins
              exact q_ok_ex (d := 60) (rc := q_ev q_Mt 60) Cx (fun hz => by cases hz) q_Ts_good q_Ns_isN (q_true 60) q_pokLa q_arrs (Nat.le_refl _) (Nat.le_refl _) (by rw [he, Nat.sub_self]; exact Nat.zero_le _) (by rw [he, Nat.sub_self]; exact Nat.zero_le _) hdec hn hs kk
            · cases hins
          · cases hins
        · cases hs
      refine st (x' := (1, [some (.ref o), some (.ref q), none], [.ref q], σ)) (by rw [q_step_of d_Lc_0 (Or.inl rfl)]; rfl) rfl ?_
      refine st (x' := (2, [some (.ref o), some (.ref q), none], [.int 0, .ref q], σ)) (by rw [q_step_of d_Lc_1 (Or.inl rfl)]; rfl) rfl ?_
      refine st (x' := (3, [some (.ref o), some (.ref q), none], [.ref o, .int 0, .ref q], σ)) (by rw [q_step_of d_Lc_2 (Or.inl rfl)]; rfl) rfl ?_
      refine x_site hw hnc hk hfl Cx htab (Nat.le_refl _) (Nat.le_refl _) (Nat.le_refl _) (Nat.le_refl _) h ho hz2 hm1 hm2 ?_
      intro xa n2 hn2
      rcases hz2 with hz2 | hz2
      · subst hz2
        obtain ⟨n, hrun⟩ := q_out_iff.mp (x_lc_c1 (d := 60) (xa := xa) (a := some (.ref o)) (b := some (.ref q)) (τ := (σ1.1, n2, σ1.2.2)))
        exact x_weak (q_ok_run (M := q_mLc) (d := 60) (rc := q_ev q_Mt 60) Cx (fun hz => by cases hz) B.returns B.notSynchronized q_Ts_good q_Ns_isN (q_true 60) q_pokLa q_arrs (Nat.le_refl _) (Nat.le_refl _) (Nat.le_refl _) (Nat.le_refl _) n _ hrun) (x_mq (Or.inr ⟨1, n2, rfl, hn2, Or.inl rfl, rfl, rfl⟩))
      · subst hz2
        obtain ⟨n, hrun⟩ := q_out_iff.mp (x_lc_c2 (d := 60) (xa := xa) (a := some (.ref o)) (b := some (.ref q)) (τ := (σ1.1, n2, σ1.2.2)))
        exact x_weak (q_ok_run (M := q_mLc) (d := 60) (rc := q_ev q_Mt 60) Cx (fun hz => by cases hz) B.returns B.notSynchronized q_Ts_good q_Ns_isN (q_true 60) q_pokLa q_arrs (Nat.le_refl _) (Nat.le_refl _) (Nat.le_refl _) (Nat.le_refl _) n _ hrun) (x_mq (Or.inr ⟨2, n2, rfl, hn2, Or.inr rfl, rfl, rfl⟩))
  have hgo := hgo s.heap [] _ (q_rel_entry (n := 3) hlen) (q_entry_len (n := 3) hlen) hh va_S.rf (Nat.le_refl _) (Nat.le_refl _)
  dsimp only at hgo
  rw [Nat.sub_self, Nat.sub_self] at hgo
  rw [lg_entry_eq]
  exact hgo
