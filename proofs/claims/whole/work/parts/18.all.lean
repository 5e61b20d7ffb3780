/-! THE SMALL MACHINE IS TRUE, 7: a method, and all of them -/
theorem q_run_mono {rc : qC} {M : qM} (hr : q_Mono rc) : ∀ (n : Nat) (x : qS) (o : qO), q_run rc M n x = some o → x.2.2.2.2.2.1 ≤ o.2.2.2.1 ∧ x.2.2.2.2.2.2 ≤ o.2.2.2.2 := by
  intro n
  induction n with
  | zero => intro x o h; cases h
  | succ n ih =>
    intro x o h
    simp only [q_run] at h
    cases hs : q_step rc M x with
    | none => rw [hs] at h; cases h
    | some r =>
      rw [hs] at h
      unfold q_step at hs
      split at hs
      · rename_i i hi
        rcases q_ex_in hr hs with ⟨x1, rfl, g1, g2⟩ | ⟨-, v, rfl⟩ | ⟨x1, k, -, -, rfl⟩
        · obtain ⟨f1, f2⟩ := ih _ _ h
          exact ⟨Nat.le_trans g1 f1, Nat.le_trans g2 f2⟩
        · cases h; exact ⟨Nat.le_refl _, Nat.le_refl _⟩
        · cases h; exact ⟨Nat.le_add_right _ _, Nat.le_add_right _ _⟩
      · cases hs
section QE
variable {p : Program} {l : Launch} {e : Env} {R : Room} {s : State} {m : MethodId} {args : Array Value} {below : List Frame} {meth : Method} {c : Code} {D : va_G} {cl : List vw_C} {ac : Nat → ClassId} {B0 nL k0 w0 : Nat} {own : String} {cc : ByteArray} {Ts Ns : List Cond} {pc : Nat} {lo : qL} {st : List Value} {σ : qH} {x' : qS}
variable {yn : Nat → MethodName} {Mt : Nat → Option qM} {d : Nat} {rc : qC}
theorem q_ok_end {P : qP} {ini : Bool} {rt : Option FieldType} {i : ClassFile.Instr} {n : Nat} {v : Option Value} {σ' : qH} (Cx : q_Cx p s m args c D cl ac B0 own cc nL Ts Ns) (hmo : q_Mono rc) (hr : meth.sig.returnType = rt) (hlocks : meth.locks = false) (hd : decode cc pc = .ok (i, n)) (hn : n = q_len i ∨ q_isSw i = true) (h : q_ex rc P ini rt i pc lo st σ = some (.inr (.inl v, σ'))) : q_G p l e R s m args below meth c D cl ac B0 nL k0 w0 (MQ below (q_Post D cl ac B0 v σ') args s (σ'.2.2.1 - k0) (σ'.2.2.2 - w0) (fun q : Nat => B0 ≤ q)) (pc, lo, st, σ) := by
  have hx := Cx.1
  have hb := Cx.2.1
  have hw : ∀ (H : Heap) (locs : List Loc), q_hold D cl ac B0 σ H → va_S (fun q : Nat => B0 ≤ q) s.heap H locs → ∀ t : State, t.heap = H → s.WarmedH t.vm → ∀ v1 : Option Value, q_Post D cl ac B0 v1 σ args s (.returned v1) t := fun H locs h3 h4 t ht _ v1 => ⟨rfl, by rw [ht]; exact h3, h4.F ht⟩
  cases i with
  | ireturn =>
    rcases hn with hn | hn
    · subst hn
      simp only [q_ex, q_ireturn] at h
      split at h
      · split at h
        · rename_i ty x hnr
          cases h
          exact fun H locs ls h1 h2 h3 h4 h5 h6 => W.zret hx hb hr hnr (fun t ht hW => hw H locs h3 h4 t ht hW _) h4.2.2 hd hlocks
        · cases h
      · cases h
    · cases hn
  | lreturn =>
    rcases hn with hn | hn
    · subst hn
      simp only [q_ex, q_lreturn] at h
      split at h
      · cases h
        exact fun H locs ls h1 h2 h3 h4 h5 h6 => W.lret hx hb hr (fun t ht hW => hw H locs h3 h4 t ht hW _) h4.2.2 hd hlocks
      · cases h
    · cases hn
  | return_ =>
    rcases hn with hn | hn
    · subst hn
      simp only [q_ex, q_vreturn] at h
      split at h
      · cases h
        exact fun H locs ls h1 h2 h3 h4 h5 h6 => W.vret hx hb hr (fun t ht hW => hw H locs h3 h4 t ht hW _) h4.2.2 hd hlocks
      · cases h
    · cases hn
  | areturn =>
    rcases hn with hn | hn
    · subst hn
      simp only [q_ex, q_areturn] at h
      split at h
      · rename_i hrt
        have hrt2 : ∃ rt0, rt = some rt0 ∧ ((∃ n, rt0 = .object n) ∨ ∃ t, rt0 = .array t) := by
          cases rt with
          | none => cases hrt
          | some t => cases t <;> first | exact ⟨_, rfl, Or.inl ⟨_, rfl⟩⟩ | exact ⟨_, rfl, Or.inr ⟨_, rfl⟩⟩ | cases hrt
        obtain ⟨rt0, hrt0, hrt1⟩ := hrt2
        subst hrt0
        split at h
        · cases h
          exact fun H locs ls h1 h2 h3 h4 h5 h6 => W.aret hx hb hr hrt1 (Or.inr ⟨_, rfl⟩) (fun t ht hW => hw H locs h3 h4 t ht hW _) h4.2.2 hd hlocks
        · cases h
          exact fun H locs ls h1 h2 h3 h4 h5 h6 => W.aret hx hb hr hrt1 (Or.inl rfl) (fun t ht hW => hw H locs h3 h4 t ht hW _) h4.2.2 hd hlocks
        · cases h
      · cases h
    · cases hn
  | _ =>
    rcases q_ex_in hmo h with ⟨x1, g1, -⟩ | ⟨g1, -⟩ | ⟨x1, k, -, -, g1⟩
    · cases g1
    · cases g1
    · cases g1
theorem q_ok_run {M : qM} {v : Option Value} {σ' : qH} (Cx : q_Cx p s m args c D cl ac B0 own M.1 nL Ts Ns) (hi : M.2.2.2.1 = true → meth.name = "<init>") (hr : meth.sig.returnType = M.2.2.1) (hlocks : meth.locks = false) (hT : GoodIn Ts Ts) (hN : ∀ w ∈ Ns, q_isN w = true) (hrc : q_Snd l D cl ac B0 Ts Ns yn Mt d rc) (hP : q_pok cl Ts Ns yn Mt own M.2.2.2.2) (hta : Cond.arrayClass .int ∈ Ts ∧ Cond.arrayClass .char ∈ Ts ∧ Cond.arrayClass .long ∈ Ts ∧ Cond.arrayClass .boolean ∈ Ts) (hRf : d + 1 ≤ R.frames) (hRl : 64 * (d + 1) ≤ R.locals)
    (hRc : σ'.2.2.1 - k0 ≤ R.cells) (hRs : σ'.2.2.2 - w0 ≤ R.slots) : ∀ (n : Nat) (x : qS), q_run rc M n x = some (.inl v, σ') → q_G p l e R s m args below meth c D cl ac B0 nL k0 w0 (MQ below (q_Post D cl ac B0 v σ') args s (σ'.2.2.1 - k0) (σ'.2.2.2 - w0) (fun q : Nat => B0 ≤ q)) x := by
  have hmo : q_Mono rc := fun z as σ v σ' h => (hrc z as σ v σ' h).2
  intro n
  induction n with
  | zero => intro x h; cases h
  | succ n ih =>
    intro x h
    obtain ⟨pc, lo, st, σ⟩ := x
    simp only [q_run] at h
    cases hs : q_step rc M (pc, lo, st, σ) with
    | none => rw [hs] at h; cases h
    | some r =>
      rw [hs] at h
      unfold q_step at hs
      dsimp only at hs
      split at hs
      · rename_i i hins
        unfold q_ins at hins
        split at hins
        · rename_i i' n' hdec
          split at hins
          · rename_i hn
            cases hins
            cases r with
            | inl x1 =>
              have hm1 := q_run_mono hmo _ _ _ h
              dsimp only at hm1
              exact q_ok_ex Cx hi hT hN hrc hP hta hRf hRl (by omega) (by omega) hdec hn hs (ih x1 h)
            | inr o1 =>
              cases h
              exact q_ok_end Cx hmo hr hlocks hdec hn hs
          · cases hins
        · cases hins
      · cases hs
end QE
def q_Mok (cl : List vw_C) (Ts Ns : List Cond) (yn : Nat → MethodName) (Mt : Nat → Option qM) : Prop := ∀ z M, Mt z = some M → plainFor (yn z) = true ∧ (M.2.2.2.1 = true → (yn z).name = "<init>") ∧ q_pok cl Ts Ns yn Mt (yn z).cls M.2.2.2.2
theorem q_ev_ok {l : Launch} {D : va_G} {cl : List vw_C} {ac : Nat → ClassId} {B0 : Nat} {Ts Ns : List Cond} {yn : Nat → MethodName} {Mt : Nat → Option qM} (hT : GoodIn Ts Ts) (hN : ∀ w ∈ Ns, q_isN w = true) (hM : q_Mok cl Ts Ns yn Mt) (hta : Cond.arrayClass .int ∈ Ts ∧ Cond.arrayClass .char ∈ Ts ∧ Cond.arrayClass .long ∈ Ts ∧ Cond.arrayClass .boolean ∈ Ts) : ∀ d, q_Snd l D cl ac B0 Ts Ns yn Mt d (q_ev Mt d) := by
  intro d
  induction d with
  | zero => intro z as σ v σ' h; cases h
  | succ d ih =>
    intro z as σ v σ' h
    have hmo : q_Mono (q_ev Mt d) := fun z as σ v σ' h => (ih z as σ v σ' h).2
    simp only [q_ev] at h
    split at h
    · rename_i M hMz
      split at h
      · rename_i hlen
        obtain ⟨n, hrun⟩ := q_out_iff.mp h
        obtain ⟨hk, hw⟩ := q_run_mono hmo _ _ _ hrun
        refine ⟨?_, hk, hw⟩
        intro M' hM'
        cases hMz.symm.trans hM'
        obtain ⟨m1, m2, m3⟩ := hM z M hMz
        refine va_MetF (cc := M.1) (maxL := M.2.1) (ret := M.2.2.1) m1 rfl ?_
        intro p e s m args below meth c s₁ B hml hv
        obtain ⟨rfl, hh, hK, hns, hB⟩ := hv
        have hts := atoms_spec (ws := Cond.code (yn z) M.1 M.2.1 M.2.2.1 :: Ts) B.pre
        have hown : s.vm.findClass (yn z).cls = some m.cls := findClass_of_methodNamed B.named
        have hin : meth.name = (yn z).name := (name_of_methodNamed B.named B.method).1
        have Cx : q_Cx p s m as.toArray c D cl ac B0 (yn z).cls M.1 M.2.1 Ts Ns := ⟨B.exec, B.bytes, hml, hown, fun w hw => hts w (List.mem_cons_of_mem _ hw), hns, hK, hB⟩
        have := q_ok_run (l := l) (e := e) (R := (headSpec (Cond.code (yn z) M.1 M.2.1 M.2.2.1 :: Ts) (q_rm (d + 1) (σ'.2.2.1 - σ.2.2.1) (σ'.2.2.2 - σ.2.2.2))).room) (below := below) (k0 := σ.2.2.1) (w0 := σ.2.2.2) Cx (fun hz => hin.trans (m2 hz)) B.returns B.notSynchronized hT hN ih m3 hta (Nat.le_refl _) (Nat.le_refl _) (Nat.le_refl _) (Nat.le_refl _) n _ hrun
        have := this s.heap [] _ (q_rel_entry hlen) (q_entry_len hlen) hh va_S.rf (Nat.le_refl _) (Nat.le_refl _)
        dsimp only at this
        rw [Nat.sub_self, Nat.sub_self] at this
        rw [lg_entry_eq]
        exact this
      · cases h
    · cases h
