/-! THROWING, 4: PatternWalkLaw.compile -/
theorem x_decl {A : Array Value} {s : State} {y : MethodName} {bytes : ByteArray} {n : Nat} {r : Option FieldType} (h1 : (Cond.instanceMethod y).before A s = true) (h2 : (Cond.code y bytes n r).before A s = true) : (Cond.declares y).before A s = true := by
  obtain ⟨m, meth, a1, a2, a3, a4⟩ := Cond.instanceMethod_spec h1
  obtain ⟨meth', c, b1, -, -, -, -, -, -, b2⟩ := Cond.code_spec a1 h2
  cases a2.symm.trans b1
  simp only [Cond.before, Cond.holds, Cond.value, a1, a2, Option.bind_some, Option.map_some, a3, b2]
  simp
theorem x_ncast {a b : String} {A A' : Array Value} {s0 U : State} (hk : xKeep s0 U) (h : (Cond.not (.castable a b)).before A s0 = true) : (Cond.not (.castable a b)).before A' U = true := by
  simp only [Cond.before, Cond.holds, Cond.value, hk.1.alike.findClass, hk.1.alike.assignable] at h ⊢
  exact h
theorem x_retI1 {rc : qC} {P : qP} {ini : Bool} {i : ClassFile.Instr} {pc : Nat} {lo : qL} {st : List Value} {σ σ' : qH} {v : Option Value} (hmo : q_Mono rc) (h : q_ex rc P ini (some .int) i pc lo st σ = some (.inr (.inl v, σ'))) : ∃ x, v = some (.int x) := by
  cases i with
  | ireturn =>
    simp only [q_ex, q_ireturn] at h
    (repeat' split at h) <;> first | (cases h; exact ⟨_, rfl⟩) | cases h
  | lreturn =>
    simp only [q_ex, q_lreturn] at h
    (repeat' split at h) <;> cases h
  | return_ =>
    simp only [q_ex, q_vreturn] at h
    (repeat' split at h) <;> cases h
  | areturn =>
    simp only [q_ex, q_areturn, q_isRefT] at h
    (repeat' split at h) <;> first | cases h | (rename_i hz; cases hz)
  | _ =>
    rcases q_ex_in hmo h with ⟨x1, g1, -⟩ | ⟨g1, -⟩ | ⟨x1, k, -, -, g1⟩
    · cases g1
    · cases g1
    · cases g1
/-- how a run ends: an int, or an exception of the pool's -/
theorem x_ends {rc : qC} {M : qM} (hmo : q_Mono rc) (hM : M.2.2.1 = some .int) : ∀ (n : Nat) (x : qS) (r : Option Value ⊕ Nat) (σ' : qH), q_run rc M n x = some (r, σ') → (∃ y, r = .inl (some (.int y))) ∨ (∃ z k, r = .inr z ∧ M.2.2.2.2.2.1 k = some (.inr z)) := by
  intro n
  induction n with
  | zero => intro x r σ' h; cases h
  | succ n ih =>
    intro x r σ' h
    simp only [q_run] at h
    cases hs : q_step rc M x with
    | none => rw [hs] at h; cases h
    | some r1 =>
      rw [hs] at h
      cases r1 with
      | inl x1 => exact ih x1 r σ' h
      | inr o1 =>
        cases h
        unfold q_step at hs
        split at hs
        · rename_i i hi
          rcases q_ex_in hmo hs with ⟨x1, g1, -⟩ | ⟨-, v, g1⟩ | ⟨x1, k, g0, gk, g1⟩
          · cases g1
          · cases g1
            rw [hM] at hs
            obtain ⟨y, hy⟩ := x_retI1 hmo hs
            exact Or.inl ⟨y, by rw [hy]⟩
          · cases g1
            exact Or.inr ⟨x1, k, rfl, gk⟩
        · cases hs
theorem x_pw_z {k z : Nat} (h : q_PPW.2.1 k = some (.inr z)) : z = 1 ∨ z = 2 := by
  have h1 : q_lk q_CPW k = some (.inr z) := h
  simp only [q_CPW, q_lk] at h1
  (repeat' split at h1) <;> first | (cases h1; done) | (cases h1; exact Or.inl rfl) | (cases h1; exact Or.inr rfl)
theorem x_res {l : Launch} {D : va_G} {ac : Nat → ClassId} {d o : Nat} {σ σ1 : qH} {r : Option Value ⊕ Nat} (h : q_ev q_Mt (d + 1) 13 [.ref o] σ = some (r, σ1)) : σ.2.2.1 ≤ σ1.2.2.1 ∧ σ.2.2.2 ≤ σ1.2.2.2 ∧ ((∃ y, r = .inl (some (.int y))) ∨ (∃ z, r = .inr z ∧ (z = 1 ∨ z = 2))) := by
  have hM : q_Mt 13 = some q_mPW_compile := rfl
  simp only [q_ev, hM] at h
  split at h
  · obtain ⟨n, hrun⟩ := q_out_iff.mp h
    obtain ⟨g1, g2⟩ := q_run_mono (x_mono l D ac d) _ _ _ hrun
    refine ⟨g1, g2, ?_⟩
    rcases x_ends (x_mono l D ac d) rfl n _ r σ1 hrun with h1 | ⟨z, k, h1, h2⟩
    · exact Or.inl h1
    · exact Or.inr ⟨z, h1, x_pw_z h2⟩
  · cases h
def q_cLc : ByteArray := ⟨#[43, 3, 42, 182, 0, 7, 133, 80, 167, 0, 9, 77, 4, 172, 77, 5, 172, 3, 172]⟩
def q_mLc : qM := (q_cLc, 3, some .int, false, q_PLa)
def q_yC : MethodName := ⟨"PatternWalkLaw", "compile", "(LPatternWalk;[J)I"⟩
def q_hC : List (Nat × Nat × Nat × Nat) := [(0, 8, 11, 13), (0, 8, 14, 15)]
theorem x_wC : Cond.codeWith q_yC q_cLc 3 (some .int) q_hC ∈ q_Ts := q_in 406 (by decide +kernel) (by decide +kernel)
theorem d_Lc_0 : decode q_mLc.1 0 = .ok (.aload_n 1, 1) := by decide +kernel
theorem d_Lc_1 : decode q_mLc.1 1 = .ok (.iconst 0, 1) := by decide +kernel
theorem d_Lc_2 : decode q_mLc.1 2 = .ok (.aload_n 0, 1) := by decide +kernel
theorem d_Lc_3 : decode q_mLc.1 3 = .ok (.invokevirtual 7, 3) := by decide +kernel
theorem d_Lc_6 : decode q_mLc.1 6 = .ok (.i2l, 1) := by decide +kernel
theorem d_Lc_7 : decode q_mLc.1 7 = .ok (.lastore, 1) := by decide +kernel
theorem d_Lc_8 : decode q_mLc.1 8 = .ok (.goto 9, 3) := by decide +kernel
theorem d_Lc_11 : decode q_mLc.1 11 = .ok (.astore_n 2, 1) := by decide +kernel
theorem d_Lc_12 : decode q_mLc.1 12 = .ok (.iconst 1, 1) := by decide +kernel
theorem d_Lc_13 : decode q_mLc.1 13 = .ok (.ireturn, 1) := by decide +kernel
theorem d_Lc_14 : decode q_mLc.1 14 = .ok (.astore_n 2, 1) := by decide +kernel
theorem d_Lc_15 : decode q_mLc.1 15 = .ok (.iconst 2, 1) := by decide +kernel
theorem d_Lc_16 : decode q_mLc.1 16 = .ok (.ireturn, 1) := by decide +kernel
theorem d_Lc_17 : decode q_mLc.1 17 = .ok (.iconst 0, 1) := by decide +kernel
theorem d_Lc_18 : decode q_mLc.1 18 = .ok (.ireturn, 1) := by decide +kernel
/-- it returns: 0 is answered, and what compile answered is written -/
theorem x_lc_ret {d o q : Nat} {x : Int32} {σ σ1 : qH} {f : Nat → Int64} {fs : List Value} (h : q_ev q_Mt d 13 [.ref o] σ = some (.inl (some (.int x)), σ1)) (ho : σ.1 o = some (.inr (0, fs))) (hq : σ1.1 q = some (.inl (2, 1, .inr (.inl f)))) :
    q_out (q_ev q_Mt d) q_mLc (0, [some (.ref o), some (.ref q), none], [], σ) = some (.inl (some (.int 0)), (q_up σ1.1 q (.inl (2, 1, .inr (.inl (vp_updL f 0 x.toInt64)))), σ1.2)) := by
  rw [q_out_go (x' := (1, [some (.ref o), some (.ref q), none], [.ref q], σ)) (by rw [q_step_of d_Lc_0 (Or.inl rfl)]; rfl)]
  rw [q_out_go (x' := (2, [some (.ref o), some (.ref q), none], [.int 0, .ref q], σ)) (by rw [q_step_of d_Lc_1 (Or.inl rfl)]; rfl)]
  rw [q_out_go (x' := (3, [some (.ref o), some (.ref q), none], [.ref o, .int 0, .ref q], σ)) (by rw [q_step_of d_Lc_2 (Or.inl rfl)]; rfl)]
  rw [q_out_go (x' := (6, [some (.ref o), some (.ref q), none], [.int x, .int 0, .ref q], σ1)) (by
    rw [q_step_of d_Lc_3 (Or.inl rfl)]
    have hP : q_mLc.2.2.2.2.2.2.1 7 = some (1, 13, 0, 0) := rfl
    have hsum : (0 : Nat) = 0 ∧ q_sum [Value.int 0, .ref q] ≤ 8 := ⟨rfl, Nat.le_of_ble_eq_true rfl⟩
    simp only [q_ex, hP, q_call, List.drop_zero, List.take_zero, List.reverse_nil, ho, if_pos hsum, h, q_back, q_go, Option.toList_some]
    rfl)]
  rw [q_out_go (x' := (7, [some (.ref o), some (.ref q), none], [.long x.toInt64, .int 0, .ref q], σ1)) (by rw [q_step_of d_Lc_6 (Or.inl rfl)]; rfl)]
  rw [q_out_go (x' := (8, [some (.ref o), some (.ref q), none], [], (q_up σ1.1 q (.inl (2, 1, .inr (.inl (vp_updL f 0 x.toInt64)))), σ1.2))) (by
    rw [q_step_of d_Lc_7 (Or.inl rfl)]
    simp only [q_ex, q_last, hq]
    rw [if_pos (by decide)]
    rfl)]
  rw [q_out_go (x' := (17, [some (.ref o), some (.ref q), none], [], (q_up σ1.1 q (.inl (2, 1, .inr (.inl (vp_updL f 0 x.toInt64)))), σ1.2))) (by rw [q_step_of d_Lc_8 (Or.inl rfl)]; rfl)]
  rw [q_out_go (x' := (18, [some (.ref o), some (.ref q), none], [.int 0], (q_up σ1.1 q (.inl (2, 1, .inr (.inl (vp_updL f 0 x.toInt64)))), σ1.2))) (by rw [q_step_of d_Lc_17 (Or.inl rfl)]; rfl)]
  exact q_out_end (by rw [q_step_of d_Lc_18 (Or.inl rfl)]; rfl)
/-- behind the catch -/
theorem x_lc_c1 {d xa : Nat} {a b : Option Value} {τ : qH} : q_out (q_ev q_Mt d) q_mLc (11, [a, b, none], [.ref xa], τ) = some (.inl (some (.int 1)), τ) := by
  rw [q_out_go (x' := (12, q_st1 [a, b, none] 2 (.ref xa), [], τ)) (by rw [q_step_of d_Lc_11 (Or.inl rfl)]; rfl)]
  rw [q_out_go (x' := (13, q_st1 [a, b, none] 2 (.ref xa), [.int 1], τ)) (by rw [q_step_of d_Lc_12 (Or.inl rfl)]; rfl)]
  exact q_out_end (by rw [q_step_of d_Lc_13 (Or.inl rfl)]; rfl)
theorem x_lc_c2 {d xa : Nat} {a b : Option Value} {τ : qH} : q_out (q_ev q_Mt d) q_mLc (14, [a, b, none], [.ref xa], τ) = some (.inl (some (.int 2)), τ) := by
  rw [q_out_go (x' := (15, q_st1 [a, b, none] 2 (.ref xa), [], τ)) (by rw [q_step_of d_Lc_14 (Or.inl rfl)]; rfl)]
  rw [q_out_go (x' := (16, q_st1 [a, b, none] 2 (.ref xa), [.int 2], τ)) (by rw [q_step_of d_Lc_15 (Or.inl rfl)]; rfl)]
  exact q_out_end (by rw [q_step_of d_Lc_16 (Or.inl rfl)]; rfl)
