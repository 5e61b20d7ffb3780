/-! THROWING, 2: how deep the stack of PatternWalk.compile is -/
theorem x_ret1 {rc : qC} {P : qP} {ini : Bool} {rt : Option FieldType} {i : ClassFile.Instr} {pc : Nat} {lo : qL} {st : List Value} {σ σ' : qH} {v : Option Value} (hmo : q_Mono rc) (h : q_ex rc P ini rt i pc lo st σ = some (.inr (.inl v, σ'))) : v.isSome = rt.isSome := by
  cases i with
  | ireturn =>
    simp only [q_ex, q_ireturn] at h
    (repeat' split at h) <;> first | (cases h; rfl) | cases h
  | lreturn =>
    simp only [q_ex, q_lreturn] at h
    (repeat' split at h) <;> first | (cases h; rfl) | cases h
  | return_ =>
    simp only [q_ex, q_vreturn] at h
    (repeat' split at h) <;> first | (cases h; rfl) | cases h
  | areturn =>
    simp only [q_ex, q_areturn] at h
    split at h
    · rename_i hrt
      have h1 : rt.isSome = true := by
        cases rt with
        | none => cases hrt
        | some t => rfl
      rw [h1]
      (repeat' split at h) <;> first | (cases h; rfl) | cases h
    · cases h
  | _ =>
    rcases q_ex_in hmo h with ⟨x1, g1, -⟩ | ⟨g1, -⟩ | ⟨x1, k, -, -, g1⟩
    · cases g1
    · cases g1
    · cases g1
theorem x_ret2 {rc : qC} {M : qM} (hmo : q_Mono rc) : ∀ (n : Nat) (x : qS) (v : Option Value) (σ' : qH), q_run rc M n x = some (.inl v, σ') → v.isSome = M.2.2.1.isSome := by
  intro n
  induction n with
  | zero => intro x v σ' h; cases h
  | succ n ih =>
    intro x v σ' h
    simp only [q_run] at h
    cases hs : q_step rc M x with
    | none => rw [hs] at h; cases h
    | some r =>
      rw [hs] at h
      cases r with
      | inl x1 => exact ih x1 v σ' h
      | inr o1 =>
        cases h
        unfold q_step at hs
        split at hs
        · exact x_ret1 hmo hs
        · cases hs
theorem x_mono (l : Launch) (D : va_G) (ac : Nat → ClassId) (d : Nat) : q_Mono (q_ev q_Mt d) := fun z as σ v σ' h => ((q_true (l := l) (D := D) (ac := ac) (B0 := 0) d) z as σ v σ' h).2
def xRt (rc : qC) : Prop := ∀ z as σ v σ', rc z as σ = some (.inl v, σ') → ∀ M, q_Mt z = some M → v.isSome = M.2.2.1.isSome
theorem x_rt (hm : ∀ d, q_Mono (q_ev q_Mt d)) (d : Nat) : xRt (q_ev q_Mt d) := by
  intro z as σ v σ' h M hM
  cases d with
  | zero => cases h
  | succ d =>
    simp only [q_ev, hM] at h
    split at h
    · obtain ⟨n, hn⟩ := q_out_iff.mp h
      exact x_ret2 (hm d) n _ v σ' hn
    · cases h
theorem x_drop {st : List Value} {n : Nat} {b : Value} {r : List Value} (h : st.drop n = b :: r) : st.length = n + 1 + r.length := by
  have h1 : (st.drop n).length = r.length + 1 := by rw [h]; rfl
  rw [List.length_drop] at h1
  omega
theorem x_vl {v : Option Value} {r : List Value} {b : Bool} (h : v.isSome = b) : (v.toList ++ r).length = (if b = true then 1 else 0) + r.length := by
  cases v with
  | none => cases h; simp
  | some u => cases h; simp; omega
def xD : List (Nat × Nat) := [(0, 0), (1, 1), (4, 1), (7, 1), (10, 0), (20, 0), (21, 1), (24, 1), (25, 2), (28, 2), (31, 1), (32, 0), (33, 1), (34, 2), (37, 2), (40, 2), (43, 0), (44, 1), (47, 1), (48, 2), (51, 0), (61, 0), (62, 1), (65, 1), (66, 2), (67, 1), (70, 2), (73, 0), (83, 0), (84, 1), (87, 1), (88, 2), (89, 3), (92, 3), (95, 3), (98, 0), (99, 1), (102, 1), (105, 1)]
theorem x_d0 {rc : qC} (hr : xRt rc) {lo : qL} {st : List Value} {σ : qH} {x1 : qS} (hl : st.length = 0) (h : q_step rc q_mPW_compile (0, lo, st, σ) = some (.inl x1)) : (x1.1, x1.2.2.1.length) ∈ xD := by
  rw [q_step_of d_PW_compile_0 (Or.inl rfl)] at h
  simp only [q_ex, q_aload, q_go, q_br] at h
  (repeat' split at h) <;> first | (cases h; simp only [List.length_cons] at hl ⊢; first | (simp only [Nat.add_right_cancel_iff, Nat.succ.injEq, Nat.add_eq_zero_iff] at hl; simp_all [xD, q_tg]; done) | (simp_all [xD, q_tg]; done)) | (cases h; done)
theorem x_d1 {rc : qC} (hr : xRt rc) {lo : qL} {st : List Value} {σ : qH} {x1 : qS} (hl : st.length = 1) (h : q_step rc q_mPW_compile (1, lo, st, σ) = some (.inl x1)) : (x1.1, x1.2.2.1.length) ∈ xD := by
  rw [q_step_of d_PW_compile_1 (Or.inl rfl)] at h
  simp only [q_ex, q_getf, q_go, q_br] at h
  (repeat' split at h) <;> first | (cases h; simp only [List.length_cons] at hl ⊢; first | (simp only [Nat.add_right_cancel_iff, Nat.succ.injEq, Nat.add_eq_zero_iff] at hl; simp_all [xD, q_tg]; done) | (simp_all [xD, q_tg]; done)) | (cases h; done)
theorem x_d4 {rc : qC} (hr : xRt rc) {lo : qL} {st : List Value} {σ : qH} {x1 : qS} (hl : st.length = 1) (h : q_step rc q_mPW_compile (4, lo, st, σ) = some (.inl x1)) : (x1.1, x1.2.2.1.length) ∈ xD := by
  rw [q_step_of d_PW_compile_4 (Or.inl rfl)] at h
  have hP : q_mPW_compile.2.2.2.2.2.2.1 52 = q_PPW.2.2.1 52 := rfl
  simp only [q_ex, hP, pM_PW_52, q_call] at h
  split at h
  · rename_i b r hst
    have hd := x_drop hst
    split at h
    · split at h
      · unfold q_back at h
        split at h
        · rename_i v s1 hr1
          cases h
          have hv := hr _ _ _ _ _ hr1 _ (show q_Mt 41 = some _ from rfl)
          have hv2 : v.isSome = true := hv
          have := x_vl (r := r) hv2
          dsimp only
          rw [this, show r.length = 0 by omega]
          decide
        · cases h
      · cases h
    · cases h
  · cases h
theorem x_d7 {rc : qC} (hr : xRt rc) {lo : qL} {st : List Value} {σ : qH} {x1 : qS} (hl : st.length = 1) (h : q_step rc q_mPW_compile (7, lo, st, σ) = some (.inl x1)) : (x1.1, x1.2.2.1.length) ∈ xD := by
  rw [q_step_of d_PW_compile_7 (Or.inl rfl)] at h
  simp only [q_ex, q_if, q_go, q_br] at h
  (repeat' split at h) <;> first | (cases h; simp only [List.length_cons] at hl ⊢; first | (simp only [Nat.add_right_cancel_iff, Nat.succ.injEq, Nat.add_eq_zero_iff] at hl; simp_all [xD, q_tg]; done) | (simp_all [xD, q_tg]; done)) | (cases h; done)
theorem x_d10 {rc : qC} (hr : xRt rc) {lo : qL} {st : List Value} {σ : qH} {x1 : qS} (hl : st.length = 0) (h : q_step rc q_mPW_compile (10, lo, st, σ) = some (.inl x1)) : (x1.1, x1.2.2.1.length) ∈ xD := by
  rw [q_step_of d_PW_compile_10 (Or.inl rfl)] at h
  simp only [q_ex, q_newC, q_go, q_br] at h
  have hP : q_mPW_compile.2.2.2.2.2.1 56 = some (.inr 2) := rfl
  rw [hP] at h
  cases h
theorem x_d20 {rc : qC} (hr : xRt rc) {lo : qL} {st : List Value} {σ : qH} {x1 : qS} (hl : st.length = 0) (h : q_step rc q_mPW_compile (20, lo, st, σ) = some (.inl x1)) : (x1.1, x1.2.2.1.length) ∈ xD := by
  rw [q_step_of d_PW_compile_20 (Or.inl rfl)] at h
  simp only [q_ex, q_aload, q_go, q_br] at h
  (repeat' split at h) <;> first | (cases h; simp only [List.length_cons] at hl ⊢; first | (simp only [Nat.add_right_cancel_iff, Nat.succ.injEq, Nat.add_eq_zero_iff] at hl; simp_all [xD, q_tg]; done) | (simp_all [xD, q_tg]; done)) | (cases h; done)
theorem x_d21 {rc : qC} (hr : xRt rc) {lo : qL} {st : List Value} {σ : qH} {x1 : qS} (hl : st.length = 1) (h : q_step rc q_mPW_compile (21, lo, st, σ) = some (.inl x1)) : (x1.1, x1.2.2.1.length) ∈ xD := by
  rw [q_step_of d_PW_compile_21 (Or.inl rfl)] at h
  simp only [q_ex, q_getf, q_go, q_br] at h
  (repeat' split at h) <;> first | (cases h; simp only [List.length_cons] at hl ⊢; first | (simp only [Nat.add_right_cancel_iff, Nat.succ.injEq, Nat.add_eq_zero_iff] at hl; simp_all [xD, q_tg]; done) | (simp_all [xD, q_tg]; done)) | (cases h; done)
theorem x_d24 {rc : qC} (hr : xRt rc) {lo : qL} {st : List Value} {σ : qH} {x1 : qS} (hl : st.length = 1) (h : q_step rc q_mPW_compile (24, lo, st, σ) = some (.inl x1)) : (x1.1, x1.2.2.1.length) ∈ xD := by
  rw [q_step_of d_PW_compile_24 (Or.inl rfl)] at h
  simp only [q_ex, q_aload, q_go, q_br] at h
  (repeat' split at h) <;> first | (cases h; simp only [List.length_cons] at hl ⊢; first | (simp only [Nat.add_right_cancel_iff, Nat.succ.injEq, Nat.add_eq_zero_iff] at hl; simp_all [xD, q_tg]; done) | (simp_all [xD, q_tg]; done)) | (cases h; done)
theorem x_d25 {rc : qC} (hr : xRt rc) {lo : qL} {st : List Value} {σ : qH} {x1 : qS} (hl : st.length = 2) (h : q_step rc q_mPW_compile (25, lo, st, σ) = some (.inl x1)) : (x1.1, x1.2.2.1.length) ∈ xD := by
  rw [q_step_of d_PW_compile_25 (Or.inl rfl)] at h
  simp only [q_ex, q_getf, q_go, q_br] at h
  (repeat' split at h) <;> first | (cases h; simp only [List.length_cons] at hl ⊢; first | (simp only [Nat.add_right_cancel_iff, Nat.succ.injEq, Nat.add_eq_zero_iff] at hl; simp_all [xD, q_tg]; done) | (simp_all [xD, q_tg]; done)) | (cases h; done)
theorem x_d28 {rc : qC} (hr : xRt rc) {lo : qL} {st : List Value} {σ : qH} {x1 : qS} (hl : st.length = 2) (h : q_step rc q_mPW_compile (28, lo, st, σ) = some (.inl x1)) : (x1.1, x1.2.2.1.length) ∈ xD := by
  rw [q_step_of d_PW_compile_28 (Or.inl rfl)] at h
  have hP : q_mPW_compile.2.2.2.2.2.2.1 63 = q_PPW.2.2.1 63 := rfl
  simp only [q_ex, hP, pM_PW_63, q_call] at h
  split at h
  · rename_i b r hst
    have hd := x_drop hst
    split at h
    · split at h
      · unfold q_back at h
        split at h
        · rename_i v s1 hr1
          cases h
          have hv := hr _ _ _ _ _ hr1 _ (show q_Mt 23 = some _ from rfl)
          have hv2 : v.isSome = true := hv
          have := x_vl (r := r) hv2
          dsimp only
          rw [this, show r.length = 0 by omega]
          decide
        · cases h
      · cases h
    · cases h
  · cases h
theorem x_d31 {rc : qC} (hr : xRt rc) {lo : qL} {st : List Value} {σ : qH} {x1 : qS} (hl : st.length = 1) (h : q_step rc q_mPW_compile (31, lo, st, σ) = some (.inl x1)) : (x1.1, x1.2.2.1.length) ∈ xD := by
  rw [q_step_of d_PW_compile_31 (Or.inl rfl)] at h
  simp only [q_ex, q_astore, q_go, q_br] at h
  (repeat' split at h) <;> first | (cases h; simp only [List.length_cons] at hl ⊢; first | (simp only [Nat.add_right_cancel_iff, Nat.succ.injEq, Nat.add_eq_zero_iff] at hl; simp_all [xD, q_tg]; done) | (simp_all [xD, q_tg]; done)) | (cases h; done)
theorem x_d32 {rc : qC} (hr : xRt rc) {lo : qL} {st : List Value} {σ : qH} {x1 : qS} (hl : st.length = 0) (h : q_step rc q_mPW_compile (32, lo, st, σ) = some (.inl x1)) : (x1.1, x1.2.2.1.length) ∈ xD := by
  rw [q_step_of d_PW_compile_32 (Or.inl rfl)] at h
  simp only [q_ex, q_aload, q_go, q_br] at h
  (repeat' split at h) <;> first | (cases h; simp only [List.length_cons] at hl ⊢; first | (simp only [Nat.add_right_cancel_iff, Nat.succ.injEq, Nat.add_eq_zero_iff] at hl; simp_all [xD, q_tg]; done) | (simp_all [xD, q_tg]; done)) | (cases h; done)
theorem x_d33 {rc : qC} (hr : xRt rc) {lo : qL} {st : List Value} {σ : qH} {x1 : qS} (hl : st.length = 1) (h : q_step rc q_mPW_compile (33, lo, st, σ) = some (.inl x1)) : (x1.1, x1.2.2.1.length) ∈ xD := by
  rw [q_step_of d_PW_compile_33 (Or.inl rfl)] at h
  simp only [q_ex, q_aload, q_go, q_br] at h
  (repeat' split at h) <;> first | (cases h; simp only [List.length_cons] at hl ⊢; first | (simp only [Nat.add_right_cancel_iff, Nat.succ.injEq, Nat.add_eq_zero_iff] at hl; simp_all [xD, q_tg]; done) | (simp_all [xD, q_tg]; done)) | (cases h; done)
theorem x_d34 {rc : qC} (hr : xRt rc) {lo : qL} {st : List Value} {σ : qH} {x1 : qS} (hl : st.length = 2) (h : q_step rc q_mPW_compile (34, lo, st, σ) = some (.inl x1)) : (x1.1, x1.2.2.1.length) ∈ xD := by
  rw [q_step_of d_PW_compile_34 (Or.inl rfl)] at h
  simp only [q_ex, q_getf, q_go, q_br] at h
  (repeat' split at h) <;> first | (cases h; simp only [List.length_cons] at hl ⊢; first | (simp only [Nat.add_right_cancel_iff, Nat.succ.injEq, Nat.add_eq_zero_iff] at hl; simp_all [xD, q_tg]; done) | (simp_all [xD, q_tg]; done)) | (cases h; done)
theorem x_d37 {rc : qC} (hr : xRt rc) {lo : qL} {st : List Value} {σ : qH} {x1 : qS} (hl : st.length = 2) (h : q_step rc q_mPW_compile (37, lo, st, σ) = some (.inl x1)) : (x1.1, x1.2.2.1.length) ∈ xD := by
  rw [q_step_of d_PW_compile_37 (Or.inl rfl)] at h
  simp only [q_ex, q_getf, q_go, q_br] at h
  (repeat' split at h) <;> first | (cases h; simp only [List.length_cons] at hl ⊢; first | (simp only [Nat.add_right_cancel_iff, Nat.succ.injEq, Nat.add_eq_zero_iff] at hl; simp_all [xD, q_tg]; done) | (simp_all [xD, q_tg]; done)) | (cases h; done)
theorem x_d40 {rc : qC} (hr : xRt rc) {lo : qL} {st : List Value} {σ : qH} {x1 : qS} (hl : st.length = 2) (h : q_step rc q_mPW_compile (40, lo, st, σ) = some (.inl x1)) : (x1.1, x1.2.2.1.length) ∈ xD := by
  rw [q_step_of d_PW_compile_40 (Or.inl rfl)] at h
  simp only [q_ex, q_putf, q_go, q_br] at h
  (repeat' split at h) <;> first | (cases h; simp only [List.length_cons] at hl ⊢; first | (simp only [Nat.add_right_cancel_iff, Nat.succ.injEq, Nat.add_eq_zero_iff] at hl; simp_all [xD, q_tg]; done) | (simp_all [xD, q_tg]; done)) | (cases h; done)
theorem x_d43 {rc : qC} (hr : xRt rc) {lo : qL} {st : List Value} {σ : qH} {x1 : qS} (hl : st.length = 0) (h : q_step rc q_mPW_compile (43, lo, st, σ) = some (.inl x1)) : (x1.1, x1.2.2.1.length) ∈ xD := by
  rw [q_step_of d_PW_compile_43 (Or.inl rfl)] at h
  simp only [q_ex, q_aload, q_go, q_br] at h
  (repeat' split at h) <;> first | (cases h; simp only [List.length_cons] at hl ⊢; first | (simp only [Nat.add_right_cancel_iff, Nat.succ.injEq, Nat.add_eq_zero_iff] at hl; simp_all [xD, q_tg]; done) | (simp_all [xD, q_tg]; done)) | (cases h; done)
theorem x_d44 {rc : qC} (hr : xRt rc) {lo : qL} {st : List Value} {σ : qH} {x1 : qS} (hl : st.length = 1) (h : q_step rc q_mPW_compile (44, lo, st, σ) = some (.inl x1)) : (x1.1, x1.2.2.1.length) ∈ xD := by
  rw [q_step_of d_PW_compile_44 (Or.inl rfl)] at h
  simp only [q_ex, q_getf, q_go, q_br] at h
  (repeat' split at h) <;> first | (cases h; simp only [List.length_cons] at hl ⊢; first | (simp only [Nat.add_right_cancel_iff, Nat.succ.injEq, Nat.add_eq_zero_iff] at hl; simp_all [xD, q_tg]; done) | (simp_all [xD, q_tg]; done)) | (cases h; done)
theorem x_d47 {rc : qC} (hr : xRt rc) {lo : qL} {st : List Value} {σ : qH} {x1 : qS} (hl : st.length = 1) (h : q_step rc q_mPW_compile (47, lo, st, σ) = some (.inl x1)) : (x1.1, x1.2.2.1.length) ∈ xD := by
  rw [q_step_of d_PW_compile_47 (Or.inl rfl)] at h
  simp only [q_ex, q_push, q_go, q_br] at h
  cases h
  simp only [List.length_cons, hl]
  decide
theorem x_d48 {rc : qC} (hr : xRt rc) {lo : qL} {st : List Value} {σ : qH} {x1 : qS} (hl : st.length = 2) (h : q_step rc q_mPW_compile (48, lo, st, σ) = some (.inl x1)) : (x1.1, x1.2.2.1.length) ∈ xD := by
  rw [q_step_of d_PW_compile_48 (Or.inl rfl)] at h
  simp only [q_ex, q_icmp, q_go, q_br] at h
  (repeat' split at h) <;> first | (cases h; simp only [List.length_cons] at hl ⊢; first | (simp only [Nat.add_right_cancel_iff, Nat.succ.injEq, Nat.add_eq_zero_iff] at hl; simp_all [xD, q_tg]; done) | (simp_all [xD, q_tg]; done)) | (cases h; done)
theorem x_d51 {rc : qC} (hr : xRt rc) {lo : qL} {st : List Value} {σ : qH} {x1 : qS} (hl : st.length = 0) (h : q_step rc q_mPW_compile (51, lo, st, σ) = some (.inl x1)) : (x1.1, x1.2.2.1.length) ∈ xD := by
  rw [q_step_of d_PW_compile_51 (Or.inl rfl)] at h
  simp only [q_ex, q_newC, q_go, q_br] at h
  have hP : q_mPW_compile.2.2.2.2.2.1 70 = some (.inr 1) := rfl
  rw [hP] at h
  cases h
theorem x_d61 {rc : qC} (hr : xRt rc) {lo : qL} {st : List Value} {σ : qH} {x1 : qS} (hl : st.length = 0) (h : q_step rc q_mPW_compile (61, lo, st, σ) = some (.inl x1)) : (x1.1, x1.2.2.1.length) ∈ xD := by
  rw [q_step_of d_PW_compile_61 (Or.inl rfl)] at h
  simp only [q_ex, q_aload, q_go, q_br] at h
  (repeat' split at h) <;> first | (cases h; simp only [List.length_cons] at hl ⊢; first | (simp only [Nat.add_right_cancel_iff, Nat.succ.injEq, Nat.add_eq_zero_iff] at hl; simp_all [xD, q_tg]; done) | (simp_all [xD, q_tg]; done)) | (cases h; done)
theorem x_d62 {rc : qC} (hr : xRt rc) {lo : qL} {st : List Value} {σ : qH} {x1 : qS} (hl : st.length = 1) (h : q_step rc q_mPW_compile (62, lo, st, σ) = some (.inl x1)) : (x1.1, x1.2.2.1.length) ∈ xD := by
  rw [q_step_of d_PW_compile_62 (Or.inl rfl)] at h
  have hP : q_mPW_compile.2.2.2.2.2.2.1 75 = q_PPW.2.2.1 75 := rfl
  simp only [q_ex, hP, pM_PW_75, q_call] at h
  split at h
  · rename_i b r hst
    have hd := x_drop hst
    split at h
    · split at h
      · unfold q_back at h
        split at h
        · rename_i v s1 hr1
          cases h
          have hv := hr _ _ _ _ _ hr1 _ (show q_Mt 56 = some _ from rfl)
          have hv2 : v.isSome = true := hv
          have := x_vl (r := r) hv2
          dsimp only
          rw [this, show r.length = 0 by omega]
          decide
        · cases h
      · cases h
    · cases h
  · cases h
theorem x_d65 {rc : qC} (hr : xRt rc) {lo : qL} {st : List Value} {σ : qH} {x1 : qS} (hl : st.length = 1) (h : q_step rc q_mPW_compile (65, lo, st, σ) = some (.inl x1)) : (x1.1, x1.2.2.1.length) ∈ xD := by
  rw [q_step_of d_PW_compile_65 (Or.inl rfl)] at h
  simp only [q_ex, q_push, q_go, q_br] at h
  cases h
  simp only [List.length_cons, hl]
  decide
theorem x_d66 {rc : qC} (hr : xRt rc) {lo : qL} {st : List Value} {σ : qH} {x1 : qS} (hl : st.length = 2) (h : q_step rc q_mPW_compile (66, lo, st, σ) = some (.inl x1)) : (x1.1, x1.2.2.1.length) ∈ xD := by
  rw [q_step_of d_PW_compile_66 (Or.inl rfl)] at h
  simp only [q_ex, q_i2, q_go, q_br] at h
  (repeat' split at h) <;> first | (cases h; simp only [List.length_cons] at hl ⊢; first | (simp only [Nat.add_right_cancel_iff, Nat.succ.injEq, Nat.add_eq_zero_iff] at hl; simp_all [xD, q_tg]; done) | (simp_all [xD, q_tg]; done)) | (cases h; done)
theorem x_d67 {rc : qC} (hr : xRt rc) {lo : qL} {st : List Value} {σ : qH} {x1 : qS} (hl : st.length = 1) (h : q_step rc q_mPW_compile (67, lo, st, σ) = some (.inl x1)) : (x1.1, x1.2.2.1.length) ∈ xD := by
  rw [q_step_of d_PW_compile_67 (Or.inl rfl)] at h
  simp only [q_ex, q_push, q_go, q_br] at h
  cases h
  simp only [List.length_cons, hl]
  decide
theorem x_d70 {rc : qC} (hr : xRt rc) {lo : qL} {st : List Value} {σ : qH} {x1 : qS} (hl : st.length = 2) (h : q_step rc q_mPW_compile (70, lo, st, σ) = some (.inl x1)) : (x1.1, x1.2.2.1.length) ∈ xD := by
  rw [q_step_of d_PW_compile_70 (Or.inl rfl)] at h
  simp only [q_ex, q_icmp, q_go, q_br] at h
  (repeat' split at h) <;> first | (cases h; simp only [List.length_cons] at hl ⊢; first | (simp only [Nat.add_right_cancel_iff, Nat.succ.injEq, Nat.add_eq_zero_iff] at hl; simp_all [xD, q_tg]; done) | (simp_all [xD, q_tg]; done)) | (cases h; done)
theorem x_d73 {rc : qC} (hr : xRt rc) {lo : qL} {st : List Value} {σ : qH} {x1 : qS} (hl : st.length = 0) (h : q_step rc q_mPW_compile (73, lo, st, σ) = some (.inl x1)) : (x1.1, x1.2.2.1.length) ∈ xD := by
  rw [q_step_of d_PW_compile_73 (Or.inl rfl)] at h
  simp only [q_ex, q_newC, q_go, q_br] at h
  have hP : q_mPW_compile.2.2.2.2.2.1 56 = some (.inr 2) := rfl
  rw [hP] at h
  cases h
theorem x_d83 {rc : qC} (hr : xRt rc) {lo : qL} {st : List Value} {σ : qH} {x1 : qS} (hl : st.length = 0) (h : q_step rc q_mPW_compile (83, lo, st, σ) = some (.inl x1)) : (x1.1, x1.2.2.1.length) ∈ xD := by
  rw [q_step_of d_PW_compile_83 (Or.inl rfl)] at h
  simp only [q_ex, q_aload, q_go, q_br] at h
  (repeat' split at h) <;> first | (cases h; simp only [List.length_cons] at hl ⊢; first | (simp only [Nat.add_right_cancel_iff, Nat.succ.injEq, Nat.add_eq_zero_iff] at hl; simp_all [xD, q_tg]; done) | (simp_all [xD, q_tg]; done)) | (cases h; done)
theorem x_d84 {rc : qC} (hr : xRt rc) {lo : qL} {st : List Value} {σ : qH} {x1 : qS} (hl : st.length = 1) (h : q_step rc q_mPW_compile (84, lo, st, σ) = some (.inl x1)) : (x1.1, x1.2.2.1.length) ∈ xD := by
  rw [q_step_of d_PW_compile_84 (Or.inl rfl)] at h
  simp only [q_ex, q_getf, q_go, q_br] at h
  (repeat' split at h) <;> first | (cases h; simp only [List.length_cons] at hl ⊢; first | (simp only [Nat.add_right_cancel_iff, Nat.succ.injEq, Nat.add_eq_zero_iff] at hl; simp_all [xD, q_tg]; done) | (simp_all [xD, q_tg]; done)) | (cases h; done)
theorem x_d87 {rc : qC} (hr : xRt rc) {lo : qL} {st : List Value} {σ : qH} {x1 : qS} (hl : st.length = 1) (h : q_step rc q_mPW_compile (87, lo, st, σ) = some (.inl x1)) : (x1.1, x1.2.2.1.length) ∈ xD := by
  rw [q_step_of d_PW_compile_87 (Or.inl rfl)] at h
  simp only [q_ex, q_aload, q_go, q_br] at h
  (repeat' split at h) <;> first | (cases h; simp only [List.length_cons] at hl ⊢; first | (simp only [Nat.add_right_cancel_iff, Nat.succ.injEq, Nat.add_eq_zero_iff] at hl; simp_all [xD, q_tg]; done) | (simp_all [xD, q_tg]; done)) | (cases h; done)
theorem x_d88 {rc : qC} (hr : xRt rc) {lo : qL} {st : List Value} {σ : qH} {x1 : qS} (hl : st.length = 2) (h : q_step rc q_mPW_compile (88, lo, st, σ) = some (.inl x1)) : (x1.1, x1.2.2.1.length) ∈ xD := by
  rw [q_step_of d_PW_compile_88 (Or.inl rfl)] at h
  simp only [q_ex, q_aload, q_go, q_br] at h
  (repeat' split at h) <;> first | (cases h; simp only [List.length_cons] at hl ⊢; first | (simp only [Nat.add_right_cancel_iff, Nat.succ.injEq, Nat.add_eq_zero_iff] at hl; simp_all [xD, q_tg]; done) | (simp_all [xD, q_tg]; done)) | (cases h; done)
theorem x_d89 {rc : qC} (hr : xRt rc) {lo : qL} {st : List Value} {σ : qH} {x1 : qS} (hl : st.length = 3) (h : q_step rc q_mPW_compile (89, lo, st, σ) = some (.inl x1)) : (x1.1, x1.2.2.1.length) ∈ xD := by
  rw [q_step_of d_PW_compile_89 (Or.inl rfl)] at h
  simp only [q_ex, q_getf, q_go, q_br] at h
  (repeat' split at h) <;> first | (cases h; simp only [List.length_cons] at hl ⊢; first | (simp only [Nat.add_right_cancel_iff, Nat.succ.injEq, Nat.add_eq_zero_iff] at hl; simp_all [xD, q_tg]; done) | (simp_all [xD, q_tg]; done)) | (cases h; done)
theorem x_d92 {rc : qC} (hr : xRt rc) {lo : qL} {st : List Value} {σ : qH} {x1 : qS} (hl : st.length = 3) (h : q_step rc q_mPW_compile (92, lo, st, σ) = some (.inl x1)) : (x1.1, x1.2.2.1.length) ∈ xD := by
  rw [q_step_of d_PW_compile_92 (Or.inl rfl)] at h
  simp only [q_ex, q_getf, q_go, q_br] at h
  (repeat' split at h) <;> first | (cases h; simp only [List.length_cons] at hl ⊢; first | (simp only [Nat.add_right_cancel_iff, Nat.succ.injEq, Nat.add_eq_zero_iff] at hl; simp_all [xD, q_tg]; done) | (simp_all [xD, q_tg]; done)) | (cases h; done)
theorem x_d95 {rc : qC} (hr : xRt rc) {lo : qL} {st : List Value} {σ : qH} {x1 : qS} (hl : st.length = 3) (h : q_step rc q_mPW_compile (95, lo, st, σ) = some (.inl x1)) : (x1.1, x1.2.2.1.length) ∈ xD := by
  rw [q_step_of d_PW_compile_95 (Or.inl rfl)] at h
  have hP : q_mPW_compile.2.2.2.2.2.2.1 86 = q_PPW.2.2.1 86 := rfl
  simp only [q_ex, hP, pM_PW_86, q_call] at h
  split at h
  · rename_i b r hst
    have hd := x_drop hst
    split at h
    · split at h
      · unfold q_back at h
        split at h
        · rename_i v s1 hr1
          cases h
          have hv := hr _ _ _ _ _ hr1 _ (show q_Mt 47 = some _ from rfl)
          have hv2 : v.isSome = false := hv
          have := x_vl (r := r) hv2
          dsimp only
          rw [this, show r.length = 0 by omega]
          decide
        · cases h
      · cases h
    · cases h
  · cases h
theorem x_d98 {rc : qC} (hr : xRt rc) {lo : qL} {st : List Value} {σ : qH} {x1 : qS} (hl : st.length = 0) (h : q_step rc q_mPW_compile (98, lo, st, σ) = some (.inl x1)) : (x1.1, x1.2.2.1.length) ∈ xD := by
  rw [q_step_of d_PW_compile_98 (Or.inl rfl)] at h
  simp only [q_ex, q_aload, q_go, q_br] at h
  (repeat' split at h) <;> first | (cases h; simp only [List.length_cons] at hl ⊢; first | (simp only [Nat.add_right_cancel_iff, Nat.succ.injEq, Nat.add_eq_zero_iff] at hl; simp_all [xD, q_tg]; done) | (simp_all [xD, q_tg]; done)) | (cases h; done)
theorem x_d99 {rc : qC} (hr : xRt rc) {lo : qL} {st : List Value} {σ : qH} {x1 : qS} (hl : st.length = 1) (h : q_step rc q_mPW_compile (99, lo, st, σ) = some (.inl x1)) : (x1.1, x1.2.2.1.length) ∈ xD := by
  rw [q_step_of d_PW_compile_99 (Or.inl rfl)] at h
  simp only [q_ex, q_getf, q_go, q_br] at h
  (repeat' split at h) <;> first | (cases h; simp only [List.length_cons] at hl ⊢; first | (simp only [Nat.add_right_cancel_iff, Nat.succ.injEq, Nat.add_eq_zero_iff] at hl; simp_all [xD, q_tg]; done) | (simp_all [xD, q_tg]; done)) | (cases h; done)
theorem x_d102 {rc : qC} (hr : xRt rc) {lo : qL} {st : List Value} {σ : qH} {x1 : qS} (hl : st.length = 1) (h : q_step rc q_mPW_compile (102, lo, st, σ) = some (.inl x1)) : (x1.1, x1.2.2.1.length) ∈ xD := by
  rw [q_step_of d_PW_compile_102 (Or.inl rfl)] at h
  simp only [q_ex, q_getf, q_go, q_br] at h
  (repeat' split at h) <;> first | (cases h; simp only [List.length_cons] at hl ⊢; first | (simp only [Nat.add_right_cancel_iff, Nat.succ.injEq, Nat.add_eq_zero_iff] at hl; simp_all [xD, q_tg]; done) | (simp_all [xD, q_tg]; done)) | (cases h; done)
theorem x_d105 {rc : qC} (hr : xRt rc) {lo : qL} {st : List Value} {σ : qH} {x1 : qS} (hl : st.length = 1) (h : q_step rc q_mPW_compile (105, lo, st, σ) = some (.inl x1)) : (x1.1, x1.2.2.1.length) ∈ xD := by
  rw [q_step_of d_PW_compile_105 (Or.inl rfl)] at h
  simp only [q_ex, q_ireturn, q_go, q_br] at h
  (repeat' split at h) <;> cases h
theorem x_dep {rc : qC} (hr : xRt rc) {pc : Nat} {lo : qL} {st : List Value} {σ : qH} {x1 : qS} (hi : (pc, st.length) ∈ xD) (h : q_step rc q_mPW_compile (pc, lo, st, σ) = some (.inl x1)) : (x1.1, x1.2.2.1.length) ∈ xD := by
  simp only [xD, List.mem_cons, Prod.mk.injEq, List.not_mem_nil, or_false] at hi
  rcases hi with ⟨e, hl⟩ | ⟨e, hl⟩ | ⟨e, hl⟩ | ⟨e, hl⟩ | ⟨e, hl⟩ | ⟨e, hl⟩ | ⟨e, hl⟩ | ⟨e, hl⟩ | ⟨e, hl⟩ | ⟨e, hl⟩ | ⟨e, hl⟩ | ⟨e, hl⟩ | ⟨e, hl⟩ | ⟨e, hl⟩ | ⟨e, hl⟩ | ⟨e, hl⟩ | ⟨e, hl⟩ | ⟨e, hl⟩ | ⟨e, hl⟩ | ⟨e, hl⟩ | ⟨e, hl⟩ | ⟨e, hl⟩ | ⟨e, hl⟩ | ⟨e, hl⟩ | ⟨e, hl⟩ | ⟨e, hl⟩ | ⟨e, hl⟩ | ⟨e, hl⟩ | ⟨e, hl⟩ | ⟨e, hl⟩ | ⟨e, hl⟩ | ⟨e, hl⟩ | ⟨e, hl⟩ | ⟨e, hl⟩ | ⟨e, hl⟩ | ⟨e, hl⟩ | ⟨e, hl⟩ | ⟨e, hl⟩ | ⟨e, hl⟩
  · subst e; exact x_d0 hr hl h
  · subst e; exact x_d1 hr hl h
  · subst e; exact x_d4 hr hl h
  · subst e; exact x_d7 hr hl h
  · subst e; exact x_d10 hr hl h
  · subst e; exact x_d20 hr hl h
  · subst e; exact x_d21 hr hl h
  · subst e; exact x_d24 hr hl h
  · subst e; exact x_d25 hr hl h
  · subst e; exact x_d28 hr hl h
  · subst e; exact x_d31 hr hl h
  · subst e; exact x_d32 hr hl h
  · subst e; exact x_d33 hr hl h
  · subst e; exact x_d34 hr hl h
  · subst e; exact x_d37 hr hl h
  · subst e; exact x_d40 hr hl h
  · subst e; exact x_d43 hr hl h
  · subst e; exact x_d44 hr hl h
  · subst e; exact x_d47 hr hl h
  · subst e; exact x_d48 hr hl h
  · subst e; exact x_d51 hr hl h
  · subst e; exact x_d61 hr hl h
  · subst e; exact x_d62 hr hl h
  · subst e; exact x_d65 hr hl h
  · subst e; exact x_d66 hr hl h
  · subst e; exact x_d67 hr hl h
  · subst e; exact x_d70 hr hl h
  · subst e; exact x_d73 hr hl h
  · subst e; exact x_d83 hr hl h
  · subst e; exact x_d84 hr hl h
  · subst e; exact x_d87 hr hl h
  · subst e; exact x_d88 hr hl h
  · subst e; exact x_d89 hr hl h
  · subst e; exact x_d92 hr hl h
  · subst e; exact x_d95 hr hl h
  · subst e; exact x_d98 hr hl h
  · subst e; exact x_d99 hr hl h
  · subst e; exact x_d102 hr hl h
  · subst e; exact x_d105 hr hl h
