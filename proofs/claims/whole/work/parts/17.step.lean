/-! THE SMALL MACHINE IS TRUE, 6: a step, whole -/
def q_pok (cl : List vw_C) (Ts Ns : List Cond) (yn : Nat → MethodName) (Mt : Nat → Option qM) (own : String) (P : qP) : Prop :=
  (∀ k f, P.1 k = some f → q_fok cl Ts Ns own k f) ∧ (∀ k n, P.2.1 k = some (.inl n) → q_nok cl Ts own k n) ∧ (∀ k x, P.2.2.1 k = some x → q_mok cl Ts Ns yn Mt own k x) ∧ (∀ k v, P.2.2.2.1 k = some v → Cond.constant own k v ∈ Ts) ∧ (∀ k v, P.2.2.2.2 k = some v → Cond.constantLong own k v ∈ Ts)
section QX
variable {p : Program} {l : Launch} {e : Env} {R : Room} {s : State} {m : MethodId} {args : Array Value} {below : List Frame} {meth : Method} {c : Code} {D : va_G} {cl : List vw_C} {ac : Nat → ClassId} {B0 nL k0 w0 : Nat} {Q : State → Prop} {own : String} {cc : ByteArray} {Ts Ns : List Cond} {pc : Nat} {lo : qL} {st : List Value} {σ : qH} {x' : qS}
variable {yn : Nat → MethodName} {Mt : Nat → Option qM} {d : Nat} {rc : qC}
set_option maxHeartbeats 4000000 in
theorem q_ok_ex {P : qP} {ini : Bool} {rt : Option FieldType} {i : ClassFile.Instr} {n : Nat} (Cx : q_Cx p s m args c D cl ac B0 own cc nL Ts Ns) (hi : ini = true → meth.name = "<init>") (hT : GoodIn Ts Ts) (hN : ∀ w ∈ Ns, q_isN w = true) (hrc : q_Snd l D cl ac B0 Ts Ns yn Mt d rc) (hP : q_pok cl Ts Ns yn Mt own P) (hta : Cond.arrayClass .int ∈ Ts ∧ Cond.arrayClass .char ∈ Ts ∧ Cond.arrayClass .long ∈ Ts ∧ Cond.arrayClass .boolean ∈ Ts) (hRf : d + 1 ≤ R.frames) (hRl : 64 * (d + 1) ≤ R.locals)
    (hRc : x'.2.2.2.2.2.1 - k0 ≤ R.cells) (hRs : x'.2.2.2.2.2.2 - w0 ≤ R.slots) (hd : decode cc pc = .ok (i, n)) (hn : n = q_len i ∨ q_isSw i = true) (h : q_ex rc P ini rt i pc lo st σ = some (.inl x')) (kk : q_G p l e R s m args below meth c D cl ac B0 nL k0 w0 Q x') : q_G p l e R s m args below meth c D cl ac B0 nL k0 w0 Q (pc, lo, st, σ) := by
  have hx := Cx.1
  have hb := Cx.2.1
  have hown := Cx.2.2.2.1
  have hts := Cx.2.2.2.2.1
  cases i with
  | aconst_null =>
    rcases hn with hn | hn
    · subst hn
      exact q_ok_push (fun H locs ls k w z => lv_null hx hb hd z) h kk
    · cases hn
  | aload i =>
    rcases hn with hn | hn
    · subst hn
      exact q_ok_aload (fun x H locs ls k w hl z => lv_aload hx hb hd hl z) (fun H locs ls k w hl z => lv_aloadN hx hb hd hl z) h kk
    · cases hn
  | aload_n i =>
    rcases hn with hn | hn
    · subst hn
      exact q_ok_aload (fun x H locs ls k w hl z => lv_aload_n hx hb hd rfl hl z) (fun H locs ls k w hl z => lv_aload_nN hx hb hd rfl hl z) h kk
    · cases hn
  | areturn =>
    simp only [q_ex, q_areturn] at h
    (repeat' split at h) <;> cases h
  | arraylength =>
    rcases hn with hn | hn
    · subst hn
      exact q_ok_alen Cx hd h kk
    · cases hn
  | astore i =>
    rcases hn with hn | hn
    · subst hn
      exact q_ok_astore (fun x r H locs ls k w lv hl hj z => lv_astore hx hb hd hl hj rfl z) (fun r H locs ls k w lv hl hj z => lv_astoreN hx hb hd hl hj rfl z) h kk
    · cases hn
  | astore_n i =>
    rcases hn with hn | hn
    · subst hn
      exact q_ok_astore (fun x r H locs ls k w lv hl hj z => lv_astore_n hx hb hd rfl hl hj rfl z) (fun r H locs ls k w lv hl hj z => lv_astore_nN hx hb hd rfl hl hj rfl z) h kk
    · cases hn
  | baload =>
    rcases hn with hn | hn
    · subst hn
      exact q_ok_zald Cx hd h kk
    · cases hn
  | bastore =>
    rcases hn with hn | hn
    · subst hn
      exact q_ok_zast Cx hd h kk
    · cases hn
  | bipush n =>
    rcases hn with hn | hn
    · subst hn
      exact q_ok_push (fun H locs ls k w z => lv_bipush hx hb hd rfl z) h kk
    · cases hn
  | caload =>
    rcases hn with hn | hn
    · subst hn
      exact q_ok_cald Cx hd h kk
    · cases hn
  | castore =>
    rcases hn with hn | hn
    · subst hn
      exact q_ok_cast Cx hd h kk
    · cases hn
  | dup =>
    rcases hn with hn | hn
    · subst hn
      exact q_ok_dup hx hb hd h kk
    · cases hn
  | dup_x1 =>
    rcases hn with hn | hn
    · subst hn
      exact q_ok_dupx1 hx hb hd h kk
    · cases hn
  | dup_x2 =>
    rcases hn with hn | hn
    · subst hn
      exact q_ok_dupx2 hx hb hd h kk
    · cases hn
  | dup2 =>
    rcases hn with hn | hn
    · subst hn
      exact q_ok_dup2 hx hb hd h kk
    · cases hn
  | dup2_x1 =>
    rcases hn with hn | hn
    · subst hn
      exact q_ok_dup2x1 hx hb hd h kk
    · cases hn
  | getfield k =>
    rcases hn with hn | hn
    · subst hn
      exact q_ok_getf Cx (fun x e9 => hP.1 _ x e9) hd h kk
    · cases hn
  | goto off =>
    rcases hn with hn | hn
    · subst hn
      exact q_ok_goto hx hb hd h kk
    · cases hn
  | i2c =>
    rcases hn with hn | hn
    · subst hn
      exact q_ok_i1 (fun x r H locs ls k w z => lv_i2c hx hb hd rfl z) h kk
    · cases hn
  | i2l =>
    rcases hn with hn | hn
    · subst hn
      exact q_ok_i1 (fun x r H locs ls k w z => lv_i2l hx hb hd rfl z) h kk
    · cases hn
  | iadd =>
    rcases hn with hn | hn
    · subst hn
      exact q_ok_i2 (fun x y r H locs ls k w z => lv_iadd hx hb hd z) h kk
    · cases hn
  | iaload =>
    rcases hn with hn | hn
    · subst hn
      exact q_ok_iald Cx hd h kk
    · cases hn
  | iand =>
    rcases hn with hn | hn
    · subst hn
      exact q_ok_i2 (fun x y r H locs ls k w z => lv_iand hx hb hd z) h kk
    · cases hn
  | iastore =>
    rcases hn with hn | hn
    · subst hn
      exact q_ok_iast Cx hd h kk
    · cases hn
  | iconst n =>
    rcases hn with hn | hn
    · subst hn
      exact q_ok_push (fun H locs ls k w z => lv_iconst hx hb hd rfl z) h kk
    · cases hn
  | idiv =>
    rcases hn with hn | hn
    · subst hn
      exact q_ok_d2 (fun x y r H locs ls k w hy z => lv_idiv hx hb hd hy z) h kk
    · cases hn
  | if_icmp cd off =>
    rcases hn with hn | hn
    · subst hn
      exact q_ok_icmp hx hb hd h kk
    · cases hn
  | ifCond cd off =>
    rcases hn with hn | hn
    · subst hn
      exact q_ok_if hx hb hd h kk
    · cases hn
  | ifnonnull off =>
    rcases hn with hn | hn
    · subst hn
      exact q_ok_ifnonnull hx hb hd h kk
    · cases hn
  | ifnull off =>
    rcases hn with hn | hn
    · subst hn
      exact q_ok_ifnull hx hb hd h kk
    · cases hn
  | iinc i k =>
    rcases hn with hn | hn
    · subst hn
      exact q_ok_iinc hx hb hd h kk
    · cases hn
  | iload i =>
    rcases hn with hn | hn
    · subst hn
      exact q_ok_iload (fun x H locs ls k w hl z => lv_iload hx hb hd hl z) h kk
    · cases hn
  | iload_n i =>
    rcases hn with hn | hn
    · subst hn
      exact q_ok_iload (fun x H locs ls k w hl z => lv_iload_n hx hb hd rfl hl z) h kk
    · cases hn
  | imul =>
    rcases hn with hn | hn
    · subst hn
      exact q_ok_i2 (fun x y r H locs ls k w z => lv_imul hx hb hd z) h kk
    · cases hn
  | ineg =>
    rcases hn with hn | hn
    · subst hn
      exact q_ok_i1 (fun x r H locs ls k w z => lv_ineg hx hb hd z) h kk
    · cases hn
  | invokespecial k =>
    rcases hn with hn | hn
    · subst hn
      simp only [q_ex] at h
      split at h
      · rename_i z hv
        exact q_ok_callO Cx (hP.2.2.1 _ _ hv) hRf hRl hd h kk
      · rename_i z hv
        obtain ⟨z1, z2, z3⟩ := z
        exact q_ok_callI Cx hT hN hrc (hP.2.2.1 _ _ hv) hRf hRl hRc hRs hd h kk
      · cases h
    · cases hn
  | invokestatic k =>
    rcases hn with hn | hn
    · subst hn
      simp only [q_ex] at h
      split at h
      · rename_i z hv
        obtain ⟨z1, z2, z3⟩ := z
        exact q_ok_callS Cx hT hN hrc (hP.2.2.1 _ _ hv) hRf hRl hRc hRs hd h kk
      · rename_i z hv
        exact q_ok_callM Cx (hP.2.2.1 _ _ hv) hRf hRl hRc hRs hd h kk
      · rename_i z hv
        exact q_ok_callN Cx (hP.2.2.1 _ _ hv) hRf hRl hRc hRs hd h kk
      · cases h
    · cases hn
  | invokevirtual k =>
    rcases hn with hn | hn
    · subst hn
      simp only [q_ex] at h
      split at h
      · rename_i z hv
        obtain ⟨z1, z2, z3⟩ := z
        exact q_ok_callV Cx hT hN hrc (hP.2.2.1 _ _ hv) hRf hRl hRc hRs hd h kk
      · cases h
    · cases hn
  | ior =>
    rcases hn with hn | hn
    · subst hn
      exact q_ok_i2 (fun x y r H locs ls k w z => lv_ior hx hb hd z) h kk
    · cases hn
  | irem =>
    rcases hn with hn | hn
    · subst hn
      exact q_ok_d2 (fun x y r H locs ls k w hy z => lv_irem hx hb hd hy z) h kk
    · cases hn
  | ireturn =>
    simp only [q_ex, q_ireturn] at h
    (repeat' split at h) <;> cases h
  | ishl =>
    rcases hn with hn | hn
    · subst hn
      exact q_ok_i2 (fun x y r H locs ls k w z => lv_ishl hx hb hd z) h kk
    · cases hn
  | ishr =>
    rcases hn with hn | hn
    · subst hn
      exact q_ok_i2 (fun x y r H locs ls k w z => lv_ishr hx hb hd z) h kk
    · cases hn
  | istore i =>
    rcases hn with hn | hn
    · subst hn
      exact q_ok_istore (fun x r H locs ls k w lv hl hj z => lv_istore hx hb hd hl hj rfl z) h kk
    · cases hn
  | istore_n i =>
    rcases hn with hn | hn
    · subst hn
      exact q_ok_istore (fun x r H locs ls k w lv hl hj z => lv_istore_n hx hb hd rfl hl hj rfl z) h kk
    · cases hn
  | isub =>
    rcases hn with hn | hn
    · subst hn
      exact q_ok_i2 (fun x y r H locs ls k w z => lv_isub hx hb hd z) h kk
    · cases hn
  | iushr =>
    rcases hn with hn | hn
    · subst hn
      exact q_ok_i2 (fun x y r H locs ls k w z => lv_iushr hx hb hd rfl z) h kk
    · cases hn
  | ixor =>
    rcases hn with hn | hn
    · subst hn
      exact q_ok_i2 (fun x y r H locs ls k w z => lv_ixor hx hb hd z) h kk
    · cases hn
  | l2i =>
    rcases hn with hn | hn
    · subst hn
      exact q_ok_l1 (fun x r H locs ls k w z => lv_l2i hx hb hd rfl z) h kk
    · cases hn
  | ladd =>
    rcases hn with hn | hn
    · subst hn
      exact q_ok_l2 (fun x y r H locs ls k w z => lv_ladd hx hb hd z) h kk
    · cases hn
  | laload =>
    rcases hn with hn | hn
    · subst hn
      exact q_ok_lald Cx hd h kk
    · cases hn
  | land =>
    rcases hn with hn | hn
    · subst hn
      exact q_ok_l2 (fun x y r H locs ls k w z => lv_land hx hb hd z) h kk
    · cases hn
  | lastore =>
    rcases hn with hn | hn
    · subst hn
      exact q_ok_last Cx hd h kk
    · cases hn
  | lcmp =>
    rcases hn with hn | hn
    · subst hn
      exact q_ok_l2 (fun x y r H locs ls k w z => W.lcmp hx hb hd z) h kk
    · cases hn
  | lconst n =>
    rcases hn with hn | hn
    · subst hn
      exact q_ok_push (fun H locs ls k w z => lv_lconst hx hb hd rfl z) h kk
    · cases hn
  | ldc k =>
    rcases hn with hn | hn
    · subst hn
      simp only [q_ex] at h
      split at h
      · rename_i v hv
        exact q_ok_push (fun H locs ls k w z => lv_ldc hx hb hown (hts _ (hP.2.2.2.1 _ v hv)) hd z) h kk
      · cases h
    · cases hn
  | ldc2_w k =>
    rcases hn with hn | hn
    · subst hn
      simp only [q_ex] at h
      split at h
      · rename_i v hv
        exact q_ok_push (fun H locs ls k w z => lv_ldc2 hx hb hown (hts _ (hP.2.2.2.2 _ v hv)) hd z) h kk
      · cases h
    · cases hn
  | lload i =>
    rcases hn with hn | hn
    · subst hn
      exact q_ok_lload (fun x H locs ls k w hl z => lv_lload hx hb hd hl z) h kk
    · cases hn
  | lload_n i =>
    rcases hn with hn | hn
    · subst hn
      exact q_ok_lload (fun x H locs ls k w hl z => lv_lload_n hx hb hd rfl hl z) h kk
    · cases hn
  | lmul =>
    rcases hn with hn | hn
    · subst hn
      exact q_ok_l2 (fun x y r H locs ls k w z => lv_lmul hx hb hd z) h kk
    · cases hn
  | lookupswitch d ps =>
    exact q_ok_lookup hx hb hd h kk
  | lor =>
    rcases hn with hn | hn
    · subst hn
      exact q_ok_l2 (fun x y r H locs ls k w z => lv_lor hx hb hd z) h kk
    · cases hn
  | lreturn =>
    simp only [q_ex, q_lreturn] at h
    (repeat' split at h) <;> cases h
  | lshl =>
    rcases hn with hn | hn
    · subst hn
      exact q_ok_ls (fun x y r H locs ls k w z => lv_lshl hx hb hd rfl z) h kk
    · cases hn
  | lshr =>
    rcases hn with hn | hn
    · subst hn
      exact q_ok_ls (fun x y r H locs ls k w z => lv_lshr hx hb hd rfl z) h kk
    · cases hn
  | lstore i =>
    rcases hn with hn | hn
    · subst hn
      exact q_ok_lstore (fun x r H locs ls k w lv hl hj z => lv_lstore hx hb hd hl hj rfl z) h kk
    · cases hn
  | lstore_n i =>
    rcases hn with hn | hn
    · subst hn
      exact q_ok_lstore (fun x r H locs ls k w lv hl hj z => lv_lstore_n hx hb hd rfl hl hj rfl z) h kk
    · cases hn
  | lsub =>
    rcases hn with hn | hn
    · subst hn
      exact q_ok_l2 (fun x y r H locs ls k w z => lv_lsub hx hb hd z) h kk
    · cases hn
  | lushr =>
    rcases hn with hn | hn
    · subst hn
      exact q_ok_ls (fun x y r H locs ls k w z => lv_lushr hx hb hd rfl z) h kk
    · cases hn
  | lxor =>
    rcases hn with hn | hn
    · subst hn
      exact q_ok_l2 (fun x y r H locs ls k w z => lv_lxor hx hb hd z) h kk
    · cases hn
  | new k =>
    rcases hn with hn | hn
    · subst hn
      exact q_ok_newC Cx (fun n e9 => hP.2.1 _ n e9) hRc hRs hd h kk
    · cases hn
  | newarray t =>
    rcases hn with hn | hn
    · subst hn
      exact q_ok_newA Cx hta hRc hRs hd h kk
    · cases hn
  | pop =>
    rcases hn with hn | hn
    · subst hn
      exact q_ok_pop hx hb hd h kk
    · cases hn
  | pop2 =>
    rcases hn with hn | hn
    · subst hn
      exact q_ok_pop2 hx hb hd h kk
    · cases hn
  | putfield k =>
    rcases hn with hn | hn
    · subst hn
      exact q_ok_putf Cx hi (fun x e9 => hP.1 _ x e9) hd h kk
    · cases hn
  | return_ =>
    simp only [q_ex, q_vreturn] at h
    (repeat' split at h) <;> cases h
  | sipush n =>
    rcases hn with hn | hn
    · subst hn
      exact q_ok_push (fun H locs ls k w z => lv_sipush hx hb hd rfl z) h kk
    · cases hn
  | tableswitch d a b os =>
    exact q_ok_table hx hb hd h kk
  | _ => cases h
end QX
