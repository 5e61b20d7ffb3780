/-! EQUATIONS OF RUNS: what an instruction does to q_out -/
section QO
variable {rc : qC} {M : qM} {pc : Nat} {lo : qL} {st : List Value} {σ : qH}
theorem o_null  (hd : decode M.1 pc = .ok (.aconst_null, 1))  : q_out rc M (pc, lo, st, σ) = q_out rc M (pc + 1, lo, .null :: st, σ) :=
  q_out_go (by rw [q_step_of hd (Or.inl rfl)]; simp only [q_ex, q_push, q_go])
theorem o_iconst {n : Int} {v : Int32} (hd : decode M.1 pc = .ok (.iconst n, 1)) (hv : Int32.ofInt n = v) : q_out rc M (pc, lo, st, σ) = q_out rc M (pc + 1, lo, .int v :: st, σ) :=
  q_out_go (by rw [q_step_of hd (Or.inl rfl)]; subst hv; simp only [q_ex, q_push, q_go])
theorem o_bipush {n : Int} {v : Int32} (hd : decode M.1 pc = .ok (.bipush n, 2)) (hv : (Int8.ofInt n).toInt32 = v) : q_out rc M (pc, lo, st, σ) = q_out rc M (pc + 2, lo, .int v :: st, σ) :=
  q_out_go (by rw [q_step_of hd (Or.inl rfl)]; subst hv; simp only [q_ex, q_push, q_go])
theorem o_sipush {n : Int} {v : Int32} (hd : decode M.1 pc = .ok (.sipush n, 3)) (hv : (Int16.ofInt n).toInt32 = v) : q_out rc M (pc, lo, st, σ) = q_out rc M (pc + 3, lo, .int v :: st, σ) :=
  q_out_go (by rw [q_step_of hd (Or.inl rfl)]; subst hv; simp only [q_ex, q_push, q_go])
theorem o_lconst {n : Fin 2} {v : Int64} (hd : decode M.1 pc = .ok (.lconst n, 1)) (hv : Int64.ofNat (n : Nat) = v) : q_out rc M (pc, lo, st, σ) = q_out rc M (pc + 1, lo, .long v :: st, σ) :=
  q_out_go (by rw [q_step_of hd (Or.inl rfl)]; subst hv; simp only [q_ex, q_push, q_go])
theorem o_iload_n {k : Fin 4} {x : Int32} (hd : decode M.1 pc = .ok (.iload_n k, 1)) (hl : lo.getD k.val none = some (.int x)) : q_out rc M (pc, lo, st, σ) = q_out rc M (pc + 1, lo, .int x :: st, σ) :=
  q_out_go (by rw [q_step_of hd (Or.inl rfl)]; simp only [q_ex, q_iload, q_go, hl])
theorem o_iload {k : Nat} {x : Int32} (hd : decode M.1 pc = .ok (.iload k, 2)) (hl : lo.getD k none = some (.int x)) : q_out rc M (pc, lo, st, σ) = q_out rc M (pc + 2, lo, .int x :: st, σ) :=
  q_out_go (by rw [q_step_of hd (Or.inl rfl)]; simp only [q_ex, q_iload, q_go, hl])
theorem o_lload_n {k : Fin 4} {x : Int64} (hd : decode M.1 pc = .ok (.lload_n k, 1)) (hl : lo.getD k.val none = some (.long x)) : q_out rc M (pc, lo, st, σ) = q_out rc M (pc + 1, lo, .long x :: st, σ) :=
  q_out_go (by rw [q_step_of hd (Or.inl rfl)]; simp only [q_ex, q_lload, q_go, hl])
theorem o_lload {k : Nat} {x : Int64} (hd : decode M.1 pc = .ok (.lload k, 2)) (hl : lo.getD k none = some (.long x)) : q_out rc M (pc, lo, st, σ) = q_out rc M (pc + 2, lo, .long x :: st, σ) :=
  q_out_go (by rw [q_step_of hd (Or.inl rfl)]; simp only [q_ex, q_lload, q_go, hl])
theorem o_aload_n {k : Fin 4} {x : Nat} (hd : decode M.1 pc = .ok (.aload_n k, 1)) (hl : lo.getD k.val none = some (.ref x)) : q_out rc M (pc, lo, st, σ) = q_out rc M (pc + 1, lo, .ref x :: st, σ) :=
  q_out_go (by rw [q_step_of hd (Or.inl rfl)]; simp only [q_ex, q_aload, q_go, hl])
theorem o_aload {k : Nat} {x : Nat} (hd : decode M.1 pc = .ok (.aload k, 2)) (hl : lo.getD k none = some (.ref x)) : q_out rc M (pc, lo, st, σ) = q_out rc M (pc + 2, lo, .ref x :: st, σ) :=
  q_out_go (by rw [q_step_of hd (Or.inl rfl)]; simp only [q_ex, q_aload, q_go, hl])
theorem o_aload_nN {k : Fin 4} (hd : decode M.1 pc = .ok (.aload_n k, 1)) (hl : lo.getD k.val none = some .null) : q_out rc M (pc, lo, st, σ) = q_out rc M (pc + 1, lo, .null :: st, σ) :=
  q_out_go (by rw [q_step_of hd (Or.inl rfl)]; simp only [q_ex, q_aload, q_go, hl])
theorem o_aloadN {k : Nat} (hd : decode M.1 pc = .ok (.aload k, 2)) (hl : lo.getD k none = some .null) : q_out rc M (pc, lo, st, σ) = q_out rc M (pc + 2, lo, .null :: st, σ) :=
  q_out_go (by rw [q_step_of hd (Or.inl rfl)]; simp only [q_ex, q_aload, q_go, hl])
theorem o_istore_n {k : Fin 4} {x : Int32} {lo' : qL} (hd : decode M.1 pc = .ok (.istore_n k, 1)) (hi : k.val < lo.length) (hl : q_st1 lo k.val (.int x) = lo') : q_out rc M (pc, lo, .int x :: st, σ) = q_out rc M (pc + 1, lo', st, σ) :=
  q_out_go (by rw [q_step_of hd (Or.inl rfl)]; subst hl; simp only [q_ex, q_istore, q_go, if_pos hi])
theorem o_istore {k : Nat} {x : Int32} {lo' : qL} (hd : decode M.1 pc = .ok (.istore k, 2)) (hi : k < lo.length) (hl : q_st1 lo k (.int x) = lo') : q_out rc M (pc, lo, .int x :: st, σ) = q_out rc M (pc + 2, lo', st, σ) :=
  q_out_go (by rw [q_step_of hd (Or.inl rfl)]; subst hl; simp only [q_ex, q_istore, q_go, if_pos hi])
theorem o_lstore_n {k : Fin 4} {x : Int64} {lo' : qL} (hd : decode M.1 pc = .ok (.lstore_n k, 1)) (hi : k.val + 1 < lo.length) (hl : q_st2 lo k.val (.long x) = lo') : q_out rc M (pc, lo, .long x :: st, σ) = q_out rc M (pc + 1, lo', st, σ) :=
  q_out_go (by rw [q_step_of hd (Or.inl rfl)]; subst hl; simp only [q_ex, q_lstore, q_go, if_pos hi])
theorem o_lstore {k : Nat} {x : Int64} {lo' : qL} (hd : decode M.1 pc = .ok (.lstore k, 2)) (hi : k + 1 < lo.length) (hl : q_st2 lo k (.long x) = lo') : q_out rc M (pc, lo, .long x :: st, σ) = q_out rc M (pc + 2, lo', st, σ) :=
  q_out_go (by rw [q_step_of hd (Or.inl rfl)]; subst hl; simp only [q_ex, q_lstore, q_go, if_pos hi])
theorem o_astore_n {k : Fin 4} {x : Nat} {lo' : qL} (hd : decode M.1 pc = .ok (.astore_n k, 1)) (hi : k.val < lo.length) (hl : q_st1 lo k.val (.ref x) = lo') : q_out rc M (pc, lo, .ref x :: st, σ) = q_out rc M (pc + 1, lo', st, σ) :=
  q_out_go (by rw [q_step_of hd (Or.inl rfl)]; subst hl; simp only [q_ex, q_astore, q_go, if_pos hi])
theorem o_astore {k : Nat} {x : Nat} {lo' : qL} (hd : decode M.1 pc = .ok (.astore k, 2)) (hi : k < lo.length) (hl : q_st1 lo k (.ref x) = lo') : q_out rc M (pc, lo, .ref x :: st, σ) = q_out rc M (pc + 2, lo', st, σ) :=
  q_out_go (by rw [q_step_of hd (Or.inl rfl)]; subst hl; simp only [q_ex, q_astore, q_go, if_pos hi])
theorem o_astore_nN {k : Fin 4} {lo' : qL} (hd : decode M.1 pc = .ok (.astore_n k, 1)) (hi : k.val < lo.length) (hl : q_st1 lo k.val .null = lo') : q_out rc M (pc, lo, .null :: st, σ) = q_out rc M (pc + 1, lo', st, σ) :=
  q_out_go (by rw [q_step_of hd (Or.inl rfl)]; subst hl; simp only [q_ex, q_astore, q_go, if_pos hi])
theorem o_astoreN {k : Nat} {lo' : qL} (hd : decode M.1 pc = .ok (.astore k, 2)) (hi : k < lo.length) (hl : q_st1 lo k .null = lo') : q_out rc M (pc, lo, .null :: st, σ) = q_out rc M (pc + 2, lo', st, σ) :=
  q_out_go (by rw [q_step_of hd (Or.inl rfl)]; subst hl; simp only [q_ex, q_astore, q_go, if_pos hi])
theorem o_iinc {k : Nat} {n : Int} {x v : Int32} {lo' : qL} (hd : decode M.1 pc = .ok (.iinc k n, 3)) (hx : lo.getD k none = some (.int x)) (hv : x + Int32.ofInt n = v) (hi : k < lo.length) (hl : q_st1 lo k (.int v) = lo') : q_out rc M (pc, lo, st, σ) = q_out rc M (pc + 3, lo', st, σ) :=
  q_out_go (by rw [q_step_of hd (Or.inl rfl)]; subst hl; subst hv; simp only [q_ex, q_iinc, q_go, hx, if_pos hi])
theorem o_iadd {x y : Int32} (hd : decode M.1 pc = .ok (.iadd, 1))  : q_out rc M (pc, lo, .int y :: .int x :: st, σ) = q_out rc M (pc + 1, lo, .int (x + y) :: st, σ) :=
  q_out_go (by rw [q_step_of hd (Or.inl rfl)]; simp only [q_ex, q_i2, q_go])
theorem o_isub {x y : Int32} (hd : decode M.1 pc = .ok (.isub, 1))  : q_out rc M (pc, lo, .int y :: .int x :: st, σ) = q_out rc M (pc + 1, lo, .int (x - y) :: st, σ) :=
  q_out_go (by rw [q_step_of hd (Or.inl rfl)]; simp only [q_ex, q_i2, q_go])
theorem o_imul {x y : Int32} (hd : decode M.1 pc = .ok (.imul, 1))  : q_out rc M (pc, lo, .int y :: .int x :: st, σ) = q_out rc M (pc + 1, lo, .int (x * y) :: st, σ) :=
  q_out_go (by rw [q_step_of hd (Or.inl rfl)]; simp only [q_ex, q_i2, q_go])
theorem o_iand {x y : Int32} (hd : decode M.1 pc = .ok (.iand, 1))  : q_out rc M (pc, lo, .int y :: .int x :: st, σ) = q_out rc M (pc + 1, lo, .int (x &&& y) :: st, σ) :=
  q_out_go (by rw [q_step_of hd (Or.inl rfl)]; simp only [q_ex, q_i2, q_go])
theorem o_ior {x y : Int32} (hd : decode M.1 pc = .ok (.ior, 1))  : q_out rc M (pc, lo, .int y :: .int x :: st, σ) = q_out rc M (pc + 1, lo, .int (x ||| y) :: st, σ) :=
  q_out_go (by rw [q_step_of hd (Or.inl rfl)]; simp only [q_ex, q_i2, q_go])
theorem o_ixor {x y : Int32} (hd : decode M.1 pc = .ok (.ixor, 1))  : q_out rc M (pc, lo, .int y :: .int x :: st, σ) = q_out rc M (pc + 1, lo, .int (x ^^^ y) :: st, σ) :=
  q_out_go (by rw [q_step_of hd (Or.inl rfl)]; simp only [q_ex, q_i2, q_go])
theorem o_ishl {x y : Int32} (hd : decode M.1 pc = .ok (.ishl, 1))  : q_out rc M (pc, lo, .int y :: .int x :: st, σ) = q_out rc M (pc + 1, lo, .int (x <<< (y &&& 31)) :: st, σ) :=
  q_out_go (by rw [q_step_of hd (Or.inl rfl)]; simp only [q_ex, q_i2, q_go])
theorem o_ishr {x y : Int32} (hd : decode M.1 pc = .ok (.ishr, 1))  : q_out rc M (pc, lo, .int y :: .int x :: st, σ) = q_out rc M (pc + 1, lo, .int (x >>> (y &&& 31)) :: st, σ) :=
  q_out_go (by rw [q_step_of hd (Or.inl rfl)]; simp only [q_ex, q_i2, q_go])
theorem o_iushr {x y : Int32} (hd : decode M.1 pc = .ok (.iushr, 1))  : q_out rc M (pc, lo, .int y :: .int x :: st, σ) = q_out rc M (pc + 1, lo, .int ((x.toUInt32 >>> (y.toUInt32 &&& Int32.toUInt32 31)).toInt32) :: st, σ) :=
  q_out_go (by rw [q_step_of hd (Or.inl rfl)]; simp only [q_ex, q_i2, q_go])
theorem o_idiv {x y : Int32} (hd : decode M.1 pc = .ok (.idiv, 1)) (hy : ¬ y = 0) : q_out rc M (pc, lo, .int y :: .int x :: st, σ) = q_out rc M (pc + 1, lo, .int (x / y) :: st, σ) :=
  q_out_go (by rw [q_step_of hd (Or.inl rfl)]; simp only [q_ex, q_d2, q_go, if_neg hy])
theorem o_irem {x y : Int32} (hd : decode M.1 pc = .ok (.irem, 1)) (hy : ¬ y = 0) : q_out rc M (pc, lo, .int y :: .int x :: st, σ) = q_out rc M (pc + 1, lo, .int (x - x / y * y) :: st, σ) :=
  q_out_go (by rw [q_step_of hd (Or.inl rfl)]; simp only [q_ex, q_d2, q_go, if_neg hy])
theorem o_ineg {x : Int32} (hd : decode M.1 pc = .ok (.ineg, 1))  : q_out rc M (pc, lo, .int x :: st, σ) = q_out rc M (pc + 1, lo, .int (-x) :: st, σ) :=
  q_out_go (by rw [q_step_of hd (Or.inl rfl)]; simp only [q_ex, q_i1, q_go])
theorem o_i2c {x : Int32} (hd : decode M.1 pc = .ok (.i2c, 1))  : q_out rc M (pc, lo, .int x :: st, σ) = q_out rc M (pc + 1, lo, .int (x.toUInt32 % 65536).toInt32 :: st, σ) :=
  q_out_go (by rw [q_step_of hd (Or.inl rfl)]; simp only [q_ex, q_i1, q_go])
theorem o_i2l {x : Int32} (hd : decode M.1 pc = .ok (.i2l, 1))  : q_out rc M (pc, lo, .int x :: st, σ) = q_out rc M (pc + 1, lo, .long x.toInt64 :: st, σ) :=
  q_out_go (by rw [q_step_of hd (Or.inl rfl)]; simp only [q_ex, q_i1, q_go])
theorem o_l2i {x : Int64} (hd : decode M.1 pc = .ok (.l2i, 1))  : q_out rc M (pc, lo, .long x :: st, σ) = q_out rc M (pc + 1, lo, .int x.toInt32 :: st, σ) :=
  q_out_go (by rw [q_step_of hd (Or.inl rfl)]; simp only [q_ex, q_l1, q_go])
theorem o_ladd {x y : Int64} (hd : decode M.1 pc = .ok (.ladd, 1))  : q_out rc M (pc, lo, .long y :: .long x :: st, σ) = q_out rc M (pc + 1, lo, .long (x + y) :: st, σ) :=
  q_out_go (by rw [q_step_of hd (Or.inl rfl)]; simp only [q_ex, q_l2, q_go])
theorem o_lsub {x y : Int64} (hd : decode M.1 pc = .ok (.lsub, 1))  : q_out rc M (pc, lo, .long y :: .long x :: st, σ) = q_out rc M (pc + 1, lo, .long (x - y) :: st, σ) :=
  q_out_go (by rw [q_step_of hd (Or.inl rfl)]; simp only [q_ex, q_l2, q_go])
theorem o_lmul {x y : Int64} (hd : decode M.1 pc = .ok (.lmul, 1))  : q_out rc M (pc, lo, .long y :: .long x :: st, σ) = q_out rc M (pc + 1, lo, .long (x * y) :: st, σ) :=
  q_out_go (by rw [q_step_of hd (Or.inl rfl)]; simp only [q_ex, q_l2, q_go])
theorem o_land {x y : Int64} (hd : decode M.1 pc = .ok (.land, 1))  : q_out rc M (pc, lo, .long y :: .long x :: st, σ) = q_out rc M (pc + 1, lo, .long (x &&& y) :: st, σ) :=
  q_out_go (by rw [q_step_of hd (Or.inl rfl)]; simp only [q_ex, q_l2, q_go])
theorem o_lor {x y : Int64} (hd : decode M.1 pc = .ok (.lor, 1))  : q_out rc M (pc, lo, .long y :: .long x :: st, σ) = q_out rc M (pc + 1, lo, .long (x ||| y) :: st, σ) :=
  q_out_go (by rw [q_step_of hd (Or.inl rfl)]; simp only [q_ex, q_l2, q_go])
theorem o_lxor {x y : Int64} (hd : decode M.1 pc = .ok (.lxor, 1))  : q_out rc M (pc, lo, .long y :: .long x :: st, σ) = q_out rc M (pc + 1, lo, .long (x ^^^ y) :: st, σ) :=
  q_out_go (by rw [q_step_of hd (Or.inl rfl)]; simp only [q_ex, q_l2, q_go])
theorem o_lcmp {x y : Int64} (hd : decode M.1 pc = .ok (.lcmp, 1))  : q_out rc M (pc, lo, .long y :: .long x :: st, σ) = q_out rc M (pc + 1, lo, .int (lg_cmp x y) :: st, σ) :=
  q_out_go (by rw [q_step_of hd (Or.inl rfl)]; simp only [q_ex, q_l2, q_go])
theorem o_lshl {x : Int64} {y : Int32} (hd : decode M.1 pc = .ok (.lshl, 1))  : q_out rc M (pc, lo, .int y :: .long x :: st, σ) = q_out rc M (pc + 1, lo, .long (x <<< (y.toInt64 &&& 63)) :: st, σ) :=
  q_out_go (by rw [q_step_of hd (Or.inl rfl)]; simp only [q_ex, q_ls, q_go])
theorem o_lshr {x : Int64} {y : Int32} (hd : decode M.1 pc = .ok (.lshr, 1))  : q_out rc M (pc, lo, .int y :: .long x :: st, σ) = q_out rc M (pc + 1, lo, .long (x >>> (y.toInt64 &&& 63)) :: st, σ) :=
  q_out_go (by rw [q_step_of hd (Or.inl rfl)]; simp only [q_ex, q_ls, q_go])
theorem o_lushr {x : Int64} {y : Int32} (hd : decode M.1 pc = .ok (.lushr, 1))  : q_out rc M (pc, lo, .int y :: .long x :: st, σ) = q_out rc M (pc + 1, lo, .long ((x.toUInt64 >>> (y.toInt64.toUInt64 &&& Int64.toUInt64 63)).toInt64) :: st, σ) :=
  q_out_go (by rw [q_step_of hd (Or.inl rfl)]; simp only [q_ex, q_ls, q_go])
theorem o_dup {a : Value} (hd : decode M.1 pc = .ok (.dup, 1)) (ha : a.category = 1) : q_out rc M (pc, lo, a :: st, σ) = q_out rc M (pc + 1, lo, a :: a :: st, σ) :=
  q_out_go (by rw [q_step_of hd (Or.inl rfl)]; simp only [q_ex, q_dup, q_go, if_pos ha])
theorem o_pop {a : Value} (hd : decode M.1 pc = .ok (.pop, 1)) (ha : a.category = 1) : q_out rc M (pc, lo, a :: st, σ) = q_out rc M (pc + 1, lo, st, σ) :=
  q_out_go (by rw [q_step_of hd (Or.inl rfl)]; simp only [q_ex, q_pop, q_go, if_pos ha])
theorem o_pop2 {a : Int64} (hd : decode M.1 pc = .ok (.pop2, 1))  : q_out rc M (pc, lo, .long a :: st, σ) = q_out rc M (pc + 1, lo, st, σ) :=
  q_out_go (by rw [q_step_of hd (Or.inl rfl)]; simp only [q_ex, q_pop2, q_go])
theorem o_dup_x1 {a b : Value} (hd : decode M.1 pc = .ok (.dup_x1, 1)) (ha : a.category = 1) (hb : b.category = 1) : q_out rc M (pc, lo, a :: b :: st, σ) = q_out rc M (pc + 1, lo, a :: b :: a :: st, σ) :=
  q_out_go (by rw [q_step_of hd (Or.inl rfl)]; simp only [q_ex, q_dupx1, q_go, if_pos (And.intro ha hb)])
theorem o_dup_x2 {a b d : Value} (hd : decode M.1 pc = .ok (.dup_x2, 1)) (ha : a.category = 1) (hb : b.category = 1) (hc : d.category = 1) : q_out rc M (pc, lo, a :: b :: d :: st, σ) = q_out rc M (pc + 1, lo, a :: b :: d :: a :: st, σ) :=
  q_out_go (by rw [q_step_of hd (Or.inl rfl)]; simp only [q_ex, q_dupx2, q_go, if_pos (And.intro ha (And.intro hb hc))])
theorem o_dup2_2 {a : Int64} (hd : decode M.1 pc = .ok (.dup2, 1))  : q_out rc M (pc, lo, .long a :: st, σ) = q_out rc M (pc + 1, lo, .long a :: .long a :: st, σ) :=
  q_out_go (by rw [q_step_of hd (Or.inl rfl)]; simp only [q_ex, q_dup2, q_go])
theorem o_dup2_11 {x : Int32} {b : Value} (hd : decode M.1 pc = .ok (.dup2, 1)) (hb : b.category = 1) : q_out rc M (pc, lo, .int x :: b :: st, σ) = q_out rc M (pc + 1, lo, .int x :: b :: .int x :: b :: st, σ) :=
  q_out_go (by rw [q_step_of hd (Or.inl rfl)]; simp only [q_ex, q_dup2, q_go, if_pos (And.intro (show (Value.int x).category = 1 from rfl) hb)])
theorem o_dup2_x1 {a : Int64} {b : Value} (hd : decode M.1 pc = .ok (.dup2_x1, 1)) (hb : b.category = 1) : q_out rc M (pc, lo, .long a :: b :: st, σ) = q_out rc M (pc + 1, lo, .long a :: b :: .long a :: st, σ) :=
  q_out_go (by rw [q_step_of hd (Or.inl rfl)]; simp only [q_ex, q_dup2x1, q_go, if_pos hb])
theorem o_if_eq_t {x : Int32} {off : Int} {t : Nat} (hd : decode M.1 pc = .ok (.ifCond .eq off, 3)) (ht : (pc : Int) + off = (t : Int)) (h : x = 0) : q_out rc M (pc, lo, .int x :: st, σ) = q_out rc M (t, lo, st, σ) :=
  q_out_go (by rw [q_step_of hd (Or.inl rfl)]; have e9 : q_tg pc off = t := (by unfold q_tg; rw [ht]; rfl); simp only [q_ex, q_if, q_br, e9, if_pos ht, if_pos h])
theorem o_if_eq_f {x : Int32} {off : Int} {t : Nat} (hd : decode M.1 pc = .ok (.ifCond .eq off, 3)) (ht : (pc : Int) + off = (t : Int)) (h : ¬ (x = 0)) : q_out rc M (pc, lo, .int x :: st, σ) = q_out rc M (pc + 3, lo, st, σ) :=
  q_out_go (by rw [q_step_of hd (Or.inl rfl)]; have e9 : q_tg pc off = t := (by unfold q_tg; rw [ht]; rfl); simp only [q_ex, q_if, q_br, e9, if_pos ht, if_neg h])
theorem o_icmp_eq_t {x y : Int32} {off : Int} {t : Nat} (hd : decode M.1 pc = .ok (.if_icmp .eq off, 3)) (ht : (pc : Int) + off = (t : Int)) (h : x = y) : q_out rc M (pc, lo, .int y :: .int x :: st, σ) = q_out rc M (t, lo, st, σ) :=
  q_out_go (by rw [q_step_of hd (Or.inl rfl)]; have e9 : q_tg pc off = t := (by unfold q_tg; rw [ht]; rfl); simp only [q_ex, q_icmp, q_br, e9, if_pos ht, if_pos h])
theorem o_icmp_eq_f {x y : Int32} {off : Int} {t : Nat} (hd : decode M.1 pc = .ok (.if_icmp .eq off, 3)) (ht : (pc : Int) + off = (t : Int)) (h : ¬ (x = y)) : q_out rc M (pc, lo, .int y :: .int x :: st, σ) = q_out rc M (pc + 3, lo, st, σ) :=
  q_out_go (by rw [q_step_of hd (Or.inl rfl)]; have e9 : q_tg pc off = t := (by unfold q_tg; rw [ht]; rfl); simp only [q_ex, q_icmp, q_br, e9, if_pos ht, if_neg h])
theorem o_if_ne_t {x : Int32} {off : Int} {t : Nat} (hd : decode M.1 pc = .ok (.ifCond .ne off, 3)) (ht : (pc : Int) + off = (t : Int)) (h : ¬ x = 0) : q_out rc M (pc, lo, .int x :: st, σ) = q_out rc M (t, lo, st, σ) :=
  q_out_go (by rw [q_step_of hd (Or.inl rfl)]; have e9 : q_tg pc off = t := (by unfold q_tg; rw [ht]; rfl); simp only [q_ex, q_if, q_br, e9, if_pos ht, if_pos h])
theorem o_if_ne_f {x : Int32} {off : Int} {t : Nat} (hd : decode M.1 pc = .ok (.ifCond .ne off, 3)) (ht : (pc : Int) + off = (t : Int)) (h : ¬ (¬ x = 0)) : q_out rc M (pc, lo, .int x :: st, σ) = q_out rc M (pc + 3, lo, st, σ) :=
  q_out_go (by rw [q_step_of hd (Or.inl rfl)]; have e9 : q_tg pc off = t := (by unfold q_tg; rw [ht]; rfl); simp only [q_ex, q_if, q_br, e9, if_pos ht, if_neg h])
theorem o_icmp_ne_t {x y : Int32} {off : Int} {t : Nat} (hd : decode M.1 pc = .ok (.if_icmp .ne off, 3)) (ht : (pc : Int) + off = (t : Int)) (h : ¬ x = y) : q_out rc M (pc, lo, .int y :: .int x :: st, σ) = q_out rc M (t, lo, st, σ) :=
  q_out_go (by rw [q_step_of hd (Or.inl rfl)]; have e9 : q_tg pc off = t := (by unfold q_tg; rw [ht]; rfl); simp only [q_ex, q_icmp, q_br, e9, if_pos ht, if_pos h])
theorem o_icmp_ne_f {x y : Int32} {off : Int} {t : Nat} (hd : decode M.1 pc = .ok (.if_icmp .ne off, 3)) (ht : (pc : Int) + off = (t : Int)) (h : ¬ (¬ x = y)) : q_out rc M (pc, lo, .int y :: .int x :: st, σ) = q_out rc M (pc + 3, lo, st, σ) :=
  q_out_go (by rw [q_step_of hd (Or.inl rfl)]; have e9 : q_tg pc off = t := (by unfold q_tg; rw [ht]; rfl); simp only [q_ex, q_icmp, q_br, e9, if_pos ht, if_neg h])
theorem o_if_lt_t {x : Int32} {off : Int} {t : Nat} (hd : decode M.1 pc = .ok (.ifCond .lt off, 3)) (ht : (pc : Int) + off = (t : Int)) (h : x < 0) : q_out rc M (pc, lo, .int x :: st, σ) = q_out rc M (t, lo, st, σ) :=
  q_out_go (by rw [q_step_of hd (Or.inl rfl)]; have e9 : q_tg pc off = t := (by unfold q_tg; rw [ht]; rfl); simp only [q_ex, q_if, q_br, e9, if_pos ht, if_pos h])
theorem o_if_lt_f {x : Int32} {off : Int} {t : Nat} (hd : decode M.1 pc = .ok (.ifCond .lt off, 3)) (ht : (pc : Int) + off = (t : Int)) (h : ¬ (x < 0)) : q_out rc M (pc, lo, .int x :: st, σ) = q_out rc M (pc + 3, lo, st, σ) :=
  q_out_go (by rw [q_step_of hd (Or.inl rfl)]; have e9 : q_tg pc off = t := (by unfold q_tg; rw [ht]; rfl); simp only [q_ex, q_if, q_br, e9, if_pos ht, if_neg h])
theorem o_icmp_lt_t {x y : Int32} {off : Int} {t : Nat} (hd : decode M.1 pc = .ok (.if_icmp .lt off, 3)) (ht : (pc : Int) + off = (t : Int)) (h : x < y) : q_out rc M (pc, lo, .int y :: .int x :: st, σ) = q_out rc M (t, lo, st, σ) :=
  q_out_go (by rw [q_step_of hd (Or.inl rfl)]; have e9 : q_tg pc off = t := (by unfold q_tg; rw [ht]; rfl); simp only [q_ex, q_icmp, q_br, e9, if_pos ht, if_pos h])
theorem o_icmp_lt_f {x y : Int32} {off : Int} {t : Nat} (hd : decode M.1 pc = .ok (.if_icmp .lt off, 3)) (ht : (pc : Int) + off = (t : Int)) (h : ¬ (x < y)) : q_out rc M (pc, lo, .int y :: .int x :: st, σ) = q_out rc M (pc + 3, lo, st, σ) :=
  q_out_go (by rw [q_step_of hd (Or.inl rfl)]; have e9 : q_tg pc off = t := (by unfold q_tg; rw [ht]; rfl); simp only [q_ex, q_icmp, q_br, e9, if_pos ht, if_neg h])
theorem o_if_ge_t {x : Int32} {off : Int} {t : Nat} (hd : decode M.1 pc = .ok (.ifCond .ge off, 3)) (ht : (pc : Int) + off = (t : Int)) (h : 0 ≤ x) : q_out rc M (pc, lo, .int x :: st, σ) = q_out rc M (t, lo, st, σ) :=
  q_out_go (by rw [q_step_of hd (Or.inl rfl)]; have e9 : q_tg pc off = t := (by unfold q_tg; rw [ht]; rfl); simp only [q_ex, q_if, q_br, e9, if_pos ht, if_pos h])
theorem o_if_ge_f {x : Int32} {off : Int} {t : Nat} (hd : decode M.1 pc = .ok (.ifCond .ge off, 3)) (ht : (pc : Int) + off = (t : Int)) (h : ¬ (0 ≤ x)) : q_out rc M (pc, lo, .int x :: st, σ) = q_out rc M (pc + 3, lo, st, σ) :=
  q_out_go (by rw [q_step_of hd (Or.inl rfl)]; have e9 : q_tg pc off = t := (by unfold q_tg; rw [ht]; rfl); simp only [q_ex, q_if, q_br, e9, if_pos ht, if_neg h])
theorem o_icmp_ge_t {x y : Int32} {off : Int} {t : Nat} (hd : decode M.1 pc = .ok (.if_icmp .ge off, 3)) (ht : (pc : Int) + off = (t : Int)) (h : y ≤ x) : q_out rc M (pc, lo, .int y :: .int x :: st, σ) = q_out rc M (t, lo, st, σ) :=
  q_out_go (by rw [q_step_of hd (Or.inl rfl)]; have e9 : q_tg pc off = t := (by unfold q_tg; rw [ht]; rfl); simp only [q_ex, q_icmp, q_br, e9, if_pos ht, if_pos h])
theorem o_icmp_ge_f {x y : Int32} {off : Int} {t : Nat} (hd : decode M.1 pc = .ok (.if_icmp .ge off, 3)) (ht : (pc : Int) + off = (t : Int)) (h : ¬ (y ≤ x)) : q_out rc M (pc, lo, .int y :: .int x :: st, σ) = q_out rc M (pc + 3, lo, st, σ) :=
  q_out_go (by rw [q_step_of hd (Or.inl rfl)]; have e9 : q_tg pc off = t := (by unfold q_tg; rw [ht]; rfl); simp only [q_ex, q_icmp, q_br, e9, if_pos ht, if_neg h])
theorem o_if_gt_t {x : Int32} {off : Int} {t : Nat} (hd : decode M.1 pc = .ok (.ifCond .gt off, 3)) (ht : (pc : Int) + off = (t : Int)) (h : 0 < x) : q_out rc M (pc, lo, .int x :: st, σ) = q_out rc M (t, lo, st, σ) :=
  q_out_go (by rw [q_step_of hd (Or.inl rfl)]; have e9 : q_tg pc off = t := (by unfold q_tg; rw [ht]; rfl); simp only [q_ex, q_if, q_br, e9, if_pos ht, if_pos h])
theorem o_if_gt_f {x : Int32} {off : Int} {t : Nat} (hd : decode M.1 pc = .ok (.ifCond .gt off, 3)) (ht : (pc : Int) + off = (t : Int)) (h : ¬ (0 < x)) : q_out rc M (pc, lo, .int x :: st, σ) = q_out rc M (pc + 3, lo, st, σ) :=
  q_out_go (by rw [q_step_of hd (Or.inl rfl)]; have e9 : q_tg pc off = t := (by unfold q_tg; rw [ht]; rfl); simp only [q_ex, q_if, q_br, e9, if_pos ht, if_neg h])
theorem o_icmp_gt_t {x y : Int32} {off : Int} {t : Nat} (hd : decode M.1 pc = .ok (.if_icmp .gt off, 3)) (ht : (pc : Int) + off = (t : Int)) (h : y < x) : q_out rc M (pc, lo, .int y :: .int x :: st, σ) = q_out rc M (t, lo, st, σ) :=
  q_out_go (by rw [q_step_of hd (Or.inl rfl)]; have e9 : q_tg pc off = t := (by unfold q_tg; rw [ht]; rfl); simp only [q_ex, q_icmp, q_br, e9, if_pos ht, if_pos h])
theorem o_icmp_gt_f {x y : Int32} {off : Int} {t : Nat} (hd : decode M.1 pc = .ok (.if_icmp .gt off, 3)) (ht : (pc : Int) + off = (t : Int)) (h : ¬ (y < x)) : q_out rc M (pc, lo, .int y :: .int x :: st, σ) = q_out rc M (pc + 3, lo, st, σ) :=
  q_out_go (by rw [q_step_of hd (Or.inl rfl)]; have e9 : q_tg pc off = t := (by unfold q_tg; rw [ht]; rfl); simp only [q_ex, q_icmp, q_br, e9, if_pos ht, if_neg h])
theorem o_if_le_t {x : Int32} {off : Int} {t : Nat} (hd : decode M.1 pc = .ok (.ifCond .le off, 3)) (ht : (pc : Int) + off = (t : Int)) (h : x ≤ 0) : q_out rc M (pc, lo, .int x :: st, σ) = q_out rc M (t, lo, st, σ) :=
  q_out_go (by rw [q_step_of hd (Or.inl rfl)]; have e9 : q_tg pc off = t := (by unfold q_tg; rw [ht]; rfl); simp only [q_ex, q_if, q_br, e9, if_pos ht, if_pos h])
theorem o_if_le_f {x : Int32} {off : Int} {t : Nat} (hd : decode M.1 pc = .ok (.ifCond .le off, 3)) (ht : (pc : Int) + off = (t : Int)) (h : ¬ (x ≤ 0)) : q_out rc M (pc, lo, .int x :: st, σ) = q_out rc M (pc + 3, lo, st, σ) :=
  q_out_go (by rw [q_step_of hd (Or.inl rfl)]; have e9 : q_tg pc off = t := (by unfold q_tg; rw [ht]; rfl); simp only [q_ex, q_if, q_br, e9, if_pos ht, if_neg h])
theorem o_icmp_le_t {x y : Int32} {off : Int} {t : Nat} (hd : decode M.1 pc = .ok (.if_icmp .le off, 3)) (ht : (pc : Int) + off = (t : Int)) (h : x ≤ y) : q_out rc M (pc, lo, .int y :: .int x :: st, σ) = q_out rc M (t, lo, st, σ) :=
  q_out_go (by rw [q_step_of hd (Or.inl rfl)]; have e9 : q_tg pc off = t := (by unfold q_tg; rw [ht]; rfl); simp only [q_ex, q_icmp, q_br, e9, if_pos ht, if_pos h])
theorem o_icmp_le_f {x y : Int32} {off : Int} {t : Nat} (hd : decode M.1 pc = .ok (.if_icmp .le off, 3)) (ht : (pc : Int) + off = (t : Int)) (h : ¬ (x ≤ y)) : q_out rc M (pc, lo, .int y :: .int x :: st, σ) = q_out rc M (pc + 3, lo, st, σ) :=
  q_out_go (by rw [q_step_of hd (Or.inl rfl)]; have e9 : q_tg pc off = t := (by unfold q_tg; rw [ht]; rfl); simp only [q_ex, q_icmp, q_br, e9, if_pos ht, if_neg h])
theorem o_goto {off : Int} {t : Nat} (hd : decode M.1 pc = .ok (.goto off, 3)) (ht : (pc : Int) + off = (t : Int)) : q_out rc M (pc, lo, st, σ) = q_out rc M (t, lo, st, σ) :=
  q_out_go (by rw [q_step_of hd (Or.inl rfl)]; have e9 : q_tg pc off = t := (by unfold q_tg; rw [ht]; rfl); simp only [q_ex, q_goto, q_go, e9, if_pos ht])
theorem o_ifnull_t {off : Int} {t : Nat} (hd : decode M.1 pc = .ok (.ifnull off, 3)) (ht : (pc : Int) + off = (t : Int)) : q_out rc M (pc, lo, .null :: st, σ) = q_out rc M (t, lo, st, σ) :=
  q_out_go (by rw [q_step_of hd (Or.inl rfl)]; have e9 : q_tg pc off = t := (by unfold q_tg; rw [ht]; rfl); simp only [q_ex, q_ifnull, q_go, e9, if_pos ht])
theorem o_ifnull_f {off : Int} {a : Nat} (hd : decode M.1 pc = .ok (.ifnull off, 3))  : q_out rc M (pc, lo, .ref a :: st, σ) = q_out rc M (pc + 3, lo, st, σ) :=
  q_out_go (by rw [q_step_of hd (Or.inl rfl)]; simp only [q_ex, q_ifnull, q_go])
theorem o_ifnonnull_t {off : Int} {t a : Nat} (hd : decode M.1 pc = .ok (.ifnonnull off, 3)) (ht : (pc : Int) + off = (t : Int)) : q_out rc M (pc, lo, .ref a :: st, σ) = q_out rc M (t, lo, st, σ) :=
  q_out_go (by rw [q_step_of hd (Or.inl rfl)]; have e9 : q_tg pc off = t := (by unfold q_tg; rw [ht]; rfl); simp only [q_ex, q_ifnonnull, q_go, e9, if_pos ht])
theorem o_ifnonnull_f {off : Int} (hd : decode M.1 pc = .ok (.ifnonnull off, 3))  : q_out rc M (pc, lo, .null :: st, σ) = q_out rc M (pc + 3, lo, st, σ) :=
  q_out_go (by rw [q_step_of hd (Or.inl rfl)]; simp only [q_ex, q_ifnonnull, q_go])
theorem o_table {d a b off : Int} {os : Array Int} {n t : Nat} {x : Int32} (hd : decode M.1 pc = .ok (.tableswitch d a b os, n)) (ho : q_toff d a b os x.toInt = some off) (ht : (pc : Int) + off = (t : Int)) : q_out rc M (pc, lo, .int x :: st, σ) = q_out rc M (t, lo, st, σ) :=
  q_out_go (by
    rw [q_step_of hd (Or.inr rfl)]
    have e9 : q_tg pc off = t := (by unfold q_tg; rw [ht]; rfl)
    simp only [q_ex, q_table, q_go, ho, e9, if_pos ht])
theorem o_lookup {d off : Int} {ps : Array (Int × Int)} {n t : Nat} {x : Int32} (hd : decode M.1 pc = .ok (.lookupswitch d ps, n)) (hs : (ps.toList.zip (ps.toList.drop 1)).all (fun (a, next) => a.1 < next.1) = true) (ho : Op.lookupswitch.offset ps.toList d x.toInt = off) (ht : (pc : Int) + off = (t : Int)) : q_out rc M (pc, lo, .int x :: st, σ) = q_out rc M (t, lo, st, σ) :=
  q_out_go (by
    rw [q_step_of hd (Or.inr rfl)]
    have e9 : q_tg pc off = t := (by unfold q_tg; rw [ht]; rfl)
    simp only [q_ex, q_lookup, q_go, ho, e9]
    exact if_pos ⟨hs, ht⟩)
theorem o_getf {ci k md idx a : Nat} {ty : FieldType} {fs : List Value} {v : Value} (hd : decode M.1 pc = .ok (.getfield idx, 3)) (hp : M.2.2.2.2.1 idx = some (ci, k, ty, md)) (ha : σ.1 a = some (.inr (ci, fs))) (hv : fs[k]? = some v) : q_out rc M (pc, lo, .ref a :: st, σ) = q_out rc M (pc + 3, lo, v :: st, σ) :=
  q_out_go (by rw [q_step_of hd (Or.inl rfl)]; simp only [q_ex, q_getf, q_go, hp, ha, hv, if_true])
theorem o_putf {ci k md idx a : Nat} {ty : FieldType} {fs : List Value} {v : Value} {h' : Nat → Option qE} (hd : decode M.1 pc = .ok (.putfield idx, 3)) (hp : M.2.2.2.2.1 idx = some (ci, k, ty, md)) (ha : σ.1 a = some (.inr (ci, fs))) (hk : k < fs.length) (hn : narrow ty v = v) (hf : fits ty v = true) (hm : md = 0 ∨ (md = 1 ∧ M.2.2.2.1 = true)) (hh : q_up σ.1 a (.inr (ci, fs.set k v)) = h') : q_out rc M (pc, lo, v :: .ref a :: st, σ) = q_out rc M (pc + 3, lo, st, (h', σ.2)) :=
  q_out_go (by rw [q_step_of hd (Or.inl rfl)]; subst hh; simp only [q_ex, q_putf, q_go, hp, ha]; exact if_pos ⟨trivial, hk, hn, hf, hm⟩)
theorem o_iaload {a n : Nat} {i : Int32} {f : Nat → Int32} (hd : decode M.1 pc = .ok (.iaload, 1)) (ha : σ.1 a = some (.inl (0, n, .inl f))) (hi : ¬ (i < 0 ∨ n ≤ i.toNatClampNeg)) : q_out rc M (pc, lo, .int i :: .ref a :: st, σ) = q_out rc M (pc + 1, lo, .int (f i.toNatClampNeg) :: st, σ) :=
  q_out_go (by rw [q_step_of hd (Or.inl rfl)]; simp only [q_ex, q_iald, q_go, ha]; exact if_pos ⟨trivial, hi⟩)
theorem o_caload {a n : Nat} {i : Int32} {f : Nat → Int32} (hd : decode M.1 pc = .ok (.caload, 1)) (ha : σ.1 a = some (.inl (1, n, .inl f))) (hi : ¬ (i < 0 ∨ n ≤ i.toNatClampNeg)) : q_out rc M (pc, lo, .int i :: .ref a :: st, σ) = q_out rc M (pc + 1, lo, .int (f i.toNatClampNeg) :: st, σ) :=
  q_out_go (by rw [q_step_of hd (Or.inl rfl)]; simp only [q_ex, q_iald, q_go, ha]; exact if_pos ⟨trivial, hi⟩)
theorem o_baload {a n : Nat} {i : Int32} {f : Nat → Int32} (hd : decode M.1 pc = .ok (.baload, 1)) (ha : σ.1 a = some (.inl (3, n, .inl f))) (hi : ¬ (i < 0 ∨ n ≤ i.toNatClampNeg)) : q_out rc M (pc, lo, .int i :: .ref a :: st, σ) = q_out rc M (pc + 1, lo, .int (f i.toNatClampNeg) :: st, σ) :=
  q_out_go (by rw [q_step_of hd (Or.inl rfl)]; simp only [q_ex, q_iald, q_go, ha]; exact if_pos ⟨trivial, hi⟩)
theorem o_laload {a n : Nat} {i : Int32} {f : Nat → Int64} (hd : decode M.1 pc = .ok (.laload, 1)) (ha : σ.1 a = some (.inl (2, n, .inr (.inl f)))) (hi : ¬ (i < 0 ∨ n ≤ i.toNatClampNeg)) : q_out rc M (pc, lo, .int i :: .ref a :: st, σ) = q_out rc M (pc + 1, lo, .long (f i.toNatClampNeg) :: st, σ) :=
  q_out_go (by rw [q_step_of hd (Or.inl rfl)]; simp only [q_ex, q_lald, q_go, ha]; exact if_pos ⟨trivial, hi⟩)
theorem o_iastore {a n : Nat} {i x : Int32} {f : Nat → Int32} {h' : Nat → Option qE} (hd : decode M.1 pc = .ok (.iastore, 1)) (ha : σ.1 a = some (.inl (0, n, .inl f))) (hi : ¬ (i < 0 ∨ n ≤ i.toNatClampNeg)) (hh : q_up σ.1 a (.inl (0, n, .inl (upd f i.toNatClampNeg (x)))) = h') : q_out rc M (pc, lo, .int x :: .int i :: .ref a :: st, σ) = q_out rc M (pc + 1, lo, st, (h', σ.2)) :=
  q_out_go (by rw [q_step_of hd (Or.inl rfl)]; subst hh; simp only [q_ex, q_iast, q_go, ha]; exact if_pos ⟨trivial, hi⟩)
theorem o_castore {a n : Nat} {i x : Int32} {f : Nat → Int32} {h' : Nat → Option qE} (hd : decode M.1 pc = .ok (.castore, 1)) (ha : σ.1 a = some (.inl (1, n, .inl f))) (hi : ¬ (i < 0 ∨ n ≤ i.toNatClampNeg)) (hh : q_up σ.1 a (.inl (1, n, .inl (upd f i.toNatClampNeg (vp_nar .char x)))) = h') : q_out rc M (pc, lo, .int x :: .int i :: .ref a :: st, σ) = q_out rc M (pc + 1, lo, st, (h', σ.2)) :=
  q_out_go (by rw [q_step_of hd (Or.inl rfl)]; subst hh; simp only [q_ex, q_iast, q_go, ha]; exact if_pos ⟨trivial, hi⟩)
theorem o_bastore {a n : Nat} {i x : Int32} {f : Nat → Int32} {h' : Nat → Option qE} (hd : decode M.1 pc = .ok (.bastore, 1)) (ha : σ.1 a = some (.inl (3, n, .inl f))) (hi : ¬ (i < 0 ∨ n ≤ i.toNatClampNeg)) (hh : q_up σ.1 a (.inl (3, n, .inl (upd f i.toNatClampNeg (vp_nar .boolean x)))) = h') : q_out rc M (pc, lo, .int x :: .int i :: .ref a :: st, σ) = q_out rc M (pc + 1, lo, st, (h', σ.2)) :=
  q_out_go (by rw [q_step_of hd (Or.inl rfl)]; subst hh; simp only [q_ex, q_iast, q_go, ha]; exact if_pos ⟨trivial, hi⟩)
theorem o_lastore {a n : Nat} {i : Int32} {x : Int64} {f : Nat → Int64} {h' : Nat → Option qE} (hd : decode M.1 pc = .ok (.lastore, 1)) (ha : σ.1 a = some (.inl (2, n, .inr (.inl f)))) (hi : ¬ (i < 0 ∨ n ≤ i.toNatClampNeg)) (hh : q_up σ.1 a (.inl (2, n, .inr (.inl (vp_updL f i.toNatClampNeg x)))) = h') : q_out rc M (pc, lo, .long x :: .int i :: .ref a :: st, σ) = q_out rc M (pc + 1, lo, st, (h', σ.2)) :=
  q_out_go (by rw [q_step_of hd (Or.inl rfl)]; subst hh; simp only [q_ex, q_last, q_go, ha]; exact if_pos ⟨trivial, hi⟩)
theorem o_alen {a k n : Nat} {z : (Nat → Int32) ⊕ (Nat → Int64) ⊕ (Nat → UInt32) ⊕ (Nat → UInt64) ⊕ (Nat → Option Nat)} {v : Int32} (hd : decode M.1 pc = .ok (.arraylength, 1)) (ha : σ.1 a = some (.inl (k, n, z))) (hk : k < 4) (hv : Int32.ofNat n = v) : q_out rc M (pc, lo, .ref a :: st, σ) = q_out rc M (pc + 1, lo, .int v :: st, σ) :=
  q_out_go (by rw [q_step_of hd (Or.inl rfl)]; subst hv; simp only [q_ex, q_alen, q_go, ha, if_pos hk])
theorem o_ldc2 {idx : Nat} {v : Int64} (hd : decode M.1 pc = .ok (.ldc2_w idx, 3)) (hp : M.2.2.2.2.2.2.2.2 idx = some v) : q_out rc M (pc, lo, st, σ) = q_out rc M (pc + 3, lo, .long v :: st, σ) :=
  q_out_go (by rw [q_step_of hd (Or.inl rfl)]; simp only [q_ex, q_push, q_go, hp])
theorem o_newI {n : Int32} (hd : decode M.1 pc = .ok (.newarray .int, 2)) (hn : ¬ (n < 0 ∨ 536870912 < n.toNatClampNeg * 4)) : q_out rc M (pc, lo, .int n :: st, σ) = q_out rc M (pc + 2, lo, .ref σ.2.1 :: st, (q_up σ.1 σ.2.1 (.inl (0, n.toNatClampNeg, .inl fun _ => 0)), σ.2.1 + 1, σ.2.2.1 + 1, σ.2.2.2 + n.toNatClampNeg)) :=
  q_out_go (by rw [q_step_of hd (Or.inl rfl)]; simp only [q_ex, q_newA, q_new, q_go, if_neg hn])
theorem o_newC {n : Int32} (hd : decode M.1 pc = .ok (.newarray .char, 2)) (hn : ¬ (n < 0 ∨ 536870912 < n.toNatClampNeg * 2)) : q_out rc M (pc, lo, .int n :: st, σ) = q_out rc M (pc + 2, lo, .ref σ.2.1 :: st, (q_up σ.1 σ.2.1 (.inl (1, n.toNatClampNeg, .inl fun _ => 0)), σ.2.1 + 1, σ.2.2.1 + 1, σ.2.2.2 + n.toNatClampNeg)) :=
  q_out_go (by rw [q_step_of hd (Or.inl rfl)]; simp only [q_ex, q_newA, q_new, q_go, if_neg hn])
theorem o_newJ {n : Int32} (hd : decode M.1 pc = .ok (.newarray .long, 2)) (hn : ¬ (n < 0 ∨ 536870912 < n.toNatClampNeg * 8)) : q_out rc M (pc, lo, .int n :: st, σ) = q_out rc M (pc + 2, lo, .ref σ.2.1 :: st, (q_up σ.1 σ.2.1 (.inl (2, n.toNatClampNeg, .inr (.inl fun _ => 0))), σ.2.1 + 1, σ.2.2.1 + 1, σ.2.2.2 + n.toNatClampNeg)) :=
  q_out_go (by rw [q_step_of hd (Or.inl rfl)]; simp only [q_ex, q_newA, q_new, q_go, if_neg hn])
theorem o_newZ {n : Int32} (hd : decode M.1 pc = .ok (.newarray .boolean, 2)) (hn : ¬ (n < 0 ∨ 536870912 < n.toNatClampNeg * 1)) : q_out rc M (pc, lo, .int n :: st, σ) = q_out rc M (pc + 2, lo, .ref σ.2.1 :: st, (q_up σ.1 σ.2.1 (.inl (3, n.toNatClampNeg, .inl fun _ => 0)), σ.2.1 + 1, σ.2.2.1 + 1, σ.2.2.2 + n.toNatClampNeg)) :=
  q_out_go (by rw [q_step_of hd (Or.inl rfl)]; simp only [q_ex, q_newA, q_new, q_go, if_neg hn])
theorem o_new {idx ci : Nat} {fs : List Value} (hd : decode M.1 pc = .ok (.new idx, 3)) (hp : M.2.2.2.2.2.1 idx = some (.inl (ci, fs))) : q_out rc M (pc, lo, st, σ) = q_out rc M (pc + 3, lo, .ref σ.2.1 :: st, (q_up σ.1 σ.2.1 (.inr (ci, fs)), σ.2.1 + 1, σ.2.2.1 + 1, σ.2.2.2 + fs.length)) :=
  q_out_go (by rw [q_step_of hd (Or.inl rfl)]; simp only [q_ex, q_newC, q_go, hp])
theorem o_objInit {idx a : Nat} {z : Nat × Nat × Nat} (hd : decode M.1 pc = .ok (.invokespecial idx, 3)) (hp : M.2.2.2.2.2.2.1 idx = some (0, z)) (hs : q_sum st ≤ 8) : q_out rc M (pc, lo, .ref a :: st, σ) = q_out rc M (pc + 3, lo, st, σ) :=
  q_out_go (by rw [q_step_of hd (Or.inl rfl)]; simp only [q_ex, hp, q_call, q_go, if_pos hs])
theorem o_max {idx : Nat} {x y : Int32} {z : Nat × Nat × Nat} (hd : decode M.1 pc = .ok (.invokestatic idx, 3)) (hp : M.2.2.2.2.2.2.1 idx = some (4, z)) (hs : q_sum st ≤ 8) : q_out rc M (pc, lo, .int y :: .int x :: st, σ) = q_out rc M (pc + 3, lo, .int (if x < y then y else x) :: st, σ) :=
  q_out_go (by rw [q_step_of hd (Or.inl rfl)]; simp only [q_ex, hp, q_call, q_go, if_pos hs])
theorem o_min {idx : Nat} {x y : Int32} {z : Nat × Nat × Nat} (hd : decode M.1 pc = .ok (.invokestatic idx, 3)) (hp : M.2.2.2.2.2.2.1 idx = some (5, z)) (hs : q_sum st ≤ 8) : q_out rc M (pc, lo, .int y :: .int x :: st, σ) = q_out rc M (pc + 3, lo, .int (if y < x then y else x) :: st, σ) :=
  q_out_go (by rw [q_step_of hd (Or.inl rfl)]; simp only [q_ex, hp, q_call, q_go, if_pos hs])
theorem o_callV0 {idx z ci b : Nat} {fs : List Value} {v : Option Value} {σ' : qH} (hd : decode M.1 pc = .ok (.invokevirtual idx, 3)) (hp : M.2.2.2.2.2.2.1 idx = some (1, z, 0, ci)) (hs : q_sum st ≤ 8) (hb : σ.1 b = some (.inr (ci, fs))) (hc : rc z [.ref b] σ = some (.inl v, σ')) : q_out rc M (pc, lo, .ref b :: st, σ) = q_out rc M (pc + 3, lo, v.toList ++ st, σ') :=
  q_out_go (by rw [q_step_of hd (Or.inl rfl)]; simp only [q_ex, hp, q_call, List.drop, hb]; rw [if_pos ⟨trivial, hs⟩]; exact congrArg (q_back pc lo st) hc)
theorem o_callI0 {idx z ci b : Nat} {v : Option Value} {σ' : qH} (hd : decode M.1 pc = .ok (.invokespecial idx, 3)) (hp : M.2.2.2.2.2.2.1 idx = some (3, z, 0, ci)) (hs : q_sum st ≤ 8) (hc : rc z [.ref b] σ = some (.inl v, σ')) : q_out rc M (pc, lo, .ref b :: st, σ) = q_out rc M (pc + 3, lo, v.toList ++ st, σ') :=
  q_out_go (by rw [q_step_of hd (Or.inl rfl)]; simp only [q_ex, hp, q_call, List.drop]; rw [if_pos hs]; exact congrArg (q_back pc lo st) hc)
theorem o_callS0 {idx z ci : Nat} {v : Option Value} {σ' : qH} (hd : decode M.1 pc = .ok (.invokestatic idx, 3)) (hp : M.2.2.2.2.2.2.1 idx = some (2, z, 0, ci)) (hs : q_sum st ≤ 8) (hc : rc z [] σ = some (.inl v, σ')) : q_out rc M (pc, lo, st, σ) = q_out rc M (pc + 3, lo, v.toList ++ st, σ') :=
  q_out_go (by rw [q_step_of hd (Or.inl rfl)]; simp only [q_ex, hp, q_call]; rw [if_pos ⟨by (try simp only [List.length_cons]); omega, hs⟩]; exact congrArg (q_back pc lo st) hc)
theorem o_callV1 {idx z ci b : Nat} {a1 : Value} {fs : List Value} {v : Option Value} {σ' : qH} (hd : decode M.1 pc = .ok (.invokevirtual idx, 3)) (hp : M.2.2.2.2.2.2.1 idx = some (1, z, 1, ci)) (hs : q_sum st ≤ 8) (hb : σ.1 b = some (.inr (ci, fs))) (hc : rc z [.ref b, a1] σ = some (.inl v, σ')) : q_out rc M (pc, lo, a1 :: .ref b :: st, σ) = q_out rc M (pc + 3, lo, v.toList ++ st, σ') :=
  q_out_go (by rw [q_step_of hd (Or.inl rfl)]; simp only [q_ex, hp, q_call, List.drop, hb]; rw [if_pos ⟨trivial, hs⟩]; exact congrArg (q_back pc lo st) hc)
theorem o_callI1 {idx z ci b : Nat} {a1 : Value} {v : Option Value} {σ' : qH} (hd : decode M.1 pc = .ok (.invokespecial idx, 3)) (hp : M.2.2.2.2.2.2.1 idx = some (3, z, 1, ci)) (hs : q_sum st ≤ 8) (hc : rc z [.ref b, a1] σ = some (.inl v, σ')) : q_out rc M (pc, lo, a1 :: .ref b :: st, σ) = q_out rc M (pc + 3, lo, v.toList ++ st, σ') :=
  q_out_go (by rw [q_step_of hd (Or.inl rfl)]; simp only [q_ex, hp, q_call, List.drop]; rw [if_pos hs]; exact congrArg (q_back pc lo st) hc)
theorem o_callS1 {idx z ci : Nat} {a1 : Value} {v : Option Value} {σ' : qH} (hd : decode M.1 pc = .ok (.invokestatic idx, 3)) (hp : M.2.2.2.2.2.2.1 idx = some (2, z, 1, ci)) (hs : q_sum st ≤ 8) (hc : rc z [a1] σ = some (.inl v, σ')) : q_out rc M (pc, lo, a1 :: st, σ) = q_out rc M (pc + 3, lo, v.toList ++ st, σ') :=
  q_out_go (by rw [q_step_of hd (Or.inl rfl)]; simp only [q_ex, hp, q_call]; rw [if_pos ⟨by (try simp only [List.length_cons]); omega, hs⟩]; exact congrArg (q_back pc lo st) hc)
theorem o_callV2 {idx z ci b : Nat} {a1 a2 : Value} {fs : List Value} {v : Option Value} {σ' : qH} (hd : decode M.1 pc = .ok (.invokevirtual idx, 3)) (hp : M.2.2.2.2.2.2.1 idx = some (1, z, 2, ci)) (hs : q_sum st ≤ 8) (hb : σ.1 b = some (.inr (ci, fs))) (hc : rc z [.ref b, a1, a2] σ = some (.inl v, σ')) : q_out rc M (pc, lo, a2 :: a1 :: .ref b :: st, σ) = q_out rc M (pc + 3, lo, v.toList ++ st, σ') :=
  q_out_go (by rw [q_step_of hd (Or.inl rfl)]; simp only [q_ex, hp, q_call, List.drop, hb]; rw [if_pos ⟨trivial, hs⟩]; exact congrArg (q_back pc lo st) hc)
theorem o_callI2 {idx z ci b : Nat} {a1 a2 : Value} {v : Option Value} {σ' : qH} (hd : decode M.1 pc = .ok (.invokespecial idx, 3)) (hp : M.2.2.2.2.2.2.1 idx = some (3, z, 2, ci)) (hs : q_sum st ≤ 8) (hc : rc z [.ref b, a1, a2] σ = some (.inl v, σ')) : q_out rc M (pc, lo, a2 :: a1 :: .ref b :: st, σ) = q_out rc M (pc + 3, lo, v.toList ++ st, σ') :=
  q_out_go (by rw [q_step_of hd (Or.inl rfl)]; simp only [q_ex, hp, q_call, List.drop]; rw [if_pos hs]; exact congrArg (q_back pc lo st) hc)
theorem o_callS2 {idx z ci : Nat} {a1 a2 : Value} {v : Option Value} {σ' : qH} (hd : decode M.1 pc = .ok (.invokestatic idx, 3)) (hp : M.2.2.2.2.2.2.1 idx = some (2, z, 2, ci)) (hs : q_sum st ≤ 8) (hc : rc z [a1, a2] σ = some (.inl v, σ')) : q_out rc M (pc, lo, a2 :: a1 :: st, σ) = q_out rc M (pc + 3, lo, v.toList ++ st, σ') :=
  q_out_go (by rw [q_step_of hd (Or.inl rfl)]; simp only [q_ex, hp, q_call]; rw [if_pos ⟨by (try simp only [List.length_cons]); omega, hs⟩]; exact congrArg (q_back pc lo st) hc)
theorem o_callV3 {idx z ci b : Nat} {a1 a2 a3 : Value} {fs : List Value} {v : Option Value} {σ' : qH} (hd : decode M.1 pc = .ok (.invokevirtual idx, 3)) (hp : M.2.2.2.2.2.2.1 idx = some (1, z, 3, ci)) (hs : q_sum st ≤ 8) (hb : σ.1 b = some (.inr (ci, fs))) (hc : rc z [.ref b, a1, a2, a3] σ = some (.inl v, σ')) : q_out rc M (pc, lo, a3 :: a2 :: a1 :: .ref b :: st, σ) = q_out rc M (pc + 3, lo, v.toList ++ st, σ') :=
  q_out_go (by rw [q_step_of hd (Or.inl rfl)]; simp only [q_ex, hp, q_call, List.drop, hb]; rw [if_pos ⟨trivial, hs⟩]; exact congrArg (q_back pc lo st) hc)
theorem o_callI3 {idx z ci b : Nat} {a1 a2 a3 : Value} {v : Option Value} {σ' : qH} (hd : decode M.1 pc = .ok (.invokespecial idx, 3)) (hp : M.2.2.2.2.2.2.1 idx = some (3, z, 3, ci)) (hs : q_sum st ≤ 8) (hc : rc z [.ref b, a1, a2, a3] σ = some (.inl v, σ')) : q_out rc M (pc, lo, a3 :: a2 :: a1 :: .ref b :: st, σ) = q_out rc M (pc + 3, lo, v.toList ++ st, σ') :=
  q_out_go (by rw [q_step_of hd (Or.inl rfl)]; simp only [q_ex, hp, q_call, List.drop]; rw [if_pos hs]; exact congrArg (q_back pc lo st) hc)
theorem o_callS3 {idx z ci : Nat} {a1 a2 a3 : Value} {v : Option Value} {σ' : qH} (hd : decode M.1 pc = .ok (.invokestatic idx, 3)) (hp : M.2.2.2.2.2.2.1 idx = some (2, z, 3, ci)) (hs : q_sum st ≤ 8) (hc : rc z [a1, a2, a3] σ = some (.inl v, σ')) : q_out rc M (pc, lo, a3 :: a2 :: a1 :: st, σ) = q_out rc M (pc + 3, lo, v.toList ++ st, σ') :=
  q_out_go (by rw [q_step_of hd (Or.inl rfl)]; simp only [q_ex, hp, q_call]; rw [if_pos ⟨by (try simp only [List.length_cons]); omega, hs⟩]; exact congrArg (q_back pc lo st) hc)
theorem o_callV4 {idx z ci b : Nat} {a1 a2 a3 a4 : Value} {fs : List Value} {v : Option Value} {σ' : qH} (hd : decode M.1 pc = .ok (.invokevirtual idx, 3)) (hp : M.2.2.2.2.2.2.1 idx = some (1, z, 4, ci)) (hs : q_sum st ≤ 8) (hb : σ.1 b = some (.inr (ci, fs))) (hc : rc z [.ref b, a1, a2, a3, a4] σ = some (.inl v, σ')) : q_out rc M (pc, lo, a4 :: a3 :: a2 :: a1 :: .ref b :: st, σ) = q_out rc M (pc + 3, lo, v.toList ++ st, σ') :=
  q_out_go (by rw [q_step_of hd (Or.inl rfl)]; simp only [q_ex, hp, q_call, List.drop, hb]; rw [if_pos ⟨trivial, hs⟩]; exact congrArg (q_back pc lo st) hc)
theorem o_callI4 {idx z ci b : Nat} {a1 a2 a3 a4 : Value} {v : Option Value} {σ' : qH} (hd : decode M.1 pc = .ok (.invokespecial idx, 3)) (hp : M.2.2.2.2.2.2.1 idx = some (3, z, 4, ci)) (hs : q_sum st ≤ 8) (hc : rc z [.ref b, a1, a2, a3, a4] σ = some (.inl v, σ')) : q_out rc M (pc, lo, a4 :: a3 :: a2 :: a1 :: .ref b :: st, σ) = q_out rc M (pc + 3, lo, v.toList ++ st, σ') :=
  q_out_go (by rw [q_step_of hd (Or.inl rfl)]; simp only [q_ex, hp, q_call, List.drop]; rw [if_pos hs]; exact congrArg (q_back pc lo st) hc)
theorem o_callS4 {idx z ci : Nat} {a1 a2 a3 a4 : Value} {v : Option Value} {σ' : qH} (hd : decode M.1 pc = .ok (.invokestatic idx, 3)) (hp : M.2.2.2.2.2.2.1 idx = some (2, z, 4, ci)) (hs : q_sum st ≤ 8) (hc : rc z [a1, a2, a3, a4] σ = some (.inl v, σ')) : q_out rc M (pc, lo, a4 :: a3 :: a2 :: a1 :: st, σ) = q_out rc M (pc + 3, lo, v.toList ++ st, σ') :=
  q_out_go (by rw [q_step_of hd (Or.inl rfl)]; simp only [q_ex, hp, q_call]; rw [if_pos ⟨by (try simp only [List.length_cons]); omega, hs⟩]; exact congrArg (q_back pc lo st) hc)
theorem o_callV5 {idx z ci b : Nat} {a1 a2 a3 a4 a5 : Value} {fs : List Value} {v : Option Value} {σ' : qH} (hd : decode M.1 pc = .ok (.invokevirtual idx, 3)) (hp : M.2.2.2.2.2.2.1 idx = some (1, z, 5, ci)) (hs : q_sum st ≤ 8) (hb : σ.1 b = some (.inr (ci, fs))) (hc : rc z [.ref b, a1, a2, a3, a4, a5] σ = some (.inl v, σ')) : q_out rc M (pc, lo, a5 :: a4 :: a3 :: a2 :: a1 :: .ref b :: st, σ) = q_out rc M (pc + 3, lo, v.toList ++ st, σ') :=
  q_out_go (by rw [q_step_of hd (Or.inl rfl)]; simp only [q_ex, hp, q_call, List.drop, hb]; rw [if_pos ⟨trivial, hs⟩]; exact congrArg (q_back pc lo st) hc)
theorem o_callI5 {idx z ci b : Nat} {a1 a2 a3 a4 a5 : Value} {v : Option Value} {σ' : qH} (hd : decode M.1 pc = .ok (.invokespecial idx, 3)) (hp : M.2.2.2.2.2.2.1 idx = some (3, z, 5, ci)) (hs : q_sum st ≤ 8) (hc : rc z [.ref b, a1, a2, a3, a4, a5] σ = some (.inl v, σ')) : q_out rc M (pc, lo, a5 :: a4 :: a3 :: a2 :: a1 :: .ref b :: st, σ) = q_out rc M (pc + 3, lo, v.toList ++ st, σ') :=
  q_out_go (by rw [q_step_of hd (Or.inl rfl)]; simp only [q_ex, hp, q_call, List.drop]; rw [if_pos hs]; exact congrArg (q_back pc lo st) hc)
theorem o_callS5 {idx z ci : Nat} {a1 a2 a3 a4 a5 : Value} {v : Option Value} {σ' : qH} (hd : decode M.1 pc = .ok (.invokestatic idx, 3)) (hp : M.2.2.2.2.2.2.1 idx = some (2, z, 5, ci)) (hs : q_sum st ≤ 8) (hc : rc z [a1, a2, a3, a4, a5] σ = some (.inl v, σ')) : q_out rc M (pc, lo, a5 :: a4 :: a3 :: a2 :: a1 :: st, σ) = q_out rc M (pc + 3, lo, v.toList ++ st, σ') :=
  q_out_go (by rw [q_step_of hd (Or.inl rfl)]; simp only [q_ex, hp, q_call]; rw [if_pos ⟨by (try simp only [List.length_cons]); omega, hs⟩]; exact congrArg (q_back pc lo st) hc)
theorem o_callV6 {idx z ci b : Nat} {a1 a2 a3 a4 a5 a6 : Value} {fs : List Value} {v : Option Value} {σ' : qH} (hd : decode M.1 pc = .ok (.invokevirtual idx, 3)) (hp : M.2.2.2.2.2.2.1 idx = some (1, z, 6, ci)) (hs : q_sum st ≤ 8) (hb : σ.1 b = some (.inr (ci, fs))) (hc : rc z [.ref b, a1, a2, a3, a4, a5, a6] σ = some (.inl v, σ')) : q_out rc M (pc, lo, a6 :: a5 :: a4 :: a3 :: a2 :: a1 :: .ref b :: st, σ) = q_out rc M (pc + 3, lo, v.toList ++ st, σ') :=
  q_out_go (by rw [q_step_of hd (Or.inl rfl)]; simp only [q_ex, hp, q_call, List.drop, hb]; rw [if_pos ⟨trivial, hs⟩]; exact congrArg (q_back pc lo st) hc)
theorem o_callI6 {idx z ci b : Nat} {a1 a2 a3 a4 a5 a6 : Value} {v : Option Value} {σ' : qH} (hd : decode M.1 pc = .ok (.invokespecial idx, 3)) (hp : M.2.2.2.2.2.2.1 idx = some (3, z, 6, ci)) (hs : q_sum st ≤ 8) (hc : rc z [.ref b, a1, a2, a3, a4, a5, a6] σ = some (.inl v, σ')) : q_out rc M (pc, lo, a6 :: a5 :: a4 :: a3 :: a2 :: a1 :: .ref b :: st, σ) = q_out rc M (pc + 3, lo, v.toList ++ st, σ') :=
  q_out_go (by rw [q_step_of hd (Or.inl rfl)]; simp only [q_ex, hp, q_call, List.drop]; rw [if_pos hs]; exact congrArg (q_back pc lo st) hc)
theorem o_callS6 {idx z ci : Nat} {a1 a2 a3 a4 a5 a6 : Value} {v : Option Value} {σ' : qH} (hd : decode M.1 pc = .ok (.invokestatic idx, 3)) (hp : M.2.2.2.2.2.2.1 idx = some (2, z, 6, ci)) (hs : q_sum st ≤ 8) (hc : rc z [a1, a2, a3, a4, a5, a6] σ = some (.inl v, σ')) : q_out rc M (pc, lo, a6 :: a5 :: a4 :: a3 :: a2 :: a1 :: st, σ) = q_out rc M (pc + 3, lo, v.toList ++ st, σ') :=
  q_out_go (by rw [q_step_of hd (Or.inl rfl)]; simp only [q_ex, hp, q_call]; rw [if_pos ⟨by (try simp only [List.length_cons]); omega, hs⟩]; exact congrArg (q_back pc lo st) hc)
theorem o_callS7 {idx z ci : Nat} {a1 a2 a3 a4 a5 a6 a7 : Value} {v : Option Value} {σ' : qH} (hd : decode M.1 pc = .ok (.invokestatic idx, 3)) (hp : M.2.2.2.2.2.2.1 idx = some (2, z, 7, ci)) (hs : q_sum st ≤ 8) (hc : rc z [a1, a2, a3, a4, a5, a6, a7] σ = some (.inl v, σ')) : q_out rc M (pc, lo, a7 :: a6 :: a5 :: a4 :: a3 :: a2 :: a1 :: st, σ) = q_out rc M (pc + 3, lo, v.toList ++ st, σ') :=
  q_out_go (by rw [q_step_of hd (Or.inl rfl)]; simp only [q_ex, hp, q_call]; rw [if_pos ⟨by (try simp only [List.length_cons]); omega, hs⟩]; exact congrArg (q_back pc lo st) hc)
theorem o_ireturn {x : Int32} {t : FieldType} (hd : decode M.1 pc = .ok (.ireturn, 1)) (hr : M.2.2.1 = some t) (hn : narrow t (.int x) = .int x) : q_out rc M (pc, lo, [.int x], σ) = some (.inl (some (.int x)), σ) :=
  q_out_end (by rw [q_step_of hd (Or.inl rfl)]; simp only [q_ex, hr, q_ireturn, if_pos hn])
theorem o_lreturn {x : Int64} (hd : decode M.1 pc = .ok (.lreturn, 1)) (hr : M.2.2.1 = some .long) : q_out rc M (pc, lo, [.long x], σ) = some (.inl (some (.long x)), σ) :=
  q_out_end (by rw [q_step_of hd (Or.inl rfl)]; simp only [q_ex, hr, q_lreturn])
theorem o_areturn {a : Nat} (hd : decode M.1 pc = .ok (.areturn, 1)) (hr : q_isRefT M.2.2.1 = true) : q_out rc M (pc, lo, [.ref a], σ) = some (.inl (some (.ref a)), σ) :=
  q_out_end (by rw [q_step_of hd (Or.inl rfl)]; simp only [q_ex, q_areturn, if_pos hr])
theorem o_areturnN (hd : decode M.1 pc = .ok (.areturn, 1)) (hr : q_isRefT M.2.2.1 = true) : q_out rc M (pc, lo, [.null], σ) = some (.inl (some .null), σ) :=
  q_out_end (by rw [q_step_of hd (Or.inl rfl)]; simp only [q_ex, q_areturn, if_pos hr])
theorem o_return (hd : decode M.1 pc = .ok (.return_, 1)) (hr : M.2.2.1 = none) : q_out rc M (pc, lo, [], σ) = some (.inl none, σ) :=
  q_out_end (by rw [q_step_of hd (Or.inl rfl)]; simp only [q_ex, hr, q_vreturn])
theorem o_throw {idx x : Nat} (hd : decode M.1 pc = .ok (.new idx, 3)) (hp : M.2.2.2.2.2.1 idx = some (.inr x)) : q_out rc M (pc, lo, st, σ) = some (.inr x, (σ.1, σ.2.1 + 1, σ.2.2.1 + 1, σ.2.2.2 + 6)) :=
  q_out_end (by rw [q_step_of hd (Or.inl rfl)]; simp only [q_ex, q_newC, hp])
end QO
/-- a call is its body's run -/
theorem o_ev {Mt : Nat → Option qM} {d z : Nat} {as : List Value} {σ : qH} {M : qM} {lo : qL} (hM : Mt z = some M) (hl : (q_args as).length ≤ M.2.1) (he : q_entry M.2.1 as = lo) : q_ev Mt (d + 1) z as σ = q_out (q_ev Mt d) M (0, lo, [], σ) := by
  subst he
  simp only [q_ev, hM, if_pos hl]
