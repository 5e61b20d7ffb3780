/-! single steps of the small machine -/
section QO
variable {rc : qC} {M : qM} {pc : Nat} {lo : qL} {st : List Value} {σ : qH}
theorem tt_null  (hd : decode M.1 pc = .ok (.aconst_null, 1))  : q_step rc M (pc, lo, st, σ) = some (.inl (pc + 1, lo, .null :: st, σ)) := by
  rw [q_step_of hd (Or.inl rfl)]; simp only [q_ex, q_push, q_go]
theorem tt_iconst {n : Int} {v : Int32} (hd : decode M.1 pc = .ok (.iconst n, 1)) (hv : Int32.ofInt n = v) : q_step rc M (pc, lo, st, σ) = some (.inl (pc + 1, lo, .int v :: st, σ)) := by
  rw [q_step_of hd (Or.inl rfl)]; subst hv; simp only [q_ex, q_push, q_go]
theorem tt_bipush {n : Int} {v : Int32} (hd : decode M.1 pc = .ok (.bipush n, 2)) (hv : (Int8.ofInt n).toInt32 = v) : q_step rc M (pc, lo, st, σ) = some (.inl (pc + 2, lo, .int v :: st, σ)) := by
  rw [q_step_of hd (Or.inl rfl)]; subst hv; simp only [q_ex, q_push, q_go]
theorem tt_sipush {n : Int} {v : Int32} (hd : decode M.1 pc = .ok (.sipush n, 3)) (hv : (Int16.ofInt n).toInt32 = v) : q_step rc M (pc, lo, st, σ) = some (.inl (pc + 3, lo, .int v :: st, σ)) := by
  rw [q_step_of hd (Or.inl rfl)]; subst hv; simp only [q_ex, q_push, q_go]
theorem tt_lconst {n : Fin 2} {v : Int64} (hd : decode M.1 pc = .ok (.lconst n, 1)) (hv : Int64.ofNat (n : Nat) = v) : q_step rc M (pc, lo, st, σ) = some (.inl (pc + 1, lo, .long v :: st, σ)) := by
  rw [q_step_of hd (Or.inl rfl)]; subst hv; simp only [q_ex, q_push, q_go]
theorem tt_iload_n {k : Fin 4} {x : Int32} (hd : decode M.1 pc = .ok (.iload_n k, 1)) (hl : lo.getD k.val none = some (.int x)) : q_step rc M (pc, lo, st, σ) = some (.inl (pc + 1, lo, .int x :: st, σ)) := by
  rw [q_step_of hd (Or.inl rfl)]; simp only [q_ex, q_iload, q_go, hl]
theorem tt_iload {k : Nat} {x : Int32} (hd : decode M.1 pc = .ok (.iload k, 2)) (hl : lo.getD k none = some (.int x)) : q_step rc M (pc, lo, st, σ) = some (.inl (pc + 2, lo, .int x :: st, σ)) := by
  rw [q_step_of hd (Or.inl rfl)]; simp only [q_ex, q_iload, q_go, hl]
theorem tt_lload_n {k : Fin 4} {x : Int64} (hd : decode M.1 pc = .ok (.lload_n k, 1)) (hl : lo.getD k.val none = some (.long x)) : q_step rc M (pc, lo, st, σ) = some (.inl (pc + 1, lo, .long x :: st, σ)) := by
  rw [q_step_of hd (Or.inl rfl)]; simp only [q_ex, q_lload, q_go, hl]
theorem tt_lload {k : Nat} {x : Int64} (hd : decode M.1 pc = .ok (.lload k, 2)) (hl : lo.getD k none = some (.long x)) : q_step rc M (pc, lo, st, σ) = some (.inl (pc + 2, lo, .long x :: st, σ)) := by
  rw [q_step_of hd (Or.inl rfl)]; simp only [q_ex, q_lload, q_go, hl]
theorem tt_aload_n {k : Fin 4} {x : Nat} (hd : decode M.1 pc = .ok (.aload_n k, 1)) (hl : lo.getD k.val none = some (.ref x)) : q_step rc M (pc, lo, st, σ) = some (.inl (pc + 1, lo, .ref x :: st, σ)) := by
  rw [q_step_of hd (Or.inl rfl)]; simp only [q_ex, q_aload, q_go, hl]
theorem tt_aload {k : Nat} {x : Nat} (hd : decode M.1 pc = .ok (.aload k, 2)) (hl : lo.getD k none = some (.ref x)) : q_step rc M (pc, lo, st, σ) = some (.inl (pc + 2, lo, .ref x :: st, σ)) := by
  rw [q_step_of hd (Or.inl rfl)]; simp only [q_ex, q_aload, q_go, hl]
theorem tt_aload_nN {k : Fin 4} (hd : decode M.1 pc = .ok (.aload_n k, 1)) (hl : lo.getD k.val none = some .null) : q_step rc M (pc, lo, st, σ) = some (.inl (pc + 1, lo, .null :: st, σ)) := by
  rw [q_step_of hd (Or.inl rfl)]; simp only [q_ex, q_aload, q_go, hl]
theorem tt_aloadN {k : Nat} (hd : decode M.1 pc = .ok (.aload k, 2)) (hl : lo.getD k none = some .null) : q_step rc M (pc, lo, st, σ) = some (.inl (pc + 2, lo, .null :: st, σ)) := by
  rw [q_step_of hd (Or.inl rfl)]; simp only [q_ex, q_aload, q_go, hl]
theorem tt_istore_n {k : Fin 4} {x : Int32} {lo' : qL} (hd : decode M.1 pc = .ok (.istore_n k, 1)) (hi : k.val < lo.length) (hl : q_st1 lo k.val (.int x) = lo') : q_step rc M (pc, lo, .int x :: st, σ) = some (.inl (pc + 1, lo', st, σ)) := by
  rw [q_step_of hd (Or.inl rfl)]; subst hl; simp only [q_ex, q_istore, q_go, if_pos hi]
theorem tt_istore {k : Nat} {x : Int32} {lo' : qL} (hd : decode M.1 pc = .ok (.istore k, 2)) (hi : k < lo.length) (hl : q_st1 lo k (.int x) = lo') : q_step rc M (pc, lo, .int x :: st, σ) = some (.inl (pc + 2, lo', st, σ)) := by
  rw [q_step_of hd (Or.inl rfl)]; subst hl; simp only [q_ex, q_istore, q_go, if_pos hi]
theorem tt_lstore_n {k : Fin 4} {x : Int64} {lo' : qL} (hd : decode M.1 pc = .ok (.lstore_n k, 1)) (hi : k.val + 1 < lo.length) (hl : q_st2 lo k.val (.long x) = lo') : q_step rc M (pc, lo, .long x :: st, σ) = some (.inl (pc + 1, lo', st, σ)) := by
  rw [q_step_of hd (Or.inl rfl)]; subst hl; simp only [q_ex, q_lstore, q_go, if_pos hi]
theorem tt_lstore {k : Nat} {x : Int64} {lo' : qL} (hd : decode M.1 pc = .ok (.lstore k, 2)) (hi : k + 1 < lo.length) (hl : q_st2 lo k (.long x) = lo') : q_step rc M (pc, lo, .long x :: st, σ) = some (.inl (pc + 2, lo', st, σ)) := by
  rw [q_step_of hd (Or.inl rfl)]; subst hl; simp only [q_ex, q_lstore, q_go, if_pos hi]
theorem tt_astore_n {k : Fin 4} {x : Nat} {lo' : qL} (hd : decode M.1 pc = .ok (.astore_n k, 1)) (hi : k.val < lo.length) (hl : q_st1 lo k.val (.ref x) = lo') : q_step rc M (pc, lo, .ref x :: st, σ) = some (.inl (pc + 1, lo', st, σ)) := by
  rw [q_step_of hd (Or.inl rfl)]; subst hl; simp only [q_ex, q_astore, q_go, if_pos hi]
theorem tt_astore {k : Nat} {x : Nat} {lo' : qL} (hd : decode M.1 pc = .ok (.astore k, 2)) (hi : k < lo.length) (hl : q_st1 lo k (.ref x) = lo') : q_step rc M (pc, lo, .ref x :: st, σ) = some (.inl (pc + 2, lo', st, σ)) := by
  rw [q_step_of hd (Or.inl rfl)]; subst hl; simp only [q_ex, q_astore, q_go, if_pos hi]
theorem tt_astore_nN {k : Fin 4} {lo' : qL} (hd : decode M.1 pc = .ok (.astore_n k, 1)) (hi : k.val < lo.length) (hl : q_st1 lo k.val .null = lo') : q_step rc M (pc, lo, .null :: st, σ) = some (.inl (pc + 1, lo', st, σ)) := by
  rw [q_step_of hd (Or.inl rfl)]; subst hl; simp only [q_ex, q_astore, q_go, if_pos hi]
theorem tt_astoreN {k : Nat} {lo' : qL} (hd : decode M.1 pc = .ok (.astore k, 2)) (hi : k < lo.length) (hl : q_st1 lo k .null = lo') : q_step rc M (pc, lo, .null :: st, σ) = some (.inl (pc + 2, lo', st, σ)) := by
  rw [q_step_of hd (Or.inl rfl)]; subst hl; simp only [q_ex, q_astore, q_go, if_pos hi]
theorem tt_iinc {k : Nat} {n : Int} {x v : Int32} {lo' : qL} (hd : decode M.1 pc = .ok (.iinc k n, 3)) (hx : lo.getD k none = some (.int x)) (hv : x + Int32.ofInt n = v) (hi : k < lo.length) (hl : q_st1 lo k (.int v) = lo') : q_step rc M (pc, lo, st, σ) = some (.inl (pc + 3, lo', st, σ)) := by
  rw [q_step_of hd (Or.inl rfl)]; subst hl; subst hv; simp only [q_ex, q_iinc, q_go, hx, if_pos hi]
theorem tt_iadd {x y : Int32} (hd : decode M.1 pc = .ok (.iadd, 1))  : q_step rc M (pc, lo, .int y :: .int x :: st, σ) = some (.inl (pc + 1, lo, .int (x + y) :: st, σ)) := by
  rw [q_step_of hd (Or.inl rfl)]; simp only [q_ex, q_i2, q_go]
theorem tt_isub {x y : Int32} (hd : decode M.1 pc = .ok (.isub, 1))  : q_step rc M (pc, lo, .int y :: .int x :: st, σ) = some (.inl (pc + 1, lo, .int (x - y) :: st, σ)) := by
  rw [q_step_of hd (Or.inl rfl)]; simp only [q_ex, q_i2, q_go]
theorem tt_imul {x y : Int32} (hd : decode M.1 pc = .ok (.imul, 1))  : q_step rc M (pc, lo, .int y :: .int x :: st, σ) = some (.inl (pc + 1, lo, .int (x * y) :: st, σ)) := by
  rw [q_step_of hd (Or.inl rfl)]; simp only [q_ex, q_i2, q_go]
theorem tt_iand {x y : Int32} (hd : decode M.1 pc = .ok (.iand, 1))  : q_step rc M (pc, lo, .int y :: .int x :: st, σ) = some (.inl (pc + 1, lo, .int (x &&& y) :: st, σ)) := by
  rw [q_step_of hd (Or.inl rfl)]; simp only [q_ex, q_i2, q_go]
theorem tt_ior {x y : Int32} (hd : decode M.1 pc = .ok (.ior, 1))  : q_step rc M (pc, lo, .int y :: .int x :: st, σ) = some (.inl (pc + 1, lo, .int (x ||| y) :: st, σ)) := by
  rw [q_step_of hd (Or.inl rfl)]; simp only [q_ex, q_i2, q_go]
theorem tt_ixor {x y : Int32} (hd : decode M.1 pc = .ok (.ixor, 1))  : q_step rc M (pc, lo, .int y :: .int x :: st, σ) = some (.inl (pc + 1, lo, .int (x ^^^ y) :: st, σ)) := by
  rw [q_step_of hd (Or.inl rfl)]; simp only [q_ex, q_i2, q_go]
theorem tt_ishl {x y : Int32} (hd : decode M.1 pc = .ok (.ishl, 1))  : q_step rc M (pc, lo, .int y :: .int x :: st, σ) = some (.inl (pc + 1, lo, .int (x <<< (y &&& 31)) :: st, σ)) := by
  rw [q_step_of hd (Or.inl rfl)]; simp only [q_ex, q_i2, q_go]
theorem tt_ishr {x y : Int32} (hd : decode M.1 pc = .ok (.ishr, 1))  : q_step rc M (pc, lo, .int y :: .int x :: st, σ) = some (.inl (pc + 1, lo, .int (x >>> (y &&& 31)) :: st, σ)) := by
  rw [q_step_of hd (Or.inl rfl)]; simp only [q_ex, q_i2, q_go]
theorem tt_iushr {x y : Int32} (hd : decode M.1 pc = .ok (.iushr, 1))  : q_step rc M (pc, lo, .int y :: .int x :: st, σ) = some (.inl (pc + 1, lo, .int ((x.toUInt32 >>> (y.toUInt32 &&& Int32.toUInt32 31)).toInt32) :: st, σ)) := by
  rw [q_step_of hd (Or.inl rfl)]; simp only [q_ex, q_i2, q_go]
theorem tt_idiv {x y : Int32} (hd : decode M.1 pc = .ok (.idiv, 1)) (hy : ¬ y = 0) : q_step rc M (pc, lo, .int y :: .int x :: st, σ) = some (.inl (pc + 1, lo, .int (x / y) :: st, σ)) := by
  rw [q_step_of hd (Or.inl rfl)]; simp only [q_ex, q_d2, q_go, if_neg hy]
theorem tt_irem {x y : Int32} (hd : decode M.1 pc = .ok (.irem, 1)) (hy : ¬ y = 0) : q_step rc M (pc, lo, .int y :: .int x :: st, σ) = some (.inl (pc + 1, lo, .int (x - x / y * y) :: st, σ)) := by
  rw [q_step_of hd (Or.inl rfl)]; simp only [q_ex, q_d2, q_go, if_neg hy]
theorem tt_ineg {x : Int32} (hd : decode M.1 pc = .ok (.ineg, 1))  : q_step rc M (pc, lo, .int x :: st, σ) = some (.inl (pc + 1, lo, .int (-x) :: st, σ)) := by
  rw [q_step_of hd (Or.inl rfl)]; simp only [q_ex, q_i1, q_go]
theorem tt_i2c {x : Int32} (hd : decode M.1 pc = .ok (.i2c, 1))  : q_step rc M (pc, lo, .int x :: st, σ) = some (.inl (pc + 1, lo, .int (x.toUInt32 % 65536).toInt32 :: st, σ)) := by
  rw [q_step_of hd (Or.inl rfl)]; simp only [q_ex, q_i1, q_go]
theorem tt_i2l {x : Int32} (hd : decode M.1 pc = .ok (.i2l, 1))  : q_step rc M (pc, lo, .int x :: st, σ) = some (.inl (pc + 1, lo, .long x.toInt64 :: st, σ)) := by
  rw [q_step_of hd (Or.inl rfl)]; simp only [q_ex, q_i1, q_go]
theorem tt_l2i {x : Int64} (hd : decode M.1 pc = .ok (.l2i, 1))  : q_step rc M (pc, lo, .long x :: st, σ) = some (.inl (pc + 1, lo, .int x.toInt32 :: st, σ)) := by
  rw [q_step_of hd (Or.inl rfl)]; simp only [q_ex, q_l1, q_go]
theorem tt_ladd {x y : Int64} (hd : decode M.1 pc = .ok (.ladd, 1))  : q_step rc M (pc, lo, .long y :: .long x :: st, σ) = some (.inl (pc + 1, lo, .long (x + y) :: st, σ)) := by
  rw [q_step_of hd (Or.inl rfl)]; simp only [q_ex, q_l2, q_go]
theorem tt_lsub {x y : Int64} (hd : decode M.1 pc = .ok (.lsub, 1))  : q_step rc M (pc, lo, .long y :: .long x :: st, σ) = some (.inl (pc + 1, lo, .long (x - y) :: st, σ)) := by
  rw [q_step_of hd (Or.inl rfl)]; simp only [q_ex, q_l2, q_go]
theorem tt_lmul {x y : Int64} (hd : decode M.1 pc = .ok (.lmul, 1))  : q_step rc M (pc, lo, .long y :: .long x :: st, σ) = some (.inl (pc + 1, lo, .long (x * y) :: st, σ)) := by
  rw [q_step_of hd (Or.inl rfl)]; simp only [q_ex, q_l2, q_go]
theorem tt_land {x y : Int64} (hd : decode M.1 pc = .ok (.land, 1))  : q_step rc M (pc, lo, .long y :: .long x :: st, σ) = some (.inl (pc + 1, lo, .long (x &&& y) :: st, σ)) := by
  rw [q_step_of hd (Or.inl rfl)]; simp only [q_ex, q_l2, q_go]
theorem tt_lor {x y : Int64} (hd : decode M.1 pc = .ok (.lor, 1))  : q_step rc M (pc, lo, .long y :: .long x :: st, σ) = some (.inl (pc + 1, lo, .long (x ||| y) :: st, σ)) := by
  rw [q_step_of hd (Or.inl rfl)]; simp only [q_ex, q_l2, q_go]
theorem tt_lxor {x y : Int64} (hd : decode M.1 pc = .ok (.lxor, 1))  : q_step rc M (pc, lo, .long y :: .long x :: st, σ) = some (.inl (pc + 1, lo, .long (x ^^^ y) :: st, σ)) := by
  rw [q_step_of hd (Or.inl rfl)]; simp only [q_ex, q_l2, q_go]
theorem tt_lcmp {x y : Int64} (hd : decode M.1 pc = .ok (.lcmp, 1))  : q_step rc M (pc, lo, .long y :: .long x :: st, σ) = some (.inl (pc + 1, lo, .int (lg_cmp x y) :: st, σ)) := by
  rw [q_step_of hd (Or.inl rfl)]; simp only [q_ex, q_l2, q_go]
theorem tt_lshl {x : Int64} {y : Int32} (hd : decode M.1 pc = .ok (.lshl, 1))  : q_step rc M (pc, lo, .int y :: .long x :: st, σ) = some (.inl (pc + 1, lo, .long (x <<< (y.toInt64 &&& 63)) :: st, σ)) := by
  rw [q_step_of hd (Or.inl rfl)]; simp only [q_ex, q_ls, q_go]
theorem tt_lshr {x : Int64} {y : Int32} (hd : decode M.1 pc = .ok (.lshr, 1))  : q_step rc M (pc, lo, .int y :: .long x :: st, σ) = some (.inl (pc + 1, lo, .long (x >>> (y.toInt64 &&& 63)) :: st, σ)) := by
  rw [q_step_of hd (Or.inl rfl)]; simp only [q_ex, q_ls, q_go]
theorem tt_lushr {x : Int64} {y : Int32} (hd : decode M.1 pc = .ok (.lushr, 1))  : q_step rc M (pc, lo, .int y :: .long x :: st, σ) = some (.inl (pc + 1, lo, .long ((x.toUInt64 >>> (y.toInt64.toUInt64 &&& Int64.toUInt64 63)).toInt64) :: st, σ)) := by
  rw [q_step_of hd (Or.inl rfl)]; simp only [q_ex, q_ls, q_go]
theorem tt_dup {a : Value} (hd : decode M.1 pc = .ok (.dup, 1)) (ha : a.category = 1) : q_step rc M (pc, lo, a :: st, σ) = some (.inl (pc + 1, lo, a :: a :: st, σ)) := by
  rw [q_step_of hd (Or.inl rfl)]; simp only [q_ex, q_dup, q_go, if_pos ha]
theorem tt_pop {a : Value} (hd : decode M.1 pc = .ok (.pop, 1)) (ha : a.category = 1) : q_step rc M (pc, lo, a :: st, σ) = some (.inl (pc + 1, lo, st, σ)) := by
  rw [q_step_of hd (Or.inl rfl)]; simp only [q_ex, q_pop, q_go, if_pos ha]
theorem tt_pop2 {a : Int64} (hd : decode M.1 pc = .ok (.pop2, 1))  : q_step rc M (pc, lo, .long a :: st, σ) = some (.inl (pc + 1, lo, st, σ)) := by
  rw [q_step_of hd (Or.inl rfl)]; simp only [q_ex, q_pop2, q_go]
theorem tt_dup_x1 {a b : Value} (hd : decode M.1 pc = .ok (.dup_x1, 1)) (ha : a.category = 1) (hb : b.category = 1) : q_step rc M (pc, lo, a :: b :: st, σ) = some (.inl (pc + 1, lo, a :: b :: a :: st, σ)) := by
  rw [q_step_of hd (Or.inl rfl)]; simp only [q_ex, q_dupx1, q_go, if_pos (And.intro ha hb)]
theorem tt_dup_x2 {a b d : Value} (hd : decode M.1 pc = .ok (.dup_x2, 1)) (ha : a.category = 1) (hb : b.category = 1) (hc : d.category = 1) : q_step rc M (pc, lo, a :: b :: d :: st, σ) = some (.inl (pc + 1, lo, a :: b :: d :: a :: st, σ)) := by
  rw [q_step_of hd (Or.inl rfl)]; simp only [q_ex, q_dupx2, q_go, if_pos (And.intro ha (And.intro hb hc))]
theorem tt_dup2_2 {a : Int64} (hd : decode M.1 pc = .ok (.dup2, 1))  : q_step rc M (pc, lo, .long a :: st, σ) = some (.inl (pc + 1, lo, .long a :: .long a :: st, σ)) := by
  rw [q_step_of hd (Or.inl rfl)]; simp only [q_ex, q_dup2, q_go]
theorem tt_dup2_11 {x : Int32} {b : Value} (hd : decode M.1 pc = .ok (.dup2, 1)) (hb : b.category = 1) : q_step rc M (pc, lo, .int x :: b :: st, σ) = some (.inl (pc + 1, lo, .int x :: b :: .int x :: b :: st, σ)) := by
  rw [q_step_of hd (Or.inl rfl)]; simp only [q_ex, q_dup2, q_go, if_pos (And.intro (show (Value.int x).category = 1 from rfl) hb)]
theorem tt_dup2_x1 {a : Int64} {b : Value} (hd : decode M.1 pc = .ok (.dup2_x1, 1)) (hb : b.category = 1) : q_step rc M (pc, lo, .long a :: b :: st, σ) = some (.inl (pc + 1, lo, .long a :: b :: .long a :: st, σ)) := by
  rw [q_step_of hd (Or.inl rfl)]; simp only [q_ex, q_dup2x1, q_go, if_pos hb]
theorem tt_if_eq_t {x : Int32} {off : Int} {t : Nat} (hd : decode M.1 pc = .ok (.ifCond .eq off, 3)) (ht : (pc : Int) + off = (t : Int)) (h : x = 0) : q_step rc M (pc, lo, .int x :: st, σ) = some (.inl (t, lo, st, σ)) := by
  rw [q_step_of hd (Or.inl rfl)]; have e9 : q_tg pc off = t := (by unfold q_tg; rw [ht]; rfl); simp only [q_ex, q_if, q_br, e9, if_pos ht, if_pos h]
theorem tt_if_eq_f {x : Int32} {off : Int} {t : Nat} (hd : decode M.1 pc = .ok (.ifCond .eq off, 3)) (ht : (pc : Int) + off = (t : Int)) (h : ¬ (x = 0)) : q_step rc M (pc, lo, .int x :: st, σ) = some (.inl (pc + 3, lo, st, σ)) := by
  rw [q_step_of hd (Or.inl rfl)]; have e9 : q_tg pc off = t := (by unfold q_tg; rw [ht]; rfl); simp only [q_ex, q_if, q_br, e9, if_pos ht, if_neg h]
theorem tt_icmp_eq_t {x y : Int32} {off : Int} {t : Nat} (hd : decode M.1 pc = .ok (.if_icmp .eq off, 3)) (ht : (pc : Int) + off = (t : Int)) (h : x = y) : q_step rc M (pc, lo, .int y :: .int x :: st, σ) = some (.inl (t, lo, st, σ)) := by
  rw [q_step_of hd (Or.inl rfl)]; have e9 : q_tg pc off = t := (by unfold q_tg; rw [ht]; rfl); simp only [q_ex, q_icmp, q_br, e9, if_pos ht, if_pos h]
theorem tt_icmp_eq_f {x y : Int32} {off : Int} {t : Nat} (hd : decode M.1 pc = .ok (.if_icmp .eq off, 3)) (ht : (pc : Int) + off = (t : Int)) (h : ¬ (x = y)) : q_step rc M (pc, lo, .int y :: .int x :: st, σ) = some (.inl (pc + 3, lo, st, σ)) := by
  rw [q_step_of hd (Or.inl rfl)]; have e9 : q_tg pc off = t := (by unfold q_tg; rw [ht]; rfl); simp only [q_ex, q_icmp, q_br, e9, if_pos ht, if_neg h]
theorem tt_if_ne_t {x : Int32} {off : Int} {t : Nat} (hd : decode M.1 pc = .ok (.ifCond .ne off, 3)) (ht : (pc : Int) + off = (t : Int)) (h : ¬ x = 0) : q_step rc M (pc, lo, .int x :: st, σ) = some (.inl (t, lo, st, σ)) := by
  rw [q_step_of hd (Or.inl rfl)]; have e9 : q_tg pc off = t := (by unfold q_tg; rw [ht]; rfl); simp only [q_ex, q_if, q_br, e9, if_pos ht, if_pos h]
theorem tt_if_ne_f {x : Int32} {off : Int} {t : Nat} (hd : decode M.1 pc = .ok (.ifCond .ne off, 3)) (ht : (pc : Int) + off = (t : Int)) (h : ¬ (¬ x = 0)) : q_step rc M (pc, lo, .int x :: st, σ) = some (.inl (pc + 3, lo, st, σ)) := by
  rw [q_step_of hd (Or.inl rfl)]; have e9 : q_tg pc off = t := (by unfold q_tg; rw [ht]; rfl); simp only [q_ex, q_if, q_br, e9, if_pos ht, if_neg h]
theorem tt_icmp_ne_t {x y : Int32} {off : Int} {t : Nat} (hd : decode M.1 pc = .ok (.if_icmp .ne off, 3)) (ht : (pc : Int) + off = (t : Int)) (h : ¬ x = y) : q_step rc M (pc, lo, .int y :: .int x :: st, σ) = some (.inl (t, lo, st, σ)) := by
  rw [q_step_of hd (Or.inl rfl)]; have e9 : q_tg pc off = t := (by unfold q_tg; rw [ht]; rfl); simp only [q_ex, q_icmp, q_br, e9, if_pos ht, if_pos h]
theorem tt_icmp_ne_f {x y : Int32} {off : Int} {t : Nat} (hd : decode M.1 pc = .ok (.if_icmp .ne off, 3)) (ht : (pc : Int) + off = (t : Int)) (h : ¬ (¬ x = y)) : q_step rc M (pc, lo, .int y :: .int x :: st, σ) = some (.inl (pc + 3, lo, st, σ)) := by
  rw [q_step_of hd (Or.inl rfl)]; have e9 : q_tg pc off = t := (by unfold q_tg; rw [ht]; rfl); simp only [q_ex, q_icmp, q_br, e9, if_pos ht, if_neg h]
theorem tt_if_lt_t {x : Int32} {off : Int} {t : Nat} (hd : decode M.1 pc = .ok (.ifCond .lt off, 3)) (ht : (pc : Int) + off = (t : Int)) (h : x < 0) : q_step rc M (pc, lo, .int x :: st, σ) = some (.inl (t, lo, st, σ)) := by
  rw [q_step_of hd (Or.inl rfl)]; have e9 : q_tg pc off = t := (by unfold q_tg; rw [ht]; rfl); simp only [q_ex, q_if, q_br, e9, if_pos ht, if_pos h]
theorem tt_if_lt_f {x : Int32} {off : Int} {t : Nat} (hd : decode M.1 pc = .ok (.ifCond .lt off, 3)) (ht : (pc : Int) + off = (t : Int)) (h : ¬ (x < 0)) : q_step rc M (pc, lo, .int x :: st, σ) = some (.inl (pc + 3, lo, st, σ)) := by
  rw [q_step_of hd (Or.inl rfl)]; have e9 : q_tg pc off = t := (by unfold q_tg; rw [ht]; rfl); simp only [q_ex, q_if, q_br, e9, if_pos ht, if_neg h]
theorem tt_icmp_lt_t {x y : Int32} {off : Int} {t : Nat} (hd : decode M.1 pc = .ok (.if_icmp .lt off, 3)) (ht : (pc : Int) + off = (t : Int)) (h : x < y) : q_step rc M (pc, lo, .int y :: .int x :: st, σ) = some (.inl (t, lo, st, σ)) := by
  rw [q_step_of hd (Or.inl rfl)]; have e9 : q_tg pc off = t := (by unfold q_tg; rw [ht]; rfl); simp only [q_ex, q_icmp, q_br, e9, if_pos ht, if_pos h]
theorem tt_icmp_lt_f {x y : Int32} {off : Int} {t : Nat} (hd : decode M.1 pc = .ok (.if_icmp .lt off, 3)) (ht : (pc : Int) + off = (t : Int)) (h : ¬ (x < y)) : q_step rc M (pc, lo, .int y :: .int x :: st, σ) = some (.inl (pc + 3, lo, st, σ)) := by
  rw [q_step_of hd (Or.inl rfl)]; have e9 : q_tg pc off = t := (by unfold q_tg; rw [ht]; rfl); simp only [q_ex, q_icmp, q_br, e9, if_pos ht, if_neg h]
theorem tt_if_ge_t {x : Int32} {off : Int} {t : Nat} (hd : decode M.1 pc = .ok (.ifCond .ge off, 3)) (ht : (pc : Int) + off = (t : Int)) (h : 0 ≤ x) : q_step rc M (pc, lo, .int x :: st, σ) = some (.inl (t, lo, st, σ)) := by
  rw [q_step_of hd (Or.inl rfl)]; have e9 : q_tg pc off = t := (by unfold q_tg; rw [ht]; rfl); simp only [q_ex, q_if, q_br, e9, if_pos ht, if_pos h]
theorem tt_if_ge_f {x : Int32} {off : Int} {t : Nat} (hd : decode M.1 pc = .ok (.ifCond .ge off, 3)) (ht : (pc : Int) + off = (t : Int)) (h : ¬ (0 ≤ x)) : q_step rc M (pc, lo, .int x :: st, σ) = some (.inl (pc + 3, lo, st, σ)) := by
  rw [q_step_of hd (Or.inl rfl)]; have e9 : q_tg pc off = t := (by unfold q_tg; rw [ht]; rfl); simp only [q_ex, q_if, q_br, e9, if_pos ht, if_neg h]
theorem tt_icmp_ge_t {x y : Int32} {off : Int} {t : Nat} (hd : decode M.1 pc = .ok (.if_icmp .ge off, 3)) (ht : (pc : Int) + off = (t : Int)) (h : y ≤ x) : q_step rc M (pc, lo, .int y :: .int x :: st, σ) = some (.inl (t, lo, st, σ)) := by
  rw [q_step_of hd (Or.inl rfl)]; have e9 : q_tg pc off = t := (by unfold q_tg; rw [ht]; rfl); simp only [q_ex, q_icmp, q_br, e9, if_pos ht, if_pos h]
theorem tt_icmp_ge_f {x y : Int32} {off : Int} {t : Nat} (hd : decode M.1 pc = .ok (.if_icmp .ge off, 3)) (ht : (pc : Int) + off = (t : Int)) (h : ¬ (y ≤ x)) : q_step rc M (pc, lo, .int y :: .int x :: st, σ) = some (.inl (pc + 3, lo, st, σ)) := by
  rw [q_step_of hd (Or.inl rfl)]; have e9 : q_tg pc off = t := (by unfold q_tg; rw [ht]; rfl); simp only [q_ex, q_icmp, q_br, e9, if_pos ht, if_neg h]
theorem tt_if_gt_t {x : Int32} {off : Int} {t : Nat} (hd : decode M.1 pc = .ok (.ifCond .gt off, 3)) (ht : (pc : Int) + off = (t : Int)) (h : 0 < x) : q_step rc M (pc, lo, .int x :: st, σ) = some (.inl (t, lo, st, σ)) := by
  rw [q_step_of hd (Or.inl rfl)]; have e9 : q_tg pc off = t := (by unfold q_tg; rw [ht]; rfl); simp only [q_ex, q_if, q_br, e9, if_pos ht, if_pos h]
theorem tt_if_gt_f {x : Int32} {off : Int} {t : Nat} (hd : decode M.1 pc = .ok (.ifCond .gt off, 3)) (ht : (pc : Int) + off = (t : Int)) (h : ¬ (0 < x)) : q_step rc M (pc, lo, .int x :: st, σ) = some (.inl (pc + 3, lo, st, σ)) := by
  rw [q_step_of hd (Or.inl rfl)]; have e9 : q_tg pc off = t := (by unfold q_tg; rw [ht]; rfl); simp only [q_ex, q_if, q_br, e9, if_pos ht, if_neg h]
theorem tt_icmp_gt_t {x y : Int32} {off : Int} {t : Nat} (hd : decode M.1 pc = .ok (.if_icmp .gt off, 3)) (ht : (pc : Int) + off = (t : Int)) (h : y < x) : q_step rc M (pc, lo, .int y :: .int x :: st, σ) = some (.inl (t, lo, st, σ)) := by
  rw [q_step_of hd (Or.inl rfl)]; have e9 : q_tg pc off = t := (by unfold q_tg; rw [ht]; rfl); simp only [q_ex, q_icmp, q_br, e9, if_pos ht, if_pos h]
theorem tt_icmp_gt_f {x y : Int32} {off : Int} {t : Nat} (hd : decode M.1 pc = .ok (.if_icmp .gt off, 3)) (ht : (pc : Int) + off = (t : Int)) (h : ¬ (y < x)) : q_step rc M (pc, lo, .int y :: .int x :: st, σ) = some (.inl (pc + 3, lo, st, σ)) := by
  rw [q_step_of hd (Or.inl rfl)]; have e9 : q_tg pc off = t := (by unfold q_tg; rw [ht]; rfl); simp only [q_ex, q_icmp, q_br, e9, if_pos ht, if_neg h]
theorem tt_if_le_t {x : Int32} {off : Int} {t : Nat} (hd : decode M.1 pc = .ok (.ifCond .le off, 3)) (ht : (pc : Int) + off = (t : Int)) (h : x ≤ 0) : q_step rc M (pc, lo, .int x :: st, σ) = some (.inl (t, lo, st, σ)) := by
  rw [q_step_of hd (Or.inl rfl)]; have e9 : q_tg pc off = t := (by unfold q_tg; rw [ht]; rfl); simp only [q_ex, q_if, q_br, e9, if_pos ht, if_pos h]
theorem tt_if_le_f {x : Int32} {off : Int} {t : Nat} (hd : decode M.1 pc = .ok (.ifCond .le off, 3)) (ht : (pc : Int) + off = (t : Int)) (h : ¬ (x ≤ 0)) : q_step rc M (pc, lo, .int x :: st, σ) = some (.inl (pc + 3, lo, st, σ)) := by
  rw [q_step_of hd (Or.inl rfl)]; have e9 : q_tg pc off = t := (by unfold q_tg; rw [ht]; rfl); simp only [q_ex, q_if, q_br, e9, if_pos ht, if_neg h]
theorem tt_icmp_le_t {x y : Int32} {off : Int} {t : Nat} (hd : decode M.1 pc = .ok (.if_icmp .le off, 3)) (ht : (pc : Int) + off = (t : Int)) (h : x ≤ y) : q_step rc M (pc, lo, .int y :: .int x :: st, σ) = some (.inl (t, lo, st, σ)) := by
  rw [q_step_of hd (Or.inl rfl)]; have e9 : q_tg pc off = t := (by unfold q_tg; rw [ht]; rfl); simp only [q_ex, q_icmp, q_br, e9, if_pos ht, if_pos h]
theorem tt_icmp_le_f {x y : Int32} {off : Int} {t : Nat} (hd : decode M.1 pc = .ok (.if_icmp .le off, 3)) (ht : (pc : Int) + off = (t : Int)) (h : ¬ (x ≤ y)) : q_step rc M (pc, lo, .int y :: .int x :: st, σ) = some (.inl (pc + 3, lo, st, σ)) := by
  rw [q_step_of hd (Or.inl rfl)]; have e9 : q_tg pc off = t := (by unfold q_tg; rw [ht]; rfl); simp only [q_ex, q_icmp, q_br, e9, if_pos ht, if_neg h]
theorem tt_goto {off : Int} {t : Nat} (hd : decode M.1 pc = .ok (.goto off, 3)) (ht : (pc : Int) + off = (t : Int)) : q_step rc M (pc, lo, st, σ) = some (.inl (t, lo, st, σ)) := by
  rw [q_step_of hd (Or.inl rfl)]; have e9 : q_tg pc off = t := (by unfold q_tg; rw [ht]; rfl); simp only [q_ex, q_goto, q_go, e9, if_pos ht]
theorem tt_ifnull_t {off : Int} {t : Nat} (hd : decode M.1 pc = .ok (.ifnull off, 3)) (ht : (pc : Int) + off = (t : Int)) : q_step rc M (pc, lo, .null :: st, σ) = some (.inl (t, lo, st, σ)) := by
  rw [q_step_of hd (Or.inl rfl)]; have e9 : q_tg pc off = t := (by unfold q_tg; rw [ht]; rfl); simp only [q_ex, q_ifnull, q_go, e9, if_pos ht]
theorem tt_ifnull_f {off : Int} {a : Nat} (hd : decode M.1 pc = .ok (.ifnull off, 3))  : q_step rc M (pc, lo, .ref a :: st, σ) = some (.inl (pc + 3, lo, st, σ)) := by
  rw [q_step_of hd (Or.inl rfl)]; simp only [q_ex, q_ifnull, q_go]
theorem tt_ifnonnull_t {off : Int} {t a : Nat} (hd : decode M.1 pc = .ok (.ifnonnull off, 3)) (ht : (pc : Int) + off = (t : Int)) : q_step rc M (pc, lo, .ref a :: st, σ) = some (.inl (t, lo, st, σ)) := by
  rw [q_step_of hd (Or.inl rfl)]; have e9 : q_tg pc off = t := (by unfold q_tg; rw [ht]; rfl); simp only [q_ex, q_ifnonnull, q_go, e9, if_pos ht]
theorem tt_ifnonnull_f {off : Int} (hd : decode M.1 pc = .ok (.ifnonnull off, 3))  : q_step rc M (pc, lo, .null :: st, σ) = some (.inl (pc + 3, lo, st, σ)) := by
  rw [q_step_of hd (Or.inl rfl)]; simp only [q_ex, q_ifnonnull, q_go]
theorem tt_getf {ci k md idx a : Nat} {ty : FieldType} {fs : List Value} {v : Value} (hd : decode M.1 pc = .ok (.getfield idx, 3)) (hp : M.2.2.2.2.1 idx = some (ci, k, ty, md)) (ha : σ.1 a = some (.inr (ci, fs))) (hv : fs[k]? = some v) : q_step rc M (pc, lo, .ref a :: st, σ) = some (.inl (pc + 3, lo, v :: st, σ)) := by
  rw [q_step_of hd (Or.inl rfl)]; simp only [q_ex, q_getf, q_go, hp, ha, hv, if_true]
theorem tt_putf {ci k md idx a : Nat} {ty : FieldType} {fs : List Value} {v : Value} {h' : Nat → Option qE} (hd : decode M.1 pc = .ok (.putfield idx, 3)) (hp : M.2.2.2.2.1 idx = some (ci, k, ty, md)) (ha : σ.1 a = some (.inr (ci, fs))) (hk : k < fs.length) (hn : narrow ty v = v) (hf : fits ty v = true) (hm : md = 0 ∨ (md = 1 ∧ M.2.2.2.1 = true)) (hh : q_up σ.1 a (.inr (ci, fs.set k v)) = h') : q_step rc M (pc, lo, v :: .ref a :: st, σ) = some (.inl (pc + 3, lo, st, (h', σ.2))) := by
  rw [q_step_of hd (Or.inl rfl)]; subst hh; simp only [q_ex, q_putf, q_go, hp, ha]; exact if_pos ⟨trivial, hk, hn, hf, hm⟩
theorem tt_iaload {a n : Nat} {i : Int32} {f : Nat → Int32} (hd : decode M.1 pc = .ok (.iaload, 1)) (ha : σ.1 a = some (.inl (0, n, .inl f))) (hi : ¬ (i < 0 ∨ n ≤ i.toNatClampNeg)) : q_step rc M (pc, lo, .int i :: .ref a :: st, σ) = some (.inl (pc + 1, lo, .int (f i.toNatClampNeg) :: st, σ)) := by
  rw [q_step_of hd (Or.inl rfl)]; simp only [q_ex, q_iald, q_go, ha]; exact if_pos ⟨trivial, hi⟩
theorem tt_caload {a n : Nat} {i : Int32} {f : Nat → Int32} (hd : decode M.1 pc = .ok (.caload, 1)) (ha : σ.1 a = some (.inl (1, n, .inl f))) (hi : ¬ (i < 0 ∨ n ≤ i.toNatClampNeg)) : q_step rc M (pc, lo, .int i :: .ref a :: st, σ) = some (.inl (pc + 1, lo, .int (f i.toNatClampNeg) :: st, σ)) := by
  rw [q_step_of hd (Or.inl rfl)]; simp only [q_ex, q_iald, q_go, ha]; exact if_pos ⟨trivial, hi⟩
theorem tt_baload {a n : Nat} {i : Int32} {f : Nat → Int32} (hd : decode M.1 pc = .ok (.baload, 1)) (ha : σ.1 a = some (.inl (3, n, .inl f))) (hi : ¬ (i < 0 ∨ n ≤ i.toNatClampNeg)) : q_step rc M (pc, lo, .int i :: .ref a :: st, σ) = some (.inl (pc + 1, lo, .int (f i.toNatClampNeg) :: st, σ)) := by
  rw [q_step_of hd (Or.inl rfl)]; simp only [q_ex, q_iald, q_go, ha]; exact if_pos ⟨trivial, hi⟩
theorem tt_laload {a n : Nat} {i : Int32} {f : Nat → Int64} (hd : decode M.1 pc = .ok (.laload, 1)) (ha : σ.1 a = some (.inl (2, n, .inr (.inl f)))) (hi : ¬ (i < 0 ∨ n ≤ i.toNatClampNeg)) : q_step rc M (pc, lo, .int i :: .ref a :: st, σ) = some (.inl (pc + 1, lo, .long (f i.toNatClampNeg) :: st, σ)) := by
  rw [q_step_of hd (Or.inl rfl)]; simp only [q_ex, q_lald, q_go, ha]; exact if_pos ⟨trivial, hi⟩
theorem tt_iastore {a n : Nat} {i x : Int32} {f : Nat → Int32} {h' : Nat → Option qE} (hd : decode M.1 pc = .ok (.iastore, 1)) (ha : σ.1 a = some (.inl (0, n, .inl f))) (hi : ¬ (i < 0 ∨ n ≤ i.toNatClampNeg)) (hh : q_up σ.1 a (.inl (0, n, .inl (upd f i.toNatClampNeg (x)))) = h') : q_step rc M (pc, lo, .int x :: .int i :: .ref a :: st, σ) = some (.inl (pc + 1, lo, st, (h', σ.2))) := by
  rw [q_step_of hd (Or.inl rfl)]; subst hh; simp only [q_ex, q_iast, q_go, ha]; exact if_pos ⟨trivial, hi⟩
theorem tt_castore {a n : Nat} {i x : Int32} {f : Nat → Int32} {h' : Nat → Option qE} (hd : decode M.1 pc = .ok (.castore, 1)) (ha : σ.1 a = some (.inl (1, n, .inl f))) (hi : ¬ (i < 0 ∨ n ≤ i.toNatClampNeg)) (hh : q_up σ.1 a (.inl (1, n, .inl (upd f i.toNatClampNeg (vp_nar .char x)))) = h') : q_step rc M (pc, lo, .int x :: .int i :: .ref a :: st, σ) = some (.inl (pc + 1, lo, st, (h', σ.2))) := by
  rw [q_step_of hd (Or.inl rfl)]; subst hh; simp only [q_ex, q_iast, q_go, ha]; exact if_pos ⟨trivial, hi⟩
theorem tt_bastore {a n : Nat} {i x : Int32} {f : Nat → Int32} {h' : Nat → Option qE} (hd : decode M.1 pc = .ok (.bastore, 1)) (ha : σ.1 a = some (.inl (3, n, .inl f))) (hi : ¬ (i < 0 ∨ n ≤ i.toNatClampNeg)) (hh : q_up σ.1 a (.inl (3, n, .inl (upd f i.toNatClampNeg (vp_nar .boolean x)))) = h') : q_step rc M (pc, lo, .int x :: .int i :: .ref a :: st, σ) = some (.inl (pc + 1, lo, st, (h', σ.2))) := by
  rw [q_step_of hd (Or.inl rfl)]; subst hh; simp only [q_ex, q_iast, q_go, ha]; exact if_pos ⟨trivial, hi⟩
theorem tt_lastore {a n : Nat} {i : Int32} {x : Int64} {f : Nat → Int64} {h' : Nat → Option qE} (hd : decode M.1 pc = .ok (.lastore, 1)) (ha : σ.1 a = some (.inl (2, n, .inr (.inl f)))) (hi : ¬ (i < 0 ∨ n ≤ i.toNatClampNeg)) (hh : q_up σ.1 a (.inl (2, n, .inr (.inl (vp_updL f i.toNatClampNeg x)))) = h') : q_step rc M (pc, lo, .long x :: .int i :: .ref a :: st, σ) = some (.inl (pc + 1, lo, st, (h', σ.2))) := by
  rw [q_step_of hd (Or.inl rfl)]; subst hh; simp only [q_ex, q_last, q_go, ha]; exact if_pos ⟨trivial, hi⟩
theorem tt_alen {a k n : Nat} {z : (Nat → Int32) ⊕ (Nat → Int64) ⊕ (Nat → UInt32) ⊕ (Nat → UInt64) ⊕ (Nat → Option Nat)} {v : Int32} (hd : decode M.1 pc = .ok (.arraylength, 1)) (ha : σ.1 a = some (.inl (k, n, z))) (hk : k < 4) (hv : Int32.ofNat n = v) : q_step rc M (pc, lo, .ref a :: st, σ) = some (.inl (pc + 1, lo, .int v :: st, σ)) := by
  rw [q_step_of hd (Or.inl rfl)]; subst hv; simp only [q_ex, q_alen, q_go, ha, if_pos hk]
theorem tt_ldc2 {idx : Nat} {v : Int64} (hd : decode M.1 pc = .ok (.ldc2_w idx, 3)) (hp : M.2.2.2.2.2.2.2.2 idx = some v) : q_step rc M (pc, lo, st, σ) = some (.inl (pc + 3, lo, .long v :: st, σ)) := by
  rw [q_step_of hd (Or.inl rfl)]; simp only [q_ex, q_push, q_go, hp]
theorem tt_newI {n : Int32} (hd : decode M.1 pc = .ok (.newarray .int, 2)) (hn : ¬ (n < 0 ∨ 536870912 < n.toNatClampNeg * 4)) : q_step rc M (pc, lo, .int n :: st, σ) = some (.inl (pc + 2, lo, .ref σ.2.1 :: st, (q_up σ.1 σ.2.1 (.inl (0, n.toNatClampNeg, .inl fun _ => 0)), σ.2.1 + 1, σ.2.2.1 + 1, σ.2.2.2 + n.toNatClampNeg))) := by
  rw [q_step_of hd (Or.inl rfl)]; simp only [q_ex, q_newA, q_new, q_go, if_neg hn]
theorem tt_newC {n : Int32} (hd : decode M.1 pc = .ok (.newarray .char, 2)) (hn : ¬ (n < 0 ∨ 536870912 < n.toNatClampNeg * 2)) : q_step rc M (pc, lo, .int n :: st, σ) = some (.inl (pc + 2, lo, .ref σ.2.1 :: st, (q_up σ.1 σ.2.1 (.inl (1, n.toNatClampNeg, .inl fun _ => 0)), σ.2.1 + 1, σ.2.2.1 + 1, σ.2.2.2 + n.toNatClampNeg))) := by
  rw [q_step_of hd (Or.inl rfl)]; simp only [q_ex, q_newA, q_new, q_go, if_neg hn]
theorem tt_newJ {n : Int32} (hd : decode M.1 pc = .ok (.newarray .long, 2)) (hn : ¬ (n < 0 ∨ 536870912 < n.toNatClampNeg * 8)) : q_step rc M (pc, lo, .int n :: st, σ) = some (.inl (pc + 2, lo, .ref σ.2.1 :: st, (q_up σ.1 σ.2.1 (.inl (2, n.toNatClampNeg, .inr (.inl fun _ => 0))), σ.2.1 + 1, σ.2.2.1 + 1, σ.2.2.2 + n.toNatClampNeg))) := by
  rw [q_step_of hd (Or.inl rfl)]; simp only [q_ex, q_newA, q_new, q_go, if_neg hn]
theorem tt_newZ {n : Int32} (hd : decode M.1 pc = .ok (.newarray .boolean, 2)) (hn : ¬ (n < 0 ∨ 536870912 < n.toNatClampNeg * 1)) : q_step rc M (pc, lo, .int n :: st, σ) = some (.inl (pc + 2, lo, .ref σ.2.1 :: st, (q_up σ.1 σ.2.1 (.inl (3, n.toNatClampNeg, .inl fun _ => 0)), σ.2.1 + 1, σ.2.2.1 + 1, σ.2.2.2 + n.toNatClampNeg))) := by
  rw [q_step_of hd (Or.inl rfl)]; simp only [q_ex, q_newA, q_new, q_go, if_neg hn]
theorem tt_new {idx ci : Nat} {fs : List Value} (hd : decode M.1 pc = .ok (.new idx, 3)) (hp : M.2.2.2.2.2.1 idx = some (.inl (ci, fs))) : q_step rc M (pc, lo, st, σ) = some (.inl (pc + 3, lo, .ref σ.2.1 :: st, (q_up σ.1 σ.2.1 (.inr (ci, fs)), σ.2.1 + 1, σ.2.2.1 + 1, σ.2.2.2 + fs.length))) := by
  rw [q_step_of hd (Or.inl rfl)]; simp only [q_ex, q_newC, q_go, hp]
theorem tt_objInit {idx a : Nat} {z : Nat × Nat × Nat} (hd : decode M.1 pc = .ok (.invokespecial idx, 3)) (hp : M.2.2.2.2.2.2.1 idx = some (0, z)) (hs : q_sum st ≤ 8) : q_step rc M (pc, lo, .ref a :: st, σ) = some (.inl (pc + 3, lo, st, σ)) := by
  rw [q_step_of hd (Or.inl rfl)]; simp only [q_ex, hp, q_call, q_go, if_pos hs]
theorem tt_max {idx : Nat} {x y : Int32} {z : Nat × Nat × Nat} (hd : decode M.1 pc = .ok (.invokestatic idx, 3)) (hp : M.2.2.2.2.2.2.1 idx = some (4, z)) (hs : q_sum st ≤ 8) : q_step rc M (pc, lo, .int y :: .int x :: st, σ) = some (.inl (pc + 3, lo, .int (if x < y then y else x) :: st, σ)) := by
  rw [q_step_of hd (Or.inl rfl)]; simp only [q_ex, hp, q_call, q_go, if_pos hs]
theorem tt_min {idx : Nat} {x y : Int32} {z : Nat × Nat × Nat} (hd : decode M.1 pc = .ok (.invokestatic idx, 3)) (hp : M.2.2.2.2.2.2.1 idx = some (5, z)) (hs : q_sum st ≤ 8) : q_step rc M (pc, lo, .int y :: .int x :: st, σ) = some (.inl (pc + 3, lo, .int (if y < x then y else x) :: st, σ)) := by
  rw [q_step_of hd (Or.inl rfl)]; simp only [q_ex, hp, q_call, q_go, if_pos hs]
theorem tt_callV0 {idx z ci b : Nat} {fs : List Value} {v : Option Value} {σ' : qH} (hd : decode M.1 pc = .ok (.invokevirtual idx, 3)) (hp : M.2.2.2.2.2.2.1 idx = some (1, z, 0, ci)) (hs : q_sum st ≤ 8) (hb : σ.1 b = some (.inr (ci, fs))) (hc : rc z [.ref b] σ = some (.inl v, σ')) : q_step rc M (pc, lo, .ref b :: st, σ) = some (.inl (pc + 3, lo, v.toList ++ st, σ')) := by
  rw [q_step_of hd (Or.inl rfl)]; simp only [q_ex, hp, q_call, List.drop, hb]; rw [if_pos ⟨trivial, hs⟩]; exact congrArg (q_back pc lo st) hc
theorem tt_callI0 {idx z ci b : Nat} {v : Option Value} {σ' : qH} (hd : decode M.1 pc = .ok (.invokespecial idx, 3)) (hp : M.2.2.2.2.2.2.1 idx = some (3, z, 0, ci)) (hs : q_sum st ≤ 8) (hc : rc z [.ref b] σ = some (.inl v, σ')) : q_step rc M (pc, lo, .ref b :: st, σ) = some (.inl (pc + 3, lo, v.toList ++ st, σ')) := by
  rw [q_step_of hd (Or.inl rfl)]; simp only [q_ex, hp, q_call, List.drop]; rw [if_pos hs]; exact congrArg (q_back pc lo st) hc
theorem tt_callS0 {idx z ci : Nat} {v : Option Value} {σ' : qH} (hd : decode M.1 pc = .ok (.invokestatic idx, 3)) (hp : M.2.2.2.2.2.2.1 idx = some (2, z, 0, ci)) (hs : q_sum st ≤ 8) (hc : rc z [] σ = some (.inl v, σ')) : q_step rc M (pc, lo, st, σ) = some (.inl (pc + 3, lo, v.toList ++ st, σ')) := by
  rw [q_step_of hd (Or.inl rfl)]; simp only [q_ex, hp, q_call]; rw [if_pos ⟨by (try simp only [List.length_cons]); omega, hs⟩]; exact congrArg (q_back pc lo st) hc
theorem tt_callV1 {idx z ci b : Nat} {a1 : Value} {fs : List Value} {v : Option Value} {σ' : qH} (hd : decode M.1 pc = .ok (.invokevirtual idx, 3)) (hp : M.2.2.2.2.2.2.1 idx = some (1, z, 1, ci)) (hs : q_sum st ≤ 8) (hb : σ.1 b = some (.inr (ci, fs))) (hc : rc z [.ref b, a1] σ = some (.inl v, σ')) : q_step rc M (pc, lo, a1 :: .ref b :: st, σ) = some (.inl (pc + 3, lo, v.toList ++ st, σ')) := by
  rw [q_step_of hd (Or.inl rfl)]; simp only [q_ex, hp, q_call, List.drop, hb]; rw [if_pos ⟨trivial, hs⟩]; exact congrArg (q_back pc lo st) hc
theorem tt_callI1 {idx z ci b : Nat} {a1 : Value} {v : Option Value} {σ' : qH} (hd : decode M.1 pc = .ok (.invokespecial idx, 3)) (hp : M.2.2.2.2.2.2.1 idx = some (3, z, 1, ci)) (hs : q_sum st ≤ 8) (hc : rc z [.ref b, a1] σ = some (.inl v, σ')) : q_step rc M (pc, lo, a1 :: .ref b :: st, σ) = some (.inl (pc + 3, lo, v.toList ++ st, σ')) := by
  rw [q_step_of hd (Or.inl rfl)]; simp only [q_ex, hp, q_call, List.drop]; rw [if_pos hs]; exact congrArg (q_back pc lo st) hc
theorem tt_callS1 {idx z ci : Nat} {a1 : Value} {v : Option Value} {σ' : qH} (hd : decode M.1 pc = .ok (.invokestatic idx, 3)) (hp : M.2.2.2.2.2.2.1 idx = some (2, z, 1, ci)) (hs : q_sum st ≤ 8) (hc : rc z [a1] σ = some (.inl v, σ')) : q_step rc M (pc, lo, a1 :: st, σ) = some (.inl (pc + 3, lo, v.toList ++ st, σ')) := by
  rw [q_step_of hd (Or.inl rfl)]; simp only [q_ex, hp, q_call]; rw [if_pos ⟨by (try simp only [List.length_cons]); omega, hs⟩]; exact congrArg (q_back pc lo st) hc
theorem tt_callV2 {idx z ci b : Nat} {a1 a2 : Value} {fs : List Value} {v : Option Value} {σ' : qH} (hd : decode M.1 pc = .ok (.invokevirtual idx, 3)) (hp : M.2.2.2.2.2.2.1 idx = some (1, z, 2, ci)) (hs : q_sum st ≤ 8) (hb : σ.1 b = some (.inr (ci, fs))) (hc : rc z [.ref b, a1, a2] σ = some (.inl v, σ')) : q_step rc M (pc, lo, a2 :: a1 :: .ref b :: st, σ) = some (.inl (pc + 3, lo, v.toList ++ st, σ')) := by
  rw [q_step_of hd (Or.inl rfl)]; simp only [q_ex, hp, q_call, List.drop, hb]; rw [if_pos ⟨trivial, hs⟩]; exact congrArg (q_back pc lo st) hc
theorem tt_callI2 {idx z ci b : Nat} {a1 a2 : Value} {v : Option Value} {σ' : qH} (hd : decode M.1 pc = .ok (.invokespecial idx, 3)) (hp : M.2.2.2.2.2.2.1 idx = some (3, z, 2, ci)) (hs : q_sum st ≤ 8) (hc : rc z [.ref b, a1, a2] σ = some (.inl v, σ')) : q_step rc M (pc, lo, a2 :: a1 :: .ref b :: st, σ) = some (.inl (pc + 3, lo, v.toList ++ st, σ')) := by
  rw [q_step_of hd (Or.inl rfl)]; simp only [q_ex, hp, q_call, List.drop]; rw [if_pos hs]; exact congrArg (q_back pc lo st) hc
theorem tt_callS2 {idx z ci : Nat} {a1 a2 : Value} {v : Option Value} {σ' : qH} (hd : decode M.1 pc = .ok (.invokestatic idx, 3)) (hp : M.2.2.2.2.2.2.1 idx = some (2, z, 2, ci)) (hs : q_sum st ≤ 8) (hc : rc z [a1, a2] σ = some (.inl v, σ')) : q_step rc M (pc, lo, a2 :: a1 :: st, σ) = some (.inl (pc + 3, lo, v.toList ++ st, σ')) := by
  rw [q_step_of hd (Or.inl rfl)]; simp only [q_ex, hp, q_call]; rw [if_pos ⟨by (try simp only [List.length_cons]); omega, hs⟩]; exact congrArg (q_back pc lo st) hc
theorem tt_callV3 {idx z ci b : Nat} {a1 a2 a3 : Value} {fs : List Value} {v : Option Value} {σ' : qH} (hd : decode M.1 pc = .ok (.invokevirtual idx, 3)) (hp : M.2.2.2.2.2.2.1 idx = some (1, z, 3, ci)) (hs : q_sum st ≤ 8) (hb : σ.1 b = some (.inr (ci, fs))) (hc : rc z [.ref b, a1, a2, a3] σ = some (.inl v, σ')) : q_step rc M (pc, lo, a3 :: a2 :: a1 :: .ref b :: st, σ) = some (.inl (pc + 3, lo, v.toList ++ st, σ')) := by
  rw [q_step_of hd (Or.inl rfl)]; simp only [q_ex, hp, q_call, List.drop, hb]; rw [if_pos ⟨trivial, hs⟩]; exact congrArg (q_back pc lo st) hc
theorem tt_callI3 {idx z ci b : Nat} {a1 a2 a3 : Value} {v : Option Value} {σ' : qH} (hd : decode M.1 pc = .ok (.invokespecial idx, 3)) (hp : M.2.2.2.2.2.2.1 idx = some (3, z, 3, ci)) (hs : q_sum st ≤ 8) (hc : rc z [.ref b, a1, a2, a3] σ = some (.inl v, σ')) : q_step rc M (pc, lo, a3 :: a2 :: a1 :: .ref b :: st, σ) = some (.inl (pc + 3, lo, v.toList ++ st, σ')) := by
  rw [q_step_of hd (Or.inl rfl)]; simp only [q_ex, hp, q_call, List.drop]; rw [if_pos hs]; exact congrArg (q_back pc lo st) hc
theorem tt_callS3 {idx z ci : Nat} {a1 a2 a3 : Value} {v : Option Value} {σ' : qH} (hd : decode M.1 pc = .ok (.invokestatic idx, 3)) (hp : M.2.2.2.2.2.2.1 idx = some (2, z, 3, ci)) (hs : q_sum st ≤ 8) (hc : rc z [a1, a2, a3] σ = some (.inl v, σ')) : q_step rc M (pc, lo, a3 :: a2 :: a1 :: st, σ) = some (.inl (pc + 3, lo, v.toList ++ st, σ')) := by
  rw [q_step_of hd (Or.inl rfl)]; simp only [q_ex, hp, q_call]; rw [if_pos ⟨by (try simp only [List.length_cons]); omega, hs⟩]; exact congrArg (q_back pc lo st) hc
theorem tt_callV4 {idx z ci b : Nat} {a1 a2 a3 a4 : Value} {fs : List Value} {v : Option Value} {σ' : qH} (hd : decode M.1 pc = .ok (.invokevirtual idx, 3)) (hp : M.2.2.2.2.2.2.1 idx = some (1, z, 4, ci)) (hs : q_sum st ≤ 8) (hb : σ.1 b = some (.inr (ci, fs))) (hc : rc z [.ref b, a1, a2, a3, a4] σ = some (.inl v, σ')) : q_step rc M (pc, lo, a4 :: a3 :: a2 :: a1 :: .ref b :: st, σ) = some (.inl (pc + 3, lo, v.toList ++ st, σ')) := by
  rw [q_step_of hd (Or.inl rfl)]; simp only [q_ex, hp, q_call, List.drop, hb]; rw [if_pos ⟨trivial, hs⟩]; exact congrArg (q_back pc lo st) hc
theorem tt_callI4 {idx z ci b : Nat} {a1 a2 a3 a4 : Value} {v : Option Value} {σ' : qH} (hd : decode M.1 pc = .ok (.invokespecial idx, 3)) (hp : M.2.2.2.2.2.2.1 idx = some (3, z, 4, ci)) (hs : q_sum st ≤ 8) (hc : rc z [.ref b, a1, a2, a3, a4] σ = some (.inl v, σ')) : q_step rc M (pc, lo, a4 :: a3 :: a2 :: a1 :: .ref b :: st, σ) = some (.inl (pc + 3, lo, v.toList ++ st, σ')) := by
  rw [q_step_of hd (Or.inl rfl)]; simp only [q_ex, hp, q_call, List.drop]; rw [if_pos hs]; exact congrArg (q_back pc lo st) hc
theorem tt_callS4 {idx z ci : Nat} {a1 a2 a3 a4 : Value} {v : Option Value} {σ' : qH} (hd : decode M.1 pc = .ok (.invokestatic idx, 3)) (hp : M.2.2.2.2.2.2.1 idx = some (2, z, 4, ci)) (hs : q_sum st ≤ 8) (hc : rc z [a1, a2, a3, a4] σ = some (.inl v, σ')) : q_step rc M (pc, lo, a4 :: a3 :: a2 :: a1 :: st, σ) = some (.inl (pc + 3, lo, v.toList ++ st, σ')) := by
  rw [q_step_of hd (Or.inl rfl)]; simp only [q_ex, hp, q_call]; rw [if_pos ⟨by (try simp only [List.length_cons]); omega, hs⟩]; exact congrArg (q_back pc lo st) hc
theorem tt_callV5 {idx z ci b : Nat} {a1 a2 a3 a4 a5 : Value} {fs : List Value} {v : Option Value} {σ' : qH} (hd : decode M.1 pc = .ok (.invokevirtual idx, 3)) (hp : M.2.2.2.2.2.2.1 idx = some (1, z, 5, ci)) (hs : q_sum st ≤ 8) (hb : σ.1 b = some (.inr (ci, fs))) (hc : rc z [.ref b, a1, a2, a3, a4, a5] σ = some (.inl v, σ')) : q_step rc M (pc, lo, a5 :: a4 :: a3 :: a2 :: a1 :: .ref b :: st, σ) = some (.inl (pc + 3, lo, v.toList ++ st, σ')) := by
  rw [q_step_of hd (Or.inl rfl)]; simp only [q_ex, hp, q_call, List.drop, hb]; rw [if_pos ⟨trivial, hs⟩]; exact congrArg (q_back pc lo st) hc
theorem tt_callI5 {idx z ci b : Nat} {a1 a2 a3 a4 a5 : Value} {v : Option Value} {σ' : qH} (hd : decode M.1 pc = .ok (.invokespecial idx, 3)) (hp : M.2.2.2.2.2.2.1 idx = some (3, z, 5, ci)) (hs : q_sum st ≤ 8) (hc : rc z [.ref b, a1, a2, a3, a4, a5] σ = some (.inl v, σ')) : q_step rc M (pc, lo, a5 :: a4 :: a3 :: a2 :: a1 :: .ref b :: st, σ) = some (.inl (pc + 3, lo, v.toList ++ st, σ')) := by
  rw [q_step_of hd (Or.inl rfl)]; simp only [q_ex, hp, q_call, List.drop]; rw [if_pos hs]; exact congrArg (q_back pc lo st) hc
theorem tt_callS5 {idx z ci : Nat} {a1 a2 a3 a4 a5 : Value} {v : Option Value} {σ' : qH} (hd : decode M.1 pc = .ok (.invokestatic idx, 3)) (hp : M.2.2.2.2.2.2.1 idx = some (2, z, 5, ci)) (hs : q_sum st ≤ 8) (hc : rc z [a1, a2, a3, a4, a5] σ = some (.inl v, σ')) : q_step rc M (pc, lo, a5 :: a4 :: a3 :: a2 :: a1 :: st, σ) = some (.inl (pc + 3, lo, v.toList ++ st, σ')) := by
  rw [q_step_of hd (Or.inl rfl)]; simp only [q_ex, hp, q_call]; rw [if_pos ⟨by (try simp only [List.length_cons]); omega, hs⟩]; exact congrArg (q_back pc lo st) hc
theorem tt_callV6 {idx z ci b : Nat} {a1 a2 a3 a4 a5 a6 : Value} {fs : List Value} {v : Option Value} {σ' : qH} (hd : decode M.1 pc = .ok (.invokevirtual idx, 3)) (hp : M.2.2.2.2.2.2.1 idx = some (1, z, 6, ci)) (hs : q_sum st ≤ 8) (hb : σ.1 b = some (.inr (ci, fs))) (hc : rc z [.ref b, a1, a2, a3, a4, a5, a6] σ = some (.inl v, σ')) : q_step rc M (pc, lo, a6 :: a5 :: a4 :: a3 :: a2 :: a1 :: .ref b :: st, σ) = some (.inl (pc + 3, lo, v.toList ++ st, σ')) := by
  rw [q_step_of hd (Or.inl rfl)]; simp only [q_ex, hp, q_call, List.drop, hb]; rw [if_pos ⟨trivial, hs⟩]; exact congrArg (q_back pc lo st) hc
theorem tt_callI6 {idx z ci b : Nat} {a1 a2 a3 a4 a5 a6 : Value} {v : Option Value} {σ' : qH} (hd : decode M.1 pc = .ok (.invokespecial idx, 3)) (hp : M.2.2.2.2.2.2.1 idx = some (3, z, 6, ci)) (hs : q_sum st ≤ 8) (hc : rc z [.ref b, a1, a2, a3, a4, a5, a6] σ = some (.inl v, σ')) : q_step rc M (pc, lo, a6 :: a5 :: a4 :: a3 :: a2 :: a1 :: .ref b :: st, σ) = some (.inl (pc + 3, lo, v.toList ++ st, σ')) := by
  rw [q_step_of hd (Or.inl rfl)]; simp only [q_ex, hp, q_call, List.drop]; rw [if_pos hs]; exact congrArg (q_back pc lo st) hc
theorem tt_callS6 {idx z ci : Nat} {a1 a2 a3 a4 a5 a6 : Value} {v : Option Value} {σ' : qH} (hd : decode M.1 pc = .ok (.invokestatic idx, 3)) (hp : M.2.2.2.2.2.2.1 idx = some (2, z, 6, ci)) (hs : q_sum st ≤ 8) (hc : rc z [a1, a2, a3, a4, a5, a6] σ = some (.inl v, σ')) : q_step rc M (pc, lo, a6 :: a5 :: a4 :: a3 :: a2 :: a1 :: st, σ) = some (.inl (pc + 3, lo, v.toList ++ st, σ')) := by
  rw [q_step_of hd (Or.inl rfl)]; simp only [q_ex, hp, q_call]; rw [if_pos ⟨by (try simp only [List.length_cons]); omega, hs⟩]; exact congrArg (q_back pc lo st) hc
theorem tt_callS7 {idx z ci : Nat} {a1 a2 a3 a4 a5 a6 a7 : Value} {v : Option Value} {σ' : qH} (hd : decode M.1 pc = .ok (.invokestatic idx, 3)) (hp : M.2.2.2.2.2.2.1 idx = some (2, z, 7, ci)) (hs : q_sum st ≤ 8) (hc : rc z [a1, a2, a3, a4, a5, a6, a7] σ = some (.inl v, σ')) : q_step rc M (pc, lo, a7 :: a6 :: a5 :: a4 :: a3 :: a2 :: a1 :: st, σ) = some (.inl (pc + 3, lo, v.toList ++ st, σ')) := by
  rw [q_step_of hd (Or.inl rfl)]; simp only [q_ex, hp, q_call]; rw [if_pos ⟨by (try simp only [List.length_cons]); omega, hs⟩]; exact congrArg (q_back pc lo st) hc
theorem tt_table {d a b off : Int} {os : Array Int} {n t : Nat} {x : Int32} (hd : decode M.1 pc = .ok (.tableswitch d a b os, n)) (ho : q_toff d a b os x.toInt = some off) (ht : (pc : Int) + off = (t : Int)) : q_step rc M (pc, lo, .int x :: st, σ) = some (.inl (t, lo, st, σ)) := by
  rw [q_step_of hd (Or.inr rfl)]
  have e9 : q_tg pc off = t := (by unfold q_tg; rw [ht]; rfl)
  simp only [q_ex, q_table, q_go, ho, e9, if_pos ht]
end QO
