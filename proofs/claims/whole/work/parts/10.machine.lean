/-! THE SMALL MACHINE: an interpreter of the bytecode over an abstract heap (cells by address, next address, cells made, slots made). What it answers, the machine does (part 12). -/
abbrev qE : Type := (Nat × vp_A) ⊕ (Nat × List Value)
abbrev qH : Type := (Nat → Option qE) × Nat × Nat × Nat
abbrev qL : Type := List (Option Value)
abbrev qS : Type := Nat × qL × List Value × qH
abbrev qO : Type := (Option Value ⊕ Nat) × qH
abbrev qN : Type := Option (qS ⊕ qO)
/-- kinds of arrays, by number -/
def q_kill (lo : qL) : Nat → qL
  | 0 => lo
  | j + 1 => match lo.getD j none with
    | some v => if v.category = 2 then lo.set j none else lo
    | none => lo
def q_st1 (lo : qL) (i : Nat) (v : Value) : qL := (q_kill lo i).set i (some v)
def q_st2 (lo : qL) (i : Nat) (v : Value) : qL := ((q_kill lo i).set i (some v)).set (i + 1) none
def q_up (h : Nat → Option qE) (a : Nat) (e : qE) : Nat → Option qE := fun b => if b = a then some e else h b
def q_go (pc : Nat) (lo : qL) (st : List Value) (σ : qH) : qN := some (.inl (pc, lo, st, σ))
def q_tg (pc : Nat) (off : Int) : Nat := ((pc : Int) + off).toNat
def q_br (P : Prop) [Decidable P] (pc : Nat) (off : Int) (lo : qL) (st : List Value) (σ : qH) : qN :=
  if (pc : Int) + off = (q_tg pc off : Int) then some (.inl (if P then q_tg pc off else pc + 3, lo, st, σ)) else none
def q_push (v : Value) (n pc : Nat) (lo : qL) (st : List Value) (σ : qH) : qN := q_go (pc + n) lo (v :: st) σ
def q_iload (i n pc : Nat) (lo : qL) (st : List Value) (σ : qH) : qN := match lo.getD i none with
  | some (.int x) => q_go (pc + n) lo (.int x :: st) σ
  | _ => none
def q_lload (i n pc : Nat) (lo : qL) (st : List Value) (σ : qH) : qN := match lo.getD i none with
  | some (.long x) => q_go (pc + n) lo (.long x :: st) σ
  | _ => none
def q_aload (i n pc : Nat) (lo : qL) (st : List Value) (σ : qH) : qN := match lo.getD i none with
  | some (.ref x) => q_go (pc + n) lo (.ref x :: st) σ
  | some .null => q_go (pc + n) lo (.null :: st) σ
  | _ => none
def q_istore (i n pc : Nat) (lo : qL) (st : List Value) (σ : qH) : qN := match st with
  | .int x :: r => if i < lo.length then q_go (pc + n) (q_st1 lo i (.int x)) r σ else none
  | _ => none
def q_lstore (i n pc : Nat) (lo : qL) (st : List Value) (σ : qH) : qN := match st with
  | .long x :: r => if i + 1 < lo.length then q_go (pc + n) (q_st2 lo i (.long x)) r σ else none
  | _ => none
def q_astore (i n pc : Nat) (lo : qL) (st : List Value) (σ : qH) : qN := match st with
  | .ref x :: r => if i < lo.length then q_go (pc + n) (q_st1 lo i (.ref x)) r σ else none
  | .null :: r => if i < lo.length then q_go (pc + n) (q_st1 lo i .null) r σ else none
  | _ => none
def q_iinc (i : Nat) (k : Int) (n pc : Nat) (lo : qL) (st : List Value) (σ : qH) : qN := match lo.getD i none with
  | some (.int x) => if i < lo.length then q_go (pc + n) (q_st1 lo i (.int (x + Int32.ofInt k))) st σ else none
  | _ => none
def q_i1 (f : Int32 → Value) (pc : Nat) (lo : qL) (st : List Value) (σ : qH) : qN := match st with
  | .int x :: r => q_go (pc + 1) lo (f x :: r) σ
  | _ => none
def q_l1 (f : Int64 → Value) (pc : Nat) (lo : qL) (st : List Value) (σ : qH) : qN := match st with
  | .long x :: r => q_go (pc + 1) lo (f x :: r) σ
  | _ => none
def q_i2 (f : Int32 → Int32 → Int32) (pc : Nat) (lo : qL) (st : List Value) (σ : qH) : qN := match st with
  | .int y :: .int x :: r => q_go (pc + 1) lo (.int (f x y) :: r) σ
  | _ => none
def q_d2 (f : Int32 → Int32 → Int32) (pc : Nat) (lo : qL) (st : List Value) (σ : qH) : qN := match st with
  | .int y :: .int x :: r => if y = 0 then none else q_go (pc + 1) lo (.int (f x y) :: r) σ
  | _ => none
def q_l2 (f : Int64 → Int64 → Value) (pc : Nat) (lo : qL) (st : List Value) (σ : qH) : qN := match st with
  | .long y :: .long x :: r => q_go (pc + 1) lo (f x y :: r) σ
  | _ => none
def q_ls (f : Int64 → Int32 → Int64) (pc : Nat) (lo : qL) (st : List Value) (σ : qH) : qN := match st with
  | .int y :: .long x :: r => q_go (pc + 1) lo (.long (f x y) :: r) σ
  | _ => none
def q_dup (pc : Nat) (lo : qL) (st : List Value) (σ : qH) : qN := match st with
  | a :: r => if a.category = 1 then q_go (pc + 1) lo (a :: a :: r) σ else none
  | _ => none
def q_pop (pc : Nat) (lo : qL) (st : List Value) (σ : qH) : qN := match st with
  | a :: r => if a.category = 1 then q_go (pc + 1) lo r σ else none
  | _ => none
def q_pop2 (pc : Nat) (lo : qL) (st : List Value) (σ : qH) : qN := match st with
  | .long _ :: r => q_go (pc + 1) lo r σ
  | _ => none
def q_dupx1 (pc : Nat) (lo : qL) (st : List Value) (σ : qH) : qN := match st with
  | a :: b :: r => if a.category = 1 ∧ b.category = 1 then q_go (pc + 1) lo (a :: b :: a :: r) σ else none
  | _ => none
def q_dupx2 (pc : Nat) (lo : qL) (st : List Value) (σ : qH) : qN := match st with
  | a :: b :: d :: r => if a.category = 1 ∧ b.category = 1 ∧ d.category = 1 then q_go (pc + 1) lo (a :: b :: d :: a :: r) σ else none
  | _ => none
def q_dup2 (pc : Nat) (lo : qL) (st : List Value) (σ : qH) : qN := match st with
  | .long a :: r => q_go (pc + 1) lo (.long a :: .long a :: r) σ
  | a :: b :: r => if a.category = 1 ∧ b.category = 1 then q_go (pc + 1) lo (a :: b :: a :: b :: r) σ else none
  | _ => none
def q_dup2x1 (pc : Nat) (lo : qL) (st : List Value) (σ : qH) : qN := match st with
  | .long a :: b :: r => if b.category = 1 then q_go (pc + 1) lo (.long a :: b :: .long a :: r) σ else none
  | _ => none
def q_if (cd : ClassFile.Cond) (off : Int) (pc : Nat) (lo : qL) (st : List Value) (σ : qH) : qN := match st with
  | .int x :: r => match cd with
    | .eq => q_br (x = 0) pc off lo r σ
    | .ne => q_br (¬ x = 0) pc off lo r σ
    | .lt => q_br (x < 0) pc off lo r σ
    | .ge => q_br (0 ≤ x) pc off lo r σ
    | .gt => q_br (0 < x) pc off lo r σ
    | .le => q_br (x ≤ 0) pc off lo r σ
  | _ => none
def q_icmp (cd : ClassFile.Cond) (off : Int) (pc : Nat) (lo : qL) (st : List Value) (σ : qH) : qN := match st with
  | .int y :: .int x :: r => match cd with
    | .eq => q_br (x = y) pc off lo r σ
    | .ne => q_br (¬ x = y) pc off lo r σ
    | .lt => q_br (x < y) pc off lo r σ
    | .ge => q_br (y ≤ x) pc off lo r σ
    | .gt => q_br (y < x) pc off lo r σ
    | .le => q_br (x ≤ y) pc off lo r σ
  | _ => none
def q_ifnull (off : Int) (pc : Nat) (lo : qL) (st : List Value) (σ : qH) : qN := match st with
  | .null :: r => if (pc : Int) + off = (q_tg pc off : Int) then q_go (q_tg pc off) lo r σ else none
  | .ref _ :: r => q_go (pc + 3) lo r σ
  | _ => none
def q_ifnonnull (off : Int) (pc : Nat) (lo : qL) (st : List Value) (σ : qH) : qN := match st with
  | .ref _ :: r => if (pc : Int) + off = (q_tg pc off : Int) then q_go (q_tg pc off) lo r σ else none
  | .null :: r => q_go (pc + 3) lo r σ
  | _ => none
def q_goto (off : Int) (pc : Nat) (lo : qL) (st : List Value) (σ : qH) : qN :=
  if (pc : Int) + off = (q_tg pc off : Int) then q_go (q_tg pc off) lo st σ else none
def q_lookup (dflt : Int) (ps : Array (Int × Int)) (pc : Nat) (lo : qL) (st : List Value) (σ : qH) : qN := match st with
  | .int x :: r => if (ps.toList.zip (ps.toList.drop 1)).all (fun (a, next) => a.1 < next.1) = true ∧ (pc : Int) + Op.lookupswitch.offset ps.toList dflt x.toInt = (q_tg pc (Op.lookupswitch.offset ps.toList dflt x.toInt) : Int)
      then q_go (q_tg pc (Op.lookupswitch.offset ps.toList dflt x.toInt)) lo r σ else none
  | _ => none
def q_toff (dflt low high : Int) (offs : Array Int) (x : Int) : Option Int := if x < low ∨ high < x then some dflt else offs[(x - low).toNat]?
def q_table (dflt low high : Int) (offs : Array Int) (pc : Nat) (lo : qL) (st : List Value) (σ : qH) : qN := match st with
  | .int x :: r => match q_toff dflt low high offs x.toInt with
    | some off => if (pc : Int) + off = (q_tg pc off : Int) then q_go (q_tg pc off) lo r σ else none
    | none => none
  | _ => none
def q_getf (f : Option (Nat × Nat × FieldType × Nat)) (pc : Nat) (lo : qL) (st : List Value) (σ : qH) : qN := match f, st with
  | some (ci, k, _, _), .ref a :: r => match σ.1 a with
    | some (.inr (cj, fs)) => if cj = ci then (match fs[k]? with
      | some v => q_go (pc + 3) lo (v :: r) σ
      | none => none) else none
    | _ => none
  | _, _ => none
def q_putf (f : Option (Nat × Nat × FieldType × Nat)) (ini : Bool) (pc : Nat) (lo : qL) (st : List Value) (σ : qH) : qN := match f, st with
  | some (ci, k, ty, fin), v :: .ref a :: r => match σ.1 a with
    | some (.inr (cj, fs)) => if cj = ci ∧ k < fs.length ∧ narrow ty v = v ∧ fits ty v = true ∧ (fin = 0 ∨ (fin = 1 ∧ ini = true)) then q_go (pc + 3) lo r (q_up σ.1 a (.inr (ci, fs.set k v)), σ.2) else none
    | _ => none
  | _, _ => none
def q_iald (kd pc : Nat) (lo : qL) (st : List Value) (σ : qH) : qN := match st with
  | .int i :: .ref a :: r => match σ.1 a with
    | some (.inl (k, n, .inl f)) => if k = kd ∧ ¬ (i < 0 ∨ n ≤ i.toNatClampNeg) then q_go (pc + 1) lo (.int (f i.toNatClampNeg) :: r) σ else none
    | _ => none
  | _ => none
def q_lald (pc : Nat) (lo : qL) (st : List Value) (σ : qH) : qN := match st with
  | .int i :: .ref a :: r => match σ.1 a with
    | some (.inl (k, n, .inr (.inl f))) => if k = 2 ∧ ¬ (i < 0 ∨ n ≤ i.toNatClampNeg) then q_go (pc + 1) lo (.long (f i.toNatClampNeg) :: r) σ else none
    | _ => none
  | _ => none
def q_iast (kd : Nat) (nr : Int32 → Int32) (pc : Nat) (lo : qL) (st : List Value) (σ : qH) : qN := match st with
  | .int x :: .int i :: .ref a :: r => match σ.1 a with
    | some (.inl (k, n, .inl f)) => if k = kd ∧ ¬ (i < 0 ∨ n ≤ i.toNatClampNeg) then q_go (pc + 1) lo r (q_up σ.1 a (.inl (k, n, .inl (upd f i.toNatClampNeg (nr x)))), σ.2) else none
    | _ => none
  | _ => none
def q_last (pc : Nat) (lo : qL) (st : List Value) (σ : qH) : qN := match st with
  | .long x :: .int i :: .ref a :: r => match σ.1 a with
    | some (.inl (k, n, .inr (.inl f))) => if k = 2 ∧ ¬ (i < 0 ∨ n ≤ i.toNatClampNeg) then q_go (pc + 1) lo r (q_up σ.1 a (.inl (k, n, .inr (.inl (vp_updL f i.toNatClampNeg x)))), σ.2) else none
    | _ => none
  | _ => none
def q_alen (pc : Nat) (lo : qL) (st : List Value) (σ : qH) : qN := match st with
  | .ref a :: r => match σ.1 a with
    | some (.inl (k, n, _)) => if k < 4 then q_go (pc + 1) lo (.int (Int32.ofNat n) :: r) σ else none
    | _ => none
  | _ => none

def q_new (kd by_ : Nat) (mk : Nat → vp_A) (pc : Nat) (lo : qL) (st : List Value) (σ : qH) : qN := match st with
  | .int n :: r => if n < 0 ∨ 536870912 < n.toNatClampNeg * by_ then none else
      q_go (pc + 2) lo (.ref σ.2.1 :: r) (q_up σ.1 σ.2.1 (.inl (kd, mk n.toNatClampNeg)), σ.2.1 + 1, σ.2.2.1 + 1, σ.2.2.2 + n.toNatClampNeg)
  | _ => none
def q_newA (t : ClassFile.ArrayType) (pc : Nat) (lo : qL) (st : List Value) (σ : qH) : qN := match t with
  | .int => q_new 0 4 (fun n => (n, .inl fun _ => 0)) pc lo st σ
  | .char => q_new 1 2 (fun n => (n, .inl fun _ => 0)) pc lo st σ
  | .long => q_new 2 8 (fun n => (n, .inr (.inl fun _ => 0))) pc lo st σ
  | .boolean => q_new 3 1 (fun n => (n, .inl fun _ => 0)) pc lo st σ
  | _ => none
/-- what a class's number says of 'new': its number and its fields as they are at first; or an exception's number -/
def q_newC (c : Option ((Nat × List Value) ⊕ Nat)) (pc : Nat) (lo : qL) (st : List Value) (σ : qH) : qN := match c with
  | some (.inl (ci, fs)) => q_go (pc + 3) lo (.ref σ.2.1 :: st) (q_up σ.1 σ.2.1 (.inr (ci, fs)), σ.2.1 + 1, σ.2.2.1 + 1, σ.2.2.2 + fs.length)
  | some (.inr x) => some (.inr (.inr x, (σ.1, σ.2.1 + 1, σ.2.2.1 + 1, σ.2.2.2 + 6)))
  | none => none
abbrev qC : Type := Nat → List Value → qH → Option qO
def q_sum (st : List Value) : Nat := (st.map fun v => v.category).sum
def q_back (pc : Nat) (lo : qL) (r : List Value) (o : Option qO) : qN := match o with
  | some (.inl v, σ') => q_go (pc + 3) lo (v.toList ++ r) σ'
  | _ => none
/-- calls by their kind: 0 Object(), 1 on an object whose class is ci, 2 static, 3 a constructor, 4 Math.max, 5 Math.min -/
def q_call (rc : qC) (k : Option (Nat × Nat × Nat × Nat)) (pc : Nat) (lo : qL) (st : List Value) (σ : qH) : qN := match k with
  | some (0, _, _, _) => match st with
    | .ref _ :: r => if q_sum r ≤ 8 then q_go (pc + 3) lo r σ else none
    | _ => none
  | some (1, z, n, ci) => match st.drop n with
    | .ref b :: r => match σ.1 b with
      | some (.inr (cj, _)) => if cj = ci ∧ q_sum r ≤ 8 then q_back pc lo r (rc z (.ref b :: (st.take n).reverse) σ) else none
      | _ => none
    | _ => none
  | some (2, z, n, _) => if n ≤ st.length ∧ q_sum (st.drop n) ≤ 8 then q_back pc lo (st.drop n) (rc z (st.take n).reverse σ) else none
  | some (3, z, n, _) => match st.drop n with
    | .ref b :: r => if q_sum r ≤ 8 then q_back pc lo r (rc z (.ref b :: (st.take n).reverse) σ) else none
    | _ => none
  | some (4, _, _, _) => match st with
    | .int y :: .int x :: r => if q_sum r ≤ 8 then q_go (pc + 3) lo (.int (if x < y then y else x) :: r) σ else none
    | _ => none
  | some (5, _, _, _) => match st with
    | .int y :: .int x :: r => if q_sum r ≤ 8 then q_go (pc + 3) lo (.int (if y < x then y else x) :: r) σ else none
    | _ => none
  | _ => none
def q_ireturn (ty : Option FieldType) (st : List Value) (σ : qH) : qN := match ty, st with
  | some t, [.int x] => if narrow t (.int x) = .int x then some (.inr (.inl (some (.int x)), σ)) else none
  | _, _ => none
def q_lreturn (ty : Option FieldType) (st : List Value) (σ : qH) : qN := match ty, st with
  | some .long, [.long x] => some (.inr (.inl (some (.long x)), σ))
  | _, _ => none
def q_isRefT : Option FieldType → Bool
  | some (.object _) => true
  | some (.array _) => true
  | _ => false
def q_areturn (ty : Option FieldType) (st : List Value) (σ : qH) : qN := if q_isRefT ty = true then (match st with
  | [.ref a] => some (.inr (.inl (some (.ref a)), σ))
  | [.null] => some (.inr (.inl (some .null), σ))
  | _ => none) else none
def q_vreturn (ty : Option FieldType) (st : List Value) (σ : qH) : qN := match ty, st with
  | none, [] => some (.inr (.inl none, σ))
  | _, _ => none
/-- how long an instruction is -/
def q_len : ClassFile.Instr → Nat
  | .aload _ => 2 | .astore _ => 2 | .iload _ => 2 | .istore _ => 2 | .lload _ => 2 | .lstore _ => 2
  | .bipush _ => 2 | .sipush _ => 3 | .ldc _ => 2 | .ldc2_w _ => 3 | .iinc _ _ => 3
  | .getfield _ => 3 | .putfield _ => 3 | .goto _ => 3 | .if_icmp _ _ => 3 | .ifCond _ _ => 3 | .if_acmp _ _ => 3 | .ifnull _ => 3 | .ifnonnull _ => 3
  | .invokespecial _ => 3 | .invokestatic _ => 3 | .invokevirtual _ => 3 | .new _ => 3 | .newarray _ => 2
  | _ => 1
def q_isSw : ClassFile.Instr → Bool
  | .lookupswitch _ _ => true
  | .tableswitch _ _ _ _ => true
  | _ => false

/-- a class's constant pool as the machine needs it: fields, classes, methods, ints, longs -/
abbrev qP : Type := (Nat → Option (Nat × Nat × FieldType × Nat)) × (Nat → Option ((Nat × List Value) ⊕ Nat)) × (Nat → Option (Nat × Nat × Nat × Nat)) × (Nat → Option Int32) × (Nat → Option Int64)
def q_ex (rc : qC) (P : qP) (ini : Bool) (rt : Option FieldType) (i : ClassFile.Instr) (pc : Nat) (lo : qL) (st : List Value) (σ : qH) : qN := match i with
  | .aconst_null => q_push .null 1 pc lo st σ
  | .aload i => q_aload i 2 pc lo st σ
  | .aload_n i => q_aload i.val 1 pc lo st σ
  | .areturn => q_areturn rt st σ
  | .arraylength => q_alen pc lo st σ
  | .astore i => q_astore i 2 pc lo st σ
  | .astore_n i => q_astore i.val 1 pc lo st σ
  | .baload => q_iald 3 pc lo st σ
  | .bastore => q_iast 3 (vp_nar .boolean) pc lo st σ
  | .bipush n => q_push (.int (Int8.ofInt n).toInt32) 2 pc lo st σ
  | .caload => q_iald 1 pc lo st σ
  | .castore => q_iast 1 (vp_nar .char) pc lo st σ
  | .dup => q_dup pc lo st σ
  | .dup_x1 => q_dupx1 pc lo st σ
  | .dup_x2 => q_dupx2 pc lo st σ
  | .dup2 => q_dup2 pc lo st σ
  | .dup2_x1 => q_dup2x1 pc lo st σ
  | .getfield k => q_getf (P.1 k) pc lo st σ
  | .goto off => q_goto off pc lo st σ
  | .i2c => q_i1 (fun x => .int (x.toUInt32 % 65536).toInt32) pc lo st σ
  | .i2l => q_i1 (fun x => .long x.toInt64) pc lo st σ
  | .iadd => q_i2 (fun x y => x + y) pc lo st σ
  | .iaload => q_iald 0 pc lo st σ
  | .iand => q_i2 (fun x y => x &&& y) pc lo st σ
  | .iastore => q_iast 0 (fun x => x) pc lo st σ
  | .iconst n => q_push (.int (Int32.ofInt n)) 1 pc lo st σ
  | .idiv => q_d2 (fun x y => x / y) pc lo st σ
  | .if_icmp cd off => q_icmp cd off pc lo st σ
  | .ifCond cd off => q_if cd off pc lo st σ
  | .ifnonnull off => q_ifnonnull off pc lo st σ
  | .ifnull off => q_ifnull off pc lo st σ
  | .iinc i k => q_iinc i k 3 pc lo st σ
  | .iload i => q_iload i 2 pc lo st σ
  | .iload_n i => q_iload i.val 1 pc lo st σ
  | .imul => q_i2 (fun x y => x * y) pc lo st σ
  | .ineg => q_i1 (fun x => .int (-x)) pc lo st σ
  | .invokespecial k => (match P.2.2.1 k with
    | some (0, z) => q_call rc (some (0, z)) pc lo st σ
    | some (3, z) => q_call rc (some (3, z)) pc lo st σ
    | _ => none)
  | .invokestatic k => (match P.2.2.1 k with
    | some (2, z) => q_call rc (some (2, z)) pc lo st σ
    | some (4, z) => q_call rc (some (4, z)) pc lo st σ
    | some (5, z) => q_call rc (some (5, z)) pc lo st σ
    | _ => none)
  | .invokevirtual k => (match P.2.2.1 k with
    | some (1, z) => q_call rc (some (1, z)) pc lo st σ
    | _ => none)
  | .ior => q_i2 (fun x y => x ||| y) pc lo st σ
  | .irem => q_d2 (fun x y => x - x / y * y) pc lo st σ
  | .ireturn => q_ireturn rt st σ
  | .ishl => q_i2 (fun x y => x <<< (y &&& 31)) pc lo st σ
  | .ishr => q_i2 (fun x y => x >>> (y &&& 31)) pc lo st σ
  | .istore i => q_istore i 2 pc lo st σ
  | .istore_n i => q_istore i.val 1 pc lo st σ
  | .isub => q_i2 (fun x y => x - y) pc lo st σ
  | .iushr => q_i2 (fun x y => (x.toUInt32 >>> (y.toUInt32 &&& Int32.toUInt32 31)).toInt32) pc lo st σ
  | .ixor => q_i2 (fun x y => x ^^^ y) pc lo st σ
  | .l2i => q_l1 (fun x => .int x.toInt32) pc lo st σ
  | .ladd => q_l2 (fun x y => .long (x + y)) pc lo st σ
  | .laload => q_lald pc lo st σ
  | .land => q_l2 (fun x y => .long (x &&& y)) pc lo st σ
  | .lastore => q_last pc lo st σ
  | .lcmp => q_l2 (fun x y => .int (lg_cmp x y)) pc lo st σ
  | .lconst n => q_push (.long (Int64.ofNat (n : Nat))) 1 pc lo st σ
  | .ldc k => (match P.2.2.2.1 k with
    | some v => q_push (.int v) 2 pc lo st σ
    | none => none)
  | .ldc2_w k => (match P.2.2.2.2 k with
    | some v => q_push (.long v) 3 pc lo st σ
    | none => none)
  | .lload i => q_lload i 2 pc lo st σ
  | .lload_n i => q_lload i.val 1 pc lo st σ
  | .lmul => q_l2 (fun x y => .long (x * y)) pc lo st σ
  | .lookupswitch d ps => q_lookup d ps pc lo st σ
  | .lor => q_l2 (fun x y => .long (x ||| y)) pc lo st σ
  | .lreturn => q_lreturn rt st σ
  | .lshl => q_ls (fun x y => x <<< (y.toInt64 &&& 63)) pc lo st σ
  | .lshr => q_ls (fun x y => x >>> (y.toInt64 &&& 63)) pc lo st σ
  | .lstore i => q_lstore i 2 pc lo st σ
  | .lstore_n i => q_lstore i.val 1 pc lo st σ
  | .lsub => q_l2 (fun x y => .long (x - y)) pc lo st σ
  | .lushr => q_ls (fun x y => (x.toUInt64 >>> (y.toInt64.toUInt64 &&& Int64.toUInt64 63)).toInt64) pc lo st σ
  | .lxor => q_l2 (fun x y => .long (x ^^^ y)) pc lo st σ
  | .new k => q_newC (P.2.1 k) pc lo st σ
  | .newarray t => q_newA t pc lo st σ
  | .pop => q_pop pc lo st σ
  | .pop2 => q_pop2 pc lo st σ
  | .putfield k => q_putf (P.1 k) ini pc lo st σ
  | .return_ => q_vreturn rt st σ
  | .sipush n => q_push (.int (Int16.ofInt n).toInt32) 3 pc lo st σ
  | .tableswitch d a b os => q_table d a b os pc lo st σ
  | _ => none
/-- a method as the machine needs it: code, locals, answer, whether it is a constructor, its class's pool -/
abbrev qM : Type := ByteArray × Nat × Option FieldType × Bool × qP
def q_ins (cc : ByteArray) (pc : Nat) : Option ClassFile.Instr := match decode cc pc with
  | .ok (i, n) => if n = q_len i ∨ q_isSw i = true then some i else none
  | _ => none
def q_step (rc : qC) (M : qM) (x : qS) : qN := match q_ins M.1 x.1 with
  | some i => q_ex rc M.2.2.2.2 M.2.2.2.1 M.2.2.1 i x.1 x.2.1 x.2.2.1 x.2.2.2
  | none => none
def q_run (rc : qC) (M : qM) : Nat → qS → Option qO
  | 0, _ => none
  | n + 1, x => match q_step rc M x with
    | some (.inl x') => q_run rc M n x'
    | some (.inr o) => some o
    | none => none
theorem q_run_up {rc : qC} {M : qM} : ∀ (n : Nat) (x : qS) (o : qO), q_run rc M n x = some o → ∀ k, q_run rc M (n + k) x = some o := by
  intro n
  induction n with
  | zero => intro x o h; cases h
  | succ n ih =>
    intro x o h k
    rw [show n + 1 + k = (n + k) + 1 by omega]
    simp only [q_run] at h ⊢
    cases hs : q_step rc M x with
    | none => rw [hs] at h; cases h
    | some r =>
      rw [hs] at h
      cases r with
      | inl x' => exact ih x' o h k
      | inr o' => exact h
theorem q_run_det {rc : qC} {M : qM} {n k : Nat} {x : qS} {o o' : qO} (h : q_run rc M n x = some o) (h' : q_run rc M k x = some o') : o = o' := by
  have h1 := q_run_up n x o h k
  have h2 := q_run_up k x o' h' n
  rw [Nat.add_comm k n] at h2
  exact Option.some.inj (h1.symm.trans h2)
/-- what a run comes to, however long it is -/
noncomputable def q_out (rc : qC) (M : qM) (x : qS) : Option qO := @dite _ (∃ (o : qO), ∃ (n : Nat), q_run rc M n x = some o) (Classical.propDecidable _) (fun h => some (Classical.choose h)) (fun _ => none)
theorem q_out_iff {rc : qC} {M : qM} {x : qS} {o : qO} : q_out rc M x = some o ↔ ∃ n, q_run rc M n x = some o := by
  unfold q_out
  constructor
  · intro h
    split at h
    · rename_i hx
      cases h
      exact Classical.choose_spec hx
    · cases h
  · intro h
    have hx : ∃ (o : qO), ∃ (n : Nat), q_run rc M n x = some o := ⟨o, h⟩
    rw [dif_pos hx]
    obtain ⟨n, hn⟩ := Classical.choose_spec hx
    obtain ⟨k, hk⟩ := h
    rw [q_run_det hn hk]
theorem q_out_go {rc : qC} {M : qM} {x x' : qS} (h : q_step rc M x = some (.inl x')) : q_out rc M x = q_out rc M x' := by
  apply Option.ext
  intro o
  rw [q_out_iff, q_out_iff]
  constructor
  · rintro ⟨n, hn⟩
    cases n with
    | zero => cases hn
    | succ n => exact ⟨n, by simpa only [q_run, h] using hn⟩
  · rintro ⟨n, hn⟩
    exact ⟨n + 1, by simpa only [q_run, h] using hn⟩
theorem q_out_end {rc : qC} {M : qM} {x : qS} {o : qO} (h : q_step rc M x = some (.inr o)) : q_out rc M x = some o :=
  q_out_iff.mpr ⟨1, by simp only [q_run, h]⟩
theorem q_step_of {rc : qC} {M : qM} {pc : Nat} {i : ClassFile.Instr} {n : Nat} {lo : qL} {st : List Value} {σ : qH} (hd : decode M.1 pc = .ok (i, n)) (hn : n = q_len i ∨ q_isSw i = true) : q_step rc M (pc, lo, st, σ) = q_ex rc M.2.2.2.2 M.2.2.2.1 M.2.2.1 i pc lo st σ := by
  simp only [q_step, q_ins, hd, if_pos hn]
/-- arguments as locals -/
def q_args : List Value → qL
  | [] => []
  | v :: vs => if v.category = 2 then some v :: none :: q_args vs else some v :: q_args vs
def q_entry (n : Nat) (as : List Value) : qL := q_args as ++ List.replicate (n - (q_args as).length) none
/-- a call, d calls deep at most -/
noncomputable def q_ev (Mt : Nat → Option qM) : Nat → qC
  | 0 => fun _ _ _ => none
  | d + 1 => fun y as σ => match Mt y with
    | some M => if (q_args as).length ≤ M.2.1 then q_out (q_ev Mt d) M (0, q_entry M.2.1 as, [], σ) else none
    | none => none
