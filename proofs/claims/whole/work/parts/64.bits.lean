/-! BITS of sets -/
def jb (x : Int64) (r : Nat) : Bool := x.toBitVec.getLsbD r
def ib (x : Int32) (r : Nat) : Bool := x.toBitVec.getLsbD r
theorem b_sl : ∀ n, n < 32 → ((nI n &&& nI 31).toBitVec.smod 32).toNat = n := by decide +kernel
theorem b_jl : ∀ k, k < 64 → (((nI k).toInt64 &&& 63).toBitVec.smod 64).toNat = k := by decide +kernel
theorem b_m64 : ∀ q, q < 64 → (-1 : Int64).toBitVec.getLsbD q = true := by decide +kernel
theorem b_m32 : ∀ q, q < 32 → nN.toBitVec.getLsbD q = true := by decide +kernel
theorem n_rem32 (c : Nat) : nI c - nI (c / 32 * 32) = nI (c % 32) := by
  rw [pk_sub (by omega)]
  congr 1
  omega
theorem b_c6 {c : Nat} (h : c < 2 ^ 31) : nI c >>> (nI 6 &&& nI 31) = nI (c / 64) := pk_shrN h _ 6 (by decide)
theorem b_c63 {c : Nat} (h : c < 2 ^ 31) : nI c &&& nI 63 = nI (c % 64) := pk_andN (Nat.lt_trans h (by decide)) 6 (by decide)
theorem b_cmp {x : Int64} : lg_cmp x 0 = nI 0 ↔ x = 0 := by
  unfold lg_cmp
  constructor
  · intro h
    split at h
    · exact absurd h (by decide)
    · split at h
      · assumption
      · exact absurd h (by decide)
  · intro h
    subst h
    rw [if_neg (by decide), if_pos rfl]
    rfl
theorem jb_get {y : Int64} {r : Nat} (hr : r < 64) : (y >>> ((nI r).toInt64 &&& 63)) &&& (1 : Int64) = 0 ↔ jb y r = false := by
  have e : (y >>> ((nI r).toInt64 &&& 63)).toBitVec = y.toBitVec.sshiftRight r := by
    rw [Int64.toBitVec_shiftRight]
    show y.toBitVec.sshiftRight (((nI r).toInt64 &&& 63).toBitVec.smod 64).toNat = _
    rw [b_jl r hr]
  rw [← Int64.toBitVec_inj, Int64.toBitVec_and, e]
  show y.toBitVec.sshiftRight r &&& 1#64 = 0#64 ↔ _
  have e0 : (y.toBitVec.sshiftRight r).getLsbD 0 = y.toBitVec.getLsbD r := by
    rw [BitVec.getLsbD_sshiftRight]
    simp [hr]
  unfold jb
  constructor
  · intro h
    have t := congrArg (fun x => x.getLsbD 0) h
    rw [← e0]
    simpa using t
  · intro h
    rw [← e0] at h
    apply BitVec.eq_of_getLsbD_eq
    intro i hi
    cases i with
    | zero => rw [BitVec.getLsbD_and, h]; simp
    | succ i => simp
theorem jb_or {y : Int64} {r q : Nat} (hr : r < 64) (hq : q < 64) : jb (y ||| ((1 : Int64) <<< ((nI r).toInt64 &&& 63))) q = (jb y q || q == r) := by
  unfold jb
  rw [Int64.toBitVec_or, BitVec.getLsbD_or, Int64.toBitVec_shiftLeft]
  show (_ || ((1 : Int64).toBitVec <<< (((nI r).toInt64 &&& 63).toBitVec.smod 64).toNat).getLsbD q) = _
  rw [b_jl r hr, BitVec.getLsbD_shiftLeft]
  congr 1
  show (decide (q < 64) && !decide (q < r) && (1#64).getLsbD (q - r)) = _
  by_cases h : q = r
  · subst h
    simp [hq]
  · rcases Nat.lt_or_ge q r with h1 | h1
    · simp [h1, h]
    · have : q - r ≠ 0 := by omega
      simp [h, this]
theorem jb_not {y : Int64} {q : Nat} (hq : q < 64) : jb (y ^^^ (-1 : Int64)) q = !jb y q := by
  unfold jb
  rw [Int64.toBitVec_xor, BitVec.getLsbD_xor]
  rw [b_m64 q hq, Bool.xor_true]
theorem jb_0 (q : Nat) : jb 0 q = false := by
  show (0#64).getLsbD q = false
  simp
theorem ib_get {y : Int32} {r : Nat} (hr : r < 32) : (y >>> (nI r &&& nI 31)) &&& nI 1 = nI 1 ↔ ib y r = true := by
  have e : (y >>> (nI r &&& nI 31)).toBitVec = y.toBitVec.sshiftRight r := by
    rw [Int32.toBitVec_shiftRight]
    show y.toBitVec.sshiftRight ((nI r &&& nI 31).toBitVec.smod 32).toNat = _
    rw [b_sl r hr]
  rw [← Int32.toBitVec_inj, Int32.toBitVec_and, e]
  show y.toBitVec.sshiftRight r &&& 1#32 = 1#32 ↔ _
  have e0 : (y.toBitVec.sshiftRight r).getLsbD 0 = y.toBitVec.getLsbD r := by
    rw [BitVec.getLsbD_sshiftRight]
    simp [hr]
  unfold ib
  constructor
  · intro h
    have t := congrArg (fun x => x.getLsbD 0) h
    rw [← e0]
    simpa using t
  · intro h
    rw [← e0] at h
    apply BitVec.eq_of_getLsbD_eq
    intro i hi
    cases i with
    | zero => rw [BitVec.getLsbD_and, h]; simp
    | succ i => simp
theorem ib_or {y : Int32} {r q : Nat} (hr : r < 32) (hq : q < 32) : ib (y ||| (nI 1 <<< (nI r &&& nI 31))) q = (ib y q || q == r) := by
  unfold ib
  rw [Int32.toBitVec_or, BitVec.getLsbD_or, Int32.toBitVec_shiftLeft]
  show (_ || ((nI 1).toBitVec <<< ((nI r &&& nI 31).toBitVec.smod 32).toNat).getLsbD q) = _
  rw [b_sl r hr, BitVec.getLsbD_shiftLeft]
  congr 1
  show (decide (q < 32) && !decide (q < r) && (1#32).getLsbD (q - r)) = _
  by_cases h : q = r
  · subst h
    simp [hq]
  · rcases Nat.lt_or_ge q r with h1 | h1
    · simp [h1, h]
    · have : q - r ≠ 0 := by omega
      simp [h, this]
theorem ib_not {y : Int32} {q : Nat} (hq : q < 32) : ib (y ^^^ nN) q = !ib y q := by
  unfold ib
  rw [Int32.toBitVec_xor, BitVec.getLsbD_xor]
  rw [b_m32 q hq, Bool.xor_true]
theorem ib_0 (q : Nat) : ib (nI 0) q = false := by
  show (0#32).getLsbD q = false
  simp
/-- the sets of the class, the sets of the reference -/
def cB (g : Nat → Int64) (s c : Nat) : Bool := jb (g (s * 4 + c / 64)) (c % 64)
def mB (g : Nat → Int32) (s c : Nat) : Bool := ib (g (8 * s + c / 32)) (c % 32)
theorem e_isOpen {S : qSt} {o s u : Nat} {Q : Int32 → qSt → Prop} (hu : S.1 41 = nI u) (h1 : u ≤ 48) (hs : s < u) (q : Q (nI 1) S) : okS (f_Cs_isOpen o (nI s)) S Q := by
  unfold f_Cs_isOpen
  simp (disch := omega) only [n_lit, n_m1, ok_S, ok_s, ok_N, ok_n, ↓ok_if, ok_A, ok_a, ok_L, ok_l, ok_zn0, ok_zn1, ok_f2, ok_pure, ok_rI, ok_bn0, ok_bn1, ok_rt, ok_riI, ok_rn0, ok_rn1, ok_go, nx_l, nx_r, sS_s, sS_n, sS_a, sS_l, sS_k, aS_s, aS_n, aS_1, aS_l, aS_k, lS_l, lS_1, lS_a, lS_k, nS_s, nS_n, nS_1, nS_a, nS_l, updS, updN, nI_eq, nI_leI, nI_ltI, nI_add, pk_mul, nN_e, nN_e', nN_l, nN_g, nN_le, nN_ge, ite_not, if_true, if_false, not_true_eq_false, not_false_eq_true, Nat.not_lt_zero, Nat.reduceEqDiff, Nat.reduceLT, Nat.reduceLeDiff, Nat.reduceAdd, Nat.zero_le, ite_self, reduceCtorEq, if_pos, if_neg, hu]
  exact q
theorem e_cHas {S : qSt} {o s u c : Nat} {Q : Int32 → qSt → Prop} (hu : S.1 41 = nI u) (h1 : u ≤ 48) (hs : s < u) (hc : c < 256) (q : Q (bI (cB S.2.2.1 s c)) S) : okS (f_Cs_has o (nI s) (nI c)) S Q := by
  unfold f_Cs_has
  refine ok_C (e_isOpen hu h1 hs ?_)
  simp (disch := omega) only [n_lit, n_m1, ok_S, ok_s, ok_N, ok_n, ↓ok_if, ok_A, ok_a, ok_L, ok_l, ok_zn0, ok_zn1, ok_f2, ok_pure, ok_rI, ok_bn0, ok_bn1, ok_rt, ok_riI, ok_rn0, ok_rn1, ok_go, nx_l, nx_r, sS_s, sS_n, sS_a, sS_l, sS_k, aS_s, aS_n, aS_1, aS_l, aS_k, lS_l, lS_1, lS_a, lS_k, nS_s, nS_n, nS_1, nS_a, nS_l, updS, updN, nI_eq, nI_leI, nI_ltI, nI_add, pk_mul, nN_e, nN_e', nN_l, nN_g, nN_le, nN_ge, ite_not, if_true, if_false, not_true_eq_false, not_false_eq_true, Nat.not_lt_zero, Nat.reduceEqDiff, Nat.reduceLT, Nat.reduceLeDiff, Nat.reduceAdd, Nat.zero_le, ite_self, reduceCtorEq, if_pos, if_neg, b_c6, b_c63]
  by_cases hb : jb (S.2.2.1 (s * 4 + c / 64)) (c % 64) = true
  · have hz : ¬ lg_cmp ((S.2.2.1 (s * 4 + c / 64) >>> ((nI (c % 64)).toInt64 &&& 63)) &&& (1 : Int64)) 0 = nI 0 := by
      rw [b_cmp, jb_get (by omega), hb]
      exact Bool.noConfusion
    rw [if_neg hz]
    have : cB S.2.2.1 s c = true := hb
    rw [this] at q
    exact q
  · have hb' : jb (S.2.2.1 (s * 4 + c / 64)) (c % 64) = false := by simpa using hb
    have hz : lg_cmp ((S.2.2.1 (s * 4 + c / 64) >>> ((nI (c % 64)).toInt64 &&& 63)) &&& (1 : Int64)) 0 = nI 0 := by
      rw [b_cmp, jb_get (by omega), hb']
    rw [if_pos hz]
    have : cB S.2.2.1 s c = false := hb'
    rw [this] at q
    exact q
theorem e_mHas {S : qSt} {s c : Nat} {Q : Int32 → qSt → Prop} (hs : s < 50) (hc : c < 256) (q : Q (bI (mB (S.2.1 14) s c)) S) : okS (f_Md_has (nI s) (nI c)) S Q := by
  unfold f_Md_has
  simp (disch := omega) only [n_lit, n_m1, ok_S, ok_s, ok_N, ok_n, ↓ok_if, ok_A, ok_a, ok_L, ok_l, ok_zn0, ok_zn1, ok_f2, ok_pure, ok_rI, ok_bn0, ok_bn1, ok_rt, ok_riI, ok_rn0, ok_rn1, ok_go, nx_l, nx_r, sS_s, sS_n, sS_a, sS_l, sS_k, aS_s, aS_n, aS_1, aS_l, aS_k, lS_l, lS_1, lS_a, lS_k, nS_s, nS_n, nS_1, nS_a, nS_l, updS, updN, nI_eq, nI_leI, nI_ltI, nI_add, pk_mul, nN_e, nN_e', nN_l, nN_g, nN_le, nN_ge, ite_not, if_true, if_false, not_true_eq_false, not_false_eq_true, Nat.not_lt_zero, Nat.reduceEqDiff, Nat.reduceLT, Nat.reduceLeDiff, Nat.reduceAdd, Nat.zero_le, ite_self, reduceCtorEq, if_pos, if_neg, n_rem32, pk_div]
  by_cases hb : ib (S.2.1 14 (8 * s + c / 32)) (c % 32) = true
  · rw [if_pos ((ib_get (by omega)).mpr hb)]
    have : mB (S.2.1 14) s c = true := hb
    rw [this] at q
    exact q
  · rw [if_neg (fun k => hb ((ib_get (by omega)).mp k))]
    have : mB (S.2.1 14) s c = false := Bool.eq_false_iff.mpr hb
    rw [this] at q
    exact q
