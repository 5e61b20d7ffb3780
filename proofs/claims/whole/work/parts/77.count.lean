/-! HOW MANY characters a set has -/
def bc1 (x : Int64) : Int64 := x - (((x.toUInt64 >>> ((1 : Int32).toInt64.toUInt64 &&& Int64.toUInt64 63)).toInt64) &&& (6148914691236517205 : Int64))
def bc2 (x : Int64) : Int64 := (x &&& (3689348814741910323 : Int64)) + (((x.toUInt64 >>> ((2 : Int32).toInt64.toUInt64 &&& Int64.toUInt64 63)).toInt64) &&& (3689348814741910323 : Int64))
def bc3 (x : Int64) : Int64 := (x + ((x.toUInt64 >>> ((4 : Int32).toInt64.toUInt64 &&& Int64.toUInt64 63)).toInt64)) &&& (1085102592571150095 : Int64)
def bc4 (x : Int64) : Int64 := x + ((x.toUInt64 >>> ((8 : Int32).toInt64.toUInt64 &&& Int64.toUInt64 63)).toInt64)
def bc5 (x : Int64) : Int64 := x + ((x.toUInt64 >>> ((16 : Int32).toInt64.toUInt64 &&& Int64.toUInt64 63)).toInt64)
def bc6 (x : Int64) : Int64 := x + ((x.toUInt64 >>> ((32 : Int32).toInt64.toUInt64 &&& Int64.toUInt64 63)).toInt64)
set_option maxRecDepth 100000 in
theorem bc_eq (o : Nat) (a : Int64) : f_Lo_bitCount o a = w_ret .int ((bc6 (bc5 (bc4 (bc3 (bc2 (bc1 a)))))).toInt32 &&& 127) := rfl
def vN (x : Int64) : Nat := x.toBitVec.toNat
theorem vN_lt (x : Int64) : vN x < 18446744073709551616 := x.toBitVec.isLt
theorem vN_add (x y : Int64) : vN (x + y) = (vN x + vN y) % 18446744073709551616 := by
  unfold vN
  rw [Int64.toBitVec_add, BitVec.toNat_add]
theorem vN_sub (x y : Int64) (h : vN y ≤ vN x) : vN (x - y) = vN x - vN y := by
  have h1 := vN_lt x
  have h2 := vN_lt y
  unfold vN at *
  rw [Int64.toBitVec_sub, BitVec.toNat_sub]
  omega
theorem vN_and (x y : Int64) : vN (x &&& y) = vN x &&& vN y := by
  unfold vN
  rw [Int64.toBitVec_and, BitVec.toNat_and]
theorem vN_shr (x : Int64) (s : UInt64) (k : Nat) (hs : s.toNat % 64 = k) : vN (x.toUInt64 >>> s).toInt64 = vN x / 2 ^ k := by
  show (x.toUInt64 >>> s).toNat = _
  rw [UInt64.toNat_shiftRight, hs, Nat.shiftRight_eq_div_pow]
  rfl
def val8 : List Nat → Nat
  | [] => 0
  | b :: l => b + 256 * val8 l
def okD (l : List Nat) : Prop := ∀ b ∈ l, b < 256
theorem land8 {b m X Y : Nat} (hb : b < 256) (hm : m < 256) : (b + 256 * X) &&& (m + 256 * Y) = (b &&& m) + 256 * (X &&& Y) := by
  have e1 : ((b + 256 * X) &&& (m + 256 * Y)) % 2 ^ 8 = b &&& m := by
    rw [Nat.and_mod_two_pow]
    have h1 : (b + 256 * X) % 2 ^ 8 = b := by omega
    have h2 : (m + 256 * Y) % 2 ^ 8 = m := by omega
    rw [h1, h2]
  have e2 : ((b + 256 * X) &&& (m + 256 * Y)) / 2 ^ 8 = X &&& Y := by
    rw [← Nat.shiftRight_eq_div_pow, Nat.shiftRight_and_distrib, Nat.shiftRight_eq_div_pow, Nat.shiftRight_eq_div_pow]
    have h1 : (b + 256 * X) / 2 ^ 8 = X := by omega
    have h2 : (m + 256 * Y) / 2 ^ 8 = Y := by omega
    rw [h1, h2]
  have := Nat.div_add_mod ((b + 256 * X) &&& (m + 256 * Y)) (2 ^ 8)
  rw [e1, e2] at this
  omega
theorem val8_and (m : Nat) (hm : m < 256) : ∀ l, okD l → val8 l &&& val8 (l.map (fun _ => m)) = val8 (l.map (fun b => b &&& m)) := by
  intro l
  induction l with
  | nil => intro _; exact Nat.zero_and _
  | cons b l ih =>
    intro h
    show (b + 256 * val8 l) &&& (m + 256 * val8 (l.map (fun _ => m))) = (b &&& m) + 256 * val8 (l.map (fun b => b &&& m))
    rw [land8 (h b (List.mem_cons_self ..)) hm, ih (fun a ha => h a (List.mem_cons_of_mem _ ha))]
def nx8 : List Nat → Nat
  | [] => 0
  | c :: _ => c
def shr8 (k j : Nat) : List Nat → List Nat
  | [] => []
  | b :: l => (b / k + j * (nx8 l % k)) :: shr8 k j l
theorem nx8_mod (k j : Nat) (h : k * j = 256) (l : List Nat) : val8 l % k = nx8 l % k := by
  cases l with
  | nil => rfl
  | cons c l =>
    show (c + 256 * val8 l) % k = c % k
    rw [← h, Nat.mul_assoc, Nat.add_mul_mod_self_left]
theorem val8_shr2 : ∀ l, val8 (shr8 2 128 l) = val8 l / 2 := by
  intro l
  induction l with
  | nil => rfl
  | cons b l ih =>
    show b / 2 + 128 * (nx8 l % 2) + 256 * val8 (shr8 2 128 l) = (b + 256 * val8 l) / 2
    rw [ih, ← nx8_mod 2 128 rfl l]
    omega
theorem val8_shr4 : ∀ l, val8 (shr8 4 64 l) = val8 l / 4 := by
  intro l
  induction l with
  | nil => rfl
  | cons b l ih =>
    show b / 4 + 64 * (nx8 l % 4) + 256 * val8 (shr8 4 64 l) = (b + 256 * val8 l) / 4
    rw [ih, ← nx8_mod 4 64 rfl l]
    omega
theorem val8_shr16 : ∀ l, val8 (shr8 16 16 l) = val8 l / 16 := by
  intro l
  induction l with
  | nil => rfl
  | cons b l ih =>
    show b / 16 + 16 * (nx8 l % 16) + 256 * val8 (shr8 16 16 l) = (b + 256 * val8 l) / 16
    rw [ih, ← nx8_mod 16 16 rfl l]
    omega
theorem by1a : ∀ b, b < 256 → ∀ r, r < 2 → (b / 2 + 128 * r) &&& 85 = (b / 2) &&& 85 := by decide +kernel
theorem by1b : ∀ b, b < 256 → ((b / 2) &&& 85) ≤ b := by decide +kernel
theorem by2a : ∀ b, b < 256 → ∀ r, r < 4 → (b / 4 + 64 * r) &&& 51 = (b / 4) &&& 51 := by decide +kernel
def fb1 (b : Nat) : Nat := b - ((b / 2) &&& 85)
def fb2 (b : Nat) : Nat := (fb1 b &&& 51) + ((fb1 b / 4) &&& 51)
def fb3 (b : Nat) : Nat := (fb2 b + fb2 b / 16) % 16
theorem by1c : ∀ b, b < 256 → fb1 b < 256 := by decide +kernel
theorem by2b : ∀ b, b < 256 → fb2 b < 69 ∧ fb2 b % 16 < 5 := by decide +kernel
theorem by3a : ∀ z, z < 69 → ∀ r, r < 5 → (z + z / 16 + 16 * r) &&& 15 = (z + z / 16) % 16 := by decide +kernel
theorem by3b : ∀ b, b < 256 → fb3 b = unv (fun r => !b.testBit r) 8 ∧ fb3 b ≤ 8 := by decide +kernel
theorem val8_sub {f g : Nat → Nat} : ∀ l : List Nat, (∀ b ∈ l, g b ≤ f b) → val8 (l.map g) ≤ val8 (l.map f) ∧ val8 (l.map f) - val8 (l.map g) = val8 (l.map (fun b => f b - g b)) := by
  intro l
  induction l with
  | nil => intro _; exact ⟨Nat.le_refl _, rfl⟩
  | cons b l ih =>
    intro h
    obtain ⟨h1, h2⟩ := ih (fun a ha => h a (List.mem_cons_of_mem _ ha))
    have h3 := h b (List.mem_cons_self ..)
    refine ⟨?_, ?_⟩
    · show g b + 256 * val8 (l.map g) ≤ f b + 256 * val8 (l.map f)
      omega
    · show f b + 256 * val8 (l.map f) - (g b + 256 * val8 (l.map g)) = (f b - g b) + 256 * val8 (l.map (fun b => f b - g b))
      rw [← h2]
      omega
theorem val8_add {f g : Nat → Nat} : ∀ l : List Nat, val8 (l.map f) + val8 (l.map g) = val8 (l.map (fun b => f b + g b)) := by
  intro l
  induction l with
  | nil => rfl
  | cons b l ih =>
    show f b + 256 * val8 (l.map f) + (g b + 256 * val8 (l.map g)) = (f b + g b) + 256 * val8 (l.map (fun b => f b + g b))
    rw [← ih]
    omega
theorem val8_lt : ∀ l : List Nat, okD l → l.length = 8 → val8 l < 18446744073709551616 := by
  intro l h hl
  match l, hl with
  | [a, b, c, d, e, f, g, i], _ =>
    have h1 := h a (by simp)
    have h2 := h b (by simp)
    have h3 := h c (by simp)
    have h4 := h d (by simp)
    have h5 := h e (by simp)
    have h6 := h f (by simp)
    have h7 := h g (by simp)
    have h8 := h i (by simp)
    simp only [val8]
    omega
/-- masks over a shifted row -/
theorem msk1 : ∀ l, okD l → (shr8 2 128 l).map (fun b => b &&& 85) = l.map (fun b => (b / 2) &&& 85) := by
  intro l
  induction l with
  | nil => intro _; rfl
  | cons b l ih =>
    intro h
    show ((b / 2 + 128 * (nx8 l % 2)) &&& 85) :: _ = ((b / 2) &&& 85) :: _
    rw [by1a b (h b (List.mem_cons_self ..)) _ (Nat.mod_lt _ (by decide)), ih (fun a ha => h a (List.mem_cons_of_mem _ ha))]
theorem msk2 : ∀ l, okD l → (shr8 4 64 l).map (fun b => b &&& 51) = l.map (fun b => (b / 4) &&& 51) := by
  intro l
  induction l with
  | nil => intro _; rfl
  | cons b l ih =>
    intro h
    show ((b / 4 + 64 * (nx8 l % 4)) &&& 51) :: _ = ((b / 4) &&& 51) :: _
    rw [by2a b (h b (List.mem_cons_self ..)) _ (Nat.mod_lt _ (by decide)), ih (fun a ha => h a (List.mem_cons_of_mem _ ha))]
def sh4 : List Nat → List Nat
  | [] => []
  | b :: l => (b + b / 16 + 16 * (nx8 l % 16)) :: sh4 l
theorem val8_sh4 : ∀ l, val8 l + val8 (shr8 16 16 l) = val8 (sh4 l) := by
  intro l
  induction l with
  | nil => rfl
  | cons b l ih =>
    show b + 256 * val8 l + (b / 16 + 16 * (nx8 l % 16) + 256 * val8 (shr8 16 16 l)) = b + b / 16 + 16 * (nx8 l % 16) + 256 * val8 (sh4 l)
    rw [← ih]
    omega
theorem msk3 : ∀ l : List Nat, (∀ b ∈ l, b < 69 ∧ b % 16 < 5) → okD (sh4 l) ∧ (sh4 l).map (fun b => b &&& 15) = l.map (fun b => (b + b / 16) % 16) ∧ (sh4 l).length = l.length := by
  intro l
  induction l with
  | nil => intro _; exact ⟨fun b hb => (by cases hb), rfl, rfl⟩
  | cons b l ih =>
    intro h
    obtain ⟨h1, h2, h3⟩ := ih (fun a ha => h a (List.mem_cons_of_mem _ ha))
    obtain ⟨h4, h5⟩ := h b (List.mem_cons_self ..)
    have hr : nx8 l % 16 < 5 := by
      cases l with
      | nil => decide
      | cons c l => exact (h c (by simp)).2
    refine ⟨?_, ?_, by show (sh4 l).length + 1 = l.length + 1; rw [h3]⟩
    · intro a ha
      have ha' : a ∈ (b + b / 16 + 16 * (nx8 l % 16)) :: sh4 l := ha
      rcases List.mem_cons.mp ha' with ha' | ha'
      · omega
      · exact h1 a ha'
    · show ((b + b / 16 + 16 * (nx8 l % 16)) &&& 15) :: _ = ((b + b / 16) % 16) :: _
      rw [by3a b h4 _ hr, h2]
def by8 (N : Nat) : List Nat := [N % 256, N / 256 % 256, N / 65536 % 256, N / 16777216 % 256, N / 4294967296 % 256, N / 1099511627776 % 256, N / 281474976710656 % 256, N / 72057594037927936 % 256]
theorem by8_val {N : Nat} (h : N < 18446744073709551616) : val8 (by8 N) = N := by
  simp only [by8, val8]
  omega
theorem by8_ok (N : Nat) : okD (by8 N) := by
  intro b hb
  simp only [by8, List.mem_cons, List.not_mem_nil, or_false] at hb
  omega
theorem map_ok {l : List Nat} {f : Nat → Nat} (h : okD l) (hf : ∀ b, b < 256 → f b < 256) : okD (l.map f) := by
  intro b hb
  obtain ⟨a, ha, rfl⟩ := List.mem_map.mp hb
  exact hf a (h a ha)
theorem shr8_len (k j : Nat) : ∀ l, (shr8 k j l).length = l.length := by
  intro l
  induction l with
  | nil => rfl
  | cons b l ih => show (shr8 k j l).length + 1 = l.length + 1; rw [ih]
theorem shr8_ok {k j : Nat} (h : k * j = 256) (hk : 0 < k) : ∀ l, okD l → okD (shr8 k j l) := by
  intro l
  induction l with
  | nil => intro _ b hb; cases hb
  | cons b l ih =>
    intro hl a ha
    have ha' : a ∈ (b / k + j * (nx8 l % k)) :: shr8 k j l := ha
    rcases List.mem_cons.mp ha' with ha' | ha'
    · have hb := hl b (List.mem_cons_self ..)
      have h1 : nx8 l % k < k := Nat.mod_lt _ hk
      have h2 : b / k < j := by rw [Nat.div_lt_iff_lt_mul hk, Nat.mul_comm, h]; exact hb
      have h3 : j * (nx8 l % k) + j ≤ j * k := by rw [← Nat.mul_succ]; exact Nat.mul_le_mul_left _ h1
      have h4 : j * k = 256 := by rw [Nat.mul_comm]; exact h
      omega
    · exact ih (fun x hx => hl x (List.mem_cons_of_mem _ hx)) a ha'
theorem mk_map (l : List Nat) (hl : l.length = 8) (m : Nat) : l.map (fun _ => m) = [m, m, m, m, m, m, m, m] := by
  match l, hl with
  | [a, b, c, d, e, f, g, i], _ => rfl
theorem s1v : (((1 : Int32).toInt64.toUInt64 &&& Int64.toUInt64 63)).toNat % 64 = 1 := by decide
theorem s2v : (((2 : Int32).toInt64.toUInt64 &&& Int64.toUInt64 63)).toNat % 64 = 2 := by decide
theorem s4v : (((4 : Int32).toInt64.toUInt64 &&& Int64.toUInt64 63)).toNat % 64 = 4 := by decide
theorem s8v : (((8 : Int32).toInt64.toUInt64 &&& Int64.toUInt64 63)).toNat % 64 = 8 := by decide
theorem s16v : (((16 : Int32).toInt64.toUInt64 &&& Int64.toUInt64 63)).toNat % 64 = 16 := by decide
theorem s32v : (((32 : Int32).toInt64.toUInt64 &&& Int64.toUInt64 63)).toNat % 64 = 32 := by decide
theorem c5v : vN (6148914691236517205 : Int64) = val8 [85, 85, 85, 85, 85, 85, 85, 85] := by decide +kernel
theorem c3v : vN (3689348814741910323 : Int64) = val8 [51, 51, 51, 51, 51, 51, 51, 51] := by decide +kernel
theorem c0v : vN (1085102592571150095 : Int64) = val8 [15, 15, 15, 15, 15, 15, 15, 15] := by decide +kernel
theorem bc1_v {x : Int64} {l : List Nat} (hl : l.length = 8) (ho : okD l) (h : vN x = val8 l) : vN (bc1 x) = val8 (l.map fb1) := by
  have e1 : vN (((x.toUInt64 >>> ((1 : Int32).toInt64.toUInt64 &&& Int64.toUInt64 63)).toInt64) &&& (6148914691236517205 : Int64)) = val8 (l.map (fun b => (b / 2) &&& 85)) := by
    rw [vN_and, vN_shr _ _ 1 s1v, h, c5v, ← mk_map (shr8 2 128 l) (by rw [shr8_len]; exact hl) 85, show 2 ^ 1 = 2 from rfl, ← val8_shr2 l, val8_and 85 (by decide) _ (shr8_ok rfl (by decide) l ho), msk1 l ho]
  have e2 := val8_sub (f := fun b => b) (g := fun b => (b / 2) &&& 85) l (fun b hb => by1b b (ho b hb))
  rw [List.map_id'] at e2
  unfold bc1
  rw [vN_sub _ _ (by rw [e1, h]; exact e2.1), e1, h, e2.2]
  rfl
theorem bc2_v {x : Int64} {l : List Nat} (hl : l.length = 8) (ho : okD l) (h : vN x = val8 (l.map fb1)) : vN (bc2 x) = val8 (l.map fb2) := by
  have ho1 : okD (l.map fb1) := map_ok ho by1c
  have hl1 : (l.map fb1).length = 8 := by rw [List.length_map]; exact hl
  have e1 : vN (x &&& (3689348814741910323 : Int64)) = val8 (l.map (fun b => fb1 b &&& 51)) := by
    rw [vN_and, h, c3v, ← mk_map (l.map fb1) hl1 51, val8_and 51 (by decide) _ ho1, List.map_map]
    rfl
  have e2 : vN (((x.toUInt64 >>> ((2 : Int32).toInt64.toUInt64 &&& Int64.toUInt64 63)).toInt64) &&& (3689348814741910323 : Int64)) = val8 (l.map (fun b => (fb1 b / 4) &&& 51)) := by
    rw [vN_and, vN_shr _ _ 2 s2v, h, c3v, ← mk_map (shr8 4 64 (l.map fb1)) (by rw [shr8_len]; exact hl1) 51, show 2 ^ 2 = 4 from rfl, ← val8_shr4 (l.map fb1), val8_and 51 (by decide) _ (shr8_ok rfl (by decide) _ ho1), msk2 _ ho1, List.map_map]
    rfl
  have e3 : val8 (l.map (fun b => fb1 b &&& 51)) + val8 (l.map (fun b => (fb1 b / 4) &&& 51)) = val8 (l.map fb2) := val8_add l
  unfold bc2
  rw [vN_add, e1, e2, e3]
  exact Nat.mod_eq_of_lt (val8_lt _ (map_ok ho (fun b hb => by have := (by2b b hb).1; omega)) (by rw [List.length_map]; exact hl))
theorem bc3_v {x : Int64} {l : List Nat} (hl : l.length = 8) (ho : okD l) (h : vN x = val8 (l.map fb2)) : vN (bc3 x) = val8 (l.map fb3) := by
  have hq : ∀ b ∈ l.map fb2, b < 69 ∧ b % 16 < 5 := by
    intro b hb
    obtain ⟨a, ha, rfl⟩ := List.mem_map.mp hb
    exact by2b a (ho a ha)
  obtain ⟨h1, h2, h3⟩ := msk3 (l.map fb2) hq
  have hl2 : (sh4 (l.map fb2)).length = 8 := by rw [h3, List.length_map]; exact hl
  have e1 : vN (x + ((x.toUInt64 >>> ((4 : Int32).toInt64.toUInt64 &&& Int64.toUInt64 63)).toInt64)) = val8 (sh4 (l.map fb2)) := by
    rw [vN_add, vN_shr _ _ 4 s4v, h, show 2 ^ 4 = 16 from rfl, ← val8_shr16, val8_sh4]
    exact Nat.mod_eq_of_lt (val8_lt _ h1 hl2)
  unfold bc3
  rw [vN_and, e1, c0v, ← mk_map (sh4 (l.map fb2)) hl2 15, val8_and 15 (by decide) _ h1, h2, List.map_map]
  rfl
theorem d2_8 {a b T : Nat} (ha : a < 256) (hb : b < 256) : (a + 256 * (b + 256 * T)) / 2 ^ 16 = T := by omega
theorem d4_8 {a b c d T : Nat} (ha : a < 256) (hb : b < 256) (hc : c < 256) (hd : d < 256) : (a + 256 * (b + 256 * (c + 256 * (d + 256 * T)))) / 2 ^ 32 = T := by omega
theorem bc_sum {x : Int64} {a b c d e f g i : Nat} (h : vN x = val8 [a, b, c, d, e, f, g, i]) (ha : a ≤ 8) (hb : b ≤ 8) (hc : c ≤ 8) (hd : d ≤ 8) (he : e ≤ 8) (hf : f ≤ 8) (hg : g ≤ 8) (hi : i ≤ 8) : vN (bc6 (bc5 (bc4 x))) % 128 = a + b + c + d + e + f + g + i := by
  have e4 : vN (bc4 x) = val8 [a + b, b + c, c + d, d + e, e + f, f + g, g + i, i] := by
    unfold bc4
    rw [vN_add, vN_shr _ _ 8 s8v, h]
    simp only [val8]
    omega
  have e5 : vN (bc5 (bc4 x)) = val8 [a + b + c + d, b + c + d + e, c + d + e + f, d + e + f + g, e + f + g + i, f + g + i, g + i, i] := by
    unfold bc5
    rw [vN_add, vN_shr _ _ 16 s16v, e4]
    simp only [val8]
    rw [d2_8 (by omega) (by omega)]
    omega
  unfold bc6
  rw [vN_add, vN_shr _ _ 32 s32v, e5]
  simp only [val8]
  rw [d4_8 (by omega) (by omega) (by omega) (by omega)]
  omega
theorem vN_32 (x : Int64) : x.toInt32 &&& 127 = nI (vN x % 128) := by
  rw [pk_and x.toInt32 7 (by decide)]
  congr 1
  show x.toInt32.toBitVec.toNat % 128 = _
  have : x.toInt32.toBitVec.toNat = vN x % 4294967296 := by
    show (x.toBitVec.signExtend 32).toNat = _
    rw [BitVec.signExtend_eq_setWidth_of_le _ (by omega), BitVec.toNat_setWidth]
    rfl
  rw [this]
  omega
theorem unv_add (V : Nat → Bool) (a : Nat) : ∀ m, unv V (a + m) = unv V a + unv (fun r => V (a + r)) m := by
  intro m
  induction m with
  | zero => rfl
  | succ m ih =>
    show unv V (a + m) + _ = _ + (unv _ m + _)
    rw [ih, Nat.add_assoc]
    rfl
theorem unv_cg {V V' : Nat → Bool} : ∀ m, (∀ k, k < m → V k = V' k) → unv V m = unv V' m := by
  intro m
  induction m with
  | zero => intro _; rfl
  | succ m ih =>
    intro h
    unfold unv
    rw [ih (fun k hk => h k (by omega)), h m (by omega)]
theorem by_unv (N q : Nat) : unv (fun r => !(N / 2 ^ q % 256).testBit r) 8 = unv (fun r => !N.testBit (q + r)) 8 := by
  apply unv_cg
  intro k hk
  rw [show (256 : Nat) = 2 ^ 8 from rfl, Nat.testBit_mod_two_pow, Nat.testBit_div_two_pow]
  simp [hk, Nat.add_comm]
theorem e_bitCount {S : qSt} {o : Nat} {x : Int64} {Q : Int32 → qSt → Prop} (q : Q (nI (unv (fun r => !jb x r) 64)) S) : okS (f_Lo_bitCount o x) S Q := by
  rw [bc_eq, ok_rI, vN_32]
  have hl : (by8 (vN x)).length = 8 := rfl
  have h3 := bc3_v hl (by8_ok _) (bc2_v hl (by8_ok _) (bc1_v hl (by8_ok _) (by8_val (vN_lt x)).symm))
  have hm : ∀ b, b < 256 → fb3 b ≤ 8 := fun b hb => (by3b b hb).2
  have lt : ∀ n : Nat, n % 256 < 256 := fun n => Nat.mod_lt _ (by decide)
  have hs := bc_sum h3 (hm _ (lt _)) (hm _ (lt _)) (hm _ (lt _)) (hm _ (lt _)) (hm _ (lt _)) (hm _ (lt _)) (hm _ (lt _)) (hm _ (lt _))
  rw [hs]
  have tb : ∀ r, jb x r = (vN x).testBit r := fun r => rfl
  have e : unv (fun r => !jb x r) 64 = unv (fun r => !(vN x).testBit r) 64 := rfl
  have split : unv (fun r => !(vN x).testBit r) 64 = fb3 (vN x % 256) + fb3 (vN x / 256 % 256) + fb3 (vN x / 65536 % 256) + fb3 (vN x / 16777216 % 256) + fb3 (vN x / 4294967296 % 256) + fb3 (vN x / 1099511627776 % 256) + fb3 (vN x / 281474976710656 % 256) + fb3 (vN x / 72057594037927936 % 256) := by
    have z0 : vN x % 256 = vN x / 2 ^ 0 % 256 := by rw [Nat.pow_zero, Nat.div_one]
    rw [z0, (by3b _ (lt _)).1, (by3b _ (lt _)).1, (by3b _ (lt _)).1, (by3b _ (lt _)).1, (by3b _ (lt _)).1, (by3b _ (lt _)).1, (by3b _ (lt _)).1, (by3b _ (lt _)).1]
    rw [by_unv _ 0, show (256 : Nat) = 2 ^ 8 from rfl, show (65536 : Nat) = 2 ^ 16 from rfl, show (16777216 : Nat) = 2 ^ 24 from rfl, show (4294967296 : Nat) = 2 ^ 32 from rfl, show (1099511627776 : Nat) = 2 ^ 40 from rfl, show (281474976710656 : Nat) = 2 ^ 48 from rfl, show (72057594037927936 : Nat) = 2 ^ 56 from rfl]
    have bu := fun q => by_unv (vN x) q
    rw [show (256 : Nat) = 2 ^ 8 from rfl] at bu
    rw [bu 8, bu 16, bu 24, bu 32, bu 40, bu 48, bu 56]
    rw [show (64 : Nat) = 56 + 8 from rfl, unv_add _ 56 8, show (56 : Nat) = 48 + 8 from rfl, unv_add _ 48 8, show (48 : Nat) = 40 + 8 from rfl, unv_add _ 40 8, show (40 : Nat) = 32 + 8 from rfl, unv_add _ 32 8, show (32 : Nat) = 24 + 8 from rfl, unv_add _ 24 8, show (24 : Nat) = 16 + 8 from rfl, unv_add _ 16 8, show (16 : Nat) = 8 + 8 from rfl, unv_add _ 8 8, show unv (fun r => !(vN x).testBit r) 8 = unv (fun r => !(vN x).testBit (0 + r)) 8 by simp only [Nat.zero_add]]
  rw [← split, ← e]
  exact q
