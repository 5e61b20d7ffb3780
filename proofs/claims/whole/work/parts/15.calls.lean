/-! THE SMALL MACHINE IS TRUE, 4: calls -/
def q_isN : Cond → Bool
  | .fieldLinkNest _ _ _ _ _ _ => true
  | .methodLinkNest _ _ _ _ => true
  | _ => false
theorem q_isN_on {w : Cond} (h : q_isN w = true) : w.onTables = true := by
  cases w <;> first | rfl | cases h
theorem q_isN_warm {w : Cond} (h : q_isN w = true) {s U : State} (hW : s.WarmedH U.vm) (hZ : va_Nw w s) : va_Nw w U := by
  cases w <;> first | exact va_Nw.warmF hW hZ | exact va_Nw.warmM hW hZ | cases h
def q_Pre (D : va_G) (cl : List vw_C) (ac : Nat → ClassId) (B0 : Nat) (Ns : List Cond) (σ : qH) : State → Prop := fun U => q_hold D cl ac B0 σ U.heap ∧ va_K D cl (q_tys ac) U ∧ (∀ w ∈ Ns, va_Nw w U) ∧ B0 ≤ U.heap.size
def q_Post (D : va_G) (cl : List vw_C) (ac : Nat → ClassId) (B0 : Nat) (v : Option Value) (σ' : qH) : Array Value → State → Outcome → State → Prop := fun _ st oc t => oc = .returned v ∧ q_hold D cl ac B0 σ' t.heap ∧ va_F (fun q : Nat => B0 ≤ q) st t
def q_rm (d k w : Nat) : Room := { frames := d, cells := k, slots := w, locals := 64 * d }
def q_Met (l : Launch) (D : va_G) (cl : List vw_C) (ac : Nat → ClassId) (B0 : Nat) (Ts Ns : List Cond) (yn : Nat → MethodName) (Mt : Nat → Option qM) (d z : Nat) (as : List Value) (σ : qH) (v : Option Value) (σ' : qH) : Prop :=
  ∀ M : qM, Mt z = some M → Met l (yn z) (Cond.code (yn z) M.1 M.2.1 M.2.2.1 :: Ts) (q_rm d (σ'.2.2.1 - σ.2.2.1) (σ'.2.2.2 - σ.2.2.2)) (va_Pc as (q_Pre D cl ac B0 Ns σ)) (q_Post D cl ac B0 v σ') (σ'.2.2.1 - σ.2.2.1) (σ'.2.2.2 - σ.2.2.2) (fun q : Nat => B0 ≤ q)
/-- a table of callees is true, d calls deep -/
def q_Snd (l : Launch) (D : va_G) (cl : List vw_C) (ac : Nat → ClassId) (B0 : Nat) (Ts Ns : List Cond) (yn : Nat → MethodName) (Mt : Nat → Option qM) (d : Nat) (rc : qC) : Prop :=
  ∀ (z : Nat) (as : List Value) (σ : qH) (v : Option Value) (σ' : qH), rc z as σ = some (.inl v, σ') → q_Met l D cl ac B0 Ts Ns yn Mt d z as σ v σ' ∧ σ.2.2.1 ≤ σ'.2.2.1 ∧ σ.2.2.2 ≤ σ'.2.2.2
/-- what the words say of a callee z of n parameters -/
def q_zok (Ts : List Cond) (yn : Nat → MethodName) (Mt : Nat → Option qM) (z n : Nat) (M : qM) : Prop :=
  Mt z = some M ∧ Cond.code (yn z) M.1 M.2.1 M.2.2.1 ∈ Ts ∧ Cond.initialized (yn z).cls ∈ Ts ∧ ((yn z).cls ≠ "java/lang/invoke/MethodHandle" ∧ (yn z).cls ≠ "java/lang/invoke/VarHandle" ∧ (parseMethodDescriptor (yn z).desc).map (fun d => d.parameters.length) = some n) ∧ M.2.1 ≤ 40
def q_lok (Ts Ns : List Cond) (own : String) (idx : Nat) (y : MethodName) : Prop := Cond.methodLink own idx y ∈ Ts ∨ ∃ host : String, Cond.methodLinkNest own idx y host ∈ Ns
def q_mok (cl : List vw_C) (Ts Ns : List Cond) (yn : Nat → MethodName) (Mt : Nat → Option qM) (own : String) (idx : Nat) : Nat × Nat × Nat × Nat → Prop
  | (0, _, _, _) => Cond.methodLink own idx objectInit ∈ Ts ∧ Cond.instanceMethod objectInit ∈ Ts ∧ Cond.code objectInit ⟨#[0xb1]⟩ 1 none ∈ Ts
  | (1, z, n, ci) => (∃ M, q_zok Ts yn Mt z n M) ∧ q_lok Ts Ns own idx (yn z) ∧ Cond.instanceMethod (yn z) ∈ Ts ∧ Cond.selects (yn z).cls (yn z) (yn z) ∈ Ts ∧ ∃ (T : u_T) (N : Nat), cl[ci]? = some ((yn z).cls, T, N)
  | (2, z, n, _) => (∃ M, q_zok Ts yn Mt z n M) ∧ q_lok Ts Ns own idx (yn z) ∧ Cond.static (yn z) ∈ Ts
  | (3, z, n, _) => (∃ M, q_zok Ts yn Mt z n M ∧ M.2.2.1 = none) ∧ q_lok Ts Ns own idx (yn z) ∧ Cond.instanceMethod (yn z) ∈ Ts ∧ (yn z).name = "<init>"
  | (4, _, _, _) => Cond.methodLink own idx Lib.Math.max.name ∈ Ts ∧ Cond.static Lib.Math.max.name ∈ Ts ∧ Cond.initialized "java/lang/Math" ∈ Ts ∧ Cond.code Lib.Math.max.name Lib.Math.max.code 2 (some .int) ∈ Ts
  | (5, _, _, _) => Cond.methodLink own idx Lib.Math.min.name ∈ Ts ∧ Cond.static Lib.Math.min.name ∈ Ts ∧ Cond.initialized "java/lang/Math" ∈ Ts ∧ Cond.code Lib.Math.min.name Lib.Math.min.code 2 (some .int) ∈ Ts
  | _ => False
section QC
variable {p : Program} {l : Launch} {e : Env} {R : Room} {s : State} {m : MethodId} {args : Array Value} {below : List Frame} {meth : Method} {c : Code} {D : va_G} {cl : List vw_C} {ac : Nat → ClassId} {B0 nL k0 w0 : Nat} {Q : State → Prop} {own : String} {cc : ByteArray} {Ts Ns : List Cond} {pc : Nat} {lo : qL} {st : List Value} {σ : qH} {x' : qS}
variable {yn : Nat → MethodName} {Mt : Nat → Option qM} {d : Nat} {rc : qC}
theorem q_blind {as : List Value} {σ1 : qH} (hN : ∀ w ∈ Ns, q_isN w = true) : FrameBlind (va_Pc as (q_Pre D cl ac B0 Ns σ1)) := by
  intro a U g mk h
  obtain ⟨h0, h1, h2, h3, h4⟩ := h
  exact ⟨h0, h1, va_K.moved (u := U) (U := U.calling g mk a) (Vm.Alike.refl U.vm) h2, fun w hw => va_Nw.same (u := U) (U := U.calling g mk a) (q_isN_on (hN w hw)) rfl (h3 w hw), h4⟩
theorem q_pre {as : List Value} {H : Heap} {locs : List Loc} (hN : ∀ w ∈ Ns, q_isN w = true) (hns : ∀ w ∈ Ns, va_Nw w s) (hK : va_K D cl (q_tys ac) s) (hh : q_hold D cl ac B0 σ H) (hB : B0 ≤ s.heap.size) (hS : va_S (fun q : Nat => B0 ≤ q) s.heap H locs) :
    ∀ U : State, U.heap = H → s.WarmedH U.vm → va_Pc as (q_Pre D cl ac B0 Ns σ) as.toArray U :=
  fun U hU hW => ⟨rfl, by rw [hU]; exact hh, va_K.moved hW.alike hK, fun w hw => q_isN_warm (hN w hw) hW (hns w hw), by rw [hU]; exact Nat.le_trans hB hS.1⟩
theorem q_ran {H : Heap} {locs : List Loc} {ls : Array Slot} {cells slots mc ms : Nat} {st0 rest : List Value} {a : Array Value} {v : Option Value} {σ' : qH}
    (hr : va_Run p l e R s m args below meth c H locs cells slots mc ms (F0 m pc ls st0) rest (q_Post D cl ac B0 v σ' a) (fun q : Nat => B0 ≤ q)) (hS : va_S (fun q : Nat => B0 ≤ q) s.heap H locs)
    (kk : ∀ (H1 : Heap) (locs1 : List Loc), q_hold D cl ac B0 σ' H1 → va_S (fun q : Nat => B0 ≤ q) s.heap H1 locs1 → W p l e R s m args below meth c H1 locs1 (cells + mc) (slots + ms) Q (F0 m (pc + 3) ls (v.toList ++ rest))) : W p l e R s m args below meth c H locs cells slots Q (F0 m pc ls st0) := by
  intro T hT X
  obtain ⟨v', st₀, t, T', L, h0, X', hL, e1, e2, ⟨hv, hh, hz, hk⟩, stp⟩ := hr T hT X
  cases hv
  rw [h0] at hz hk
  obtain ⟨t2, a1, b1⟩ := kk T'.heap (locs ++ L) (by rw [e1]; exact hh)
    ⟨Nat.le_trans hS.1 (by rw [e1]; exact hz), fun q h1 h2 => by rw [e1, hk q (Nat.lt_of_lt_of_le h1 hS.1) h2]; exact hS.2.1 q h1 h2, fun q hq => by
      rcases List.mem_append.mp hq with h | h
      · exact hS.2.2 q h
      · exact hL q h⟩ T' rfl X'
  exact ⟨t2, stp t2 a1, b1⟩
theorem q_goodC {z n : Nat} {M : qM} (hT : GoodIn Ts Ts) (hz : q_zok Ts yn Mt z n M) : GoodIn Ts (Cond.code (yn z) M.1 M.2.1 M.2.2.1 :: Ts) := by
  intro w hw
  rcases List.mem_cons.mp hw with rfl | h
  · exact hT _ hz.2.1
  · exact hT w h
theorem q_room {d0 k w n : Nat} (hRf : d0 + 1 ≤ R.frames) (hRl : 64 * (d0 + 1) ≤ R.locals) (hn : n ≤ 40) : (q_rm d0 k w).frames + 1 ≤ R.frames ∧ 8 + (n + 11) + (q_rm d0 k w).locals ≤ R.locals := by
  refine ⟨hRf, ?_⟩
  show 8 + (n + 11) + 64 * d0 ≤ _
  omega
theorem q_take {n : Nat} {b : Value} {r : List Value} (h : st.drop n = b :: r) : st = (st.take n).reverse.reverse ++ b :: r ∧ (st.take n).reverse.length = n := by
  have hl : n < st.length := by
    rcases Nat.lt_or_ge n st.length with q | q
    · exact q
    · rw [List.drop_eq_nil_of_le q] at h; cases h
  refine ⟨by rw [List.reverse_reverse, ← h, List.take_append_drop], ?_⟩
  rw [List.length_reverse, List.length_take]; omega
theorem q_ok_callV {idx z n ci : Nat} (Cx : q_Cx p s m args c D cl ac B0 own cc nL Ts Ns) (hT : GoodIn Ts Ts) (hN : ∀ w ∈ Ns, q_isN w = true) (hrc : q_Snd l D cl ac B0 Ts Ns yn Mt d rc) (hm : q_mok cl Ts Ns yn Mt own idx (1, z, n, ci)) (hRf : d + 1 ≤ R.frames) (hRl : 64 * (d + 1) ≤ R.locals)
    (hRc : x'.2.2.2.2.2.1 - k0 ≤ R.cells) (hRs : x'.2.2.2.2.2.2 - w0 ≤ R.slots) (hd : decode cc pc = .ok (.invokevirtual idx, 3)) (h : q_call rc (some (1, z, n, ci)) pc lo st σ = some (.inl x')) (kk : q_G p l e R s m args below meth c D cl ac B0 nL k0 w0 Q x') : q_G p l e R s m args below meth c D cl ac B0 nL k0 w0 Q (pc, lo, st, σ) := by
  obtain ⟨hx, hb, hml, hown, hts, hns, hK, hB⟩ := Cx
  obtain ⟨⟨M, hz⟩, hlk, hins, hsel, T, N, hcl⟩ := hm
  have hG := q_goodC hT hz
  obtain ⟨hz1, hz2, hz3, hz4, hz5⟩ := hz
  simp only [q_call] at h
  split at h
  · rename_i b r hst
    split at h
    · rename_i cj fs hb0
      split at h
      · rename_i hc
        obtain ⟨hc, hsum⟩ := hc
        subst hc
        unfold q_back at h
        split at h
        · rename_i v σ' hr
          cases h
          obtain ⟨hM, hk1, hw1⟩ := hrc _ _ _ _ _ hr
          have hM := hM M hz1
          intro H locs ls h1 h2 h3 h4 h5 h6
          dsimp only at hRc hRs h1 h2 h3 h5 h6
          obtain ⟨hst2, hlen⟩ := q_take hst
          have hP := q_P1 (h3.2 b _ hb0).2
          have hmid : ∀ (H1 : Heap) (locs1 : List Loc), q_hold D cl ac B0 σ' H1 → va_S (fun q : Nat => B0 ≤ q) s.heap H1 locs1 → W p l e R s m args below meth c H1 locs1 (σ.2.2.1 - k0 + (σ'.2.2.1 - σ.2.2.1)) (σ.2.2.2 - w0 + (σ'.2.2.2 - σ.2.2.2)) Q (F0 m (pc + 3) ls (v.toList ++ r)) := by
            intro H1 locs1 g1 g2
            have := kk H1 locs1 ls h1 h2 g1 g2 (by dsimp only; omega) (by dsimp only; omega)
            dsimp only at this
            rw [show σ.2.2.1 - k0 + (σ'.2.2.1 - σ.2.2.1) = σ'.2.2.1 - k0 by omega, show σ.2.2.2 - w0 + (σ'.2.2.2 - σ.2.2.2) = σ'.2.2.2 - w0 by omega]
            exact this
          have hroom : σ.2.2.1 - k0 + (σ'.2.2.1 - σ.2.2.1) ≤ R.cells ∧ σ.2.2.2 - w0 + (σ'.2.2.2 - σ.2.2.2) ≤ R.slots := ⟨by omega, by omega⟩
          have hp : PreV s H (yn z).cls b (va_Pc (Value.ref b :: (st.take n).reverse) (q_Pre D cl ac B0 Ns σ)) (st.take n).reverse := ⟨q_blind hN, va_recv hK hP (ci := cj) (q0 := 0) hcl rfl, q_pre hN hns hK h3 hB h4⟩
          have hlo : ls.size = nL := h1.1.trans h2
          have hlk2 : (Cond.selects (yn z).cls (yn z) (yn z)).before args s = true := hts _ hsel
          rcases hlk with hlk | ⟨host, hlk⟩
          · refine q_ran (va_runV (C := (yn z).cls) (n := n) (As := (st.take n).reverse) (rest := r) ⟨hx, hb, hml, hown, hts⟩ hM ⟨callB_of n hts hG rfl rfl rfl (hts _ hz3) (hts _ hlk) hz4 (q_room hRf hRl hz5), hts _ hins, hlk2⟩ hp rfl hlen hlo hst2 (lv_room hsum) hd hroom) h4 hmid
          · refine q_ran (va_runVN (C := (yn z).cls) (n := n) (As := (st.take n).reverse) (rest := r) ⟨hx, hb, hml, hown, hts⟩ hM ⟨va_cnB n hts hG rfl rfl rfl (hns _ hlk) (hts _ hz3) hz4 (q_room hRf hRl hz5), hts _ hins, hlk2⟩ hp rfl hlen hlo hst2 (lv_room hsum) hd hroom) h4 hmid
        · cases h
      · cases h
    · cases h
  · cases h
theorem q_ok_callI {idx z n ci : Nat} (Cx : q_Cx p s m args c D cl ac B0 own cc nL Ts Ns) (hT : GoodIn Ts Ts) (hN : ∀ w ∈ Ns, q_isN w = true) (hrc : q_Snd l D cl ac B0 Ts Ns yn Mt d rc) (hm : q_mok cl Ts Ns yn Mt own idx (3, z, n, ci)) (hRf : d + 1 ≤ R.frames) (hRl : 64 * (d + 1) ≤ R.locals)
    (hRc : x'.2.2.2.2.2.1 - k0 ≤ R.cells) (hRs : x'.2.2.2.2.2.2 - w0 ≤ R.slots) (hd : decode cc pc = .ok (.invokespecial idx, 3)) (h : q_call rc (some (3, z, n, ci)) pc lo st σ = some (.inl x')) (kk : q_G p l e R s m args below meth c D cl ac B0 nL k0 w0 Q x') : q_G p l e R s m args below meth c D cl ac B0 nL k0 w0 Q (pc, lo, st, σ) := by
  obtain ⟨hx, hb, hml, hown, hts, hns, hK, hB⟩ := Cx
  obtain ⟨⟨M, hz, hret⟩, hlk, hins, hini⟩ := hm
  have hG := q_goodC hT hz
  obtain ⟨hz1, hz2, hz3, hz4, hz5⟩ := hz
  simp only [q_call] at h
  split at h
  · rename_i b r hst
    split at h
    · rename_i hsum
      unfold q_back at h
      split at h
      · rename_i v σ' hr
        cases h
        obtain ⟨hM, hk1, hw1⟩ := hrc _ _ _ _ _ hr
        have hM := hM M hz1
        rw [hret] at hM hG
        intro H locs ls h1 h2 h3 h4 h5 h6
        dsimp only at hRc hRs h1 h2 h3 h5 h6
        obtain ⟨hst2, hlen⟩ := q_take hst
        have hmid : ∀ (H1 : Heap) (locs1 : List Loc), q_hold D cl ac B0 σ' H1 → va_S (fun q : Nat => B0 ≤ q) s.heap H1 locs1 → W p l e R s m args below meth c H1 locs1 (σ.2.2.1 - k0 + (σ'.2.2.1 - σ.2.2.1)) (σ.2.2.2 - w0 + (σ'.2.2.2 - σ.2.2.2)) Q (F0 m (pc + 3) ls (v.toList ++ r)) := by
          intro H1 locs1 g1 g2
          have := kk H1 locs1 ls h1 h2 g1 g2 (by dsimp only; omega) (by dsimp only; omega)
          dsimp only at this
          rw [show σ.2.2.1 - k0 + (σ'.2.2.1 - σ.2.2.1) = σ'.2.2.1 - k0 by omega, show σ.2.2.2 - w0 + (σ'.2.2.2 - σ.2.2.2) = σ'.2.2.2 - w0 by omega]
          exact this
        have hroom : σ.2.2.1 - k0 + (σ'.2.2.1 - σ.2.2.1) ≤ R.cells ∧ σ.2.2.2 - w0 + (σ'.2.2.2 - σ.2.2.2) ≤ R.slots := ⟨by omega, by omega⟩
        have hp : PreS s H (va_Pc (Value.ref b :: (st.take n).reverse) (q_Pre D cl ac B0 Ns σ)) (Value.ref b :: (st.take n).reverse) := ⟨q_blind hN, q_pre hN hns hK h3 hB h4⟩
        have hlo : ls.size = nL := h1.1.trans h2
        rcases hlk with hlk | ⟨host, hlk⟩
        · refine q_ran (va_runI (n := n) (As := (st.take n).reverse) (rest := r) ⟨hx, hb, hml, hown, hts⟩ hM ⟨callB_of n hts hG rfl rfl rfl (hts _ hz3) (hts _ hlk) hz4 (q_room hRf hRl hz5), hini, hts _ hins⟩ hp rfl hlen hlo hst2 (lv_room hsum) hd hroom) h4 hmid
        · refine q_ran (va_runIN (n := n) (As := (st.take n).reverse) (rest := r) ⟨hx, hb, hml, hown, hts⟩ hM ⟨va_cnB n hts hG rfl rfl rfl (hns _ hlk) (hts _ hz3) hz4 (q_room hRf hRl hz5), hini, hts _ hins⟩ hp rfl hlen hlo hst2 (lv_room hsum) hd hroom) h4 hmid
      · cases h
    · cases h
  · cases h
theorem q_ok_callS {idx z n ci : Nat} (Cx : q_Cx p s m args c D cl ac B0 own cc nL Ts Ns) (hT : GoodIn Ts Ts) (hN : ∀ w ∈ Ns, q_isN w = true) (hrc : q_Snd l D cl ac B0 Ts Ns yn Mt d rc) (hm : q_mok cl Ts Ns yn Mt own idx (2, z, n, ci)) (hRf : d + 1 ≤ R.frames) (hRl : 64 * (d + 1) ≤ R.locals)
    (hRc : x'.2.2.2.2.2.1 - k0 ≤ R.cells) (hRs : x'.2.2.2.2.2.2 - w0 ≤ R.slots) (hd : decode cc pc = .ok (.invokestatic idx, 3)) (h : q_call rc (some (2, z, n, ci)) pc lo st σ = some (.inl x')) (kk : q_G p l e R s m args below meth c D cl ac B0 nL k0 w0 Q x') : q_G p l e R s m args below meth c D cl ac B0 nL k0 w0 Q (pc, lo, st, σ) := by
  obtain ⟨hx, hb, hml, hown, hts, hns, hK, hB⟩ := Cx
  obtain ⟨⟨M, hz⟩, hlk, hstt⟩ := hm
  have hG := q_goodC hT hz
  obtain ⟨hz1, hz2, hz3, hz4, hz5⟩ := hz
  simp only [q_call] at h
  split at h
  · rename_i hc
    obtain ⟨hn, hsum⟩ := hc
    unfold q_back at h
    split at h
    · rename_i v σ' hr
      cases h
      obtain ⟨hM, hk1, hw1⟩ := hrc _ _ _ _ _ hr
      have hM := hM M hz1
      intro H locs ls h1 h2 h3 h4 h5 h6
      dsimp only at hRc hRs h1 h2 h3 h5 h6
      have hst2 : st = (st.take n).reverse.reverse ++ st.drop n := by rw [List.reverse_reverse, List.take_append_drop]
      have hlen : (st.take n).reverse.length = n := by rw [List.length_reverse, List.length_take]; omega
      have hmid : ∀ (H1 : Heap) (locs1 : List Loc), q_hold D cl ac B0 σ' H1 → va_S (fun q : Nat => B0 ≤ q) s.heap H1 locs1 → W p l e R s m args below meth c H1 locs1 (σ.2.2.1 - k0 + (σ'.2.2.1 - σ.2.2.1)) (σ.2.2.2 - w0 + (σ'.2.2.2 - σ.2.2.2)) Q (F0 m (pc + 3) ls (v.toList ++ st.drop n)) := by
        intro H1 locs1 g1 g2
        have := kk H1 locs1 ls h1 h2 g1 g2 (by dsimp only; omega) (by dsimp only; omega)
        dsimp only at this
        rw [show σ.2.2.1 - k0 + (σ'.2.2.1 - σ.2.2.1) = σ'.2.2.1 - k0 by omega, show σ.2.2.2 - w0 + (σ'.2.2.2 - σ.2.2.2) = σ'.2.2.2 - w0 by omega]
        exact this
      have hroom : σ.2.2.1 - k0 + (σ'.2.2.1 - σ.2.2.1) ≤ R.cells ∧ σ.2.2.2 - w0 + (σ'.2.2.2 - σ.2.2.2) ≤ R.slots := ⟨by omega, by omega⟩
      have hp : PreS s H (va_Pc ((st.take n).reverse) (q_Pre D cl ac B0 Ns σ)) ((st.take n).reverse) := ⟨q_blind hN, q_pre hN hns hK h3 hB h4⟩
      have hlo : ls.size = nL := h1.1.trans h2
      rcases hlk with hlk | ⟨host, hlk⟩
      · refine q_ran (va_runS (n := n) (As := (st.take n).reverse) (rest := st.drop n) ⟨hx, hb, hml, hown, hts⟩ hM ⟨callB_of n hts hG rfl rfl rfl (hts _ hz3) (hts _ hlk) hz4 (q_room hRf hRl hz5), hts _ hstt⟩ hp rfl hlen hlo hst2 (lv_room hsum) hd hroom) h4 hmid
      · refine q_ran (va_runSN (n := n) (As := (st.take n).reverse) (rest := st.drop n) ⟨hx, hb, hml, hown, hts⟩ hM ⟨va_cnB n hts hG rfl rfl rfl (hns _ hlk) (hts _ hz3) hz4 (q_room hRf hRl hz5), hts _ hstt, trivial⟩ hp rfl hlen hlo hst2 (lv_room hsum) hd hroom) h4 hmid
    · cases h
  · cases h
theorem q_ok_callO {idx : Nat} {z : Nat × Nat × Nat} (Cx : q_Cx p s m args c D cl ac B0 own cc nL Ts Ns) (hm : q_mok cl Ts Ns yn Mt own idx (0, z)) (hRf : d + 1 ≤ R.frames) (hRl : 64 * (d + 1) ≤ R.locals) (hd : decode cc pc = .ok (.invokespecial idx, 3)) (h : q_call rc (some (0, z)) pc lo st σ = some (.inl x')) (kk : q_G p l e R s m args below meth c D cl ac B0 nL k0 w0 Q x') : q_G p l e R s m args below meth c D cl ac B0 nL k0 w0 Q (pc, lo, st, σ) := by
  obtain ⟨hx, hb, hml, hown, hts, hns, hK, hB⟩ := Cx
  obtain ⟨m1, m2, m3⟩ := hm
  simp only [q_call] at h
  split at h
  · rename_i a r
    split at h
    · rename_i hsum
      cases h
      intro H locs ls h1 h2 h3 h4 h5 h6
      refine W.eq (g2 := F0 m pc ls (.ref a :: r)) rfl (W.objInit hx hb hown (hts _ m1) (hts _ m2) (hts _ m3) rfl (by rw [hml]; exact h1.1.trans h2) rfl hd (by omega) ?_ (kk H locs ls h1 h2 h3 h4 h5 h6))
      have : q_sum r ≤ 8 := hsum
      unfold q_sum at this
      show 2 * 0 + _ + 12 ≤ _
      omega
    · cases h
  · cases h
theorem q_ok_callM {idx : Nat} {z : Nat × Nat × Nat} (Cx : q_Cx p s m args c D cl ac B0 own cc nL Ts Ns) (hm : q_mok cl Ts Ns yn Mt own idx (4, z)) (hRf : d + 1 ≤ R.frames) (hRl : 64 * (d + 1) ≤ R.locals) (hRc : x'.2.2.2.2.2.1 - k0 ≤ R.cells) (hRs : x'.2.2.2.2.2.2 - w0 ≤ R.slots) (hd : decode cc pc = .ok (.invokestatic idx, 3)) (h : q_call rc (some (4, z)) pc lo st σ = some (.inl x')) (kk : q_G p l e R s m args below meth c D cl ac B0 nL k0 w0 Q x') : q_G p l e R s m args below meth c D cl ac B0 nL k0 w0 Q (pc, lo, st, σ) := by
  obtain ⟨hx, hb, hml, hown, hts, hns, hK, hB⟩ := Cx
  obtain ⟨m1, m2, m3, m4⟩ := hm
  simp only [q_call] at h
  split at h
  · rename_i y x r
    split at h
    · rename_i hsum
      cases h
      intro H locs ls h1 h2 h3 h4 h5 h6
      have : q_sum r ≤ 8 := hsum
      unfold q_sum at this
      exact va_mmax hx hb (by rw [hml]; exact (h1.1.trans h2).symm) hown (hts _ m1) (hts _ m2) (hts _ m3) (hts _ m4) (by omega) (by omega) hRc hRs hd (kk H locs ls h1 h2 h3 h4 h5 h6)
    · cases h
  · cases h
theorem q_ok_callN {idx : Nat} {z : Nat × Nat × Nat} (Cx : q_Cx p s m args c D cl ac B0 own cc nL Ts Ns) (hm : q_mok cl Ts Ns yn Mt own idx (5, z)) (hRf : d + 1 ≤ R.frames) (hRl : 64 * (d + 1) ≤ R.locals) (hRc : x'.2.2.2.2.2.1 - k0 ≤ R.cells) (hRs : x'.2.2.2.2.2.2 - w0 ≤ R.slots) (hd : decode cc pc = .ok (.invokestatic idx, 3)) (h : q_call rc (some (5, z)) pc lo st σ = some (.inl x')) (kk : q_G p l e R s m args below meth c D cl ac B0 nL k0 w0 Q x') : q_G p l e R s m args below meth c D cl ac B0 nL k0 w0 Q (pc, lo, st, σ) := by
  obtain ⟨hx, hb, hml, hown, hts, hns, hK, hB⟩ := Cx
  obtain ⟨m1, m2, m3, m4⟩ := hm
  simp only [q_call] at h
  split at h
  · rename_i y x r
    split at h
    · rename_i hsum
      cases h
      intro H locs ls h1 h2 h3 h4 h5 h6
      have : q_sum r ≤ 8 := hsum
      unfold q_sum at this
      exact va_mmin hx hb (by rw [hml]; exact (h1.1.trans h2).symm) hown (hts _ m1) (hts _ m2) (hts _ m3) (hts _ m4) (by omega) (by omega) hRc hRs hd (kk H locs ls h1 h2 h3 h4 h5 h6)
    · cases h
  · cases h
end QC
