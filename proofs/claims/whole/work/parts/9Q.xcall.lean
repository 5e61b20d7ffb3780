/-! THROWING, 7: the law's call of PatternWalkLaw.compile -/
theorem x_w0 {p : Program} {s : State} {m : MethodId} {meth : Method} {c : Code} {b L : Nat} {xs : Nat → Int32} (C0 : lw_At p s m meth c b L xs) : xW0 s ∧ (Cond.not (.castable xISE xIAE)).before #[Value.ref b] s = true := by
  obtain ⟨hx, hb, hr, hml, hown, hts, hX, hbl, hlocks, hgv⟩ := C0
  have hf := flat_of_before _ hgv
  refine ⟨⟨#[Value.ref b], fun w hin => ?_, hts _ (by decide +kernel), hts _ (by decide +kernel), hts _ (by decide +kernel)⟩, hf _ (by decide +kernel)⟩
  rcases x_ws_in w hin with h | h | h | h
  · exact hts w h
  · subst h
    exact hf _ (by decide +kernel)
  · subst h
    exact hf _ (by decide +kernel)
  · subst h
    exact x_decl (hts (.instanceMethod (q_yn 13)) (by decide +kernel)) (hts _ (q_Ts_tbl _ x_zok.2.1))
theorem x_callS {p : Program} {l : Launch} {e : Env} {R : Room} {s : State} {m : MethodId} {args : Array Value} {below : List Frame} {meth : Method} {c : Code} {T : State} {locs : List Loc} {cells slots : Nat} (X : Stand p l e R s m args below meth c T locs cells slots) (hexec : p.tables.exec = Jvm.exec) {own : String} {index : Nat} {y : MethodName} {bytes : ByteArray} {maxL : Nat} {ret : Option FieldType} {hh : List (Nat × Nat × Nat × Nat)}
    (hown : s.vm.findClass own = some m.cls) (hlink : (Cond.methodLink own index y).before args s = true) (hstat : (Cond.static y).before args s = true) (hinit : (Cond.initialized y.cls).before args s = true) (hcode : (Cond.codeWith y bytes maxL ret hh).before args s = true) (hy : y.cls ≠ "java/lang/invoke/MethodHandle" ∧ y.cls ≠ "java/lang/invoke/VarHandle")
    {W : Nat} {Pre : Pt → Array Value → Prop} {Post : Pt → Array Value → Option Value → Pt → Prop} (hK : Back l R p e below s args y 3 W Pre Post)
    {g : JFrame} (hg : g.method = m) (hsize : g.locals.size = c.maxLocals) {argsL rest : List Value} (hlen : ∀ sig, parseMethodDescriptor y.desc = some sig → argsL.length = sig.parameters.length)
    (hstack : g.stack = argsL.reverse ++ rest) (hW : 2 * g.monitorRoom + (rest.map fun v => v.category).sum ≤ W) (hdg : decode c.code g.pc = .ok (.invokestatic index, 3))
    (hpre : ∀ vm₁, s.WarmedH vm₁ → Pre ⟨T.setVm vm₁, locs, cells, slots⟩ argsL.toArray) :
    ∃ (v : Option Value) (vm₁ : Vm) (B : Pt), s.WarmedH vm₁ ∧ Stand p l e R s m args below meth c B.U B.locs B.cells B.slots ∧ Post ⟨T.setVm vm₁, locs, cells, slots⟩ argsL.toArray v B ∧
      ∀ target, Steps p.tables e below (B.U.setTop { g with pc := g.pc + 3, stack := v.toList ++ rest }) target → Steps p.tables e below (T.setTop g) target := by
  obtain ⟨mk, m1, c1, hn, h1, -, -, -, -, -, -, hsig⟩ := Cond.codeWith_spec hcode
  obtain ⟨kP, hkP, -⟩ := className_of_methodNamed hn
  obtain ⟨vm₁, X₁, st₁⟩ := X.invokestatic hexec hown hlink hn h1 (Cond.static_spec hn h1 hstat) hkP (Cond.initialized_spec (findClass_of_methodNamed hn) hkP hinit) hy (g := g) hg (argsL := argsL) (rest := rest) (hlen _ hsig) hstack hdg
  obtain ⟨v, B, X', hpost, hst⟩ := hK m meth c ⟨T.setVm vm₁, locs, cells, slots⟩ { g with stack := rest } (.invokestatic index) mk argsL.toArray X₁ hg hsize hdg hW (X₁.named hn) (hpre vm₁ X₁.warmed)
  refine ⟨v, vm₁, B, X₁.warmed, X', hpost, fun target h => st₁ _ fun acts => ?_⟩
  rw [doInvoke_state]
  exact hst.trans h
theorem x_LC {p : Program} {l : Launch} {e : Env} {s : State} {m : MethodId} {below : List Frame} {meth : Method} {c : Code} {D : va_G} {ac : Nat → ClassId} {b L : Nat} {xs : Nat → Int32} (hfl : l.flags = flags0) (C0 : lw_At p s m meth c b L xs) (hK : va_K D q_cl (q_tys ac) s) : q_LC p l e s m below meth c D ac b := by
  intro lo σ σ1 res q f fs hlo ho hq hev hq1 hk1 hk2 kret kthr
  rw [Nat.add_zero] at hev
  obtain ⟨hw, hnc⟩ := x_w0 C0
  obtain ⟨hm1, hm2, -⟩ := x_res (l := l) (D := D) (ac := ac) (d := 59) hev
  have hM := x_met (l := l) (D := D) (ac := ac) hfl hw hnc hev ho hq1
  obtain ⟨hx, hb, hr, hml, hown, hts0, hX, hbl, hlocks, hgv⟩ := C0
  have hts : ∀ w ∈ q_Ts, w.before #[Value.ref b] s = true := fun w hw => hts0 w (q_Ts_tbl w hw)
  have hns : ∀ w ∈ q_Ns, va_Nw w s := fun w hw => va_Nw.of (q_isN_on (q_Ns_isN w hw)) (hts0 w (List.mem_filter.mp hw).1)
  have hG : GoodIn q_Ts (Cond.codeWith q_yC q_cLc 3 (some .int) q_hC :: q_Ts) := by
    intro w hw
    rcases List.mem_cons.mp hw with h | h
    · subst h
      exact q_Ts_good _ x_wC
    · exact q_Ts_good w h
  have hpay := pay_in hts hG
  have hini : Cond.initialized "PatternWalkLaw" ∈ q_Ts := List.mem_filter.mpr ⟨by decide +kernel, by decide +kernel⟩
  intro H locs ls h1 h2 h3 h4 h5 h6 T hT X
  dsimp only at h1 h2 h3 h5 h6 X
  have hBk := va_backW (R := room_1) (p := p) (e := e) (below := below) (sargs := #[Value.ref b]) (len := 3) (W := 8) (bytes := q_cLc) (maxL := 3) (ret := some .int) (hh := q_hC) hM x_blind rfl rfl (Nat.le_of_ble_eq_true rfl) (Nat.le_of_ble_eq_true rfl) hpay List.mem_cons_self (fun a' U hW => hpay _ (List.mem_cons_of_mem _ hini) a' U hW)
  obtain ⟨v, vm₁, ⟨U', l2, c2, s2⟩, hW₁, X', ⟨g', mk, t, L', e1, e2, ⟨v', τ, hres, hoc, hhold, hvf⟩, e3, hL, e4, e5⟩, st⟩ := x_callS X hx (own := "PatternWalkLaw") (index := 26) (y := q_yC) (bytes := q_cLc) (maxL := 3) (ret := some .int) (hh := q_hC) hown (hts0 _ (by decide +kernel)) (hts0 _ (by decide +kernel)) (hts _ hini) (hts _ x_wC) (by decide +kernel) hBk (g := F0 m 133 ls [.ref q, .ref s.heap.size]) rfl (by show ls.size = _; rw [hml]; exact h1.1.trans h2) (argsL := [.ref s.heap.size, .ref q]) (rest := [])
    (fun sig hs => by
      have h9 : (parseMethodDescriptor q_yC.desc).map (fun d => d.parameters.length) = some 2 := by decide +kernel
      rw [hs] at h9
      exact (Option.some.inj h9).symm) rfl (Nat.le_of_ble_eq_true rfl) (by rw [hb]; exact d_La_133)
    (fun vm₁ hW₁ => ⟨by show σ.2.2.1 - 0 + _ ≤ 601024; omega, by show σ.2.2.2 - 0 + _ ≤ 7293034; omega, by
      obtain ⟨g0, g1⟩ := q_pre (as := [.ref s.heap.size, .ref q]) q_Ns_isN hns hK h3 (Nat.le_refl _) h4 (T.setVm vm₁) hT hW₁
      refine ⟨g0, g1, hW₁, fun q hq => ?_⟩
      show T.heap[q]? = _
      rw [hT]
      exact h4.2.1 q hq (Nat.not_le.mpr hq)⟩)
  dsimp only [Pt.U, Pt.locs, Pt.cells, Pt.slots] at X' e1 e2 e3 e4 e5 st
  subst e3
  subst e4
  subst e5
  cases hoc
  have eC : σ.2.2.1 - 0 + (σ1.2.2.1 - σ.2.2.1) = σ1.2.2.1 - 0 := by omega
  have eS : σ.2.2.2 - 0 + (σ1.2.2.2 - σ.2.2.2) = σ1.2.2.2 - 0 := by omega
  rw [eC, eS] at X'
  have hvf1 : T.heap.size ≤ t.heap.size := hvf.1
  have hS' : va_S (fun q : Nat => s.heap.size ≤ q) s.heap U'.heap (locs ++ L') := by
    rw [e1]
    refine ⟨Nat.le_trans h4.1 (by rw [← hT]; exact hvf1), fun q q1 q2 => ?_, fun q hq => ?_⟩
    · rw [hvf.2 q (by show q < T.heap.size; rw [hT]; exact Nat.lt_of_lt_of_le q1 h4.1) q2]
      show T.heap[q]? = _
      rw [hT]
      exact h4.2.1 q q1 q2
    · rcases List.mem_append.mp hq with h9 | h9
      · exact h4.2.2 q h9
      · exact hL q h9
  have hhold' : q_hold D q_cl ac s.heap.size τ U'.heap := by rw [e1]; exact hhold
  rcases hres with ⟨x, r1, r2, r3⟩ | ⟨z, n2, r1, r0, rz, r2, r3⟩
  · subst r2
    subst r3
    obtain ⟨t2, a1, b1⟩ := kret x r1 U'.heap (locs ++ L') ls h1 h2 hhold' hS' (Nat.zero_le _) (Nat.zero_le _) U' rfl X'
    exact ⟨t2, st t2 a1, b1⟩
  · subst r2
    subst r3
    obtain ⟨t2, a1, b1⟩ := kthr z n2 r1 r0 rz U'.heap (locs ++ L') ls h1 h2 hhold' hS' (Nat.zero_le _) (Nat.zero_le _) U' rfl X'
    exact ⟨t2, st t2 a1, b1⟩
