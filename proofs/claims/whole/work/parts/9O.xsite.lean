/-! THROWING, 5: the call that throws, and the catch -/
def xPre (D : va_G) (ac : Nat → ClassId) (s0 : State) (σ : qH) (as : List Value) : Array Value → State → Prop := va_Pc as (fun U => q_Pre D q_cl ac s0.heap.size q_Ns σ U ∧ xKeep s0 U)
theorem x_blind {D : va_G} {ac : Nat → ClassId} {s0 : State} {σ : qH} {as : List Value} : FrameBlind (xPre D ac s0 σ as) := by
  intro a U g mk h
  obtain ⟨h0, h1, h2⟩ := h
  obtain ⟨g0, g1⟩ := q_blind (D := D) (cl := q_cl) (ac := ac) (B0 := s0.heap.size) (Ns := q_Ns) (as := as) (σ1 := σ) q_Ns_isN a U g mk ⟨h0, h1⟩
  exact ⟨g0, g1, h2⟩
theorem x_zok : q_zok q_Ts q_yn q_Mt 13 0 q_mPW_compile := by
  obtain ⟨⟨M, hz⟩, -⟩ := q_pokLa.2.2.1 7 _ pM_La_7
  have : M = q_mPW_compile := Option.some.inj (hz.1.symm.trans rfl)
  subst this
  exact hz
section XS
variable {p : Program} {l : Launch} {e : Env} {R : Room} {s0 s : State} {m : MethodId} {args : Array Value} {below : List Frame} {meth : Method} {c : Code} {D : va_G} {ac : Nat → ClassId} {k0 w0 : Nat} {lo : qL} {σ σ1 : qH} {Q : State → Prop}
theorem x_tab {xs : List ExceptionTableEntry} (h : xs.map (fun h => (h.startPc, h.endPc, h.handlerPc, h.catchType)) = q_hC) : ∃ x1 x2 : ExceptionTableEntry, xs = [x1, x2] ∧ covers x1 3 = true ∧ covers x2 3 = true ∧ x1.handlerPc = 11 ∧ x2.handlerPc = 14 ∧ x1.catchType = 13 ∧ x2.catchType = 15 := by
  unfold q_hC at h
  cases xs with
  | nil => simp at h
  | cons x1 xs =>
    cases xs with
    | nil => simp at h
    | cons x2 r =>
      cases r with
      | cons x3 r => simp at h
      | nil =>
        simp only [List.map_cons, List.map_nil, List.cons.injEq, Prod.mk.injEq, and_true] at h
        obtain ⟨⟨a1, a2, a3, a4⟩, b1, b2, b3, b4⟩ := h
        exact ⟨x1, x2, rfl, by simp [covers, a1, a2], by simp [covers, b1, b2], a3, b3, a4, b4⟩
set_option maxHeartbeats 4000000 in
theorem x_site {o q z : Nat} {fs : List Value} (hw : xW0 s0) {A9 : Array Value} (hnc : (Cond.not (.castable xISE xIAE)).before A9 s0 = true) (hk : xKeep s0 s) (hfl : l.flags = flags0) (Cx : q_Cx p s m args c D q_cl ac s0.heap.size "PatternWalkLaw" q_mLc.1 3 q_Ts q_Ns)
    (htab : c.exceptionTable.toList.map (fun h => (h.startPc, h.endPc, h.handlerPc, h.catchType)) = q_hC) (hRf : 61 ≤ R.frames) (hRl : 64 * 61 ≤ R.locals) (hRc : σ1.2.2.1 - k0 ≤ R.cells) (hRs : σ1.2.2.2 - w0 ≤ R.slots) (h : q_ev q_Mt 60 13 [.ref o] σ = some (.inr z, σ1)) (ho : σ.1 o = some (.inr (0, fs))) (hz : z = 1 ∨ z = 2) (hm1 : σ.2.2.1 ≤ σ1.2.2.1) (hm2 : σ.2.2.2 ≤ σ1.2.2.2)
    (kk : ∀ (xa n2 : Nat), σ.2.1 ≤ n2 → q_G p l e R s m args below meth c D q_cl ac s0.heap.size 3 k0 w0 Q (if z = 1 then 11 else 14, lo, [.ref xa], (σ1.1, n2, σ1.2.2))) : q_G p l e R s m args below meth c D q_cl ac s0.heap.size 3 k0 w0 Q (3, lo, [.ref o, .int 0, .ref q], σ) := by
  obtain ⟨hx, hb, hml, hown, hts, hns, hK, hB⟩ := Cx
  intro H locs ls h1 h2 h3 h4 h5 h6 T hT X
  dsimp only at h1 h2 h3 h5 h6 X
  obtain ⟨A0, hw0, -⟩ := id hw
  have hwd : ∀ w ∈ xWs, w.before args s = true := fun w hin => x_mv (x_ws_ok w hin) hk (hw0 w hin)
  have hP := q_P1 (h3.2 o _ ho).2
  obtain ⟨cellO, hcO, hstO, hclsO⟩ := va_recv hK hP (ci := 0) (q0 := 0) (q := ("PatternWalk", q_TPW, 7)) rfl rfl
  have hsel := hwd (.selects "PatternWalk" (q_yn 13) (q_yn 13)) (by decide +kernel)
  have hlk7 := hwd (.methodLink "PatternWalkLaw" 7 (q_yn 13)) (by decide +kernel)
  have hy : (q_yn 13).cls ≠ "java/lang/invoke/MethodHandle" ∧ (q_yn 13).cls ≠ "java/lang/invoke/VarHandle" := by decide +kernel
  have hpay := pay_in hts (q_goodC q_Ts_good x_zok)
  obtain ⟨mk, methM, hnamed, hmethM, hstM, habM⟩ := Cond.instanceMethod_spec (hwd (.instanceMethod (q_yn 13)) (by decide +kernel))
  obtain ⟨methM', cM, hmethM', -, -, -, -, -, -, hsigM⟩ := Cond.code_spec hnamed (hts _ x_zok.2.1)
  cases hmethM.symm.trans hmethM'
  obtain ⟨c9, r9, m9, q1, q2, q3, q4, kP, hkP, hkPi⟩ := Cond.selects_spec hsel
  cases hclsO.symm.trans q1
  cases (State.methodFound?_of_named hnamed hy).symm.trans q2
  cases hnamed.symm.trans q3
  have hselP : selectMethod e.platform s.vm cellO.cls mk = .method mk := by rw [Launch.admits_selectMethod X.admits]; exact q4
  have hlen0 : ([] : List Value).length = methM.sig.parameters.length := by
    have h9 := x_zok.2.2.2.1.2.2
    rw [hsigM] at h9
    exact (Option.some.inj h9).symm
  obtain ⟨vm₁, X₁, st1⟩ := X.invokevirtual hx hown hlk7 hnamed hmethM hstM hkP hkPi hy (a := o) (cell := cellO) (by rw [hT]; exact hcO) (fun z h => by rw [h] at hstO; cases hstO) hselP hmethM habM hkP hkPi (g := F0 m 3 ls [.ref o, .int 0, .ref q]) rfl (argsL := []) (rest := [.int 0, .ref q]) hlen0 rfl (by rw [hb]; exact d_Lc_3)
  have hW₁ := X₁.warmed
  have hpreU : xPre D ac s0 σ [.ref o] [Value.ref o].toArray (T.setVm vm₁) := by
    obtain ⟨g0, g1⟩ := q_pre (as := [.ref o]) q_Ns_isN hns hK h3 hB h4 (T.setVm vm₁) hT hW₁
    refine ⟨g0, g1, State.WarmedH.trans hk.1 hW₁, fun q hq => ?_⟩
    show T.heap[q]? = _
    rw [hT, h4.2.1 q (by omega) (Nat.not_le.mpr hq)]
    exact hk.2 q hq
  obtain ⟨v, t, L, ⟨ce, hL, hh, hvf, hce, hcv, hcls, hasg⟩, XB, hst⟩ := x_tcall X₁ (bytes := q_mPW_compile.1) (maxL := 2) (ret := some .int) (x_thrown (D := D) (ac := ac) (d := 59) hfl hw (by decide) h) (g := F0 m 3 ls [.int 0, .ref q]) (a := [Value.ref o].toArray) rfl (by show ls.size = _; rw [hml]; exact h1.1.trans h2) (by rw [hb]; exact d_Lc_3) (X₁.named hnamed)
    (by show 60 + 1 ≤ R.frames; omega) (by show 2 * 0 + (1 + (1 + 0)) + (2 + 11) + 64 * 60 ≤ R.locals; omega) (by show σ.2.2.1 - k0 + (σ1.2.2.1 - σ.2.2.1) ≤ _; omega) (by show σ.2.2.2 - w0 + (σ1.2.2.2 - σ.2.2.2) ≤ _; omega)
    (atoms_intro fun w hw => hpay w hw _ _ hW₁) (hpay _ List.mem_cons_self _ _ hW₁) (hpay _ (List.mem_cons_of_mem _ x_zok.2.2.1) _ _ hW₁) (x_blind _ _ _ _ hpreU) (k := σ1.2.2.1 - σ.2.2.1) (n := σ1.2.2.2 - σ.2.2.2)
    (E := fun v t L => ∃ ce : Cell, (∀ q ∈ L, s0.heap.size ≤ q.base) ∧ (∀ (a : Nat) (e : qE), σ1.1 a = some e → s0.heap.size ≤ a ∧ va_at D q_cl (a, q_conv ac e) t.heap) ∧ va_F (fun q : Nat => s0.heap.size ≤ q) T t ∧ t.heap[v]? = some ce ∧ ce.vm = .none ∧ vm₁.findClass (xN z) = some ce.cls ∧ vm₁.assignable ce.cls ce.cls = true)
    (fun oc t hq => by
      obtain ⟨xa, ce, L, r1, r2, r3, r4, r5, r6, r7, r8, r9⟩ := hq
      exact ⟨xa, L, r1, r2, ce, r3, r4, r5, r6, r7, r8, r9⟩)
  have hal : s.vm.Alike vm₁ := hW₁.alike
  have hcls' : s.vm.findClass (xN z) = some ce.cls := by rw [← hal.findClass]; exact hcls
  have hasg' : s.vm.assignable ce.cls ce.cls = true := by rw [← hal.assignable]; exact hasg
  have hpl : e.platform.magicAccessors = ({} : Platform).magicAccessors := by rw [X.admits.platform]
  obtain ⟨x1, x2, hxs, cv1, cv2, hp1, hp2, ct1, ct2⟩ := x_tab htab
  have hvf1 : T.heap.size ≤ t.heap.size := hvf.1
  have hS' : va_S (fun q : Nat => s0.heap.size ≤ q) s.heap t.heap (locs ++ L) := by
    refine ⟨Nat.le_trans h4.1 (by rw [← hT]; exact hvf1), fun q q1 q2 => ?_, fun q hq => ?_⟩
    · rw [hvf.2 q (by rw [hT]; exact Nat.lt_of_lt_of_le q1 h4.1) q2, hT]
      exact h4.2.1 q q1 q2
    · rcases List.mem_append.mp hq with h9 | h9
      · exact h4.2.2 q h9
      · exact hL q h9
  have hn2 : σ.2.1 ≤ t.heap.size := by rw [← h3.1, ← hT]; exact hvf1
  have eC : σ.2.2.1 - k0 + (σ1.2.2.1 - σ.2.2.1) = σ1.2.2.1 - k0 := by omega
  have eS : σ.2.2.2 - w0 + (σ1.2.2.2 - σ.2.2.2) = σ1.2.2.2 - w0 := by omega
  rw [eC, eS] at XB
  generalize hU : (({ T.setVm vm₁ with heap := t.heap, slotsUsed := t.slotsUsed } : State).setVm t.vm) = U' at XB hst
  have hUh : U'.heap = t.heap := by rw [← hU]; rfl
  have hgo := kk v t.heap.size hn2 t.heap (locs ++ L) ls h1 h2 ⟨rfl, hh⟩ hS' (Nat.le_trans h5 hm1) (Nat.le_trans h6 hm2)
  have hl13 : (Cond.classLink "PatternWalkLaw" 13 xIAE).before args s = true := hwd _ (by decide +kernel)
  have hl15 : (Cond.classLink "PatternWalkLaw" 15 xISE).before args s = true := hwd _ (by decide +kernel)
  obtain ⟨c1, f1, l1⟩ := Cond.classLink_spec hown hl13 e.platform hpl
  obtain ⟨c2, f2, l2⟩ := Cond.classLink_spec hown hl15 e.platform hpl
  have hzz : (s.vm.assignable ce.cls c1 = true ∧ (if z = 1 then 11 else 14) = x1.handlerPc) ∨ (s.vm.assignable ce.cls c1 = false ∧ s.vm.assignable ce.cls c2 = true ∧ (if z = 1 then 11 else 14) = x2.handlerPc) := by
    rcases hz with hz | hz
    · subst hz
      cases f1.symm.trans hcls'
      exact Or.inl ⟨hasg', by rw [hp1]; rfl⟩
    · subst hz
      cases f2.symm.trans hcls'
      refine Or.inr ⟨?_, hasg', by rw [hp2]; rfl⟩
      have hv := Cond.holds_not_iff.mp (x_ncast (A' := args) hk hnc)
      simp only [Cond.value, f1, f2] at hv
      exact Option.some.inj hv
  obtain ⟨vm', hW', hf⟩ := x_find (e := e) (s0 := s) (S := (U'.setTop (F0 m 3 ls [.int 0, .ref q])).pushFrame (.throwing v)) (f := F0 m 3 ls [.int 0, .ref q]) (a := v) (meth := meth) (code := c) (cell := ce) XB.method' XB.code hxs cv1 cv2 (by rw [ct1]; decide) (by rw [ct2]; decide) XB.warmed (by rw [ct1]; exact l1) (by rw [ct2]; exact l2) (by show U'.heap[v]? = _; rw [hUh]; exact hce) hcv (Vm.classAt_of_findClass hcls') hzz
  obtain ⟨t2, a1, b1⟩ := hgo (U'.setVm vm') hUh (XB.noted hW')
  refine ⟨t2, st1 _ (fun acts => ?_), b1⟩
  rw [doInvoke_state]
  exact hst.trans (x_into XB rfl hf a1)
end XS
