/-! THROWING, 5: the call that throws, and the catch -/
def xPre (D : va_G) (ac : Nat → ClassId) (s0 : State) (σ : qH) (as : List Value) : Array Value → State → Prop := va_Pc as (fun U => q_Pre D q_cl ac s0.heap.size q_Ns σ U ∧ xKeep s0 U)
theorem x_blind {D : va_G} {ac : Nat → ClassId} {s0 : State} {σ : qH} {as : List Value} : FrameBlind (xPre D ac s0 σ as) := by
  intro a U g mk h
  obtain ⟨h0, h1, h2⟩ := h
  obtain ⟨g0, g1⟩ := q_blind (D := D) (cl := q_cl) (ac := ac) (B0 := s0.heap.size) (Ns := q_Ns) (as := as) (σ1 := σ) q_Ns_isN a U g mk ⟨h0, h1⟩
  exact ⟨g0, g1, h2⟩
def xPost (D : va_G) (ac : Nat → ClassId) (B0 : Nat) (cls : String) (h : Nat → Option qE) (mc ms : Nat) : Pt → Array Value → Addr → Pt → Prop := fun A _ v B => ∃ (ce : Cell) (L : List Loc), B.locs = A.locs ++ L ∧ B.cells = A.cells + mc ∧ B.slots = A.slots + ms ∧ (∀ q ∈ L, B0 ≤ q.base) ∧ (∀ (a : Nat) (e : qE), h a = some e → B0 ≤ a ∧ va_at D q_cl (a, q_conv ac e) B.U.heap) ∧ va_F (fun q : Nat => B0 ≤ q) A.U B.U ∧ B.U.heap[v]? = some ce ∧ ce.vm = .none ∧ A.U.vm.findClass cls = some ce.cls ∧ A.U.vm.assignable ce.cls ce.cls = true
theorem x_zok : q_zok q_Ts q_yn q_Mt 13 0 q_mPW_compile := by
  obtain ⟨⟨M, hz⟩, -⟩ := q_pokLa.2.2.1 7 _ pM_La_7
  have : M = q_mPW_compile := Option.some.inj (hz.1.symm.trans rfl)
  subst this
  exact hz
section XS
variable {p : Program} {l : Launch} {e : Env} {R : Room} {s0 s : State} {m : MethodId} {args : Array Value} {below : List Frame} {meth : Method} {c : Code} {D : va_G} {ac : Nat → ClassId} {k0 w0 : Nat} {lo : qL} {σ σ1 : qH} {Q : State → Prop}
theorem x_backT {o z : Nat} (hts : ∀ w ∈ q_Ts, w.before args s = true) (hfl : l.flags = flags0) (hw : xW0 s0) (h : q_ev q_Mt 60 13 [.ref o] σ = some (.inr z, σ1)) (hRf : 61 ≤ R.frames) (hRl : 64 * 61 ≤ R.locals) :
    BackT l R p e below s args (q_yn 13) 3 8 (PreOf R (σ1.2.2.1 - σ.2.2.1) (σ1.2.2.2 - σ.2.2.2) (xPre D ac s0 σ [.ref o])) (xPost D ac s0.heap.size (xN z) σ1.1 (σ1.2.2.1 - σ.2.2.1) (σ1.2.2.2 - σ.2.2.2)) := by
  have hG := q_goodC q_Ts_good x_zok
  have hpay := pay_in hts hG
  refine BackT.of_free (E := fun a first oc t L k n => k = σ1.2.2.1 - σ.2.2.1 ∧ n = σ1.2.2.2 - σ.2.2.2 ∧ (∀ q ∈ L, s0.heap.size ≤ q.base) ∧ (∀ (a : Nat) (e : qE), σ1.1 a = some e → s0.heap.size ≤ a ∧ va_at D q_cl (a, q_conv ac e) t.heap) ∧ va_F (fun q : Nat => s0.heap.size ≤ q) first t ∧ ∃ (xa : Addr) (ce : Cell), oc = .threw xa ∧ t.heap[xa]? = some ce ∧ ce.vm = .none ∧ first.vm.findClass (xN z) = some ce.cls ∧ first.vm.assignable ce.cls ce.cls = true)
    (bytes := q_mPW_compile.1) (maxL := 2) (ret := some .int) (x_thrown (D := D) (ac := ac) (d := 59) hfl hw (by decide) h) ?_ ?_ ?_ ?_ (fun _ _ _ _ _ _ _ _ _ => trivial) ?_ ?_
  · show 60 + 1 ≤ R.frames
    omega
  · show 8 + (2 + 11) + 64 * 60 ≤ R.locals
    omega
  · intro m meth c A a X hp
    exact ⟨atoms_intro fun w hw => hpay w hw _ _ X.warmed, hpay _ List.mem_cons_self _ _ X.warmed, hpay _ (List.mem_cons_of_mem _ x_zok.2.2.1) _ _ X.warmed, hp.1, hp.2.1⟩
  · intro m meth c A a g mk X hp
    exact x_blind _ _ _ _ hp.2.2
  · intro a first oc t hq
    obtain ⟨xa, ce, L, h1, h2, h3, h4, h5, h6, h7, h8, h9⟩ := hq
    exact ⟨L, _, _, h2, rfl, rfl, h3, h4, h5, xa, ce, h1, h6, h7, h8, h9⟩
  · intro m meth c A a g mk v t L k n X hp hq hF hE
    obtain ⟨h1, h2, h3, h4, h5, xa, ce, h6, h7, h8, h9, h10⟩ := hE
    subst h1
    subst h2
    cases h6
    exact ⟨ce, L, rfl, rfl, rfl, h3, h4, h5, h7, h8, h9, h10⟩
theorem x_tab {xs : List ExceptionTableEntry} (h : xs.map (fun h => (h.startPc, h.endPc, h.handlerPc, h.catchType)) = q_hC) : ∃ x1 x2 : ExceptionTableEntry, xs = [x1, x2] ∧ covers x1 3 = true ∧ covers x2 3 = true ∧ x1.handlerPc = 11 ∧ x2.handlerPc = 14 ∧ x1.catchType = 13 ∧ x2.catchType = 15 := by
  unfold q_hC at h
  cases xs with
  | nil => simp at h
  | cons x1 xs =>
    cases xs with
    | nil => simp at h
    | cons x2 r =>
      cases r with
      | cons x3 r => simp at h
      | nil =>
        simp only [List.map_cons, List.map_nil, List.cons.injEq, Prod.mk.injEq, and_true] at h
        obtain ⟨⟨a1, a2, a3, a4⟩, b1, b2, b3, b4⟩ := h
        exact ⟨x1, x2, rfl, by simp [covers, a1, a2], by simp [covers, b1, b2], a3, b3, a4, b4⟩
set_option maxHeartbeats 4000000 in
theorem x_site {o q z : Nat} {fs : List Value} (hw : xW0 s0) {A9 : Array Value} (hnc : (Cond.not (.castable xISE xIAE)).before A9 s0 = true) (hk : xKeep s0 s) (hfl : l.flags = flags0) (Cx : q_Cx p s m args c D q_cl ac s0.heap.size "PatternWalkLaw" q_mLc.1 3 q_Ts q_Ns)
    (htab : c.exceptionTable.toList.map (fun h => (h.startPc, h.endPc, h.handlerPc, h.catchType)) = q_hC) (hRf : 61 ≤ R.frames) (hRl : 64 * 61 ≤ R.locals) (hRc : σ1.2.2.1 - k0 ≤ R.cells) (hRs : σ1.2.2.2 - w0 ≤ R.slots) (h : q_ev q_Mt 60 13 [.ref o] σ = some (.inr z, σ1)) (ho : σ.1 o = some (.inr (0, fs))) (hz : z = 1 ∨ z = 2) (hm1 : σ.2.2.1 ≤ σ1.2.2.1) (hm2 : σ.2.2.2 ≤ σ1.2.2.2)
    (kk : ∀ (xa n2 : Nat), σ.2.1 ≤ n2 → q_G p l e R s m args below meth c D q_cl ac s0.heap.size 3 k0 w0 Q (if z = 1 then 11 else 14, lo, [.ref xa], (σ1.1, n2, σ1.2.2))) : q_G p l e R s m args below meth c D q_cl ac s0.heap.size 3 k0 w0 Q (3, lo, [.ref o, .int 0, .ref q], σ) := by
  obtain ⟨hx, hb, hml, hown, hts, hns, hK, hB⟩ := Cx
  intro H locs ls h1 h2 h3 h4 h5 h6 T hT X
  dsimp only at h1 h2 h3 h5 h6 X
  obtain ⟨A0, hw0, -⟩ := id hw
  have hwd : ∀ w ∈ xWs, w.before args s = true := fun w hin => x_mv (x_ws_ok w hin) hk (hw0 w hin)
  have hP := q_P1 (h3.2 o _ ho).2
  obtain ⟨cellO, hcO, hstO, hclsO⟩ := va_recv hK hP (ci := 0) (q0 := 0) (q := ("PatternWalk", q_TPW, 7)) rfl rfl
  have hsel := hwd (.selects "PatternWalk" (q_yn 13) (q_yn 13)) (by decide +kernel)
  have hnf : NotFace s (q_yn 13) := by
    obtain ⟨c9, r9, m9, -, -, g3, -, k9, g5, g6⟩ := Cond.selects_spec hsel
    intro r0 hr0
    cases g3.symm.trans hr0
    exact ⟨k9, g5, g6⟩
  obtain ⟨v, vm₁, ⟨U', l2, c2, s2⟩, hW₁, XB, ⟨ce, L, e1, e2, e3, hL, hh, hvf, hce, hcv, hcls, hasg⟩, hst⟩ := X.virtualThrows hx (own := "PatternWalkLaw") (C := "PatternWalk") (index := 7) (y := q_yn 13) (z := q_yn 13) hown (hwd (.methodLink "PatternWalkLaw" 7 (q_yn 13)) (by decide +kernel)) (hwd (.declares (q_yn 13)) (by decide +kernel)) hnf hsel (hwd (.instanceMethod (q_yn 13)) (by decide +kernel)) (by decide +kernel)
    (x_backT (D := D) (ac := ac) hts hfl hw h hRf hRl) (b := o) (cB := cellO.cls) hclsO ⟨cellO, by rw [hT]; exact hcO, rfl, hstO⟩ (g := F0 m 3 ls [.ref o, .int 0, .ref q]) rfl (by show ls.size = _; rw [hml]; exact h1.1.trans h2) (s₀ := T.setTop (F0 m 3 ls [.ref o, .int 0, .ref q])) (Steps.refl _) (argsL := []) (rest := [.int 0, .ref q])
    (fun sig hs => by
      have h9 := x_zok.2.2.2.1.2.2
      rw [hs] at h9
      exact (Option.some.inj h9).symm) rfl (Nat.le_of_ble_eq_true rfl) (by rw [hb]; exact d_Lc_3)
    (fun vm₁ hW₁ => ⟨by show σ.2.2.1 - k0 + _ ≤ _; omega, by show σ.2.2.2 - w0 + _ ≤ _; omega, by
      obtain ⟨g0, g1⟩ := q_pre (as := [.ref o]) q_Ns_isN hns hK h3 hB h4 (T.setVm vm₁) hT hW₁
      refine ⟨g0, g1, State.WarmedH.trans hk.1 hW₁, fun q hq => ?_⟩
      show T.heap[q]? = _
      rw [hT, h4.2.1 q (by omega) (Nat.not_le.mpr hq)]
      exact hk.2 q hq⟩)
  dsimp only [Pt.U, Pt.locs, Pt.cells, Pt.slots] at XB e1 e2 e3 hh hvf hce hcls hasg hst
  subst e1
  subst e2
  subst e3
  have hal : s.vm.Alike vm₁ := hW₁.alike
  have hcls' : s.vm.findClass (xN z) = some ce.cls := by rw [← hal.findClass]; exact hcls
  have hasg' : s.vm.assignable ce.cls ce.cls = true := by rw [← hal.assignable]; exact hasg
  have hpl : e.platform.magicAccessors = ({} : Platform).magicAccessors := by rw [X.admits.platform]
  obtain ⟨x1, x2, hxs, cv1, cv2, hp1, hp2, ct1, ct2⟩ := x_tab htab
  have hvf1 : T.heap.size ≤ U'.heap.size := hvf.1
  have hS' : va_S (fun q : Nat => s0.heap.size ≤ q) s.heap U'.heap (locs ++ L) := by
    refine ⟨Nat.le_trans h4.1 (by rw [← hT]; exact hvf1), fun q q1 q2 => ?_, fun q hq => ?_⟩
    · rw [hvf.2 q (by show q < T.heap.size; rw [hT]; exact Nat.lt_of_lt_of_le q1 h4.1) q2]
      show T.heap[q]? = _
      rw [hT]
      exact h4.2.1 q q1 q2
    · rcases List.mem_append.mp hq with h9 | h9
      · exact h4.2.2 q h9
      · exact hL q h9
  have hn2 : σ.2.1 ≤ U'.heap.size := by rw [← h3.1, ← hT]; exact hvf1
  have eC : σ.2.2.1 - k0 + (σ1.2.2.1 - σ.2.2.1) = σ1.2.2.1 - k0 := by omega
  have eS : σ.2.2.2 - w0 + (σ1.2.2.2 - σ.2.2.2) = σ1.2.2.2 - w0 := by omega
  rw [eC, eS] at XB
  have hgo := kk v U'.heap.size hn2 U'.heap (locs ++ L) ls h1 h2 ⟨rfl, hh⟩ hS' (Nat.le_trans h5 hm1) (Nat.le_trans h6 hm2)
  have hl13 : (Cond.classLink "PatternWalkLaw" 13 xIAE).before args s = true := hwd _ (by decide +kernel)
  have hl15 : (Cond.classLink "PatternWalkLaw" 15 xISE).before args s = true := hwd _ (by decide +kernel)
  rcases hz with hz | hz
  · subst hz
    obtain ⟨hend, hk0⟩ := XB.catches_of_link (own := "PatternWalkLaw") (name := xIAE) hown (x := x1) (by rw [ct1]; decide) (by rw [ct1]; exact hl13) hcls' hasg'
    obtain ⟨vm', XV, hst2⟩ := XB.thenCaughtThrough v (g := F0 m 3 ls [.int 0, .ref q]) rfl hst hce (by rw [hcv]; rfl) hk0 [] x1 [x2] hxs (fun y hy => by cases hy) cv1 hend
    obtain ⟨t2, a1, b1⟩ := hgo (U'.setVm vm') rfl XV
    rw [hp1] at hst2
    exact ⟨t2, hst2.trans a1, b1⟩
  · subst hz
    obtain ⟨hend, hk0⟩ := XB.catches_of_link (own := "PatternWalkLaw") (name := xISE) hown (x := x2) (by rw [ct2]; decide) (by rw [ct2]; exact hl15) hcls' hasg'
    have hpass : ∀ y ∈ [x1], RowPassed e.platform s m.cls 3 ce.cls y := by
      intro y hy
      rw [List.mem_singleton] at hy
      subst hy
      exact RowPassed.of_words hpl (args := args) hown (by rw [ct1]; decide) (by rw [ct1]; exact hl13) (tn := xISE) hcls' (x_ncast hk hnc)
    obtain ⟨vm', XV, hst2⟩ := XB.thenCaughtThrough v (g := F0 m 3 ls [.int 0, .ref q]) rfl hst hce (by rw [hcv]; rfl) hk0 [x1] x2 [] hxs hpass cv2 hend
    obtain ⟨t2, a1, b1⟩ := hgo (U'.setVm vm') rfl XV
    rw [hp2] at hst2
    exact ⟨t2, hst2.trans a1, b1⟩
end XS
