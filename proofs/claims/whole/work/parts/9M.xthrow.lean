/-! THROWING, 3: PatternWalk.compile throws -/
def xWs : List Cond := Bundle.ownAtoms "PatternWalk" 60 xISE xUp ++ (Bundle.ownAtoms "PatternWalk" 74 xIAE xUp ++ [.classLink "PatternWalk" 56 xISE, .instantiable xISE 6, .initialized xISE, .classLink "PatternWalk" 70 xIAE, .instantiable xIAE 6, .initialized xIAE, .classLink "PatternWalkLaw" 13 xIAE, .classLink "PatternWalkLaw" 15 xISE, .declares (q_yn 13), .instanceMethod (q_yn 13), .selects "PatternWalk" (q_yn 13) (q_yn 13), .methodLink "PatternWalkLaw" 7 (q_yn 13), .initialized "PatternWalk"])
theorem x_ws_ok : ∀ w ∈ xWs, xOk w = true := by decide +kernel
theorem x_ws_in : ∀ w ∈ xWs, w ∈ lw_tbl ∨ w = xR1 ∨ w = xR2 ∨ w = .declares (q_yn 13) := by decide +kernel
/-- the words that a throw needs, at the law's own start -/
def xW0 (s0 : State) : Prop := ∃ A : Array Value, (∀ w ∈ xWs, w.before A s0 = true) ∧ (Cond.stringRef "PatternWalk" 58 "there is a program").before A s0 = true ∧ (Cond.stringRef "PatternWalk" 72 "no pattern").before A s0 = true ∧ (Cond.stringRef "PatternWalk" 81 "too many instructions").before A s0 = true
def xFE (st : State) (oc : Outcome) (t : State) (L : List Loc) (k n : Nat) : Prop := (∃ x, oc = .threw x) ∧ st.WarmedH t.vm ∧ st.sameButNew ({ t with vm := st.vm } : State) L k n
def xQ (D : va_G) (ac : Nat → ClassId) (B0 : Nat) (cls : String) (h : Nat → Option qE) (k n : Nat) : Array Value → State → Outcome → State → Prop := fun _ st oc t => ∃ (xa : Addr) (ce : Cell) (L : List Loc), oc = .threw xa ∧ xFE st oc t L k n ∧ (∀ q ∈ L, B0 ≤ q.base) ∧ (∀ (a : Nat) (e : qE), h a = some e → B0 ≤ a ∧ va_at D q_cl (a, q_conv ac e) t.heap) ∧ va_F (fun q : Nat => B0 ≤ q) st t ∧ t.heap[xa]? = some ce ∧ ce.vm = .none ∧ st.vm.findClass cls = some ce.cls ∧ st.vm.assignable ce.cls ce.cls = true
def xEnd (D : va_G) (ac : Nat → ClassId) (B0 : Nat) (cls : String) (h : Nat → Option qE) (k n : Nat) (below : List Frame) (args : Array Value) (s : State) : State → Prop := fun t => ∃ o, t.status = .running ∧ Ended t below o ∧ xQ D ac B0 cls h k n args s o t
theorem x_same_nil {s t : State} {k n : Nat} (h : s.sameButNew t [] k n) {q : Nat} (hq : q < s.heap.size) : t.heap[q]? = s.heap[q]? := by
  have h0 : s.heap[q]? = some s.heap[q] := Array.getElem?_eq_getElem hq
  obtain ⟨c', h1, h2, h3, h4⟩ := h.2.2.2.2.2 q _ h0
  have h5 : c'.slots = s.heap[q].slots := by
    apply Array.ext_getElem?
    intro i
    exact h4 i (by simp)
  rw [h0, h1, h2, h5]
section XE
variable {p : Program} {l : Launch} {e : Env} {R : Room} {s0 s : State} {m : MethodId} {args : Array Value} {below : List Frame} {meth : Method} {c : Code} {D : va_G} {ac : Nat → ClassId} {k0 w0 : Nat} {lo : qL} {σ : qH}
set_option maxHeartbeats 4000000 in
theorem x_end (hw : xW0 s0) (hk : xKeep s0 s) (hB : s0.heap.size ≤ s.heap.size) (hfl : l.flags = flags0) (hexec : p.tables.exec = Jvm.exec) (hb : c.code = q_mPW_compile.1) (hml : c.maxLocals = 2) (hown : s.vm.findClass "PatternWalk" = some m.cls) (hnh : c.exceptionTable.isEmpty = true) (hlocks : meth.locks = false)
    {pc ci si ic : Nat} {cls txt : String} (hd0 : decode q_mPW_compile.1 pc = .ok (.new ci, 3)) (hd1 : decode q_mPW_compile.1 (pc + 3) = .ok (.dup, 1)) (hd2 : decode q_mPW_compile.1 (pc + 3 + 1) = .ok (.ldc si, 2)) (hd3 : decode q_mPW_compile.1 (pc + 3 + 1 + 2) = .ok (.invokespecial ic, 3)) (hd4 : decode q_mPW_compile.1 (pc + 3 + 1 + 2 + 3) = .ok (.athrow, 1))
    (hfit : Bundle.fit cls = true) (w1 : ∀ w ∈ Bundle.ownAtoms "PatternWalk" ic cls xUp, w ∈ xWs) (w2 : Cond.classLink "PatternWalk" ci cls ∈ xWs) (w3 : Cond.initialized cls ∈ xWs) (w4 : Cond.instantiable cls 6 ∈ xWs) {A : Array Value} (w5 : (Cond.stringRef "PatternWalk" si txt).before A s0 = true)
    (hRf : 6 ≤ R.frames) (hRl : 128 ≤ R.locals) (hRc : σ.2.2.1 + 1 - k0 ≤ R.cells) (hRs : σ.2.2.2 + 6 - w0 ≤ R.slots) :
    q_G p l e R s m args below meth c D q_cl ac s0.heap.size 2 k0 w0 (xEnd D ac s0.heap.size cls σ.1 (σ.2.2.1 + 1 - k0) (σ.2.2.2 + 6 - w0) below args s) (pc, lo, [], σ) := by
  intro H locs ls h1 h2 h3 h4 h5 h6 T hT X
  dsimp only at h1 h2 h3 h5 h6 X
  have hkT : xKeep s0 T := xKeep.of hk hB X hT h4
  have X' := x_rebase X (by omega) (by omega)
  obtain ⟨A0, hw0, -⟩ := hw
  have htr : e.platform.stackTraces = false := Launch.traces_off hfl X.admits
  generalize hT0 : T.setFrames (.invoking m args :: below) = T0 at X'
  have hkT0 : xKeep s0 T0 := by rw [← hT0]; exact hkT
  have hwd : ∀ w ∈ xWs, w.before args T0 = true := fun w hin => x_mv (x_ws_ok w hin) hkT0 (hw0 w hin)
  have hstr : (Cond.stringRef "PatternWalk" si txt).before args T0 = true := x_str hkT0 w5
  have hvm0 : T0.vm = T.vm := by rw [← hT0]; rfl
  have hown' : T0.vm.findClass "PatternWalk" = some m.cls := by rw [hvm0, X.warmed.alike.findClass]; exact hown
  have hheap0 : T0.heap = T.heap := by rw [← hT0]; rfl
  obtain ⟨vm₁, cX, kX, hfX, hkX, -, -, X₁, st1⟩ := X'.newCold hexec (own := "PatternWalk") (C := cls) (index := ci) (n := 6) hown' (hwd _ w2) (hwd _ w4) (hwd _ w3) (g := F0 m pc ls []) rfl (by rw [hb]; exact hd0) (by show 0 + 1 ≤ R.cells - _; omega) (by show 0 + 6 ≤ R.slots - _; omega)
  generalize hT1 : (T.setVm vm₁).pushCell { cls := cX, slots := kX.instanceTypes.map defaultValue, vm := .none } = T1 at X₁ st1
  have hcellA : T1.heap[T.heap.size]? = some (freshCell cX kX) := by rw [← hT1]; exact State.heap_pushCell_size _ _
  obtain ⟨k9, cf9, i9, sa, -, -, -, -, -, hev⟩ := Cond.stringRef_spec hown' hstr
  have st2 := X₁.ldcString hexec (own := "PatternWalk") (text := txt) (index := si) hown' hstr hev (g := F0 m (pc + 3 + 1) ls [.ref T.heap.size, .ref T.heap.size]) rfl (by rw [hb]; exact hd2)
  obtain ⟨U, hsteps, hrun, hend, hW, hsame, ce, hce, K⟩ := X₁.ctorThrowS hexec htr (own := "PatternWalk") (cls := cls) (names := xUp) (ic := ic) hown' hfit (by decide +kernel) (fun y hy => hwd y (w1 y hy)) (fun y hy => by cases hy)
    hfX hkX hcellA (by rw [hheap0]; exact Nat.le_refl _) (msg := .ref sa) rfl (g := F0 m (pc + 3 + 1 + 2) ls [.ref sa, .ref T.heap.size, .ref T.heap.size]) rfl (by show ls.size = _; rw [hml]; exact h1.1.trans h2) rfl rfl (rest := []) rfl
    (by rw [hb]; exact hd3) (by rw [hb]; exact hd4) (covers_of_empty hnh _) (by show 2 + 3 < R.frames; omega) (by simp [JFrame.monitorRoom, Value.category, xUp]; omega) hlocks
  have hsame1 : T.sameButNew ({ U with vm := T.vm } : State) [] (0 + 1) (0 + 6) := by
    obtain ⟨z1, z2⟩ := hsame
    rw [hvm0] at z1 z2
    rw [hheap0] at z2
    refine ⟨?_, ?_⟩
    · rw [← hT0, State.setFrames_setFrames] at z1
      exact z1
    · rw [← hT0] at z2
      exact z2
  have hkeep : ∀ q : Nat, q < T.heap.size → U.heap[q]? = T.heap[q]? := fun q hq => x_same_nil hsame1 hq
  have hsz : T.heap.size ≤ U.heap.size := hsame1.2.1
  have hal : s.vm.Alike T0.vm := by rw [hvm0]; exact X.warmed.alike
  have hWU : T.WarmedH U.vm := by rw [← hT0] at hW; exact hW
  refine ⟨U, ?_, .threw T.heap.size, hrun, hend, T.heap.size, ce, locs, rfl, ⟨⟨_, rfl⟩, State.WarmedH.trans X.warmed hWU, ?_⟩, h4.2.2, ?_, ?_, hce, K.vm, ?_, ?_⟩
  · refine st1 _ ?_
    show Steps p.tables e below (T1.setTop (F0 m (pc + 3) ls [.ref T.heap.size])) _
    jvm_step X₁.here [X₁.here.top, hexec, hb, hd1, Value.category]
    exact st2 _ hsteps
  · have hz := X.same.trans (hsame1.setVm s.vm)
    rw [List.append_nil] at hz
    have e1 : σ.2.2.1 - k0 + (0 + 1) = σ.2.2.1 + 1 - k0 := by omega
    have e2 : σ.2.2.2 - w0 + (0 + 6) = σ.2.2.2 + 6 - w0 := by omega
    rw [e1, e2] at hz
    exact hz
  · intro a ea ha
    obtain ⟨z1, z2⟩ := h3.2 a ea ha
    exact ⟨z1, z2.kept (by rw [← hT]; exact hkeep a (by rw [hT]; exact z2.lt))⟩
  · refine ⟨Nat.le_trans h4.1 (by rw [← hT]; exact hsz), fun q hq1 hq2 => ?_⟩
    rw [hkeep q (by rw [hT]; exact Nat.lt_of_lt_of_le hq1 h4.1), hT]
    exact h4.2.1 q hq1 hq2
  · rw [← hal.findClass]; exact K.cls
  · rw [← hal.assignable]; exact K.self
theorem x_run {d : Nat} {z : Nat} {σ' : qH} (hw : xW0 s0) (hk : xKeep s0 s) (hfl : l.flags = flags0) (hnh : c.exceptionTable.isEmpty = true) (hlocks : meth.locks = false) (Cx : q_Cx p s m args c D q_cl ac s0.heap.size "PatternWalk" q_mPW_compile.1 2 q_Ts q_Ns) (hRf : d + 1 ≤ R.frames) (hRl : 64 * (d + 1) ≤ R.locals) (hd6 : 5 ≤ d) (hRc : σ'.2.2.1 - k0 ≤ R.cells) (hRs : σ'.2.2.2 - w0 ≤ R.slots) :
    ∀ (n : Nat) (x : qS), (x.1, x.2.2.1.length) ∈ xD → q_run (q_ev q_Mt d) q_mPW_compile n x = some (.inr z, σ') → (z = 1 ∨ z = 2) ∧ q_G p l e R s m args below meth c D q_cl ac s0.heap.size 2 k0 w0 (xEnd D ac s0.heap.size (xN z) σ'.1 (σ'.2.2.1 - k0) (σ'.2.2.2 - w0) below args s) x := by
  have hmo := x_mono l D ac d
  have hrt := x_rt (x_mono l D ac) d
  obtain ⟨hx, hb, hml, hown, hts, hns, hK, hB⟩ := id Cx
  obtain ⟨A, hw0, hs1, hs2, hs3⟩ := id hw
  intro n
  induction n with
  | zero => intro x hi h; cases h
  | succ n ih =>
    intro x hi h
    obtain ⟨pc, lo, st, σ⟩ := x
    simp only [q_run] at h
    cases hs : q_step (q_ev q_Mt d) q_mPW_compile (pc, lo, st, σ) with
    | none => rw [hs] at h; cases h
    | some r =>
      rw [hs] at h
      cases r with
      | inl x1 =>
        have hi1 := x_dep hrt hi hs
        obtain ⟨hz, hg⟩ := ih x1 hi1 h
        refine ⟨hz, ?_⟩
        have hm1 := q_run_mono hmo _ _ _ h
        dsimp only at hm1
        unfold q_step at hs
        dsimp only at hs
        split at hs
        · rename_i i hins
          unfold q_ins at hins
          split at hins
          · rename_i i' n' hdec
            split at hins
            · rename_i hn
              cases hins
              exact q_ok_ex Cx (fun z => by cases z) q_Ts_good q_Ns_isN (q_true d) q_pokPW q_arrs hRf hRl (by omega) (by omega) hdec hn hs hg
            · cases hins
          · cases hins
        · cases hs
      | inr o1 =>
        have ho : o1 = (.inr z, σ') := Option.some.inj h
        subst ho
        unfold q_step at hs
        dsimp only at hs
        split at hs
        · rename_i i hins
          unfold q_ins at hins
          split at hins
          · rename_i i' n' hdec
            split at hins
            · rename_i hn
              cases hins
              rcases q_ex_in hmo hs with ⟨x1, g1, -⟩ | ⟨-, v, g1⟩ | ⟨z1, k1, g0, gk, g1⟩
              · cases g1
              · cases g1
              · cases g1
                subst g0
                simp only [xD, List.mem_cons, Prod.mk.injEq, List.not_mem_nil, or_false] at hi
                rcases hi with ⟨e, hl⟩ | ⟨e, hl⟩ | ⟨e, hl⟩ | ⟨e, hl⟩ | ⟨e, hl⟩ | ⟨e, hl⟩ | ⟨e, hl⟩ | ⟨e, hl⟩ | ⟨e, hl⟩ | ⟨e, hl⟩ | ⟨e, hl⟩ | ⟨e, hl⟩ | ⟨e, hl⟩ | ⟨e, hl⟩ | ⟨e, hl⟩ | ⟨e, hl⟩ | ⟨e, hl⟩ | ⟨e, hl⟩ | ⟨e, hl⟩ | ⟨e, hl⟩ | ⟨e, hl⟩ | ⟨e, hl⟩ | ⟨e, hl⟩ | ⟨e, hl⟩ | ⟨e, hl⟩ | ⟨e, hl⟩ | ⟨e, hl⟩ | ⟨e, hl⟩ | ⟨e, hl⟩ | ⟨e, hl⟩ | ⟨e, hl⟩ | ⟨e, hl⟩ | ⟨e, hl⟩ | ⟨e, hl⟩ | ⟨e, hl⟩ | ⟨e, hl⟩ | ⟨e, hl⟩ | ⟨e, hl⟩ | ⟨e, hl⟩
                · subst e; cases d_PW_compile_0.symm.trans hdec
                · subst e; cases d_PW_compile_1.symm.trans hdec
                · subst e; cases d_PW_compile_4.symm.trans hdec
                · subst e; cases d_PW_compile_7.symm.trans hdec
                · subst e
                  cases d_PW_compile_10.symm.trans hdec
                  cases List.eq_nil_of_length_eq_zero hl
                  have hz : (2 : Nat) = z := Sum.inr.inj (Option.some.inj ((show q_mPW_compile.2.2.2.2.2.1 56 = some (.inr 2) from rfl).symm.trans gk))
                  subst hz
                  refine ⟨Or.inr rfl, x_end (cls := xISE) hw hk hB hfl hx hb hml hown hnh hlocks d_PW_compile_10 d_PW_compile_13 d_PW_compile_14 d_PW_compile_16 d_PW_compile_19 (by decide +kernel) (by decide +kernel) (by decide +kernel) (by decide +kernel) (by decide +kernel) hs1 (by omega) (by omega) hRc hRs⟩
                · subst e; cases d_PW_compile_20.symm.trans hdec
                · subst e; cases d_PW_compile_21.symm.trans hdec
                · subst e; cases d_PW_compile_24.symm.trans hdec
                · subst e; cases d_PW_compile_25.symm.trans hdec
                · subst e; cases d_PW_compile_28.symm.trans hdec
                · subst e; cases d_PW_compile_31.symm.trans hdec
                · subst e; cases d_PW_compile_32.symm.trans hdec
                · subst e; cases d_PW_compile_33.symm.trans hdec
                · subst e; cases d_PW_compile_34.symm.trans hdec
                · subst e; cases d_PW_compile_37.symm.trans hdec
                · subst e; cases d_PW_compile_40.symm.trans hdec
                · subst e; cases d_PW_compile_43.symm.trans hdec
                · subst e; cases d_PW_compile_44.symm.trans hdec
                · subst e; cases d_PW_compile_47.symm.trans hdec
                · subst e; cases d_PW_compile_48.symm.trans hdec
                · subst e
                  cases d_PW_compile_51.symm.trans hdec
                  cases List.eq_nil_of_length_eq_zero hl
                  have hz : (1 : Nat) = z := Sum.inr.inj (Option.some.inj ((show q_mPW_compile.2.2.2.2.2.1 70 = some (.inr 1) from rfl).symm.trans gk))
                  subst hz
                  refine ⟨Or.inl rfl, x_end (cls := xIAE) hw hk hB hfl hx hb hml hown hnh hlocks d_PW_compile_51 d_PW_compile_54 d_PW_compile_55 d_PW_compile_57 d_PW_compile_60 (by decide +kernel) (by decide +kernel) (by decide +kernel) (by decide +kernel) (by decide +kernel) hs2 (by omega) (by omega) hRc hRs⟩
                · subst e; cases d_PW_compile_61.symm.trans hdec
                · subst e; cases d_PW_compile_62.symm.trans hdec
                · subst e; cases d_PW_compile_65.symm.trans hdec
                · subst e; cases d_PW_compile_66.symm.trans hdec
                · subst e; cases d_PW_compile_67.symm.trans hdec
                · subst e; cases d_PW_compile_70.symm.trans hdec
                · subst e
                  cases d_PW_compile_73.symm.trans hdec
                  cases List.eq_nil_of_length_eq_zero hl
                  have hz : (2 : Nat) = z := Sum.inr.inj (Option.some.inj ((show q_mPW_compile.2.2.2.2.2.1 56 = some (.inr 2) from rfl).symm.trans gk))
                  subst hz
                  refine ⟨Or.inr rfl, x_end (cls := xISE) hw hk hB hfl hx hb hml hown hnh hlocks d_PW_compile_73 d_PW_compile_76 d_PW_compile_77 d_PW_compile_79 d_PW_compile_82 (by decide +kernel) (by decide +kernel) (by decide +kernel) (by decide +kernel) (by decide +kernel) hs3 (by omega) (by omega) hRc hRs⟩
                · subst e; cases d_PW_compile_83.symm.trans hdec
                · subst e; cases d_PW_compile_84.symm.trans hdec
                · subst e; cases d_PW_compile_87.symm.trans hdec
                · subst e; cases d_PW_compile_88.symm.trans hdec
                · subst e; cases d_PW_compile_89.symm.trans hdec
                · subst e; cases d_PW_compile_92.symm.trans hdec
                · subst e; cases d_PW_compile_95.symm.trans hdec
                · subst e; cases d_PW_compile_98.symm.trans hdec
                · subst e; cases d_PW_compile_99.symm.trans hdec
                · subst e; cases d_PW_compile_102.symm.trans hdec
                · subst e; cases d_PW_compile_105.symm.trans hdec
            · cases hins
          · cases hins
        · cases hs
end XE
/-- PatternWalk.compile, where it throws -/
theorem x_thrown {l : Launch} {s0 : State} {D : va_G} {ac : Nat → ClassId} {d o z : Nat} {σ σ1 : qH} (hfl : l.flags = flags0) (hw : xW0 s0) (hd : 5 ≤ d) (h : q_ev q_Mt (d + 1) 13 [.ref o] σ = some (.inr z, σ1)) :
    MetFree l (q_yn 13) (headSpec (Cond.code (q_yn 13) q_mPW_compile.1 2 (some .int) :: q_Ts) (q_rm (d + 1) (σ1.2.2.1 - σ.2.2.1) (σ1.2.2.2 - σ.2.2.2))) (va_Pc [.ref o] (fun U => q_Pre D q_cl ac s0.heap.size q_Ns σ U ∧ xKeep s0 U)) (fun _ _ _ _ _ => True) (xQ D ac s0.heap.size (xN z) σ1.1 (σ1.2.2.1 - σ.2.2.1) (σ1.2.2.2 - σ.2.2.2)) := by
  have hM : q_Mt 13 = some q_mPW_compile := rfl
  simp only [q_ev, hM] at h
  have hlen : (q_args [Value.ref o]).length ≤ q_mPW_compile.2.1 := Nat.le_of_ble_eq_true rfl
  rw [if_pos hlen] at h
  obtain ⟨n, hrun⟩ := q_out_iff.mp h
  obtain ⟨m1, m2, m3⟩ := q_Mok_all 13 _ hM
  refine MetFree.of_bodySF (code := q_mPW_compile.1) (maxLocals := 2) (ret := some .int) m1 ?_ ?_
  · intro args s m h hn
    obtain ⟨meth, c, h1, h2, h3, h4, h5, h6, -, -⟩ := Cond.code_spec hn (atoms_spec h _ List.mem_cons_self)
    exact ⟨meth, c, h1, h2, h3, h4, h5, h6⟩
  · intro p e s m args below meth c s₁ B hml hP _
    obtain ⟨rfl, ⟨hh, hK, hns, hB⟩, hk⟩ := hP
    have hts := atoms_spec B.pre
    have hown : s.vm.findClass "PatternWalk" = some m.cls := findClass_of_methodNamed B.named
    have hcode := hts _ List.mem_cons_self
    have Cx : q_Cx p s m [Value.ref o].toArray c D q_cl ac s0.heap.size "PatternWalk" q_mPW_compile.1 2 q_Ts q_Ns := ⟨B.exec, B.bytes, hml, hown, fun w hw => hts w (List.mem_cons_of_mem _ hw), hns, hK, hB⟩
    have hgo := (x_run (l := l) (e := e) (R := (headSpec (Cond.code (q_yn 13) q_mPW_compile.1 2 (some .int) :: q_Ts) (q_rm (d + 1) (σ1.2.2.1 - σ.2.2.1) (σ1.2.2.2 - σ.2.2.2))).room) (below := below) (meth := meth) (k0 := σ.2.2.1) (w0 := σ.2.2.2) hw hk hfl (B.noHandlers hcode) B.notSynchronized Cx (Nat.le_refl _) (Nat.le_refl _) hd (Nat.le_refl _) (Nat.le_refl _) n _ (show ((0 : Nat), (0 : Nat)) ∈ xD by decide) hrun).2
    have hgo := hgo s.heap [] _ (q_rel_entry hlen) (q_entry_len hlen) hh va_S.rf (Nat.le_refl _) (Nat.le_refl _)
    dsimp only at hgo
    rw [Nat.sub_self, Nat.sub_self] at hgo
    have hh0 : s₁.heap = s.heap := by rw [B.state]; rfl
    rw [lg_entry_eq]
    obtain ⟨t, a1, oc, b1, b2, b3⟩ := hgo s₁ hh0 (Stand.of_body B)
    exact ⟨t, oc, a1, b1, b2, b3⟩
