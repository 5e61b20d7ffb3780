/-! THROWING, 4b: a callee that throws; a table of two rows. Own rows over the machine's own steps -/
/-- one row, her class linked already or to be linked: she catches, or the search goes on -/
theorem x_row {Q : Handler → Pre} {E : CtlPost} {e : Env} {d : Bool} {acts : List Action} {s : State} {f : JFrame} {a : Addr} {x : ExceptionTableEntry} {t : List ExceptionTableEntry} {c : ClassId} {cell : Cell} (hx : covers x f.pc = true) (h0 : x.catchType ≠ 0) (hl : s.vm.ClassLinks e.platform f.method.cls x.catchType c)
    (hcell : s.heap[a]? = some cell) (hv : cell.vm = .none) (hk : ∃ k, s.vm.classes[cell.cls]? = some k) :
    wp (findHandler.go f a (x :: t)) Q E e d acts s ↔ if s.vm.assignable cell.cls c = true then Q (.found x.handlerPc) d acts (s.setVm (s.vm.noted f.method.cls x.catchType (.cls c))) else wp (findHandler.go f a t) Q E e d acts (s.setVm (s.vm.noted f.method.cls x.catchType (.cls c))) := by
  obtain ⟨r1, r2⟩ := (resolveClass_links e.toSetting hl).op (op := VmOp.resolveClass f.method.cls x.catchType) rfl
  have hal : s.vm.Alike (s.vm.noted f.method.cls x.catchType (.cls c)) := (Vm.Alike.refl s.vm).noted _ _ _
  have hc : ∃ k, (s.vm.noted f.method.cls x.catchType (.cls c)).classes[c]? = some k := by
    obtain ⟨dk, _, _, kt, _, _, _, _, _, hkt, _, _⟩ := hl.here
    obtain ⟨k', hk', -⟩ := hal.2.2 _ _ hkt
    exact ⟨k', hk'⟩
  have hk2 : ∃ k, (s.vm.noted f.method.cls x.catchType (.cls c)).classes[cell.cls]? = some k := by
    obtain ⟨k, hk⟩ := hk
    obtain ⟨k', hk', -⟩ := hal.2.2 _ _ hk
    exact ⟨k', hk'⟩
  obtain ⟨k1, hk1⟩ := hk2
  obtain ⟨k2, hk3⟩ := hc
  have hobj : ∀ k, cell.vm ≠ .statics k := fun k h => by rw [hv] at h; cases h
  have hasg := hal.assignable cell.cls c
  simp only [covers] at hx
  cases hfit : s.vm.assignable cell.cls c <;> simp [findHandler.go, hx, h0, r1, r2, hcell, hobj, hk1, hk3, hasg, hfit, VmOp.dirties, VmOp.acts]
/-- a table of two rows -/
theorem x_find {e : Env} {s0 S : State} {f : JFrame} {a : Addr} {meth : Method} {code : Code} {cell : Cell} {x1 x2 : ExceptionTableEntry} {c1 c2 : ClassId} {pc : Nat} (hm : S.vm.method? f.method = some meth) (hc : meth.code = some code) (hxs : code.exceptionTable.toList = [x1, x2])
    (cv1 : covers x1 f.pc = true) (cv2 : covers x2 f.pc = true) (n1 : x1.catchType ≠ 0) (n2 : x2.catchType ≠ 0) (hW : s0.WarmedH S.vm) (l1 : s0.vm.ClassLinks e.platform f.method.cls x1.catchType c1) (l2 : s0.vm.ClassLinks e.platform f.method.cls x2.catchType c2)
    (hcell : S.heap[a]? = some cell) (hv : cell.vm = .none) (hk : ∃ k, s0.vm.classes[cell.cls]? = some k)
    (hz : (s0.vm.assignable cell.cls c1 = true ∧ pc = x1.handlerPc) ∨ (s0.vm.assignable cell.cls c1 = false ∧ s0.vm.assignable cell.cls c2 = true ∧ pc = x2.handlerPc)) :
    ∃ vm', s0.WarmedH vm' ∧ ∀ (Q : Handler → Pre) (E : CtlPost) (d : Bool) (acts : List Action), wp (findHandler f a) Q E e d acts S ↔ Q (.found pc) d acts (S.setVm vm') := by
  have up : ∀ {vm : Vm}, s0.WarmedH vm → ∃ k, vm.classes[cell.cls]? = some k := fun h => by
    obtain ⟨k, hk⟩ := hk
    obtain ⟨k', hk', -⟩ := h.alike.2.2 _ _ hk
    exact ⟨k', hk'⟩
  have nt : ∀ {vm : Vm} {i : Nat} {c : ClassId}, s0.WarmedH vm → s0.vm.ClassLinks e.platform f.method.cls i c → s0.WarmedH (vm.noted f.method.cls i (.cls c)) := fun h hl => by
    obtain ⟨dk, _, _, kt, hd, _, _, _, _, _, _, hopen⟩ := hl.here
    exact h.noted hd hopen (State.rightAt_cls hl)
  have hW1 := nt hW l1
  have hW2 := nt hW1 l2
  rcases hz with ⟨z1, z2⟩ | ⟨z1, z2, z3⟩
  · subst z2
    refine ⟨_, hW1, fun Q E d acts => ?_⟩
    rw [W.findHandler_eq hm hc, hxs, x_row cv1 n1 (hW.classLinks l1) hcell hv (up hW), hW.alike.assignable, z1, if_pos rfl]
  · subst z3
    refine ⟨_, hW2, fun Q E d acts => ?_⟩
    rw [W.findHandler_eq hm hc, hxs, x_row cv1 n1 (hW.classLinks l1) hcell hv (up hW), hW.alike.assignable, z1, if_neg (by decide)]
    rw [x_row (s := S.setVm (S.vm.noted f.method.cls x1.catchType (.cls c1))) cv2 n2 (hW1.classLinks l2) hcell hv (up hW1)]
    rw [show (S.setVm (S.vm.noted f.method.cls x1.catchType (.cls c1))).vm.assignable cell.cls c2 = true from (hW1.alike.assignable _ _).trans z2, if_pos rfl]
    rfl
section XO
variable {p : Program} {l : Launch} {e : Env} {R : Room} {s : State} {m : MethodId} {args : Array Value} {below : List Frame} {meth : Method} {c : Code} {T : State} {locs : List Loc} {cells slots : Nat}
/-- the step into the handler -/
theorem x_into (X : Stand p l e R s m args below meth c T locs cells slots) {a : Addr} {g : JFrame} (hg : g.method = m) {pc : Nat} {vm' : Vm}
    (hf : ∀ (Q : Handler → Pre) (E : CtlPost) (d : Bool) (acts : List Action), wp (findHandler g a) Q E e d acts ((T.setTop g).pushFrame (.throwing a)) ↔ Q (.found pc) d acts (((T.setTop g).pushFrame (.throwing a)).setVm vm'))
    {target : State} (hrest : Steps p.tables e below ((T.setVm vm').setTop { g with pc := pc, stack := [.ref a] }) target) : Steps p.tables e below ((T.setTop g).pushFrame (.throwing a)) target := by
  have hat : At T g.method c below := by rw [hg]; exact X.here
  obtain ⟨hgo, hw⟩ := hat.throwing a
  refine Steps.head hgo hw ?_
  rw [stepThread_throwing (frames_entered hat.top _)]
  have hst : (stepThrowing e ((T.setTop g).pushFrame (.throwing a)) a (.java g :: T.frames.tail)).1 = (((T.setTop g).pushFrame (.throwing a)).setVm vm').setFrames (.java { g with pc := pc, stack := [.ref a] } :: T.frames.tail) := by
    simp only [stepThrowing, searchFrame, vmDo]
    generalize hr : Sem.go _ e false [] _ = res
    obtain ⟨as, rfl, -⟩ := Sem.eq_ok_of hr (a := Handler.found pc) (s' := ((T.setTop g).pushFrame (.throwing a)).setVm vm') (acts' := []) (by simp [hf _ _ _ _])
    rfl
  rw [hst]
  obtain ⟨g₀, hfr⟩ := X.frames_eq
  have e1 : (((T.setTop g).pushFrame (.throwing a)).setVm vm').setFrames (.java { g with pc := pc, stack := [.ref a] } :: T.frames.tail) = (T.setVm vm').setTop { g with pc := pc, stack := [.ref a] } := by
    have h2 : (T.setVm vm').frames = .java g₀ :: below := hfr
    rw [State.setTop_of_frames _ h2, State.pushFrame, State.setTop_of_frames _ hfr, State.setFrames_setFrames, hfr]
    have h3 : ∀ F G : List Frame, ((T.setFrames F).setVm vm').setFrames G = (T.setVm vm').setFrames G := fun F G => State.setFrames_setFrames (T.setVm vm') F G
    exact h3 _ _
  rw [e1]
  exact hrest
/-- a callee that throws, called from where the invocation stands -/
theorem x_tcall (X : Stand p l e R s m args below meth c T locs cells slots) {y : MethodName} {S : Spec} {P : Array Value → State → Prop} {Q : Array Value → State → Outcome → State → Prop} {bytes : ByteArray} {maxL : Nat} {ret : Option FieldType} (hM : MetFree l y S P (fun _ _ _ _ _ => True) Q)
    {g : JFrame} {ig : Instr} {len : Nat} {mk : MethodId} {a : Array Value} (hg : g.method = m) (hsize : g.locals.size = c.maxLocals) (hdg : decode c.code g.pc = .ok (ig, len)) (hn : T.methodNamed? y = some mk) (hframes : S.room.frames + 1 ≤ R.frames)
    (hlocals : 2 * g.monitorRoom + (g.stack.map fun v => v.category).sum + (maxL + 11) + S.room.locals ≤ R.locals) (hc : cells + S.room.cells ≤ R.cells) (hs : slots + S.room.slots ≤ R.slots) (hpre : S.pre.before a T = true) (hcode : (Cond.code y bytes maxL ret).before a T = true) (hini : (Cond.initialized y.cls).before a T = true) (hP : P a (T.calling g mk a))
    {k n : Nat} {E : Addr → State → List Loc → Prop} (hQ : ∀ o t, Q a (T.calling g mk a) o t → ∃ (v : Addr) (L : List Loc), o = .threw v ∧ xFE (T.calling g mk a) o t L k n ∧ E v t L) :
    ∃ (v : Addr) (t : State) (L : List Loc), E v t L ∧ Stand p l e R s m args below meth c (({ T with heap := t.heap, slotsUsed := t.slotsUsed } : State).setVm t.vm) (locs ++ L) (cells + k) (slots + n) ∧
      Steps p.tables e below (doInvoke e (T.setTop g) [] mk a).1 (((({ T with heap := t.heap, slotsUsed := t.slotsUsed } : State).setVm t.vm).setTop g).pushFrame (.throwing v)) := by
  obtain ⟨mY, cY, q1, q2, -, q3, -, -, -, -⟩ := Cond.code_spec hn hcode
  obtain ⟨kY, hkY, -⟩ := className_of_methodNamed hn
  have hat : At T g.method c below := by rw [hg]; exact X.here
  have happ := Spec.appliesLoose_calling (g := g) hat hdg hn hkY (Cond.initialized_spec (findClass_of_methodNamed hn) hkY hini) (X.room_calling (g := g) (R' := S.room) hsize q1 q2 hframes (by rw [q3]; exact hlocals) hc hs) hpre
  obtain ⟨g₀, hfr⟩ := X.frames_eq
  have hfr2 : (T.setTop g).frames = [.java g] ++ below := by rw [State.frames_setTop' g hat.top, hfr]; rfl
  obtain ⟨o, t, hst, -, hend, hq⟩ := Steps.callFree hM p X.admits X.cas X.clock (acts := []) hfr2 happ hP trivial
  obtain ⟨v, L, rfl, ⟨-, hW, hsame⟩, hE⟩ := hQ o t hq
  have hft : t.frames = .throwing v :: (T.setTop g).frames := hend
  rw [hfr2] at hft
  have hcal : T.calling g mk a = T.setFrames (.invoking mk a :: .java g :: below) := by rw [State.calling_eq hat.top, hfr]; rfl
  have ht : t = (({ T with heap := t.heap, slotsUsed := t.slotsUsed } : State).setVm t.vm).setFrames (.throwing v :: .java g :: below) := by
    have h1 := hsame.1
    rw [hcal] at h1
    have h2 : ({ t with vm := T.vm } : State).frames = t.frames := rfl
    rw [State.setFrames_setFrames] at h1
    have h3 : t = ({ t with vm := T.vm } : State).setVm t.vm := rfl
    have h4 : ({ t with vm := T.vm } : State) = { T.setFrames t.frames with heap := t.heap, slotsUsed := t.slotsUsed } := h1
    rw [h4] at h3
    rw [hft] at h3
    exact h3
  have hWT : T.WarmedH t.vm := hW
  have hsT : T.sameButNew ({ T with heap := t.heap, slotsUsed := t.slotsUsed } : State) L k n := by
    obtain ⟨tt, htt, -⟩ := State.frames_cons hfr
    refine ⟨?_, hsame.2⟩
    show ({ T with heap := t.heap, slotsUsed := t.slotsUsed } : State) = { T.setFrames T.frames with heap := t.heap, slotsUsed := t.slotsUsed }
    rw [State.setFrames_self htt]
  refine ⟨v, t, L, hE, ⟨X.admits, X.cas, X.clock, X.frames, X.room, X.hears, X.method, X.code, (X.here.setHeapUsed t.heap t.slotsUsed).setVm hWT.alike, X.tail, State.WarmedH.trans X.warmed hWT, X.limits, X.bytes, X.same.trans (hsT.setVm s.vm)⟩, ?_⟩
  have hfr3 : (({ T with heap := t.heap, slotsUsed := t.slotsUsed } : State).setVm t.vm).frames = .java g₀ :: below := hfr
  rw [State.pushFrame, State.frames_setTop _ hfr3, State.setTop_of_frames _ hfr3, State.setFrames_setFrames, ← ht]
  exact hst
end XO
