/-! THROWING, 1: words at later states; the stand taken up anew -/
def xUp : List String := ["java/lang/RuntimeException", "java/lang/Exception"]
def xISE : String := "java/lang/IllegalStateException"
def xIAE : String := "java/lang/IllegalArgumentException"
def xN (z : Nat) : String := if z = 1 then xIAE else xISE
def xR1 : Cond := .isRef (.static "java/lang/Throwable" "UNASSIGNED_STACK" "[Ljava/lang/StackTraceElement;")
def xR2 : Cond := .isRef (.static "java/lang/Throwable" "SUPPRESSED_SENTINEL" "Ljava/util/List;")
/-- what a later state keeps of the law's own start -/
def xKeep (s0 U : State) : Prop := s0.WarmedH U.vm ∧ ∀ q : Nat, q < s0.heap.size → U.heap[q]? = s0.heap[q]?
def xOk (w : Cond) : Bool := w.keepsFace && (w.onTables || match w with
  | .laysStatic _ _ _ => true
  | .isRef (.static _ _ _) => true
  | _ => false)
theorem xKeep.at {s0 U : State} (h : xKeep s0 U) {q : Nat} {c : Cell} (hq : s0.heap[q]? = some c) : U.heap[q]? = some c := by
  rw [h.2 q (Array.getElem?_eq_some_iff.mp hq).1]; exact hq
theorem x_mv {w : Cond} (hw : xOk w = true) {A A' : Array Value} {s0 U : State} (hk : xKeep s0 U) (h : w.before A s0 = true) : w.before A' U = true := by
  unfold xOk at hw
  rw [Bool.and_eq_true] at hw
  obtain ⟨h1, h2⟩ := hw
  have h3 : w.before A (s0.setVm U.vm) = true := Cond.before_shiftedFace (State.Shifted.of_warmed hk.1) w h1 h
  rw [Bool.or_eq_true] at h2
  rcases h2 with h2 | h2
  · exact va_tabs (u := s0.setVm U.vm) h2 rfl h3
  · split at h2
    · rename_i o n d
      simp only [Cond.before, Cond.holds, Cond.value, State.vm_setVm] at h3 ⊢
      have e1 : (s0.setVm U.vm).fieldFound? o n d = U.fieldFound? o n d := rfl
      rw [e1] at h3
      cases h5 : U.vm.findClass o with
      | none => rw [h5] at h3; cases h3
      | some c =>
        rw [h5] at h3
        cases h6 : U.fieldFound? o n d with
        | none => rw [h6] at h3; cases h3
        | some f =>
          rw [h6] at h3
          obtain ⟨c', k, i, f⟩ := f
          dsimp only at h3 ⊢
          cases h7 : k.statics with
          | none => rw [h7] at h3; cases h3
          | some a =>
            rw [h7] at h3
            simp only [Option.bind_some] at h3 ⊢
            cases h8 : s0.heap[a]? with
            | none => rw [show (s0.setVm U.vm).heap = s0.heap from rfl, h8] at h3; cases h3
            | some ce =>
              rw [show (s0.setVm U.vm).heap = s0.heap from rfl, h8] at h3
              rw [hk.at h8]
              exact h3
    · rename_i o n d
      simp only [Cond.before, Cond.holds, Cond.value, Term.eval] at h3 ⊢
      have e1 : (s0.setVm U.vm).fieldNamed? o n d true = U.fieldNamed? o n d true := rfl
      rw [e1] at h3
      cases h6 : U.fieldNamed? o n d true with
      | none => rw [h6] at h3; cases h3
      | some f =>
        rw [h6] at h3
        obtain ⟨c', k, i⟩ := f
        simp only [Option.bind_eq_bind, Option.bind_some] at h3 ⊢
        cases h7 : k.statics with
        | none => rw [h7] at h3; cases h3
        | some a =>
          rw [h7] at h3
          simp only [Option.bind_some] at h3 ⊢
          cases h8 : s0.heap[a]? with
          | none => rw [show (s0.setVm U.vm).heap = s0.heap from rfl, h8] at h3; cases h3
          | some ce =>
            rw [show (s0.setVm U.vm).heap = s0.heap from rfl, h8] at h3
            rw [hk.at h8]
            exact h3
    · cases h2
theorem x_str {own text : String} {i : Nat} {A A' : Array Value} {s0 U : State} (hk : xKeep s0 U) (h : (Cond.stringRef own i text).before A s0 = true) : (Cond.stringRef own i text).before A' U = true := by
  have h3 := Cond.stringRef_warmed hk.1 h
  exact h3
theorem xKeep.of {p : Program} {l : Launch} {e : Env} {R : Room} {s0 s : State} {m : MethodId} {args : Array Value} {below : List Frame} {meth : Method} {c : Code} {T : State} {locs : List Loc} {cells slots : Nat} {H : Heap} (h : xKeep s0 s) (hl : s0.heap.size ≤ s.heap.size) (X : Stand p l e R s m args below meth c T locs cells slots) (hT : T.heap = H) (hS : va_S (fun q : Nat => s0.heap.size ≤ q) s.heap H locs) : xKeep s0 T := by
  refine ⟨State.WarmedH.trans h.1 X.warmed, fun q hq => ?_⟩
  rw [hT, hS.2.1 q (by omega) (Nat.not_le.mpr hq)]
  exact h.2 q hq
/-- the stand, taken up anew where it is -/
theorem x_rebase {p : Program} {l : Launch} {e : Env} {R : Room} {s : State} {m : MethodId} {args : Array Value} {below : List Frame} {meth : Method} {c : Code} {T : State} {locs : List Loc} {cells slots : Nat} (X : Stand p l e R s m args below meth c T locs cells slots) (hc : cells ≤ R.cells) (hs : slots ≤ R.slots) :
    Stand p l e { R with cells := R.cells - cells, slots := R.slots - slots } (T.setFrames (.invoking m args :: below)) m args below meth c T [] 0 0 := by
  obtain ⟨g0, hg0⟩ := Option.isSome_iff_exists.mp X.here.top
  obtain ⟨r, hr⟩ := State.topJava?_eq_some.mp hg0
  have hcur : T.cur < T.threads.size := State.cur_lt_of_frames hr
  have hF : (T.setFrames (.invoking m args :: below)).frames = .invoking m args :: below := State.frames_setFrames _ hcur
  have hm' : (T.setFrames (.invoking m args :: below)).vm.method? m = some meth := X.method'
  have hU : (T.setFrames (.invoking m args :: below)).localsInUse = s.localsInUse := by
    rw [State.localsInUse_invoking hF hm' X.code, State.localsInUse_invoking X.frames X.method X.code]
  have hz := X.heapSize
  have hu := X.used
  have hbk := X.book
  have hroom : (T.setFrames (.invoking m args :: below)).hasRoom e.platform { R with cells := R.cells - cells, slots := R.slots - slots } = true := by
    have h := X.room
    unfold State.hasRoom at h ⊢
    rw [hU, hF, State.stackLimits_setFrames, State.stackBytes_setFrames, X.limits, X.bytes]
    simp only [Bool.and_eq_true, decide_eq_true_eq] at h ⊢
    rw [X.frames] at h
    refine ⟨⟨⟨⟨h.1.1.1.1, h.1.1.1.2⟩, ?_⟩, ?_⟩, hbk⟩
    · have := h.1.1.2
      show T.heap.size + (R.cells - cells) ≤ _
      omega
    · have := h.1.2
      show T.slotsUsed + (R.slots - slots) ≤ _
      omega
  have hmeth : ∀ mm : MethodId, T.vm.method? mm = s.vm.method? mm := fun mm => X.warmed.alike.method? mm
  have hcode : ∀ mm : MethodId, (T.setFrames (.invoking m args :: below)).code? mm = s.code? mm := fun mm => by
    rw [State.code?_eq, State.code?_eq]
    exact congrArg (fun z => Option.bind z fun x => x.code) (hmeth mm)
  have hhears : (T.setFrames (.invoking m args :: below)).hears m below = true := by
    have h := X.hears
    have hmm : (T.setFrames (.invoking m args :: below)).vm.method? m = s.vm.method? m := hmeth m
    cases hb : below with
    | nil => rw [hb] at h hmm; simp only [State.hears] at h ⊢; rw [hmm]; exact h
    | cons f r =>
      rw [hb] at h hmm hcode
      cases f <;> simp only [State.hears] at h ⊢ <;> first | (rw [hcode]; exact h) | (rw [hmm]; exact h) | exact h
  refine ⟨X.admits, X.cas, X.clock, hF, hroom, hhears, hm', X.code, X.here, X.tail, State.WarmedH.refl _, (State.stackLimits_setFrames _ _ _).symm, (State.stackBytes_setFrames _ _).symm, ?_⟩
  obtain ⟨t, ht, -⟩ := State.frames_cons hr
  refine ⟨?_, Nat.le_refl _, Nat.le_refl _, ?_, ?_, ?_⟩
  · show T = { (T.setFrames (.invoking m args :: below)).setFrames T.frames with heap := T.heap, slotsUsed := T.slotsUsed }
    rw [State.setFrames_setFrames, State.setFrames_self ht]
  · show T.slotsUsed = T.slotsUsed + ((T.heap.toList.drop T.heap.size).map (·.slots.size)).sum
    rw [← Array.length_toList, List.drop_length]
    rfl
  · show ((T.heap.toList.drop T.heap.size).map (·.slots.size)).sum ≤ 0
    rw [← Array.length_toList, List.drop_length]
    exact Nat.le_refl _
  · intro a ce hce
    exact ⟨ce, hce, rfl, rfl, fun _ _ => rfl⟩
