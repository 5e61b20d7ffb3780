/-! printed by wip/tools/mk_start.py: the law from its entry to its loop -/
theorem q_Kex {s : State} {b : Nat} (hts : ∀ w ∈ q_Ts, w.before #[Value.ref b] s = true) : ∃ (D : va_G) (ac : Nat → ClassId), va_K D q_cl (q_tys ac) s := by
  obtain ⟨c0, i0, h0⟩ := u_known hts q_wPW (hts _ (q_in 76 (w := Cond.instantiable "PatternWalk" 7) (by decide +kernel) (by decide +kernel)))
  obtain ⟨c1, i1, h1⟩ := u_known hts q_wCs (hts _ (q_in 84 (w := Cond.instantiable "PatternWalk$CharSets" 2) (by decide +kernel) (by decide +kernel)))
  obtain ⟨c2, i2, h2⟩ := u_known hts q_wPa (hts _ (q_in 99 (w := Cond.instantiable "PatternWalk$Parser" 6) (by decide +kernel) (by decide +kernel)))
  obtain ⟨c3, i3, h3⟩ := u_known hts q_wPr (hts _ (q_in 126 (w := Cond.instantiable "PatternWalk$Program" 5) (by decide +kernel) (by decide +kernel)))
  obtain ⟨c4, i4, h4⟩ := u_known hts q_wRp (hts _ (q_in 530 (w := Cond.instantiable "PatternWalk$Repeat" 10) (by decide +kernel) (by decide +kernel)))
  obtain ⟨c5, i5, h5⟩ := u_known hts q_wRw (hts _ (q_in 499 (w := Cond.instantiable "PatternWalk$Row" 4) (by decide +kernel) (by decide +kernel)))
  obtain ⟨c6, i6, h6⟩ := u_known hts q_wWk (hts _ (q_in 151 (w := Cond.instantiable "PatternWalk$Walk" 15) (by decide +kernel) (by decide +kernel)))
  obtain ⟨c7, i7, h7⟩ := u_known hts q_wWy (hts _ (q_in 157 (w := Cond.instantiable "PatternWalk$Ways" 3) (by decide +kernel) (by decide +kernel)))
  obtain ⟨c8, i8, h8⟩ := u_known hts q_wMd (hts _ (q_in 709 (w := Cond.instantiable "PatternWalkModel" 45) (by decide +kernel) (by decide +kernel)))
  obtain ⟨a0, k0, p0, n0, f0, g0⟩ := Cond.arrayClass_spec (hts _ q_arrs.1)
  obtain ⟨a1, k1, p1, n1, f1, g1⟩ := Cond.arrayClass_spec (hts _ q_arrs.2.1)
  obtain ⟨a2, k2, p2, n2, f2, g2⟩ := Cond.arrayClass_spec (hts _ q_arrs.2.2.1)
  obtain ⟨a3, k3, p3, n3, f3, g3⟩ := Cond.arrayClass_spec (hts _ q_arrs.2.2.2)
  refine ⟨(fun c => match c with | 0 => c0 | 1 => c1 | 2 => c2 | 3 => c3 | 4 => c4 | 5 => c5 | 6 => c6 | 7 => c7 | _ => c8, fun c => match c with | 0 => i0 | 1 => i1 | 2 => i2 | 3 => i3 | 4 => i4 | 5 => i5 | 6 => i6 | 7 => i7 | _ => i8), fun k => match k with | 0 => a0 | 1 => a1 | 2 => a2 | _ => a3, ⟨?_, ?_⟩⟩
  · intro c q hq
    match c, hq with
    | 0, hq => cases hq; exact h0
    | 1, hq => cases hq; exact h1
    | 2, hq => cases hq; exact h2
    | 3, hq => cases hq; exact h3
    | 4, hq => cases hq; exact h4
    | 5, hq => cases hq; exact h5
    | 6, hq => cases hq; exact h6
    | 7, hq => cases hq; exact h7
    | 8, hq => cases hq; exact h8
    | c + 9, hq => cases hq
  · intro k q hk
    match k, hk with
    | 0, hk => cases hk; exact ⟨fun n z => ⟨fun k h => (by cases h), k0, f0, p0, g0⟩, n0⟩
    | 1, hk => cases hk; exact ⟨fun n z => ⟨fun k h => (by cases h), k1, f1, p1, g1⟩, n1⟩
    | 2, hk => cases hk; exact ⟨fun n z => ⟨fun k h => (by cases h), k2, f2, p2, g2⟩, n2⟩
    | 3, hk => cases hk; exact ⟨fun n z => ⟨fun k h => (by cases h), k3, f3, p3, g3⟩, n3⟩
    | k + 4, hk => cases hk
def S0C : qSt := (fun f => match f with | 2 => -1 | 85 => -1 | _ => 0, fun _ _ => 0, fun _ => 0, fun f => f)
def S0M : qSt := (fun f => match f with | 3 => -1 | _ => 0, fun _ _ => 0, fun _ => 0, fun f => f)
set_option maxRecDepth 100000 in
set_option maxHeartbeats 4000000 in
/-- the claim, out of what class and reference owe to each other, and PatternWalkLaw.compile -/
theorem whole_open {p : Program} {e : Env} {s : State} {m : MethodId} {below : List Frame} {meth : Method} {c : Code} (l : Launch) {b L : Nat} {xs : Nat → Int32} (hL : L ≤ 1536) (C0 : lw_At p s m meth c b L xs) (hLC : ∀ (D : va_G) (ac : Nat → ClassId), va_K D q_cl (q_tys ac) s → q_LC p l e s m below meth c D ac b) (R : qSt → qSt → Prop) (R0 : R S0C S0M) (H0 : ∀ o : Nat, ∀ x1 : Int32, (∃ n : Nat, n < 65536 ∧ x1 = nI n) → opI R (f_PW_pattern o x1) (f_Md_pattern x1)) (H2 : ∀ o : Nat, opI R (f_PW_position o ) (f_Md_position )) (H3 : ∀ o : Nat, opV R (f_PW_clear o ) (f_Md_clear )) (H4 : ∀ o : Nat, ∀ x1 x2 : Int32, opI R (f_PW_instruction o x1 x2) (f_Md_instruction x1 x2)) (H5 : ∀ o : Nat, opI R (f_PW_groups o ) (f_Md_groups )) (H6 : ∀ o : Nat, ∀ x1 : Int32, (x1 = 0 ∨ x1 = 1) → opI R (f_PW_start o x1) (f_Md_start x1)) (H7 : ∀ o : Nat, ∀ x1 : Int32, (∃ n : Nat, n < 65536 ∧ x1 = nI n) → opI R (f_PW_feed o x1) (f_Md_feed x1)) (H8 : ∀ o : Nat, opI R (f_PW_matched o ) (f_Md_matched )) (H9 : ∀ o : Nat, opI R (f_PW_live o ) (f_Md_live )) (H10 : ∀ o : Nat, ∀ x1 : Int32, opI R (f_PW_isLive o x1) (f_Md_isLive x1)) (H11 : ∀ o : Nat, ∀ x1 : Int32, opI R (f_PW_mark o x1) (f_Md_mark x1)) (H12 : ∀ o : Nat, opI R (f_PW_fed o ) (f_Md_fed )) (H1 : ∀ o : Nat, opX R o) : W p l e room_1 s m #[Value.ref b] below meth c s.heap [] 0 0 (lw_Z below #[Value.ref b] s) (entryFrame m ([Value.ref b] : List Value).toArray 7) := by
  obtain ⟨D, ac, hK⟩ := q_Kex (fun w hw => C0.2.2.2.2.2.1 w (q_Ts_tbl w hw))
  have hloop := law_loop hL C0 hK (hLC D ac hK) R H0 H2 H3 H4 H5 H6 H7 H8 H9 H10 H11 H12 H1
  have start : q_GL p l e s m below meth c D ac b (0, [some (.ref b), none, none, none, none, none, none], [], (fun _ => none, s.heap.size, 0, 0)) := by
    refine gl_step C0 hK (tt_new d_La_0 rfl) (Nat.le_of_ble_eq_true rfl) (Nat.le_of_ble_eq_true rfl) ?_
    refine gl_step C0 hK (tt_dup d_La_3 rfl) (Nat.le_of_ble_eq_true rfl) (Nat.le_of_ble_eq_true rfl) ?_
    refine gl_step C0 hK (tt_callI0 d_La_4 pM_La_17 (Nat.le_of_ble_eq_true rfl) (c_PW_init 100 (by decide) s.heap.size (fun _ => none) 1 7)) (Nat.le_of_ble_eq_true rfl) (Nat.le_of_ble_eq_true rfl) ?_
    refine gl_step C0 hK (tt_astore_n (lo' := [some (.ref b), some (.ref s.heap.size), none, none, none, none, none]) d_La_7 (Nat.le_of_ble_eq_true rfl) rfl) (Nat.le_of_ble_eq_true rfl) (Nat.le_of_ble_eq_true rfl) ?_
    refine gl_step C0 hK (tt_new d_La_8 rfl) (Nat.le_of_ble_eq_true rfl) (Nat.le_of_ble_eq_true rfl) ?_
    refine gl_step C0 hK (tt_dup d_La_11 rfl) (Nat.le_of_ble_eq_true rfl) (Nat.le_of_ble_eq_true rfl) ?_
    refine gl_step C0 hK (tt_callI0 d_La_12 pM_La_20 (Nat.le_of_ble_eq_true rfl) (c_Md_init 100 (by decide) (s.heap.size + 21) (layC s.heap.size (T0C (s.heap.size + 21) (1 + 20) (7 + 6384) (fun _ => none))).1 22 6436)) (Nat.le_of_ble_eq_true rfl) (Nat.le_of_ble_eq_true rfl) ?_
    refine gl_step C0 hK (tt_astore_n (lo' := [some (.ref b), some (.ref s.heap.size), some (.ref (s.heap.size + 21)), none, none, none, none]) d_La_15 (Nat.le_of_ble_eq_true rfl) rfl) (Nat.le_of_ble_eq_true rfl) (Nat.le_of_ble_eq_true rfl) ?_
    refine gl_step C0 hK (tt_iconst (v := 1) d_La_16 (by decide)) (Nat.le_of_ble_eq_true rfl) (Nat.le_of_ble_eq_true rfl) ?_
    have e1 : layM (s.heap.size + 21) (T0M (s.heap.size + 21 + 30) (22 + 29) (6436 + 7329) (layC s.heap.size (T0C (s.heap.size + 21) (1 + 20) (7 + 6384) (fun _ => none))).1) = Lw s.heap.size S0C S0M (fun _ => none) (s.heap.size + 51, 51, 13765) := by
      rw [← Lw_M]
      rfl
    rw [e1]
    refine gl_step C0 hK (tt_newJ d_La_17 (by decide)) (Nat.le_of_ble_eq_true rfl) (Nat.le_of_ble_eq_true rfl) ?_
    refine gl_step C0 hK (tt_astore_n (lo' := [some (.ref b), some (.ref s.heap.size), some (.ref (s.heap.size + 21)), some (.ref (s.heap.size + 51)), none, none, none]) d_La_19 (Nat.le_of_ble_eq_true rfl) rfl) (Nat.le_of_ble_eq_true rfl) (Nat.le_of_ble_eq_true rfl) ?_
    refine gl_step C0 hK (tt_iconst (v := 0) d_La_20 (by decide)) (Nat.le_of_ble_eq_true rfl) (Nat.le_of_ble_eq_true rfl) ?_
    refine gl_step C0 hK (tt_istore (lo' := [some (.ref b), some (.ref s.heap.size), some (.ref (s.heap.size + 21)), some (.ref (s.heap.size + 51)), some (.int (nI 0)), none, none]) d_La_21 (Nat.le_of_ble_eq_true rfl) rfl) (Nat.le_of_ble_eq_true rfl) (Nat.le_of_ble_eq_true rfl) ?_
    have e2 : (q_up (Lw s.heap.size S0C S0M (fun _ => none) (s.heap.size + 51, 51, 13765)).1 (s.heap.size + 51) (.inl (2, 1, .inr (.inl fun _ => 0))), s.heap.size + 51 + 1, 51 + 1, 13765 + 1) = Lw s.heap.size S0C S0M (q_up (fun _ => none) (s.heap.size + 51) (.inl (2, 1, .inr (.inl fun _ => 0)))) (s.heap.size + 52, 52, 13766) := by
      refine Prod.ext ?_ rfl
      show q_up (ov s.heap.size 21 _ (ov (s.heap.size + 21) 30 _ _)) (s.heap.size + 51) _ = ov s.heap.size 21 _ (ov (s.heap.size + 21) 30 _ _)
      rw [ov_upo (by omega), ov_upo (by omega)]
      rfl
    have := hloop (L + 4) 0 S0C S0M (q_up (fun _ => none) (s.heap.size + 51) (.inl (2, 1, .inr (.inl fun _ => 0)))) (s.heap.size + 52) 52 13766 (fun _ => 0) none none (by omega) (by omega) R0 (by unfold q_up; exact if_pos rfl) (Nat.le_refl _) (by omega) (by omega)
    rw [← e2] at this
    exact this
  have := start s.heap [] _ (q_rel_entry (n := 7) (as := [.ref b]) (Nat.le_of_ble_eq_true rfl)) rfl ⟨rfl, fun a e h => by cases h⟩ va_S.rf (Nat.zero_le _) (Nat.zero_le _)
  rw [lg_entry_eq]
  exact this
