/-! printed by wip/tools/mk_law.py: the law -/
theorem gl_cV0i {p : Program} {l : Launch} {e : Env} {s : State} {m : MethodId} {below : List Frame} {meth : Method} {c : Code} {D : va_G} {ac : Nat → ClassId} {b L : Nat} {xs : Nat → Int32} {pc idx z ci q : Nat} {lo : qL} {st fs : List Value} {σ σ' : qH} {v : Int32} (C0 : lw_At p s m meth c b L xs) (hK : va_K D q_cl (q_tys ac) s) (hd : decode q_mLa.1 pc = .ok (.invokevirtual idx, 3)) (hp : q_mLa.2.2.2.2.2.2.1 idx = some (1, z, 0, ci)) (hs : q_sum st ≤ 8) (hb : σ.1 q = some (.inr (ci, fs))) (hc : q_ev q_Mt 100 z [.ref q] σ = some (.inl (some (.int v)), σ')) (hk : σ'.2.2.1 ≤ 601024) (hw : σ'.2.2.2 ≤ 7293034) (kk : q_GL p l e s m below meth c D ac b (pc + 3, lo, .int v :: st, σ')) : q_GL p l e s m below meth c D ac b (pc, lo, .ref q :: st, σ) :=
  gl_step C0 hK (tt_callV0 hd hp hs hb hc) hk hw kk
theorem gl_cV0v {p : Program} {l : Launch} {e : Env} {s : State} {m : MethodId} {below : List Frame} {meth : Method} {c : Code} {D : va_G} {ac : Nat → ClassId} {b L : Nat} {xs : Nat → Int32} {pc idx z ci q : Nat} {lo : qL} {st fs : List Value} {σ σ' : qH} (C0 : lw_At p s m meth c b L xs) (hK : va_K D q_cl (q_tys ac) s) (hd : decode q_mLa.1 pc = .ok (.invokevirtual idx, 3)) (hp : q_mLa.2.2.2.2.2.2.1 idx = some (1, z, 0, ci)) (hs : q_sum st ≤ 8) (hb : σ.1 q = some (.inr (ci, fs))) (hc : q_ev q_Mt 100 z [.ref q] σ = some (.inl (none), σ')) (hk : σ'.2.2.1 ≤ 601024) (hw : σ'.2.2.2 ≤ 7293034) (kk : q_GL p l e s m below meth c D ac b (pc + 3, lo, st, σ')) : q_GL p l e s m below meth c D ac b (pc, lo, .ref q :: st, σ) :=
  gl_step C0 hK (tt_callV0 hd hp hs hb hc) hk hw kk
theorem gl_cV1i {p : Program} {l : Launch} {e : Env} {s : State} {m : MethodId} {below : List Frame} {meth : Method} {c : Code} {D : va_G} {ac : Nat → ClassId} {b L : Nat} {xs : Nat → Int32} {pc idx z ci q : Nat} {lo : qL} {st fs : List Value} {σ σ' : qH} {a1 : Value} {v : Int32} (C0 : lw_At p s m meth c b L xs) (hK : va_K D q_cl (q_tys ac) s) (hd : decode q_mLa.1 pc = .ok (.invokevirtual idx, 3)) (hp : q_mLa.2.2.2.2.2.2.1 idx = some (1, z, 1, ci)) (hs : q_sum st ≤ 8) (hb : σ.1 q = some (.inr (ci, fs))) (hc : q_ev q_Mt 100 z [.ref q, a1] σ = some (.inl (some (.int v)), σ')) (hk : σ'.2.2.1 ≤ 601024) (hw : σ'.2.2.2 ≤ 7293034) (kk : q_GL p l e s m below meth c D ac b (pc + 3, lo, .int v :: st, σ')) : q_GL p l e s m below meth c D ac b (pc, lo, a1 :: .ref q :: st, σ) :=
  gl_step C0 hK (tt_callV1 hd hp hs hb hc) hk hw kk
theorem gl_cV1v {p : Program} {l : Launch} {e : Env} {s : State} {m : MethodId} {below : List Frame} {meth : Method} {c : Code} {D : va_G} {ac : Nat → ClassId} {b L : Nat} {xs : Nat → Int32} {pc idx z ci q : Nat} {lo : qL} {st fs : List Value} {σ σ' : qH} {a1 : Value} (C0 : lw_At p s m meth c b L xs) (hK : va_K D q_cl (q_tys ac) s) (hd : decode q_mLa.1 pc = .ok (.invokevirtual idx, 3)) (hp : q_mLa.2.2.2.2.2.2.1 idx = some (1, z, 1, ci)) (hs : q_sum st ≤ 8) (hb : σ.1 q = some (.inr (ci, fs))) (hc : q_ev q_Mt 100 z [.ref q, a1] σ = some (.inl (none), σ')) (hk : σ'.2.2.1 ≤ 601024) (hw : σ'.2.2.2 ≤ 7293034) (kk : q_GL p l e s m below meth c D ac b (pc + 3, lo, st, σ')) : q_GL p l e s m below meth c D ac b (pc, lo, a1 :: .ref q :: st, σ) :=
  gl_step C0 hK (tt_callV1 hd hp hs hb hc) hk hw kk
theorem gl_cV2i {p : Program} {l : Launch} {e : Env} {s : State} {m : MethodId} {below : List Frame} {meth : Method} {c : Code} {D : va_G} {ac : Nat → ClassId} {b L : Nat} {xs : Nat → Int32} {pc idx z ci q : Nat} {lo : qL} {st fs : List Value} {σ σ' : qH} {a1 a2 : Value} {v : Int32} (C0 : lw_At p s m meth c b L xs) (hK : va_K D q_cl (q_tys ac) s) (hd : decode q_mLa.1 pc = .ok (.invokevirtual idx, 3)) (hp : q_mLa.2.2.2.2.2.2.1 idx = some (1, z, 2, ci)) (hs : q_sum st ≤ 8) (hb : σ.1 q = some (.inr (ci, fs))) (hc : q_ev q_Mt 100 z [.ref q, a1, a2] σ = some (.inl (some (.int v)), σ')) (hk : σ'.2.2.1 ≤ 601024) (hw : σ'.2.2.2 ≤ 7293034) (kk : q_GL p l e s m below meth c D ac b (pc + 3, lo, .int v :: st, σ')) : q_GL p l e s m below meth c D ac b (pc, lo, a2 :: a1 :: .ref q :: st, σ) :=
  gl_step C0 hK (tt_callV2 hd hp hs hb hc) hk hw kk
theorem gl_cV2v {p : Program} {l : Launch} {e : Env} {s : State} {m : MethodId} {below : List Frame} {meth : Method} {c : Code} {D : va_G} {ac : Nat → ClassId} {b L : Nat} {xs : Nat → Int32} {pc idx z ci q : Nat} {lo : qL} {st fs : List Value} {σ σ' : qH} {a1 a2 : Value} (C0 : lw_At p s m meth c b L xs) (hK : va_K D q_cl (q_tys ac) s) (hd : decode q_mLa.1 pc = .ok (.invokevirtual idx, 3)) (hp : q_mLa.2.2.2.2.2.2.1 idx = some (1, z, 2, ci)) (hs : q_sum st ≤ 8) (hb : σ.1 q = some (.inr (ci, fs))) (hc : q_ev q_Mt 100 z [.ref q, a1, a2] σ = some (.inl (none), σ')) (hk : σ'.2.2.1 ≤ 601024) (hw : σ'.2.2.2 ≤ 7293034) (kk : q_GL p l e s m below meth c D ac b (pc + 3, lo, st, σ')) : q_GL p l e s m below meth c D ac b (pc, lo, a2 :: a1 :: .ref q :: st, σ) :=
  gl_step C0 hK (tt_callV2 hd hp hs hb hc) hk hw kk
/-- the law's char of an int -/
theorem gl_chr (x : Int32) : ∃ n : Nat, n < 65536 ∧ (x.toUInt32 % 65536).toInt32 = nI n := ⟨_, Nat.mod_lt _ (by decide), pk_char x⟩
set_option maxRecDepth 100000 in
set_option maxHeartbeats 8000000 in
theorem law_loop {p : Program} {l : Launch} {e : Env} {s : State} {m : MethodId} {below : List Frame} {meth : Method} {c : Code} {D : va_G} {ac : Nat → ClassId} {b L : Nat} {xs : Nat → Int32} (hL : L ≤ 1536) (C0 : lw_At p s m meth c b L xs) (hK : va_K D q_cl (q_tys ac) s) (hLC : q_LC p l e s m below meth c D ac b) (R : qSt → qSt → Prop) (H0 : ∀ o : Nat, ∀ x1 : Int32, (∃ n : Nat, n < 65536 ∧ x1 = nI n) → opI R (f_PW_pattern o x1) (f_Md_pattern x1)) (H2 : ∀ o : Nat, opI R (f_PW_position o ) (f_Md_position )) (H3 : ∀ o : Nat, opV R (f_PW_clear o ) (f_Md_clear )) (H4 : ∀ o : Nat, ∀ x1 x2 : Int32, opI R (f_PW_instruction o x1 x2) (f_Md_instruction x1 x2)) (H5 : ∀ o : Nat, opI R (f_PW_groups o ) (f_Md_groups )) (H6 : ∀ o : Nat, ∀ x1 : Int32, (x1 = 0 ∨ x1 = 1) → opI R (f_PW_start o x1) (f_Md_start x1)) (H7 : ∀ o : Nat, ∀ x1 : Int32, (∃ n : Nat, n < 65536 ∧ x1 = nI n) → opI R (f_PW_feed o x1) (f_Md_feed x1)) (H8 : ∀ o : Nat, opI R (f_PW_matched o ) (f_Md_matched )) (H9 : ∀ o : Nat, opI R (f_PW_live o ) (f_Md_live )) (H10 : ∀ o : Nat, ∀ x1 : Int32, opI R (f_PW_isLive o x1) (f_Md_isLive x1)) (H11 : ∀ o : Nat, ∀ x1 : Int32, opI R (f_PW_mark o x1) (f_Md_mark x1)) (H12 : ∀ o : Nat, opI R (f_PW_fed o ) (f_Md_fed )) (H1 : ∀ o : Nat, opX R o) :
    ∀ (n i : Nat) (SC SM : qSt) (g : Nat → Option qE) (mn mk mw : Nat) (f : Nat → Int64) (e5 e6 : Option Value), i ≤ L + 2 → L + 3 ≤ i + n → R SC SM → g (s.heap.size + 51) = some (.inl (2, 1, .inr (.inl f))) → s.heap.size + 52 ≤ mn → mk ≤ 60 + 110 * i → mw ≤ 14000 + 1100 * i → q_GL p l e s m below meth c D ac b (23, [some (.ref b), some (.ref s.heap.size), some (.ref (s.heap.size + 21)), some (.ref (s.heap.size + 51)), some (.int (nI i)), e5, e6], [], Lw s.heap.size SC SM g (mn, mk, mw)) := by
  intro n
  induction n with
  | zero => intro i SC SM g mn mk mw f e5 e6 h1 h2; omega
  | succ n ih =>
    intro i SC SM g mn mk mw f e5 e6 hi hn hR hg hmn hmk hmw
    have hk : mk ≤ 601024 := by omega
    have hw : mw ≤ 7293034 := by omega
    refine gl_step C0 hK (tt_iload d_La_23 rfl) hk hw ?_
    refine gl_step C0 hK (tt_aload_n d_La_25 rfl) hk hw ?_
    refine gl_slen C0 d_La_26 ?_
    refine gl_step C0 hK (tt_iconst (v := 3) d_La_27 (by decide)) hk hw ?_
    refine gl_step C0 hK (tt_isub d_La_28) hk hw ?_
    by_cases hlt : Int32.ofNat L - 3 < nI i
    · refine gl_step C0 hK (tt_icmp_gt_t (t := 412) d_La_29 (by decide) hlt) hk hw ?_
      refine gl_step C0 hK (tt_iconst (v := 1) d_La_412 (by decide)) hk hw ?_
      exact gl_ret C0 d_La_413 hk hw
    · refine gl_step C0 hK (tt_icmp_gt_f (t := 412) d_La_29 (by decide) hlt) hk hw ?_
      have hiL : i + 3 ≤ L := by
        by_cases h3 : 3 ≤ L
        · have e1 : Int32.ofNat L - 3 = nI (L - 3) := pk_sub (a := L) (b := 3) h3
          rw [e1] at hlt
          have := mt (nI_ltI (a := L - 3) (b := i) (by omega) (by omega)).mpr hlt
          omega
        · exfalso
          apply hlt
          have e1 : Int32.ofNat L - 3 < 0 := pk_sneg (a := L) (b := 3) (by decide) (by omega)
          rw [Int32.lt_iff_toInt_lt] at e1 ⊢
          rw [nI_toInt (by omega)]
          have z0 : (0 : Int32).toInt = 0 := rfl
          rw [z0] at e1
          omega
      have in0 : vp_in (nI i) L := vp_in_nI (by omega) (by omega)
      have in1 : vp_in (nI i + 1) L := by rw [show nI i + 1 = nI (i + 1) from nI_1 i]; exact vp_in_nI (by omega) (by omega)
      have in2 : vp_in (nI i + 2) L := by rw [show nI i + 2 = nI (i + 2) from nI_add i 2]; exact vp_in_nI (by omega) (by omega)
      have tail : ∀ (SC SM : qSt) (g : Nat → Option qE) (mn mk mw : Nat) (f : Nat → Int64) (e5 e6 : Option Value), R SC SM → g (s.heap.size + 51) = some (.inl (2, 1, .inr (.inl f))) → s.heap.size + 52 ≤ mn → mk ≤ 60 + 110 * (i + 3) → mw ≤ 14000 + 1100 * (i + 3) → q_GL p l e s m below meth c D ac b (406, [some (.ref b), some (.ref s.heap.size), some (.ref (s.heap.size + 21)), some (.ref (s.heap.size + 51)), some (.int (nI i)), e5, e6], [], Lw s.heap.size SC SM g (mn, mk, mw)) := by
        intro SC SM g mn mk mw f e5 e6 hR hg hmn hmk hmw
        have hk : mk ≤ 601024 := by omega
        have hw : mw ≤ 7293034 := by omega
        refine gl_step C0 hK (tt_iinc (v := nI (i + 3)) (lo' := [some (.ref b), some (.ref s.heap.size), some (.ref (s.heap.size + 21)), some (.ref (s.heap.size + 51)), some (.int (nI (i + 3))), e5, e6]) d_La_406 rfl (nI_add i 3) (Nat.le_of_ble_eq_true rfl) rfl) hk hw ?_
        refine gl_step C0 hK (tt_goto (t := 23) d_La_409 (by decide)) hk hw ?_
        exact ih (i + 3) SC SM g mn mk mw f e5 e6 (by omega) (by omega) hR hg hmn hmk hmw
      refine gl_step C0 hK (tt_aload_n d_La_32 rfl) hk hw ?_
      refine gl_step C0 hK (tt_iload d_La_33 rfl) hk hw ?_
      refine gl_sld C0 in0 d_La_35 ?_
      refine gl_step C0 hK (tt_bipush (v := 15) d_La_36 (by decide)) hk hw ?_
      refine gl_step C0 hK (tt_iand d_La_38) hk hw ?_
      generalize hv0 : xs (nI i).toNatClampNeg &&& 15 = v0
      by_cases g0 : v0 = 0
      · refine gl_step C0 hK (tt_table (off := 65) (t := 104) d_La_39 (by rw [g0]; decide) (by decide)) hk hw ?_
        obtain ⟨nc, hnc, hce⟩ := gl_chr (xs (nI i + 1).toNatClampNeg)
        obtain ⟨v, SC', SM', hC, hM, hR'⟩ := H0 s.heap.size (((xs (nI i + 1).toNatClampNeg).toUInt32 % 65536).toInt32) ⟨nc, hnc, hce⟩ SC SM hR
        refine gl_step C0 hK (tt_aload_n d_La_104 rfl) hk hw ?_
        refine gl_step C0 hK (tt_aload_n d_La_105 rfl) hk hw ?_
        refine gl_step C0 hK (tt_iload d_La_106 rfl) hk hw ?_
        refine gl_step C0 hK (tt_iconst (v := 1) d_La_108 (by decide)) hk hw ?_
        refine gl_step C0 hK (tt_iadd d_La_109) hk hw ?_
        refine gl_sld C0 in1 d_La_110 ?_
        refine gl_step C0 hK (tt_i2c d_La_111) hk hw ?_
        have hcC := c_PW_pattern 100 (by decide) s.heap.size (((xs (nI i + 1).toNatClampNeg).toUInt32 % 65536).toInt32) _ _ v (hC (LwR s.heap.size SM g (mn, mk, mw)))
        have hcM := c_Md_pattern 100 (by decide) (s.heap.size + 21) (((xs (nI i + 1).toNatClampNeg).toUInt32 % 65536).toInt32) _ _ v (hM (LwL s.heap.size SC' g (mn, mk, mw)))
        rw [Lw_C, Lw_C] at hcC
        rw [Lw_M, Lw_M] at hcM
        refine gl_cV1i (q := s.heap.size) C0 hK d_La_112 pM_La_21 (Nat.le_of_ble_eq_true rfl) (show (Lw s.heap.size SC SM g (mn, mk, mw)).1 (s.heap.size + 0) = _ from ov_at (by decide)) hcC hk hw ?_
        refine gl_step C0 hK (tt_aload_n d_La_115 rfl) hk hw ?_
        refine gl_step C0 hK (tt_aload_n d_La_116 rfl) hk hw ?_
        refine gl_step C0 hK (tt_iload d_La_117 rfl) hk hw ?_
        refine gl_step C0 hK (tt_iconst (v := 1) d_La_119 (by decide)) hk hw ?_
        refine gl_step C0 hK (tt_iadd d_La_120) hk hw ?_
        refine gl_sld C0 in1 d_La_121 ?_
        refine gl_step C0 hK (tt_i2c d_La_122) hk hw ?_
        refine gl_cV1i (q := s.heap.size + 21) C0 hK d_La_123 pM_La_25 (Nat.le_of_ble_eq_true rfl) (show (Lw s.heap.size SC' SM g (mn, mk, mw)).1 (s.heap.size + 21) = _ from (show ov s.heap.size 21 _ (ov (s.heap.size + 21) 30 _ g) (s.heap.size + 21) = _ from by rw [ov_out (by omega)]; exact ov_at (o := s.heap.size + 21) (j := 0) (by decide))) hcM hk hw ?_
        refine gl_step C0 hK (tt_icmp_eq_t (t := 406) d_La_126 (by decide) rfl) hk hw ?_
        exact tail SC' SM' g mn mk mw f e5 e6 hR' hg hmn (by omega) (by omega)
      · skip
        by_cases g1 : v0 = 1
        · refine gl_step C0 hK (tt_table (off := 92) (t := 131) d_La_39 (by rw [g1]; decide) (by decide)) hk hw ?_
          obtain ⟨res, SC', SM', x, t, hC, hM, hres, hR'⟩ := H1 s.heap.size SC SM hR (ov (s.heap.size + 21) 30 (cM (s.heap.size + 21) (vT SM (g, mn, mk, mw))) g) mn mk mw (by omega)
          obtain ⟨h', n', k', w', hC, hC2, hC3, hC6, hC7⟩ := hC
          have hev := c_PW_compile 60 (by decide) s.heap.size _ _ res hC
          rw [show layC s.heap.size (vT SC (ov (s.heap.size + 21) 30 (cM (s.heap.size + 21) (vT SM (g, mn, mk, mw))) g, mn, mk, mw)) = Lw s.heap.size SC SM g (mn, mk, mw) from Lw_C s.heap.size SC SM g (mn, mk, mw)] at hev
          obtain ⟨g2, hg2⟩ : ∃ g2 : Nat → Option qE, g2 = fun a => if s.heap.size + 21 ≤ a ∧ a < s.heap.size + 51 then g a else h' a := ⟨_, rfl⟩
          have hh : ∀ m9 : Nat × Nat × Nat, h' = ov (s.heap.size + 21) 30 (cM (s.heap.size + 21) (vT SM (g2, m9))) g2 := by
            intro m9
            funext a
            by_cases ha : s.heap.size + 21 ≤ a ∧ a < s.heap.size + 21 + 30
            · rw [hC2 a (by omega)]
              unfold ov
              rw [if_pos ha, if_pos ha, cM_v (s.heap.size + 21) SM (g2, m9) (g, mn, mk, mw)]
            · unfold ov
              rw [if_neg ha, hg2]
              exact (if_neg (by omega)).symm
          have hg2q : g2 (s.heap.size + 51) = some (.inl (2, 1, .inr (.inl f))) := by
            rw [hg2]
            refine (if_neg (by omega)).trans ?_
            rw [hC2 _ (by omega), ov_out (by omega)]
            exact hg
          have hlay : ∀ m9 : Nat × Nat × Nat, layC s.heap.size (vT SC' (h', m9)) = Lw s.heap.size SC' SM g2 m9 := by
            intro m9
            rw [← Lw_C, LwR, ← hh m9]
          refine gl_step C0 hK (tt_aload_n d_La_131 rfl) hk hw ?_
          refine gl_step C0 hK (tt_aload_n d_La_132 rfl) hk hw ?_
          have hrest : ∀ (kr : Int32) (g3 : Nat → Option qE) (f3 : Nat → Int64) (n3 : Nat), (kr = t) → (kr = 0 → f3 0 = x.toInt64) → g3 (s.heap.size + 51) = some (.inl (2, 1, .inr (.inl f3))) → s.heap.size + 52 ≤ n3 → q_GL p l e s m below meth c D ac b (136, [some (.ref b), some (.ref s.heap.size), some (.ref (s.heap.size + 21)), some (.ref (s.heap.size + 51)), some (.int (nI i)), e5, e6], [.int kr], Lw s.heap.size SC' SM g3 (n3, k', w')) := by
            intro kr g3 f3 n3 hkr hf3 hg3 hn3
            have hk : k' ≤ 601024 := by omega
            have hw : w' ≤ 7293034 := by omega
            obtain ⟨T1, hM1, hM2⟩ := hM (LwL s.heap.size SC' g3 (n3, k', w'))
            have hc1 := c_Md_compile 100 (by decide) (s.heap.size + 21) _ _ x hM1
            have hc2 := c_Md_thrown 100 (by decide) (s.heap.size + 21) _ _ t hM2
            rw [Lw_M] at hc1 hc2
            have hT1 : ∃ σ9 fs9, layM (s.heap.size + 21) T1 = σ9 ∧ σ9.1 (s.heap.size + 21) = some (.inr (8, fs9)) ∧ σ9.2.2.1 ≤ 601024 ∧ σ9.2.2.2 ≤ 7293034 := by
              obtain ⟨fs9, hfs9⟩ := obM_0 (s.heap.size + 21) T1
              have m1 := (q_true (l := l) (D := D) (ac := ac) (B0 := 0) 100 _ _ _ _ _ hc2).2
              exact ⟨_, fs9, rfl, hfs9, Nat.le_trans m1.1 hk, Nat.le_trans m1.2 hw⟩
            obtain ⟨σ9, fs9, e9, hfs9, hk9, hw9⟩ := hT1
            rw [e9] at hc1 hc2
            refine gl_step C0 hK (tt_istore (lo' := [some (.ref b), some (.ref s.heap.size), some (.ref (s.heap.size + 21)), some (.ref (s.heap.size + 51)), some (.int (nI i)), some (.int kr), e6]) d_La_136 (Nat.le_of_ble_eq_true rfl) rfl) hk hw ?_
            refine gl_step C0 hK (tt_aload_n d_La_138 rfl) hk hw ?_
            refine gl_cV0i (q := s.heap.size + 21) C0 hK d_La_139 pM_La_31 (Nat.le_of_ble_eq_true rfl) (show (Lw s.heap.size SC' SM g3 (n3, k', w')).1 (s.heap.size + 21) = _ from (show ov s.heap.size 21 _ (ov (s.heap.size + 21) 30 _ g3) (s.heap.size + 21) = _ from by rw [ov_out (by omega)]; exact ov_at (o := s.heap.size + 21) (j := 0) (by decide))) hc1 hk9 hw9 ?_
            refine gl_step C0 hK (tt_istore (lo' := [some (.ref b), some (.ref s.heap.size), some (.ref (s.heap.size + 21)), some (.ref (s.heap.size + 51)), some (.int (nI i)), some (.int kr), some (.int x)]) d_La_142 (Nat.le_of_ble_eq_true rfl) rfl) hk9 hw9 ?_
            refine gl_step C0 hK (tt_aload_n d_La_144 rfl) hk9 hw9 ?_
            refine gl_cV0i (q := s.heap.size + 21) C0 hK d_La_145 pM_La_32 (Nat.le_of_ble_eq_true rfl) hfs9 hc2 hk hw ?_
            refine gl_step C0 hK (tt_iload d_La_148 rfl) hk hw ?_
            refine gl_step C0 hK (tt_icmp_eq_t (t := 155) d_La_150 (by decide) hkr.symm) hk hw ?_
            refine gl_step C0 hK (tt_iload d_La_155 rfl) hk hw ?_
            by_cases hz : kr = 0
            · refine gl_step C0 hK (tt_if_ne_f (t := 172) d_La_157 (by decide) (fun y => y hz)) hk hw ?_
              refine gl_step C0 hK (tt_aload_n d_La_160 rfl) hk hw ?_
              refine gl_step C0 hK (tt_iconst (v := 0) d_La_161 (by decide)) hk hw ?_
              refine gl_step C0 hK (tt_laload (f := f3) (n := 1) d_La_162 (show (Lw s.heap.size SC' SM' g3 (n3, k', w')).1 (s.heap.size + 51) = _ from (show ov s.heap.size 21 _ (ov (s.heap.size + 21) 30 _ g3) (s.heap.size + 51) = _ from by rw [ov_out (by omega), ov_out (by omega)]; exact hg3)) (by decide)) hk hw ?_
              refine gl_step C0 hK (tt_iload d_La_163 rfl) hk hw ?_
              refine gl_step C0 hK (tt_i2l d_La_165) hk hw ?_
              refine gl_step C0 hK (tt_lcmp d_La_166) hk hw ?_
              refine gl_step C0 hK (tt_if_eq_t (t := 172) d_La_167 (by decide) (by rw [show f3 (Int32.toNatClampNeg 0) = x.toInt64 from hf3 hz]; simp [lg_cmp])) hk hw ?_
              refine gl_step C0 hK (tt_goto (t := 406) d_La_172 (by decide)) hk hw ?_
              exact tail SC' SM' g3 n3 k' w' f3 _ _ hR' hg3 hn3 (by omega) (by omega)
            · refine gl_step C0 hK (tt_if_ne_t (t := 172) d_La_157 (by decide) hz) hk hw ?_
              refine gl_step C0 hK (tt_goto (t := 406) d_La_172 (by decide)) hk hw ?_
              exact tail SC' SM' g3 n3 k' w' f3 _ _ hR' hg3 hn3 (by omega) (by omega)
          have hq1 : (Lw s.heap.size SC SM g (mn, mk, mw)).1 (s.heap.size + 51) = some (.inl (2, 1, .inr (.inl f))) := (show ov s.heap.size 21 _ (ov (s.heap.size + 21) 30 _ g) (s.heap.size + 51) = _ from by rw [ov_out (by omega), ov_out (by omega)]; exact hg)
          have hq2 : ∀ m9 : Nat × Nat × Nat, (Lw s.heap.size SC' SM g2 m9).1 (s.heap.size + 51) = some (.inl (2, 1, .inr (.inl f))) := fun m9 => (show ov s.heap.size 21 _ (ov (s.heap.size + 21) 30 _ g2) (s.heap.size + 51) = _ from by rw [ov_out (by omega), ov_out (by omega)]; exact hg2q)
          rcases hres with ⟨hr1, ht⟩ | ⟨z, hr1, ht, hz12⟩
          · subst hr1
            rw [show q_resX (layC s.heap.size) (.inl x) (vT SC' (h', n', k', w')) = some (.inl (some (.int x)), Lw s.heap.size SC' SM g2 (n', k', w')) from by rw [← hlay]; rfl] at hev
            refine hLC _ _ _ _ (s.heap.size + 51) f _ rfl (show (Lw s.heap.size SC SM g (mn, mk, mw)).1 (s.heap.size + 0) = _ from ov_at (by decide)) hq1 hev (hq2 _) (show k' + 10 ≤ 601024 by omega) (show w' + 100 ≤ 7293034 by omega) (fun x2 e2 => ?_) (fun z n2 e2 => by cases e2)
            cases e2
            have e7 : (q_up (Lw s.heap.size SC' SM g2 (n', k', w')).1 (s.heap.size + 51) (.inl (2, 1, .inr (.inl (vp_updL f 0 x.toInt64)))), (Lw s.heap.size SC' SM g2 (n', k', w')).2) = Lw s.heap.size SC' SM (q_up g2 (s.heap.size + 51) (.inl (2, 1, .inr (.inl (vp_updL f 0 x.toInt64))))) (n', k', w') := by
              refine Prod.ext ?_ rfl
              show q_up (ov s.heap.size 21 _ (ov (s.heap.size + 21) 30 _ g2)) (s.heap.size + 51) _ = ov s.heap.size 21 _ (ov (s.heap.size + 21) 30 _ _)
              rw [ov_upo (by omega), ov_upo (by omega)]
              rfl
            rw [e7]
            exact hrest 0 _ (vp_updL f 0 x.toInt64) n' ht.symm (fun _ => rfl) (by unfold q_up; exact if_pos rfl) (by omega)
          · subst hr1
            rw [show q_resX (layC s.heap.size) (.inr z) (vT SC' (h', n', k', w')) = some (.inr z, Lw s.heap.size SC' SM g2 (n', k', w')) from by rw [← hlay]; rfl] at hev
            refine hLC _ _ _ _ (s.heap.size + 51) f _ rfl (show (Lw s.heap.size SC SM g (mn, mk, mw)).1 (s.heap.size + 0) = _ from ov_at (by decide)) hq1 hev (hq2 _) (show k' + 10 ≤ 601024 by omega) (show w' + 100 ≤ 7293034 by omega) (fun x2 e2 => by cases e2) (fun z2 n2 e2 hn2 hz2 => ?_)
            cases e2
            have e7 : ((Lw s.heap.size SC' SM g2 (n', k', w')).1, n2, (Lw s.heap.size SC' SM g2 (n', k', w')).2.2) = Lw s.heap.size SC' SM g2 (n2, k', w') := by
              unfold Lw
              rw [cC_v s.heap.size SC' (g2, n2, k', w') (g2, n', k', w'), cM_v (s.heap.size + 21) SM (g2, n2, k', w') (g2, n', k', w')]
            rw [e7]
            have hn2 : mn ≤ n2 := hn2
            exact hrest (nI z) g2 f n2 ht.symm (fun hz => absurd hz (by rcases hz12 with rfl | rfl <;> decide)) hg2q (by omega)
        · skip
          by_cases g2 : v0 = 2
          · refine gl_step C0 hK (tt_table (off := 136) (t := 175) d_La_39 (by rw [g2]; decide) (by decide)) hk hw ?_
            obtain ⟨v, SC', SM', hC, hM, hR'⟩ := H2 s.heap.size  SC SM hR
            refine gl_step C0 hK (tt_aload_n d_La_175 rfl) hk hw ?_
            have hcC := c_PW_position 100 (by decide) s.heap.size  _ _ v (hC (LwR s.heap.size SM g (mn, mk, mw)))
            have hcM := c_Md_position 100 (by decide) (s.heap.size + 21)  _ _ v (hM (LwL s.heap.size SC' g (mn, mk, mw)))
            rw [Lw_C, Lw_C] at hcC
            rw [Lw_M, Lw_M] at hcM
            refine gl_cV0i (q := s.heap.size) C0 hK d_La_176 pM_La_35 (Nat.le_of_ble_eq_true rfl) (show (Lw s.heap.size SC SM g (mn, mk, mw)).1 (s.heap.size + 0) = _ from ov_at (by decide)) hcC hk hw ?_
            refine gl_step C0 hK (tt_aload_n d_La_179 rfl) hk hw ?_
            refine gl_cV0i (q := s.heap.size + 21) C0 hK d_La_180 pM_La_38 (Nat.le_of_ble_eq_true rfl) (show (Lw s.heap.size SC' SM g (mn, mk, mw)).1 (s.heap.size + 21) = _ from (show ov s.heap.size 21 _ (ov (s.heap.size + 21) 30 _ g) (s.heap.size + 21) = _ from by rw [ov_out (by omega)]; exact ov_at (o := s.heap.size + 21) (j := 0) (by decide))) hcM hk hw ?_
            refine gl_step C0 hK (tt_icmp_eq_t (t := 406) d_La_183 (by decide) rfl) hk hw ?_
            exact tail SC' SM' g mn mk mw f e5 e6 hR' hg hmn (by omega) (by omega)
          · skip
            by_cases g3 : v0 = 3
            · refine gl_step C0 hK (tt_table (off := 149) (t := 188) d_La_39 (by rw [g3]; decide) (by decide)) hk hw ?_
              obtain ⟨SC', SM', hC, hM, hR'⟩ := H3 s.heap.size  SC SM hR
              refine gl_step C0 hK (tt_aload_n d_La_188 rfl) hk hw ?_
              have hcC := c_PW_clear 100 (by decide) s.heap.size  _ _ () (hC (LwR s.heap.size SM g (mn, mk, mw)))
              have hcM := c_Md_clear 100 (by decide) (s.heap.size + 21)  _ _ () (hM (LwL s.heap.size SC' g (mn, mk, mw)))
              rw [Lw_C, Lw_C] at hcC
              rw [Lw_M, Lw_M] at hcM
              refine gl_cV0v (q := s.heap.size) C0 hK d_La_189 pM_La_39 (Nat.le_of_ble_eq_true rfl) (show (Lw s.heap.size SC SM g (mn, mk, mw)).1 (s.heap.size + 0) = _ from ov_at (by decide)) hcC hk hw ?_
              refine gl_step C0 hK (tt_aload_n d_La_192 rfl) hk hw ?_
              refine gl_cV0v (q := s.heap.size + 21) C0 hK d_La_193 pM_La_42 (Nat.le_of_ble_eq_true rfl) (show (Lw s.heap.size SC' SM g (mn, mk, mw)).1 (s.heap.size + 21) = _ from (show ov s.heap.size 21 _ (ov (s.heap.size + 21) 30 _ g) (s.heap.size + 21) = _ from by rw [ov_out (by omega)]; exact ov_at (o := s.heap.size + 21) (j := 0) (by decide))) hcM hk hw ?_
              refine gl_step C0 hK (tt_goto (t := 406) d_La_196 (by decide)) hk hw ?_
              exact tail SC' SM' g mn mk mw f e5 e6 hR' hg hmn (by omega) (by omega)
            · skip
              by_cases g4 : v0 = 4
              · refine gl_step C0 hK (tt_table (off := 160) (t := 199) d_La_39 (by rw [g4]; decide) (by decide)) hk hw ?_
                obtain ⟨v, SC', SM', hC, hM, hR'⟩ := H4 s.heap.size (xs (nI i + 1).toNatClampNeg) (xs (nI i + 2).toNatClampNeg) SC SM hR
                refine gl_step C0 hK (tt_aload_n d_La_199 rfl) hk hw ?_
                refine gl_step C0 hK (tt_aload_n d_La_200 rfl) hk hw ?_
                refine gl_step C0 hK (tt_iload d_La_201 rfl) hk hw ?_
                refine gl_step C0 hK (tt_iconst (v := 1) d_La_203 (by decide)) hk hw ?_
                refine gl_step C0 hK (tt_iadd d_La_204) hk hw ?_
                refine gl_sld C0 in1 d_La_205 ?_
                refine gl_step C0 hK (tt_aload_n d_La_206 rfl) hk hw ?_
                refine gl_step C0 hK (tt_iload d_La_207 rfl) hk hw ?_
                refine gl_step C0 hK (tt_iconst (v := 2) d_La_209 (by decide)) hk hw ?_
                refine gl_step C0 hK (tt_iadd d_La_210) hk hw ?_
                refine gl_sld C0 in2 d_La_211 ?_
                have hcC := c_PW_instruction 100 (by decide) s.heap.size (xs (nI i + 1).toNatClampNeg) (xs (nI i + 2).toNatClampNeg) _ _ v (hC (LwR s.heap.size SM g (mn, mk, mw)))
                have hcM := c_Md_instruction 100 (by decide) (s.heap.size + 21) (xs (nI i + 1).toNatClampNeg) (xs (nI i + 2).toNatClampNeg) _ _ v (hM (LwL s.heap.size SC' g (mn, mk, mw)))
                rw [Lw_C, Lw_C] at hcC
                rw [Lw_M, Lw_M] at hcM
                refine gl_cV2i (q := s.heap.size) C0 hK d_La_212 pM_La_43 (Nat.le_of_ble_eq_true rfl) (show (Lw s.heap.size SC SM g (mn, mk, mw)).1 (s.heap.size + 0) = _ from ov_at (by decide)) hcC hk hw ?_
                refine gl_step C0 hK (tt_aload_n d_La_215 rfl) hk hw ?_
                refine gl_step C0 hK (tt_aload_n d_La_216 rfl) hk hw ?_
                refine gl_step C0 hK (tt_iload d_La_217 rfl) hk hw ?_
                refine gl_step C0 hK (tt_iconst (v := 1) d_La_219 (by decide)) hk hw ?_
                refine gl_step C0 hK (tt_iadd d_La_220) hk hw ?_
                refine gl_sld C0 in1 d_La_221 ?_
                refine gl_step C0 hK (tt_aload_n d_La_222 rfl) hk hw ?_
                refine gl_step C0 hK (tt_iload d_La_223 rfl) hk hw ?_
                refine gl_step C0 hK (tt_iconst (v := 2) d_La_225 (by decide)) hk hw ?_
                refine gl_step C0 hK (tt_iadd d_La_226) hk hw ?_
                refine gl_sld C0 in2 d_La_227 ?_
                refine gl_cV2i (q := s.heap.size + 21) C0 hK d_La_228 pM_La_47 (Nat.le_of_ble_eq_true rfl) (show (Lw s.heap.size SC' SM g (mn, mk, mw)).1 (s.heap.size + 21) = _ from (show ov s.heap.size 21 _ (ov (s.heap.size + 21) 30 _ g) (s.heap.size + 21) = _ from by rw [ov_out (by omega)]; exact ov_at (o := s.heap.size + 21) (j := 0) (by decide))) hcM hk hw ?_
                refine gl_step C0 hK (tt_icmp_eq_t (t := 406) d_La_231 (by decide) rfl) hk hw ?_
                exact tail SC' SM' g mn mk mw f e5 e6 hR' hg hmn (by omega) (by omega)
              · skip
                by_cases g5 : v0 = 5
                · refine gl_step C0 hK (tt_table (off := 197) (t := 236) d_La_39 (by rw [g5]; decide) (by decide)) hk hw ?_
                  obtain ⟨v, SC', SM', hC, hM, hR'⟩ := H5 s.heap.size  SC SM hR
                  refine gl_step C0 hK (tt_aload_n d_La_236 rfl) hk hw ?_
                  have hcC := c_PW_groups 100 (by decide) s.heap.size  _ _ v (hC (LwR s.heap.size SM g (mn, mk, mw)))
                  have hcM := c_Md_groups 100 (by decide) (s.heap.size + 21)  _ _ v (hM (LwL s.heap.size SC' g (mn, mk, mw)))
                  rw [Lw_C, Lw_C] at hcC
                  rw [Lw_M, Lw_M] at hcM
                  refine gl_cV0i (q := s.heap.size) C0 hK d_La_237 pM_La_48 (Nat.le_of_ble_eq_true rfl) (show (Lw s.heap.size SC SM g (mn, mk, mw)).1 (s.heap.size + 0) = _ from ov_at (by decide)) hcC hk hw ?_
                  refine gl_step C0 hK (tt_aload_n d_La_240 rfl) hk hw ?_
                  refine gl_cV0i (q := s.heap.size + 21) C0 hK d_La_241 pM_La_51 (Nat.le_of_ble_eq_true rfl) (show (Lw s.heap.size SC' SM g (mn, mk, mw)).1 (s.heap.size + 21) = _ from (show ov s.heap.size 21 _ (ov (s.heap.size + 21) 30 _ g) (s.heap.size + 21) = _ from by rw [ov_out (by omega)]; exact ov_at (o := s.heap.size + 21) (j := 0) (by decide))) hcM hk hw ?_
                  refine gl_step C0 hK (tt_icmp_eq_t (t := 406) d_La_244 (by decide) rfl) hk hw ?_
                  exact tail SC' SM' g mn mk mw f e5 e6 hR' hg hmn (by omega) (by omega)
                · skip
                  by_cases g6 : v0 = 6
                  · refine gl_step C0 hK (tt_table (off := 210) (t := 249) d_La_39 (by rw [g6]; decide) (by decide)) hk hw ?_
                    by_cases hz : xs (nI i + 1).toNatClampNeg = 0
                    · obtain ⟨v, SC', SM', hC, hM, hR'⟩ := H6 s.heap.size 0 (Or.inl rfl) SC SM hR
                      refine gl_step C0 hK (tt_aload_n d_La_249 rfl) hk hw ?_
                      refine gl_step C0 hK (tt_aload_n d_La_250 rfl) hk hw ?_
                      refine gl_step C0 hK (tt_iload d_La_251 rfl) hk hw ?_
                      refine gl_step C0 hK (tt_iconst (v := 1) d_La_253 (by decide)) hk hw ?_
                      refine gl_step C0 hK (tt_iadd d_La_254) hk hw ?_
                      refine gl_sld C0 in1 d_La_255 ?_
                      refine gl_step C0 hK (tt_if_eq_t (t := 263) d_La_256 (by decide) hz) hk hw ?_
                      refine gl_step C0 hK (tt_iconst (v := 0) d_La_263 (by decide)) hk hw ?_
                      have hcC := c_PW_start 100 (by decide) s.heap.size 0 _ _ v (hC (LwR s.heap.size SM g (mn, mk, mw)))
                      have hcM := c_Md_start 100 (by decide) (s.heap.size + 21) 0 _ _ v (hM (LwL s.heap.size SC' g (mn, mk, mw)))
                      rw [Lw_C, Lw_C] at hcC
                      rw [Lw_M, Lw_M] at hcM
                      refine gl_cV1i (q := s.heap.size) C0 hK d_La_264 pM_La_52 (Nat.le_of_ble_eq_true rfl) (show (Lw s.heap.size SC SM g (mn, mk, mw)).1 (s.heap.size + 0) = _ from ov_at (by decide)) hcC hk hw ?_
                      refine gl_step C0 hK (tt_aload_n d_La_267 rfl) hk hw ?_
                      refine gl_step C0 hK (tt_aload_n d_La_268 rfl) hk hw ?_
                      refine gl_step C0 hK (tt_iload d_La_269 rfl) hk hw ?_
                      refine gl_step C0 hK (tt_iconst (v := 1) d_La_271 (by decide)) hk hw ?_
                      refine gl_step C0 hK (tt_iadd d_La_272) hk hw ?_
                      refine gl_sld C0 in1 d_La_273 ?_
                      refine gl_step C0 hK (tt_if_eq_t (t := 281) d_La_274 (by decide) hz) hk hw ?_
                      refine gl_step C0 hK (tt_iconst (v := 0) d_La_281 (by decide)) hk hw ?_
                      refine gl_cV1i (q := s.heap.size + 21) C0 hK d_La_282 pM_La_56 (Nat.le_of_ble_eq_true rfl) (show (Lw s.heap.size SC' SM g (mn, mk, mw)).1 (s.heap.size + 21) = _ from (show ov s.heap.size 21 _ (ov (s.heap.size + 21) 30 _ g) (s.heap.size + 21) = _ from by rw [ov_out (by omega)]; exact ov_at (o := s.heap.size + 21) (j := 0) (by decide))) hcM hk hw ?_
                      refine gl_step C0 hK (tt_icmp_eq_t (t := 406) d_La_285 (by decide) rfl) hk hw ?_
                      exact tail SC' SM' g mn mk mw f e5 e6 hR' hg hmn (by omega) (by omega)
                    · obtain ⟨v, SC', SM', hC, hM, hR'⟩ := H6 s.heap.size 1 (Or.inr rfl) SC SM hR
                      refine gl_step C0 hK (tt_aload_n d_La_249 rfl) hk hw ?_
                      refine gl_step C0 hK (tt_aload_n d_La_250 rfl) hk hw ?_
                      refine gl_step C0 hK (tt_iload d_La_251 rfl) hk hw ?_
                      refine gl_step C0 hK (tt_iconst (v := 1) d_La_253 (by decide)) hk hw ?_
                      refine gl_step C0 hK (tt_iadd d_La_254) hk hw ?_
                      refine gl_sld C0 in1 d_La_255 ?_
                      refine gl_step C0 hK (tt_if_eq_f (t := 263) d_La_256 (by decide) hz) hk hw ?_
                      refine gl_step C0 hK (tt_iconst (v := 1) d_La_259 (by decide)) hk hw ?_
                      refine gl_step C0 hK (tt_goto (t := 264) d_La_260 (by decide)) hk hw ?_
                      have hcC := c_PW_start 100 (by decide) s.heap.size 1 _ _ v (hC (LwR s.heap.size SM g (mn, mk, mw)))
                      have hcM := c_Md_start 100 (by decide) (s.heap.size + 21) 1 _ _ v (hM (LwL s.heap.size SC' g (mn, mk, mw)))
                      rw [Lw_C, Lw_C] at hcC
                      rw [Lw_M, Lw_M] at hcM
                      refine gl_cV1i (q := s.heap.size) C0 hK d_La_264 pM_La_52 (Nat.le_of_ble_eq_true rfl) (show (Lw s.heap.size SC SM g (mn, mk, mw)).1 (s.heap.size + 0) = _ from ov_at (by decide)) hcC hk hw ?_
                      refine gl_step C0 hK (tt_aload_n d_La_267 rfl) hk hw ?_
                      refine gl_step C0 hK (tt_aload_n d_La_268 rfl) hk hw ?_
                      refine gl_step C0 hK (tt_iload d_La_269 rfl) hk hw ?_
                      refine gl_step C0 hK (tt_iconst (v := 1) d_La_271 (by decide)) hk hw ?_
                      refine gl_step C0 hK (tt_iadd d_La_272) hk hw ?_
                      refine gl_sld C0 in1 d_La_273 ?_
                      refine gl_step C0 hK (tt_if_eq_f (t := 281) d_La_274 (by decide) hz) hk hw ?_
                      refine gl_step C0 hK (tt_iconst (v := 1) d_La_277 (by decide)) hk hw ?_
                      refine gl_step C0 hK (tt_goto (t := 282) d_La_278 (by decide)) hk hw ?_
                      refine gl_cV1i (q := s.heap.size + 21) C0 hK d_La_282 pM_La_56 (Nat.le_of_ble_eq_true rfl) (show (Lw s.heap.size SC' SM g (mn, mk, mw)).1 (s.heap.size + 21) = _ from (show ov s.heap.size 21 _ (ov (s.heap.size + 21) 30 _ g) (s.heap.size + 21) = _ from by rw [ov_out (by omega)]; exact ov_at (o := s.heap.size + 21) (j := 0) (by decide))) hcM hk hw ?_
                      refine gl_step C0 hK (tt_icmp_eq_t (t := 406) d_La_285 (by decide) rfl) hk hw ?_
                      exact tail SC' SM' g mn mk mw f e5 e6 hR' hg hmn (by omega) (by omega)
                  · skip
                    by_cases g7 : v0 = 7
                    · refine gl_step C0 hK (tt_table (off := 251) (t := 290) d_La_39 (by rw [g7]; decide) (by decide)) hk hw ?_
                      obtain ⟨nc, hnc, hce⟩ := gl_chr (xs (nI i + 1).toNatClampNeg)
                      obtain ⟨v, SC', SM', hC, hM, hR'⟩ := H7 s.heap.size (((xs (nI i + 1).toNatClampNeg).toUInt32 % 65536).toInt32) ⟨nc, hnc, hce⟩ SC SM hR
                      refine gl_step C0 hK (tt_aload_n d_La_290 rfl) hk hw ?_
                      refine gl_step C0 hK (tt_aload_n d_La_291 rfl) hk hw ?_
                      refine gl_step C0 hK (tt_iload d_La_292 rfl) hk hw ?_
                      refine gl_step C0 hK (tt_iconst (v := 1) d_La_294 (by decide)) hk hw ?_
                      refine gl_step C0 hK (tt_iadd d_La_295) hk hw ?_
                      refine gl_sld C0 in1 d_La_296 ?_
                      refine gl_step C0 hK (tt_i2c d_La_297) hk hw ?_
                      have hcC := c_PW_feed 100 (by decide) s.heap.size (((xs (nI i + 1).toNatClampNeg).toUInt32 % 65536).toInt32) _ _ v (hC (LwR s.heap.size SM g (mn, mk, mw)))
                      have hcM := c_Md_feed 100 (by decide) (s.heap.size + 21) (((xs (nI i + 1).toNatClampNeg).toUInt32 % 65536).toInt32) _ _ v (hM (LwL s.heap.size SC' g (mn, mk, mw)))
                      rw [Lw_C, Lw_C] at hcC
                      rw [Lw_M, Lw_M] at hcM
                      refine gl_cV1i (q := s.heap.size) C0 hK d_La_298 pM_La_57 (Nat.le_of_ble_eq_true rfl) (show (Lw s.heap.size SC SM g (mn, mk, mw)).1 (s.heap.size + 0) = _ from ov_at (by decide)) hcC hk hw ?_
                      refine gl_step C0 hK (tt_aload_n d_La_301 rfl) hk hw ?_
                      refine gl_step C0 hK (tt_aload_n d_La_302 rfl) hk hw ?_
                      refine gl_step C0 hK (tt_iload d_La_303 rfl) hk hw ?_
                      refine gl_step C0 hK (tt_iconst (v := 1) d_La_305 (by decide)) hk hw ?_
                      refine gl_step C0 hK (tt_iadd d_La_306) hk hw ?_
                      refine gl_sld C0 in1 d_La_307 ?_
                      refine gl_step C0 hK (tt_i2c d_La_308) hk hw ?_
                      refine gl_cV1i (q := s.heap.size + 21) C0 hK d_La_309 pM_La_60 (Nat.le_of_ble_eq_true rfl) (show (Lw s.heap.size SC' SM g (mn, mk, mw)).1 (s.heap.size + 21) = _ from (show ov s.heap.size 21 _ (ov (s.heap.size + 21) 30 _ g) (s.heap.size + 21) = _ from by rw [ov_out (by omega)]; exact ov_at (o := s.heap.size + 21) (j := 0) (by decide))) hcM hk hw ?_
                      refine gl_step C0 hK (tt_icmp_eq_t (t := 406) d_La_312 (by decide) rfl) hk hw ?_
                      exact tail SC' SM' g mn mk mw f e5 e6 hR' hg hmn (by omega) (by omega)
                    · skip
                      by_cases g8 : v0 = 8
                      · refine gl_step C0 hK (tt_table (off := 278) (t := 317) d_La_39 (by rw [g8]; decide) (by decide)) hk hw ?_
                        obtain ⟨v, SC', SM', hC, hM, hR'⟩ := H8 s.heap.size  SC SM hR
                        refine gl_step C0 hK (tt_aload_n d_La_317 rfl) hk hw ?_
                        have hcC := c_PW_matched 100 (by decide) s.heap.size  _ _ v (hC (LwR s.heap.size SM g (mn, mk, mw)))
                        have hcM := c_Md_matched 100 (by decide) (s.heap.size + 21)  _ _ v (hM (LwL s.heap.size SC' g (mn, mk, mw)))
                        rw [Lw_C, Lw_C] at hcC
                        rw [Lw_M, Lw_M] at hcM
                        refine gl_cV0i (q := s.heap.size) C0 hK d_La_318 pM_La_61 (Nat.le_of_ble_eq_true rfl) (show (Lw s.heap.size SC SM g (mn, mk, mw)).1 (s.heap.size + 0) = _ from ov_at (by decide)) hcC hk hw ?_
                        refine gl_step C0 hK (tt_aload_n d_La_321 rfl) hk hw ?_
                        refine gl_cV0i (q := s.heap.size + 21) C0 hK d_La_322 pM_La_65 (Nat.le_of_ble_eq_true rfl) (show (Lw s.heap.size SC' SM g (mn, mk, mw)).1 (s.heap.size + 21) = _ from (show ov s.heap.size 21 _ (ov (s.heap.size + 21) 30 _ g) (s.heap.size + 21) = _ from by rw [ov_out (by omega)]; exact ov_at (o := s.heap.size + 21) (j := 0) (by decide))) hcM hk hw ?_
                        refine gl_step C0 hK (tt_icmp_eq_t (t := 406) d_La_325 (by decide) rfl) hk hw ?_
                        exact tail SC' SM' g mn mk mw f e5 e6 hR' hg hmn (by omega) (by omega)
                      · skip
                        by_cases g9 : v0 = 9
                        · refine gl_step C0 hK (tt_table (off := 291) (t := 330) d_La_39 (by rw [g9]; decide) (by decide)) hk hw ?_
                          obtain ⟨v, SC', SM', hC, hM, hR'⟩ := H9 s.heap.size  SC SM hR
                          refine gl_step C0 hK (tt_aload_n d_La_330 rfl) hk hw ?_
                          have hcC := c_PW_live 100 (by decide) s.heap.size  _ _ v (hC (LwR s.heap.size SM g (mn, mk, mw)))
                          have hcM := c_Md_live 100 (by decide) (s.heap.size + 21)  _ _ v (hM (LwL s.heap.size SC' g (mn, mk, mw)))
                          rw [Lw_C, Lw_C] at hcC
                          rw [Lw_M, Lw_M] at hcM
                          refine gl_cV0i (q := s.heap.size) C0 hK d_La_331 pM_La_66 (Nat.le_of_ble_eq_true rfl) (show (Lw s.heap.size SC SM g (mn, mk, mw)).1 (s.heap.size + 0) = _ from ov_at (by decide)) hcC hk hw ?_
                          refine gl_step C0 hK (tt_aload_n d_La_334 rfl) hk hw ?_
                          refine gl_cV0i (q := s.heap.size + 21) C0 hK d_La_335 pM_La_69 (Nat.le_of_ble_eq_true rfl) (show (Lw s.heap.size SC' SM g (mn, mk, mw)).1 (s.heap.size + 21) = _ from (show ov s.heap.size 21 _ (ov (s.heap.size + 21) 30 _ g) (s.heap.size + 21) = _ from by rw [ov_out (by omega)]; exact ov_at (o := s.heap.size + 21) (j := 0) (by decide))) hcM hk hw ?_
                          refine gl_step C0 hK (tt_icmp_eq_t (t := 406) d_La_338 (by decide) rfl) hk hw ?_
                          exact tail SC' SM' g mn mk mw f e5 e6 hR' hg hmn (by omega) (by omega)
                        · skip
                          by_cases g10 : v0 = 10
                          · refine gl_step C0 hK (tt_table (off := 304) (t := 343) d_La_39 (by rw [g10]; decide) (by decide)) hk hw ?_
                            obtain ⟨v, SC', SM', hC, hM, hR'⟩ := H10 s.heap.size (xs (nI i + 1).toNatClampNeg) SC SM hR
                            refine gl_step C0 hK (tt_aload_n d_La_343 rfl) hk hw ?_
                            refine gl_step C0 hK (tt_aload_n d_La_344 rfl) hk hw ?_
                            refine gl_step C0 hK (tt_iload d_La_345 rfl) hk hw ?_
                            refine gl_step C0 hK (tt_iconst (v := 1) d_La_347 (by decide)) hk hw ?_
                            refine gl_step C0 hK (tt_iadd d_La_348) hk hw ?_
                            refine gl_sld C0 in1 d_La_349 ?_
                            have hcC := c_PW_isLive 100 (by decide) s.heap.size (xs (nI i + 1).toNatClampNeg) _ _ v (hC (LwR s.heap.size SM g (mn, mk, mw)))
                            have hcM := c_Md_isLive 100 (by decide) (s.heap.size + 21) (xs (nI i + 1).toNatClampNeg) _ _ v (hM (LwL s.heap.size SC' g (mn, mk, mw)))
                            rw [Lw_C, Lw_C] at hcC
                            rw [Lw_M, Lw_M] at hcM
                            refine gl_cV1i (q := s.heap.size) C0 hK d_La_350 pM_La_70 (Nat.le_of_ble_eq_true rfl) (show (Lw s.heap.size SC SM g (mn, mk, mw)).1 (s.heap.size + 0) = _ from ov_at (by decide)) hcC hk hw ?_
                            refine gl_step C0 hK (tt_aload_n d_La_353 rfl) hk hw ?_
                            refine gl_step C0 hK (tt_aload_n d_La_354 rfl) hk hw ?_
                            refine gl_step C0 hK (tt_iload d_La_355 rfl) hk hw ?_
                            refine gl_step C0 hK (tt_iconst (v := 1) d_La_357 (by decide)) hk hw ?_
                            refine gl_step C0 hK (tt_iadd d_La_358) hk hw ?_
                            refine gl_sld C0 in1 d_La_359 ?_
                            refine gl_cV1i (q := s.heap.size + 21) C0 hK d_La_360 pM_La_74 (Nat.le_of_ble_eq_true rfl) (show (Lw s.heap.size SC' SM g (mn, mk, mw)).1 (s.heap.size + 21) = _ from (show ov s.heap.size 21 _ (ov (s.heap.size + 21) 30 _ g) (s.heap.size + 21) = _ from by rw [ov_out (by omega)]; exact ov_at (o := s.heap.size + 21) (j := 0) (by decide))) hcM hk hw ?_
                            refine gl_step C0 hK (tt_icmp_eq_t (t := 406) d_La_363 (by decide) rfl) hk hw ?_
                            exact tail SC' SM' g mn mk mw f e5 e6 hR' hg hmn (by omega) (by omega)
                          · skip
                            by_cases g11 : v0 = 11
                            · refine gl_step C0 hK (tt_table (off := 329) (t := 368) d_La_39 (by rw [g11]; decide) (by decide)) hk hw ?_
                              obtain ⟨v, SC', SM', hC, hM, hR'⟩ := H11 s.heap.size (xs (nI i + 1).toNatClampNeg) SC SM hR
                              refine gl_step C0 hK (tt_aload_n d_La_368 rfl) hk hw ?_
                              refine gl_step C0 hK (tt_aload_n d_La_369 rfl) hk hw ?_
                              refine gl_step C0 hK (tt_iload d_La_370 rfl) hk hw ?_
                              refine gl_step C0 hK (tt_iconst (v := 1) d_La_372 (by decide)) hk hw ?_
                              refine gl_step C0 hK (tt_iadd d_La_373) hk hw ?_
                              refine gl_sld C0 in1 d_La_374 ?_
                              have hcC := c_PW_mark 100 (by decide) s.heap.size (xs (nI i + 1).toNatClampNeg) _ _ v (hC (LwR s.heap.size SM g (mn, mk, mw)))
                              have hcM := c_Md_mark 100 (by decide) (s.heap.size + 21) (xs (nI i + 1).toNatClampNeg) _ _ v (hM (LwL s.heap.size SC' g (mn, mk, mw)))
                              rw [Lw_C, Lw_C] at hcC
                              rw [Lw_M, Lw_M] at hcM
                              refine gl_cV1i (q := s.heap.size) C0 hK d_La_375 pM_La_75 (Nat.le_of_ble_eq_true rfl) (show (Lw s.heap.size SC SM g (mn, mk, mw)).1 (s.heap.size + 0) = _ from ov_at (by decide)) hcC hk hw ?_
                              refine gl_step C0 hK (tt_aload_n d_La_378 rfl) hk hw ?_
                              refine gl_step C0 hK (tt_aload_n d_La_379 rfl) hk hw ?_
                              refine gl_step C0 hK (tt_iload d_La_380 rfl) hk hw ?_
                              refine gl_step C0 hK (tt_iconst (v := 1) d_La_382 (by decide)) hk hw ?_
                              refine gl_step C0 hK (tt_iadd d_La_383) hk hw ?_
                              refine gl_sld C0 in1 d_La_384 ?_
                              refine gl_cV1i (q := s.heap.size + 21) C0 hK d_La_385 pM_La_79 (Nat.le_of_ble_eq_true rfl) (show (Lw s.heap.size SC' SM g (mn, mk, mw)).1 (s.heap.size + 21) = _ from (show ov s.heap.size 21 _ (ov (s.heap.size + 21) 30 _ g) (s.heap.size + 21) = _ from by rw [ov_out (by omega)]; exact ov_at (o := s.heap.size + 21) (j := 0) (by decide))) hcM hk hw ?_
                              refine gl_step C0 hK (tt_icmp_eq_t (t := 406) d_La_388 (by decide) rfl) hk hw ?_
                              exact tail SC' SM' g mn mk mw f e5 e6 hR' hg hmn (by omega) (by omega)
                            · skip
                              by_cases g12 : v0 = 12
                              · refine gl_step C0 hK (tt_table (off := 354) (t := 393) d_La_39 (by rw [g12]; decide) (by decide)) hk hw ?_
                                obtain ⟨v, SC', SM', hC, hM, hR'⟩ := H12 s.heap.size  SC SM hR
                                refine gl_step C0 hK (tt_aload_n d_La_393 rfl) hk hw ?_
                                have hcC := c_PW_fed 100 (by decide) s.heap.size  _ _ v (hC (LwR s.heap.size SM g (mn, mk, mw)))
                                have hcM := c_Md_fed 100 (by decide) (s.heap.size + 21)  _ _ v (hM (LwL s.heap.size SC' g (mn, mk, mw)))
                                rw [Lw_C, Lw_C] at hcC
                                rw [Lw_M, Lw_M] at hcM
                                refine gl_cV0i (q := s.heap.size) C0 hK d_La_394 pM_La_80 (Nat.le_of_ble_eq_true rfl) (show (Lw s.heap.size SC SM g (mn, mk, mw)).1 (s.heap.size + 0) = _ from ov_at (by decide)) hcC hk hw ?_
                                refine gl_step C0 hK (tt_aload_n d_La_397 rfl) hk hw ?_
                                refine gl_cV0i (q := s.heap.size + 21) C0 hK d_La_398 pM_La_83 (Nat.le_of_ble_eq_true rfl) (show (Lw s.heap.size SC' SM g (mn, mk, mw)).1 (s.heap.size + 21) = _ from (show ov s.heap.size 21 _ (ov (s.heap.size + 21) 30 _ g) (s.heap.size + 21) = _ from by rw [ov_out (by omega)]; exact ov_at (o := s.heap.size + 21) (j := 0) (by decide))) hcM hk hw ?_
                                refine gl_step C0 hK (tt_icmp_eq_t (t := 406) d_La_401 (by decide) rfl) hk hw ?_
                                exact tail SC' SM' g mn mk mw f e5 e6 hR' hg hmn (by omega) (by omega)
                              · skip
                                have n0 := i32_ne (x := v0) (c := 0) (k := 0) (by decide) g0
                                have n1 := i32_ne (x := v0) (c := 1) (k := 1) (by decide) g1
                                have n2 := i32_ne (x := v0) (c := 2) (k := 2) (by decide) g2
                                have n3 := i32_ne (x := v0) (c := 3) (k := 3) (by decide) g3
                                have n4 := i32_ne (x := v0) (c := 4) (k := 4) (by decide) g4
                                have n5 := i32_ne (x := v0) (c := 5) (k := 5) (by decide) g5
                                have n6 := i32_ne (x := v0) (c := 6) (k := 6) (by decide) g6
                                have n7 := i32_ne (x := v0) (c := 7) (k := 7) (by decide) g7
                                have n8 := i32_ne (x := v0) (c := 8) (k := 8) (by decide) g8
                                have n9 := i32_ne (x := v0) (c := 9) (k := 9) (by decide) g9
                                have n10 := i32_ne (x := v0) (c := 10) (k := 10) (by decide) g10
                                have n11 := i32_ne (x := v0) (c := 11) (k := 11) (by decide) g11
                                have n12 := i32_ne (x := v0) (c := 12) (k := 12) (by decide) g12
                                refine gl_step C0 hK (tt_table (off := 367) (t := 406) d_La_39 (by unfold q_toff; exact if_pos (by omega)) (by decide)) hk hw ?_
                                exact tail SC SM g mn mk mw f e5 e6 hR hg hmn (by omega) (by omega)
