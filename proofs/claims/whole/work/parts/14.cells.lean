/-! THE SMALL MACHINE IS TRUE, 3: stack, branches, cells -/
section QT
variable {p : Program} {l : Launch} {e : Env} {R : Room} {s : State} {m : MethodId} {args : Array Value} {below : List Frame} {meth : Method} {c : Code} {D : va_G} {cl : List vw_C} {ac : Nat → ClassId} {B0 nL k0 w0 : Nat} {Q : State → Prop} {own : String} {cc : ByteArray} {Ts Ns : List Cond} {pc : Nat} {lo : qL} {st : List Value} {σ : qH} {x' : qS}
theorem q_ok_dup (hx : p.tables.exec = Jvm.exec) (hb : c.code = cc) (hd : decode cc pc = .ok (.dup, 1)) (h : q_dup pc lo st σ = some (.inl x')) (kk : q_G p l e R s m args below meth c D cl ac B0 nL k0 w0 Q x') : q_G p l e R s m args below meth c D cl ac B0 nL k0 w0 Q (pc, lo, st, σ) := by
  unfold q_dup at h
  split at h
  · split at h
    · rename_i hc
      cases h
      exact fun H locs ls h1 h2 h3 h4 h5 h6 => lv_dup hx hb hd hc (kk H locs ls h1 h2 h3 h4 h5 h6)
    · cases h
  · cases h
theorem q_ok_pop (hx : p.tables.exec = Jvm.exec) (hb : c.code = cc) (hd : decode cc pc = .ok (.pop, 1)) (h : q_pop pc lo st σ = some (.inl x')) (kk : q_G p l e R s m args below meth c D cl ac B0 nL k0 w0 Q x') : q_G p l e R s m args below meth c D cl ac B0 nL k0 w0 Q (pc, lo, st, σ) := by
  unfold q_pop at h
  split at h
  · split at h
    · rename_i hc
      cases h
      exact fun H locs ls h1 h2 h3 h4 h5 h6 => lv_pop hx hb hd hc (kk H locs ls h1 h2 h3 h4 h5 h6)
    · cases h
  · cases h
theorem q_ok_pop2 (hx : p.tables.exec = Jvm.exec) (hb : c.code = cc) (hd : decode cc pc = .ok (.pop2, 1)) (h : q_pop2 pc lo st σ = some (.inl x')) (kk : q_G p l e R s m args below meth c D cl ac B0 nL k0 w0 Q x') : q_G p l e R s m args below meth c D cl ac B0 nL k0 w0 Q (pc, lo, st, σ) := by
  unfold q_pop2 at h
  split at h
  · cases h
    exact fun H locs ls h1 h2 h3 h4 h5 h6 => lv_pop2_2 hx hb hd rfl (kk H locs ls h1 h2 h3 h4 h5 h6)
  · cases h
theorem q_ok_dupx1 (hx : p.tables.exec = Jvm.exec) (hb : c.code = cc) (hd : decode cc pc = .ok (.dup_x1, 1)) (h : q_dupx1 pc lo st σ = some (.inl x')) (kk : q_G p l e R s m args below meth c D cl ac B0 nL k0 w0 Q x') : q_G p l e R s m args below meth c D cl ac B0 nL k0 w0 Q (pc, lo, st, σ) := by
  unfold q_dupx1 at h
  split at h
  · split at h
    · rename_i hc
      cases h
      exact fun H locs ls h1 h2 h3 h4 h5 h6 => lv_dup_x1 hx hb hd hc.1 hc.2 (kk H locs ls h1 h2 h3 h4 h5 h6)
    · cases h
  · cases h
theorem q_ok_dupx2 (hx : p.tables.exec = Jvm.exec) (hb : c.code = cc) (hd : decode cc pc = .ok (.dup_x2, 1)) (h : q_dupx2 pc lo st σ = some (.inl x')) (kk : q_G p l e R s m args below meth c D cl ac B0 nL k0 w0 Q x') : q_G p l e R s m args below meth c D cl ac B0 nL k0 w0 Q (pc, lo, st, σ) := by
  unfold q_dupx2 at h
  split at h
  · split at h
    · rename_i hc
      cases h
      exact fun H locs ls h1 h2 h3 h4 h5 h6 => lv_dup_x2 hx hb hd hc.1 hc.2.1 hc.2.2 (kk H locs ls h1 h2 h3 h4 h5 h6)
    · cases h
  · cases h
theorem q_ok_dup2 (hx : p.tables.exec = Jvm.exec) (hb : c.code = cc) (hd : decode cc pc = .ok (.dup2, 1)) (h : q_dup2 pc lo st σ = some (.inl x')) (kk : q_G p l e R s m args below meth c D cl ac B0 nL k0 w0 Q x') : q_G p l e R s m args below meth c D cl ac B0 nL k0 w0 Q (pc, lo, st, σ) := by
  unfold q_dup2 at h
  split at h
  · cases h
    exact fun H locs ls h1 h2 h3 h4 h5 h6 => lv_dup2_2 hx hb hd rfl (kk H locs ls h1 h2 h3 h4 h5 h6)
  · split at h
    · rename_i hc
      cases h
      exact fun H locs ls h1 h2 h3 h4 h5 h6 => lv_dup2_11 hx hb hd hc.1 hc.2 (kk H locs ls h1 h2 h3 h4 h5 h6)
    · cases h
  · cases h
theorem q_ok_dup2x1 (hx : p.tables.exec = Jvm.exec) (hb : c.code = cc) (hd : decode cc pc = .ok (.dup2_x1, 1)) (h : q_dup2x1 pc lo st σ = some (.inl x')) (kk : q_G p l e R s m args below meth c D cl ac B0 nL k0 w0 Q x') : q_G p l e R s m args below meth c D cl ac B0 nL k0 w0 Q (pc, lo, st, σ) := by
  unfold q_dup2x1 at h
  split at h
  · split at h
    · rename_i hc
      cases h
      exact fun H locs ls h1 h2 h3 h4 h5 h6 => lv_dup2_x1_2 hx hb hd rfl hc (kk H locs ls h1 h2 h3 h4 h5 h6)
    · cases h
  · cases h
theorem q_ok_if {cd : ClassFile.Cond} {off : Int} (hx : p.tables.exec = Jvm.exec) (hb : c.code = cc) (hd : decode cc pc = .ok (.ifCond cd off, 3)) (h : q_if cd off pc lo st σ = some (.inl x')) (kk : q_G p l e R s m args below meth c D cl ac B0 nL k0 w0 Q x') : q_G p l e R s m args below meth c D cl ac B0 nL k0 w0 Q (pc, lo, st, σ) := by
  unfold q_if at h
  split at h
  · cases cd
    · exact q_ok_br (fun H locs ls k w tgt ht a b => lv_if_eq hx hb hd ht a b) h kk
    · exact q_ok_br (fun H locs ls k w tgt ht a b => lv_if_ne hx hb hd ht a (fun z => b (fun y => y z))) h kk
    · exact q_ok_br (fun H locs ls k w tgt ht a b => lv_if_lt hx hb hd ht a b) h kk
    · exact q_ok_br (fun H locs ls k w tgt ht a b => lv_if_ge hx hb hd ht a b) h kk
    · exact q_ok_br (fun H locs ls k w tgt ht a b => lv_if_gt hx hb hd ht a b) h kk
    · exact q_ok_br (fun H locs ls k w tgt ht a b => lv_if_le hx hb hd ht a b) h kk
  · cases h
theorem q_ok_icmp {cd : ClassFile.Cond} {off : Int} (hx : p.tables.exec = Jvm.exec) (hb : c.code = cc) (hd : decode cc pc = .ok (.if_icmp cd off, 3)) (h : q_icmp cd off pc lo st σ = some (.inl x')) (kk : q_G p l e R s m args below meth c D cl ac B0 nL k0 w0 Q x') : q_G p l e R s m args below meth c D cl ac B0 nL k0 w0 Q (pc, lo, st, σ) := by
  unfold q_icmp at h
  split at h
  · cases cd
    · exact q_ok_br (fun H locs ls k w tgt ht a b => lv_icmp_eq hx hb hd ht a b) h kk
    · exact q_ok_br (fun H locs ls k w tgt ht a b => lv_icmp_ne hx hb hd ht a (fun z => b (fun y => y z))) h kk
    · exact q_ok_br (fun H locs ls k w tgt ht a b => lv_icmp_lt hx hb hd ht a b) h kk
    · exact q_ok_br (fun H locs ls k w tgt ht a b => lv_icmp_ge hx hb hd ht a b) h kk
    · exact q_ok_br (fun H locs ls k w tgt ht a b => lv_icmp_gt hx hb hd ht a b) h kk
    · exact q_ok_br (fun H locs ls k w tgt ht a b => lv_icmp_le hx hb hd ht a b) h kk
  · cases h
theorem q_ok_ifnull {off : Int} (hx : p.tables.exec = Jvm.exec) (hb : c.code = cc) (hd : decode cc pc = .ok (.ifnull off, 3)) (h : q_ifnull off pc lo st σ = some (.inl x')) (kk : q_G p l e R s m args below meth c D cl ac B0 nL k0 w0 Q x') : q_G p l e R s m args below meth c D cl ac B0 nL k0 w0 Q (pc, lo, st, σ) := by
  unfold q_ifnull at h
  split at h
  · split at h
    · rename_i ht
      cases h
      exact fun H locs ls h1 h2 h3 h4 h5 h6 => lv_ifnullN hx hb hd ht (kk H locs ls h1 h2 h3 h4 h5 h6)
    · cases h
  · cases h
    exact fun H locs ls h1 h2 h3 h4 h5 h6 => lv_ifnull hx hb hd (kk H locs ls h1 h2 h3 h4 h5 h6)
  · cases h
theorem q_ok_ifnonnull {off : Int} (hx : p.tables.exec = Jvm.exec) (hb : c.code = cc) (hd : decode cc pc = .ok (.ifnonnull off, 3)) (h : q_ifnonnull off pc lo st σ = some (.inl x')) (kk : q_G p l e R s m args below meth c D cl ac B0 nL k0 w0 Q x') : q_G p l e R s m args below meth c D cl ac B0 nL k0 w0 Q (pc, lo, st, σ) := by
  unfold q_ifnonnull at h
  split at h
  · split at h
    · rename_i ht
      cases h
      exact fun H locs ls h1 h2 h3 h4 h5 h6 => lv_ifnonnull hx hb hd ht (kk H locs ls h1 h2 h3 h4 h5 h6)
    · cases h
  · cases h
    exact fun H locs ls h1 h2 h3 h4 h5 h6 => lv_ifnonnullN hx hb hd (kk H locs ls h1 h2 h3 h4 h5 h6)
  · cases h
theorem q_ok_goto {off : Int} (hx : p.tables.exec = Jvm.exec) (hb : c.code = cc) (hd : decode cc pc = .ok (.goto off, 3)) (h : q_goto off pc lo st σ = some (.inl x')) (kk : q_G p l e R s m args below meth c D cl ac B0 nL k0 w0 Q x') : q_G p l e R s m args below meth c D cl ac B0 nL k0 w0 Q (pc, lo, st, σ) := by
  unfold q_goto at h
  split at h
  · rename_i ht
    cases h
    exact fun H locs ls h1 h2 h3 h4 h5 h6 => lv_goto hx hb hd ht (kk H locs ls h1 h2 h3 h4 h5 h6)
  · cases h
theorem q_ok_lookup {dflt : Int} {ps : Array (Int × Int)} {len : Nat} (hx : p.tables.exec = Jvm.exec) (hb : c.code = cc) (hd : decode cc pc = .ok (.lookupswitch dflt ps, len)) (h : q_lookup dflt ps pc lo st σ = some (.inl x')) (kk : q_G p l e R s m args below meth c D cl ac B0 nL k0 w0 Q x') : q_G p l e R s m args below meth c D cl ac B0 nL k0 w0 Q (pc, lo, st, σ) := by
  unfold q_lookup at h
  split at h
  · split at h
    · rename_i ht
      cases h
      exact fun H locs ls h1 h2 h3 h4 h5 h6 => lv_lookup hx hb hd ht.1 rfl ht.2 (kk H locs ls h1 h2 h3 h4 h5 h6)
    · cases h
  · cases h
theorem q_ok_table {dflt low high : Int} {offs : Array Int} {len : Nat} (hx : p.tables.exec = Jvm.exec) (hb : c.code = cc) (hd : decode cc pc = .ok (.tableswitch dflt low high offs, len)) (h : q_table dflt low high offs pc lo st σ = some (.inl x')) (kk : q_G p l e R s m args below meth c D cl ac B0 nL k0 w0 Q x') : q_G p l e R s m args below meth c D cl ac B0 nL k0 w0 Q (pc, lo, st, σ) := by
  unfold q_table at h
  split at h
  · rename_i x r
    split at h
    · rename_i off ho
      split at h
      · rename_i ht
        cases h
        unfold q_toff at ho
        split at ho
        · rename_i hz
          cases ho
          exact fun H locs ls h1 h2 h3 h4 h5 h6 => lv_tableOut hx hb hd hz ht (kk H locs ls h1 h2 h3 h4 h5 h6)
        · rename_i hz
          exact fun H locs ls h1 h2 h3 h4 h5 h6 => lv_tableIn hx hb hd (fun z => hz (Or.inl z)) (fun z => hz (Or.inr z)) ho ht (kk H locs ls h1 h2 h3 h4 h5 h6)
      · cases h
    · cases h
  · cases h
theorem q_ok_getf {f : Option (Nat × Nat × FieldType × Nat)} {idx : Nat} (Cx : q_Cx p s m args c D cl ac B0 own cc nL Ts Ns) (hf : ∀ x, f = some x → q_fok cl Ts Ns own idx x) (hd : decode cc pc = .ok (.getfield idx, 3)) (h : q_getf f pc lo st σ = some (.inl x')) (kk : q_G p l e R s m args below meth c D cl ac B0 nL k0 w0 Q x') : q_G p l e R s m args below meth c D cl ac B0 nL k0 w0 Q (pc, lo, st, σ) := by
  obtain ⟨hx, hb, hml, hown, hts, hns, hK, hB⟩ := Cx
  unfold q_getf at h
  split at h
  · rename_i ci k ty fin a r
    split at h
    · rename_i cj fs ha
      split at h
      · rename_i hc
        subst hc
        split at h
        · rename_i v hv
          cases h
          obtain ⟨C, T, N, ty0, g1, g2, g3, g4, g5, g6, g7, g8, g9⟩ := hf _ rfl
          intro H locs ls h1 h2 h3 h4 h5 h6
          have hP := q_P1 (h3.2 a _ ha).2
          rcases g9 with g9 | ⟨host, g9⟩
          · exact va_get hx hb hts g3 hown hK hP 0 rfl g1 k g2 (hts _ g9) (fun _ z => z) hv hd (kk H locs ls h1 h2 h3 h4 h5 h6)
          · exact va_getN hx hb hts g3 hown hK hP 0 rfl g1 k g2 (va_Nw.use rfl (hns _ g9)) (fun _ z => z) hv hd (kk H locs ls h1 h2 h3 h4 h5 h6)
        · cases h
      · cases h
    · cases h
  · cases h
theorem q_ok_putf {f : Option (Nat × Nat × FieldType × Nat)} {idx : Nat} {ini : Bool} (Cx : q_Cx p s m args c D cl ac B0 own cc nL Ts Ns) (hi : ini = true → meth.name = "<init>") (hf : ∀ x, f = some x → q_fok cl Ts Ns own idx x) (hd : decode cc pc = .ok (.putfield idx, 3)) (h : q_putf f ini pc lo st σ = some (.inl x')) (kk : q_G p l e R s m args below meth c D cl ac B0 nL k0 w0 Q x') : q_G p l e R s m args below meth c D cl ac B0 nL k0 w0 Q (pc, lo, st, σ) := by
  obtain ⟨hx, hb, hml, hown, hts, hns, hK, hB⟩ := Cx
  unfold q_putf at h
  split at h
  · rename_i ci k ty fin v a r
    split at h
    · rename_i cj fs ha
      split at h
      · rename_i hc
        obtain ⟨hc, hkl, hn, hfit, hfin⟩ := hc
        subst hc
        cases h
        obtain ⟨C, T, N, ty0, g1, g2, g3, g4, g5, g6, g7, g8, g9⟩ := hf _ rfl
        dsimp only at g1 g2 g6 g7 g8 g9
        intro H locs ls h1 h2 h3 h4 h5 h6
        obtain ⟨hBa, hat⟩ := h3.2 a _ ha
        have hap := va_apart (own := own) hts g3 ty0 g4 g5 hK g1
        obtain ⟨r0, hr0, cell, q1, q2, q3, q4⟩ := hat
        have hr : r0 = (C, T, N) := Option.some.inj (hr0.symm.trans g1)
        subst hr
        obtain ⟨hS, hfc, kC, hkC, hkind⟩ := hK.1 cj _ g1
        obtain ⟨cf, kf, fi, f, hi9, hsl⟩ := hS k g2
        have hst := (u_facts hfc hkC (u_lays hts g3 g2) hi9).1
        have fin9 : ∀ (H' : Heap), H'[a]? = some (cell.setSlot f.slot v) → H'.size = H.size → (∀ q, q ≠ a → H'[q]? = H[q]?) → W p l e R s m args below meth c H' (locs ++ [⟨a, f.slot⟩]) (σ.2.2.1 - k0) (σ.2.2.2 - w0) Q (F0 m (pc + 3) ls r) := by
          intro H' e1 e2 e3
          refine kk H' _ ls h1 h2 (h3.put e2 e3 hBa ?_) (h4.put e2 e3 hBa) h5 h6
          rw [hsl] at e1
          exact ⟨_, g1, t_OB.to (V := updV (vp_V fs) k v) ⟨_, e1, q2, q3, t_set q4 hap g2 v⟩ (fun j _ => vp_updV_set hkl v j)⟩
        rcases hfin with hz | ⟨hz, hini⟩
        · have hlay := hts _ (g3 _ (u_in_lay g2))
          unfold u_lay at hlay
          rw [if_neg (by rw [g7 hz]; decide)] at hlay
          have h6' := u_store hfc hkC hkind hlay hi9 g6 hn hfit
          rcases g9 with g9 | ⟨host, g9⟩
          · exact W.putK hx hb (f := f) ⟨hown, hts _ g9, ⟨_, _, _, hi9⟩, hst⟩ (by rw [q2]; exact h6') q1 q3 (by rw [hsl]; exact k2_hasslot (q4 k g2)) rfl rfl hd fin9
          · exact va_WputK hx hb hown (va_Nw.use rfl (hns _ g9)) hi9 hst (by rw [q2]; exact h6') q1 q3 (by rw [hsl]; exact k2_hasslot (q4 k g2)) rfl rfl hd fin9
        · obtain ⟨g81, g82, g83⟩ := g8 hz
          have hlay := hts _ (g3 _ (u_in_lay g2))
          unfold u_lay at hlay
          rw [if_pos g81] at hlay
          have hcf : m.cls = cf := by
            obtain ⟨_, _, c', _, _, _, -, -, hf', -, -, -, hown2, -⟩ := Cond.laysFinal_spec hlay
            have e1 : c' = cf := by have := hi9.symm.trans hf'; simp at this; exact this.1.symm
            rw [g82] at hown2
            rw [← e1]; exact Option.some.inj (hown.symm.trans hown2)
          have h6' := u_fits hfc hkC hkind (Or.inr hlay) hi9 g6 hn hfit
          exact W.putFinK hx hb hown (hts _ g83) hi9 hst hcf (hi hini) (by rw [q2]; exact h6') q1 q3 (by rw [hsl]; exact k2_hasslot (q4 k g2)) rfl rfl hd fin9
      · cases h
    · cases h
  · cases h
theorem q_ok_iald (Cx : q_Cx p s m args c D cl ac B0 own cc nL Ts Ns) (hd : decode cc pc = .ok (.iaload, 1)) (h : q_iald 0 pc lo st σ = some (.inl x')) (kk : q_G p l e R s m args below meth c D cl ac B0 nL k0 w0 Q x') : q_G p l e R s m args below meth c D cl ac B0 nL k0 w0 Q (pc, lo, st, σ) := by
  obtain ⟨hx, hb, hml, hown, hts, hns, hK, hB⟩ := Cx
  unfold q_iald at h
  split at h
  · rename_i i a r
    split at h
    · rename_i kd n f ha
      split at h
      · rename_i hc
        obtain ⟨hc, hin⟩ := hc
        subst hc
        cases h
        intro H locs ls h1 h2 h3 h4 h5 h6
        exact va_iald hx hb hK (q_P1 (h3.2 a _ ha).2) 0 0 rfl rfl hin hd (kk H locs ls h1 h2 h3 h4 h5 h6)
      · cases h
    · cases h
  · cases h
theorem q_ok_cald (Cx : q_Cx p s m args c D cl ac B0 own cc nL Ts Ns) (hd : decode cc pc = .ok (.caload, 1)) (h : q_iald 1 pc lo st σ = some (.inl x')) (kk : q_G p l e R s m args below meth c D cl ac B0 nL k0 w0 Q x') : q_G p l e R s m args below meth c D cl ac B0 nL k0 w0 Q (pc, lo, st, σ) := by
  obtain ⟨hx, hb, hml, hown, hts, hns, hK, hB⟩ := Cx
  unfold q_iald at h
  split at h
  · rename_i i a r
    split at h
    · rename_i kd n f ha
      split at h
      · rename_i hc
        obtain ⟨hc, hin⟩ := hc
        subst hc
        cases h
        intro H locs ls h1 h2 h3 h4 h5 h6
        exact va_cald hx hb hK (q_P1 (h3.2 a _ ha).2) 0 1 rfl rfl hin hd (kk H locs ls h1 h2 h3 h4 h5 h6)
      · cases h
    · cases h
  · cases h
theorem q_ok_zald (Cx : q_Cx p s m args c D cl ac B0 own cc nL Ts Ns) (hd : decode cc pc = .ok (.baload, 1)) (h : q_iald 3 pc lo st σ = some (.inl x')) (kk : q_G p l e R s m args below meth c D cl ac B0 nL k0 w0 Q x') : q_G p l e R s m args below meth c D cl ac B0 nL k0 w0 Q (pc, lo, st, σ) := by
  obtain ⟨hx, hb, hml, hown, hts, hns, hK, hB⟩ := Cx
  unfold q_iald at h
  split at h
  · rename_i i a r
    split at h
    · rename_i kd n f ha
      split at h
      · rename_i hc
        obtain ⟨hc, hin⟩ := hc
        subst hc
        cases h
        intro H locs ls h1 h2 h3 h4 h5 h6
        exact va_zald hx hb hK (q_P1 (h3.2 a _ ha).2) 0 3 rfl rfl hin hd (kk H locs ls h1 h2 h3 h4 h5 h6)
      · cases h
    · cases h
  · cases h
theorem q_ok_lald (Cx : q_Cx p s m args c D cl ac B0 own cc nL Ts Ns) (hd : decode cc pc = .ok (.laload, 1)) (h : q_lald pc lo st σ = some (.inl x')) (kk : q_G p l e R s m args below meth c D cl ac B0 nL k0 w0 Q x') : q_G p l e R s m args below meth c D cl ac B0 nL k0 w0 Q (pc, lo, st, σ) := by
  obtain ⟨hx, hb, hml, hown, hts, hns, hK, hB⟩ := Cx
  unfold q_lald at h
  split at h
  · rename_i i a r
    split at h
    · rename_i kd n f ha
      split at h
      · rename_i hc
        obtain ⟨hc, hin⟩ := hc
        subst hc
        cases h
        intro H locs ls h1 h2 h3 h4 h5 h6
        exact va_lald hx hb hK (q_P1 (h3.2 a _ ha).2) 0 2 rfl rfl hin hd (kk H locs ls h1 h2 h3 h4 h5 h6)
      · cases h
    · cases h
  · cases h
theorem q_ok_iast (Cx : q_Cx p s m args c D cl ac B0 own cc nL Ts Ns) (hd : decode cc pc = .ok (.iastore, 1)) (h : q_iast 0 (fun x => x) pc lo st σ = some (.inl x')) (kk : q_G p l e R s m args below meth c D cl ac B0 nL k0 w0 Q x') : q_G p l e R s m args below meth c D cl ac B0 nL k0 w0 Q (pc, lo, st, σ) := by
  obtain ⟨hx, hb, hml, hown, hts, hns, hK, hB⟩ := Cx
  unfold q_iast at h
  split at h
  · rename_i x i a r
    split at h
    · rename_i kd n f ha
      split at h
      · rename_i hc
        obtain ⟨hc, hin⟩ := hc
        subst hc
        cases h
        intro H locs ls h1 h2 h3 h4 h5 h6
        obtain ⟨hBa, hat⟩ := h3.2 a _ ha
        refine W.iast hx hb hat ((hK.2 0 _ rfl).1 n (fun j => .int (f j))) (fun q => by cases q) (by show ¬ (i < 0 ∨ (arrV _ _ _).slots.size ≤ _); rw [arrV_size]; exact hin) rfl rfl hd fun H1 e z oq => ?_
        refine kk H1 _ ls h1 h2 (h3.put z oq hBa ?_) (h4.put z oq hBa) h5 h6
        show H1[a]? = some (vp_cell _ _)
        rw [e]
        rw [vp_cell_i, vp_cell_i, arrV_store]
        congr 2
        funext q
        by_cases hq : q = i.toNatClampNeg
        · subst hq
          simp [updV, upd]
        · simp [updV, upd, hq]
      · cases h
    · cases h
  · cases h
theorem q_ok_cast (Cx : q_Cx p s m args c D cl ac B0 own cc nL Ts Ns) (hd : decode cc pc = .ok (.castore, 1)) (h : q_iast 1 (vp_nar .char) pc lo st σ = some (.inl x')) (kk : q_G p l e R s m args below meth c D cl ac B0 nL k0 w0 Q x') : q_G p l e R s m args below meth c D cl ac B0 nL k0 w0 Q (pc, lo, st, σ) := by
  obtain ⟨hx, hb, hml, hown, hts, hns, hK, hB⟩ := Cx
  unfold q_iast at h
  split at h
  · rename_i x i a r
    split at h
    · rename_i kd n f ha
      split at h
      · rename_i hc
        obtain ⟨hc, hin⟩ := hc
        subst hc
        cases h
        intro H locs ls h1 h2 h3 h4 h5 h6
        obtain ⟨hBa, hat⟩ := h3.2 a _ ha
        refine W.cast hx hb hat ((hK.2 1 _ rfl).1 n (fun j => .int (f j))) (fun q => by cases q) (by show ¬ (i < 0 ∨ (arrV _ _ _).slots.size ≤ _); rw [arrV_size]; exact hin) rfl rfl hd fun H1 e z oq => ?_
        refine kk H1 _ ls h1 h2 (h3.put z oq hBa ?_) (h4.put z oq hBa) h5 h6
        show H1[a]? = some (vp_cell _ _)
        rw [e]
        rw [vp_cell_i, vp_cell_i, arrV_store]
        congr 2
        funext q
        by_cases hq : q = i.toNatClampNeg
        · subst hq
          simp [updV, upd, vp_nar]
          try rfl
        · simp [updV, upd, hq]
      · cases h
    · cases h
  · cases h
theorem q_ok_zast (Cx : q_Cx p s m args c D cl ac B0 own cc nL Ts Ns) (hd : decode cc pc = .ok (.bastore, 1)) (h : q_iast 3 (vp_nar .boolean) pc lo st σ = some (.inl x')) (kk : q_G p l e R s m args below meth c D cl ac B0 nL k0 w0 Q x') : q_G p l e R s m args below meth c D cl ac B0 nL k0 w0 Q (pc, lo, st, σ) := by
  obtain ⟨hx, hb, hml, hown, hts, hns, hK, hB⟩ := Cx
  unfold q_iast at h
  split at h
  · rename_i x i a r
    split at h
    · rename_i kd n f ha
      split at h
      · rename_i hc
        obtain ⟨hc, hin⟩ := hc
        subst hc
        cases h
        intro H locs ls h1 h2 h3 h4 h5 h6
        obtain ⟨hBa, hat⟩ := h3.2 a _ ha
        refine W.zast hx hb hat ((hK.2 3 _ rfl).1 n (fun j => .int (f j))) (fun q => by cases q) (by show ¬ (i < 0 ∨ (arrV _ _ _).slots.size ≤ _); rw [arrV_size]; exact hin) rfl rfl hd fun H1 e z oq => ?_
        refine kk H1 _ ls h1 h2 (h3.put z oq hBa ?_) (h4.put z oq hBa) h5 h6
        show H1[a]? = some (vp_cell _ _)
        rw [e]
        rw [vp_cell_i, vp_cell_i, arrV_store]
        congr 2
        funext q
        by_cases hq : q = i.toNatClampNeg
        · subst hq
          simp [updV, upd, vp_nar]
          try rfl
        · simp [updV, upd, hq]
      · cases h
    · cases h
  · cases h
theorem q_ok_last (Cx : q_Cx p s m args c D cl ac B0 own cc nL Ts Ns) (hd : decode cc pc = .ok (.lastore, 1)) (h : q_last pc lo st σ = some (.inl x')) (kk : q_G p l e R s m args below meth c D cl ac B0 nL k0 w0 Q x') : q_G p l e R s m args below meth c D cl ac B0 nL k0 w0 Q (pc, lo, st, σ) := by
  obtain ⟨hx, hb, hml, hown, hts, hns, hK, hB⟩ := Cx
  unfold q_last at h
  split at h
  · rename_i x i a r
    split at h
    · rename_i kd n f ha
      split at h
      · rename_i hc
        obtain ⟨hc, hin⟩ := hc
        subst hc
        cases h
        intro H locs ls h1 h2 h3 h4 h5 h6
        obtain ⟨hBa, hat⟩ := h3.2 a _ ha
        refine W.last hx hb hat ((hK.2 2 _ rfl).1 n (fun j => .long (f j))) (fun q => by cases q) (by show ¬ (i < 0 ∨ (arrV _ _ _).slots.size ≤ _); rw [arrV_size]; exact hin) rfl rfl hd fun H1 e z oq => ?_
        refine kk H1 _ ls h1 h2 (h3.put z oq hBa ?_) (h4.put z oq hBa) h5 h6
        show H1[a]? = some (vp_cell _ _)
        rw [e]
        rw [vp_cell_l, vp_cell_l, arrV_store]
        congr 2
        funext q
        by_cases hq : q = i.toNatClampNeg
        · subst hq
          simp [updV, vp_updL]
        · simp [updV, vp_updL, hq]
      · cases h
    · cases h
  · cases h
theorem q_ok_alen (Cx : q_Cx p s m args c D cl ac B0 own cc nL Ts Ns) (hd : decode cc pc = .ok (.arraylength, 1)) (h : q_alen pc lo st σ = some (.inl x')) (kk : q_G p l e R s m args below meth c D cl ac B0 nL k0 w0 Q x') : q_G p l e R s m args below meth c D cl ac B0 nL k0 w0 Q (pc, lo, st, σ) := by
  obtain ⟨hx, hb, hml, hown, hts, hns, hK, hB⟩ := Cx
  unfold q_alen at h
  split at h
  · rename_i a r
    split at h
    · rename_i kd n z ha
      split at h
      · rename_i hk
        cases h
        intro H locs ls h1 h2 h3 h4 h5 h6
        have hP := q_P1 (h3.2 a _ ha).2
        match kd, hk with
        | 0, _ => exact va_alen hx hb hK hP 0 0 rfl (ty := .int) rfl rfl hd (kk H locs ls h1 h2 h3 h4 h5 h6)
        | 1, _ => exact va_alen hx hb hK hP 0 1 rfl (ty := .char) rfl rfl hd (kk H locs ls h1 h2 h3 h4 h5 h6)
        | 2, _ => exact va_alen hx hb hK hP 0 2 rfl (ty := .long) rfl rfl hd (kk H locs ls h1 h2 h3 h4 h5 h6)
        | 3, _ => exact va_alen hx hb hK hP 0 3 rfl (ty := .boolean) rfl rfl hd (kk H locs ls h1 h2 h3 h4 h5 h6)
      · cases h
    · cases h
  · cases h
/-- a new array: kd its kind -/
theorem q_ok_new {t : ClassFile.ArrayType} {kd by_ : Nat} {mk : Nat → vp_A} {ty : FieldType} (Cx : q_Cx p s m args c D cl ac B0 own cc nL Ts Ns) (hty : newarray.typeOf t = ty) (hkd : (q_tys ac)[kd]? = some (ac kd, ty)) (hra : va_RA s (ac kd) ty → s.vm.findClass ("[" ++ ty.toString) = some (ac kd)) (hby : componentBytes ty = by_) (hmk : ∀ (n : Nat) (cA : ClassId), vp_cell cA (mk n) = arrV cA n (fun _ => defaultValue ty)) (harr : Cond.arrayClass ty ∈ Ts)
    (hRc : x'.2.2.2.2.2.1 - k0 ≤ R.cells) (hRs : x'.2.2.2.2.2.2 - w0 ≤ R.slots) (hd : decode cc pc = .ok (.newarray t, 2)) (h : q_new kd by_ mk pc lo st σ = some (.inl x')) (kk : q_G p l e R s m args below meth c D cl ac B0 nL k0 w0 Q x') : q_G p l e R s m args below meth c D cl ac B0 nL k0 w0 Q (pc, lo, st, σ) := by
  obtain ⟨hx, hb, hml, hown, hts, hns, hK, hB⟩ := Cx
  subst hty
  unfold q_new at h
  split at h
  · rename_i n r
    split at h
    · cases h
    · rename_i hc
      cases h
      intro H locs ls h1 h2 h3 h4 h5 h6
      dsimp only at hRc hRs h5 h6
      have hn : ¬ n < 0 := fun z => hc (Or.inl z)
      have hbt : n.toNatClampNeg * by_ ≤ 536870912 := Nat.not_lt.mp fun z => hc (Or.inr z)
      show W p l e R s m args below meth c H locs (σ.2.2.1 - k0) (σ.2.2.2 - w0) Q (F0 m pc ls (.int n :: r))
      refine va_newaK hx hb (hts _ harr) rfl hd rfl hn rfl (by rw [hby]; exact hbt) (by omega) (by omega) rfl fun H1 cA e1 z1 o1 hAr hNm => ?_
      have hcA : cA = ac kd := Option.some.inj (hNm.symm.trans (hra (hK.2 kd _ hkd).2))
      subst hcA
      have := kk H1 locs ls h1 h2 (h3.new z1 o1 (Nat.le_trans hB h4.1) (by show H1[H.size]? = some (vp_cell _ _); rw [hmk]; exact e1)) ⟨Nat.le_trans h4.1 (by omega), fun x g1 g2 => (o1 x (Nat.lt_of_lt_of_le g1 h4.1)).trans (h4.2.1 x g1 g2), h4.2.2⟩ (by dsimp only; omega) (by dsimp only; omega)
      dsimp only at this
      rw [← h3.1] at this
      rw [show σ.2.2.1 - k0 + 1 = σ.2.2.1 + 1 - k0 by omega, show σ.2.2.2 - w0 + n.toNatClampNeg = σ.2.2.2 + n.toNatClampNeg - w0 by omega]
      exact this
  · cases h
theorem q_ok_newA {t : ClassFile.ArrayType} (Cx : q_Cx p s m args c D cl ac B0 own cc nL Ts Ns) (hta : Cond.arrayClass .int ∈ Ts ∧ Cond.arrayClass .char ∈ Ts ∧ Cond.arrayClass .long ∈ Ts ∧ Cond.arrayClass .boolean ∈ Ts)
    (hRc : x'.2.2.2.2.2.1 - k0 ≤ R.cells) (hRs : x'.2.2.2.2.2.2 - w0 ≤ R.slots) (hd : decode cc pc = .ok (.newarray t, 2)) (h : q_newA t pc lo st σ = some (.inl x')) (kk : q_G p l e R s m args below meth c D cl ac B0 nL k0 w0 Q x') : q_G p l e R s m args below meth c D cl ac B0 nL k0 w0 Q (pc, lo, st, σ) := by
  cases t with
  | int => exact q_ok_new (ty := .int) (kd := 0) (by_ := 4) (mk := fun n => (n, .inl fun _ => 0)) Cx rfl rfl (fun z => z) rfl (fun _ _ => rfl) hta.1 hRc hRs hd h kk
  | char => exact q_ok_new (ty := .char) (kd := 1) (by_ := 2) (mk := fun n => (n, .inl fun _ => 0)) Cx rfl rfl (fun z => z) rfl (fun _ _ => rfl) hta.2.1 hRc hRs hd h kk
  | long => exact q_ok_new (ty := .long) (kd := 2) (by_ := 8) (mk := fun n => (n, .inr (.inl fun _ => 0))) Cx rfl rfl (fun z => z) rfl (fun _ _ => rfl) hta.2.2.1 hRc hRs hd h kk
  | boolean => exact q_ok_new (ty := .boolean) (kd := 3) (by_ := 1) (mk := fun n => (n, .inl fun _ => 0)) Cx rfl rfl (fun z => z) rfl (fun _ _ => rfl) hta.2.2.2 hRc hRs hd h kk
  | _ => cases h
theorem q_ok_newC {cn : Option ((Nat × List Value) ⊕ Nat)} {idx : Nat} (Cx : q_Cx p s m args c D cl ac B0 own cc nL Ts Ns) (hf : ∀ n, cn = some (.inl n) → q_nok cl Ts own idx n)
    (hRc : x'.2.2.2.2.2.1 - k0 ≤ R.cells) (hRs : x'.2.2.2.2.2.2 - w0 ≤ R.slots) (hd : decode cc pc = .ok (.new idx, 3)) (h : q_newC cn pc lo st σ = some (.inl x')) (kk : q_G p l e R s m args below meth c D cl ac B0 nL k0 w0 Q x') : q_G p l e R s m args below meth c D cl ac B0 nL k0 w0 Q (pc, lo, st, σ) := by
  obtain ⟨hx, hb, hml, hown, hts, hns, hK, hB⟩ := Cx
  unfold q_newC at h
  split at h
  · rename_i ci fs
    cases h
    obtain ⟨C, T, N, ty0, g1, g2, g3, g4, g5, g6, g7, g8⟩ := hf _ rfl
    dsimp only at g1 g2 g5
    intro H locs ls h1 h2 h3 h4 h5 h6
    dsimp only at hRc hRs h5 h6
    subst g2
    have hKn := hK.1 ci _ g1
    show W p l e R s m args below meth c H locs (σ.2.2.1 - k0) (σ.2.2.2 - w0) Q (F0 m pc ls st)
    refine W.newcK hx hb hown (hts _ g6) (hts _ g7) (hts _ g8) rfl hd (by omega) (by omega) hKn.2.1 rfl fun H1 kC hkC e1 z1 o1 => ?_
    have := kk H1 locs ls h1 h2 (h3.new z1 o1 (Nat.le_trans hB h4.1) ⟨_, g1, (u_born ty0 hts g3 hKn hkC e1 g4).to g5⟩) ⟨Nat.le_trans h4.1 (by omega), fun x y1 y2 => (o1 x (Nat.lt_of_lt_of_le y1 h4.1)).trans (h4.2.1 x y1 y2), h4.2.2⟩ (by dsimp only; omega) (by dsimp only; omega)
    dsimp only at this
    rw [← h3.1] at this
    rw [show σ.2.2.1 - k0 + 1 = σ.2.2.1 + 1 - k0 by omega, show σ.2.2.2 - w0 + fs.length = σ.2.2.2 + fs.length - w0 by omega]
    exact this
  · cases h
  · cases h
end QT
