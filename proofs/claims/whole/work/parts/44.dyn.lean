/-! THE STORE, 2: made objects (in the rest of the heap), the two rows of ways, references that may be null -/
def hU (T : qT) (h : Nat → Option qE) : qT := (T.1, T.2.1, T.2.2.1, T.2.2.2.1, h, T.2.2.2.2.2)
def mU (T : qT) (n k w : Nat) : qT := (T.1, T.2.1, T.2.2.1, T.2.2.2.1, T.2.2.2.2.1, T.2.2.2.2.2.1 + n, T.2.2.2.2.2.2.1 + k, T.2.2.2.2.2.2.2 + w)
/-- not a cell of the class's own block -/
def q_far (o a : Nat) : Prop := ¬ (o ≤ a ∧ a < o + 21)
noncomputable def w_DI {β : Type} (o a ci k : Nat) (K : Int32 → qW β) : qW β := fun T => @ite _ (q_far o a) (Classical.propDecidable _) (match T.2.2.2.2.1 a with
  | some (.inr (cj, fs)) => if cj = ci then (match fs[k]? with
    | some (.int x) => K x T
    | _ => none) else none
  | _ => none) none
noncomputable def w_DR {β : Type} (o a ci k : Nat) (K : Option Nat → qW β) : qW β := fun T => @ite _ (q_far o a) (Classical.propDecidable _) (match T.2.2.2.2.1 a with
  | some (.inr (cj, fs)) => if cj = ci then (match fs[k]? with
    | some (.ref x) => K (some x) T
    | some .null => K none T
    | _ => none) else none
  | _ => none) none
noncomputable def w_d {β : Type} (o a ci k : Nat) (ty : FieldType) (v : Value) (K : qW β) : qW β := fun T => @ite _ (q_far o a) (Classical.propDecidable _) (match T.2.2.2.2.1 a with
  | some (.inr (cj, fs)) => if cj = ci ∧ k < fs.length ∧ narrow ty v = v ∧ fits ty v = true then K (hU T (q_up T.2.2.2.2.1 a (.inr (ci, fs.set k v)))) else none
  | _ => none) none
noncomputable def w_new {β : Type} (o ci : Nat) (fs : List Value) (K : Nat → qW β) : qW β := fun T => @ite _ (q_far o T.2.2.2.2.2.1) (Classical.propDecidable _) (K T.2.2.2.2.2.1 (mU (hU T (q_up T.2.2.2.2.1 T.2.2.2.2.2.1 (.inr (ci, fs)))) 1 1 fs.length)) none
def w_nn {β : Type} (r : Option Nat) (K : Nat → qW β) : qW β := fun T => match r with
  | some a => K a T
  | none => none
def w_nul {β : Type} (r : Option Nat) (A : qW β) (B : Nat → qW β) : qW β := fun T => match r with
  | none => A T
  | some a => B a T
def w_f2 {β : Type} (i : Nat) (K : qW β) : qW β := fun T => if i < 2 then K T else none
noncomputable def w_is {β : Type} (a o ci : Nat) (K : qW β) : qW β := fun T => @ite _ (q_far o a) (Classical.propDecidable _) (match T.2.2.2.2.1 a with
  | some (.inr (cj, _)) => if cj = ci then K T else none
  | _ => none) none
def w_thr {β : Type} (x : Nat) : qW (β ⊕ Nat) := fun T => some (.inr x, mU T 1 1 6)
def q_dyn (lay : qT → qH) (o : Nat) : Prop := ∀ T a, q_far o a → (lay T).1 a = T.2.2.2.2.1 a ∧ ∀ e, (q_up (lay T).1 a e, (lay T).2) = lay (hU T (q_up T.2.2.2.2.1 a e))
def q_cnt (lay : qT → qH) : Prop := ∀ T, (lay T).2 = T.2.2.2.2.2 ∧ ∀ n k w, ((lay T).1, T.2.2.2.2.2.1 + n, T.2.2.2.2.2.2.1 + k, T.2.2.2.2.2.2.2 + w) = lay (mU T n k w)
def q_fam (lay : qT → qH) (o a ci k f : Nat) : Prop := ∀ T, ∃ fs : List Value, (lay T).1 a = some (.inr (ci, fs)) ∧ fs[k]? = some (.ref (o + 10 + 3 * T.2.2.2.1 f)) ∧ k < fs.length ∧ ∀ v : Nat, (q_up (lay T).1 a (.inr (ci, fs.set k (.ref (o + 10 + 3 * v)))), (lay T).2) = lay (nU T f v)
theorem q_rf_cat (r : Option Nat) : (va_rf r).category = 1 := by cases r <;> rfl
section QD
variable {rc : qC} {M : qM} {pc : Nat} {lo : qL} {st : List Value} {σ : qH}
theorem o_aload_nR {k : Fin 4} {x : Option Nat} (hd : decode M.1 pc = .ok (.aload_n k, 1)) (hl : lo.getD k.val none = some (va_rf x)) : q_out rc M (pc, lo, st, σ) = q_out rc M (pc + 1, lo, va_rf x :: st, σ) := by
  cases x with
  | none => exact o_aload_nN hd hl
  | some a => exact o_aload_n hd hl
theorem o_aloadR {k : Nat} {x : Option Nat} (hd : decode M.1 pc = .ok (.aload k, 2)) (hl : lo.getD k none = some (va_rf x)) : q_out rc M (pc, lo, st, σ) = q_out rc M (pc + 2, lo, va_rf x :: st, σ) := by
  cases x with
  | none => exact o_aloadN hd hl
  | some a => exact o_aload hd hl
theorem o_astore_nR {k : Fin 4} {x : Option Nat} {lo' : qL} (hd : decode M.1 pc = .ok (.astore_n k, 1)) (hi : k.val < lo.length) (hl : q_st1 lo k.val (va_rf x) = lo') : q_out rc M (pc, lo, va_rf x :: st, σ) = q_out rc M (pc + 1, lo', st, σ) := by
  cases x with
  | none => exact o_astore_nN hd hi hl
  | some a => exact o_astore_n hd hi hl
theorem o_astoreR {k : Nat} {x : Option Nat} {lo' : qL} (hd : decode M.1 pc = .ok (.astore k, 2)) (hi : k < lo.length) (hl : q_st1 lo k (va_rf x) = lo') : q_out rc M (pc, lo, va_rf x :: st, σ) = q_out rc M (pc + 2, lo', st, σ) := by
  cases x with
  | none => exact o_astoreN hd hi hl
  | some a => exact o_astore hd hi hl
theorem o_areturnR {x : Option Nat} (hd : decode M.1 pc = .ok (.areturn, 1)) (hr : q_isRefT M.2.2.1 = true) : q_out rc M (pc, lo, [va_rf x], σ) = some (.inl (some (va_rf x)), σ) := by
  cases x with
  | none => exact o_areturnN hd hr
  | some a => exact o_areturn hd hr
end QD
section QY
variable {rc : qC} {M : qM} {pc : Nat} {lo : qL} {st : List Value} {lay : qT → qH} {β : Type} {T : qT} {w : β × qT} {X : Option qO} {o a ci k f n idx md : Nat}
theorem s_DI {ty : FieldType} {K : Int32 → qW β} (hd : decode M.1 pc = .ok (.getfield idx, 3)) (hp : M.2.2.2.2.1 idx = some (ci, k, ty, md)) (hF : q_dyn lay o) (h : w_DI o a ci k K T = some w) (kk : ∀ x, K x T = some w → q_out rc M (pc + 3, lo, .int x :: st, lay T) = X) : q_out rc M (pc, lo, .ref a :: st, lay T) = X := by
  unfold w_DI at h
  split at h
  · rename_i hfar
    split at h
    · rename_i cj fs ha
      split at h
      · rename_i hc
        subst hc
        split at h
        · rename_i x hx
          exact (o_getf hd hp ((hF T a hfar).1.trans ha) hx).trans (kk _ h)
        · cases h
      · cases h
    · cases h
  · cases h
theorem s_DR {ty : FieldType} {K : Option Nat → qW β} (hd : decode M.1 pc = .ok (.getfield idx, 3)) (hp : M.2.2.2.2.1 idx = some (ci, k, ty, md)) (hF : q_dyn lay o) (h : w_DR o a ci k K T = some w) (kk : ∀ x, K x T = some w → q_out rc M (pc + 3, lo, va_rf x :: st, lay T) = X) : q_out rc M (pc, lo, .ref a :: st, lay T) = X := by
  unfold w_DR at h
  split at h
  · rename_i hfar
    split at h
    · rename_i cj fs ha
      split at h
      · rename_i hc
        subst hc
        split at h
        · rename_i x hx
          exact (o_getf hd hp ((hF T a hfar).1.trans ha) hx).trans (kk _ h)
        · rename_i hx
          exact (o_getf hd hp ((hF T a hfar).1.trans ha) hx).trans (kk _ h)
        · cases h
      · cases h
    · cases h
  · cases h
theorem s_d {ty : FieldType} {v : Value} {K : qW β} (hd : decode M.1 pc = .ok (.putfield idx, 3)) (hp : M.2.2.2.2.1 idx = some (ci, k, ty, 0)) (hF : q_dyn lay o) (h : w_d o a ci k ty v K T = some w) (kk : ∀ T1, K T1 = some w → q_out rc M (pc + 3, lo, st, lay T1) = X) : q_out rc M (pc, lo, v :: .ref a :: st, lay T) = X := by
  unfold w_d at h
  split at h
  · rename_i hfar
    split at h
    · rename_i cj fs ha
      split at h
      · rename_i hc
        obtain ⟨rfl, h1, h2, h3⟩ := hc
        refine (o_putf hd hp ((hF T a hfar).1.trans ha) h1 h2 h3 (Or.inl rfl) rfl).trans ?_
        have := kk _ h
        rw [← (hF T a hfar).2] at this
        exact this
      · cases h
    · cases h
  · cases h
theorem s_new {fs : List Value} {K : Nat → qW β} (hd : decode M.1 pc = .ok (.new idx, 3)) (hp : M.2.2.2.2.2.1 idx = some (.inl (ci, fs))) (hF : q_dyn lay o) (hC : q_cnt lay) (h : w_new o ci fs K T = some w) (kk : ∀ a T1, K a T1 = some w → q_out rc M (pc + 3, lo, .ref a :: st, lay T1) = X) : q_out rc M (pc, lo, st, lay T) = X := by
  unfold w_new at h
  split at h
  · rename_i hfar
    refine (o_new hd hp).trans ?_
    have h2 := (hC T).1
    have := kk _ _ h
    rw [← (hC _).2, ← (hF T _ hfar).2] at this
    rw [h2]
    exact this
  · cases h
theorem w_nn_of {r : Option Nat} {K : Nat → qW β} (h : w_nn r K T = some w) : ∃ a, r = some a ∧ K a T = some w := by
  cases r with
  | none => cases h
  | some a => exact ⟨a, rfl, h⟩
theorem w_f2_of {i : Nat} {K : qW β} (h : w_f2 i K T = some w) : i < 2 ∧ K T = some w := by
  unfold w_f2 at h
  split at h
  · rename_i hi; exact ⟨hi, h⟩
  · cases h
theorem w_is_of {K : qW β} (hF : q_dyn lay o) (h : w_is a o ci K T = some w) : (∃ fs, (lay T).1 a = some (.inr (ci, fs))) ∧ K T = some w := by
  unfold w_is at h
  split at h
  · rename_i hfar
    split at h
    · rename_i cj fs ha
      split at h
      · rename_i hc; subst hc; exact ⟨⟨fs, (hF T a hfar).1.trans ha⟩, h⟩
      · cases h
    · cases h
  · cases h
theorem s_ifnull {r : Option Nat} {off : Int} {t : Nat} {A : qW β} {B : Nat → qW β} (hd : decode M.1 pc = .ok (.ifnull off, 3)) (ht : (pc : Int) + off = (t : Int)) (h : w_nul r A B T = some w) (k1 : r = none → A T = some w → q_out rc M (t, lo, st, lay T) = X) (k2 : ∀ a, r = some a → B a T = some w → q_out rc M (pc + 3, lo, st, lay T) = X) : q_out rc M (pc, lo, va_rf r :: st, lay T) = X := by
  cases r with
  | none => exact (o_ifnull_t hd ht).trans (k1 rfl h)
  | some a => exact (o_ifnull_f hd).trans (k2 a rfl h)
theorem s_ifnonnull {r : Option Nat} {off : Int} {t : Nat} {A : qW β} {B : Nat → qW β} (hd : decode M.1 pc = .ok (.ifnonnull off, 3)) (ht : (pc : Int) + off = (t : Int)) (h : w_nul r A B T = some w) (k1 : r = none → A T = some w → q_out rc M (pc + 3, lo, st, lay T) = X) (k2 : ∀ a, r = some a → B a T = some w → q_out rc M (t, lo, st, lay T) = X) : q_out rc M (pc, lo, va_rf r :: st, lay T) = X := by
  cases r with
  | none => exact (o_ifnonnull_f hd).trans (k1 rfl h)
  | some a => exact (o_ifnonnull_t hd ht).trans (k2 a rfl h)
theorem s_getN {ty : FieldType} {K : Nat → qW β} (hd : decode M.1 pc = .ok (.getfield idx, 3)) (hp : M.2.2.2.2.1 idx = some (ci, k, ty, md)) (hF : q_fam lay o a ci k f) (h : w_N f K T = some w) (kk : ∀ i, K i T = some w → q_out rc M (pc + 3, lo, .ref (o + 10 + 3 * i) :: st, lay T) = X) : q_out rc M (pc, lo, .ref a :: st, lay T) = X := by
  obtain ⟨fs, h1, h2, -⟩ := hF T
  exact (o_getf hd hp h1 h2).trans (kk _ h)
theorem s_putN {c : String} {i : Nat} {K : qW β} (hd : decode M.1 pc = .ok (.putfield idx, 3)) (hp : M.2.2.2.2.1 idx = some (ci, k, .object c, 0)) (hF : q_fam lay o a ci k f) (h : w_n f i K T = some w) (kk : ∀ T1, K T1 = some w → q_out rc M (pc + 3, lo, st, lay T1) = X) : q_out rc M (pc, lo, .ref (o + 10 + 3 * i) :: .ref a :: st, lay T) = X := by
  obtain ⟨fs, h1, h2, h3, h4⟩ := hF T
  refine (o_putf hd hp h1 h3 rfl rfl (Or.inl rfl) rfl).trans ?_
  have := kk _ h
  rw [← h4 i] at this
  exact this
theorem s_aret {x v : Option Nat} {T1 : qT} (hd : decode M.1 pc = .ok (.areturn, 1)) (hr : q_isRefT M.2.2.1 = true) (h : w_pure x T = some (v, T1)) : q_out rc M (pc, lo, [va_rf x], lay T) = some (.inl (some (va_rf v)), lay T1) := by
  cases h; exact o_areturnR hd hr
theorem s_aretJ {x : Option Nat} {r : qJ ⊕ Option Nat} {v : Option Nat} {b : qJ → qW (qJ ⊕ Option Nat)} {T1 T2 : qT} (hd : decode M.1 pc = .ok (.areturn, 1)) (hr : q_isRefT M.2.2.1 = true) (h : w_rt x T = some (r, T1)) (hE : w_end b n r T1 = some (v, T2)) : q_out rc M (pc, lo, [va_rf x], lay T) = some (.inl (some (va_rf v)), lay T2) := by
  cases h; cases hE; exact o_areturnR hd hr
end QY
/-! a method that answers an int or throws -/
def w_retX (t : FieldType) (x : Int32) : qW (Int32 ⊕ Nat) := fun T => if narrow t (.int x) = .int x then some (.inl x, T) else none
def q_resX (lay : qT → qH) (v : Int32 ⊕ Nat) (T : qT) : Option qO := match v with
  | .inl x => some (.inl (some (.int x)), lay T)
  | .inr e => some (.inr e, lay T)
section QYX
variable {rc : qC} {M : qM} {pc idx : Nat} {lo : qL} {st : List Value} {lay : qT → qH} {T T1 : qT} {v : Int32 ⊕ Nat}
theorem s_iretX {x : Int32} {t : FieldType} (hd : decode M.1 pc = .ok (.ireturn, 1)) (hr : M.2.2.1 = some t) (h : w_retX t x T = some (v, T1)) : q_out rc M (pc, lo, [.int x], lay T) = q_resX lay v T1 := by
  unfold w_retX at h
  split at h
  · rename_i hn; cases h; exact o_ireturn hd hr hn
  · cases h
theorem s_thr {x : Nat} (hd : decode M.1 pc = .ok (.new idx, 3)) (hp : M.2.2.2.2.2.1 idx = some (.inr x)) (hC : q_cnt lay) (h : w_thr (β := Int32) x T = some (v, T1)) : q_out rc M (pc, lo, st, lay T) = q_resX lay v T1 := by
  cases h
  refine (o_throw hd hp).trans ?_
  have h2 := (hC T).2 1 1 6
  show _ = some (Sum.inr x, lay (mU T 1 1 6))
  rw [← h2, (hC T).1]
end QYX
theorem i32_ne {x c : Int32} {k : Int} (hc : c.toInt = k) (h : ¬ x = c) : ¬ k = x.toInt := fun e => h (Int32.toInt_inj.mp (by rw [hc, e]))
theorem dyC (o : Nat) : q_dyn (layC o) o := fun T a ha => ⟨ov_out ha, fun e => Prod.ext (ov_upo ha) rfl⟩
theorem cnC (o : Nat) : q_cnt (layC o) := fun T => ⟨rfl, fun n k w => rfl⟩
theorem faC_now (o : Nat) : q_fam (layC o) o (o + 9) 6 2 0 := fun T => ⟨fsC_9 o T, ov_at (by decide), rfl, (Nat.le_of_ble_eq_true rfl), fun v => layC_put (by decide) rfl (by
    funext i
    unfold va_up
    by_cases hi : i = 9
    · subst hi; rw [if_pos rfl]; rfl
    · rw [if_neg hi]; unfold cC; split <;> first | rfl | exact absurd rfl hi)⟩
theorem faC_before (o : Nat) : q_fam (layC o) o (o + 9) 6 3 1 := fun T => ⟨fsC_9 o T, ov_at (by decide), rfl, (Nat.le_of_ble_eq_true rfl), fun v => layC_put (by decide) rfl (by
    funext i
    unfold va_up
    by_cases hi : i = 9
    · subst hi; rw [if_pos rfl]; rfl
    · rw [if_neg hi]; unfold cC; split <;> first | rfl | exact absurd rfl hi)⟩
theorem fW_obj (o i : Nat) (hi : i < 2) : q_obj (layC o) (o + 10 + 3 * i) 7 := by
  match i, hi with
  | 0, _ => exact obC_10 o
  | 1, _ => exact obC_13 o
theorem fW_count (o i : Nat) (hi : i < 2) : q_scl (layC o) (o + 10 + 3 * i) 7 2 (202 + 60 * i) := by
  match i, hi with
  | 0, _ => exact zC_Wy10_count o
  | 1, _ => exact zC_Wy13_count o
theorem fW_takes (o i : Nat) (hi : i < 2) : q_ref (layC o) (o + 10 + 3 * i) 7 0 (.ref (o + 11 + 3 * i)) := by
  match i, hi with
  | 0, _ => exact zC_Wy10_takes o
  | 1, _ => exact zC_Wy13_takes o
theorem fW_marks (o i : Nat) (hi : i < 2) : q_ref (layC o) (o + 10 + 3 * i) 7 1 (.ref (o + 12 + 3 * i)) := by
  match i, hi with
  | 0, _ => exact zC_Wy10_marks o
  | 1, _ => exact zC_Wy13_marks o
theorem fW_takesA (o i : Nat) (hi : i < 2) : q_arr (layC o) (o + 11 + 3 * i) 0 160 (11 + 3 * i) := by
  match i, hi with
  | 0, _ => exact rC_11 o
  | 1, _ => exact rC_14 o
theorem fW_marksA (o i : Nat) (hi : i < 2) : q_arr (layC o) (o + 12 + 3 * i) 0 2240 (12 + 3 * i) := by
  match i, hi with
  | 0, _ => exact rC_12 o
  | 1, _ => exact rC_15 o
