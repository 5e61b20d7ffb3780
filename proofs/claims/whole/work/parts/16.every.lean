/-! THE SMALL MACHINE IS TRUE, 5: every instruction -/
/-- a step that goes on, and makes no less -/
def q_inl (σ : qH) (r : qN) : Prop := ∀ z, r = some z → ∃ x : qS, z = .inl x ∧ σ.2.2.1 ≤ x.2.2.2.2.2.1 ∧ σ.2.2.2 ≤ x.2.2.2.2.2.2
theorem q_inl_none {σ : qH} : q_inl σ none := fun _ h => by cases h
theorem q_inl_go {σ σ' : qH} {pc : Nat} {lo : qL} {st : List Value} (h1 : σ.2.2.1 ≤ σ'.2.2.1) (h2 : σ.2.2.2 ≤ σ'.2.2.2) : q_inl σ (q_go pc lo st σ') := fun z h => by cases h; exact ⟨_, rfl, h1, h2⟩
theorem q_inl_br {σ : qH} {P : Prop} [Decidable P] {pc : Nat} {off : Int} {lo : qL} {st : List Value} : q_inl σ (q_br P pc off lo st σ) := by
  unfold q_br
  split
  · exact fun z h => by cases h; exact ⟨_, rfl, Nat.le_refl _, Nat.le_refl _⟩
  · exact q_inl_none
section QI
variable {pc : Nat} {lo : qL} {st : List Value} {σ : qH}
theorem q_push_in {v : Value} {n : Nat} : q_inl σ (q_push v n pc lo st σ) := by
  unfold q_push
  (repeat' split) <;> first | exact q_inl_none | exact q_inl_go (Nat.le_refl _) (Nat.le_refl _) | exact q_inl_br
theorem q_iload_in {i n : Nat} : q_inl σ (q_iload i n pc lo st σ) := by
  unfold q_iload
  (repeat' split) <;> first | exact q_inl_none | exact q_inl_go (Nat.le_refl _) (Nat.le_refl _) | exact q_inl_br
theorem q_lload_in {i n : Nat} : q_inl σ (q_lload i n pc lo st σ) := by
  unfold q_lload
  (repeat' split) <;> first | exact q_inl_none | exact q_inl_go (Nat.le_refl _) (Nat.le_refl _) | exact q_inl_br
theorem q_aload_in {i n : Nat} : q_inl σ (q_aload i n pc lo st σ) := by
  unfold q_aload
  (repeat' split) <;> first | exact q_inl_none | exact q_inl_go (Nat.le_refl _) (Nat.le_refl _) | exact q_inl_br
theorem q_istore_in {i n : Nat} : q_inl σ (q_istore i n pc lo st σ) := by
  unfold q_istore
  (repeat' split) <;> first | exact q_inl_none | exact q_inl_go (Nat.le_refl _) (Nat.le_refl _) | exact q_inl_br
theorem q_lstore_in {i n : Nat} : q_inl σ (q_lstore i n pc lo st σ) := by
  unfold q_lstore
  (repeat' split) <;> first | exact q_inl_none | exact q_inl_go (Nat.le_refl _) (Nat.le_refl _) | exact q_inl_br
theorem q_astore_in {i n : Nat} : q_inl σ (q_astore i n pc lo st σ) := by
  unfold q_astore
  (repeat' split) <;> first | exact q_inl_none | exact q_inl_go (Nat.le_refl _) (Nat.le_refl _) | exact q_inl_br
theorem q_iinc_in {i : Nat} {k : Int} {n : Nat} : q_inl σ (q_iinc i k n pc lo st σ) := by
  unfold q_iinc
  (repeat' split) <;> first | exact q_inl_none | exact q_inl_go (Nat.le_refl _) (Nat.le_refl _) | exact q_inl_br
theorem q_i1_in {f : Int32 → Value} : q_inl σ (q_i1 f pc lo st σ) := by
  unfold q_i1
  (repeat' split) <;> first | exact q_inl_none | exact q_inl_go (Nat.le_refl _) (Nat.le_refl _) | exact q_inl_br
theorem q_l1_in {f : Int64 → Value} : q_inl σ (q_l1 f pc lo st σ) := by
  unfold q_l1
  (repeat' split) <;> first | exact q_inl_none | exact q_inl_go (Nat.le_refl _) (Nat.le_refl _) | exact q_inl_br
theorem q_i2_in {f : Int32 → Int32 → Int32} : q_inl σ (q_i2 f pc lo st σ) := by
  unfold q_i2
  (repeat' split) <;> first | exact q_inl_none | exact q_inl_go (Nat.le_refl _) (Nat.le_refl _) | exact q_inl_br
theorem q_d2_in {f : Int32 → Int32 → Int32} : q_inl σ (q_d2 f pc lo st σ) := by
  unfold q_d2
  (repeat' split) <;> first | exact q_inl_none | exact q_inl_go (Nat.le_refl _) (Nat.le_refl _) | exact q_inl_br
theorem q_l2_in {f : Int64 → Int64 → Value} : q_inl σ (q_l2 f pc lo st σ) := by
  unfold q_l2
  (repeat' split) <;> first | exact q_inl_none | exact q_inl_go (Nat.le_refl _) (Nat.le_refl _) | exact q_inl_br
theorem q_ls_in {f : Int64 → Int32 → Int64} : q_inl σ (q_ls f pc lo st σ) := by
  unfold q_ls
  (repeat' split) <;> first | exact q_inl_none | exact q_inl_go (Nat.le_refl _) (Nat.le_refl _) | exact q_inl_br
theorem q_dup_in  : q_inl σ (q_dup pc lo st σ) := by
  unfold q_dup
  (repeat' split) <;> first | exact q_inl_none | exact q_inl_go (Nat.le_refl _) (Nat.le_refl _) | exact q_inl_br
theorem q_pop_in  : q_inl σ (q_pop pc lo st σ) := by
  unfold q_pop
  (repeat' split) <;> first | exact q_inl_none | exact q_inl_go (Nat.le_refl _) (Nat.le_refl _) | exact q_inl_br
theorem q_pop2_in  : q_inl σ (q_pop2 pc lo st σ) := by
  unfold q_pop2
  (repeat' split) <;> first | exact q_inl_none | exact q_inl_go (Nat.le_refl _) (Nat.le_refl _) | exact q_inl_br
theorem q_dupx1_in  : q_inl σ (q_dupx1 pc lo st σ) := by
  unfold q_dupx1
  (repeat' split) <;> first | exact q_inl_none | exact q_inl_go (Nat.le_refl _) (Nat.le_refl _) | exact q_inl_br
theorem q_dupx2_in  : q_inl σ (q_dupx2 pc lo st σ) := by
  unfold q_dupx2
  (repeat' split) <;> first | exact q_inl_none | exact q_inl_go (Nat.le_refl _) (Nat.le_refl _) | exact q_inl_br
theorem q_dup2_in  : q_inl σ (q_dup2 pc lo st σ) := by
  unfold q_dup2
  (repeat' split) <;> first | exact q_inl_none | exact q_inl_go (Nat.le_refl _) (Nat.le_refl _) | exact q_inl_br
theorem q_dup2x1_in  : q_inl σ (q_dup2x1 pc lo st σ) := by
  unfold q_dup2x1
  (repeat' split) <;> first | exact q_inl_none | exact q_inl_go (Nat.le_refl _) (Nat.le_refl _) | exact q_inl_br
theorem q_if_in {cd : ClassFile.Cond} {off : Int} : q_inl σ (q_if cd off pc lo st σ) := by
  unfold q_if
  (repeat' split) <;> first | exact q_inl_none | exact q_inl_go (Nat.le_refl _) (Nat.le_refl _) | exact q_inl_br
theorem q_icmp_in {cd : ClassFile.Cond} {off : Int} : q_inl σ (q_icmp cd off pc lo st σ) := by
  unfold q_icmp
  (repeat' split) <;> first | exact q_inl_none | exact q_inl_go (Nat.le_refl _) (Nat.le_refl _) | exact q_inl_br
theorem q_ifnull_in {off : Int} : q_inl σ (q_ifnull off pc lo st σ) := by
  unfold q_ifnull
  (repeat' split) <;> first | exact q_inl_none | exact q_inl_go (Nat.le_refl _) (Nat.le_refl _) | exact q_inl_br
theorem q_ifnonnull_in {off : Int} : q_inl σ (q_ifnonnull off pc lo st σ) := by
  unfold q_ifnonnull
  (repeat' split) <;> first | exact q_inl_none | exact q_inl_go (Nat.le_refl _) (Nat.le_refl _) | exact q_inl_br
theorem q_goto_in {off : Int} : q_inl σ (q_goto off pc lo st σ) := by
  unfold q_goto
  (repeat' split) <;> first | exact q_inl_none | exact q_inl_go (Nat.le_refl _) (Nat.le_refl _) | exact q_inl_br
theorem q_lookup_in {dflt : Int} {ps : Array (Int × Int)} : q_inl σ (q_lookup dflt ps pc lo st σ) := by
  unfold q_lookup
  (repeat' split) <;> first | exact q_inl_none | exact q_inl_go (Nat.le_refl _) (Nat.le_refl _) | exact q_inl_br
theorem q_table_in {dflt a b : Int} {offs : Array Int} : q_inl σ (q_table dflt a b offs pc lo st σ) := by
  unfold q_table
  (repeat' split) <;> first | exact q_inl_none | exact q_inl_go (Nat.le_refl _) (Nat.le_refl _) | exact q_inl_br
theorem q_getf_in {f : Option (Nat × Nat × FieldType × Nat)} : q_inl σ (q_getf f pc lo st σ) := by
  unfold q_getf
  (repeat' split) <;> first | exact q_inl_none | exact q_inl_go (Nat.le_refl _) (Nat.le_refl _) | exact q_inl_br
theorem q_putf_in {f : Option (Nat × Nat × FieldType × Nat)} {ini : Bool} : q_inl σ (q_putf f ini pc lo st σ) := by
  unfold q_putf
  (repeat' split) <;> first | exact q_inl_none | exact q_inl_go (Nat.le_refl _) (Nat.le_refl _) | exact q_inl_br
theorem q_iald_in {kd : Nat} : q_inl σ (q_iald kd pc lo st σ) := by
  unfold q_iald
  (repeat' split) <;> first | exact q_inl_none | exact q_inl_go (Nat.le_refl _) (Nat.le_refl _) | exact q_inl_br
theorem q_lald_in  : q_inl σ (q_lald pc lo st σ) := by
  unfold q_lald
  (repeat' split) <;> first | exact q_inl_none | exact q_inl_go (Nat.le_refl _) (Nat.le_refl _) | exact q_inl_br
theorem q_iast_in {kd : Nat} {nr : Int32 → Int32} : q_inl σ (q_iast kd nr pc lo st σ) := by
  unfold q_iast
  (repeat' split) <;> first | exact q_inl_none | exact q_inl_go (Nat.le_refl _) (Nat.le_refl _) | exact q_inl_br
theorem q_last_in  : q_inl σ (q_last pc lo st σ) := by
  unfold q_last
  (repeat' split) <;> first | exact q_inl_none | exact q_inl_go (Nat.le_refl _) (Nat.le_refl _) | exact q_inl_br
theorem q_alen_in  : q_inl σ (q_alen pc lo st σ) := by
  unfold q_alen
  (repeat' split) <;> first | exact q_inl_none | exact q_inl_go (Nat.le_refl _) (Nat.le_refl _) | exact q_inl_br
theorem q_new_in {kd b : Nat} {mk : Nat → vp_A} : q_inl σ (q_new kd b mk pc lo st σ) := by
  unfold q_new
  (repeat' split) <;> first | exact q_inl_none | exact q_inl_go (Nat.le_add_right _ _) (Nat.le_add_right _ _)
theorem q_newA_in {t : ClassFile.ArrayType} : q_inl σ (q_newA t pc lo st σ) := by
  unfold q_newA
  split <;> first | exact q_new_in | exact q_inl_none
theorem q_back_in {r : List Value} {oo : Option qO} (h : ∀ v σ', oo = some (.inl v, σ') → σ.2.2.1 ≤ σ'.2.2.1 ∧ σ.2.2.2 ≤ σ'.2.2.2) : q_inl σ (q_back pc lo r oo) := by
  unfold q_back
  split
  · exact q_inl_go (h _ _ rfl).1 (h _ _ rfl).2
  · exact q_inl_none
/-- a table of callees makes no less -/
def q_Mono (rc : qC) : Prop := ∀ z as σ v σ', rc z as σ = some (.inl v, σ') → σ.2.2.1 ≤ σ'.2.2.1 ∧ σ.2.2.2 ≤ σ'.2.2.2
theorem q_call_in {rc : qC} (hr : q_Mono rc) {k : Option (Nat × Nat × Nat × Nat)} : q_inl σ (q_call rc k pc lo st σ) := by
  unfold q_call
  (repeat' split) <;> first | exact q_inl_none | exact q_inl_go (Nat.le_refl _) (Nat.le_refl _) | exact q_back_in (fun v σ' h => hr _ _ _ _ _ h)
end QI
def q_isRet : ClassFile.Instr → Bool
  | .areturn => true
  | .ireturn => true
  | .lreturn => true
  | .return_ => true
  | _ => false
/-- an instruction goes on, or it is a return or a throw -/
theorem q_ex_in {rc : qC} {P : qP} {ini : Bool} {rt : Option FieldType} {i : ClassFile.Instr} {pc : Nat} {lo : qL} {st : List Value} {σ : qH} (hr : q_Mono rc) {z : qS ⊕ qO} (h : q_ex rc P ini rt i pc lo st σ = some z) : (∃ x : qS, z = .inl x ∧ σ.2.2.1 ≤ x.2.2.2.2.2.1 ∧ σ.2.2.2 ≤ x.2.2.2.2.2.2) ∨ (q_isRet i = true ∧ ∃ v, z = .inr (.inl v, σ)) ∨ (∃ x k, i = .new k ∧ P.2.1 k = some (.inr x) ∧ z = .inr (.inr x, (σ.1, σ.2.1 + 1, σ.2.2.1 + 1, σ.2.2.2 + 6))) := by
  cases i with
  | aconst_null => exact Or.inl (q_push_in z h)
  | aload i => exact Or.inl (q_aload_in z h)
  | aload_n i => exact Or.inl (q_aload_in z h)
  | areturn =>
    simp only [q_ex, q_areturn] at h
    (repeat' split at h) <;> first | (cases h; exact Or.inr (Or.inl ⟨rfl, _, rfl⟩)) | cases h
  | arraylength => exact Or.inl (q_alen_in z h)
  | astore i => exact Or.inl (q_astore_in z h)
  | astore_n i => exact Or.inl (q_astore_in z h)
  | baload => exact Or.inl (q_iald_in z h)
  | bastore => exact Or.inl (q_iast_in z h)
  | bipush n => exact Or.inl (q_push_in z h)
  | caload => exact Or.inl (q_iald_in z h)
  | castore => exact Or.inl (q_iast_in z h)
  | dup => exact Or.inl (q_dup_in z h)
  | dup_x1 => exact Or.inl (q_dupx1_in z h)
  | dup_x2 => exact Or.inl (q_dupx2_in z h)
  | dup2 => exact Or.inl (q_dup2_in z h)
  | dup2_x1 => exact Or.inl (q_dup2x1_in z h)
  | getfield k => exact Or.inl (q_getf_in z h)
  | goto off => exact Or.inl (q_goto_in z h)
  | i2c => exact Or.inl (q_i1_in z h)
  | i2l => exact Or.inl (q_i1_in z h)
  | iadd => exact Or.inl (q_i2_in z h)
  | iaload => exact Or.inl (q_iald_in z h)
  | iand => exact Or.inl (q_i2_in z h)
  | iastore => exact Or.inl (q_iast_in z h)
  | iconst n => exact Or.inl (q_push_in z h)
  | idiv => exact Or.inl (q_d2_in z h)
  | if_icmp cd off => exact Or.inl (q_icmp_in z h)
  | ifCond cd off => exact Or.inl (q_if_in z h)
  | ifnonnull off => exact Or.inl (q_ifnonnull_in z h)
  | ifnull off => exact Or.inl (q_ifnull_in z h)
  | iinc i k => exact Or.inl (q_iinc_in z h)
  | iload i => exact Or.inl (q_iload_in z h)
  | iload_n i => exact Or.inl (q_iload_in z h)
  | imul => exact Or.inl (q_i2_in z h)
  | ineg => exact Or.inl (q_i1_in z h)
  | invokespecial k =>
    simp only [q_ex] at h
    split at h <;> first | exact Or.inl (q_call_in hr z h) | cases h
  | invokestatic k =>
    simp only [q_ex] at h
    split at h <;> first | exact Or.inl (q_call_in hr z h) | cases h
  | invokevirtual k =>
    simp only [q_ex] at h
    split at h <;> first | exact Or.inl (q_call_in hr z h) | cases h
  | ior => exact Or.inl (q_i2_in z h)
  | irem => exact Or.inl (q_d2_in z h)
  | ireturn =>
    simp only [q_ex, q_ireturn] at h
    (repeat' split at h) <;> first | (cases h; exact Or.inr (Or.inl ⟨rfl, _, rfl⟩)) | cases h
  | ishl => exact Or.inl (q_i2_in z h)
  | ishr => exact Or.inl (q_i2_in z h)
  | istore i => exact Or.inl (q_istore_in z h)
  | istore_n i => exact Or.inl (q_istore_in z h)
  | isub => exact Or.inl (q_i2_in z h)
  | iushr => exact Or.inl (q_i2_in z h)
  | ixor => exact Or.inl (q_i2_in z h)
  | l2i => exact Or.inl (q_l1_in z h)
  | ladd => exact Or.inl (q_l2_in z h)
  | laload => exact Or.inl (q_lald_in z h)
  | land => exact Or.inl (q_l2_in z h)
  | lastore => exact Or.inl (q_last_in z h)
  | lcmp => exact Or.inl (q_l2_in z h)
  | lconst n => exact Or.inl (q_push_in z h)
  | ldc k =>
    simp only [q_ex] at h
    split at h <;> first | exact Or.inl (q_push_in z h) | cases h
  | ldc2_w k =>
    simp only [q_ex] at h
    split at h <;> first | exact Or.inl (q_push_in z h) | cases h
  | lload i => exact Or.inl (q_lload_in z h)
  | lload_n i => exact Or.inl (q_lload_in z h)
  | lmul => exact Or.inl (q_l2_in z h)
  | lookupswitch d ps => exact Or.inl (q_lookup_in z h)
  | lor => exact Or.inl (q_l2_in z h)
  | lreturn =>
    simp only [q_ex, q_lreturn] at h
    (repeat' split at h) <;> first | (cases h; exact Or.inr (Or.inl ⟨rfl, _, rfl⟩)) | cases h
  | lshl => exact Or.inl (q_ls_in z h)
  | lshr => exact Or.inl (q_ls_in z h)
  | lstore i => exact Or.inl (q_lstore_in z h)
  | lstore_n i => exact Or.inl (q_lstore_in z h)
  | lsub => exact Or.inl (q_l2_in z h)
  | lushr => exact Or.inl (q_ls_in z h)
  | lxor => exact Or.inl (q_l2_in z h)
  | new k =>
    simp only [q_ex, q_newC] at h
    split at h
    · cases h; exact Or.inl ⟨_, rfl, Nat.le_add_right _ _, Nat.le_add_right _ _⟩
    · rename_i x hx; cases h; exact Or.inr (Or.inr ⟨x, k, rfl, hx, rfl⟩)
    · cases h
  | newarray t => exact Or.inl (q_newA_in z h)
  | pop => exact Or.inl (q_pop_in z h)
  | pop2 => exact Or.inl (q_pop2_in z h)
  | putfield k => exact Or.inl (q_putf_in z h)
  | return_ =>
    simp only [q_ex, q_vreturn] at h
    (repeat' split at h) <;> first | (cases h; exact Or.inr (Or.inl ⟨rfl, _, rfl⟩)) | cases h
  | sipush n => exact Or.inl (q_push_in z h)
  | tableswitch d a b os => exact Or.inl (q_table_in z h)
  | _ => cases h
