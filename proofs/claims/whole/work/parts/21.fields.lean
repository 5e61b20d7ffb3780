/-! printed by wip/tools/mk_tables.py: what the words say of the pools -/
theorem q_lPW_0 : u_lay "PatternWalk" q_TPW 0 ∈ q_Ts := q_in 231 (by decide +kernel) (by decide +kernel)
theorem q_lPW_1 : u_lay "PatternWalk" q_TPW 1 ∈ q_Ts := q_in 233 (by decide +kernel) (by decide +kernel)
theorem q_lPW_2 : u_lay "PatternWalk" q_TPW 2 ∈ q_Ts := q_in 235 (by decide +kernel) (by decide +kernel)
theorem q_lPW_3 : u_lay "PatternWalk" q_TPW 3 ∈ q_Ts := q_in 237 (by decide +kernel) (by decide +kernel)
theorem q_lPW_4 : u_lay "PatternWalk" q_TPW 4 ∈ q_Ts := q_in 239 (by decide +kernel) (by decide +kernel)
theorem q_lPW_5 : u_lay "PatternWalk" q_TPW 5 ∈ q_Ts := q_in 241 (by decide +kernel) (by decide +kernel)
theorem q_lPW_6 : u_lay "PatternWalk" q_TPW 6 ∈ q_Ts := q_in 243 (by decide +kernel) (by decide +kernel)
theorem q_wPW : ∀ w ∈ u_ws "PatternWalk" q_TPW 7, w ∈ q_Ts := by
  intro w hw
  obtain ⟨k, hk, rfl⟩ := List.mem_map.mp hw
  have hk := List.mem_range.mp hk
  match k, hk with
  | 0, _ => exact q_lPW_0
  | 1, _ => exact q_lPW_1
  | 2, _ => exact q_lPW_2
  | 3, _ => exact q_lPW_3
  | 4, _ => exact q_lPW_4
  | 5, _ => exact q_lPW_5
  | 6, _ => exact q_lPW_6
  | k + 7, hk => exact absurd hk (by omega)
theorem q_tPW : ∀ k, k < 7 → parseFieldDescriptor (q_TPW k).2.2.1 = some (q_YPW k) := by decide +kernel
theorem q_nPW : ∀ a, a < 7 → ∀ b, b < 7 → a ≠ b → (q_TPW a).2.1 ≠ (q_TPW b).2.1 := by decide +kernel
theorem q_lCs_0 : u_lay "PatternWalk$CharSets" q_TCs 0 ∈ q_Ts := q_in 91 (by decide +kernel) (by decide +kernel)
theorem q_lCs_1 : u_lay "PatternWalk$CharSets" q_TCs 1 ∈ q_Ts := q_in 93 (by decide +kernel) (by decide +kernel)
theorem q_wCs : ∀ w ∈ u_ws "PatternWalk$CharSets" q_TCs 2, w ∈ q_Ts := by
  intro w hw
  obtain ⟨k, hk, rfl⟩ := List.mem_map.mp hw
  have hk := List.mem_range.mp hk
  match k, hk with
  | 0, _ => exact q_lCs_0
  | 1, _ => exact q_lCs_1
  | k + 2, hk => exact absurd hk (by omega)
theorem q_tCs : ∀ k, k < 2 → parseFieldDescriptor (q_TCs k).2.2.1 = some (q_YCs k) := by decide +kernel
theorem q_nCs : ∀ a, a < 2 → ∀ b, b < 2 → a ≠ b → (q_TCs a).2.1 ≠ (q_TCs b).2.1 := by decide +kernel
theorem q_lPa_0 : u_lay "PatternWalk$Parser" q_TPa 0 ∈ q_Ts := q_in 112 (by decide +kernel) (by decide +kernel)
theorem q_lPa_1 : u_lay "PatternWalk$Parser" q_TPa 1 ∈ q_Ts := q_in 114 (by decide +kernel) (by decide +kernel)
theorem q_lPa_2 : u_lay "PatternWalk$Parser" q_TPa 2 ∈ q_Ts := q_in 116 (by decide +kernel) (by decide +kernel)
theorem q_lPa_3 : u_lay "PatternWalk$Parser" q_TPa 3 ∈ q_Ts := q_in 118 (by decide +kernel) (by decide +kernel)
theorem q_lPa_4 : u_lay "PatternWalk$Parser" q_TPa 4 ∈ q_Ts := q_in 120 (by decide +kernel) (by decide +kernel)
theorem q_lPa_5 : u_lay "PatternWalk$Parser" q_TPa 5 ∈ q_Ts := q_in 122 (by decide +kernel) (by decide +kernel)
theorem q_wPa : ∀ w ∈ u_ws "PatternWalk$Parser" q_TPa 6, w ∈ q_Ts := by
  intro w hw
  obtain ⟨k, hk, rfl⟩ := List.mem_map.mp hw
  have hk := List.mem_range.mp hk
  match k, hk with
  | 0, _ => exact q_lPa_0
  | 1, _ => exact q_lPa_1
  | 2, _ => exact q_lPa_2
  | 3, _ => exact q_lPa_3
  | 4, _ => exact q_lPa_4
  | 5, _ => exact q_lPa_5
  | k + 6, hk => exact absurd hk (by omega)
theorem q_tPa : ∀ k, k < 6 → parseFieldDescriptor (q_TPa k).2.2.1 = some (q_YPa k) := by decide +kernel
theorem q_nPa : ∀ a, a < 6 → ∀ b, b < 6 → a ≠ b → (q_TPa a).2.1 ≠ (q_TPa b).2.1 := by decide +kernel
theorem q_lPr_0 : u_lay "PatternWalk$Program" q_TPr 0 ∈ q_Ts := q_in 138 (by decide +kernel) (by decide +kernel)
theorem q_lPr_1 : u_lay "PatternWalk$Program" q_TPr 1 ∈ q_Ts := q_in 140 (by decide +kernel) (by decide +kernel)
theorem q_lPr_2 : u_lay "PatternWalk$Program" q_TPr 2 ∈ q_Ts := q_in 142 (by decide +kernel) (by decide +kernel)
theorem q_lPr_3 : u_lay "PatternWalk$Program" q_TPr 3 ∈ q_Ts := q_in 144 (by decide +kernel) (by decide +kernel)
theorem q_lPr_4 : u_lay "PatternWalk$Program" q_TPr 4 ∈ q_Ts := q_in 146 (by decide +kernel) (by decide +kernel)
theorem q_wPr : ∀ w ∈ u_ws "PatternWalk$Program" q_TPr 5, w ∈ q_Ts := by
  intro w hw
  obtain ⟨k, hk, rfl⟩ := List.mem_map.mp hw
  have hk := List.mem_range.mp hk
  match k, hk with
  | 0, _ => exact q_lPr_0
  | 1, _ => exact q_lPr_1
  | 2, _ => exact q_lPr_2
  | 3, _ => exact q_lPr_3
  | 4, _ => exact q_lPr_4
  | k + 5, hk => exact absurd hk (by omega)
theorem q_tPr : ∀ k, k < 5 → parseFieldDescriptor (q_TPr k).2.2.1 = some (q_YPr k) := by decide +kernel
theorem q_nPr : ∀ a, a < 5 → ∀ b, b < 5 → a ≠ b → (q_TPr a).2.1 ≠ (q_TPr b).2.1 := by decide +kernel
theorem q_lRp_0 : u_lay "PatternWalk$Repeat" q_TRp 0 ∈ q_Ts := q_in 565 (by decide +kernel) (by decide +kernel)
theorem q_lRp_1 : u_lay "PatternWalk$Repeat" q_TRp 1 ∈ q_Ts := q_in 567 (by decide +kernel) (by decide +kernel)
theorem q_lRp_2 : u_lay "PatternWalk$Repeat" q_TRp 2 ∈ q_Ts := q_in 569 (by decide +kernel) (by decide +kernel)
theorem q_lRp_3 : u_lay "PatternWalk$Repeat" q_TRp 3 ∈ q_Ts := q_in 571 (by decide +kernel) (by decide +kernel)
theorem q_lRp_4 : u_lay "PatternWalk$Repeat" q_TRp 4 ∈ q_Ts := q_in 573 (by decide +kernel) (by decide +kernel)
theorem q_lRp_5 : u_lay "PatternWalk$Repeat" q_TRp 5 ∈ q_Ts := q_in 575 (by decide +kernel) (by decide +kernel)
theorem q_lRp_6 : u_lay "PatternWalk$Repeat" q_TRp 6 ∈ q_Ts := q_in 577 (by decide +kernel) (by decide +kernel)
theorem q_lRp_7 : u_lay "PatternWalk$Repeat" q_TRp 7 ∈ q_Ts := q_in 579 (by decide +kernel) (by decide +kernel)
theorem q_lRp_8 : u_lay "PatternWalk$Repeat" q_TRp 8 ∈ q_Ts := q_in 581 (by decide +kernel) (by decide +kernel)
theorem q_lRp_9 : u_lay "PatternWalk$Repeat" q_TRp 9 ∈ q_Ts := q_in 583 (by decide +kernel) (by decide +kernel)
theorem q_wRp : ∀ w ∈ u_ws "PatternWalk$Repeat" q_TRp 10, w ∈ q_Ts := by
  intro w hw
  obtain ⟨k, hk, rfl⟩ := List.mem_map.mp hw
  have hk := List.mem_range.mp hk
  match k, hk with
  | 0, _ => exact q_lRp_0
  | 1, _ => exact q_lRp_1
  | 2, _ => exact q_lRp_2
  | 3, _ => exact q_lRp_3
  | 4, _ => exact q_lRp_4
  | 5, _ => exact q_lRp_5
  | 6, _ => exact q_lRp_6
  | 7, _ => exact q_lRp_7
  | 8, _ => exact q_lRp_8
  | 9, _ => exact q_lRp_9
  | k + 10, hk => exact absurd hk (by omega)
theorem q_tRp : ∀ k, k < 10 → parseFieldDescriptor (q_TRp k).2.2.1 = some (q_YRp k) := by decide +kernel
theorem q_nRp : ∀ a, a < 10 → ∀ b, b < 10 → a ≠ b → (q_TRp a).2.1 ≠ (q_TRp b).2.1 := by decide +kernel
theorem q_lRw_0 : u_lay "PatternWalk$Row" q_TRw 0 ∈ q_Ts := q_in 512 (by decide +kernel) (by decide +kernel)
theorem q_lRw_1 : u_lay "PatternWalk$Row" q_TRw 1 ∈ q_Ts := q_in 514 (by decide +kernel) (by decide +kernel)
theorem q_lRw_2 : u_lay "PatternWalk$Row" q_TRw 2 ∈ q_Ts := q_in 516 (by decide +kernel) (by decide +kernel)
theorem q_lRw_3 : u_lay "PatternWalk$Row" q_TRw 3 ∈ q_Ts := q_in 518 (by decide +kernel) (by decide +kernel)
theorem q_wRw : ∀ w ∈ u_ws "PatternWalk$Row" q_TRw 4, w ∈ q_Ts := by
  intro w hw
  obtain ⟨k, hk, rfl⟩ := List.mem_map.mp hw
  have hk := List.mem_range.mp hk
  match k, hk with
  | 0, _ => exact q_lRw_0
  | 1, _ => exact q_lRw_1
  | 2, _ => exact q_lRw_2
  | 3, _ => exact q_lRw_3
  | k + 4, hk => exact absurd hk (by omega)
theorem q_tRw : ∀ k, k < 4 → parseFieldDescriptor (q_TRw k).2.2.1 = some (q_YRw k) := by decide +kernel
theorem q_nRw : ∀ a, a < 4 → ∀ b, b < 4 → a ≠ b → (q_TRw a).2.1 ≠ (q_TRw b).2.1 := by decide +kernel
theorem q_lWk_0 : u_lay "PatternWalk$Walk" q_TWk 0 ∈ q_Ts := q_in 193 (by decide +kernel) (by decide +kernel)
theorem q_lWk_1 : u_lay "PatternWalk$Walk" q_TWk 1 ∈ q_Ts := q_in 195 (by decide +kernel) (by decide +kernel)
theorem q_lWk_2 : u_lay "PatternWalk$Walk" q_TWk 2 ∈ q_Ts := q_in 197 (by decide +kernel) (by decide +kernel)
theorem q_lWk_3 : u_lay "PatternWalk$Walk" q_TWk 3 ∈ q_Ts := q_in 199 (by decide +kernel) (by decide +kernel)
theorem q_lWk_4 : u_lay "PatternWalk$Walk" q_TWk 4 ∈ q_Ts := q_in 201 (by decide +kernel) (by decide +kernel)
theorem q_lWk_5 : u_lay "PatternWalk$Walk" q_TWk 5 ∈ q_Ts := q_in 203 (by decide +kernel) (by decide +kernel)
theorem q_lWk_6 : u_lay "PatternWalk$Walk" q_TWk 6 ∈ q_Ts := q_in 205 (by decide +kernel) (by decide +kernel)
theorem q_lWk_7 : u_lay "PatternWalk$Walk" q_TWk 7 ∈ q_Ts := q_in 207 (by decide +kernel) (by decide +kernel)
theorem q_lWk_8 : u_lay "PatternWalk$Walk" q_TWk 8 ∈ q_Ts := q_in 209 (by decide +kernel) (by decide +kernel)
theorem q_lWk_9 : u_lay "PatternWalk$Walk" q_TWk 9 ∈ q_Ts := q_in 211 (by decide +kernel) (by decide +kernel)
theorem q_lWk_10 : u_lay "PatternWalk$Walk" q_TWk 10 ∈ q_Ts := q_in 213 (by decide +kernel) (by decide +kernel)
theorem q_lWk_11 : u_lay "PatternWalk$Walk" q_TWk 11 ∈ q_Ts := q_in 215 (by decide +kernel) (by decide +kernel)
theorem q_lWk_12 : u_lay "PatternWalk$Walk" q_TWk 12 ∈ q_Ts := q_in 217 (by decide +kernel) (by decide +kernel)
theorem q_lWk_13 : u_lay "PatternWalk$Walk" q_TWk 13 ∈ q_Ts := q_in 219 (by decide +kernel) (by decide +kernel)
theorem q_lWk_14 : u_lay "PatternWalk$Walk" q_TWk 14 ∈ q_Ts := q_in 221 (by decide +kernel) (by decide +kernel)
theorem q_wWk : ∀ w ∈ u_ws "PatternWalk$Walk" q_TWk 15, w ∈ q_Ts := by
  intro w hw
  obtain ⟨k, hk, rfl⟩ := List.mem_map.mp hw
  have hk := List.mem_range.mp hk
  match k, hk with
  | 0, _ => exact q_lWk_0
  | 1, _ => exact q_lWk_1
  | 2, _ => exact q_lWk_2
  | 3, _ => exact q_lWk_3
  | 4, _ => exact q_lWk_4
  | 5, _ => exact q_lWk_5
  | 6, _ => exact q_lWk_6
  | 7, _ => exact q_lWk_7
  | 8, _ => exact q_lWk_8
  | 9, _ => exact q_lWk_9
  | 10, _ => exact q_lWk_10
  | 11, _ => exact q_lWk_11
  | 12, _ => exact q_lWk_12
  | 13, _ => exact q_lWk_13
  | 14, _ => exact q_lWk_14
  | k + 15, hk => exact absurd hk (by omega)
theorem q_tWk : ∀ k, k < 15 → parseFieldDescriptor (q_TWk k).2.2.1 = some (q_YWk k) := by decide +kernel
theorem q_nWk : ∀ a, a < 15 → ∀ b, b < 15 → a ≠ b → (q_TWk a).2.1 ≠ (q_TWk b).2.1 := by decide +kernel
theorem q_lWy_0 : u_lay "PatternWalk$Ways" q_TWy 0 ∈ q_Ts := q_in 167 (by decide +kernel) (by decide +kernel)
theorem q_lWy_1 : u_lay "PatternWalk$Ways" q_TWy 1 ∈ q_Ts := q_in 169 (by decide +kernel) (by decide +kernel)
theorem q_lWy_2 : u_lay "PatternWalk$Ways" q_TWy 2 ∈ q_Ts := q_in 171 (by decide +kernel) (by decide +kernel)
theorem q_wWy : ∀ w ∈ u_ws "PatternWalk$Ways" q_TWy 3, w ∈ q_Ts := by
  intro w hw
  obtain ⟨k, hk, rfl⟩ := List.mem_map.mp hw
  have hk := List.mem_range.mp hk
  match k, hk with
  | 0, _ => exact q_lWy_0
  | 1, _ => exact q_lWy_1
  | 2, _ => exact q_lWy_2
  | k + 3, hk => exact absurd hk (by omega)
theorem q_tWy : ∀ k, k < 3 → parseFieldDescriptor (q_TWy k).2.2.1 = some (q_YWy k) := by decide +kernel
theorem q_nWy : ∀ a, a < 3 → ∀ b, b < 3 → a ≠ b → (q_TWy a).2.1 ≠ (q_TWy b).2.1 := by decide +kernel
theorem q_lMd_0 : u_lay "PatternWalkModel" q_TMd 0 ∈ q_Ts := q_in 759 (by decide +kernel) (by decide +kernel)
theorem q_lMd_1 : u_lay "PatternWalkModel" q_TMd 1 ∈ q_Ts := q_in 761 (by decide +kernel) (by decide +kernel)
theorem q_lMd_2 : u_lay "PatternWalkModel" q_TMd 2 ∈ q_Ts := q_in 763 (by decide +kernel) (by decide +kernel)
theorem q_lMd_3 : u_lay "PatternWalkModel" q_TMd 3 ∈ q_Ts := q_in 765 (by decide +kernel) (by decide +kernel)
theorem q_lMd_4 : u_lay "PatternWalkModel" q_TMd 4 ∈ q_Ts := q_in 767 (by decide +kernel) (by decide +kernel)
theorem q_lMd_5 : u_lay "PatternWalkModel" q_TMd 5 ∈ q_Ts := q_in 769 (by decide +kernel) (by decide +kernel)
theorem q_lMd_6 : u_lay "PatternWalkModel" q_TMd 6 ∈ q_Ts := q_in 771 (by decide +kernel) (by decide +kernel)
theorem q_lMd_7 : u_lay "PatternWalkModel" q_TMd 7 ∈ q_Ts := q_in 773 (by decide +kernel) (by decide +kernel)
theorem q_lMd_8 : u_lay "PatternWalkModel" q_TMd 8 ∈ q_Ts := q_in 775 (by decide +kernel) (by decide +kernel)
theorem q_lMd_9 : u_lay "PatternWalkModel" q_TMd 9 ∈ q_Ts := q_in 777 (by decide +kernel) (by decide +kernel)
theorem q_lMd_10 : u_lay "PatternWalkModel" q_TMd 10 ∈ q_Ts := q_in 779 (by decide +kernel) (by decide +kernel)
theorem q_lMd_11 : u_lay "PatternWalkModel" q_TMd 11 ∈ q_Ts := q_in 781 (by decide +kernel) (by decide +kernel)
theorem q_lMd_12 : u_lay "PatternWalkModel" q_TMd 12 ∈ q_Ts := q_in 783 (by decide +kernel) (by decide +kernel)
theorem q_lMd_13 : u_lay "PatternWalkModel" q_TMd 13 ∈ q_Ts := q_in 785 (by decide +kernel) (by decide +kernel)
theorem q_lMd_14 : u_lay "PatternWalkModel" q_TMd 14 ∈ q_Ts := q_in 787 (by decide +kernel) (by decide +kernel)
theorem q_lMd_15 : u_lay "PatternWalkModel" q_TMd 15 ∈ q_Ts := q_in 789 (by decide +kernel) (by decide +kernel)
theorem q_lMd_16 : u_lay "PatternWalkModel" q_TMd 16 ∈ q_Ts := q_in 791 (by decide +kernel) (by decide +kernel)
theorem q_lMd_17 : u_lay "PatternWalkModel" q_TMd 17 ∈ q_Ts := q_in 793 (by decide +kernel) (by decide +kernel)
theorem q_lMd_18 : u_lay "PatternWalkModel" q_TMd 18 ∈ q_Ts := q_in 795 (by decide +kernel) (by decide +kernel)
theorem q_lMd_19 : u_lay "PatternWalkModel" q_TMd 19 ∈ q_Ts := q_in 797 (by decide +kernel) (by decide +kernel)
theorem q_lMd_20 : u_lay "PatternWalkModel" q_TMd 20 ∈ q_Ts := q_in 799 (by decide +kernel) (by decide +kernel)
theorem q_lMd_21 : u_lay "PatternWalkModel" q_TMd 21 ∈ q_Ts := q_in 801 (by decide +kernel) (by decide +kernel)
theorem q_lMd_22 : u_lay "PatternWalkModel" q_TMd 22 ∈ q_Ts := q_in 803 (by decide +kernel) (by decide +kernel)
theorem q_lMd_23 : u_lay "PatternWalkModel" q_TMd 23 ∈ q_Ts := q_in 805 (by decide +kernel) (by decide +kernel)
theorem q_lMd_24 : u_lay "PatternWalkModel" q_TMd 24 ∈ q_Ts := q_in 807 (by decide +kernel) (by decide +kernel)
theorem q_lMd_25 : u_lay "PatternWalkModel" q_TMd 25 ∈ q_Ts := q_in 809 (by decide +kernel) (by decide +kernel)
theorem q_lMd_26 : u_lay "PatternWalkModel" q_TMd 26 ∈ q_Ts := q_in 811 (by decide +kernel) (by decide +kernel)
theorem q_lMd_27 : u_lay "PatternWalkModel" q_TMd 27 ∈ q_Ts := q_in 813 (by decide +kernel) (by decide +kernel)
theorem q_lMd_28 : u_lay "PatternWalkModel" q_TMd 28 ∈ q_Ts := q_in 815 (by decide +kernel) (by decide +kernel)
theorem q_lMd_29 : u_lay "PatternWalkModel" q_TMd 29 ∈ q_Ts := q_in 817 (by decide +kernel) (by decide +kernel)
theorem q_lMd_30 : u_lay "PatternWalkModel" q_TMd 30 ∈ q_Ts := q_in 819 (by decide +kernel) (by decide +kernel)
theorem q_lMd_31 : u_lay "PatternWalkModel" q_TMd 31 ∈ q_Ts := q_in 821 (by decide +kernel) (by decide +kernel)
theorem q_lMd_32 : u_lay "PatternWalkModel" q_TMd 32 ∈ q_Ts := q_in 823 (by decide +kernel) (by decide +kernel)
theorem q_lMd_33 : u_lay "PatternWalkModel" q_TMd 33 ∈ q_Ts := q_in 825 (by decide +kernel) (by decide +kernel)
theorem q_lMd_34 : u_lay "PatternWalkModel" q_TMd 34 ∈ q_Ts := q_in 827 (by decide +kernel) (by decide +kernel)
theorem q_lMd_35 : u_lay "PatternWalkModel" q_TMd 35 ∈ q_Ts := q_in 829 (by decide +kernel) (by decide +kernel)
theorem q_lMd_36 : u_lay "PatternWalkModel" q_TMd 36 ∈ q_Ts := q_in 831 (by decide +kernel) (by decide +kernel)
theorem q_lMd_37 : u_lay "PatternWalkModel" q_TMd 37 ∈ q_Ts := q_in 833 (by decide +kernel) (by decide +kernel)
theorem q_lMd_38 : u_lay "PatternWalkModel" q_TMd 38 ∈ q_Ts := q_in 835 (by decide +kernel) (by decide +kernel)
theorem q_lMd_39 : u_lay "PatternWalkModel" q_TMd 39 ∈ q_Ts := q_in 837 (by decide +kernel) (by decide +kernel)
theorem q_lMd_40 : u_lay "PatternWalkModel" q_TMd 40 ∈ q_Ts := q_in 839 (by decide +kernel) (by decide +kernel)
theorem q_lMd_41 : u_lay "PatternWalkModel" q_TMd 41 ∈ q_Ts := q_in 841 (by decide +kernel) (by decide +kernel)
theorem q_lMd_42 : u_lay "PatternWalkModel" q_TMd 42 ∈ q_Ts := q_in 843 (by decide +kernel) (by decide +kernel)
theorem q_lMd_43 : u_lay "PatternWalkModel" q_TMd 43 ∈ q_Ts := q_in 845 (by decide +kernel) (by decide +kernel)
theorem q_lMd_44 : u_lay "PatternWalkModel" q_TMd 44 ∈ q_Ts := q_in 847 (by decide +kernel) (by decide +kernel)
theorem q_wMd : ∀ w ∈ u_ws "PatternWalkModel" q_TMd 45, w ∈ q_Ts := by
  intro w hw
  obtain ⟨k, hk, rfl⟩ := List.mem_map.mp hw
  have hk := List.mem_range.mp hk
  match k, hk with
  | 0, _ => exact q_lMd_0
  | 1, _ => exact q_lMd_1
  | 2, _ => exact q_lMd_2
  | 3, _ => exact q_lMd_3
  | 4, _ => exact q_lMd_4
  | 5, _ => exact q_lMd_5
  | 6, _ => exact q_lMd_6
  | 7, _ => exact q_lMd_7
  | 8, _ => exact q_lMd_8
  | 9, _ => exact q_lMd_9
  | 10, _ => exact q_lMd_10
  | 11, _ => exact q_lMd_11
  | 12, _ => exact q_lMd_12
  | 13, _ => exact q_lMd_13
  | 14, _ => exact q_lMd_14
  | 15, _ => exact q_lMd_15
  | 16, _ => exact q_lMd_16
  | 17, _ => exact q_lMd_17
  | 18, _ => exact q_lMd_18
  | 19, _ => exact q_lMd_19
  | 20, _ => exact q_lMd_20
  | 21, _ => exact q_lMd_21
  | 22, _ => exact q_lMd_22
  | 23, _ => exact q_lMd_23
  | 24, _ => exact q_lMd_24
  | 25, _ => exact q_lMd_25
  | 26, _ => exact q_lMd_26
  | 27, _ => exact q_lMd_27
  | 28, _ => exact q_lMd_28
  | 29, _ => exact q_lMd_29
  | 30, _ => exact q_lMd_30
  | 31, _ => exact q_lMd_31
  | 32, _ => exact q_lMd_32
  | 33, _ => exact q_lMd_33
  | 34, _ => exact q_lMd_34
  | 35, _ => exact q_lMd_35
  | 36, _ => exact q_lMd_36
  | 37, _ => exact q_lMd_37
  | 38, _ => exact q_lMd_38
  | 39, _ => exact q_lMd_39
  | 40, _ => exact q_lMd_40
  | 41, _ => exact q_lMd_41
  | 42, _ => exact q_lMd_42
  | 43, _ => exact q_lMd_43
  | 44, _ => exact q_lMd_44
  | k + 45, hk => exact absurd hk (by omega)
theorem q_tMd : ∀ k, k < 45 → parseFieldDescriptor (q_TMd k).2.2.1 = some (q_YMd k) := by decide +kernel
theorem q_nMd : ∀ a, a < 45 → ∀ b, b < 45 → a ≠ b → (q_TMd a).2.1 ≠ (q_TMd b).2.1 := by decide +kernel
