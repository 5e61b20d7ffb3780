/-! printed by wip/tools/mk_tables.py: the law's pool and its facts -/
def q_CLa : List (Nat × ((Nat × List Value) ⊕ Nat)) := [(8, .inl (0, [.null, .int 0, .int 0, .null, .null, .null, .null])), (18, .inl (8, [.int 0, .int 0, .null, .int 0, .int 0, .null, .null, .null, .null, .null, .null, .null, .null, .null, .int 0, .int 0, .null, .null, .null, .int 0, .int 0, .null, .int 0, .null, .null, .null, .int 0, .null, .null, .int 0, .int 0, .int 0, .null, .int 0, .int 0, .null, .null, .null, .null, .null, .int 0, .null, .null, .null, .null]))]
def q_MLa : List (Nat × Nat × Nat × Nat × Nat) := [(17, 3, 0, 0, 0), (21, 1, 1, 1, 0), (35, 1, 2, 0, 0), (39, 1, 3, 0, 0), (43, 1, 4, 2, 0), (48, 1, 5, 0, 0), (52, 1, 6, 1, 0), (57, 1, 7, 1, 0), (61, 1, 8, 0, 0), (66, 1, 9, 0, 0), (70, 1, 10, 1, 0), (75, 1, 11, 1, 0), (80, 1, 12, 0, 0), (7, 1, 13, 0, 0), (20, 3, 75, 0, 0), (32, 1, 76, 0, 8), (25, 1, 77, 1, 8), (31, 1, 78, 0, 8), (38, 1, 100, 0, 8), (42, 1, 101, 0, 8), (47, 1, 102, 2, 8), (51, 1, 105, 0, 8), (56, 1, 106, 1, 8), (60, 1, 107, 1, 8), (65, 1, 108, 0, 8), (69, 1, 119, 0, 8), (74, 1, 120, 1, 8), (79, 1, 121, 1, 8), (83, 1, 122, 0, 8)]
def q_PLa : qP := (fun _ => none, q_lk q_CLa, q_lk q_MLa, fun _ => none, fun _ => none)
def q_mLa : qM := (code, 7, some .boolean, false, q_PLa)
theorem q_kLa_8 : q_nok q_cl q_Ts "PatternWalkLaw" 8 (0, [.null, .int 0, .int 0, .null, .null, .null, .null]) := ⟨"PatternWalk", q_TPW, 7, q_YPW, rfl, rfl, q_wPW, q_tPW, (by
    intro j hj
    match j, hj with
    | 0, _ => rfl
    | 1, _ => rfl
    | 2, _ => rfl
    | 3, _ => rfl
    | 4, _ => rfl
    | 5, _ => rfl
    | 6, _ => rfl
    | k + 7, hk => exact absurd hk (by omega)
    ), q_in 75 (by decide +kernel) (by decide +kernel), q_in 76 (by decide +kernel) (by decide +kernel), q_in 58 (by decide +kernel) (by decide +kernel)⟩
theorem q_kLa_18 : q_nok q_cl q_Ts "PatternWalkLaw" 18 (8, [.int 0, .int 0, .null, .int 0, .int 0, .null, .null, .null, .null, .null, .null, .null, .null, .null, .int 0, .int 0, .null, .null, .null, .int 0, .int 0, .null, .int 0, .null, .null, .null, .int 0, .null, .null, .int 0, .int 0, .int 0, .null, .int 0, .int 0, .null, .null, .null, .null, .null, .int 0, .null, .null, .null, .null]) := ⟨"PatternWalkModel", q_TMd, 45, q_YMd, rfl, rfl, q_wMd, q_tMd, (by
    intro j hj
    match j, hj with
    | 0, _ => rfl
    | 1, _ => rfl
    | 2, _ => rfl
    | 3, _ => rfl
    | 4, _ => rfl
    | 5, _ => rfl
    | 6, _ => rfl
    | 7, _ => rfl
    | 8, _ => rfl
    | 9, _ => rfl
    | 10, _ => rfl
    | 11, _ => rfl
    | 12, _ => rfl
    | 13, _ => rfl
    | 14, _ => rfl
    | 15, _ => rfl
    | 16, _ => rfl
    | 17, _ => rfl
    | 18, _ => rfl
    | 19, _ => rfl
    | 20, _ => rfl
    | 21, _ => rfl
    | 22, _ => rfl
    | 23, _ => rfl
    | 24, _ => rfl
    | 25, _ => rfl
    | 26, _ => rfl
    | 27, _ => rfl
    | 28, _ => rfl
    | 29, _ => rfl
    | 30, _ => rfl
    | 31, _ => rfl
    | 32, _ => rfl
    | 33, _ => rfl
    | 34, _ => rfl
    | 35, _ => rfl
    | 36, _ => rfl
    | 37, _ => rfl
    | 38, _ => rfl
    | 39, _ => rfl
    | 40, _ => rfl
    | 41, _ => rfl
    | 42, _ => rfl
    | 43, _ => rfl
    | 44, _ => rfl
    | k + 45, hk => exact absurd hk (by omega)
    ), q_in 708 (by decide +kernel) (by decide +kernel), q_in 709 (by decide +kernel) (by decide +kernel), q_in 64 (by decide +kernel) (by decide +kernel)⟩
theorem q_gLa_17 : q_mok q_cl q_Ts q_Ns q_yn q_Mt "PatternWalkLaw" 17 (3, 0, 0, 0) := ⟨⟨q_mPW_init, ⟨rfl, q_in 79 (by decide +kernel) (by decide +kernel), q_in 58 (by decide +kernel) (by decide +kernel), (by decide +kernel), (by decide)⟩, rfl⟩, Or.inl (q_in 77 (by decide +kernel) (by decide +kernel)), q_in 78 (by decide +kernel) (by decide +kernel), rfl⟩
theorem pM_La_17 : q_PLa.2.2.1 17 = some (3, 0, 0, 0) := rfl
theorem q_gLa_21 : q_mok q_cl q_Ts q_Ns q_yn q_Mt "PatternWalkLaw" 21 (1, 1, 1, 0) := ⟨⟨q_mPW_pattern, rfl, q_in 249 (by decide +kernel) (by decide +kernel), q_in 58 (by decide +kernel) (by decide +kernel), (by decide +kernel), (by decide)⟩, Or.inl (q_in 246 (by decide +kernel) (by decide +kernel)), q_in 247 (by decide +kernel) (by decide +kernel), q_in 248 (by decide +kernel) (by decide +kernel), ⟨q_TPW, 7, rfl⟩⟩
theorem pM_La_21 : q_PLa.2.2.1 21 = some (1, 1, 1, 0) := rfl
theorem q_gLa_35 : q_mok q_cl q_Ts q_Ns q_yn q_Mt "PatternWalkLaw" 35 (1, 2, 0, 0) := ⟨⟨q_mPW_position, rfl, q_in 257 (by decide +kernel) (by decide +kernel), q_in 58 (by decide +kernel) (by decide +kernel), (by decide +kernel), (by decide)⟩, Or.inl (q_in 254 (by decide +kernel) (by decide +kernel)), q_in 255 (by decide +kernel) (by decide +kernel), q_in 256 (by decide +kernel) (by decide +kernel), ⟨q_TPW, 7, rfl⟩⟩
theorem pM_La_35 : q_PLa.2.2.1 35 = some (1, 2, 0, 0) := rfl
theorem q_gLa_39 : q_mok q_cl q_Ts q_Ns q_yn q_Mt "PatternWalkLaw" 39 (1, 3, 0, 0) := ⟨⟨q_mPW_clear, rfl, q_in 261 (by decide +kernel) (by decide +kernel), q_in 58 (by decide +kernel) (by decide +kernel), (by decide +kernel), (by decide)⟩, Or.inl (q_in 258 (by decide +kernel) (by decide +kernel)), q_in 259 (by decide +kernel) (by decide +kernel), q_in 260 (by decide +kernel) (by decide +kernel), ⟨q_TPW, 7, rfl⟩⟩
theorem pM_La_39 : q_PLa.2.2.1 39 = some (1, 3, 0, 0) := rfl
theorem q_gLa_43 : q_mok q_cl q_Ts q_Ns q_yn q_Mt "PatternWalkLaw" 43 (1, 4, 2, 0) := ⟨⟨q_mPW_instruction, rfl, q_in 273 (by decide +kernel) (by decide +kernel), q_in 58 (by decide +kernel) (by decide +kernel), (by decide +kernel), (by decide)⟩, Or.inl (q_in 270 (by decide +kernel) (by decide +kernel)), q_in 271 (by decide +kernel) (by decide +kernel), q_in 272 (by decide +kernel) (by decide +kernel), ⟨q_TPW, 7, rfl⟩⟩
theorem pM_La_43 : q_PLa.2.2.1 43 = some (1, 4, 2, 0) := rfl
theorem q_gLa_48 : q_mok q_cl q_Ts q_Ns q_yn q_Mt "PatternWalkLaw" 48 (1, 5, 0, 0) := ⟨⟨q_mPW_groups, rfl, q_in 308 (by decide +kernel) (by decide +kernel), q_in 58 (by decide +kernel) (by decide +kernel), (by decide +kernel), (by decide)⟩, Or.inl (q_in 305 (by decide +kernel) (by decide +kernel)), q_in 306 (by decide +kernel) (by decide +kernel), q_in 307 (by decide +kernel) (by decide +kernel), ⟨q_TPW, 7, rfl⟩⟩
theorem pM_La_48 : q_PLa.2.2.1 48 = some (1, 5, 0, 0) := rfl
theorem q_gLa_52 : q_mok q_cl q_Ts q_Ns q_yn q_Mt "PatternWalkLaw" 52 (1, 6, 1, 0) := ⟨⟨q_mPW_start, rfl, q_in 312 (by decide +kernel) (by decide +kernel), q_in 58 (by decide +kernel) (by decide +kernel), (by decide +kernel), (by decide)⟩, Or.inl (q_in 309 (by decide +kernel) (by decide +kernel)), q_in 310 (by decide +kernel) (by decide +kernel), q_in 311 (by decide +kernel) (by decide +kernel), ⟨q_TPW, 7, rfl⟩⟩
theorem pM_La_52 : q_PLa.2.2.1 52 = some (1, 6, 1, 0) := rfl
theorem q_gLa_57 : q_mok q_cl q_Ts q_Ns q_yn q_Mt "PatternWalkLaw" 57 (1, 7, 1, 0) := ⟨⟨q_mPW_feed, rfl, q_in 359 (by decide +kernel) (by decide +kernel), q_in 58 (by decide +kernel) (by decide +kernel), (by decide +kernel), (by decide)⟩, Or.inl (q_in 356 (by decide +kernel) (by decide +kernel)), q_in 357 (by decide +kernel) (by decide +kernel), q_in 358 (by decide +kernel) (by decide +kernel), ⟨q_TPW, 7, rfl⟩⟩
theorem pM_La_57 : q_PLa.2.2.1 57 = some (1, 7, 1, 0) := rfl
theorem q_gLa_61 : q_mok q_cl q_Ts q_Ns q_yn q_Mt "PatternWalkLaw" 61 (1, 8, 0, 0) := ⟨⟨q_mPW_matched, rfl, q_in 379 (by decide +kernel) (by decide +kernel), q_in 58 (by decide +kernel) (by decide +kernel), (by decide +kernel), (by decide)⟩, Or.inl (q_in 376 (by decide +kernel) (by decide +kernel)), q_in 377 (by decide +kernel) (by decide +kernel), q_in 378 (by decide +kernel) (by decide +kernel), ⟨q_TPW, 7, rfl⟩⟩
theorem pM_La_61 : q_PLa.2.2.1 61 = some (1, 8, 0, 0) := rfl
theorem q_gLa_66 : q_mok q_cl q_Ts q_Ns q_yn q_Mt "PatternWalkLaw" 66 (1, 9, 0, 0) := ⟨⟨q_mPW_live, rfl, q_in 383 (by decide +kernel) (by decide +kernel), q_in 58 (by decide +kernel) (by decide +kernel), (by decide +kernel), (by decide)⟩, Or.inl (q_in 380 (by decide +kernel) (by decide +kernel)), q_in 381 (by decide +kernel) (by decide +kernel), q_in 382 (by decide +kernel) (by decide +kernel), ⟨q_TPW, 7, rfl⟩⟩
theorem pM_La_66 : q_PLa.2.2.1 66 = some (1, 9, 0, 0) := rfl
theorem q_gLa_70 : q_mok q_cl q_Ts q_Ns q_yn q_Mt "PatternWalkLaw" 70 (1, 10, 1, 0) := ⟨⟨q_mPW_isLive, rfl, q_in 387 (by decide +kernel) (by decide +kernel), q_in 58 (by decide +kernel) (by decide +kernel), (by decide +kernel), (by decide)⟩, Or.inl (q_in 384 (by decide +kernel) (by decide +kernel)), q_in 385 (by decide +kernel) (by decide +kernel), q_in 386 (by decide +kernel) (by decide +kernel), ⟨q_TPW, 7, rfl⟩⟩
theorem pM_La_70 : q_PLa.2.2.1 70 = some (1, 10, 1, 0) := rfl
theorem q_gLa_75 : q_mok q_cl q_Ts q_Ns q_yn q_Mt "PatternWalkLaw" 75 (1, 11, 1, 0) := ⟨⟨q_mPW_mark, rfl, q_in 395 (by decide +kernel) (by decide +kernel), q_in 58 (by decide +kernel) (by decide +kernel), (by decide +kernel), (by decide)⟩, Or.inl (q_in 392 (by decide +kernel) (by decide +kernel)), q_in 393 (by decide +kernel) (by decide +kernel), q_in 394 (by decide +kernel) (by decide +kernel), ⟨q_TPW, 7, rfl⟩⟩
theorem pM_La_75 : q_PLa.2.2.1 75 = some (1, 11, 1, 0) := rfl
theorem q_gLa_80 : q_mok q_cl q_Ts q_Ns q_yn q_Mt "PatternWalkLaw" 80 (1, 12, 0, 0) := ⟨⟨q_mPW_fed, rfl, q_in 403 (by decide +kernel) (by decide +kernel), q_in 58 (by decide +kernel) (by decide +kernel), (by decide +kernel), (by decide)⟩, Or.inl (q_in 400 (by decide +kernel) (by decide +kernel)), q_in 401 (by decide +kernel) (by decide +kernel), q_in 402 (by decide +kernel) (by decide +kernel), ⟨q_TPW, 7, rfl⟩⟩
theorem pM_La_80 : q_PLa.2.2.1 80 = some (1, 12, 0, 0) := rfl
theorem q_gLa_7 : q_mok q_cl q_Ts q_Ns q_yn q_Mt "PatternWalkLaw" 7 (1, 13, 0, 0) := ⟨⟨q_mPW_compile, rfl, q_in 412 (by decide +kernel) (by decide +kernel), q_in 58 (by decide +kernel) (by decide +kernel), (by decide +kernel), (by decide)⟩, Or.inl (q_in 409 (by decide +kernel) (by decide +kernel)), q_in 410 (by decide +kernel) (by decide +kernel), q_in 411 (by decide +kernel) (by decide +kernel), ⟨q_TPW, 7, rfl⟩⟩
theorem pM_La_7 : q_PLa.2.2.1 7 = some (1, 13, 0, 0) := rfl
theorem q_gLa_20 : q_mok q_cl q_Ts q_Ns q_yn q_Mt "PatternWalkLaw" 20 (3, 75, 0, 0) := ⟨⟨q_mMd_init, ⟨rfl, q_in 712 (by decide +kernel) (by decide +kernel), q_in 64 (by decide +kernel) (by decide +kernel), (by decide +kernel), (by decide)⟩, rfl⟩, Or.inl (q_in 710 (by decide +kernel) (by decide +kernel)), q_in 711 (by decide +kernel) (by decide +kernel), rfl⟩
theorem pM_La_20 : q_PLa.2.2.1 20 = some (3, 75, 0, 0) := rfl
theorem q_gLa_32 : q_mok q_cl q_Ts q_Ns q_yn q_Mt "PatternWalkLaw" 32 (1, 76, 0, 8) := ⟨⟨q_mMd_thrown, rfl, q_in 854 (by decide +kernel) (by decide +kernel), q_in 64 (by decide +kernel) (by decide +kernel), (by decide +kernel), (by decide)⟩, Or.inl (q_in 851 (by decide +kernel) (by decide +kernel)), q_in 852 (by decide +kernel) (by decide +kernel), q_in 853 (by decide +kernel) (by decide +kernel), ⟨q_TMd, 45, rfl⟩⟩
theorem pM_La_32 : q_PLa.2.2.1 32 = some (1, 76, 0, 8) := rfl
theorem q_gLa_25 : q_mok q_cl q_Ts q_Ns q_yn q_Mt "PatternWalkLaw" 25 (1, 77, 1, 8) := ⟨⟨q_mMd_pattern, rfl, q_in 858 (by decide +kernel) (by decide +kernel), q_in 64 (by decide +kernel) (by decide +kernel), (by decide +kernel), (by decide)⟩, Or.inl (q_in 855 (by decide +kernel) (by decide +kernel)), q_in 856 (by decide +kernel) (by decide +kernel), q_in 857 (by decide +kernel) (by decide +kernel), ⟨q_TMd, 45, rfl⟩⟩
theorem pM_La_25 : q_PLa.2.2.1 25 = some (1, 77, 1, 8) := rfl
theorem q_gLa_31 : q_mok q_cl q_Ts q_Ns q_yn q_Mt "PatternWalkLaw" 31 (1, 78, 0, 8) := ⟨⟨q_mMd_compile, rfl, q_in 862 (by decide +kernel) (by decide +kernel), q_in 64 (by decide +kernel) (by decide +kernel), (by decide +kernel), (by decide)⟩, Or.inl (q_in 859 (by decide +kernel) (by decide +kernel)), q_in 860 (by decide +kernel) (by decide +kernel), q_in 861 (by decide +kernel) (by decide +kernel), ⟨q_TMd, 45, rfl⟩⟩
theorem pM_La_31 : q_PLa.2.2.1 31 = some (1, 78, 0, 8) := rfl
theorem q_gLa_38 : q_mok q_cl q_Ts q_Ns q_yn q_Mt "PatternWalkLaw" 38 (1, 100, 0, 8) := ⟨⟨q_mMd_position, rfl, q_in 949 (by decide +kernel) (by decide +kernel), q_in 64 (by decide +kernel) (by decide +kernel), (by decide +kernel), (by decide)⟩, Or.inl (q_in 946 (by decide +kernel) (by decide +kernel)), q_in 947 (by decide +kernel) (by decide +kernel), q_in 948 (by decide +kernel) (by decide +kernel), ⟨q_TMd, 45, rfl⟩⟩
theorem pM_La_38 : q_PLa.2.2.1 38 = some (1, 100, 0, 8) := rfl
theorem q_gLa_42 : q_mok q_cl q_Ts q_Ns q_yn q_Mt "PatternWalkLaw" 42 (1, 101, 0, 8) := ⟨⟨q_mMd_clear, rfl, q_in 953 (by decide +kernel) (by decide +kernel), q_in 64 (by decide +kernel) (by decide +kernel), (by decide +kernel), (by decide)⟩, Or.inl (q_in 950 (by decide +kernel) (by decide +kernel)), q_in 951 (by decide +kernel) (by decide +kernel), q_in 952 (by decide +kernel) (by decide +kernel), ⟨q_TMd, 45, rfl⟩⟩
theorem pM_La_42 : q_PLa.2.2.1 42 = some (1, 101, 0, 8) := rfl
theorem q_gLa_47 : q_mok q_cl q_Ts q_Ns q_yn q_Mt "PatternWalkLaw" 47 (1, 102, 2, 8) := ⟨⟨q_mMd_instruction, rfl, q_in 957 (by decide +kernel) (by decide +kernel), q_in 64 (by decide +kernel) (by decide +kernel), (by decide +kernel), (by decide)⟩, Or.inl (q_in 954 (by decide +kernel) (by decide +kernel)), q_in 955 (by decide +kernel) (by decide +kernel), q_in 956 (by decide +kernel) (by decide +kernel), ⟨q_TMd, 45, rfl⟩⟩
theorem pM_La_47 : q_PLa.2.2.1 47 = some (1, 102, 2, 8) := rfl
theorem q_gLa_51 : q_mok q_cl q_Ts q_Ns q_yn q_Mt "PatternWalkLaw" 51 (1, 105, 0, 8) := ⟨⟨q_mMd_groups, rfl, q_in 969 (by decide +kernel) (by decide +kernel), q_in 64 (by decide +kernel) (by decide +kernel), (by decide +kernel), (by decide)⟩, Or.inl (q_in 966 (by decide +kernel) (by decide +kernel)), q_in 967 (by decide +kernel) (by decide +kernel), q_in 968 (by decide +kernel) (by decide +kernel), ⟨q_TMd, 45, rfl⟩⟩
theorem pM_La_51 : q_PLa.2.2.1 51 = some (1, 105, 0, 8) := rfl
theorem q_gLa_56 : q_mok q_cl q_Ts q_Ns q_yn q_Mt "PatternWalkLaw" 56 (1, 106, 1, 8) := ⟨⟨q_mMd_start, rfl, q_in 973 (by decide +kernel) (by decide +kernel), q_in 64 (by decide +kernel) (by decide +kernel), (by decide +kernel), (by decide)⟩, Or.inl (q_in 970 (by decide +kernel) (by decide +kernel)), q_in 971 (by decide +kernel) (by decide +kernel), q_in 972 (by decide +kernel) (by decide +kernel), ⟨q_TMd, 45, rfl⟩⟩
theorem pM_La_56 : q_PLa.2.2.1 56 = some (1, 106, 1, 8) := rfl
theorem q_gLa_60 : q_mok q_cl q_Ts q_Ns q_yn q_Mt "PatternWalkLaw" 60 (1, 107, 1, 8) := ⟨⟨q_mMd_feed, rfl, q_in 977 (by decide +kernel) (by decide +kernel), q_in 64 (by decide +kernel) (by decide +kernel), (by decide +kernel), (by decide)⟩, Or.inl (q_in 974 (by decide +kernel) (by decide +kernel)), q_in 975 (by decide +kernel) (by decide +kernel), q_in 976 (by decide +kernel) (by decide +kernel), ⟨q_TMd, 45, rfl⟩⟩
theorem pM_La_60 : q_PLa.2.2.1 60 = some (1, 107, 1, 8) := rfl
theorem q_gLa_65 : q_mok q_cl q_Ts q_Ns q_yn q_Mt "PatternWalkLaw" 65 (1, 108, 0, 8) := ⟨⟨q_mMd_matched, rfl, q_in 981 (by decide +kernel) (by decide +kernel), q_in 64 (by decide +kernel) (by decide +kernel), (by decide +kernel), (by decide)⟩, Or.inl (q_in 978 (by decide +kernel) (by decide +kernel)), q_in 979 (by decide +kernel) (by decide +kernel), q_in 980 (by decide +kernel) (by decide +kernel), ⟨q_TMd, 45, rfl⟩⟩
theorem pM_La_65 : q_PLa.2.2.1 65 = some (1, 108, 0, 8) := rfl
theorem q_gLa_69 : q_mok q_cl q_Ts q_Ns q_yn q_Mt "PatternWalkLaw" 69 (1, 119, 0, 8) := ⟨⟨q_mMd_live, rfl, q_in 1025 (by decide +kernel) (by decide +kernel), q_in 64 (by decide +kernel) (by decide +kernel), (by decide +kernel), (by decide)⟩, Or.inl (q_in 1022 (by decide +kernel) (by decide +kernel)), q_in 1023 (by decide +kernel) (by decide +kernel), q_in 1024 (by decide +kernel) (by decide +kernel), ⟨q_TMd, 45, rfl⟩⟩
theorem pM_La_69 : q_PLa.2.2.1 69 = some (1, 119, 0, 8) := rfl
theorem q_gLa_74 : q_mok q_cl q_Ts q_Ns q_yn q_Mt "PatternWalkLaw" 74 (1, 120, 1, 8) := ⟨⟨q_mMd_isLive, rfl, q_in 1029 (by decide +kernel) (by decide +kernel), q_in 64 (by decide +kernel) (by decide +kernel), (by decide +kernel), (by decide)⟩, Or.inl (q_in 1026 (by decide +kernel) (by decide +kernel)), q_in 1027 (by decide +kernel) (by decide +kernel), q_in 1028 (by decide +kernel) (by decide +kernel), ⟨q_TMd, 45, rfl⟩⟩
theorem pM_La_74 : q_PLa.2.2.1 74 = some (1, 120, 1, 8) := rfl
theorem q_gLa_79 : q_mok q_cl q_Ts q_Ns q_yn q_Mt "PatternWalkLaw" 79 (1, 121, 1, 8) := ⟨⟨q_mMd_mark, rfl, q_in 1033 (by decide +kernel) (by decide +kernel), q_in 64 (by decide +kernel) (by decide +kernel), (by decide +kernel), (by decide)⟩, Or.inl (q_in 1030 (by decide +kernel) (by decide +kernel)), q_in 1031 (by decide +kernel) (by decide +kernel), q_in 1032 (by decide +kernel) (by decide +kernel), ⟨q_TMd, 45, rfl⟩⟩
theorem pM_La_79 : q_PLa.2.2.1 79 = some (1, 121, 1, 8) := rfl
theorem q_gLa_83 : q_mok q_cl q_Ts q_Ns q_yn q_Mt "PatternWalkLaw" 83 (1, 122, 0, 8) := ⟨⟨q_mMd_fed, rfl, q_in 1037 (by decide +kernel) (by decide +kernel), q_in 64 (by decide +kernel) (by decide +kernel), (by decide +kernel), (by decide)⟩, Or.inl (q_in 1034 (by decide +kernel) (by decide +kernel)), q_in 1035 (by decide +kernel) (by decide +kernel), q_in 1036 (by decide +kernel) (by decide +kernel), ⟨q_TMd, 45, rfl⟩⟩
theorem pM_La_83 : q_PLa.2.2.1 83 = some (1, 122, 0, 8) := rfl
theorem q_pokLa : q_pok q_cl q_Ts q_Ns q_yn q_Mt "PatternWalkLaw" q_PLa := by
  refine ⟨fun k f h => (by cases h), fun k n h => ?_, fun k x h => ?_, fun k v h => (by cases h), fun k v h => (by cases h)⟩
  · have := q_lk_mem h
    exact (show ∀ e ∈ q_CLa, ∀ n, e.2 = .inl n → q_nok q_cl q_Ts "PatternWalkLaw" e.1 n from (List.forall_mem_cons.mpr ⟨(fun n hn => by cases hn; exact q_kLa_8), (List.forall_mem_cons.mpr ⟨(fun n hn => by cases hn; exact q_kLa_18), (fun _ h => absurd h List.not_mem_nil)⟩)⟩)) (k, .inl n) this n rfl
  · have := q_lk_mem h
    exact (show ∀ e ∈ q_MLa, q_mok q_cl q_Ts q_Ns q_yn q_Mt "PatternWalkLaw" e.1 e.2 from (List.forall_mem_cons.mpr ⟨q_gLa_17, (List.forall_mem_cons.mpr ⟨q_gLa_21, (List.forall_mem_cons.mpr ⟨q_gLa_35, (List.forall_mem_cons.mpr ⟨q_gLa_39, (List.forall_mem_cons.mpr ⟨q_gLa_43, (List.forall_mem_cons.mpr ⟨q_gLa_48, (List.forall_mem_cons.mpr ⟨q_gLa_52, (List.forall_mem_cons.mpr ⟨q_gLa_57, (List.forall_mem_cons.mpr ⟨q_gLa_61, (List.forall_mem_cons.mpr ⟨q_gLa_66, (List.forall_mem_cons.mpr ⟨q_gLa_70, (List.forall_mem_cons.mpr ⟨q_gLa_75, (List.forall_mem_cons.mpr ⟨q_gLa_80, (List.forall_mem_cons.mpr ⟨q_gLa_7, (List.forall_mem_cons.mpr ⟨q_gLa_20, (List.forall_mem_cons.mpr ⟨q_gLa_32, (List.forall_mem_cons.mpr ⟨q_gLa_25, (List.forall_mem_cons.mpr ⟨q_gLa_31, (List.forall_mem_cons.mpr ⟨q_gLa_38, (List.forall_mem_cons.mpr ⟨q_gLa_42, (List.forall_mem_cons.mpr ⟨q_gLa_47, (List.forall_mem_cons.mpr ⟨q_gLa_51, (List.forall_mem_cons.mpr ⟨q_gLa_56, (List.forall_mem_cons.mpr ⟨q_gLa_60, (List.forall_mem_cons.mpr ⟨q_gLa_65, (List.forall_mem_cons.mpr ⟨q_gLa_69, (List.forall_mem_cons.mpr ⟨q_gLa_74, (List.forall_mem_cons.mpr ⟨q_gLa_79, (List.forall_mem_cons.mpr ⟨q_gLa_83, (fun _ h => absurd h List.not_mem_nil)⟩)⟩)⟩)⟩)⟩)⟩)⟩)⟩)⟩)⟩)⟩)⟩)⟩)⟩)⟩)⟩)⟩)⟩)⟩)⟩)⟩)⟩)⟩)⟩)⟩)⟩)⟩)⟩)⟩)) (k, x) this
