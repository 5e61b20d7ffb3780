/-! calls over the store: the answer on the stack -/
section QZ
variable {rc : qC} {M : qM} {pc : Nat} {lo : qL} {st : List Value} {lay : qT → qH} {T T1 : qT} {X : Option qO} {b ci z idx : Nat}
theorem s_cV0i {v : Int32} (hd : decode M.1 pc = .ok (.invokevirtual idx, 3)) (hp : M.2.2.2.2.2.2.1 idx = some (1, z, 0, ci)) (hs : q_sum st ≤ 8) (hO : q_obj lay b ci) (hc : rc z [.ref b] (lay T) = some (.inl (some (.int v)), lay T1)) (kk : q_out rc M (pc + 3, lo, .int v :: st, lay T1) = X) : q_out rc M (pc, lo, .ref b :: st, lay T) = X := by
  obtain ⟨fs, hb⟩ := hO T
  exact (o_callV0 hd hp hs hb hc).trans kk
theorem s_cS0i {v : Int32} (hd : decode M.1 pc = .ok (.invokestatic idx, 3)) (hp : M.2.2.2.2.2.2.1 idx = some (2, z, 0, ci)) (hs : q_sum st ≤ 8) (hc : rc z [] (lay T) = some (.inl (some (.int v)), lay T1)) (kk : q_out rc M (pc + 3, lo, .int v :: st, lay T1) = X) : q_out rc M (pc, lo, st, lay T) = X :=
  (o_callS0 hd hp hs hc).trans kk
theorem s_cV0v (hd : decode M.1 pc = .ok (.invokevirtual idx, 3)) (hp : M.2.2.2.2.2.2.1 idx = some (1, z, 0, ci)) (hs : q_sum st ≤ 8) (hO : q_obj lay b ci) (hc : rc z [.ref b] (lay T) = some (.inl (none), lay T1)) (kk : q_out rc M (pc + 3, lo, st, lay T1) = X) : q_out rc M (pc, lo, .ref b :: st, lay T) = X := by
  obtain ⟨fs, hb⟩ := hO T
  exact (o_callV0 hd hp hs hb hc).trans kk
theorem s_cI0v (hd : decode M.1 pc = .ok (.invokespecial idx, 3)) (hp : M.2.2.2.2.2.2.1 idx = some (3, z, 0, ci)) (hs : q_sum st ≤ 8) (hc : rc z [.ref b] (lay T) = some (.inl (none), lay T1)) (kk : q_out rc M (pc + 3, lo, st, lay T1) = X) : q_out rc M (pc, lo, .ref b :: st, lay T) = X :=
  (o_callI0 hd hp hs hc).trans kk
theorem s_cS0v (hd : decode M.1 pc = .ok (.invokestatic idx, 3)) (hp : M.2.2.2.2.2.2.1 idx = some (2, z, 0, ci)) (hs : q_sum st ≤ 8) (hc : rc z [] (lay T) = some (.inl (none), lay T1)) (kk : q_out rc M (pc + 3, lo, st, lay T1) = X) : q_out rc M (pc, lo, st, lay T) = X :=
  (o_callS0 hd hp hs hc).trans kk
theorem s_cV0r {v : Value} (hd : decode M.1 pc = .ok (.invokevirtual idx, 3)) (hp : M.2.2.2.2.2.2.1 idx = some (1, z, 0, ci)) (hs : q_sum st ≤ 8) (hO : q_obj lay b ci) (hc : rc z [.ref b] (lay T) = some (.inl (some v), lay T1)) (kk : q_out rc M (pc + 3, lo, v :: st, lay T1) = X) : q_out rc M (pc, lo, .ref b :: st, lay T) = X := by
  obtain ⟨fs, hb⟩ := hO T
  exact (o_callV0 hd hp hs hb hc).trans kk
theorem s_cS0r {v : Value} (hd : decode M.1 pc = .ok (.invokestatic idx, 3)) (hp : M.2.2.2.2.2.2.1 idx = some (2, z, 0, ci)) (hs : q_sum st ≤ 8) (hc : rc z [] (lay T) = some (.inl (some v), lay T1)) (kk : q_out rc M (pc + 3, lo, v :: st, lay T1) = X) : q_out rc M (pc, lo, st, lay T) = X :=
  (o_callS0 hd hp hs hc).trans kk
theorem s_cV0j {v : Int64} (hd : decode M.1 pc = .ok (.invokevirtual idx, 3)) (hp : M.2.2.2.2.2.2.1 idx = some (1, z, 0, ci)) (hs : q_sum st ≤ 8) (hO : q_obj lay b ci) (hc : rc z [.ref b] (lay T) = some (.inl (some (.long v)), lay T1)) (kk : q_out rc M (pc + 3, lo, .long v :: st, lay T1) = X) : q_out rc M (pc, lo, .ref b :: st, lay T) = X := by
  obtain ⟨fs, hb⟩ := hO T
  exact (o_callV0 hd hp hs hb hc).trans kk
theorem s_cS0j {v : Int64} (hd : decode M.1 pc = .ok (.invokestatic idx, 3)) (hp : M.2.2.2.2.2.2.1 idx = some (2, z, 0, ci)) (hs : q_sum st ≤ 8) (hc : rc z [] (lay T) = some (.inl (some (.long v)), lay T1)) (kk : q_out rc M (pc + 3, lo, .long v :: st, lay T1) = X) : q_out rc M (pc, lo, st, lay T) = X :=
  (o_callS0 hd hp hs hc).trans kk
theorem s_cV1i {a1 : Value} {v : Int32} (hd : decode M.1 pc = .ok (.invokevirtual idx, 3)) (hp : M.2.2.2.2.2.2.1 idx = some (1, z, 1, ci)) (hs : q_sum st ≤ 8) (hO : q_obj lay b ci) (hc : rc z [.ref b, a1] (lay T) = some (.inl (some (.int v)), lay T1)) (kk : q_out rc M (pc + 3, lo, .int v :: st, lay T1) = X) : q_out rc M (pc, lo, a1 :: .ref b :: st, lay T) = X := by
  obtain ⟨fs, hb⟩ := hO T
  exact (o_callV1 hd hp hs hb hc).trans kk
theorem s_cS1i {a1 : Value} {v : Int32} (hd : decode M.1 pc = .ok (.invokestatic idx, 3)) (hp : M.2.2.2.2.2.2.1 idx = some (2, z, 1, ci)) (hs : q_sum st ≤ 8) (hc : rc z [a1] (lay T) = some (.inl (some (.int v)), lay T1)) (kk : q_out rc M (pc + 3, lo, .int v :: st, lay T1) = X) : q_out rc M (pc, lo, a1 :: st, lay T) = X :=
  (o_callS1 hd hp hs hc).trans kk
theorem s_cV1v {a1 : Value} (hd : decode M.1 pc = .ok (.invokevirtual idx, 3)) (hp : M.2.2.2.2.2.2.1 idx = some (1, z, 1, ci)) (hs : q_sum st ≤ 8) (hO : q_obj lay b ci) (hc : rc z [.ref b, a1] (lay T) = some (.inl (none), lay T1)) (kk : q_out rc M (pc + 3, lo, st, lay T1) = X) : q_out rc M (pc, lo, a1 :: .ref b :: st, lay T) = X := by
  obtain ⟨fs, hb⟩ := hO T
  exact (o_callV1 hd hp hs hb hc).trans kk
theorem s_cI1v {a1 : Value} (hd : decode M.1 pc = .ok (.invokespecial idx, 3)) (hp : M.2.2.2.2.2.2.1 idx = some (3, z, 1, ci)) (hs : q_sum st ≤ 8) (hc : rc z [.ref b, a1] (lay T) = some (.inl (none), lay T1)) (kk : q_out rc M (pc + 3, lo, st, lay T1) = X) : q_out rc M (pc, lo, a1 :: .ref b :: st, lay T) = X :=
  (o_callI1 hd hp hs hc).trans kk
theorem s_cS1v {a1 : Value} (hd : decode M.1 pc = .ok (.invokestatic idx, 3)) (hp : M.2.2.2.2.2.2.1 idx = some (2, z, 1, ci)) (hs : q_sum st ≤ 8) (hc : rc z [a1] (lay T) = some (.inl (none), lay T1)) (kk : q_out rc M (pc + 3, lo, st, lay T1) = X) : q_out rc M (pc, lo, a1 :: st, lay T) = X :=
  (o_callS1 hd hp hs hc).trans kk
theorem s_cV1r {a1 : Value} {v : Value} (hd : decode M.1 pc = .ok (.invokevirtual idx, 3)) (hp : M.2.2.2.2.2.2.1 idx = some (1, z, 1, ci)) (hs : q_sum st ≤ 8) (hO : q_obj lay b ci) (hc : rc z [.ref b, a1] (lay T) = some (.inl (some v), lay T1)) (kk : q_out rc M (pc + 3, lo, v :: st, lay T1) = X) : q_out rc M (pc, lo, a1 :: .ref b :: st, lay T) = X := by
  obtain ⟨fs, hb⟩ := hO T
  exact (o_callV1 hd hp hs hb hc).trans kk
theorem s_cS1r {a1 : Value} {v : Value} (hd : decode M.1 pc = .ok (.invokestatic idx, 3)) (hp : M.2.2.2.2.2.2.1 idx = some (2, z, 1, ci)) (hs : q_sum st ≤ 8) (hc : rc z [a1] (lay T) = some (.inl (some v), lay T1)) (kk : q_out rc M (pc + 3, lo, v :: st, lay T1) = X) : q_out rc M (pc, lo, a1 :: st, lay T) = X :=
  (o_callS1 hd hp hs hc).trans kk
theorem s_cV1j {a1 : Value} {v : Int64} (hd : decode M.1 pc = .ok (.invokevirtual idx, 3)) (hp : M.2.2.2.2.2.2.1 idx = some (1, z, 1, ci)) (hs : q_sum st ≤ 8) (hO : q_obj lay b ci) (hc : rc z [.ref b, a1] (lay T) = some (.inl (some (.long v)), lay T1)) (kk : q_out rc M (pc + 3, lo, .long v :: st, lay T1) = X) : q_out rc M (pc, lo, a1 :: .ref b :: st, lay T) = X := by
  obtain ⟨fs, hb⟩ := hO T
  exact (o_callV1 hd hp hs hb hc).trans kk
theorem s_cS1j {a1 : Value} {v : Int64} (hd : decode M.1 pc = .ok (.invokestatic idx, 3)) (hp : M.2.2.2.2.2.2.1 idx = some (2, z, 1, ci)) (hs : q_sum st ≤ 8) (hc : rc z [a1] (lay T) = some (.inl (some (.long v)), lay T1)) (kk : q_out rc M (pc + 3, lo, .long v :: st, lay T1) = X) : q_out rc M (pc, lo, a1 :: st, lay T) = X :=
  (o_callS1 hd hp hs hc).trans kk
theorem s_cV2i {a1 a2 : Value} {v : Int32} (hd : decode M.1 pc = .ok (.invokevirtual idx, 3)) (hp : M.2.2.2.2.2.2.1 idx = some (1, z, 2, ci)) (hs : q_sum st ≤ 8) (hO : q_obj lay b ci) (hc : rc z [.ref b, a1, a2] (lay T) = some (.inl (some (.int v)), lay T1)) (kk : q_out rc M (pc + 3, lo, .int v :: st, lay T1) = X) : q_out rc M (pc, lo, a2 :: a1 :: .ref b :: st, lay T) = X := by
  obtain ⟨fs, hb⟩ := hO T
  exact (o_callV2 hd hp hs hb hc).trans kk
theorem s_cS2i {a1 a2 : Value} {v : Int32} (hd : decode M.1 pc = .ok (.invokestatic idx, 3)) (hp : M.2.2.2.2.2.2.1 idx = some (2, z, 2, ci)) (hs : q_sum st ≤ 8) (hc : rc z [a1, a2] (lay T) = some (.inl (some (.int v)), lay T1)) (kk : q_out rc M (pc + 3, lo, .int v :: st, lay T1) = X) : q_out rc M (pc, lo, a2 :: a1 :: st, lay T) = X :=
  (o_callS2 hd hp hs hc).trans kk
theorem s_cV2v {a1 a2 : Value} (hd : decode M.1 pc = .ok (.invokevirtual idx, 3)) (hp : M.2.2.2.2.2.2.1 idx = some (1, z, 2, ci)) (hs : q_sum st ≤ 8) (hO : q_obj lay b ci) (hc : rc z [.ref b, a1, a2] (lay T) = some (.inl (none), lay T1)) (kk : q_out rc M (pc + 3, lo, st, lay T1) = X) : q_out rc M (pc, lo, a2 :: a1 :: .ref b :: st, lay T) = X := by
  obtain ⟨fs, hb⟩ := hO T
  exact (o_callV2 hd hp hs hb hc).trans kk
theorem s_cI2v {a1 a2 : Value} (hd : decode M.1 pc = .ok (.invokespecial idx, 3)) (hp : M.2.2.2.2.2.2.1 idx = some (3, z, 2, ci)) (hs : q_sum st ≤ 8) (hc : rc z [.ref b, a1, a2] (lay T) = some (.inl (none), lay T1)) (kk : q_out rc M (pc + 3, lo, st, lay T1) = X) : q_out rc M (pc, lo, a2 :: a1 :: .ref b :: st, lay T) = X :=
  (o_callI2 hd hp hs hc).trans kk
theorem s_cS2v {a1 a2 : Value} (hd : decode M.1 pc = .ok (.invokestatic idx, 3)) (hp : M.2.2.2.2.2.2.1 idx = some (2, z, 2, ci)) (hs : q_sum st ≤ 8) (hc : rc z [a1, a2] (lay T) = some (.inl (none), lay T1)) (kk : q_out rc M (pc + 3, lo, st, lay T1) = X) : q_out rc M (pc, lo, a2 :: a1 :: st, lay T) = X :=
  (o_callS2 hd hp hs hc).trans kk
theorem s_cV2r {a1 a2 : Value} {v : Value} (hd : decode M.1 pc = .ok (.invokevirtual idx, 3)) (hp : M.2.2.2.2.2.2.1 idx = some (1, z, 2, ci)) (hs : q_sum st ≤ 8) (hO : q_obj lay b ci) (hc : rc z [.ref b, a1, a2] (lay T) = some (.inl (some v), lay T1)) (kk : q_out rc M (pc + 3, lo, v :: st, lay T1) = X) : q_out rc M (pc, lo, a2 :: a1 :: .ref b :: st, lay T) = X := by
  obtain ⟨fs, hb⟩ := hO T
  exact (o_callV2 hd hp hs hb hc).trans kk
theorem s_cS2r {a1 a2 : Value} {v : Value} (hd : decode M.1 pc = .ok (.invokestatic idx, 3)) (hp : M.2.2.2.2.2.2.1 idx = some (2, z, 2, ci)) (hs : q_sum st ≤ 8) (hc : rc z [a1, a2] (lay T) = some (.inl (some v), lay T1)) (kk : q_out rc M (pc + 3, lo, v :: st, lay T1) = X) : q_out rc M (pc, lo, a2 :: a1 :: st, lay T) = X :=
  (o_callS2 hd hp hs hc).trans kk
theorem s_cV2j {a1 a2 : Value} {v : Int64} (hd : decode M.1 pc = .ok (.invokevirtual idx, 3)) (hp : M.2.2.2.2.2.2.1 idx = some (1, z, 2, ci)) (hs : q_sum st ≤ 8) (hO : q_obj lay b ci) (hc : rc z [.ref b, a1, a2] (lay T) = some (.inl (some (.long v)), lay T1)) (kk : q_out rc M (pc + 3, lo, .long v :: st, lay T1) = X) : q_out rc M (pc, lo, a2 :: a1 :: .ref b :: st, lay T) = X := by
  obtain ⟨fs, hb⟩ := hO T
  exact (o_callV2 hd hp hs hb hc).trans kk
theorem s_cS2j {a1 a2 : Value} {v : Int64} (hd : decode M.1 pc = .ok (.invokestatic idx, 3)) (hp : M.2.2.2.2.2.2.1 idx = some (2, z, 2, ci)) (hs : q_sum st ≤ 8) (hc : rc z [a1, a2] (lay T) = some (.inl (some (.long v)), lay T1)) (kk : q_out rc M (pc + 3, lo, .long v :: st, lay T1) = X) : q_out rc M (pc, lo, a2 :: a1 :: st, lay T) = X :=
  (o_callS2 hd hp hs hc).trans kk
theorem s_cV3i {a1 a2 a3 : Value} {v : Int32} (hd : decode M.1 pc = .ok (.invokevirtual idx, 3)) (hp : M.2.2.2.2.2.2.1 idx = some (1, z, 3, ci)) (hs : q_sum st ≤ 8) (hO : q_obj lay b ci) (hc : rc z [.ref b, a1, a2, a3] (lay T) = some (.inl (some (.int v)), lay T1)) (kk : q_out rc M (pc + 3, lo, .int v :: st, lay T1) = X) : q_out rc M (pc, lo, a3 :: a2 :: a1 :: .ref b :: st, lay T) = X := by
  obtain ⟨fs, hb⟩ := hO T
  exact (o_callV3 hd hp hs hb hc).trans kk
theorem s_cS3i {a1 a2 a3 : Value} {v : Int32} (hd : decode M.1 pc = .ok (.invokestatic idx, 3)) (hp : M.2.2.2.2.2.2.1 idx = some (2, z, 3, ci)) (hs : q_sum st ≤ 8) (hc : rc z [a1, a2, a3] (lay T) = some (.inl (some (.int v)), lay T1)) (kk : q_out rc M (pc + 3, lo, .int v :: st, lay T1) = X) : q_out rc M (pc, lo, a3 :: a2 :: a1 :: st, lay T) = X :=
  (o_callS3 hd hp hs hc).trans kk
theorem s_cV3v {a1 a2 a3 : Value} (hd : decode M.1 pc = .ok (.invokevirtual idx, 3)) (hp : M.2.2.2.2.2.2.1 idx = some (1, z, 3, ci)) (hs : q_sum st ≤ 8) (hO : q_obj lay b ci) (hc : rc z [.ref b, a1, a2, a3] (lay T) = some (.inl (none), lay T1)) (kk : q_out rc M (pc + 3, lo, st, lay T1) = X) : q_out rc M (pc, lo, a3 :: a2 :: a1 :: .ref b :: st, lay T) = X := by
  obtain ⟨fs, hb⟩ := hO T
  exact (o_callV3 hd hp hs hb hc).trans kk
theorem s_cI3v {a1 a2 a3 : Value} (hd : decode M.1 pc = .ok (.invokespecial idx, 3)) (hp : M.2.2.2.2.2.2.1 idx = some (3, z, 3, ci)) (hs : q_sum st ≤ 8) (hc : rc z [.ref b, a1, a2, a3] (lay T) = some (.inl (none), lay T1)) (kk : q_out rc M (pc + 3, lo, st, lay T1) = X) : q_out rc M (pc, lo, a3 :: a2 :: a1 :: .ref b :: st, lay T) = X :=
  (o_callI3 hd hp hs hc).trans kk
theorem s_cS3v {a1 a2 a3 : Value} (hd : decode M.1 pc = .ok (.invokestatic idx, 3)) (hp : M.2.2.2.2.2.2.1 idx = some (2, z, 3, ci)) (hs : q_sum st ≤ 8) (hc : rc z [a1, a2, a3] (lay T) = some (.inl (none), lay T1)) (kk : q_out rc M (pc + 3, lo, st, lay T1) = X) : q_out rc M (pc, lo, a3 :: a2 :: a1 :: st, lay T) = X :=
  (o_callS3 hd hp hs hc).trans kk
theorem s_cV3r {a1 a2 a3 : Value} {v : Value} (hd : decode M.1 pc = .ok (.invokevirtual idx, 3)) (hp : M.2.2.2.2.2.2.1 idx = some (1, z, 3, ci)) (hs : q_sum st ≤ 8) (hO : q_obj lay b ci) (hc : rc z [.ref b, a1, a2, a3] (lay T) = some (.inl (some v), lay T1)) (kk : q_out rc M (pc + 3, lo, v :: st, lay T1) = X) : q_out rc M (pc, lo, a3 :: a2 :: a1 :: .ref b :: st, lay T) = X := by
  obtain ⟨fs, hb⟩ := hO T
  exact (o_callV3 hd hp hs hb hc).trans kk
theorem s_cS3r {a1 a2 a3 : Value} {v : Value} (hd : decode M.1 pc = .ok (.invokestatic idx, 3)) (hp : M.2.2.2.2.2.2.1 idx = some (2, z, 3, ci)) (hs : q_sum st ≤ 8) (hc : rc z [a1, a2, a3] (lay T) = some (.inl (some v), lay T1)) (kk : q_out rc M (pc + 3, lo, v :: st, lay T1) = X) : q_out rc M (pc, lo, a3 :: a2 :: a1 :: st, lay T) = X :=
  (o_callS3 hd hp hs hc).trans kk
theorem s_cV3j {a1 a2 a3 : Value} {v : Int64} (hd : decode M.1 pc = .ok (.invokevirtual idx, 3)) (hp : M.2.2.2.2.2.2.1 idx = some (1, z, 3, ci)) (hs : q_sum st ≤ 8) (hO : q_obj lay b ci) (hc : rc z [.ref b, a1, a2, a3] (lay T) = some (.inl (some (.long v)), lay T1)) (kk : q_out rc M (pc + 3, lo, .long v :: st, lay T1) = X) : q_out rc M (pc, lo, a3 :: a2 :: a1 :: .ref b :: st, lay T) = X := by
  obtain ⟨fs, hb⟩ := hO T
  exact (o_callV3 hd hp hs hb hc).trans kk
theorem s_cS3j {a1 a2 a3 : Value} {v : Int64} (hd : decode M.1 pc = .ok (.invokestatic idx, 3)) (hp : M.2.2.2.2.2.2.1 idx = some (2, z, 3, ci)) (hs : q_sum st ≤ 8) (hc : rc z [a1, a2, a3] (lay T) = some (.inl (some (.long v)), lay T1)) (kk : q_out rc M (pc + 3, lo, .long v :: st, lay T1) = X) : q_out rc M (pc, lo, a3 :: a2 :: a1 :: st, lay T) = X :=
  (o_callS3 hd hp hs hc).trans kk
theorem s_cV4i {a1 a2 a3 a4 : Value} {v : Int32} (hd : decode M.1 pc = .ok (.invokevirtual idx, 3)) (hp : M.2.2.2.2.2.2.1 idx = some (1, z, 4, ci)) (hs : q_sum st ≤ 8) (hO : q_obj lay b ci) (hc : rc z [.ref b, a1, a2, a3, a4] (lay T) = some (.inl (some (.int v)), lay T1)) (kk : q_out rc M (pc + 3, lo, .int v :: st, lay T1) = X) : q_out rc M (pc, lo, a4 :: a3 :: a2 :: a1 :: .ref b :: st, lay T) = X := by
  obtain ⟨fs, hb⟩ := hO T
  exact (o_callV4 hd hp hs hb hc).trans kk
theorem s_cS4i {a1 a2 a3 a4 : Value} {v : Int32} (hd : decode M.1 pc = .ok (.invokestatic idx, 3)) (hp : M.2.2.2.2.2.2.1 idx = some (2, z, 4, ci)) (hs : q_sum st ≤ 8) (hc : rc z [a1, a2, a3, a4] (lay T) = some (.inl (some (.int v)), lay T1)) (kk : q_out rc M (pc + 3, lo, .int v :: st, lay T1) = X) : q_out rc M (pc, lo, a4 :: a3 :: a2 :: a1 :: st, lay T) = X :=
  (o_callS4 hd hp hs hc).trans kk
theorem s_cV4v {a1 a2 a3 a4 : Value} (hd : decode M.1 pc = .ok (.invokevirtual idx, 3)) (hp : M.2.2.2.2.2.2.1 idx = some (1, z, 4, ci)) (hs : q_sum st ≤ 8) (hO : q_obj lay b ci) (hc : rc z [.ref b, a1, a2, a3, a4] (lay T) = some (.inl (none), lay T1)) (kk : q_out rc M (pc + 3, lo, st, lay T1) = X) : q_out rc M (pc, lo, a4 :: a3 :: a2 :: a1 :: .ref b :: st, lay T) = X := by
  obtain ⟨fs, hb⟩ := hO T
  exact (o_callV4 hd hp hs hb hc).trans kk
theorem s_cI4v {a1 a2 a3 a4 : Value} (hd : decode M.1 pc = .ok (.invokespecial idx, 3)) (hp : M.2.2.2.2.2.2.1 idx = some (3, z, 4, ci)) (hs : q_sum st ≤ 8) (hc : rc z [.ref b, a1, a2, a3, a4] (lay T) = some (.inl (none), lay T1)) (kk : q_out rc M (pc + 3, lo, st, lay T1) = X) : q_out rc M (pc, lo, a4 :: a3 :: a2 :: a1 :: .ref b :: st, lay T) = X :=
  (o_callI4 hd hp hs hc).trans kk
theorem s_cS4v {a1 a2 a3 a4 : Value} (hd : decode M.1 pc = .ok (.invokestatic idx, 3)) (hp : M.2.2.2.2.2.2.1 idx = some (2, z, 4, ci)) (hs : q_sum st ≤ 8) (hc : rc z [a1, a2, a3, a4] (lay T) = some (.inl (none), lay T1)) (kk : q_out rc M (pc + 3, lo, st, lay T1) = X) : q_out rc M (pc, lo, a4 :: a3 :: a2 :: a1 :: st, lay T) = X :=
  (o_callS4 hd hp hs hc).trans kk
theorem s_cV4r {a1 a2 a3 a4 : Value} {v : Value} (hd : decode M.1 pc = .ok (.invokevirtual idx, 3)) (hp : M.2.2.2.2.2.2.1 idx = some (1, z, 4, ci)) (hs : q_sum st ≤ 8) (hO : q_obj lay b ci) (hc : rc z [.ref b, a1, a2, a3, a4] (lay T) = some (.inl (some v), lay T1)) (kk : q_out rc M (pc + 3, lo, v :: st, lay T1) = X) : q_out rc M (pc, lo, a4 :: a3 :: a2 :: a1 :: .ref b :: st, lay T) = X := by
  obtain ⟨fs, hb⟩ := hO T
  exact (o_callV4 hd hp hs hb hc).trans kk
theorem s_cS4r {a1 a2 a3 a4 : Value} {v : Value} (hd : decode M.1 pc = .ok (.invokestatic idx, 3)) (hp : M.2.2.2.2.2.2.1 idx = some (2, z, 4, ci)) (hs : q_sum st ≤ 8) (hc : rc z [a1, a2, a3, a4] (lay T) = some (.inl (some v), lay T1)) (kk : q_out rc M (pc + 3, lo, v :: st, lay T1) = X) : q_out rc M (pc, lo, a4 :: a3 :: a2 :: a1 :: st, lay T) = X :=
  (o_callS4 hd hp hs hc).trans kk
theorem s_cV4j {a1 a2 a3 a4 : Value} {v : Int64} (hd : decode M.1 pc = .ok (.invokevirtual idx, 3)) (hp : M.2.2.2.2.2.2.1 idx = some (1, z, 4, ci)) (hs : q_sum st ≤ 8) (hO : q_obj lay b ci) (hc : rc z [.ref b, a1, a2, a3, a4] (lay T) = some (.inl (some (.long v)), lay T1)) (kk : q_out rc M (pc + 3, lo, .long v :: st, lay T1) = X) : q_out rc M (pc, lo, a4 :: a3 :: a2 :: a1 :: .ref b :: st, lay T) = X := by
  obtain ⟨fs, hb⟩ := hO T
  exact (o_callV4 hd hp hs hb hc).trans kk
theorem s_cS4j {a1 a2 a3 a4 : Value} {v : Int64} (hd : decode M.1 pc = .ok (.invokestatic idx, 3)) (hp : M.2.2.2.2.2.2.1 idx = some (2, z, 4, ci)) (hs : q_sum st ≤ 8) (hc : rc z [a1, a2, a3, a4] (lay T) = some (.inl (some (.long v)), lay T1)) (kk : q_out rc M (pc + 3, lo, .long v :: st, lay T1) = X) : q_out rc M (pc, lo, a4 :: a3 :: a2 :: a1 :: st, lay T) = X :=
  (o_callS4 hd hp hs hc).trans kk
theorem s_cV5i {a1 a2 a3 a4 a5 : Value} {v : Int32} (hd : decode M.1 pc = .ok (.invokevirtual idx, 3)) (hp : M.2.2.2.2.2.2.1 idx = some (1, z, 5, ci)) (hs : q_sum st ≤ 8) (hO : q_obj lay b ci) (hc : rc z [.ref b, a1, a2, a3, a4, a5] (lay T) = some (.inl (some (.int v)), lay T1)) (kk : q_out rc M (pc + 3, lo, .int v :: st, lay T1) = X) : q_out rc M (pc, lo, a5 :: a4 :: a3 :: a2 :: a1 :: .ref b :: st, lay T) = X := by
  obtain ⟨fs, hb⟩ := hO T
  exact (o_callV5 hd hp hs hb hc).trans kk
theorem s_cS5i {a1 a2 a3 a4 a5 : Value} {v : Int32} (hd : decode M.1 pc = .ok (.invokestatic idx, 3)) (hp : M.2.2.2.2.2.2.1 idx = some (2, z, 5, ci)) (hs : q_sum st ≤ 8) (hc : rc z [a1, a2, a3, a4, a5] (lay T) = some (.inl (some (.int v)), lay T1)) (kk : q_out rc M (pc + 3, lo, .int v :: st, lay T1) = X) : q_out rc M (pc, lo, a5 :: a4 :: a3 :: a2 :: a1 :: st, lay T) = X :=
  (o_callS5 hd hp hs hc).trans kk
theorem s_cV5v {a1 a2 a3 a4 a5 : Value} (hd : decode M.1 pc = .ok (.invokevirtual idx, 3)) (hp : M.2.2.2.2.2.2.1 idx = some (1, z, 5, ci)) (hs : q_sum st ≤ 8) (hO : q_obj lay b ci) (hc : rc z [.ref b, a1, a2, a3, a4, a5] (lay T) = some (.inl (none), lay T1)) (kk : q_out rc M (pc + 3, lo, st, lay T1) = X) : q_out rc M (pc, lo, a5 :: a4 :: a3 :: a2 :: a1 :: .ref b :: st, lay T) = X := by
  obtain ⟨fs, hb⟩ := hO T
  exact (o_callV5 hd hp hs hb hc).trans kk
theorem s_cI5v {a1 a2 a3 a4 a5 : Value} (hd : decode M.1 pc = .ok (.invokespecial idx, 3)) (hp : M.2.2.2.2.2.2.1 idx = some (3, z, 5, ci)) (hs : q_sum st ≤ 8) (hc : rc z [.ref b, a1, a2, a3, a4, a5] (lay T) = some (.inl (none), lay T1)) (kk : q_out rc M (pc + 3, lo, st, lay T1) = X) : q_out rc M (pc, lo, a5 :: a4 :: a3 :: a2 :: a1 :: .ref b :: st, lay T) = X :=
  (o_callI5 hd hp hs hc).trans kk
theorem s_cS5v {a1 a2 a3 a4 a5 : Value} (hd : decode M.1 pc = .ok (.invokestatic idx, 3)) (hp : M.2.2.2.2.2.2.1 idx = some (2, z, 5, ci)) (hs : q_sum st ≤ 8) (hc : rc z [a1, a2, a3, a4, a5] (lay T) = some (.inl (none), lay T1)) (kk : q_out rc M (pc + 3, lo, st, lay T1) = X) : q_out rc M (pc, lo, a5 :: a4 :: a3 :: a2 :: a1 :: st, lay T) = X :=
  (o_callS5 hd hp hs hc).trans kk
theorem s_cV5r {a1 a2 a3 a4 a5 : Value} {v : Value} (hd : decode M.1 pc = .ok (.invokevirtual idx, 3)) (hp : M.2.2.2.2.2.2.1 idx = some (1, z, 5, ci)) (hs : q_sum st ≤ 8) (hO : q_obj lay b ci) (hc : rc z [.ref b, a1, a2, a3, a4, a5] (lay T) = some (.inl (some v), lay T1)) (kk : q_out rc M (pc + 3, lo, v :: st, lay T1) = X) : q_out rc M (pc, lo, a5 :: a4 :: a3 :: a2 :: a1 :: .ref b :: st, lay T) = X := by
  obtain ⟨fs, hb⟩ := hO T
  exact (o_callV5 hd hp hs hb hc).trans kk
theorem s_cS5r {a1 a2 a3 a4 a5 : Value} {v : Value} (hd : decode M.1 pc = .ok (.invokestatic idx, 3)) (hp : M.2.2.2.2.2.2.1 idx = some (2, z, 5, ci)) (hs : q_sum st ≤ 8) (hc : rc z [a1, a2, a3, a4, a5] (lay T) = some (.inl (some v), lay T1)) (kk : q_out rc M (pc + 3, lo, v :: st, lay T1) = X) : q_out rc M (pc, lo, a5 :: a4 :: a3 :: a2 :: a1 :: st, lay T) = X :=
  (o_callS5 hd hp hs hc).trans kk
theorem s_cV5j {a1 a2 a3 a4 a5 : Value} {v : Int64} (hd : decode M.1 pc = .ok (.invokevirtual idx, 3)) (hp : M.2.2.2.2.2.2.1 idx = some (1, z, 5, ci)) (hs : q_sum st ≤ 8) (hO : q_obj lay b ci) (hc : rc z [.ref b, a1, a2, a3, a4, a5] (lay T) = some (.inl (some (.long v)), lay T1)) (kk : q_out rc M (pc + 3, lo, .long v :: st, lay T1) = X) : q_out rc M (pc, lo, a5 :: a4 :: a3 :: a2 :: a1 :: .ref b :: st, lay T) = X := by
  obtain ⟨fs, hb⟩ := hO T
  exact (o_callV5 hd hp hs hb hc).trans kk
theorem s_cS5j {a1 a2 a3 a4 a5 : Value} {v : Int64} (hd : decode M.1 pc = .ok (.invokestatic idx, 3)) (hp : M.2.2.2.2.2.2.1 idx = some (2, z, 5, ci)) (hs : q_sum st ≤ 8) (hc : rc z [a1, a2, a3, a4, a5] (lay T) = some (.inl (some (.long v)), lay T1)) (kk : q_out rc M (pc + 3, lo, .long v :: st, lay T1) = X) : q_out rc M (pc, lo, a5 :: a4 :: a3 :: a2 :: a1 :: st, lay T) = X :=
  (o_callS5 hd hp hs hc).trans kk
theorem s_cV6i {a1 a2 a3 a4 a5 a6 : Value} {v : Int32} (hd : decode M.1 pc = .ok (.invokevirtual idx, 3)) (hp : M.2.2.2.2.2.2.1 idx = some (1, z, 6, ci)) (hs : q_sum st ≤ 8) (hO : q_obj lay b ci) (hc : rc z [.ref b, a1, a2, a3, a4, a5, a6] (lay T) = some (.inl (some (.int v)), lay T1)) (kk : q_out rc M (pc + 3, lo, .int v :: st, lay T1) = X) : q_out rc M (pc, lo, a6 :: a5 :: a4 :: a3 :: a2 :: a1 :: .ref b :: st, lay T) = X := by
  obtain ⟨fs, hb⟩ := hO T
  exact (o_callV6 hd hp hs hb hc).trans kk
theorem s_cS6i {a1 a2 a3 a4 a5 a6 : Value} {v : Int32} (hd : decode M.1 pc = .ok (.invokestatic idx, 3)) (hp : M.2.2.2.2.2.2.1 idx = some (2, z, 6, ci)) (hs : q_sum st ≤ 8) (hc : rc z [a1, a2, a3, a4, a5, a6] (lay T) = some (.inl (some (.int v)), lay T1)) (kk : q_out rc M (pc + 3, lo, .int v :: st, lay T1) = X) : q_out rc M (pc, lo, a6 :: a5 :: a4 :: a3 :: a2 :: a1 :: st, lay T) = X :=
  (o_callS6 hd hp hs hc).trans kk
theorem s_cV6v {a1 a2 a3 a4 a5 a6 : Value} (hd : decode M.1 pc = .ok (.invokevirtual idx, 3)) (hp : M.2.2.2.2.2.2.1 idx = some (1, z, 6, ci)) (hs : q_sum st ≤ 8) (hO : q_obj lay b ci) (hc : rc z [.ref b, a1, a2, a3, a4, a5, a6] (lay T) = some (.inl (none), lay T1)) (kk : q_out rc M (pc + 3, lo, st, lay T1) = X) : q_out rc M (pc, lo, a6 :: a5 :: a4 :: a3 :: a2 :: a1 :: .ref b :: st, lay T) = X := by
  obtain ⟨fs, hb⟩ := hO T
  exact (o_callV6 hd hp hs hb hc).trans kk
theorem s_cI6v {a1 a2 a3 a4 a5 a6 : Value} (hd : decode M.1 pc = .ok (.invokespecial idx, 3)) (hp : M.2.2.2.2.2.2.1 idx = some (3, z, 6, ci)) (hs : q_sum st ≤ 8) (hc : rc z [.ref b, a1, a2, a3, a4, a5, a6] (lay T) = some (.inl (none), lay T1)) (kk : q_out rc M (pc + 3, lo, st, lay T1) = X) : q_out rc M (pc, lo, a6 :: a5 :: a4 :: a3 :: a2 :: a1 :: .ref b :: st, lay T) = X :=
  (o_callI6 hd hp hs hc).trans kk
theorem s_cS6v {a1 a2 a3 a4 a5 a6 : Value} (hd : decode M.1 pc = .ok (.invokestatic idx, 3)) (hp : M.2.2.2.2.2.2.1 idx = some (2, z, 6, ci)) (hs : q_sum st ≤ 8) (hc : rc z [a1, a2, a3, a4, a5, a6] (lay T) = some (.inl (none), lay T1)) (kk : q_out rc M (pc + 3, lo, st, lay T1) = X) : q_out rc M (pc, lo, a6 :: a5 :: a4 :: a3 :: a2 :: a1 :: st, lay T) = X :=
  (o_callS6 hd hp hs hc).trans kk
theorem s_cV6r {a1 a2 a3 a4 a5 a6 : Value} {v : Value} (hd : decode M.1 pc = .ok (.invokevirtual idx, 3)) (hp : M.2.2.2.2.2.2.1 idx = some (1, z, 6, ci)) (hs : q_sum st ≤ 8) (hO : q_obj lay b ci) (hc : rc z [.ref b, a1, a2, a3, a4, a5, a6] (lay T) = some (.inl (some v), lay T1)) (kk : q_out rc M (pc + 3, lo, v :: st, lay T1) = X) : q_out rc M (pc, lo, a6 :: a5 :: a4 :: a3 :: a2 :: a1 :: .ref b :: st, lay T) = X := by
  obtain ⟨fs, hb⟩ := hO T
  exact (o_callV6 hd hp hs hb hc).trans kk
theorem s_cS6r {a1 a2 a3 a4 a5 a6 : Value} {v : Value} (hd : decode M.1 pc = .ok (.invokestatic idx, 3)) (hp : M.2.2.2.2.2.2.1 idx = some (2, z, 6, ci)) (hs : q_sum st ≤ 8) (hc : rc z [a1, a2, a3, a4, a5, a6] (lay T) = some (.inl (some v), lay T1)) (kk : q_out rc M (pc + 3, lo, v :: st, lay T1) = X) : q_out rc M (pc, lo, a6 :: a5 :: a4 :: a3 :: a2 :: a1 :: st, lay T) = X :=
  (o_callS6 hd hp hs hc).trans kk
theorem s_cV6j {a1 a2 a3 a4 a5 a6 : Value} {v : Int64} (hd : decode M.1 pc = .ok (.invokevirtual idx, 3)) (hp : M.2.2.2.2.2.2.1 idx = some (1, z, 6, ci)) (hs : q_sum st ≤ 8) (hO : q_obj lay b ci) (hc : rc z [.ref b, a1, a2, a3, a4, a5, a6] (lay T) = some (.inl (some (.long v)), lay T1)) (kk : q_out rc M (pc + 3, lo, .long v :: st, lay T1) = X) : q_out rc M (pc, lo, a6 :: a5 :: a4 :: a3 :: a2 :: a1 :: .ref b :: st, lay T) = X := by
  obtain ⟨fs, hb⟩ := hO T
  exact (o_callV6 hd hp hs hb hc).trans kk
theorem s_cS6j {a1 a2 a3 a4 a5 a6 : Value} {v : Int64} (hd : decode M.1 pc = .ok (.invokestatic idx, 3)) (hp : M.2.2.2.2.2.2.1 idx = some (2, z, 6, ci)) (hs : q_sum st ≤ 8) (hc : rc z [a1, a2, a3, a4, a5, a6] (lay T) = some (.inl (some (.long v)), lay T1)) (kk : q_out rc M (pc + 3, lo, .long v :: st, lay T1) = X) : q_out rc M (pc, lo, a6 :: a5 :: a4 :: a3 :: a2 :: a1 :: st, lay T) = X :=
  (o_callS6 hd hp hs hc).trans kk
end QZ
theorem pF_PW_83 : q_PPW.1 83 = some (2, 4, .int, 0) := rfl
theorem pF_PW_67 : q_PPW.1 67 = some (2, 5, .int, 0) := rfl
theorem pF_PW_90 : q_PPW.1 90 = some (3, 3, .int, 0) := rfl
theorem pF_PW_116 : q_PPW.1 116 = some (3, 4, .int, 0) := rfl
theorem pF_PW_141 : q_PPW.1 141 = some (7, 2, .int, 0) := rfl
theorem pF_PW_137 : q_PPW.1 137 = some (6, 2, .object "PatternWalk$Ways", 0) := rfl
theorem pF_PW_123 : q_PPW.1 123 = some (6, 10, .boolean, 0) := rfl
theorem pF_PW_134 : q_PPW.1 134 = some (6, 12, .boolean, 0) := rfl
theorem pF_PW_127 : q_PPW.1 127 = some (6, 14, .int, 0) := rfl
theorem pF_PW_9 : q_PPW.1 9 = some (0, 0, .array .char, 1) := rfl
theorem pF_PW_13 : q_PPW.1 13 = some (0, 1, .int, 0) := rfl
theorem pF_PW_17 : q_PPW.1 17 = some (0, 2, .int, 0) := rfl
theorem pF_PW_23 : q_PPW.1 23 = some (0, 3, .object "PatternWalk$CharSets", 1) := rfl
theorem pF_PW_32 : q_PPW.1 32 = some (0, 4, .object "PatternWalk$Parser", 1) := rfl
theorem pF_PW_39 : q_PPW.1 39 = some (0, 5, .object "PatternWalk$Program", 1) := rfl
theorem pF_PW_48 : q_PPW.1 48 = some (0, 6, .object "PatternWalk$Walk", 1) := rfl
theorem pM_PW_3 : q_PPW.2.2.1 3 = some (0, 0, 0, 0) := rfl
theorem pM_PW_22 : q_PPW.2.2.1 22 = some (3, 14, 0, 0) := rfl
theorem pM_PW_29 : q_PPW.2.2.1 29 = some (3, 22, 2, 0) := rfl
theorem pM_PW_38 : q_PPW.2.2.1 38 = some (3, 40, 0, 0) := rfl
theorem pM_PW_45 : q_PPW.2.2.1 45 = some (3, 58, 2, 0) := rfl
theorem pM_PW_52 : q_PPW.2.2.1 52 = some (1, 41, 0, 3) := rfl
theorem pM_PW_93 : q_PPW.2.2.1 93 = some (1, 42, 0, 3) := rfl
theorem pM_PW_96 : q_PPW.2.2.1 96 = some (1, 59, 0, 6) := rfl
theorem pM_PW_99 : q_PPW.2.2.1 99 = some (1, 43, 1, 3) := rfl
theorem pM_PW_103 : q_PPW.2.2.1 103 = some (1, 44, 1, 3) := rfl
theorem pM_PW_107 : q_PPW.2.2.1 107 = some (1, 45, 1, 3) := rfl
theorem pM_PW_110 : q_PPW.2.2.1 110 = some (1, 15, 1, 1) := rfl
theorem pM_PW_113 : q_PPW.2.2.1 113 = some (1, 46, 1, 3) := rfl
theorem pM_PW_119 : q_PPW.2.2.1 119 = some (1, 60, 1, 6) := rfl
theorem pM_PW_130 : q_PPW.2.2.1 130 = some (1, 68, 1, 6) := rfl
theorem pM_PW_145 : q_PPW.2.2.1 145 = some (1, 69, 1, 6) := rfl
theorem pM_PW_148 : q_PPW.2.2.1 148 = some (1, 70, 1, 6) := rfl
theorem pM_PW_63 : q_PPW.2.2.1 63 = some (1, 23, 1, 2) := rfl
theorem pM_PW_75 : q_PPW.2.2.1 75 = some (1, 56, 0, 5) := rfl
theorem pM_PW_86 : q_PPW.2.2.1 86 = some (1, 47, 2, 3) := rfl
theorem pF_Cs_11 : q_PCs.1 11 = some (1, 0, .array .long, 1) := rfl
theorem pF_Cs_15 : q_PCs.1 15 = some (1, 1, .int, 0) := rfl
theorem pM_Cs_3 : q_PCs.2.2.1 3 = some (0, 0, 0, 0) := rfl
theorem pM_Cs_25 : q_PCs.2.2.1 25 = some (1, 16, 1, 1) := rfl
theorem pM_Cs_37 : q_PCs.2.2.1 37 = some (2, 125, 1, 0) := rfl
theorem pM_Cs_19 : q_PCs.2.2.1 19 = some (2, 124, 2, 0) := rfl
theorem pM_Cs_29 : q_PCs.2.2.1 29 = some (4, 0, 0, 0) := rfl
theorem pF_Pa_24 : q_PPa.1 24 = some (2, 0, .array .char, 1) := rfl
theorem pF_Pa_28 : q_PPa.1 28 = some (2, 1, .object "PatternWalk$CharSets", 1) := rfl
theorem pF_Pa_9 : q_PPa.1 9 = some (2, 2, .int, 0) := rfl
theorem pF_Pa_15 : q_PPa.1 15 = some (2, 3, .int, 0) := rfl
theorem pF_Pa_18 : q_PPa.1 18 = some (2, 4, .int, 0) := rfl
theorem pF_Pa_21 : q_PPa.1 21 = some (2, 5, .int, 0) := rfl
theorem pF_Pa_57 : q_PPa.1 57 = some (5, 2, .object "PatternWalk$Row", 0) := rfl
theorem pF_Pa_79 : q_PPa.1 79 = some (4, 0, .int, 0) := rfl
theorem pF_Pa_98 : q_PPa.1 98 = some (4, 1, .object "PatternWalk$Row", 0) := rfl
theorem pF_Pa_95 : q_PPa.1 95 = some (4, 2, .int, 0) := rfl
theorem pF_Pa_104 : q_PPa.1 104 = some (4, 3, .int, 0) := rfl
theorem pF_Pa_127 : q_PPa.1 127 = some (4, 4, .int, 0) := rfl
theorem pF_Pa_147 : q_PPa.1 147 = some (4, 5, .int, 0) := rfl
theorem pF_Pa_130 : q_PPa.1 130 = some (4, 6, .boolean, 0) := rfl
theorem pF_Pa_134 : q_PPa.1 134 = some (4, 7, .boolean, 0) := rfl
theorem pF_Pa_140 : q_PPa.1 140 = some (4, 8, .boolean, 0) := rfl
theorem pM_Pa_3 : q_PPa.2.2.1 3 = some (0, 0, 0, 0) := rfl
theorem pM_Pa_32 : q_PPa.2.2.1 32 = some (5, 0, 0, 0) := rfl
theorem pM_Pa_38 : q_PPa.2.2.1 38 = some (1, 18, 0, 1) := rfl
theorem pM_Pa_43 : q_PPa.2.2.1 43 = some (1, 24, 1, 2) := rfl
theorem pM_Pa_52 : q_PPa.2.2.1 52 = some (3, 55, 0, 0) := rfl
theorem pM_Pa_53 : q_PPa.2.2.1 53 = some (1, 25, 0, 2) := rfl
theorem pM_Pa_61 : q_PPa.2.2.1 61 = some (1, 26, 1, 2) := rfl
theorem pM_Pa_71 : q_PPa.2.2.1 71 = some (3, 53, 0, 0) := rfl
theorem pM_Pa_72 : q_PPa.2.2.1 72 = some (1, 27, 2, 2) := rfl
theorem pM_Pa_47 : q_PPa.2.2.1 47 = some (1, 28, 0, 2) := rfl
theorem pM_Pa_92 : q_PPa.2.2.1 92 = some (1, 29, 1, 2) := rfl
theorem pM_Pa_101 : q_PPa.2.2.1 101 = some (1, 56, 0, 5) := rfl
theorem pM_Pa_76 : q_PPa.2.2.1 76 = some (1, 19, 0, 1) := rfl
theorem pM_Pa_82 : q_PPa.2.2.1 82 = some (1, 30, 1, 2) := rfl
theorem pM_Pa_107 : q_PPa.2.2.1 107 = some (1, 31, 1, 2) := rfl
theorem pM_Pa_110 : q_PPa.2.2.1 110 = some (1, 20, 3, 1) := rfl
theorem pM_Pa_118 : q_PPa.2.2.1 118 = some (1, 32, 1, 2) := rfl
theorem pM_Pa_124 : q_PPa.2.2.1 124 = some (2, 33, 1, 0) := rfl
theorem pM_Pa_121 : q_PPa.2.2.1 121 = some (1, 21, 1, 1) := rfl
theorem pM_Pa_86 : q_PPa.2.2.1 86 = some (1, 34, 1, 2) := rfl
theorem pM_Pa_114 : q_PPa.2.2.1 114 = some (2, 35, 1, 0) := rfl
theorem pM_Pa_89 : q_PPa.2.2.1 89 = some (1, 36, 1, 2) := rfl
theorem pM_Pa_137 : q_PPa.2.2.1 137 = some (1, 37, 1, 2) := rfl
theorem pM_Pa_143 : q_PPa.2.2.1 143 = some (2, 38, 1, 0) := rfl
theorem pM_Pa_150 : q_PPa.2.2.1 150 = some (1, 39, 1, 2) := rfl
theorem pM_Pa_65 : q_PPa.2.2.1 65 = some (1, 57, 1, 5) := rfl
theorem pF_Pr_9 : q_PPr.1 9 = some (3, 0, .array .int, 1) := rfl
theorem pF_Pr_15 : q_PPr.1 15 = some (3, 1, .array .int, 1) := rfl
theorem pF_Pr_18 : q_PPr.1 18 = some (3, 2, .array .int, 1) := rfl
theorem pF_Pr_21 : q_PPr.1 21 = some (3, 3, .int, 0) := rfl
theorem pF_Pr_25 : q_PPr.1 25 = some (3, 4, .int, 0) := rfl
theorem pF_Pr_54 : q_PPr.1 54 = some (5, 0, .object "PatternWalk$Repeat", 0) := rfl
theorem pF_Pr_49 : q_PPr.1 49 = some (5, 2, .object "PatternWalk$Row", 0) := rfl
theorem pF_Pr_53 : q_PPr.1 53 = some (5, 3, .int, 0) := rfl
theorem pF_Pr_95 : q_PPr.1 95 = some (4, 0, .int, 0) := rfl
theorem pF_Pr_92 : q_PPr.1 92 = some (4, 1, .object "PatternWalk$Row", 0) := rfl
theorem pF_Pr_98 : q_PPr.1 98 = some (4, 2, .int, 0) := rfl
theorem pF_Pr_86 : q_PPr.1 86 = some (4, 3, .int, 0) := rfl
theorem pF_Pr_66 : q_PPr.1 66 = some (4, 4, .int, 0) := rfl
theorem pF_Pr_89 : q_PPr.1 89 = some (4, 5, .int, 0) := rfl
theorem pF_Pr_83 : q_PPr.1 83 = some (4, 6, .boolean, 0) := rfl
theorem pF_Pr_72 : q_PPr.1 72 = some (4, 7, .boolean, 0) := rfl
theorem pF_Pr_76 : q_PPr.1 76 = some (4, 8, .boolean, 0) := rfl
theorem pF_Pr_62 : q_PPr.1 62 = some (4, 9, .object "PatternWalk$Repeat", 0) := rfl
theorem pM_Pr_3 : q_PPr.2.2.1 3 = some (0, 0, 0, 0) := rfl
theorem pM_Pr_28 : q_PPr.2.2.1 28 = some (1, 43, 1, 3) := rfl
theorem pM_Pr_32 : q_PPr.2.2.1 32 = some (1, 42, 0, 3) := rfl
theorem pM_Pr_35 : q_PPr.2.2.1 35 = some (1, 48, 3, 3) := rfl
theorem pM_Pr_39 : q_PPr.2.2.1 39 = some (1, 49, 2, 3) := rfl
theorem pM_Pr_43 : q_PPr.2.2.1 43 = some (1, 56, 0, 5) := rfl
theorem pM_Pr_58 : q_PPr.2.2.1 58 = some (1, 50, 2, 3) := rfl
theorem pM_Pr_69 : q_PPr.2.2.1 69 = some (1, 51, 2, 3) := rfl
theorem pM_Pr_79 : q_PPr.2.2.1 79 = some (1, 52, 3, 3) := rfl
theorem pF_Rp_9 : q_PRp.1 9 = some (4, 0, .int, 0) := rfl
theorem pF_Rp_15 : q_PRp.1 15 = some (4, 1, .object "PatternWalk$Row", 0) := rfl
theorem pF_Rp_19 : q_PRp.1 19 = some (4, 2, .int, 0) := rfl
theorem pF_Rp_22 : q_PRp.1 22 = some (4, 3, .int, 0) := rfl
theorem pF_Rp_25 : q_PRp.1 25 = some (4, 4, .int, 0) := rfl
theorem pF_Rp_28 : q_PRp.1 28 = some (4, 5, .int, 0) := rfl
theorem pF_Rp_31 : q_PRp.1 31 = some (4, 6, .boolean, 0) := rfl
theorem pF_Rp_35 : q_PRp.1 35 = some (4, 7, .boolean, 0) := rfl
theorem pF_Rp_38 : q_PRp.1 38 = some (4, 8, .boolean, 0) := rfl
theorem pF_Rp_41 : q_PRp.1 41 = some (4, 9, .object "PatternWalk$Repeat", 0) := rfl
theorem pM_Rp_3 : q_PRp.2.2.1 3 = some (0, 0, 0, 0) := rfl
theorem pF_Rw_7 : q_PRw.1 7 = some (5, 0, .object "PatternWalk$Repeat", 0) := rfl
theorem pF_Rw_13 : q_PRw.1 13 = some (5, 1, .object "PatternWalk$Repeat", 0) := rfl
theorem pF_Rw_16 : q_PRw.1 16 = some (5, 2, .object "PatternWalk$Row", 0) := rfl
theorem pF_Rw_20 : q_PRw.1 20 = some (5, 3, .int, 0) := rfl
theorem pF_Rw_24 : q_PRw.1 24 = some (4, 9, .object "PatternWalk$Repeat", 0) := rfl
theorem pM_Rw_1 : q_PRw.2.2.1 1 = some (0, 0, 0, 0) := rfl
theorem pM_Rw_31 : q_PRw.2.2.1 31 = some (5, 0, 0, 0) := rfl
theorem pM_Rw_28 : q_PRw.2.2.1 28 = some (1, 54, 0, 4) := rfl
theorem pF_Wk_65 : q_PWk.1 65 = some (7, 2, .int, 0) := rfl
theorem pF_Wk_57 : q_PWk.1 57 = some (6, 0, .object "PatternWalk$Program", 1) := rfl
theorem pF_Wk_61 : q_PWk.1 61 = some (6, 1, .object "PatternWalk$CharSets", 1) := rfl
theorem pF_Wk_12 : q_PWk.1 12 = some (6, 2, .object "PatternWalk$Ways", 0) := rfl
theorem pF_Wk_18 : q_PWk.1 18 = some (6, 3, .object "PatternWalk$Ways", 0) := rfl
theorem pF_Wk_21 : q_PWk.1 21 = some (6, 4, .array .int, 1) := rfl
theorem pF_Wk_25 : q_PWk.1 25 = some (6, 5, .array .int, 1) := rfl
theorem pF_Wk_28 : q_PWk.1 28 = some (6, 6, .array .int, 1) := rfl
theorem pF_Wk_31 : q_PWk.1 31 = some (6, 7, .int, 0) := rfl
theorem pF_Wk_35 : q_PWk.1 35 = some (6, 8, .array .int, 1) := rfl
theorem pF_Wk_38 : q_PWk.1 38 = some (6, 9, .array .int, 1) := rfl
theorem pF_Wk_41 : q_PWk.1 41 = some (6, 10, .boolean, 0) := rfl
theorem pF_Wk_45 : q_PWk.1 45 = some (6, 11, .boolean, 0) := rfl
theorem pF_Wk_48 : q_PWk.1 48 = some (6, 12, .boolean, 0) := rfl
theorem pF_Wk_51 : q_PWk.1 51 = some (6, 13, .boolean, 0) := rfl
theorem pF_Wk_54 : q_PWk.1 54 = some (6, 14, .int, 0) := rfl
theorem pM_Wk_3 : q_PWk.2.2.1 3 = some (0, 0, 0, 0) := rfl
theorem pM_Wk_11 : q_PWk.2.2.1 11 = some (3, 71, 0, 0) := rfl
theorem pM_Wk_68 : q_PWk.2.2.1 68 = some (2, 123, 2, 0) := rfl
theorem pM_Wk_74 : q_PWk.2.2.1 74 = some (1, 61, 0, 6) := rfl
theorem pM_Wk_96 : q_PWk.2.2.1 96 = some (1, 62, 1, 6) := rfl
theorem pM_Wk_100 : q_PWk.2.2.1 100 = some (1, 63, 2, 6) := rfl
theorem pM_Wk_104 : q_PWk.2.2.1 104 = some (1, 64, 1, 6) := rfl
theorem pM_Wk_110 : q_PWk.2.2.1 110 = some (1, 43, 1, 3) := rfl
theorem pM_Wk_113 : q_PWk.2.2.1 113 = some (1, 44, 1, 3) := rfl
theorem pM_Wk_116 : q_PWk.2.2.1 116 = some (1, 72, 2, 7) := rfl
theorem pM_Wk_119 : q_PWk.2.2.1 119 = some (1, 46, 1, 3) := rfl
theorem pM_Wk_81 : q_PWk.2.2.1 81 = some (1, 45, 1, 3) := rfl
theorem pM_Wk_122 : q_PWk.2.2.1 122 = some (1, 65, 1, 6) := rfl
theorem pM_Wk_125 : q_PWk.2.2.1 125 = some (1, 66, 0, 6) := rfl
theorem pM_Wk_107 : q_PWk.2.2.1 107 = some (1, 67, 2, 6) := rfl
theorem pM_Wk_77 : q_PWk.2.2.1 77 = some (1, 73, 1, 7) := rfl
theorem pM_Wk_86 : q_PWk.2.2.1 86 = some (1, 17, 2, 1) := rfl
theorem pM_Wk_92 : q_PWk.2.2.1 92 = some (1, 74, 2, 7) := rfl
theorem pF_Wy_9 : q_PWy.1 9 = some (7, 0, .array .int, 1) := rfl
theorem pF_Wy_15 : q_PWy.1 15 = some (7, 1, .array .int, 1) := rfl
theorem pF_Wy_18 : q_PWy.1 18 = some (7, 2, .int, 0) := rfl
theorem pM_Wy_3 : q_PWy.2.2.1 3 = some (0, 0, 0, 0) := rfl
theorem pF_Md_103 : q_PMd.1 103 = some (8, 0, .int, 0) := rfl
theorem pF_Md_106 : q_PMd.1 106 = some (8, 1, .int, 0) := rfl
theorem pF_Md_7 : q_PMd.1 7 = some (8, 2, .array .char, 1) := rfl
theorem pF_Md_13 : q_PMd.1 13 = some (8, 3, .int, 0) := rfl
theorem pF_Md_112 : q_PMd.1 112 = some (8, 4, .int, 0) := rfl
theorem pF_Md_17 : q_PMd.1 17 = some (8, 5, .array .int, 1) := rfl
theorem pF_Md_21 : q_PMd.1 21 = some (8, 6, .array .int, 1) := rfl
theorem pF_Md_24 : q_PMd.1 24 = some (8, 7, .array .int, 1) := rfl
theorem pF_Md_27 : q_PMd.1 27 = some (8, 8, .array .int, 1) := rfl
theorem pF_Md_30 : q_PMd.1 30 = some (8, 9, .array .int, 1) := rfl
theorem pF_Md_33 : q_PMd.1 33 = some (8, 10, .array .int, 1) := rfl
theorem pF_Md_36 : q_PMd.1 36 = some (8, 11, .array .int, 1) := rfl
theorem pF_Md_39 : q_PMd.1 39 = some (8, 12, .array .boolean, 1) := rfl
theorem pF_Md_43 : q_PMd.1 43 = some (8, 13, .array .int, 1) := rfl
theorem pF_Md_126 : q_PMd.1 126 = some (8, 14, .int, 0) := rfl
theorem pF_Md_161 : q_PMd.1 161 = some (8, 15, .int, 0) := rfl
theorem pF_Md_46 : q_PMd.1 46 = some (8, 16, .array .int, 1) := rfl
theorem pF_Md_49 : q_PMd.1 49 = some (8, 17, .array .int, 1) := rfl
theorem pF_Md_52 : q_PMd.1 52 = some (8, 18, .array .int, 1) := rfl
theorem pF_Md_164 : q_PMd.1 164 = some (8, 19, .int, 0) := rfl
theorem pF_Md_115 : q_PMd.1 115 = some (8, 20, .int, 0) := rfl
theorem pF_Md_55 : q_PMd.1 55 = some (8, 21, .array .int, 1) := rfl
theorem pF_Md_109 : q_PMd.1 109 = some (8, 22, .int, 0) := rfl
theorem pF_Md_58 : q_PMd.1 58 = some (8, 23, .array .int, 1) := rfl
theorem pF_Md_61 : q_PMd.1 61 = some (8, 24, .array .int, 1) := rfl
theorem pF_Md_64 : q_PMd.1 64 = some (8, 25, .array .int, 1) := rfl
theorem pF_Md_184 : q_PMd.1 184 = some (8, 26, .int, 0) := rfl
theorem pF_Md_67 : q_PMd.1 67 = some (8, 27, .array .int, 1) := rfl
theorem pF_Md_70 : q_PMd.1 70 = some (8, 28, .array .int, 1) := rfl
theorem pF_Md_212 : q_PMd.1 212 = some (8, 29, .boolean, 0) := rfl
theorem pF_Md_219 : q_PMd.1 219 = some (8, 30, .boolean, 0) := rfl
theorem pF_Md_222 : q_PMd.1 222 = some (8, 31, .int, 0) := rfl
theorem pF_Md_73 : q_PMd.1 73 = some (8, 32, .array .int, 1) := rfl
theorem pF_Md_225 : q_PMd.1 225 = some (8, 33, .boolean, 0) := rfl
theorem pF_Md_246 : q_PMd.1 246 = some (8, 34, .boolean, 0) := rfl
theorem pF_Md_76 : q_PMd.1 76 = some (8, 35, .array .int, 1) := rfl
theorem pF_Md_79 : q_PMd.1 79 = some (8, 36, .array .int, 1) := rfl
theorem pF_Md_82 : q_PMd.1 82 = some (8, 37, .array .boolean, 1) := rfl
theorem pF_Md_85 : q_PMd.1 85 = some (8, 38, .array .boolean, 1) := rfl
theorem pF_Md_88 : q_PMd.1 88 = some (8, 39, .array .boolean, 1) := rfl
theorem pF_Md_240 : q_PMd.1 240 = some (8, 40, .int, 0) := rfl
theorem pF_Md_91 : q_PMd.1 91 = some (8, 41, .array .int, 1) := rfl
theorem pF_Md_94 : q_PMd.1 94 = some (8, 42, .array .int, 1) := rfl
theorem pF_Md_97 : q_PMd.1 97 = some (8, 43, .array .boolean, 1) := rfl
theorem pF_Md_100 : q_PMd.1 100 = some (8, 44, .array .int, 1) := rfl
theorem pM_Md_1 : q_PMd.2.2.1 1 = some (0, 0, 0, 0) := rfl
theorem pM_Md_201 : q_PMd.2.2.1 201 = some (1, 79, 0, 8) := rfl
theorem pM_Md_143 : q_PMd.2.2.1 143 = some (1, 80, 2, 8) := rfl
theorem pM_Md_129 : q_PMd.2.2.1 129 = some (1, 81, 1, 8) := rfl
theorem pM_Md_167 : q_PMd.2.2.1 167 = some (1, 82, 1, 8) := rfl
theorem pM_Md_170 : q_PMd.2.2.1 170 = some (1, 83, 1, 8) := rfl
theorem pM_Md_155 : q_PMd.2.2.1 155 = some (1, 84, 1, 8) := rfl
theorem pM_Md_158 : q_PMd.2.2.1 158 = some (2, 85, 1, 0) := rfl
theorem pM_Md_173 : q_PMd.2.2.1 173 = some (1, 86, 1, 8) := rfl
theorem pM_Md_140 : q_PMd.2.2.1 140 = some (2, 87, 1, 0) := rfl
theorem pM_Md_147 : q_PMd.2.2.1 147 = some (1, 88, 0, 8) := rfl
theorem pM_Md_151 : q_PMd.2.2.1 151 = some (1, 89, 1, 8) := rfl
theorem pM_Md_132 : q_PMd.2.2.1 132 = some (1, 90, 2, 8) := rfl
theorem pM_Md_118 : q_PMd.2.2.1 118 = some (1, 91, 3, 8) := rfl
theorem pM_Md_136 : q_PMd.2.2.1 136 = some (2, 92, 1, 0) := rfl
theorem pM_Md_205 : q_PMd.2.2.1 205 = some (1, 93, 1, 8) := rfl
theorem pM_Md_180 : q_PMd.2.2.1 180 = some (1, 94, 4, 8) := rfl
theorem pM_Md_187 : q_PMd.2.2.1 187 = some (1, 95, 2, 8) := rfl
theorem pM_Md_209 : q_PMd.2.2.1 209 = some (1, 96, 2, 8) := rfl
theorem pM_Md_195 : q_PMd.2.2.1 195 = some (1, 97, 2, 8) := rfl
theorem pM_Md_198 : q_PMd.2.2.1 198 = some (1, 98, 2, 8) := rfl
theorem pM_Md_191 : q_PMd.2.2.1 191 = some (1, 99, 4, 8) := rfl
theorem pM_Md_216 : q_PMd.2.2.1 216 = some (1, 103, 1, 8) := rfl
theorem pM_Md_122 : q_PMd.2.2.1 122 = some (1, 104, 2, 8) := rfl
theorem pM_Md_263 : q_PMd.2.2.1 263 = some (1, 109, 0, 8) := rfl
theorem pM_Md_243 : q_PMd.2.2.1 243 = some (1, 110, 0, 8) := rfl
theorem pM_Md_231 : q_PMd.2.2.1 231 = some (1, 111, 2, 8) := rfl
theorem pM_Md_237 : q_PMd.2.2.1 237 = some (1, 112, 2, 8) := rfl
theorem pM_Md_228 : q_PMd.2.2.1 228 = some (1, 113, 2, 8) := rfl
theorem pM_Md_234 : q_PMd.2.2.1 234 = some (1, 114, 1, 8) := rfl
theorem pM_Md_249 : q_PMd.2.2.1 249 = some (1, 115, 2, 8) := rfl
theorem pM_Md_253 : q_PMd.2.2.1 253 = some (1, 116, 2, 8) := rfl
theorem pM_Md_256 : q_PMd.2.2.1 256 = some (1, 117, 2, 8) := rfl
theorem pM_Md_259 : q_PMd.2.2.1 259 = some (1, 118, 1, 8) := rfl
