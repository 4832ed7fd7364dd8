/-! PURE: the reader changes the draft alone (made by wip/gen/frq.py) -/
theorem Qq_X3_takeNumber_10 {mm : Mi} : ∀ (n : Nat) (μ : Mi), B_X3_takeNumber_10 n μ = some mm → Fr W_X3_takeNumber (some true) μ mm := by
  intro n
  induction n with
  | zero =>
    intro μ h
    exact nope h
  | succ n hk10 =>
    intro μ h
    replace h : F_X3_takeNumber_10 (B_X3_takeNumber_10 n) μ = some mm := h
    unfold F_X3_takeNumber_10 at h
    by_cases c : (w32 (rd μ 3 false 4)) ≤ (w32 (rd μ 3 false 6))
    · replace h := ifp c h
      exact frV h Fr.rf
    · replace h := ifn c h
      obtain ⟨r1, h1, h⟩ := bp_some h
      by_cases c : (w32 r1) = 0
      · replace h := ifp c h
        exact frV h Fr.rf
      · replace h := ifn c h
        obtain ⟨hi, h⟩ := ift h
        exact Fr.tr (Fr.w rfl (fun w => by revert w; decide) (Fr.w rfl (fun w => by revert w; decide) Fr.rf)) (hk10 _ h)
theorem fq_X3_takeNumber {μ : Mi} {mm : Mi} (h : D_X3_takeNumber μ = some mm) : Fr W_X3_takeNumber (some true) μ mm := by
  unfold D_X3_takeNumber at h
  exact Fr.tr (Fr.w rfl (fun w => by revert w; decide) (Fr.w rfl (fun w => by revert w; decide) Fr.rf)) (Qq_X3_takeNumber_10 FU _ h)
theorem Qq_X3_takeWord_10 {mm : Mi} : ∀ (n : Nat) (μ : Mi), B_X3_takeWord_10 n μ = some mm → Fr W_X3_takeWord (some true) μ mm := by
  intro n
  induction n with
  | zero =>
    intro μ h
    exact nope h
  | succ n hk10 =>
    intro μ h
    replace h : F_X3_takeWord_10 (B_X3_takeWord_10 n) μ = some mm := h
    unfold F_X3_takeWord_10 at h
    by_cases c : (w32 (rd μ 3 false 4)) ≤ (w32 (rd μ 3 false 6))
    · replace h := ifp c h
      exact frV h Fr.rf
    · replace h := ifn c h
      obtain ⟨r1, h1, h⟩ := bp_some h
      by_cases c : (w32 r1) = 0
      · replace h := ifp c h
        exact frV h Fr.rf
      · replace h := ifn c h
        obtain ⟨hi, h⟩ := ift h
        exact Fr.tr (Fr.w rfl (fun w => by revert w; decide) (Fr.l rfl (fun w => by revert w; decide) Fr.rf)) (hk10 _ h)
theorem fq_X3_takeWord {μ : Mi} {mm : Mi} (h : D_X3_takeWord μ = some mm) : Fr W_X3_takeWord (some true) μ mm := by
  unfold D_X3_takeWord at h
  exact Fr.tr (Fr.l rfl (fun w => by revert w; decide) (Fr.w rfl (fun w => by revert w; decide) Fr.rf)) (Qq_X3_takeWord_10 FU _ h)
theorem Qq_X3_next_143 {mm : Mi} (s0 : Int) (μ : Mi) (h : B_X3_next_143 s0 μ = some mm) : Fr W_X3_next (some true) μ mm := by
  unfold B_X3_next_143 at h
  exact frV h (Fr.w rfl (fun w => by revert w; decide) (Fr.w rfl (fun w => by revert w; decide) Fr.rf))
theorem Qq_X3_next_60 {mm : Mi} (μ : Mi) (h : B_X3_next_60 μ = some mm) : Fr W_X3_next (some true) μ mm := by
  unfold B_X3_next_60 at h
  by_cases c : (w32 (rd μ 3 false 5)) < (w32 (rd μ 3 false 4))
  · replace h := ifp c h
    obtain ⟨r1, h1, h⟩ := bp_some h
    by_cases c : (w32 r1) = 0
    · replace h := ifp c h
      obtain ⟨r2, h2, h⟩ := bp_some h
      by_cases c : (w32 r2) = 0
      · replace h := ifp c h
        obtain ⟨hi, h⟩ := ift h
        by_cases c : ¬ (w32 (rd μ 41 false (ix (rd μ 3 false 5)))) = 59
        · replace h := ifp c h
          exact Fr.tr (Fr.w rfl (fun w => by revert w; decide) Fr.rf) (Qq_X3_next_143 _ _ h)
        · replace h := ifn c h
          exact Fr.tr (Fr.w rfl (fun w => by revert w; decide) Fr.rf) (Qq_X3_next_143 _ _ h)
      · replace h := ifn c h
        obtain ⟨m3, h3, h⟩ := bm_some h
        exact frV h (Fr.tr (Fr.w rfl (fun w => by revert w; decide) Fr.rf) (Fr.mono rfl (Or.inr rfl) (fq_X3_takeNumber h3)))
    · replace h := ifn c h
      obtain ⟨m2, h2, h⟩ := bm_some h
      exact frV h (Fr.tr (Fr.w rfl (fun w => by revert w; decide) Fr.rf) (Fr.mono rfl (Or.inr rfl) (fq_X3_takeWord h2)))
  · replace h := ifn c h
    exact frV h (Fr.w rfl (fun w => by revert w; decide) (Fr.w rfl (fun w => by revert w; decide) Fr.rf))
theorem Qq_X3_next_47 {mm : Mi} {k8 : (Mi → Option Mi)} (hk8 : ∀ (m : Mi), k8 m = some mm → Fr W_X3_next (some true) m mm) (μ : Mi) (h : B_X3_next_47 k8 μ = some mm) : Fr W_X3_next (some true) μ mm := by
  unfold B_X3_next_47 at h
  exact Fr.tr (Fr.w rfl (fun w => by revert w; decide) Fr.rf) (hk8 _ h)
theorem Qq_X3_next_8 {mm : Mi} : ∀ (n : Nat) (μ : Mi), B_X3_next_8 n μ = some mm → Fr W_X3_next (some true) μ mm := by
  intro n
  induction n with
  | zero =>
    intro μ h
    exact nope h
  | succ n hk8 =>
    intro μ h
    replace h : F_X3_next_8 (B_X3_next_8 n) μ = some mm := h
    unfold F_X3_next_8 at h
    by_cases c : (w32 (rd μ 3 false 4)) ≤ (w32 (rd μ 3 false 5))
    · replace h := ifp c h
      exact Fr.tr Fr.rf (Qq_X3_next_60 _ h)
    · replace h := ifn c h
      obtain ⟨hi, h⟩ := ift h
      by_cases c : (w32 (rd μ 41 false (ix (rd μ 3 false 5)))) = 32
      · replace h := ifp c h
        exact Fr.tr Fr.rf (Qq_X3_next_47 hk8 _ h)
      · replace h := ifn c h
        obtain ⟨hi, h⟩ := ift h
        by_cases c : ¬ (w32 (rd μ 41 false (ix (rd μ 3 false 5)))) = 10
        · replace h := ifp c h
          exact Fr.tr Fr.rf (Qq_X3_next_60 _ h)
        · replace h := ifn c h
          exact Fr.tr Fr.rf (Qq_X3_next_47 hk8 _ h)
theorem fq_X3_next {μ : Mi} {mm : Mi} (h : D_X3_next μ = some mm) : Fr W_X3_next (some true) μ mm := by
  unfold D_X3_next at h
  exact Fr.tr (Fr.w rfl (fun w => by revert w; decide) Fr.rf) (Qq_X3_next_8 FU _ h)
theorem fq_X3_passWord {x1 : Nat} {μ : Mi} {r : Int} {mm : Mi} (h : D_X3_passWord x1 μ = some (r, mm)) : Fr W_X3_passWord (some true) μ mm := by
  unfold D_X3_passWord at h
  obtain ⟨r1, h1, h⟩ := bp_some h
  by_cases c : ¬ (w32 r1) = 0
  · replace h := ifp c h
    obtain ⟨m2, h2, h⟩ := bm_some h
    exact frE h (Fr.tr Fr.rf (Fr.mono rfl (Or.inr rfl) (fq_X3_next h2)))
  · replace h := ifn c h
    exact frE h Fr.rf
theorem Qq_X3_readLink_75 {r : Int} {mm : Mi} (x1 : Int) (x2 : Int) (x3 : Int) (s0 : Int) (s1 : Int) (μ : Mi) (h : B_X3_readLink_75 x1 x2 x3 s0 s1 μ = some (r, mm)) : Fr W_X3_readLink (some true) μ mm := by
  unfold B_X3_readLink_75 at h
  by_cases c : ¬ (w32 (D_X3_isNumber s1 s0 μ)) = 0
  · replace h := ifp c h
    obtain ⟨m2, h2, h⟩ := bm_some h
    obtain ⟨r3, m3, h3, h⟩ := bd_some h
    by_cases c : (w32 r3) = 0
    · replace h := ifp c h
      exact frE h (Fr.tr (Fr.tr Fr.rf (Fr.mono rfl (Or.inr rfl) (fq_X3_next h2))) (Fr.mono rfl (Or.inr rfl) (fq_X3_passWord h3)))
    · replace h := ifn c h
      by_cases c : ¬ (w32 (D_X3_isNumber 1 48 m3)) = 0
      · replace h := ifp c h
        obtain ⟨m5, h5, h⟩ := bm_some h
        obtain ⟨r6, m6, h6, h⟩ := bd_some h
        by_cases c : (w32 r6) = 0
        · replace h := ifp c h
          exact frE h (Fr.tr (Fr.tr (Fr.tr (Fr.tr Fr.rf (Fr.mono rfl (Or.inr rfl) (fq_X3_next h2))) (Fr.mono rfl (Or.inr rfl) (fq_X3_passWord h3))) (Fr.mono rfl (Or.inr rfl) (fq_X3_next h5))) (Fr.mono rfl (Or.inr rfl) (fq_X3_passWord h6)))
        · replace h := ifn c h
          by_cases c : ¬ (w32 (D_X3_isNumber 0 99 m6)) = 0
          · replace h := ifp c h
            obtain ⟨m8, h8, h⟩ := bm_some h
            by_cases c : (w32 (rd m8 3 false 7)) = 3
            · replace h := ifp c h
              obtain ⟨m9, h9, h⟩ := bm_some h
              obtain ⟨m10, h10, h⟩ := bm_some h
              exact frE h (Fr.tr (Fr.tr (Fr.tr (Fr.tr (Fr.tr (Fr.tr (Fr.tr Fr.rf (Fr.mono rfl (Or.inr rfl) (fq_X3_next h2))) (Fr.mono rfl (Or.inr rfl) (fq_X3_passWord h3))) (Fr.mono rfl (Or.inr rfl) (fq_X3_next h5))) (Fr.mono rfl (Or.inr rfl) (fq_X3_passWord h6))) (Fr.mono rfl (Or.inr rfl) (fq_X3_next h8))) (Fr.mono rfl (Or.inr rfl) (fq_X3_next h9))) (Fr.mono rfl (Or.inr rfl) (fr_X0_addLink h10)))
            · replace h := ifn c h
              exact frE h (Fr.tr (Fr.tr (Fr.tr (Fr.tr (Fr.tr Fr.rf (Fr.mono rfl (Or.inr rfl) (fq_X3_next h2))) (Fr.mono rfl (Or.inr rfl) (fq_X3_passWord h3))) (Fr.mono rfl (Or.inr rfl) (fq_X3_next h5))) (Fr.mono rfl (Or.inr rfl) (fq_X3_passWord h6))) (Fr.mono rfl (Or.inr rfl) (fq_X3_next h8)))
          · replace h := ifn c h
            exact frE h (Fr.tr (Fr.tr (Fr.tr (Fr.tr Fr.rf (Fr.mono rfl (Or.inr rfl) (fq_X3_next h2))) (Fr.mono rfl (Or.inr rfl) (fq_X3_passWord h3))) (Fr.mono rfl (Or.inr rfl) (fq_X3_next h5))) (Fr.mono rfl (Or.inr rfl) (fq_X3_passWord h6)))
      · replace h := ifn c h
        exact frE h (Fr.tr (Fr.tr Fr.rf (Fr.mono rfl (Or.inr rfl) (fq_X3_next h2))) (Fr.mono rfl (Or.inr rfl) (fq_X3_passWord h3)))
  · replace h := ifn c h
    exact frE h Fr.rf
theorem fq_X3_readLink {x1 : Int} {μ : Mi} {r : Int} {mm : Mi} (h : D_X3_readLink x1 μ = some (r, mm)) : Fr W_X3_readLink (some true) μ mm := by
  unfold D_X3_readLink at h
  by_cases c : (w32 (rd μ 0 true 2)) < 16
  · replace h := ifp c h
    obtain ⟨m1, h1, h⟩ := bm_some h
    obtain ⟨r2, h2, h⟩ := bp_some h
    by_cases c : 0 ≤ (w32 r2)
    · replace h := ifp c h
      obtain ⟨m3, h3, h⟩ := bm_some h
      obtain ⟨r4, h4, h⟩ := bp_some h
      by_cases c : (w32 r4) < 0
      · replace h := ifp c h
        exact frE h (Fr.tr (Fr.tr Fr.rf (Fr.mono rfl (Or.inr rfl) (fq_X3_next h1))) (Fr.mono rfl (Or.inr rfl) (fq_X3_next h3)))
      · replace h := ifn c h
        by_cases c : ¬ (w32 r4) = (w32 r2)
        · replace h := ifp c h
          obtain ⟨m5, h5, h⟩ := bm_some h
          obtain ⟨r6, m6, h6, h⟩ := bd_some h
          by_cases c : (w32 r6) = 0
          · replace h := ifp c h
            exact frE h (Fr.tr (Fr.tr (Fr.tr (Fr.tr Fr.rf (Fr.mono rfl (Or.inr rfl) (fq_X3_next h1))) (Fr.mono rfl (Or.inr rfl) (fq_X3_next h3))) (Fr.mono rfl (Or.inr rfl) (fq_X3_next h5))) (Fr.mono rfl (Or.inr rfl) (fq_X3_passWord h6)))
          · replace h := ifn c h
            by_cases c : (w32 x1) = 0
            · replace h := ifp c h
              exact Fr.tr (Fr.tr (Fr.tr (Fr.tr (Fr.tr Fr.rf (Fr.mono rfl (Or.inr rfl) (fq_X3_next h1))) (Fr.mono rfl (Or.inr rfl) (fq_X3_next h3))) (Fr.mono rfl (Or.inr rfl) (fq_X3_next h5))) (Fr.mono rfl (Or.inr rfl) (fq_X3_passWord h6))) (Qq_X3_readLink_75 _ _ _ _ _ _ h)
            · replace h := ifn c h
              exact Fr.tr (Fr.tr (Fr.tr (Fr.tr (Fr.tr Fr.rf (Fr.mono rfl (Or.inr rfl) (fq_X3_next h1))) (Fr.mono rfl (Or.inr rfl) (fq_X3_next h3))) (Fr.mono rfl (Or.inr rfl) (fq_X3_next h5))) (Fr.mono rfl (Or.inr rfl) (fq_X3_passWord h6))) (Qq_X3_readLink_75 _ _ _ _ _ _ h)
        · replace h := ifn c h
          exact frE h (Fr.tr (Fr.tr Fr.rf (Fr.mono rfl (Or.inr rfl) (fq_X3_next h1))) (Fr.mono rfl (Or.inr rfl) (fq_X3_next h3)))
    · replace h := ifn c h
      exact frE h (Fr.tr Fr.rf (Fr.mono rfl (Or.inr rfl) (fq_X3_next h1)))
  · replace h := ifn c h
    exact frE h Fr.rf
theorem Qq_X3_readTown_128 {r : Int} {mm : Mi} (x1 : Int) (x3 : Int) (x4 : Int) (μ : Mi) (h : B_X3_readTown_128 x1 x3 x4 μ = some (r, mm)) : Fr W_X3_readTown (some true) μ mm := by
  unfold B_X3_readTown_128 at h
  by_cases c : (w32 (rd μ 3 false 7)) = 3
  · replace h := ifp c h
    obtain ⟨m1, h1, h⟩ := bm_some h
    obtain ⟨hi, h⟩ := ift h
    obtain ⟨m2, h2, h⟩ := bm_some h
    exact frE h (Fr.tr (Fr.l rfl (fun w => by revert w; decide) (Fr.tr Fr.rf (Fr.mono rfl (Or.inr rfl) (fq_X3_next h1)))) (Fr.mono rfl (Or.inr rfl) (fr_X0_addTown h2)))
  · replace h := ifn c h
    exact frE h Fr.rf
theorem Qq_X3_readTown_92 {r : Int} {mm : Mi} (x1 : Int) (x3 : Int) (x4 : Int) (s0 : Int) (μ : Mi) (h : B_X3_readTown_92 x1 x3 x4 s0 μ = some (r, mm)) : Fr W_X3_readTown (some true) μ mm := by
  unfold B_X3_readTown_92 at h
  by_cases c : (w32 s0) = 0
  · replace h := ifp c h
    exact Fr.tr Fr.rf (Qq_X3_readTown_128 _ _ _ _ h)
  · replace h := ifn c h
    obtain ⟨m1, h1, h⟩ := bm_some h
    by_cases c : ¬ (w32 (D_X3_isNumber 0 12 m1)) = 0
    · replace h := ifp c h
      obtain ⟨m3, h3, h⟩ := bm_some h
      exact Fr.tr (Fr.tr (Fr.tr Fr.rf (Fr.mono rfl (Or.inr rfl) (fq_X3_next h1))) (Fr.mono rfl (Or.inr rfl) (fq_X3_next h3))) (Qq_X3_readTown_128 _ _ _ _ h)
    · replace h := ifn c h
      exact frE h (Fr.tr Fr.rf (Fr.mono rfl (Or.inr rfl) (fq_X3_next h1)))
theorem fq_X3_readTown {μ : Mi} {r : Int} {mm : Mi} (h : D_X3_readTown μ = some (r, mm)) : Fr W_X3_readTown (some true) μ mm := by
  unfold D_X3_readTown at h
  by_cases c : (w32 (rd μ 0 true 1)) < 8
  · replace h := ifp c h
    obtain ⟨m1, h1, h⟩ := bm_some h
    obtain ⟨r2, h2, h⟩ := bp_some h
    by_cases c : ¬ (w32 r2) = 0
    · replace h := ifp c h
      obtain ⟨m3, h3, h⟩ := bm_some h
      obtain ⟨r4, m4, h4, h⟩ := bd_some h
      by_cases c : ¬ (w32 r4) = 0
      · replace h := ifp c h
        obtain ⟨r5, h5, h⟩ := bp_some h
        by_cases c : 0 ≤ (w32 r5)
        · replace h := ifp c h
          obtain ⟨m6, h6, h⟩ := bm_some h
          obtain ⟨r7, h7, h⟩ := bp_some h
          by_cases c : (w32 r7) = 0
          · replace h := ifp c h
            obtain ⟨r8, h8, h⟩ := bp_some h
            by_cases c : (w32 r8) = 0
            · replace h := ifp c h
              exact Fr.tr (Fr.tr (Fr.tr (Fr.tr (Fr.tr Fr.rf (Fr.mono rfl (Or.inr rfl) (fq_X3_next h1))) (Fr.mono rfl (Or.inr rfl) (fq_X3_next h3))) (Fr.mono rfl (Or.inr rfl) (fq_X3_passWord h4))) (Fr.mono rfl (Or.inr rfl) (fq_X3_next h6))) (Qq_X3_readTown_92 _ _ _ _ _ h)
            · replace h := ifn c h
              exact Fr.tr (Fr.tr (Fr.tr (Fr.tr (Fr.tr Fr.rf (Fr.mono rfl (Or.inr rfl) (fq_X3_next h1))) (Fr.mono rfl (Or.inr rfl) (fq_X3_next h3))) (Fr.mono rfl (Or.inr rfl) (fq_X3_passWord h4))) (Fr.mono rfl (Or.inr rfl) (fq_X3_next h6))) (Qq_X3_readTown_92 _ _ _ _ _ h)
          · replace h := ifn c h
            exact Fr.tr (Fr.tr (Fr.tr (Fr.tr (Fr.tr Fr.rf (Fr.mono rfl (Or.inr rfl) (fq_X3_next h1))) (Fr.mono rfl (Or.inr rfl) (fq_X3_next h3))) (Fr.mono rfl (Or.inr rfl) (fq_X3_passWord h4))) (Fr.mono rfl (Or.inr rfl) (fq_X3_next h6))) (Qq_X3_readTown_92 _ _ _ _ _ h)
        · replace h := ifn c h
          exact frE h (Fr.tr (Fr.tr (Fr.tr Fr.rf (Fr.mono rfl (Or.inr rfl) (fq_X3_next h1))) (Fr.mono rfl (Or.inr rfl) (fq_X3_next h3))) (Fr.mono rfl (Or.inr rfl) (fq_X3_passWord h4)))
      · replace h := ifn c h
        exact frE h (Fr.tr (Fr.tr (Fr.tr Fr.rf (Fr.mono rfl (Or.inr rfl) (fq_X3_next h1))) (Fr.mono rfl (Or.inr rfl) (fq_X3_next h3))) (Fr.mono rfl (Or.inr rfl) (fq_X3_passWord h4)))
    · replace h := ifn c h
      exact frE h (Fr.tr Fr.rf (Fr.mono rfl (Or.inr rfl) (fq_X3_next h1)))
  · replace h := ifn c h
    exact frE h Fr.rf
theorem fq_X3_readLand {μ : Mi} {r : Int} {mm : Mi} (h : D_X3_readLand μ = some (r, mm)) : Fr W_X3_readLand (some true) μ mm := by
  unfold D_X3_readLand at h
  by_cases c : (w32 (rd μ 0 true 0)) < 4
  · replace h := ifp c h
    obtain ⟨m1, h1, h⟩ := bm_some h
    obtain ⟨r2, h2, h⟩ := bp_some h
    by_cases c : ¬ (w32 r2) = 0
    · replace h := ifp c h
      obtain ⟨m3, h3, h⟩ := bm_some h
      obtain ⟨r4, h4, h⟩ := bp_some h
      by_cases c : 0 ≤ (w32 r4)
      · replace h := ifp c h
        obtain ⟨m5, h5, h⟩ := bm_some h
        by_cases c : (w32 (rd m5 3 false 7)) = 3
        · replace h := ifp c h
          obtain ⟨m6, h6, h⟩ := bm_some h
          obtain ⟨hi, h⟩ := ift h
          obtain ⟨m7, h7, h⟩ := bm_some h
          exact frE h (Fr.tr (Fr.l rfl (fun w => by revert w; decide) (Fr.tr (Fr.tr (Fr.tr (Fr.tr Fr.rf (Fr.mono rfl (Or.inr rfl) (fq_X3_next h1))) (Fr.mono rfl (Or.inr rfl) (fq_X3_next h3))) (Fr.mono rfl (Or.inr rfl) (fq_X3_next h5))) (Fr.mono rfl (Or.inr rfl) (fq_X3_next h6)))) (Fr.mono rfl (Or.inr rfl) (fr_X0_addLand h7)))
        · replace h := ifn c h
          exact frE h (Fr.tr (Fr.tr (Fr.tr Fr.rf (Fr.mono rfl (Or.inr rfl) (fq_X3_next h1))) (Fr.mono rfl (Or.inr rfl) (fq_X3_next h3))) (Fr.mono rfl (Or.inr rfl) (fq_X3_next h5)))
      · replace h := ifn c h
        exact frE h (Fr.tr (Fr.tr Fr.rf (Fr.mono rfl (Or.inr rfl) (fq_X3_next h1))) (Fr.mono rfl (Or.inr rfl) (fq_X3_next h3)))
    · replace h := ifn c h
      exact frE h (Fr.tr Fr.rf (Fr.mono rfl (Or.inr rfl) (fq_X3_next h1)))
  · replace h := ifn c h
    exact frE h Fr.rf
theorem fq_X3_readLine {μ : Mi} {r : Int} {mm : Mi} (h : D_X3_readLine μ = some (r, mm)) : Fr W_X3_readLine (some true) μ mm := by
  unfold D_X3_readLine at h
  obtain ⟨r1, h1, h⟩ := bp_some h
  by_cases c : (w32 r1) = 0
  · replace h := ifp c h
    obtain ⟨r2, h2, h⟩ := bp_some h
    by_cases c : (w32 r2) = 0
    · replace h := ifp c h
      obtain ⟨r3, h3, h⟩ := bp_some h
      by_cases c : (w32 r3) = 0
      · replace h := ifp c h
        obtain ⟨r4, h4, h⟩ := bp_some h
        by_cases c : (w32 r4) = 0
        · replace h := ifp c h
          exact frE h Fr.rf
        · replace h := ifn c h
          obtain ⟨r5, m5, h5, h⟩ := bd_some h
          by_cases c : (w32 r5) = 0
          · replace h := ifp c h
            exact frE h (Fr.tr Fr.rf (Fr.mono rfl (Or.inr rfl) (fq_X3_readLink h5)))
          · replace h := ifn c h
            exact frE h (Fr.tr Fr.rf (Fr.mono rfl (Or.inr rfl) (fq_X3_readLink h5)))
      · replace h := ifn c h
        obtain ⟨r4, m4, h4, h⟩ := bd_some h
        obtain ⟨hb, h⟩ := ift h
        exact frE h (Fr.tr Fr.rf (Fr.mono rfl (Or.inr rfl) (fq_X3_readLink h4)))
    · replace h := ifn c h
      obtain ⟨r3, m3, h3, h⟩ := bd_some h
      obtain ⟨hb, h⟩ := ift h
      exact frE h (Fr.tr Fr.rf (Fr.mono rfl (Or.inr rfl) (fq_X3_readTown h3)))
  · replace h := ifn c h
    obtain ⟨r2, m2, h2, h⟩ := bd_some h
    obtain ⟨hb, h⟩ := ift h
    exact frE h (Fr.tr Fr.rf (Fr.mono rfl (Or.inr rfl) (fq_X3_readLand h2)))
theorem Qq_X3_faultOf_63 {r : Int} {mm : Mi} (μ : Mi) (h : B_X3_faultOf_63 μ = some (r, mm)) : Fr W_X3_faultOf (some true) μ mm := by
  unfold B_X3_faultOf_63 at h
  by_cases c : ¬ (w32 (rd μ 0 true 1)) = 0
  · replace h := ifp c h
    exact frE h Fr.rf
  · replace h := ifn c h
    exact frE h Fr.rf
theorem Qq_X3_faultOf_31 {r : Int} {mm : Mi} : ∀ (n : Nat) (x2 : Int) (μ : Mi), B_X3_faultOf_31 n x2 μ = some (r, mm) → Fr W_X3_faultOf (some true) μ mm := by
  intro n
  induction n with
  | zero =>
    intro x2 μ h
    exact nope h
  | succ n hk31 =>
    intro x2 μ h
    replace h : F_X3_faultOf_31 (B_X3_faultOf_31 n) x2 μ = some (r, mm) := h
    unfold F_X3_faultOf_31 at h
    by_cases c : 500 ≤ (w32 x2)
    · replace h := ifp c h
      exact Fr.tr Fr.rf (Qq_X3_faultOf_63 _ h)
    · replace h := ifn c h
      by_cases c : (w32 (rd μ 3 false 7)) = 0
      · replace h := ifp c h
        exact Fr.tr Fr.rf (Qq_X3_faultOf_63 _ h)
      · replace h := ifn c h
        obtain ⟨r1, m1, h1, h⟩ := bd_some h
        by_cases c : ¬ (w32 r1) = 0
        · replace h := ifp c h
          exact Fr.tr (Fr.tr Fr.rf (Fr.mono rfl (Or.inr rfl) (fq_X3_readLine h1))) (hk31 _ _ h)
        · replace h := ifn c h
          exact frE h (Fr.tr Fr.rf (Fr.mono rfl (Or.inr rfl) (fq_X3_readLine h1)))
theorem fq_X3_faultOf {x1 : Int} {μ : Mi} {r : Int} {mm : Mi} (h : D_X3_faultOf x1 μ = some (r, mm)) : Fr W_X3_faultOf (some true) μ mm := by
  unfold D_X3_faultOf at h
  obtain ⟨m2, h2, h⟩ := bm_some h
  obtain ⟨m3, h3, h⟩ := bm_some h
  exact Fr.tr (Fr.tr (Fr.tr (Fr.w rfl (fun w => by revert w; decide) (Fr.w rfl (fun w => by revert w; decide) Fr.rf)) (Fr.mono rfl (Or.inr rfl) (fr_X0_clear h2))) (Fr.mono rfl (Or.inr rfl) (fq_X3_next h3))) (Qq_X3_faultOf_31 FU _ _ h)
