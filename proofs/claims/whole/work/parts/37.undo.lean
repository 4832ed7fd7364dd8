/-! PURE: undo, doubt, trace -/
theorem op_undo {μ : Mi} (h : Inv0 μ) {x1 : Int} (r1 : R32 x1) : OpE (D_X6_undo x1) (D_X7_undo x1) μ := by
  have hI := h
  obtain ⟨hT, hA, hM, hS, hC⟩ := h
  by_cases c1 : 0 < rd μ 0 false 1 ∧ (x1 = 0 ∨ x1 = 1)
  rotate_left
  · refine OpE.same hI (-1) ?_ ?_
    · unfold D_X6_undo; rw [isMan_X hA r1, if_pos (yb10 c1)]
    · unfold D_X7_undo; rw [man_M hA rfl rfl r1, if_pos (yb10 c1)]
  obtain ⟨i, e1, e2, e3, e4, e5, e6⟩ := man_of c1
  have hMi := hM i
  have hm := mi_le i
  obtain ⟨⟨b1, b2, b3⟩, b4, b5, b6, b7⟩ := hM i
  obtain ⟨z, hz⟩ : ∃ z : Nat, rd μ 2 i 3 = (z : Int) := ⟨(rd μ 2 i 3).toNat, by omega⟩
  rw [hz] at b1 b2 b3 b6 b7
  rw [show ((z : Int)).toNat = z by omega] at b6 b7
  by_cases c2 : z = 0
  · refine OpE.same hI (-1) ?_ ?_
    · unfold D_X6_undo D_X2_dropLast
      rw [isMan_X hA r1, if_neg (nb10 c1), e2, hz, wid (x := (z : Int)) (by omega) (by omega), if_neg (by omega), bd_k]
    · unfold D_X7_undo
      rw [man_M hA rfl rfl r1, if_neg (nb10 c1), e4, if_pos ⟨e5, e6⟩, e3, b3, wid (x := (z : Int)) (by omega) (by omega), if_neg (by omega)]
  · refine ⟨(z : Int) - 1, wr (wr μ 2 i 3 ((z : Int) - 1)) 2 i 4 1, wr (wr (wr μ 2 i 3 ((z : Int) - 1)) 2 i 4 1) 56 false (mi i) ((z : Int) - 1), ?_, ?_, ⟨hT.tr ?_, hA.tr ?_, fun i' => ?_, hS.tr ?_, chg.tr hC (fun i' => ?_)⟩, fun i' => ?_⟩
    · unfold D_X6_undo D_X2_dropLast
      rw [isMan_X hA r1, if_neg (nb10 c1), e2, hz, wid (x := (z : Int)) (by omega) (by omega), if_pos (by omega), bd_k]
    · unfold D_X7_undo
      rw [man_M hA (by simp (disch := omega) only [rdx]) (by simp (disch := omega) only [rdx]) r1, if_neg (nb10 c1), e4, if_pos ⟨e5, e6⟩, e3]
      simp (disch := omega) only [rdx]
      rw [b3, wid (x := (z : Int)) (by omega) (by omega), if_pos (by omega), if_pos ⟨e5, e6⟩, if_pos ⟨e5, e6⟩, if_pos ⟨e5, e6⟩]
    · intros; simp (disch := omega) only [rdx]
    · intros; simp (disch := omega) only [rdx]
    · by_cases hi : i' = i
      · subst hi
        have hs3 : rd (wr (wr (wr μ 2 i' 3 ((z : Int) - 1)) 2 i' 4 1) 56 false (mi i') ((z : Int) - 1)) 2 i' 3 = (z : Int) - 1 := by simp (disch := omega) only [rdx, rd_s]
        have hkz : ∀ v : Int, cn (kd (wr (wr (wr μ 2 i' 3 ((z : Int) - 1)) 2 i' 4 1) 56 false (mi i') ((z : Int) - 1)) i' v) (z - 1) ≤ cn (kd μ i' v) z := fun v => by
          obtain ⟨q, rfl⟩ : ∃ q, z = q + 1 := ⟨z - 1, by omega⟩
          rw [show q + 1 - 1 = q by omega, cn_cong (q := kd μ i' v) q (fun k _ => by unfold kd; simp (disch := omega) only [rdx]), cn]
          omega
        refine ⟨?_, ?_, ?_, ?_, ?_⟩
        · rw [hs3]
          exact ⟨by omega, by omega, by rw [rd_s]⟩
        · simp (disch := omega) only [rdx]
          exact b4
        · intro t ht
          rw [hs3] at ht
          obtain ⟨q1, q2⟩ := b5 t (by omega)
          refine ⟨q1.tr ?_ ?_, ?_⟩
          · intros; simp (disch := omega) only [rdx]
          · intros; simp (disch := omega) only [rdx]
          · unfold ITm at *
            simp (disch := omega) only [rdx]
            exact q2
        · rw [hs3, show ((z : Int) - 1).toNat = z - 1 by omega]
          exact Nat.le_trans (hkz 0) b6
        · rw [hs3, show ((z : Int) - 1).toNat = z - 1 by omega]
          exact Nat.le_trans (hkz 2) b7
      · have hne := mi_ne hi
        refine (hM i').tr ?_ ?_ ?_
        · intro r k q; simp (disch := omega) only [rdx, rdi hi]
        · intro r k q; simp (disch := omega) only [rdx]
        · intros; simp (disch := omega) only [rdx]
    · intros; simp (disch := omega) only [rdx]
    · by_cases hi : i' = i
      · subst hi
        right
        simp (disch := omega) only [rdx, rd_s]
      · left
        simp (disch := omega) only [rdx, rdi hi]
    · by_cases hi : i' = i
      · subst hi
        left
        simp (disch := omega) only [rdx, rd_s]
      · refine Kp.of ?_ ?_
        · intros; simp (disch := omega) only [rdx]
        · intro r k q; simp (disch := omega) only [rdx, rdi hi]
theorem has_X {μ : Mi} {i : Bool} (h0 : 0 ≤ rd μ 2 i 3) (h1 : rd μ 2 i 3 ≤ 8) {x : Int} (hx : R32 x) : D_X2_has i x μ = if 0 ≤ x ∧ x < rd μ 2 i 3 then 1 else 0 := by
  unfold D_X2_has
  rw [wid hx.1 hx.2, wid (x := rd μ 2 i 3) (by omega) (by omega)]
  by_cases c1 : x < 0
  · rw [if_pos c1, if_neg (by omega)]
  · rw [if_neg c1]
    by_cases c2 : rd μ 2 i 3 ≤ x
    · rw [if_pos c2, if_neg (by omega)]
    · rw [if_neg c2, if_pos (by omega)]
theorem isTrace_M {μ m : Mi} (hA : IAtlas μ) {i : Bool} (hM : IMan μ i) (e1 : rd m 7 false 17 = rd μ 7 false 17) (e2 : rd m 0 false 1 = rd μ 0 false 1) (e3 : rd m 56 false (mi i) = rd μ 56 false (mi i)) {x2 : Int} (hx2 : R32 x2) (c1 : 0 < rd μ 0 false 1) : D_X7_isTrace (mi i : Int) x2 m = some (if 0 ≤ x2 ∧ x2 < rd μ 2 i 3 then 1 else 0) := by
  obtain ⟨⟨b1, b2, b3⟩, -⟩ := hM
  have hm := mi_le i
  unfold D_X7_isTrace
  rw [man_M hA e1 e2 (x := (mi i : Int)) ⟨by omega, by omega⟩, if_neg (nb10 ⟨c1, by omega⟩), wid (x := (mi i : Int)) (by omega) (by omega), if_pos (by omega), ixn (mi i) (by omega), e3, b3, in_eq (wid hx2.1 hx2.2) (by decide) (wid (by omega) (by omega))]
  by_cases c : 0 ≤ x2 ∧ x2 < rd μ 2 i 3
  · rw [if_neg (nb10 (by omega)), if_pos c]
  · rw [if_pos (yb10 (by omega)), if_neg c]
theorem op_doubt {μ : Mi} (h : Inv0 μ) {x1 x2 x3 : Int} (r1 : R32 x1) (r2 : R32 x2) (h3 : x3 = 0 ∨ x3 = 1) : OpE (D_X6_doubt x1 x2 x3) (D_X7_doubt x1 x2 x3) μ := by
  have hI := h
  obtain ⟨hT, hA, hM, hS, hC⟩ := h
  have hx2 := wid r2.1 r2.2
  have hx3 : w32 x3 = x3 := by rcases h3 with rfl | rfl <;> decide
  by_cases c1 : 0 < rd μ 0 false 1 ∧ (x1 = 0 ∨ x1 = 1)
  rotate_left
  · refine OpE.same hI 0 ?_ ?_
    · unfold D_X6_doubt; rw [isMan_X hA r1, if_pos (yb10 c1)]
    · unfold D_X7_doubt D_X7_isTrace; rw [man_M hA rfl rfl r1, if_pos (yb10 c1), bp_k, if_pos (by decide)]
  obtain ⟨i, e1, e2, e3, e4, e5, e6⟩ := man_of c1
  have hMi := hM i
  have hm := mi_le i
  obtain ⟨⟨b1, b2, b3⟩, b4, b5, b6, b7⟩ := hM i
  by_cases c2 : 0 ≤ x2 ∧ x2 < rd μ 2 i 3
  rotate_left
  · refine OpE.same hI 0 ?_ ?_
    · unfold D_X6_doubt D_X2_setDoubted
      rw [isMan_X hA r1, if_neg (nb10 c1), e2, has_X b1 b2 r2, if_pos (yb10 c2), bd_k, if_pos (by decide)]
    · unfold D_X7_doubt
      rw [e1, isTrace_M hA hMi rfl rfl rfl r2 c1.1, bp_k, if_pos (yb10 c2)]
  obtain ⟨t, rfl⟩ : ∃ t : Nat, x2 = (t : Int) := ⟨x2.toNat, by omega⟩
  have ht8 : t < 8 := by omega
  obtain ⟨q1, q2⟩ := b5 t c2.2
  have hd : w32 (rd μ 29 i t) = rd μ 29 i t := by
    obtain ⟨_, _, _, _, _, _, _, _, _, q⟩ := q1
    exact wid (by omega) (by omega)
  have e8 : ix (8 * (mi i : Int) + (t : Int)) = 8 * mi i + t := by
    rw [show 8 * (mi i : Int) + (t : Int) = ((8 * mi i + t : Nat) : Int) by omega, ixn _ (by omega)]
  by_cases c3 : rd μ 29 i t = x3
  · refine OpE.same hI 0 ?_ ?_
    · unfold D_X6_doubt D_X2_setDoubted
      rw [isMan_X hA r1, if_neg (nb10 c1), e2, has_X b1 b2 r2, if_neg (nb10 c2), hx2, if_pos (by omega), ixn t (by omega), hd, if_neg (by rw [hx3]; omega), bd_k, if_pos (by decide)]
    · unfold D_X7_doubt
      rw [e1, isTrace_M hA hMi rfl rfl rfl r2 c1.1, bp_k, if_neg (nb10 c2), wid (x := 8 * (mi i : Int) + (t : Int)) (by omega) (by omega), if_pos (by omega), e8, q2.2.2.2.2.2, hd, if_neg (by rw [hx3]; omega)]
  · refine ⟨1, wr (wr μ 29 i t x3) 2 i 4 1, wr (wr (wr μ 29 i t x3) 2 i 4 1) 62 false (8 * mi i + t) x3, ?_, ?_, ⟨hT.tr ?_, hA.tr ?_, fun i' => ?_, hS.tr ?_, chg.tr hC (fun i' => ?_)⟩, fun i' => ?_⟩
    · unfold D_X6_doubt D_X2_setDoubted
      rw [isMan_X hA r1, if_neg (nb10 c1), e2, has_X b1 b2 r2, if_neg (nb10 c2), hx2, if_pos (by omega), ixn t (by omega), hd, if_pos (by rw [hx3]; exact c3), if_pos (by omega), if_pos (isB_b h3), bd_k, if_neg (by decide)]
    · unfold D_X7_doubt
      rw [e1, isTrace_M hA hMi (by simp (disch := omega) only [rdx]) (by simp (disch := omega) only [rdx]) (by simp (disch := omega) only [rdx]) r2 c1.1, bp_k, if_neg (nb10 c2), wid (x := 8 * (mi i : Int) + (t : Int)) (by omega) (by omega), if_pos (by omega), e8]
      simp (disch := omega) only [rdx]
      rw [q2.2.2.2.2.2, hd, if_pos (by rw [hx3]; exact c3), if_pos (by omega), if_pos (isB_b h3)]
    · intros; simp (disch := omega) only [rdx]
    · intros; simp (disch := omega) only [rdx]
    · by_cases hi : i' = i
      · subst hi
        have hs3 : rd (wr (wr (wr μ 29 i' t x3) 2 i' 4 1) 62 false (8 * mi i' + t) x3) 2 i' 3 = rd μ 2 i' 3 := by simp (disch := omega) only [rdx]
        have hkz : ∀ v : Int, kd (wr (wr (wr μ 29 i' t x3) 2 i' 4 1) 62 false (8 * mi i' + t) x3) i' v = kd μ i' v := fun v => funext fun k => by unfold kd; simp (disch := omega) only [rdx]
        refine ⟨?_, ?_, ?_, ?_, ?_⟩
        · simp (disch := omega) only [rdx]
          exact ⟨b1, b2, b3⟩
        · simp (disch := omega) only [rdx]
          exact b4
        · intro k hk
          rw [hs3] at hk
          obtain ⟨w1, w2⟩ := b5 k hk
          by_cases e : k = t
          · subst e
            unfold ITr ITm at *
            simp (disch := omega) only [rdx, rd_s]
            exact ⟨⟨w1.1, w1.2.1, w1.2.2.1, w1.2.2.2.1, w1.2.2.2.2.1, w1.2.2.2.2.2.1, w1.2.2.2.2.2.2.1, w1.2.2.2.2.2.2.2.1, w1.2.2.2.2.2.2.2.2.1, h3⟩, w2.1, w2.2.1, w2.2.2.1, w2.2.2.2.1, w2.2.2.2.2.1, trivial⟩
          · unfold ITr ITm at *
            simp (disch := omega) only [rdx]
            exact ⟨w1, w2⟩
        · rw [hs3, hkz]; exact b6
        · rw [hs3, hkz]; exact b7
      · have hne := mi_ne hi
        have hm' := mi_le i'
        refine (hM i').tr ?_ ?_ ?_
        · intro r k q; simp (disch := omega) only [rdx, rdi hi]
        · intro r k q; simp (disch := omega) only [rdx]
        · intros; simp (disch := omega) only [rdx]
    · intros; simp (disch := omega) only [rdx]
    · by_cases hi : i' = i
      · subst hi
        right
        simp (disch := omega) only [rdx, rd_s]
      · left
        simp (disch := omega) only [rdx, rdi hi]
    · by_cases hi : i' = i
      · subst hi
        left
        simp (disch := omega) only [rdx, rd_s]
      · refine Kp.of ?_ ?_
        · intros; simp (disch := omega) only [rdx]
        · intro r k q; simp (disch := omega) only [rdx, rdi hi]
theorem op_trace {μ : Mi} (h : Inv0 μ) {x1 x2 x3 : Int} (r1 : R32 x1) (r2 : R32 x2) : OpP (D_X6_trace x1 x2 x3) (D_X7_trace x1 x2 x3) μ := by
  obtain ⟨hT, hA, hM, hS, hC⟩ := h
  have hx2 := wid r2.1 r2.2
  by_cases c1 : 0 < rd μ 0 false 1 ∧ (x1 = 0 ∨ x1 = 1)
  rotate_left
  · refine ⟨-99, ?_, ?_⟩
    · unfold D_X6_trace; rw [isMan_X hA r1, if_pos (yb10 c1)]
    · unfold D_X7_trace D_X7_isTrace; rw [man_M hA rfl rfl r1, if_pos (yb10 c1), bp_k, if_neg (by decide)]
  obtain ⟨i, e1, e2, e3, e4, e5, e6⟩ := man_of c1
  have hMi := hM i
  have hm := mi_le i
  obtain ⟨⟨b1, b2, b3⟩, b4, b5, b6, b7⟩ := hM i
  by_cases c2 : 0 ≤ x2 ∧ x2 < rd μ 2 i 3
  rotate_left
  · refine ⟨-99, ?_, ?_⟩
    · unfold D_X6_trace
      rw [isMan_X hA r1, if_neg (nb10 c1), e2, has_X b1 b2 r2, if_neg (fun q => q (yb10 c2))]
    · unfold D_X7_trace
      rw [e1, isTrace_M hA hMi rfl rfl rfl r2 c1.1, bp_k, if_neg (fun q => q (yb10 c2))]
  obtain ⟨t, rfl⟩ : ∃ t : Nat, x2 = (t : Int) := ⟨x2.toNat, by omega⟩
  have ht8 : t < 8 := by omega
  obtain ⟨q1, q2⟩ := b5 t c2.2
  have e8 : ix (8 * (mi i : Int) + (t : Int)) = 8 * mi i + t := by
    rw [show 8 * (mi i : Int) + (t : Int) = ((8 * mi i + t : Nat) : Int) by omega, ixn _ (by omega)]
  have hb : (0 : Int) ≤ t ∧ (t : Int) < 8 := by omega
  have hb2 : 0 ≤ 8 * (mi i : Int) + (t : Int) ∧ 8 * (mi i : Int) + (t : Int) < 16 := by omega
  obtain ⟨_, _, _, _, _, _, _, _, o1, o2⟩ := q1
  obtain ⟨w1, w2, w3, w4, w5, w6⟩ := q2
  unfold OpP D_X6_trace D_X7_trace
  rw [isMan_X hA r1, if_neg (nb10 c1), e2, has_X b1 b2 r2, if_pos (nb10 c2), e1, isTrace_M hA hMi rfl rfl rfl r2 c1.1, bp_k, if_pos (nb10 c2), hx2, wid (x := 8 * (mi i : Int) + (t : Int)) (by omega) (by omega), e8, ixn t (by omega), w1, w2, w3, w4, w5, w6]
  simp only [if_pos hb, if_pos hb2, some_ite]
  refine ⟨_, ?_, rfl⟩
  rcases o1 with o1 | o1
  · rw [o1, if_pos (show w32 0 = 0 by decide)]
  · rw [o1, if_neg (show ¬ w32 1 = 0 by decide)]
