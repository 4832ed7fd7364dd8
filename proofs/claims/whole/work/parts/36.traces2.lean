/-! PURE: stamp, paper, look, undo, doubt, trace -/
theorem Mi_ext {a b : Mi} (h : ∀ r i j, rd a r i j = rd b r i j) (h2 : ∀ r i j, rl a r i j = rl b r i j) : a = b := Prod.ext (funext fun r => funext fun i => funext fun j => h r i j) (funext fun r => funext fun i => funext fun j => h2 r i j)
theorem adX_o {μ : Mi} {i : Bool} {z : Nat} {w p f t o : Int} : wr (adX μ i z w p f t 0) 28 i z o = adX μ i z w p f t o := by
  refine Mi_ext (fun r' i' j' => ?_) (fun _ _ _ => rfl)
  unfold adX
  by_cases c : r' = 28 ∧ i' = i ∧ j' = z
  · obtain ⟨rfl, rfl, rfl⟩ := c
    simp (disch := omega) only [rdx, rd_s]
  · simp only [rd_wr, if_neg c]
theorem man_M {μ m : Mi} (hA : IAtlas μ) (e1 : rd m 7 false 17 = rd μ 7 false 17) (e2 : rd m 0 false 1 = rd μ 0 false 1) {x : Int} (hx : R32 x) : D_X7_isMan x m = if 0 < rd μ 0 false 1 ∧ (x = 0 ∨ x = 1) then 1 else 0 := by
  obtain ⟨-, ⟨a1, a2, a3⟩, -⟩ := hA
  rw [isMan_M (by rw [e1, e2]; exact a3) (by rw [e2]; exact a1) (by rw [e2]; exact a2) hx, e2]
theorem kd_M {μ : Mi} {i : Bool} (h : IMan μ i) {z : Nat} (hz : rd μ 2 i 3 = (z : Int)) {m : Mi} (e : ∀ k, rd m 57 false k = rd μ 57 false k) {w : Int} : ∀ t, t < z → 0 ≤ rd m 57 false (8 * mi i + t) ∧ rd m 57 false (8 * mi i + t) ≤ 2 ∧ kd μ i w t = decide (rd m 57 false (8 * mi i + t) = w) := by
  intro t ht
  obtain ⟨q1, q2⟩ := h.2.2.1 t (by omega)
  rw [e, q2.1]
  have := q1.1
  exact ⟨by omega, by omega, rfl⟩
theorem op_stamp {μ : Mi} (h : Inv0 μ) {x1 x2 x3 x4 x5 : Int} (r1 : R32 x1) (r2 : R32 x2) (h3 : x3 = 0 ∨ x3 = 1) (r4 : R32 x4) (r5 : R32 x5) : OpE (D_X6_stamp x1 x2 x3 x4 x5) (D_X7_stamp x1 x2 x3 x4 x5) μ := by
  have hI := h
  obtain ⟨hT, hA, hM, hS, hC⟩ := h
  have hA' := hA
  obtain ⟨⟨l1, l2, l3⟩, ⟨a1, a2, a3⟩, -⟩ := hA'
  have hx4 := wid r4.1 r4.2
  have hx5 := wid r5.1 r5.2
  have hland : ∀ m : Mi, rd m 7 false 15 = rd μ 7 false 15 → D_X7_in x2 0 (rd m 7 false 15 - 1) = if 0 ≤ x2 ∧ x2 < rd μ 0 false 0 then 1 else 0 := fun m q => by
    rw [q, l3, in_eq (wid r2.1 r2.2) (by decide) (wid (by omega) (by omega))]
    by_cases c : 0 ≤ x2 ∧ x2 < rd μ 0 false 0
    · rw [if_pos c, if_pos (by omega)]
    · rw [if_neg c, if_neg (by omega)]
  by_cases c1 : 0 < rd μ 0 false 1 ∧ (x1 = 0 ∨ x1 = 1)
  rotate_left
  · refine OpE.same hI (-1) ?_ ?_
    · unfold D_X6_stamp; rw [isMan_X hA r1, if_pos (yb10 c1)]
    · unfold D_X7_stamp; rw [man_M hA rfl rfl r1, if_pos (yb10 c1)]
  by_cases c2 : 0 ≤ x2 ∧ x2 < rd μ 0 false 0
  rotate_left
  · refine OpE.same hI (-1) ?_ ?_
    · unfold D_X6_stamp; rw [isMan_X hA r1, if_neg (nb10 c1), hasLand_X l1 l2 r2, if_pos (yb10 c2)]
    · unfold D_X7_stamp; rw [man_M hA rfl rfl r1, if_neg (nb10 c1), hland μ rfl, if_pos (yb10 c2)]
  by_cases c3 : -1 ≤ x4 ∧ x4 ≤ x5 ∧ x5 ≤ 5
  rotate_left
  · refine OpE.same hI (-1) ?_ ?_
    · unfold D_X6_stamp
      rw [isMan_X hA r1, if_neg (nb10 c1), hasLand_X l1 l2 r2, if_neg (nb10 c2), hx4, hx5]
      by_cases d1 : x4 < -1
      · rw [if_pos d1]
      · rw [if_neg d1]
        by_cases d2 : x5 < x4
        · rw [if_pos d2]
        · rw [if_neg d2, if_neg (by omega)]
    · unfold D_X7_stamp
      rw [man_M hA rfl rfl r1, if_neg (nb10 c1), hland μ rfl, if_neg (nb10 c2), in_eq hx4 (by decide) (by decide), in_eq hx5 hx4 (by decide)]
      by_cases d1 : -1 ≤ x4 ∧ x4 ≤ 5
      · rw [if_neg (nb10 d1), if_pos (yb10 (by omega))]
      · rw [if_pos (yb10 d1)]
  obtain ⟨i, e1, e2, e3, e4, e5, e6⟩ := man_of c1
  have hMi := hM i
  obtain ⟨⟨b1, b2, b3⟩, b4, b5, b6, b7⟩ := hM i
  obtain ⟨z, hz⟩ : ∃ z : Nat, rd μ 2 i 3 = (z : Int) := ⟨(rd μ 2 i 3).toNat, by omega⟩
  rw [hz, show ((z : Int)).toNat = z by omega] at b6
  have hcn := cn_le (kd μ i 0) z
  have hX := add_X hMi (w := 0) (p := x2) (f := x4) (t := x5) (by decide) hz
  have hmost : D_X2_mostOf 0 = 6 := by decide
  rw [hmost] at hX
  have hMany : ∀ m : Mi, rd m 56 false (mi i) = (z : Int) → (∀ k, rd m 57 false k = rd μ 57 false k) → D_X7_many x1 0 m = some ((cn (kd μ i 0) z : Nat) : Int) := fun m q1 q2 => by
    rw [e1]
    exact many_M (by decide) q1 (by omega) (kd_M hMi hz q2)
  have hMf : ∀ m : Mi, rd m 7 false 15 = rd μ 7 false 15 → rd m 7 false 17 = rd μ 7 false 17 → rd m 0 false 1 = rd μ 0 false 1 → rd m 56 false (mi i) = (z : Int) → (∀ k, rd m 57 false k = rd μ 57 false k) → D_X7_stamp x1 x2 x3 x4 x5 m = if z < 8 ∧ cn (kd μ i 0) z < 6 then some ((z : Int), adM m i z 0 x2 x4 x5 x3) else some (-1, m) := fun m q0 q1 q2 q3 q4 => by
    unfold D_X7_stamp
    rw [man_M hA q1 q2 r1, if_neg (nb10 c1), hland m q0, if_neg (nb10 c2), in_eq hx4 (by decide) (by decide), in_eq hx5 hx4 (by decide), if_neg (nb10 (by omega)), if_neg (nb10 (by omega)), hMany m q3 q4, bp_k, wid (x := ((cn (kd μ i 0) z : Nat) : Int)) (by omega) (by omega)]
    by_cases d : cn (kd μ i 0) z < 6
    · rw [if_pos (by omega)]
      have hleft : B_X7_stamp_73 x3 x5 x4 x2 0 x1 m = if z < 8 ∧ cn (kd μ i 0) z < 6 then some ((z : Int), adM m i z 0 x2 x4 x5 x3) else some (-1, m) := by
        unfold B_X7_stamp_73
        rw [e1, left_M q3 (by omega)]
        by_cases d2 : z < 8
        · rw [if_pos d2, if_pos ⟨d2, d⟩, bd_k]
        · rw [if_neg d2, if_neg (fun q => d2 q.1), bd_k]
      rcases h3 with rfl | rfl
      · rw [if_pos (by decide)]; exact hleft
      · rw [if_neg (by decide)]; exact hleft
    · rw [if_neg (by omega), if_neg (fun q => d q.2)]
  by_cases c4 : z < 8 ∧ cn (kd μ i 0) z < 6
  · refine ⟨(z : Int), adX μ i z 0 x2 x4 x5 x3, adM (adX μ i z 0 x2 x4 x5 x3) i z 0 x2 x4 x5 x3, ?_, ?_, add_step hI hz c4.1 ⟨fun _ => c4.2, fun q => absurd q (by decide)⟩ (Or.inl rfl) ⟨c2.1, fun _ => c2.2, fun q => absurd rfl q⟩ ⟨c3.2.1, fun _ => ⟨c3.1, c3.2.2⟩, fun q => absurd rfl q, fun q => absurd q (by decide)⟩ h3⟩
    · unfold D_X6_stamp
      rw [isMan_X hA r1, if_neg (nb10 c1), hasLand_X l1 l2 r2, if_neg (nb10 c2), hx4, hx5, if_neg (by omega), if_neg (by omega), if_pos (by omega), e2, hX, if_pos (by omega), bd_k, wid (x := (z : Int)) (by omega) (by omega), if_neg (by omega), if_pos (by omega), if_pos (isB_b h3), ixn z (by omega), adX_o]
    · rw [hMf _ ?_ ?_ ?_ ?_ ?_, if_pos c4]
      · unfold adX; simp (disch := omega) only [rdx]
      · unfold adX; simp (disch := omega) only [rdx]
      · unfold adX; simp (disch := omega) only [rdx]
      · unfold adX; simp (disch := omega) only [rdx]; rw [b3]; exact hz
      · intro k; unfold adX; simp (disch := omega) only [rdx]
  · refine OpE.same hI (-1) ?_ ?_
    · unfold D_X6_stamp
      rw [isMan_X hA r1, if_neg (nb10 c1), hasLand_X l1 l2 r2, if_neg (nb10 c2), hx4, hx5, if_neg (by omega), if_neg (by omega), if_pos (by omega), e2, hX, if_neg (by omega), bd_k, if_pos (by decide)]
    · rw [hMf μ rfl rfl rfl (by rw [b3]; exact hz) (fun _ => rfl), if_neg c4]
theorem op_paper {μ : Mi} (h : Inv0 μ) {x1 x2 x3 : Int} (r1 : R32 x1) (r2 : R32 x2) (r3 : R32 x3) : OpE (D_X6_paper x1 x2 x3) (D_X7_paper x1 x2 x3) μ := by
  have hI := h
  obtain ⟨hT, hA, hM, hS, hC⟩ := h
  have hA' := hA
  obtain ⟨⟨l1, l2, l3⟩, ⟨a1, a2, a3⟩, -⟩ := hA'
  have hx3 := wid r3.1 r3.2
  by_cases c1 : 0 < rd μ 0 false 1 ∧ (x1 = 0 ∨ x1 = 1)
  rotate_left
  · refine OpE.same hI (-1) ?_ ?_
    · unfold D_X6_paper; rw [isMan_X hA r1, if_pos (yb10 c1)]
    · unfold D_X7_paper; rw [man_M hA rfl rfl r1, if_pos (yb10 c1)]
  by_cases c2 : 0 ≤ x2 ∧ x2 < rd μ 0 false 1
  rotate_left
  · refine OpE.same hI (-1) ?_ ?_
    · unfold D_X6_paper; rw [isMan_X hA r1, if_neg (nb10 c1), hasTown_X a1 a2 r2, if_pos (yb10 c2)]
    · unfold D_X7_paper; rw [man_M hA rfl rfl r1, if_neg (nb10 c1), isTown_M a3 a1 a2 r2, bp_k, if_pos (yb10 c2)]
  by_cases c3 : 0 ≤ x3 ∧ x3 ≤ 96
  rotate_left
  · refine OpE.same hI (-1) ?_ ?_
    · unfold D_X6_paper
      rw [isMan_X hA r1, if_neg (nb10 c1), hasTown_X a1 a2 r2, if_neg (nb10 c2), isHour_X r3, if_neg (fun q => q (yb10 c3))]
    · unfold D_X7_paper; rw [man_M hA rfl rfl r1, if_neg (nb10 c1), isTown_M a3 a1 a2 r2, bp_k, if_neg (nb10 c2), in_eq hx3 (by decide) (by decide), if_pos (yb10 c3)]
  obtain ⟨i, e1, e2, e3, e4, e5, e6⟩ := man_of c1
  have hMi := hM i
  obtain ⟨⟨b1, b2, b3⟩, b4, b5, b6, b7⟩ := hM i
  obtain ⟨z, hz⟩ : ∃ z : Nat, rd μ 2 i 3 = (z : Int) := ⟨(rd μ 2 i 3).toNat, by omega⟩
  have hcn := cn_le (kd μ i 1) z
  have hX := add_X hMi (w := 1) (p := x2) (f := x3) (t := x3) (by decide) hz
  have hmost : D_X2_mostOf 1 = 8 := by decide
  rw [hmost] at hX
  have hMf : ∀ m : Mi, rd m 7 false 17 = rd μ 7 false 17 → rd m 0 false 1 = rd μ 0 false 1 → rd m 56 false (mi i) = (z : Int) → D_X7_paper x1 x2 x3 m = if z < 8 then some ((z : Int), adM m i z 1 x2 x3 x3 0) else some (-1, m) := fun m q1 q2 q3 => by
    unfold D_X7_paper
    rw [man_M hA q1 q2 r1, if_neg (nb10 c1), isTown_M (n := rd μ 0 false 1) (by rw [q1]; exact a3) a1 a2 r2, bp_k, if_neg (nb10 c2), in_eq hx3 (by decide) (by decide), if_neg (nb10 c3), e1, left_M q3 (by omega)]
    split <;> rw [bd_k]
  by_cases c4 : z < 8
  · refine ⟨(z : Int), adX μ i z 1 x2 x3 x3 0, adM (adX μ i z 1 x2 x3 x3 0) i z 1 x2 x3 x3 0, ?_, ?_, add_step hI hz c4 ⟨fun q => absurd q (by decide), fun q => absurd q (by decide)⟩ (Or.inr (Or.inl rfl)) ⟨c2.1, fun q => absurd q (by decide), fun _ => c2.2⟩ ⟨Int.le_refl _, fun q => absurd q (by decide), fun _ => c3, fun _ => rfl⟩ (Or.inl rfl)⟩
    · unfold D_X6_paper
      rw [isMan_X hA r1, if_neg (nb10 c1), hasTown_X a1 a2 r2, if_neg (nb10 c2), isHour_X r3, if_pos (nb10 c3), e2, hX, if_pos (by omega), bd_k]
    · rw [hMf _ ?_ ?_ ?_, if_pos c4]
      · unfold adX; simp (disch := omega) only [rdx]
      · unfold adX; simp (disch := omega) only [rdx]
      · unfold adX; simp (disch := omega) only [rdx]; rw [b3]; exact hz
  · refine OpE.same hI (-1) ?_ ?_
    · unfold D_X6_paper
      rw [isMan_X hA r1, if_neg (nb10 c1), hasTown_X a1 a2 r2, if_neg (nb10 c2), isHour_X r3, if_pos (nb10 c3), e2, hX, if_neg (by omega), bd_k]
    · rw [hMf μ rfl rfl (by rw [b3]; exact hz), if_neg c4]
theorem op_look {μ : Mi} (h : Inv0 μ) {x1 x2 x3 x4 : Int} (r1 : R32 x1) (r2 : R32 x2) (r3 : R32 x3) (r4 : R32 x4) : OpE (D_X6_look x1 x2 x3 x4) (D_X7_look x1 x2 x3 x4) μ := by
  have hI := h
  obtain ⟨hT, hA, hM, hS, hC⟩ := h
  have hA' := hA
  obtain ⟨⟨l1, l2, l3⟩, ⟨a1, a2, a3⟩, -⟩ := hA'
  have hx3 := wid r3.1 r3.2
  have hx4 := wid r4.1 r4.2
  by_cases c1 : 0 < rd μ 0 false 1 ∧ (x1 = 0 ∨ x1 = 1)
  rotate_left
  · refine OpE.same hI (-1) ?_ ?_
    · unfold D_X6_look; rw [isMan_X hA r1, if_pos (yb10 c1)]
    · unfold D_X7_look; rw [man_M hA rfl rfl r1, if_pos (yb10 c1)]
  by_cases c2 : 0 ≤ x2 ∧ x2 < rd μ 0 false 1
  rotate_left
  · refine OpE.same hI (-1) ?_ ?_
    · unfold D_X6_look; rw [isMan_X hA r1, if_neg (nb10 c1), hasTown_X a1 a2 r2, if_pos (yb10 c2)]
    · unfold D_X7_look; rw [man_M hA rfl rfl r1, if_neg (nb10 c1), isTown_M a3 a1 a2 r2, bp_k, if_pos (yb10 c2)]
  by_cases c3 : (0 ≤ x3 ∧ x3 ≤ 96) ∧ (0 ≤ x4 ∧ x4 ≤ 96) ∧ x3 ≤ x4
  rotate_left
  · refine OpE.same hI (-1) ?_ ?_
    · unfold D_X6_look
      rw [isMan_X hA r1, if_neg (nb10 c1), hasTown_X a1 a2 r2, if_neg (nb10 c2), isHour_X r3, isHour_X r4, hx3, hx4]
      by_cases d1 : 0 ≤ x3 ∧ x3 ≤ 96
      · rw [if_neg (nb10 d1)]
        by_cases d2 : 0 ≤ x4 ∧ x4 ≤ 96
        · rw [if_neg (nb10 d2), if_neg (by omega)]
        · rw [if_pos (yb10 d2)]
      · rw [if_pos (yb10 d1)]
    · unfold D_X7_look
      rw [man_M hA rfl rfl r1, if_neg (nb10 c1), isTown_M a3 a1 a2 r2, bp_k, if_neg (nb10 c2), in_eq hx3 (by decide) (by decide), in_eq hx4 hx3 (by decide)]
      by_cases d1 : 0 ≤ x3 ∧ x3 ≤ 96
      · rw [if_neg (nb10 d1), if_pos (yb10 (by omega))]
      · rw [if_pos (yb10 d1)]
  obtain ⟨c31, c32, c33⟩ := c3
  obtain ⟨i, e1, e2, e3, e4, e5, e6⟩ := man_of c1
  have hMi := hM i
  obtain ⟨⟨b1, b2, b3⟩, b4, b5, b6, b7⟩ := hM i
  obtain ⟨z, hz⟩ : ∃ z : Nat, rd μ 2 i 3 = (z : Int) := ⟨(rd μ 2 i 3).toNat, by omega⟩
  have hcn := cn_le (kd μ i 2) z
  have hX := add_X hMi (w := 2) (p := x2) (f := x3) (t := x4) (by decide) hz
  have hmost : D_X2_mostOf 2 = 2 := by decide
  rw [hmost] at hX
  have hMany : ∀ m : Mi, rd m 56 false (mi i) = (z : Int) → (∀ k, rd m 57 false k = rd μ 57 false k) → D_X7_many x1 2 m = some ((cn (kd μ i 2) z : Nat) : Int) := fun m q1 q2 => by
    rw [e1]
    exact many_M (by decide) q1 (by omega) (kd_M hMi hz q2)
  have hMf : ∀ m : Mi, rd m 7 false 17 = rd μ 7 false 17 → rd m 0 false 1 = rd μ 0 false 1 → rd m 56 false (mi i) = (z : Int) → (∀ k, rd m 57 false k = rd μ 57 false k) → D_X7_look x1 x2 x3 x4 m = if z < 8 ∧ cn (kd μ i 2) z < 2 then some ((z : Int), adM m i z 2 x2 x3 x4 0) else some (-1, m) := fun m q1 q2 q3 q4 => by
    unfold D_X7_look
    rw [man_M hA q1 q2 r1, if_neg (nb10 c1), isTown_M (n := rd μ 0 false 1) (by rw [q1]; exact a3) a1 a2 r2, bp_k, if_neg (nb10 c2), in_eq hx3 (by decide) (by decide), if_neg (nb10 c31), in_eq hx4 hx3 (by decide), if_neg (nb10 ⟨c33, c32.2⟩), hMany m q3 q4, bp_k, wid (x := ((cn (kd μ i 2) z : Nat) : Int)) (by omega) (by omega)]
    by_cases d : cn (kd μ i 2) z < 2
    · rw [if_neg (by omega), e1, left_M q3 (by omega)]
      by_cases d2 : z < 8
      · rw [if_pos d2, if_pos ⟨d2, d⟩, bd_k]
      · rw [if_neg d2, if_neg (fun q => d2 q.1), bd_k]
    · rw [if_pos (by omega), if_neg (fun q => d q.2)]
  by_cases c4 : z < 8 ∧ cn (kd μ i 2) z < 2
  · refine ⟨(z : Int), adX μ i z 2 x2 x3 x4 0, adM (adX μ i z 2 x2 x3 x4 0) i z 2 x2 x3 x4 0, ?_, ?_, add_step hI hz c4.1 ⟨fun q => absurd q (by decide), fun _ => c4.2⟩ (Or.inr (Or.inr rfl)) ⟨c2.1, fun q => absurd q (by decide), fun _ => c2.2⟩ ⟨c33, fun q => absurd q (by decide), fun _ => ⟨c31.1, c32.2⟩, fun q => absurd q (by decide)⟩ (Or.inl rfl)⟩
    · unfold D_X6_look
      rw [isMan_X hA r1, if_neg (nb10 c1), hasTown_X a1 a2 r2, if_neg (nb10 c2), isHour_X r3, if_neg (nb10 c31), isHour_X r4, if_neg (nb10 c32), hx3, hx4, if_pos c33, e2, hX, if_pos (by omega), bd_k]
    · rw [hMf _ ?_ ?_ ?_ ?_, if_pos c4]
      · unfold adX; simp (disch := omega) only [rdx]
      · unfold adX; simp (disch := omega) only [rdx]
      · unfold adX; simp (disch := omega) only [rdx]; rw [b3]; exact hz
      · intro k; unfold adX; simp (disch := omega) only [rdx]
  · refine OpE.same hI (-1) ?_ ?_
    · unfold D_X6_look
      rw [isMan_X hA r1, if_neg (nb10 c1), hasTown_X a1 a2 r2, if_neg (nb10 c2), isHour_X r3, if_neg (nb10 c31), isHour_X r4, if_neg (nb10 c32), hx3, hx4, if_pos c33, e2, hX, if_neg (by omega), bd_k]
    · rw [hMf μ rfl rfl (by rw [b3]; exact hz) (fun _ => rfl), if_neg c4]
