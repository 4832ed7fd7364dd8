/-! PURE: the plain calls -/
theorem rdx {μ : Mi} {r : Nat} {i : Bool} {j : Nat} {v : Int} {r' : Nat} {i' : Bool} {j' : Nat} (h : ¬ (r' = r ∧ j' = j)) : rd (wr μ r i j v) r' i' j' = rd μ r' i' j' := by rw [rd_wr, if_neg (fun z => h ⟨z.1, z.2.2⟩)]
theorem nb10 {c : Prop} [Decidable c] (h : c) : ¬ w32 (if c then 1 else 0) = 0 := fun q => (b10.mp q) h
theorem yb10 {c : Prop} [Decidable c] (h : ¬ c) : w32 (if c then 1 else 0) = 0 := b10.mpr h
theorem op_end {μ : Mi} (h : Inv0 μ) {x1 : Int} (r1 : R32 x1) : OpE (D_X6_end x1) (D_X7_end x1) μ := by
  obtain ⟨hT, hA, hM, hS, hC⟩ := h
  have hT' := hT
  obtain ⟨t1, t2, t3, t4⟩ := hT'
  have hl : w32 (rd μ 6 false 1) = rd μ 6 false 1 := wid (by omega) (by omega)
  have hx := wid r1.1 r1.2
  by_cases c : 0 ≤ x1 ∧ x1 ≤ rd μ 6 false 1
  · refine ⟨1, wr μ 6 false 1 x1, wr (wr μ 6 false 1 x1) 7 false 1 x1, ?_, ?_, ⟨?_, hA.tr ?_, fun i => (hM i).tr ?_ ?_ ?_, hS.tr ?_, chg.tr hC ?_⟩, fun i => Kp.of ?_ ?_⟩
    · unfold D_X6_end
      rw [hx, hl, if_neg (by omega), if_pos c.2]
    · unfold D_X7_end
      rw [rdx (by omega), t3, in_eq hx (by decide) hl, if_pos (nb10 c)]
    · refine ⟨?_, ?_, ?_, ?_⟩
      · rw [rdx (by omega), rd_s]; exact c.1
      · rw [rdx (by omega), rd_s]; omega
      · rw [rd_s, rdx (by omega), rd_s]
      · intro j hj
        rw [rdx (by omega), rdx (by omega), rdx (by omega), rdx (by omega)]
        exact t4 j hj
    all_goals intros; simp (disch := omega) only [rdx, true_or]
  · refine OpE.same ⟨hT, hA, hM, hS, hC⟩ 0 ?_ ?_
    · unfold D_X6_end
      rw [hx, hl]
      by_cases c1 : x1 < 0
      · rw [if_pos c1]
      · rw [if_neg c1, if_neg (by omega)]
    · unfold D_X7_end
      rw [t3, in_eq hx (by decide) hl, if_neg (fun q => q (yb10 c))]
theorem op_forget {μ : Mi} (h : Inv0 μ) : OpE D_X6_forget D_X7_forget μ := by
  obtain ⟨hT, hA, hM, hS, hC⟩ := h
  have hS' := hS
  obtain ⟨⟨s1, s2, s3⟩, s4⟩ := hS'
  refine ⟨rd μ 5 false 0, wr μ 5 false 0 0, wr (wr μ 5 false 0 0) 7 false 32 0, rfl, ?_, ⟨hT.tr ?_, hA.tr ?_, fun i => (hM i).tr ?_ ?_ ?_, ?_, chg.tr hC ?_⟩, fun i => Kp.of ?_ ?_⟩
  · unfold D_X7_forget
    rw [rdx (by omega), s3]
  case refine_7 =>
    refine ⟨⟨?_, ?_, ?_⟩, ?_⟩
    · rw [rdx (by omega), rd_s]; omega
    · rw [rdx (by omega), rd_s]; omega
    · rw [rd_s, rdx (by omega), rd_s]
    · intro k hk
      rw [rdx (by omega), rd_s] at hk
      omega
  all_goals intros; simp (disch := omega) only [rdx, true_or]
theorem op_leg {μ : Mi} (h : Inv0 μ) {x1 x2 : Int} (r1 : R32 x1) (r2 : R32 x2) : OpE (D_X6_leg x1 x2) (D_X7_leg x1 x2) μ := by
  obtain ⟨hT, hA, hM, hS, hC⟩ := h
  have hS' := hS
  obtain ⟨⟨s1, s2, s3⟩, s4⟩ := hS'
  have hA' := hA
  obtain ⟨-, -, ⟨a1, a2, a3⟩, -⟩ := hA'
  have hs : w32 (rd μ 5 false 0) = rd μ 5 false 0 := wid (by omega) (by omega)
  have hx2 := wid r2.1 r2.2
  by_cases c : (0 ≤ x1 ∧ x1 < rd μ 0 false 2) ∧ (0 ≤ x2 ∧ x2 ≤ 96) ∧ rd μ 5 false 0 < 20
  · obtain ⟨c1, c2, c3⟩ := c
    obtain ⟨z, hz⟩ : ∃ z : Nat, rd μ 5 false 0 = (z : Int) := ⟨(rd μ 5 false 0).toNat, by omega⟩
    rw [hz] at hs c3 s1 s2 s3 s4
    refine ⟨(z : Int) + 1, wr (wr (wr μ 37 false z x1) 38 false z x2) 5 false 0 ((z : Int) + 1), wr (wr (wr (wr (wr (wr μ 37 false z x1) 38 false z x2) 5 false 0 ((z : Int) + 1)) 63 false z x1) 64 false z x2) 7 false 32 ((z : Int) + 1), ?_, ?_, ⟨hT.tr ?_, hA.tr ?_, fun i => (hM i).tr ?_ ?_ ?_, ?_, chg.tr hC ?_⟩, fun i => Kp.of ?_ ?_⟩
    · unfold D_X6_leg D_X5_add
      rw [hasLink_X a1 a2 r1, isHour_X r2, if_neg (nb10 c1), if_pos (nb10 c2), hz, hs, if_pos (by omega), if_pos (by omega), if_pos (by omega), ixn z (by omega), bd_k]
    · unfold D_X7_leg
      rw [isLink_M (n := rd μ 0 false 2) (by rw [rdx (by omega), rdx (by omega), rdx (by omega)]; exact a3) a1 a2 r1, bp_k, if_neg (nb10 c1), in_eq hx2 (by decide) (by decide), if_neg (nb10 c2), rdx (by omega), rdx (by omega), rdx (by omega), s3, hs, if_pos (by omega), if_pos (by omega), if_pos (by omega), ixn z (by omega)]
    case refine_8 =>
      refine ⟨⟨?_, ?_, ?_⟩, ?_⟩
      · rw [rdx (by omega), rdx (by omega), rdx (by omega), rd_s]; omega
      · rw [rdx (by omega), rdx (by omega), rdx (by omega), rd_s]; omega
      · rw [rd_s, rdx (by omega), rdx (by omega), rdx (by omega), rd_s]
      · intro k hk
        rw [rdx (by omega), rdx (by omega), rdx (by omega), rd_s] at hk
        by_cases e : k = z
        · subst e
          simp (disch := omega) only [rdx, rd_s]
          exact ⟨⟨c1.1, c1.2, trivial⟩, c2.1, c2.2, trivial⟩
        · have := s4 k (by omega)
          simp (disch := omega) only [rdx, rd_s]
          exact this
    all_goals intros; simp (disch := omega) only [rdx, true_or]
  · refine OpE.same ⟨hT, hA, hM, hS, hC⟩ (-1) ?_ ?_
    · unfold D_X6_leg
      rw [hasLink_X a1 a2 r1, isHour_X r2]
      by_cases c1 : 0 ≤ x1 ∧ x1 < rd μ 0 false 2
      · rw [if_neg (nb10 c1)]
        by_cases c2 : 0 ≤ x2 ∧ x2 ≤ 96
        · rw [if_pos (nb10 c2)]
          unfold D_X5_add
          rw [hs, if_neg (by omega), bd_k]
        · rw [if_neg (fun q => q (yb10 c2))]
      · rw [if_pos (yb10 c1)]
    · unfold D_X7_leg
      rw [isLink_M a3 a1 a2 r1, bp_k, in_eq hx2 (by decide) (by decide)]
      by_cases c1 : 0 ≤ x1 ∧ x1 < rd μ 0 false 2
      · rw [if_neg (nb10 c1)]
        by_cases c2 : 0 ≤ x2 ∧ x2 ≤ 96
        · rw [if_neg (nb10 c2), s3, hs, if_neg (by omega)]
        · rw [if_pos (yb10 c2)]
      · rw [if_pos (yb10 c1)]
theorem op_count {μ : Mi} (h : Inv0 μ) (x1 : Int) : D_X6_count x1 μ = D_X7_count x1 μ := by
  obtain ⟨⟨_, _, t3, _⟩, ⟨⟨_, _, a3⟩, ⟨_, _, a6⟩, ⟨_, _, a9⟩, -⟩, hM, ⟨⟨_, _, s3⟩, -⟩, hC⟩ := h
  have m1 := (hM false).1.2.2
  have m2 := (hM true).1.2.2
  unfold D_X6_count D_X7_count
  rw [t3, a3, a6, a9, s3, ← m1, ← m2]
  rfl
theorem op_link {μ : Mi} (h : Inv0 μ) {x1 x2 : Int} (r1 : R32 x1) (r2 : R32 x2) : OpP (D_X6_link x1 x2) (D_X7_link x1 x2) μ := by
  obtain ⟨hT, hA, hM, hS, hC⟩ := h
  obtain ⟨-, -, ⟨a1, a2, a3⟩, -, -, hL⟩ := hA
  have hx1 := wid r1.1 r1.2
  have hx2 := wid r2.1 r2.2
  unfold OpP D_X6_link D_X7_link
  rw [hasLink_X a1 a2 r1, isLink_M a3 a1 a2 r1, bp_k, in_eq hx2 (by decide) (by decide), hx1, hx2]
  by_cases c1 : 0 ≤ x1 ∧ x1 < rd μ 0 false 2
  · rw [if_pos (nb10 c1), if_neg (nb10 c1)]
    obtain ⟨z, rfl⟩ : ∃ z : Nat, x1 = (z : Int) := ⟨x1.toNat, by omega⟩
    obtain ⟨⟨_, _, l1⟩, ⟨_, _, l2⟩, _, ⟨_, _, l3⟩, ⟨_, _, l4⟩, ⟨_, _, l5⟩, ⟨l6, l7⟩, _, _⟩ := hL z c1.2
    have hof : ∀ w : Nat, w ≤ 5 → D_X7_ofLink (z : Int) (w : Int) μ = some (rd μ 52 false (6 * z + w)) := fun w hw => by
      unfold D_X7_ofLink
      rw [wid (x := 6 * (z : Int) + (w : Int)) (by omega) (by omega), if_pos (by omega), ixd (by omega) (by omega)]
      congr 2
    have hzz : ix (z : Int) = z := ixn z (by omega)
    have hin : (0 : Int) ≤ z ∧ (z : Int) < 16 := by omega
    by_cases c2 : 0 ≤ x2 ∧ x2 ≤ 5
    · rw [if_neg (nb10 c2)]
      rcases (by omega : x2 = 0 ∨ x2 = 1 ∨ x2 = 2 ∨ x2 = 3 ∨ x2 = 4 ∨ x2 = 5) with e | e | e | e | e | e <;> subst e
      · exact ⟨_, by rw [if_pos rfl, if_pos hin, hzz], by have q := hof 0 (by omega); rw [show (((0 : Nat) : Int)) = 0 from rfl] at q; rw [q, bp_k]; exact congrArg some l1⟩
      · exact ⟨_, by rw [if_neg (by omega), if_pos rfl, if_pos hin, hzz], by rw [show (1 : Int) = ((1 : Nat) : Int) from rfl, hof 1 (by omega), bp_k, l2]⟩
      · exact ⟨_, by rw [if_neg (by omega), if_neg (by omega), if_pos rfl, if_pos hin, hzz], by rw [show (2 : Int) = ((2 : Nat) : Int) from rfl, hof 2 (by omega), bp_k, l3]⟩
      · exact ⟨_, by rw [if_neg (by omega), if_neg (by omega), if_neg (by omega), if_pos rfl, if_pos hin, hzz], by rw [show (3 : Int) = ((3 : Nat) : Int) from rfl, hof 3 (by omega), bp_k, l4]⟩
      · exact ⟨_, by rw [if_neg (by omega), if_neg (by omega), if_neg (by omega), if_neg (by omega), if_pos rfl, if_pos hin, hzz], by rw [show (4 : Int) = ((4 : Nat) : Int) from rfl, hof 4 (by omega), bp_k, l5]⟩
      · refine ⟨rd μ 18 false z, ?_, by rw [show (5 : Int) = ((5 : Nat) : Int) from rfl, hof 5 (by omega), bp_k, l7]⟩
        rw [if_neg (by omega), if_neg (by omega), if_neg (by omega), if_neg (by omega), if_neg (by omega), if_pos rfl, if_pos hin, hzz]
        rcases l6 with e | e <;> rw [e]
        · rw [if_pos (by decide)]
        · rw [if_neg (by decide)]
    · rw [if_pos (yb10 c2)]
      exact ⟨-1, by rw [if_neg (by omega), if_neg (by omega), if_neg (by omega), if_neg (by omega), if_neg (by omega), if_neg (by omega)], rfl⟩
  · rw [if_neg (fun q => q (yb10 c1)), if_pos (yb10 c1)]
    exact ⟨-1, rfl, rfl⟩
theorem op_town {μ : Mi} (h : Inv0 μ) {x1 x2 : Int} (r1 : R32 x1) (r2 : R32 x2) : OpP (D_X6_town x1 x2) (D_X7_town x1 x2) μ := by
  obtain ⟨hT, hA, hM, hS, hC⟩ := h
  obtain ⟨-, ⟨a1, a2, a3⟩, -, -, hL, -⟩ := hA
  have hx1 := wid r1.1 r1.2
  have hx2 := wid r2.1 r2.2
  unfold OpP D_X6_town D_X7_town
  rw [hasTown_X a1 a2 r1, isTown_M a3 a1 a2 r1, bp_k, in_eq hx2 (by decide) (by decide), hx1, hx2]
  by_cases c1 : 0 ≤ x1 ∧ x1 < rd μ 0 false 1
  · rw [if_pos (nb10 c1), if_neg (nb10 c1)]
    obtain ⟨z, rfl⟩ : ∃ z : Nat, x1 = (z : Int) := ⟨x1.toNat, by omega⟩
    obtain ⟨_, _, l1, _, _, l2⟩ := hL z c1.2
    have hzz : ix (z : Int) = z := ixn z (by omega)
    have hin : (0 : Int) ≤ z ∧ (z : Int) < 8 := by omega
    rw [hzz]
    by_cases c2 : x2 = 0
    · exact ⟨_, by rw [if_pos c2, if_pos hin], by rw [if_pos (nb10 (by omega)), if_neg (by omega), if_pos hin, l1]⟩
    · by_cases c3 : x2 = 1
      · exact ⟨_, by rw [if_neg c2, if_pos c3, if_pos hin], by rw [if_pos (nb10 (by omega)), if_pos (by omega), if_pos hin, l2]⟩
      · exact ⟨-99, by rw [if_neg c2, if_neg c3], by rw [if_neg (fun q => q (yb10 (by omega)))]⟩
  · rw [if_neg (fun q => q (yb10 c1)), if_pos (yb10 c1)]
    exact ⟨-99, rfl, rfl⟩
