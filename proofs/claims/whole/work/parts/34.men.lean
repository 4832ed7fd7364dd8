/-! PURE: the calls about a man's traces -/
theorem mi_ne {i j : Bool} (h : ¬ i = j) : mi i ≠ mi j := by
  cases i <;> cases j <;> first | exact absurd rfl h | decide
theorem mi_le (i : Bool) : mi i ≤ 1 := by cases i <;> decide
/-- a man's cells are another's not -/
theorem rdi {μ : Mi} {r : Nat} {i : Bool} {j : Nat} {v : Int} {r' : Nat} {i' : Bool} {j' : Nat} (h : ¬ i' = i) : rd (wr μ r i j v) r' i' j' = rd μ r' i' j' := by rw [rd_wr, if_neg (fun z => h z.2.1)]
/-- one of the two men is spoken of -/
theorem man_of {μ : Mi} {x : Int} (h : 0 < rd μ 0 false 1 ∧ (x = 0 ∨ x = 1)) : ∃ i : Bool, x = (mi i : Int) ∧ (∀ m : Mi, D_X6_searchOf x m = i) ∧ ix x = mi i ∧ w32 x = x ∧ 0 ≤ x ∧ x < 2 := by
  rcases h.2 with e | e <;> subst e
  · exact ⟨false, rfl, fun _ => rfl, by decide, by decide, by decide, by decide⟩
  · exact ⟨true, rfl, fun _ => rfl, by decide, by decide, by decide, by decide⟩
theorem op_man {μ : Mi} (h : Inv0 μ) {x1 x2 x3 x4 : Int} (r1 : R32 x1) (r2 : R32 x2) (r3 : R32 x3) (r4 : R32 x4) : OpE (D_X6_man x1 x2 x3 x4) (D_X7_man x1 x2 x3 x4) μ := by
  have hI := h
  obtain ⟨hT, hA, hM, hS, hC⟩ := h
  have hA' := hA
  obtain ⟨-, ⟨a1, a2, a3⟩, -⟩ := hA'
  have hx3 := wid r3.1 r3.2
  have hx4 := wid r4.1 r4.2
  by_cases c1 : 0 < rd μ 0 false 1 ∧ (x1 = 0 ∨ x1 = 1)
  rotate_left
  · refine OpE.same hI 0 ?_ ?_
    · unfold D_X6_man; rw [isMan_X hA r1, if_pos (yb10 c1)]
    · unfold D_X7_man; rw [isMan_M a3 a1 a2 r1, if_pos (yb10 c1)]
  by_cases c2 : 0 ≤ x2 ∧ x2 < rd μ 0 false 1
  rotate_left
  · refine OpE.same hI 0 ?_ ?_
    · unfold D_X6_man; rw [isMan_X hA r1, if_neg (nb10 c1), hasTown_X a1 a2 r2, if_pos (yb10 c2)]
    · unfold D_X7_man; rw [isMan_M a3 a1 a2 r1, if_neg (nb10 c1), isTown_M a3 a1 a2 r2, bp_k, if_pos (yb10 c2)]
  by_cases c3 : 0 ≤ x3 ∧ x3 ≤ 4
  rotate_left
  · refine OpE.same hI 0 ?_ ?_
    · unfold D_X6_man
      rw [isMan_X hA r1, if_neg (nb10 c1), hasTown_X a1 a2 r2, if_neg (nb10 c2), hx3]
      by_cases c : x3 < 0
      · rw [if_pos c]
      · rw [if_neg c, if_pos (by omega)]
    · unfold D_X7_man; rw [isMan_M a3 a1 a2 r1, if_neg (nb10 c1), isTown_M a3 a1 a2 r2, bp_k, if_neg (nb10 c2), in_eq hx3 (by decide) (by decide), if_pos (yb10 c3)]
  by_cases c4 : 1 ≤ x4 ∧ x4 ≤ 96
  rotate_left
  · refine OpE.same hI 0 ?_ ?_
    · unfold D_X6_man
      rw [isMan_X hA r1, if_neg (nb10 c1), hasTown_X a1 a2 r2, if_neg (nb10 c2), hx3, if_neg (by omega), if_neg (by omega), hx4]
      by_cases c : x4 < 1
      · rw [if_pos c]
      · rw [if_neg c, if_neg (by omega)]
    · unfold D_X7_man; rw [isMan_M a3 a1 a2 r1, if_neg (nb10 c1), isTown_M a3 a1 a2 r2, bp_k, if_neg (nb10 c2), in_eq hx3 (by decide) (by decide), if_neg (nb10 c3), in_eq hx4 (by decide) (by decide), if_neg (fun q => q (yb10 c4))]
  obtain ⟨i, e1, e2, e3, e4, e5, e6⟩ := man_of c1
  refine ⟨1, wr (wr (wr (wr μ 2 i 0 x2) 2 i 1 x3) 2 i 2 x4) 2 i 4 1, wr (wr (wr (wr (wr (wr (wr μ 2 i 0 x2) 2 i 1 x3) 2 i 2 x4) 2 i 4 1) 53 false (mi i) x2) 54 false (mi i) x3) 55 false (mi i) x4, ?_, ?_, ⟨hT.tr ?_, hA.tr ?_, fun i' => ?_, hS.tr ?_, chg.tr hC (fun i' => ?_)⟩, fun i' => ?_⟩
  · unfold D_X6_man D_X2_settle
    rw [isMan_X hA r1, if_neg (nb10 c1), hasTown_X a1 a2 r2, if_neg (nb10 c2), hx3, if_neg (by omega), if_neg (by omega), hx4, if_neg (by omega), if_pos c4.2, e2, bm_k]
  · unfold D_X7_man
    rw [isMan_M (by simp (disch := omega) only [rdx]; exact a3) (by simp (disch := omega) only [rdx]; exact a1) (by simp (disch := omega) only [rdx]; exact a2) r1]
    simp (disch := omega) only [rdx]
    rw [if_neg (nb10 c1), isTown_M (n := rd μ 0 false 1) (by simp (disch := omega) only [rdx]; exact a3) a1 a2 r2, bp_k, if_neg (nb10 c2), in_eq hx3 (by decide) (by decide), if_neg (nb10 c3), in_eq hx4 (by decide) (by decide), if_pos (nb10 c4), e4, if_pos ⟨e5, e6⟩, if_pos ⟨e5, e6⟩, if_pos ⟨e5, e6⟩, e3]
  · intros; simp (disch := omega) only [rdx]
  · intros; simp (disch := omega) only [rdx]
  · by_cases hi : i' = i
    · subst hi
      obtain ⟨⟨b1, b2, b3⟩, b4, b5, b6, b7⟩ := hM i'
      have hk : ∀ w : Int, ∀ m : Mi, (∀ k, rd m 24 i' k = rd μ 24 i' k) → kd m i' w = kd μ i' w := fun w m q => funext fun t => by unfold kd; rw [q]
      refine ⟨?_, fun _ => ?_, fun t ht => ?_, ?_, ?_⟩
      · simp (disch := omega) only [rdx]; exact ⟨b1, b2, b3⟩
      · simp (disch := omega) only [rdx, rd_s]
        exact ⟨⟨c2.1, c2.2, trivial⟩, ⟨c3.1, c3.2, trivial⟩, c4.1, c4.2, trivial⟩
      · simp (disch := omega) only [rdx] at ht
        refine ⟨(b5 t ht).1.tr ?_ ?_, ?_⟩
        · intros; simp (disch := omega) only [rdx]
        · intros; simp (disch := omega) only [rdx]
        · have := (b5 t ht).2
          unfold ITm at *
          simp (disch := omega) only [rdx]
          exact this
      · rw [hk 0 _ (by intros; simp (disch := omega) only [rdx])]
        simp (disch := omega) only [rdx]; exact b6
      · rw [hk 2 _ (by intros; simp (disch := omega) only [rdx])]
        simp (disch := omega) only [rdx]; exact b7
    · have hne := mi_ne hi
      refine (hM i').tr ?_ ?_ ?_
      · intro r k q
        simp (disch := omega) only [rdx, rdi hi]
      · intro r k q
        have := mi_le i
        have := mi_le i'
        simp (disch := omega) only [rdx]
      · intros; simp (disch := omega) only [rdx]
  · intros; simp (disch := omega) only [rdx]
  · by_cases hi : i' = i
    · subst hi
      right
      simp (disch := omega) only [rdx, rd_s]
    · left
      simp (disch := omega) only [rdx, rdi hi]
  · by_cases hi : i' = i
    · subst hi
      left
      simp (disch := omega) only [rdx, rd_s]
    · refine Kp.of ?_ ?_
      · intros; simp (disch := omega) only [rdx]
      · intro r k q
        simp (disch := omega) only [rdx, rdi hi]
