/-! PURE: what the parts of the invariant hang on -/
theorem IText.tr {μ m : Mi} (h : IText μ) (e : ∀ r i k, ((r = 6 ∨ r = 7) ∧ k = 1) ∨ r = 41 ∨ r = 42 → rd m r i k = rd μ r i k) : IText m := by
  unfold IText at *
  simp (disch := omega) only [e]
  exact h
theorem IAtlas.tr {μ m : Mi} (h : IAtlas μ) (e : ∀ r i k, r = 0 ∨ (10 ≤ r ∧ r ≤ 20) ∨ (49 ≤ r ∧ r ≤ 52) ∨ (r = 7 ∧ 15 ≤ k ∧ k ≤ 20) → rd m r i k = rd μ r i k) : IAtlas m := by
  unfold IAtlas ILand ITown ILink stL0 at *
  simp (disch := omega) only [e]
  exact h
theorem ITr.tr {μ m : Mi} {i : Bool} {t : Nat} (h : ITr μ i t) (e : ∀ r k, (24 ≤ r ∧ r ≤ 29) → rd m r i k = rd μ r i k) (e0 : ∀ k, k < 2 → rd m 0 false k = rd μ 0 false k) : ITr m i t := by
  unfold ITr at *
  simp (disch := omega) only [e, e0]
  exact h
theorem IMan.tr {μ m : Mi} {i : Bool} (h : IMan μ i) (e : ∀ r k, (r = 2 ∧ k < 4) ∨ (24 ≤ r ∧ r ≤ 29) → rd m r i k = rd μ r i k) (e2 : ∀ r k, (53 ≤ r ∧ r ≤ 56 ∧ k = mi i) ∨ (57 ≤ r ∧ r ≤ 62 ∧ 8 * mi i ≤ k ∧ k < 8 * mi i + 8) → rd m r false k = rd μ r false k) (e0 : ∀ k, k < 2 → rd m 0 false k = rd μ 0 false k) : IMan m i := by
  obtain ⟨⟨a1, a2, a3⟩, b, c, d1, d2⟩ := h
  have hk : ∀ w : Int, cn (kd m i w) (rd m 2 i 3).toNat = cn (kd μ i w) (rd μ 2 i 3).toNat := fun w => by
    rw [e 2 3 (by omega)]
    exact cn_cong _ (fun k _ => by unfold kd; rw [e 24 k (by omega)])
  refine ⟨?_, ?_, ?_, ?_, ?_⟩
  · rw [e 2 3 (by omega), e2 56 (mi i) (by omega)]
    exact ⟨a1, a2, a3⟩
  · simp (disch := omega) only [e, e0, e2]
    exact b
  · intro t ht
    rw [e 2 3 (by omega)] at ht
    obtain ⟨c1, c2⟩ := c t ht
    refine ⟨c1.tr (fun r k q => e r k (by omega)) e0, ?_⟩
    unfold ITm at *
    have h8 : t < 8 := by omega
    simp (disch := omega) only [e, e2]
    exact c2
  · rw [hk]; exact d1
  · rw [hk]; exact d2
theorem IStory.tr {μ m : Mi} (h : IStory μ) (e : ∀ r i k, r = 5 ∨ r = 37 ∨ r = 38 ∨ r = 63 ∨ r = 64 ∨ (r = 7 ∧ k = 32) ∨ (r = 0 ∧ k = 2) → rd m r i k = rd μ r i k) : IStory m := by
  unfold IStory at *
  simp (disch := omega) only [e]
  exact h
theorem chg.tr {μ m : Mi} (h : ∀ i, rd μ 2 i 4 = 0 ∨ rd μ 2 i 4 = 1) (e : ∀ i, rd m 2 i 4 = rd μ 2 i 4 ∨ rd m 2 i 4 = 1) : ∀ i, rd m 2 i 4 = 0 ∨ rd m 2 i 4 = 1 := fun i => by
  rcases e i with q | q
  · rw [q]; exact h i
  · exact Or.inr q
