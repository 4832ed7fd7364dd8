/-! PURE: what the invariant says of a man's search -/
theorem cr_a {μ : Mi} {i : Bool} {r k : Nat} (hr : r = 0 ∨ (10 ≤ r ∧ r ≤ 20)) : cr μ i r k = rd μ r false k := (ca rfl hr).symm
theorem cr_m {μ : Mi} {i : Bool} {r k : Nat} (hr : (r = 2 ∧ k < 4) ∨ (24 ≤ r ∧ r ≤ 29)) : cr μ i r k = rd μ r i k := (cm rfl hr).symm
theorem stL0_rng {μ : Mi} (I : IAtlas μ) {a b w : Int} (h1 : 0 ≤ a) (h2 : a < rd μ 0 false 1) : -1 ≤ stL0 μ a b w ∧ stL0 μ a b w ≤ 3 := by
  obtain ⟨⟨l1, l2, -⟩, -, -, -, It, -⟩ := I
  obtain ⟨t1, t2, -⟩ := It a.toNat (by omega)
  unfold stL0
  repeat' split
  all_goals omega
theorem WF_of {μ : Mi} (h : Inv0 μ) (h0 : 0 < rd μ 0 false 1) (i : Bool) : WF (cr μ i) := by
  obtain ⟨-, I, Im, -⟩ := h
  have I' := I
  obtain ⟨⟨l1, l2, -⟩, ⟨w1, w2, -⟩, ⟨k1, k2, -⟩, Il, It, Ik⟩ := I
  obtain ⟨⟨s1, s2, -⟩, hm, Itr, -⟩ := Im i
  obtain ⟨⟨m1, m2, -⟩, ⟨m3, m4, -⟩, ⟨m5, m6, -⟩⟩ := hm h0
  refine ⟨?_, ?_, ?_, ?_, ?_, ?_, ?_, ?_, ?_, ?_⟩
  · rw [cr_a (by omega)]; omega
  · rw [cr_a (by omega)]; omega
  · rw [cr_a (by omega)]; omega
  · intro k hk
    simp (disch := omega) only [cr_a] at hk ⊢
    obtain ⟨⟨a1, a2, -⟩, ⟨b1, b2, -⟩, ne, ⟨c1, c2, -⟩, ⟨d1, d2, -⟩, ⟨e1, e2, -⟩, ⟨f1, -⟩, g1, g2⟩ := Ik k hk
    refine ⟨⟨a1, a2⟩, ⟨b1, b2⟩, ne, ⟨c1, c2⟩, ⟨d1, d2⟩, ⟨e1, e2⟩, f1, ?_, ?_⟩
    · rw [g1]; exact stL0_rng I' a1 a2
    · rw [g2]; exact stL0_rng I' b1 b2
  · intro t ht
    simp (disch := omega) only [cr_a] at ht ⊢
    obtain ⟨a1, a2, -, b1, b2, -⟩ := It t ht
    exact ⟨⟨b1, b2⟩, a1, a2⟩
  · simp (disch := omega) only [cr_a, cr_m]; exact ⟨m1, m2⟩
  · simp (disch := omega) only [cr_a, cr_m]; exact ⟨m3, m4⟩
  · simp (disch := omega) only [cr_a, cr_m]; exact ⟨m5, m6⟩
  · simp (disch := omega) only [cr_a, cr_m]; exact ⟨s1, s2⟩
  · intro t ht
    simp (disch := omega) only [cr_a, cr_m] at ht ⊢
    obtain ⟨⟨a1, a2, a3, a4, a5, a6, a7, a8, a9, a10⟩, -⟩ := Itr t ht
    refine ⟨a1, ⟨a2, ?_⟩, ⟨?_, a5, ?_⟩, fun z => (a7 z).1, a9, a10⟩
    · by_cases z : rd μ 24 i t = 0
      · have := a3 z; omega
      · have := a4 z; omega
    · by_cases z : rd μ 24 i t = 0
      · exact (a6 z).1
      · have := (a7 z).1; omega
    · by_cases z : rd μ 24 i t = 0
      · have := (a6 z).2; omega
      · exact (a7 z).2
theorem WF2_of {μ : Mi} (h : Inv0 μ) (i : Bool) : WF2 (cr μ i) := by
  obtain ⟨-, -, -, h4, h5⟩ := h.2.2.1 i
  refine ⟨?_, ?_⟩
  · rw [cr_m (k := 3) (by omega), cn_cong (q := kd μ i 0) _ (fun t _ => by unfold kd; rw [cr_m (by omega)])]
    exact h4
  · rw [cr_m (k := 3) (by omega), cn_cong (q := kd μ i 2) _ (fun t _ => by unfold kd; rw [cr_m (by omega)])]
    exact h5
theorem MC_of {μ : Mi} (h : Inv0 μ) (h0 : 0 < rd μ 0 false 1) (i : Bool) : MC μ i (cr μ i) := by
  obtain ⟨-, I, Im, -⟩ := h
  obtain ⟨⟨l1, l2, -⟩, ⟨w1, w2, -⟩, ⟨k1, k2, k3⟩, Il, It, Ik⟩ := I
  obtain ⟨⟨s1, s2, s3⟩, hm, Itr, -⟩ := Im i
  obtain ⟨⟨m1, m2, m3⟩, ⟨m4, m5, m6⟩, ⟨m7, m8, m9⟩⟩ := hm h0
  have est : ∀ a b : Nat, ∀ w : Int, stLc (cr μ i) a b w = stL0 μ (a : Int) (b : Int) w := fun a b w => by
    unfold stLc stL0
    simp (disch := omega) only [cr_a]
    rfl
  refine ⟨?_, ?_, ?_, ?_, ?_, ?_⟩
  · rw [cr_a (by omega)]; exact k3
  · intro k hk
    simp (disch := omega) only [cr_a] at hk ⊢
    obtain ⟨a1, a2, a3⟩ := Il k hk
    exact ⟨a3, a1, a2⟩
  · intro t ht
    simp (disch := omega) only [cr_a] at ht ⊢
    obtain ⟨-, -, a1, -, -, a2⟩ := It t ht
    exact ⟨a1, a2⟩
  · intro k hk
    simp (disch := omega) only [cr_a, est] at hk ⊢
    obtain ⟨⟨a1, a2, a3⟩, ⟨b1, b2, b3⟩, ne, ⟨c1, c2, c3⟩, ⟨d1, d2, d3⟩, ⟨e1, e2, e3⟩, ⟨f1, f2⟩, g1, g2⟩ := Ik k hk
    refine ⟨a3, b3, c3, d3, e3, f2, ?_, ?_⟩
    · rw [Int.toNat_of_nonneg a1, Int.toNat_of_nonneg b1]; exact g1
    · rw [Int.toNat_of_nonneg a1, Int.toNat_of_nonneg b1]; exact g2
  · simp (disch := omega) only [cr_m]
    exact ⟨m3, m6, m9, s3⟩
  · intro t ht
    simp (disch := omega) only [cr_m] at ht ⊢
    exact (Itr t ht).2
