/-! PURE: met, whole -/
theorem pow2_inj {a b : Nat} (h : 2 ^ a = 2 ^ b) : a = b := by
  rcases Nat.lt_trichotomy a b with q | q | q
  · have := Nat.pow_lt_pow_right (a := 2) (by omega) q
    omega
  · exact q
  · have := Nat.pow_lt_pow_right (a := 2) (by omega) q
    omega
theorem op_met {μ : Mi} (I : Inv μ) {x1 x2 : Int} (r1 : R32 x1) : OpI (D_X6_met x1 x2) (D_X7_met x1 x2) μ := by
  have hA := I.1.2.1
  have h17 := hA.2.1
  by_cases c0 : 0 < rd μ 0 false 1
  rotate_left
  · refine OpI.same I (-1) ?_ ?_
    · unfold D_X6_met D_X6_isTimeOf
      rw [isMan_X hA ⟨by omega, by omega⟩, if_pos (yb10 (fun z => c0 z.1)), if_pos (by decide)]
    · unfold D_X7_met
      rw [h17.2.2, wid (x := rd μ 0 false 1) (by omega) (by omega), if_pos (by omega)]
  have t0 := isTime_X I c0 false r1
  have t1 := isTime_X I c0 true r1
  have hwF := WF_of I.1 c0 false
  have hwT := WF_of I.1 c0 true
  have henF := hwF.2.2.2.2.2.2.2.1
  have henT := hwT.2.2.2.2.2.2.2.1
  have h22F : cr μ false 2 2 = rd μ 2 false 2 := cr_m (by omega)
  have h22T : cr μ true 2 2 = rd μ 2 true 2 := cr_m (by omega)
  have MF := MC_of I.1 c0 false
  have MT := MC_of I.1 c0 true
  have e55F : rd μ 55 false 0 = rd μ 2 false 2 := by rw [← h22F]; exact MF.2.2.2.2.1.2.2.1
  have e55T : rd μ 55 false 1 = rd μ 2 true 2 := by rw [← h22T]; exact MT.2.2.2.2.1.2.2.1
  rw [show ((mi false : Nat) : Int) = 0 from rfl] at t0
  rw [show ((mi true : Nat) : Int) = 1 from rfl] at t1
  have tM : D_X7_in x1 0 (rd μ 2 false 2) = if 0 ≤ x1 ∧ x1 ≤ rd μ 2 false 2 then 1 else 0 := in_eq (wid r1.1 r1.2) (by decide) (wid (by omega) (by omega))
  by_cases c1 : 0 ≤ x1 ∧ x1 ≤ rd μ 2 false 2
  rotate_left
  · refine OpI.same I (-1) ?_ ?_
    · unfold D_X6_met
      rw [t0, if_pos (yb10 c1)]
    · unfold D_X7_met
      rw [h17.2.2, wid (x := rd μ 0 false 1) (by omega) (by omega), if_neg (by omega), e55F, tM, if_pos (yb10 c1)]
  by_cases c2 : 0 ≤ x1 ∧ x1 ≤ rd μ 2 true 2
  rotate_left
  · refine OpI.same I (-1) ?_ ?_
    · unfold D_X6_met
      rw [t0, if_neg (nb10 c1), t1, if_neg (fun w => w (yb10 c2))]
    · unfold D_X7_met
      rw [h17.2.2, wid (x := rd μ 0 false 1) (by omega) (by omega), if_neg (by omega), e55F, tM, if_neg (nb10 c1), e55T, wid r1.1 r1.2, wid (x := rd μ 2 true 2) (by omega) (by omega), if_neg (by omega)]
  obtain ⟨H, rfl⟩ : ∃ a : Nat, x1 = (a : Int) := ⟨x1.toNat, by omega⟩
  obtain ⟨x, m1, a1, a2, a3, a4, a5⟩ := whereAt_X I c0 false (H := H) c1.2
  have c0' : 0 < rd m1 0 false 1 := by rw [a5 0 false 1 (by omega)]; exact c0
  obtain ⟨y, m2, b1, b2, b3, b4, b5⟩ := whereAt_X a4 c0' true (H := H) (by rw [a5 2 true 2 (by omega)]; exact c2.2)
  have e12 : ∀ r i j, ¬ (r = 1 ∨ r = 4 ∨ (r = 2 ∧ j = 4) ∨ (21 ≤ r ∧ r ≤ 23) ∨ (32 ≤ r ∧ r ≤ 36)) → rd m2 r i j = rd μ r i j := fun r i j h => (b5 r i j h).trans (a5 r i j h)
  have hcT : cr m1 true = cr μ true := cr_eq (fun r i j h => a5 r i j (by omega))
  rw [hcT] at b3
  have MF2 : MC m2 false (cr μ false) := MF.eq (fun r i j h => e12 r i j (by omega))
  obtain ⟨n1, d1⟩ := a3 m2 MF2
  have g1 : ∀ r i j, r < 65 → ¬ (r = 7 ∧ 33 ≤ j) → rd n1 r i j = rd m2 r i j := fun r i j h h' => frM (fr_X7_mayBits d1) (by decide) h h'
  have MT2 : MC n1 true (cr μ true) := MT.eq (fun r i j h => (g1 r i j (by omega) (by omega)).trans (e12 r i j (by omega)))
  obtain ⟨n2, d2⟩ := b3 n1 MT2
  rw [show ((mi false : Nat) : Int) = 0 from rfl] at d1
  rw [show ((mi true : Nat) : Int) = 1 from rfl] at d2
  have hX : D_X6_met (H : Int) x2 μ = if w32 x2 = 0 then some (iand (iand (x : Int) (y : Int)) (-257), m2) else if ¬ (x : Int) = (y : Int) then some (0, m2) else if w32 (D_X6_isOneTown (x : Int)) = 0 then some (0, m2) else some ((x : Int), m2) := by
    unfold D_X6_met
    rw [t0, if_neg (nb10 c1), t1, if_pos (fun w => nb10 c2 w), a1, bd_k, b1, bd_k, wid (x := (x : Int)) (by omega) (by omega), wid (x := (y : Int)) (by omega) (by omega)]
  have e17 : rd m2 7 false 17 = rd μ 0 false 1 := (e12 7 false 17 (by omega)).trans h17.2.2
  have hM : D_X7_met (H : Int) x2 m2 = if ¬ w32 x2 = 0 then (bd (D_X7_surely 0 (H : Int) m2) fun r2 m2 => if (w32 r2) = (-1) then some (0, m2) else bd (D_X7_surely 1 (H : Int) m2) fun r3 m3 => if ¬ (w32 r2) = (w32 r3) then some (0, m3) else some ((ishl 1 r2), m3)) else some (iand (iand (x : Int) (y : Int)) 255, n2) := by
    unfold D_X7_met
    rw [e17, wid (x := rd μ 0 false 1) (by omega) (by omega), if_neg (by omega), e12 55 false 0 (by omega), e55F, tM, if_neg (nb10 c1), e12 55 false 1 (by omega), e55T, wid r1.1 r1.2, wid (x := rd μ 2 true 2) (by omega) (by omega), if_pos (by omega), d1, bd_k, d2, bd_k]
  have fin : ∀ r m, D_X6_met (H : Int) x2 μ = some (r, m2) → D_X7_met (H : Int) x2 m2 = some (r, m) → OpI (D_X6_met (H : Int) x2) (D_X7_met (H : Int) x2) μ := fun r m p q => ⟨r, m2, m, p, q, b4.m (fr_X7_met q) (by decide)⟩
  by_cases z : w32 x2 = 0
  · rw [if_pos z] at hX
    rw [if_neg (fun w => w z)] at hM
    have hz : x &&& y < 512 := Nat.lt_of_le_of_lt Nat.and_le_left a2
    rw [iand_n x y (by omega) (by omega), and_257 _ hz] at hX
    rw [iand_n x y (by omega) (by omega)] at hM
    exact fin _ _ hX hM
  · rw [if_neg z] at hX
    rw [if_pos z] at hM
    have hmF : ∀ m : Mi, rd m 7 false 17 = rd μ 7 false 17 → rd m 0 false 1 = rd μ 0 false 1 → ∀ i, D_X7_isMan (mi i : Int) m = 1 := fun m p q i => by
      have hi := mi_le i
      rw [man_M hA p q ⟨by omega, by omega⟩, if_pos ⟨c0, by omega⟩]
    have sF := surely_M (i := false) (hmF m2 (e12 7 false 17 (by omega)) (e12 0 false 1 (by omega)) false) (show rd m2 55 false 0 = rd μ 2 false 2 from (e12 55 false 0 (by omega)).trans e55F) (by omega) c1.2 a2 d1
    have sT := surely_M (i := true) (hmF n1 ((g1 7 false 17 (by omega) (by omega)).trans (e12 7 false 17 (by omega))) ((g1 0 false 1 (by omega) (by omega)).trans (e12 0 false 1 (by omega))) true) (show rd n1 55 false 1 = rd μ 2 true 2 from ((g1 55 false 1 (by omega) (by omega)).trans (e12 55 false 1 (by omega))).trans e55T) (by omega) c2.2 b2 d2
    rw [show ((mi false : Nat) : Int) = 0 from rfl] at sF
    rw [show ((mi true : Nat) : Int) = 1 from rfl] at sT
    rw [one_town x a2] at hX
    rw [sF] at hM
    by_cases p : cn (fun t => x.testBit t) 16 = 1 ∧ ¬ x = 256
    · obtain ⟨t, t1, t2⟩ := one_t a2 p.1 p.2
      rw [if_pos p, t2, sure_51 t1, bd_k, wid (x := (t : Int)) (by omega) (by omega), if_neg (by omega), sT] at hM
      rw [if_neg (nb10 p)] at hX
      by_cases q : cn (fun t => y.testBit t) 16 = 1 ∧ ¬ y = 256
      · obtain ⟨u, u1, u2⟩ := one_t b2 q.1 q.2
        rw [if_pos q, u2, sure_51 u1, bd_k, wid (x := (u : Int)) (by omega) (by omega), ishl1 t (by omega)] at hM
        by_cases e : t = u
        · rw [if_neg (by omega)] at hM
          rw [if_neg (by rw [t2, u2, e]; exact fun w => w rfl), t2] at hX
          exact fin _ _ hX hM
        · rw [if_pos (by omega)] at hM
          rw [if_pos (fun w => e (pow2_inj (by
            have : x = y := by omega
            rw [t2, u2] at this
            exact this)))] at hX
          exact fin _ _ hX hM
      · rw [if_neg q, bd_k, if_pos (by
          rw [show w32 (-1) = -1 by decide]
          omega)] at hM
        rw [if_pos (fun w => q (by
          have : x = y := by omega
          rw [← this]; exact p))] at hX
        exact fin _ _ hX hM
    · rw [if_neg p, bd_k, if_pos (by decide)] at hM
      rw [if_pos (yb10 p)] at hX
      have : D_X6_met (H : Int) x2 μ = some (0, m2) := by
        rw [hX]
        split <;> rfl
      exact fin _ _ this hM
