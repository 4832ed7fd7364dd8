/-! PURE: met -/
theorem whereAt_X {μ : Mi} (I : Inv μ) (h0 : 0 < rd μ 0 false 1) (i : Bool) {H : Nat} (hH : (H : Int) ≤ rd μ 2 i 2) : ∃ x m1, D_X4_whereAt i (H : Int) μ = some (((x : Nat) : Int), m1) ∧ x < 512 ∧ (∀ m, MC m i (cr μ i) → ∃ m', D_X7_mayBits (mi i : Int) (H : Int) m = some ((x : Int), m')) ∧ Inv m1 ∧ (∀ r i j, ¬ (r = 1 ∨ r = 4 ∨ (r = 2 ∧ j = 4) ∨ (21 ≤ r ∧ r ≤ 23) ∨ (32 ≤ r ∧ r ≤ 36)) → rd m1 r i j = rd μ r i j) := by
  have hw := WF_of I.1 h0 i
  have h2 := WF2_of I.1 i
  have hen := hw.2.2.2.2.2.2.2.1
  have h22 : cr μ i 2 2 = rd μ 2 i 2 := cr_m (by omega)
  obtain ⟨m1, a1, ⟨T, k1, k2, k3⟩, a4, a5, a6⟩ := learnWhere_X I h0 (i := i)
  obtain ⟨x, x1', x2', x3, x4⟩ := k3 H (by omega)
  have hX : D_X4_whereAt i (H : Int) μ = some ((x : Int), m1) := by
    unfold D_X4_whereAt
    rw [a1, bm_k, wid (x := (H : Int)) (by omega) (by omega), if_neg (by omega), if_neg (by omega), if_pos (by omega), ixn H (by omega), ← fdx (μ := m1) (by omega), x2']
  have F := fr_X4_whereAt hX
  refine ⟨x, m1, hX, x1', fun m M => mayBits_M M hw h2 k1 (by omega) x1' x3 x4, ?_, fun r i j h => frQ F (by decide) h⟩
  obtain ⟨r, ma, mb, p1, p2, p3⟩ := OpI.q (f := D_X4_whereAt i (H : Int)) (g := fun m => some ((x : Int), m)) (L2 := []) I hX rfl F (by decide) Fr.rf rfl a5 a6
  rw [hX] at p1
  cases p1
  cases p2
  exact p3
/-- the reference's surely, by its bits -/
theorem surely_M {m m' : Mi} {i : Bool} {H x : Nat} {w : Int} (hm : D_X7_isMan (mi i : Int) m = 1) (h55 : rd m 55 false (mi i) = w) (hw : w ≤ 96) (hH : (H : Int) ≤ w) (hx : x < 512) (b1 : D_X7_mayBits (mi i : Int) (H : Int) m = some ((x : Int), m')) : D_X7_surely (mi i : Int) (H : Int) m = if (cn (fun t => x.testBit t) 16 = 1 ∧ ¬ x = 256) then B_X7_surely_51 FU (x : Int) 0 m' else some (-1, m') := by
  have hi := mi_le i
  have hc16 := cn_le (fun t => x.testBit t) 16
  have c2 : 0 ≤ (H : Int) ∧ (H : Int) ≤ w := by omega
  have tM : D_X7_in (H : Int) 0 w = if 0 ≤ (H : Int) ∧ (H : Int) ≤ w then 1 else 0 := in_eq (wid (by omega) (by omega)) (by decide) (wid (by omega) (by omega))
  unfold D_X7_surely
  rw [hm, if_neg (by decide), wid (x := (mi i : Int)) (by omega) (by omega), if_pos (by omega), ixn (mi i) (by omega), h55, tM, if_pos (fun z => nb10 c2 z), b1, bd_k, ones_M hx, bp_k, wid (x := ((cn (fun t => x.testBit t) 16 : Nat) : Int)) (by omega) (by omega), wid (x := (x : Int)) (by omega) (by omega)]
  by_cases z : cn (fun t => x.testBit t) 16 = 1
  · rw [if_neg (by omega)]
    by_cases y : x = 256
    · rw [if_neg (by omega), if_neg (fun w => w.2 y)]
    · rw [if_pos (by omega), if_pos ⟨z, y⟩]
  · rw [if_pos (by omega), if_neg (fun w => z w.1)]
theorem and_257 : ∀ z, z < 512 → iand ((z : Nat) : Int) (-257) = iand ((z : Nat) : Int) 255 := by decide +kernel
theorem Inv.m {μ m : Mi} {L2 : List (Nat × Nat)} (I : Inv μ) (G : Fr L2 none μ m) (hL2 : L2.all pM = true) : Inv m := by
  have e2 : ∀ r i j, r < 65 → ¬ (r = 7 ∧ 33 ≤ j) → rd m r i j = rd μ r i j := fun r i j h1 h2 => frM G hL2 h1 h2
  refine ⟨I.1.q (fun r i j _ h3 h4 => e2 r i j h3 h4) (fun j => ?_), fun j => (I.2 j).of (cr_eq (fun r i j h => e2 r i j (by omega) (by omega))) (fd_eq (fun r q h => e2 r j q (by omega) (by omega))) (e2 2 j 4 (by omega) (by omega))⟩
  rw [e2 2 j 4 (by omega) (by omega)]
  exact I.1.2.2.2.2 j
theorem isTime_X {μ : Mi} (I : Inv μ) (h0 : 0 < rd μ 0 false 1) (i : Bool) {x2 : Int} (r2 : R32 x2) : D_X6_isTimeOf (mi i : Int) x2 μ = if 0 ≤ x2 ∧ x2 ≤ rd μ 2 i 2 then 1 else 0 := by
  have hi := mi_le i
  have c1 : 0 < rd μ 0 false 1 ∧ ((mi i : Int) = 0 ∨ (mi i : Int) = 1) := ⟨h0, by omega⟩
  have hen := (WF_of I.1 h0 i).2.2.2.2.2.2.2.1
  have h22 : cr μ i 2 2 = rd μ 2 i 2 := cr_m (by omega)
  have es : D_X6_searchOf (mi i : Int) μ = i := by cases i <;> rfl
  unfold D_X6_isTimeOf
  rw [isMan_X I.1.2.1 ⟨by omega, by omega⟩, if_neg (nb10 c1), es, wid r2.1 r2.2, wid (x := rd μ 2 i 2) (by omega) (by omega)]
  by_cases z : x2 < 0
  · rw [if_pos z, if_neg (by omega)]
  · rw [if_neg z]
    by_cases y : rd μ 2 i 2 < x2
    · rw [if_pos y, if_neg (by omega)]
    · rw [if_neg y, if_pos (by omega)]
