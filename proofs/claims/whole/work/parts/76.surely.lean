/-! PURE: surely -/
theorem sh_t : ∀ t, t < 8 → ∀ k, k < 8 → k ≤ t → (w32 (ishr ((2 ^ t : Nat) : Int) ((k : Nat) : Int)) = 1 ↔ k = t) := by decide +kernel
theorem tz_t : ∀ t, t < 8 → D_J6_numberOfTrailingZeros_0f7a4 ((2 ^ t : Nat) : Int) = ((t : Nat) : Int) := by decide +kernel
theorem sure_51 {t : Nat} (ht : t < 8) (μ : Mi) : B_X7_surely_51 FU ((2 ^ t : Nat) : Int) 0 μ = some ((t : Int), μ) := by
  have key : ∀ (d n k : Nat), k + d = t → d < n → B_X7_surely_51 n ((2 ^ t : Nat) : Int) (k : Int) μ = some ((t : Int), μ) := by
    intro d
    induction d with
    | zero =>
      intro n k hk hn
      obtain ⟨n, rfl⟩ : ∃ q, n = q + 1 := ⟨n - 1, by omega⟩
      rw [B_X7_surely_51_s, F_X7_surely_51, if_pos ((sh_t t ht k (by omega) (by omega)).mpr (by omega)), show k = t by omega]
    | succ d ih =>
      intro n k hk hn
      obtain ⟨n, rfl⟩ : ∃ q, n = q + 1 := ⟨n - 1, by omega⟩
      rw [B_X7_surely_51_s, F_X7_surely_51, if_neg (fun z => by have := (sh_t t ht k (by omega) (by omega)).mp z; omega), show (k : Int) + 1 = ((k + 1 : Nat) : Int) by omega]
      exact ih n (k + 1) (by omega) (by omega)
  exact key t FU 0 (by omega) (FU_gt (by omega))
theorem one_t {x : Nat} (hx : x < 512) (h1 : cn (fun t => x.testBit t) 16 = 1) (h2 : ¬ x = 256) : ∃ t, t < 8 ∧ x = 2 ^ t := by
  rcases one_pow x hx h1 with h | h | h | h | h | h | h | h | h
  · exact ⟨0, by omega, h⟩
  · exact ⟨1, by omega, h⟩
  · exact ⟨2, by omega, h⟩
  · exact ⟨3, by omega, h⟩
  · exact ⟨4, by omega, h⟩
  · exact ⟨5, by omega, h⟩
  · exact ⟨6, by omega, h⟩
  · exact ⟨7, by omega, h⟩
  · exact absurd h h2
theorem op_surely {μ : Mi} (I : Inv μ) {x1 x2 : Int} (r1 : R32 x1) (r2 : R32 x2) : OpI (D_X6_surely x1 x2) (D_X7_surely x1 x2) μ := by
  have hA := I.1.2.1
  by_cases c1 : 0 < rd μ 0 false 1 ∧ (x1 = 0 ∨ x1 = 1)
  rotate_left
  · refine OpI.same I (-1) ?_ ?_
    · unfold D_X6_surely D_X6_isTimeOf; rw [isMan_X hA r1, if_pos (yb10 c1), if_neg (by decide)]
    · unfold D_X7_surely; rw [man_M hA rfl rfl r1, if_pos (yb10 c1)]
  obtain ⟨i, e1, e2, e3, e4, e5, e6⟩ := man_of c1
  have hw := WF_of I.1 c1.1 i
  have h2 := WF2_of I.1 i
  have hen := hw.2.2.2.2.2.2.2.1
  have h22 : cr μ i 2 2 = rd μ 2 i 2 := cr_m (by omega)
  have M0 := MC_of I.1 c1.1 i
  have tX : D_X6_isTimeOf x1 x2 μ = if 0 ≤ x2 ∧ x2 ≤ rd μ 2 i 2 then 1 else 0 := by
    unfold D_X6_isTimeOf
    rw [isMan_X hA r1, if_neg (nb10 c1), e2, wid r2.1 r2.2, wid (x := rd μ 2 i 2) (by omega) (by omega)]
    by_cases z : x2 < 0
    · rw [if_pos z, if_neg (by omega)]
    · rw [if_neg z]
      by_cases y : rd μ 2 i 2 < x2
      · rw [if_pos y, if_neg (by omega)]
      · rw [if_neg y, if_pos (by omega)]
  have tM : ∀ m : Mi, rd m 55 false (mi i) = rd μ 2 i 2 → D_X7_in x2 0 (rd m 55 false (mi i)) = if 0 ≤ x2 ∧ x2 ≤ rd μ 2 i 2 then 1 else 0 := fun m hm => by
    rw [hm, in_eq (wid r2.1 r2.2) (by decide) (wid (by omega) (by omega))]
  have e55 : rd μ 55 false (mi i) = rd μ 2 i 2 := by rw [← h22]; exact M0.2.2.2.2.1.2.2.1
  by_cases c2 : 0 ≤ x2 ∧ x2 ≤ rd μ 2 i 2
  rotate_left
  · refine OpI.same I (-1) ?_ ?_
    · unfold D_X6_surely; rw [tX, if_neg (fun w => w (yb10 c2))]
    · unfold D_X7_surely; rw [man_M hA rfl rfl r1, if_neg (nb10 c1), e4, if_pos ⟨e5, e6⟩, e3, tM μ e55, if_neg (fun w => w (yb10 c2))]
  obtain ⟨H, rfl⟩ : ∃ a : Nat, x2 = (a : Int) := ⟨x2.toNat, by omega⟩
  obtain ⟨m1, a1, ⟨T, k1, k2, k3⟩, a4, a5, a6⟩ := learnWhere_X I c1.1 (i := i)
  obtain ⟨x, x1', x2', x3, x4⟩ := k3 H (by omega)
  have hX : D_X4_whereAt i (H : Int) μ = some ((x : Int), m1) := by
    unfold D_X4_whereAt
    rw [a1, bm_k, wid (x := (H : Int)) (by omega) (by omega), if_neg (by omega), if_neg (by omega), if_pos (by omega), ixn H (by omega), ← fdx (μ := m1) (by omega), x2']
  have F := fr_X4_whereAt hX
  have eF : ∀ r i j, ¬ (r = 1 ∨ r = 4 ∨ (r = 2 ∧ j = 4) ∨ (21 ≤ r ∧ r ≤ 23) ∨ (32 ≤ r ∧ r ≤ 36)) → rd m1 r i j = rd μ r i j := fun r i j h => frQ F (by decide) h
  have M1 : MC m1 i (cr μ i) := M0.eq (fun r i j h => eF r i j (by omega))
  obtain ⟨m, b1⟩ := mayBits_M M1 hw h2 k1 (by omega) x1' x3 x4
  have hc16 := cn_le (fun t => x.testBit t) 16
  have headX : D_X6_surely x1 (H : Int) μ = if (cn (fun t => x.testBit t) 16 = 1 ∧ ¬ x = 256) then some (D_J6_numberOfTrailingZeros_0f7a4 (x : Int), m1) else some (-1, m1) := by
    unfold D_X6_surely
    rw [tX, if_pos (fun w => nb10 c2 w), e2, hX, bd_k, one_town x x1']
    by_cases z : cn (fun t => x.testBit t) 16 = 1 ∧ ¬ x = 256
    · rw [if_neg (nb10 z), if_pos z]
    · rw [if_pos (yb10 z), if_neg z]
  have headM : D_X7_surely x1 (H : Int) m1 = if (cn (fun t => x.testBit t) 16 = 1 ∧ ¬ x = 256) then B_X7_surely_51 FU (x : Int) 0 m else some (-1, m) := by
    unfold D_X7_surely
    rw [man_M hA (eF 7 false 17 (by omega)) (eF 0 false 1 (by omega)) r1, if_neg (nb10 c1), e4, if_pos ⟨e5, e6⟩, e3, tM m1 ((eF 55 false _ (by omega)).trans e55), if_pos (fun w => nb10 c2 w), e1, b1, bd_k, ones_M x1', bp_k, wid (x := ((cn (fun t => x.testBit t) 16 : Nat) : Int)) (by omega) (by omega), wid (x := (x : Int)) (by omega) (by omega)]
    by_cases z : cn (fun t => x.testBit t) 16 = 1
    · rw [if_neg (by omega)]
      by_cases y : x = 256
      · rw [if_neg (by omega), if_neg (fun w => w.2 y)]
      · rw [if_pos (by omega), if_pos ⟨z, y⟩]
    · rw [if_pos (by omega), if_neg (fun w => z w.1)]
  by_cases z : cn (fun t => x.testBit t) 16 = 1 ∧ ¬ x = 256
  · obtain ⟨t, t1, t2⟩ := one_t x1' z.1 z.2
    rw [if_pos z, t2, tz_t t t1] at headX
    rw [if_pos z, t2, sure_51 t1] at headM
    exact OpI.q I headX headM F (by decide) (fr_X7_surely headM) (by decide) a5 a6
  · rw [if_neg z] at headX headM
    exact OpI.q I headX headM F (by decide) (fr_X7_surely headM) (by decide) a5 a6
