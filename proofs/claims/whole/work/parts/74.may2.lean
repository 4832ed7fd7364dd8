/-! PURE: mayBits against what is known; may -/
theorem eq9 {x y : Nat} (hx : x < 512) (hy : y < 512) (h : ∀ t, t < 8 → (x.testBit t = true ↔ y.testBit t = true)) (h8 : x.testBit 8 = true ↔ y.testBit 8 = true) : x = y := by
  apply Nat.eq_of_testBit_eq
  intro q
  by_cases z : q < 9
  · have : x.testBit q = true ↔ y.testBit q = true := by
      by_cases w : q = 8
      · rw [w]; exact h8
      · exact h q (by omega)
    cases hxq : x.testBit q <;> cases hyq : y.testBit q
    · rfl
    · rw [hxq, hyq] at this; exact absurd (this.mpr rfl) (by decide)
    · rw [hxq, hyq] at this; exact absurd (this.mp rfl) (by decide)
    · rfl
  · have e : 2 ^ 9 ≤ 2 ^ q := Nat.pow_le_pow_right (by omega) (by omega)
    rw [Nat.testBit_lt_two_pow (show x < 2 ^ q by omega), Nat.testBit_lt_two_pow (show y < 2 ^ q by omega)]
theorem Rch_up {c : Co} {S L : List Nat} {pm : Nat} {T : Tb} (hw : WF c) (hs : Sk c S L pm) (D : DP 4 c S L pm T) : ∀ (n g k' : Nat), Rcn c S L pm n g k' → 0 ≤ Tm c T g k' → 0 ≤ Tm c T 0 (sK c L) := by
  have hnl := hw.2.1
  intro n
  induction n with
  | zero =>
    rintro g k' ⟨rfl, rfl, hp⟩ z
    exact z
  | succ n ih =>
    rintro g k' ⟨h, k, j, r, a, b, d⟩ z
    obtain ⟨-, v, vp⟩ := Rch.vm hw hs n h k r
    refine ih h k r ?_
    rw [Tm_fold (by omega) hw hs D a v vp]
    exact ((fj_pos hw _ (by omega)).2).mpr ⟨j, by omega, (vj_nn hw b).mpr ⟨g, k', d, z⟩⟩
theorem mayBits_M {μ : Mi} {i : Bool} {c : Co} {T : Tb} {H x : Nat} (M : MC μ i c) (hw : WF c) (h2 : WF2 c) (D : DB 4 c 0 T) (hH : (H : Int) ≤ c 2 2) (hx : x < 512) (b1 : ∀ t, t < 8 → (x.testBit t = true ↔ ∃ k, Rch c (SL c 0) (LL c 0) (PM c 0) H k ∧ 0 ≤ Tm c T H k ∧ k / 140 = t)) (b8 : x.testBit 8 = true ↔ ∃ h' k j g k' : Nat, h' < H ∧ H < g ∧ (j : Int) ≤ c 0 2 ∧ Rch c (SL c 0) (LL c 0) (PM c 0) h' k ∧ mG c (SL c 0) (LL c 0) (PM c 0) h' k j = some (g, k') ∧ 0 ≤ Tm c T g k') : ∃ m, D_X7_mayBits (mi i : Int) (H : Int) μ = some ((x : Int), m) := by
  have hs := Sk_of hw h2 0
  have hen := hw.2.2.2.2.2.2.2.1
  have hnl := hw.2.1
  obtain ⟨m2, a1, a2⟩ := sets_M M hw h2 (B := 0) (by omega)
  obtain ⟨m3, d1, d2, d3⟩ := counts_M a2 D
  rw [show ((0 : Nat) : Int) = 0 from rfl] at a1
  have s2 := sv_4p hw h2 D
  have hv := Tm_4 hw hs D (by omega) (sK_VM (S := SL c 0) (pm := PM c 0) hw hs).1
  unfold sv at s2
  unfold D_X7_mayBits
  rw [a1, bm_k, d1, bd_k, wid (x := max 0 (Tm c T 0 (sK c (LL c 0)))) (by omega) (by omega)]
  by_cases z : max 0 (Tm c T 0 (sK c (LL c 0))) = 0
  · rw [if_neg (fun w => w z)]
    have hneg : ¬ 0 ≤ Tm c T 0 (sK c (LL c 0)) := by omega
    have : x = 0 := by
      refine eq9 hx (by omega) (fun t ht => ?_) ?_
      · rw [Nat.zero_testBit, b1 t ht]
        refine ⟨fun ⟨k, ⟨n, r⟩, y, _⟩ => absurd (Rch_up hw hs D n H k r y) hneg, fun y => (by cases y)⟩
      · rw [Nat.zero_testBit, b8]
        refine ⟨fun ⟨h', k, j, g, k', p1, p2, p3, ⟨n, r⟩, p5, p6⟩ => absurd (Rch_up hw hs D (n + 1) g k' ⟨h', k, j, r, by omega, p3, p5⟩ p6) hneg, fun y => (by cases y)⟩
    rw [this]
    exact ⟨m3, rfl⟩
  · rw [if_pos z]
    have C := d3 (by omega)
    have hR := ic_Rch C.1
    obtain ⟨y, y1, y2, y3⟩ := mB_20 D C hH 1120 FU 0 0 (by omega) (FU_gt (by omega)) (by omega) (fun t _ => by
      rw [Nat.zero_testBit]
      exact ⟨fun w => (by cases w), fun ⟨q, w, _⟩ => by omega⟩)
    obtain ⟨m, u, e1, e2, e3, e4⟩ := mB_80 D y1 hH H FU 0 y m3 (by omega) (FU_gt (by omega)) C (Or.inl ⟨rfl, fun h' k' j' d _ _ _ => by
      rcases d with d | ⟨d1, d2 | ⟨d2, d3⟩⟩ <;> omega⟩)
    rw [show ((0 : Nat) : Int) = 0 from rfl] at y2 e1
    refine ⟨m, ?_⟩
    rw [y2, e1]
    have ho := or8 (x := y) (by omega)
    have hu : u < 512 := by rcases e3 with ⟨b, -⟩ | ⟨b, -⟩ <;> omega
    have hlow : ∀ t, t < 8 → u.testBit t = y.testBit t := fun t ht => by
      rcases e3 with ⟨b, -⟩ | ⟨b, -⟩
      · rw [b]
      · rw [b, bit_ne (by omega)]
    have : u = x := by
      refine eq9 hu hx (fun t ht => ?_) ?_
      · rw [hlow t ht, y3 t ht, b1 t ht]
        constructor
        · rintro ⟨q, q1, q2, q3, q4⟩
          exact ⟨q, (hR H q hH q1).mp q2, by omega, q4⟩
        · rintro ⟨k, ⟨n, r⟩, w, q4⟩
          obtain ⟨-, v, vp⟩ := Rch.vm hw hs n H k r
          have := Tm_4p hw hs D (c 2 2).toNat H k (by omega) hH v vp
          exact ⟨k, v.1, (hR H k hH v.1).mpr ⟨n, r⟩, by omega, q4⟩
      · rw [b8]
        rcases e3 with ⟨b, hno⟩ | ⟨b, h', k', j', q1, q2, q3, q4, g, k2, q5, q6, q7⟩
        · rw [b, Nat.testBit_lt_two_pow (show y < 2 ^ 8 by omega)]
          refine ⟨fun w => (by cases w), fun ⟨h', k, j, g, k', p1, p2, p3, ⟨n, r⟩, p5, p6⟩ => ?_⟩
          obtain ⟨-, v, vp⟩ := Rch.vm hw hs n h' k r
          obtain ⟨o1, o2, o3, o4⟩ := mG_ok hw hs (by omega) v p3 p5
          have hpos := Tm_4p hw hs D (c 2 2).toNat g k' (by omega) o2 o3 o4
          cases j with
          | zero =>
            rw [mG] at p5
            split at p5
            · cases p5
            · cases p5; omega
          | succ j =>
            refine absurd ?_ (hno h' k j (Or.inl p1) p1 v.1 (by omega))
            exact ⟨by rw [e4]; exact (hR h' k (by omega) v.1).mpr ⟨n, r⟩, g, k', p5, p2, by omega⟩
        · rw [b]
          refine ⟨fun _ => ⟨h', k', j' + 1, g, k2, q1, q6, by omega, (hR h' k' (by omega) q2).mp (by rw [← e4]; exact q4), q5, by omega⟩, fun _ => bit_one y 8⟩
    rw [this]
theorem op_may {μ : Mi} (I : Inv μ) {x1 x2 : Int} (r1 : R32 x1) (r2 : R32 x2) : OpI (D_X6_may x1 x2) (D_X7_may x1 x2) μ := by
  have hA := I.1.2.1
  by_cases c1 : 0 < rd μ 0 false 1 ∧ (x1 = 0 ∨ x1 = 1)
  rotate_left
  · refine OpI.same I (-1) ?_ ?_
    · unfold D_X6_may D_X6_isTimeOf; rw [isMan_X hA r1, if_pos (yb10 c1), if_pos (by decide)]
    · unfold D_X7_may; rw [man_M hA rfl rfl r1, if_pos (yb10 c1)]
  obtain ⟨i, e1, e2, e3, e4, e5, e6⟩ := man_of c1
  have hw := WF_of I.1 c1.1 i
  have h2 := WF2_of I.1 i
  have hen := hw.2.2.2.2.2.2.2.1
  have h22 : cr μ i 2 2 = rd μ 2 i 2 := cr_m (by omega)
  have M0 := MC_of I.1 c1.1 i
  have tX : D_X6_isTimeOf x1 x2 μ = if 0 ≤ x2 ∧ x2 ≤ rd μ 2 i 2 then 1 else 0 := by
    unfold D_X6_isTimeOf
    rw [isMan_X hA r1, if_neg (nb10 c1), e2, wid r2.1 r2.2, wid (x := rd μ 2 i 2) (by omega) (by omega)]
    by_cases z : x2 < 0
    · rw [if_pos z, if_neg (by omega)]
    · rw [if_neg z]
      by_cases y : rd μ 2 i 2 < x2
      · rw [if_pos y, if_neg (by omega)]
      · rw [if_neg y, if_pos (by omega)]
  have tM : ∀ m : Mi, rd m 55 false (mi i) = rd μ 2 i 2 → D_X7_in x2 0 (rd m 55 false (mi i)) = if 0 ≤ x2 ∧ x2 ≤ rd μ 2 i 2 then 1 else 0 := fun m hm => by
    rw [hm, in_eq (wid r2.1 r2.2) (by decide) (wid (by omega) (by omega))]
  have e55 : rd μ 55 false (mi i) = rd μ 2 i 2 := by rw [← h22]; exact M0.2.2.2.2.1.2.2.1
  by_cases c2 : 0 ≤ x2 ∧ x2 ≤ rd μ 2 i 2
  rotate_left
  · refine OpI.same I (-1) ?_ ?_
    · unfold D_X6_may; rw [tX, if_pos (yb10 c2)]
    · unfold D_X7_may; rw [man_M hA rfl rfl r1, if_neg (nb10 c1), e4, if_pos ⟨e5, e6⟩, e3, tM μ e55, if_pos (yb10 c2)]
  obtain ⟨H, rfl⟩ : ∃ a : Nat, x2 = (a : Int) := ⟨x2.toNat, by omega⟩
  obtain ⟨m1, a1, ⟨T, k1, k2, k3⟩, a4, a5, a6⟩ := learnWhere_X I c1.1 (i := i)
  obtain ⟨x, x1', x2', x3, x4⟩ := k3 H (by omega)
  have hX : D_X4_whereAt i (H : Int) μ = some ((x : Int), m1) := by
    unfold D_X4_whereAt
    rw [a1, bm_k, wid (x := (H : Int)) (by omega) (by omega), if_neg (by omega), if_neg (by omega), if_pos (by omega), ixn H (by omega), ← fdx (μ := m1) (by omega), x2']
  have F := fr_X4_whereAt hX
  have eF : ∀ r i j, ¬ (r = 1 ∨ r = 4 ∨ (r = 2 ∧ j = 4) ∨ (21 ≤ r ∧ r ≤ 23) ∨ (32 ≤ r ∧ r ≤ 36)) → rd m1 r i j = rd μ r i j := fun r i j h => frQ F (by decide) h
  have M1 : MC m1 i (cr μ i) := M0.eq (fun r i j h => eF r i j (by omega))
  obtain ⟨m, b1⟩ := mayBits_M M1 hw h2 k1 (by omega) x1' x3 x4
  have hM : D_X7_may x1 (H : Int) m1 = some ((x : Int), m) := by
    unfold D_X7_may
    rw [man_M hA (eF 7 false 17 (by omega)) (eF 0 false 1 (by omega)) r1, if_neg (nb10 c1), e4, if_pos ⟨e5, e6⟩, e3, tM m1 ((eF 55 false _ (by omega)).trans e55), if_neg (nb10 c2), e1, b1, bd_k]
  refine OpI.q I (r := (x : Int)) (m1 := m1) (m2 := m) (i := i) ?_ hM F (by decide) (fr_X7_may hM) (by decide) a5 a6
  unfold D_X6_may
  rw [tX, if_neg (nb10 c2), e2, hX, bd_k]
