/-! PURE: learnWhere gives what is known; ways -/
theorem learnWhere_X {μ : Mi} {i : Bool} (I : Inv μ) (h0 : 0 < rd μ 0 false 1) : ∃ m, D_X4_learnWhere i μ = some m ∧ KW (cr μ i) (fd m i) ∧ cr m i = cr μ i ∧ Ch m i ∧ rd m 2 i 4 = 0 := by
  have hw := WF_of I.1 h0 i
  have h2 := WF2_of I.1 i
  have hs := Sk_of hw h2 0
  have hen := hw.2.2.2.2.2.2.2.1
  obtain ⟨b, m1, n, a1, a2, a3, a4, a5, a6, a7, a8⟩ := mustLearn_X I.1 (I.2 i) h0 (k := 4) (by omega)
  have hc1 : cr m1 i = cr μ i := cr_eq (fun r j q h => a3 r j q (by omega))
  rw [show ((4 : Nat) : Int) = 4 from rfl] at a1
  unfold D_X4_learnWhere
  rw [a1, bd_k]
  rcases a2 with rfl | rfl
  · rw [if_neg (by decide)]
    have K := a8 4 (by omega) (a7 rfl)
    have K2 : KN 4 (cr μ i) (fd m1 i) := KN_cong (fun r j hr => by
      have hr2 : r = 1 ∨ (21 ≤ r ∧ r ≤ 23) := by unfold rdK at hr; omega
      rw [fdx hr2, fdx hr2]
      exact a3 r i j (by unfold rdK at hr; omega)) K
    refine ⟨m1, rfl, ?_, hc1, Ch.put (k := 4) (by omega) a5 hc1 a6 K2 a8 (fun q r j hq hne hr => a3 r i j (by unfold rdK at hr; omega)), a4⟩
    unfold KN at K2
    rw [if_neg (by omega), if_pos rfl] at K2
    exact K2
  · rw [if_pos (by decide)]
    obtain ⟨m2, m3, N, ce, b1, b2, b3, b4, b5, b6⟩ := learn_X hc1 hw h2 (B := 0) (aim := 4) (by omega) (by omega)
    rw [show ((0 : Nat) : Int) = 0 from rfl] at b1
    rw [show ((4 : Nat) : Int) = 4 from rfl] at b2
    have hv := Tm_4 hw hs b4 (by omega) (sK_VM (S := SL (cr μ i) 0) (pm := PM (cr μ i) 0) hw hs).1
    obtain ⟨m, d1, d2, d3, d4⟩ := lw_36 (i := i) b4 97 FU 0 (wr m3 1 i 1 (max 0 (Tm (cr μ i) (tb m3) 0 (sK (cr μ i) (LL (cr μ i) 0))))) (by omega) (FU_gt (by omega)) (Fb_f (Or.inl rfl) b3) (tb_f (Or.inl rfl)) (fun q hq => by omega)
    rw [show ((0 : Nat) : Int) = 0 from rfl] at d1
    have hcm : cr m i = cr μ i := d2.1.1.1.1
    have K : KW (cr μ i) (fd m i) := by
      refine ⟨tb m3, b4, ?_, fun h hh => ?_⟩
      · rw [fdx (by omega), d3 1 i 1 (by omega) (by omega), rd_s]
        rfl
      · obtain ⟨x, x1, x2, x3, x4⟩ := KW_of b4 d2 d4 h hh
        exact ⟨x, x1, by rw [fdx (by omega)]; exact x2, x3, x4⟩
    refine ⟨m, ?_, K, hcm, Ch.put (k := 4) (by omega) a5 hcm ?_ ?_ a8 (fun q r j hq hne hr => ?_), ?_⟩
    · rw [b1, bm_k, b2, bm_k, b5, bp_k, max_X (by decide) (wid (by omega) (by omega))]
      exact d1
    · rw [d3 1 i 0 (by omega) (by omega), rdx (by omega), b6 1 i 0 (by omega) (by omega), a6]
    · unfold KN
      rw [if_neg (by omega), if_pos rfl]
      exact K
    · unfold rdK at hr
      rw [d3 r i j (by omega) (by omega), rdx (by omega), b6 r i j (by omega) (by omega), a3 r i j (by omega)]
    · rw [d3 2 i 4 (by omega) (by omega), rdx (by omega), b6 2 i 4 (by omega) (by omega), a4]
theorem op_ways {μ : Mi} (I : Inv μ) {x1 : Int} (r1 : R32 x1) : OpI (D_X6_ways x1) (D_X7_ways x1) μ := by
  have hA := I.1.2.1
  by_cases c1 : 0 < rd μ 0 false 1 ∧ (x1 = 0 ∨ x1 = 1)
  rotate_left
  · refine OpI.same I (-1) ?_ ?_
    · unfold D_X6_ways; rw [isMan_X hA r1, if_pos (yb10 c1)]
    · unfold D_X7_ways; rw [man_M hA rfl rfl r1, if_neg (fun w => w (yb10 c1))]
  obtain ⟨i, e1, e2, e3, e4, e5, e6⟩ := man_of c1
  have hw := WF_of I.1 c1.1 i
  have h2 := WF2_of I.1 i
  obtain ⟨m1, a1, ⟨T, k1, k2, -⟩, a4, a5, a6⟩ := learnWhere_X I c1.1 (i := i)
  have hX : D_X4_howManyWays i μ = some (rd m1 1 i 1, m1) := by
    unfold D_X4_howManyWays
    rw [a1, bm_k]
  have F := fr_X4_howManyWays hX
  have eF : ∀ r i j, ¬ (r = 1 ∨ r = 4 ∨ (r = 2 ∧ j = 4) ∨ (21 ≤ r ∧ r ≤ 23) ∨ (32 ≤ r ∧ r ≤ 36)) → rd m1 r i j = rd μ r i j := fun r i j h => frQ F (by decide) h
  have M1 : MC m1 i (cr μ i) := (MC_of I.1 c1.1 i).eq (fun r i j h => eF r i j (by omega))
  obtain ⟨m2, b1, b2⟩ := sets_M M1 hw h2 (B := 0) (by omega)
  obtain ⟨m3, d1, d2, d3⟩ := counts_M b2 k1
  rw [show ((0 : Nat) : Int) = 0 from rfl] at b1
  have hM : D_X7_ways x1 m1 = some (rd m1 1 i 1, m3) := by
    unfold D_X7_ways
    rw [man_M hA (eF 7 false 17 (by omega)) (eF 0 false 1 (by omega)) r1, if_pos (fun w => nb10 c1 w), e1, b1, bm_k, d1, bd_k]
    rw [fdx (by omega)] at k2
    rw [k2]
    rfl
  refine OpI.q I (r := rd m1 1 i 1) (m1 := m1) (m2 := m3) (i := i) ?_ hM F (by decide) (fr_X7_ways hM) (by decide) a5 a6
  unfold D_X6_ways
  rw [isMan_X hA r1, if_neg (nb10 c1), e2, hX, bd_k]
