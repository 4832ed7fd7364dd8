/-! PURE: extreme -/
theorem dbR_f {r : Nat} (h : r = 1 ∨ r = 2 ∨ (21 ≤ r ∧ r ≤ 29)) : dbR r = true := by
  unfold dbR
  simp only [Bool.or_eq_true, Bool.and_eq_true, decide_eq_true_eq, beq_iff_eq]
  omega
/-- a question to one man: the class learns about him, the reference only reckons -/
theorem OpI.q {f g : Mi → Option (Int × Mi)} {μ m1 m2 : Mi} {i : Bool} {r : Int} {L L2 : List (Nat × Nat)} (I : Inv μ) (hf : f μ = some (r, m1)) (hg : g m1 = some (r, m2)) (F : Fr L (some i) μ m1) (hL : L.all pQ = true) (G : Fr L2 none m1 m2) (hL2 : L2.all pM = true) (C : Ch m1 i) (z : rd m1 2 i 4 = 0) : OpI f g μ := by
  have e2 : ∀ r i j, r < 65 → ¬ (r = 7 ∧ 33 ≤ j) → rd m2 r i j = rd m1 r i j := fun r i j h1 h2 => frM G hL2 h1 h2
  refine ⟨r, m1, m2, hf, hg, I.1.q (fun r i j h1 h3 h4 => ?_) (fun j => ?_), fun j => ?_⟩
  · rw [e2 r i j h3 h4, frQ F hL h1]
  · rw [e2 2 j 4 (by omega) (by omega)]
    by_cases e : j = i
    · rw [e]; exact Or.inl z
    · rw [frI F (dbR_f (by omega)) e]; exact I.1.2.2.2.2 j
  · by_cases e : j = i
    · rw [e]
      exact C.of (cr_eq (fun r i j h => e2 r i j (by omega) (by omega))) (fd_eq (fun r j h => e2 r i j (by omega) (by omega))) (e2 2 i 4 (by omega) (by omega))
    · refine (I.2 j).of (cr_eq (fun r i j h => ?_)) (fd_eq (fun r q h => ?_)) ?_
      · rw [e2 r i j (by omega) (by omega), frQ F hL (by omega)]
      · rw [e2 r j q (by omega) (by omega), frI F (dbR_f (by omega)) e]
      · rw [e2 2 j 4 (by omega) (by omega), frI F (dbR_f (by omega)) e]
theorem OpI.same {f g : Mi → Option (Int × Mi)} {μ : Mi} (I : Inv μ) (r : Int) (h1 : f μ = some (r, μ)) (h2 : g μ = some (r, μ)) : OpI f g μ := OpI.of I (OpE.same I.1 r h1 h2)
theorem op_extreme {μ : Mi} (I : Inv μ) {x1 x2 : Int} (r1 : R32 x1) (r2 : R32 x2) : OpI (D_X6_extreme x1 x2) (D_X7_extreme x1 x2) μ := by
  have hA := I.1.2.1
  by_cases c1 : 0 < rd μ 0 false 1 ∧ (x1 = 0 ∨ x1 = 1)
  rotate_left
  · refine OpI.same I (-1) ?_ ?_
    · unfold D_X6_extreme; rw [isMan_X hA r1, if_pos (yb10 c1)]
    · unfold D_X7_extreme; rw [man_M hA rfl rfl r1, if_pos (yb10 c1)]
  have hin : D_X7_in x2 0 3 = if 0 ≤ x2 ∧ x2 ≤ 3 then 1 else 0 := in_eq (wid r2.1 r2.2) (by decide) (by decide)
  by_cases c2 : 0 ≤ x2 ∧ x2 ≤ 3
  rotate_left
  · refine OpI.same I (-1) ?_ ?_
    · unfold D_X6_extreme
      rw [isMan_X hA r1, if_neg (nb10 c1), wid r2.1 r2.2]
      by_cases z : x2 < 0
      · rw [if_pos z]
      · rw [if_neg z, if_neg (by omega)]
    · unfold D_X7_extreme
      rw [man_M hA rfl rfl r1, if_neg (nb10 c1), hin, if_neg (fun w => w (yb10 c2))]
  obtain ⟨i, e1, e2, e3, e4, e5, e6⟩ := man_of c1
  obtain ⟨aim, rfl⟩ : ∃ a : Nat, x2 = (a : Int) := ⟨x2.toNat, by omega⟩
  have ha : aim ≤ 3 := by omega
  have hw := WF_of I.1 c1.1 i
  have h2 := WF2_of I.1 i
  obtain ⟨v, m1, a1, ⟨T, a2, a3⟩, a4, a5, a6⟩ := extremeOf_X I c1.1 (i := i) ha
  have F := fr_X4_extremeOf a1
  have eF : ∀ r i j, ¬ (r = 1 ∨ r = 4 ∨ (r = 2 ∧ j = 4) ∨ (21 ≤ r ∧ r ≤ 23) ∨ (32 ≤ r ∧ r ≤ 36)) → rd m1 r i j = rd μ r i j := fun r i j h => frQ F (by decide) h
  have M1 : MC m1 i (cr μ i) := (MC_of I.1 c1.1 i).eq (fun r i j h => eF r i j (by omega))
  obtain ⟨U, hU⟩ := DB_ex (rfl : cr μ i = cr μ i) hw h2 (B := 0) (aim := 4) (by omega) (by omega)
  obtain ⟨m2, b1, b2⟩ := sets_M M1 hw h2 (B := 0) (by omega)
  obtain ⟨m3, d1, d2, d3⟩ := counts_M b2 hU
  rw [show ((0 : Nat) : Int) = 0 from rfl] at b1
  have s1 := sv_sgn hw h2 (by omega) (by omega) a2 hU
  have s2 := sv_4p hw h2 hU
  have s3 := sv_m1 hw h2 a2
  have s4 : sv (cr μ i) 0 U ≤ 1000000000 := by
    have hen := hw.2.2.2.2.2.2.2.1
    exact (Tm_4 hw (Sk_of hw h2 0) hU (by omega) (sK_VM (S := SL (cr μ i) 0) (pm := PM (cr μ i) 0) hw (Sk_of hw h2 0)).1).2
  have hX : D_X6_extreme x1 (aim : Int) μ = some (v, m1) := by
    unfold D_X6_extreme
    rw [isMan_X hA r1, if_neg (nb10 c1), wid r2.1 r2.2, if_neg (by omega), if_pos (by omega), e2, a1, bd_k]
  have head : D_X7_extreme x1 (aim : Int) m1 = if ¬ max 0 (sv (cr μ i) 0 U) = 0 then (bd (D_X7_leasts (kdA aim) (sg aim) m3) fun r m => some (r, m)) else some (-1, m3) := by
    unfold D_X7_extreme
    rw [man_M hA (eF 7 false 17 (by omega)) (eF 0 false 1 (by omega)) r1, if_neg (nb10 c1), hin, if_pos (fun w => nb10 c2 w), e1, b1, bm_k, d1, bd_k]
    show (if ¬ w32 (max 0 (sv (cr μ i) 0 U)) = 0 then _ else _) = _
    rw [wid (x := max 0 (sv (cr μ i) 0 U)) (by omega) (by omega), wid r2.1 r2.2]
    by_cases z : max 0 (sv (cr μ i) 0 U) = 0
    · rw [if_neg (fun w => w z), if_neg (fun w => w z)]
    · rw [if_pos z, if_pos z]
      have hcase : aim = 0 ∨ aim = 1 ∨ aim = 2 ∨ aim = 3 := by omega
      rcases hcase with rfl | rfl | rfl | rfl <;> rfl
  by_cases z : max 0 (sv (cr μ i) 0 U) = 0
  · rw [if_neg (fun w => w z)] at head
    rw [show (-1 : Int) = v by omega] at head
    exact OpI.q I hX head F (by decide) (fr_X7_extreme head) (by decide) a5 a6
  · rw [if_pos z] at head
    have hpos : 0 < Tm (cr μ i) U 0 (sK (cr μ i) (LL (cr μ i) 0)) := by
      have : 0 < sv (cr μ i) 0 U := by omega
      exact this
    obtain ⟨-, m4, g1, g2⟩ := leasts_M ha hU a2 (d3 hpos) hpos
    rw [g1, bd_k] at head
    rw [show Tm (cr μ i) T 0 (sK (cr μ i) (LL (cr μ i) 0)) = v from a3.symm] at head
    exact OpI.q I hX head F (by decide) (fr_X7_extreme head) (by decide) a5 a6
