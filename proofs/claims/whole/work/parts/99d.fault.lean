/-! PURE: fault and map -/
def IB (μ : Mi) : Prop := ∀ k, k < 16 → isB (rd μ 18 true k)
def OpB (f g : Mi → Option (Int × Mi)) (μ : Mi) : Prop := ∃ r m1 m2, f μ = some (r, m1) ∧ g m1 = some (r, m2) ∧ Inv m2 ∧ IB m2
theorem fault_pair {tx : Nat → Int} {N : Nat} {μ b0 : Mi} (B : TB tx N) (ha : ∀ j, j < 500 → rd μ 41 false j = tx j) (hb : rd b0 7 false 1 = (N : Int) ∧ ∀ j, j < 500 → rd b0 42 false j = tx j) (ib : IB μ) : ∃ r a' b', D_X3_faultOf (N : Int) μ = some (r, a') ∧ D_X7_fault b0 = some (r, b') ∧ OutF r a' b' := by
  have hN := B.1
  obtain ⟨a0, ha0⟩ : ∃ a0, a0 = wr (wr (wr (wr (wr μ 3 false 4 (N : Int)) 3 false 6 0) 0 true 0 0) 0 true 1 0) 0 true 2 0 := ⟨_, rfl⟩
  obtain ⟨b1, hb1⟩ : ∃ b1, b1 = wr (wr (wr (wr b0 7 false 6 0) 7 false 9 0) 7 false 13 0) 7 false 2 0 := ⟨_, rfl⟩
  have X : TXa tx N a0 := ⟨by rw [ha0, rdx (by omega), rdx (by omega), rdx (by omega), rdx (by omega), rd_s], fun j hj => by rw [ha0, rdx (by omega), rdx (by omega), rdx (by omega), rdx (by omega), rdx (by omega)]; exact ha j hj⟩
  have Y : TXb tx N b1 := ⟨by rw [hb1, rdx (by omega), rdx (by omega), rdx (by omega), rdx (by omega)]; exact hb.1, fun j hj => by rw [hb1, rdx (by omega), rdx (by omega), rdx (by omega), rdx (by omega)]; exact hb.2 j hj⟩
  obtain ⟨a1, x1, x2, x3⟩ := next_X (s := 0) B X (by omega) (by rw [ha0, rdx (by omega), rdx (by omega), rdx (by omega), rd_s]; rfl)
  obtain ⟨b2, y1, y2, y3⟩ := next_M (s := 0) B Y (by omega) (by rw [hb1, rd_s]; rfl)
  obtain ⟨T, -⟩ := tok_P (tx := tx) (N := N) (s := 0) (by omega)
  have h : SRa tx N _ _ _ a1 := ⟨B, X.fr x3, x2, T⟩
  have g : SRb tx N _ _ _ b2 := ⟨B, Y.fr y3, y2, T⟩
  have D : DR a1 b2 0 0 0 := by
    refine ⟨⟨⟨by omega, ?_, ?_, fun k hk => by omega⟩, by omega, ?_, ?_, fun k hk => by omega⟩, fun k hk => by omega, fun k hk => by omega, ⟨by omega, ?_, ?_⟩, fun k hk => by omega, fun k hk => ?_⟩
    · rw [x3.1 0 true 0 (by omega), ha0, rdx (by omega), rdx (by omega), rd_s]; rfl
    · rw [y3.1 7 false 6 (by omega), hb1, rdx (by omega), rdx (by omega), rdx (by omega), rd_s]; rfl
    · rw [x3.1 0 true 1 (by omega), ha0, rdx (by omega), rd_s]; rfl
    · rw [y3.1 7 false 9 (by omega), hb1, rdx (by omega), rdx (by omega), rd_s]; rfl
    · rw [x3.1 0 true 2 (by omega), ha0, rd_s]; rfl
    · rw [y3.1 7 false 13 (by omega), hb1, rdx (by omega), rd_s]; rfl
    · rw [x3.1 18 true k (by omega), ha0, rdx (by omega), rdx (by omega), rdx (by omega), rdx (by omega), rdx (by omega)]; exact ib k hk
  have hq := T.2.2.2.1
  obtain ⟨r, a', b', e1, e2, e3⟩ := loop_at 501 FU FU 0 _ _ _ 0 0 0 a1 b2 (by omega) (FU_gt (by omega)) (FU_gt (by omega)) h g D (fun w => by have := hq w; omega)
  refine ⟨r, a', b', ?_, ?_, e3⟩
  · unfold D_X3_faultOf D_X0_clear
    rw [min_X (wid (by omega) (by omega)) (by decide), show min (N : Int) 500 = (N : Int) by omega, bm_k, ← ha0, x1, bm_k]
    exact e1
  · unfold D_X7_fault
    rw [← hb1, y1, bm_k]
    exact e2
theorem IAtlas.trf {μ m : Mi} (h : IAtlas μ) (e : ∀ r k, r = 0 ∨ (10 ≤ r ∧ r ≤ 20) ∨ (49 ≤ r ∧ r ≤ 52) ∨ (r = 7 ∧ 15 ≤ k ∧ k ≤ 20) → rd m r false k = rd μ r false k) : IAtlas m := by
  unfold IAtlas ILand ITown ILink stL0 at *
  simp (disch := omega) only [e]
  exact h
theorem IStory.trf {μ m : Mi} (h : IStory μ) (e : ∀ r k, r = 5 ∨ r = 37 ∨ r = 38 ∨ r = 63 ∨ r = 64 ∨ (r = 7 ∧ k = 32) ∨ (r = 0 ∧ k = 2) → rd m r false k = rd μ r false k) : IStory m := by
  unfold IStory at *
  simp (disch := omega) only [e]
  exact h
/-- the reader's own -/
def pR (q : Nat × Nat) : Bool := q.1 == 0 || q.1 == 3 || (decide (10 ≤ q.1) && decide (q.1 ≤ 20)) || q.1 == 30 || q.1 == 31
def pF (q : Nat × Nat) : Bool := (q.1 == 7 && decide (2 ≤ q.2) && (decide (q.2 ≤ 13) || q.2 == 35)) || (decide (43 ≤ q.1) && decide (q.1 ≤ 48))
theorem frRd {o : Option Bool} {L : List (Nat × Nat)} {a b : Mi} (h : Fr L o a b) (hL : L.all pR = true) {r : Nat} {i : Bool} {j : Nat} (h1 : ¬ (r = 0 ∨ r = 3 ∨ (10 ≤ r ∧ r ≤ 20) ∨ r = 30 ∨ r = 31)) : rd b r i j = rd a r i j :=
  frR h (inW_no hL (fun x y hp => by
    unfold pR at hp
    simp only [Bool.and_eq_true, Bool.or_eq_true, decide_eq_true_eq, beq_iff_eq] at hp
    omega))
theorem frFd {o : Option Bool} {L : List (Nat × Nat)} {a b : Mi} (h : Fr L o a b) (hL : L.all pF = true) {r : Nat} {i : Bool} {j : Nat} (h1 : ¬ (r = 7 ∧ 2 ≤ j ∧ (j ≤ 13 ∨ j = 35)) ∧ ¬ (43 ≤ r ∧ r ≤ 48)) : rd b r i j = rd a r i j :=
  frR h (inW_no hL (fun x y hp => by
    unfold pF at hp
    simp only [Bool.and_eq_true, Bool.or_eq_true, decide_eq_true_eq, beq_iff_eq] at hp
    omega))
theorem dbR_0 {r : Nat} (h : r = 0 ∨ (10 ≤ r ∧ r ≤ 20)) : dbR r = true := by
  unfold dbR
  simp only [Bool.or_eq_true, Bool.and_eq_true, decide_eq_true_eq, beq_iff_eq]
  omega
theorem faultOf_fr {x : Int} {μ a : Mi} {r : Int} (h : D_X3_faultOf x μ = some (r, a)) : (∀ r i j, ¬ (r = 3 ∨ r = 30 ∨ r = 31) → ((r = 0 ∨ (10 ≤ r ∧ r ≤ 20)) → i = false) → rd a r i j = rd μ r i j) := by
  have F := fq_X3_faultOf h
  intro r i j h1 h2
  by_cases z : r = 0 ∨ (10 ≤ r ∧ r ≤ 20)
  · rw [h2 z]
    exact frI F (dbR_0 z) (by decide)
  · exact frRd F (by decide) (by omega)
theorem op_fault {μ : Mi} (I : Inv μ) (ib : IB μ) : OpB D_X6_fault D_X7_fault μ := by
  obtain ⟨hT, hA, hM, hS, hC⟩ := I.1
  obtain ⟨t1, t2, t3, t4⟩ := hT
  obtain ⟨N, hN⟩ : ∃ N : Nat, rd μ 6 false 1 = (N : Int) := ⟨(rd μ 6 false 1).toNat, by omega⟩
  have B : TB (fun j => rd μ 41 false j) N := ⟨by omega, fun j hj => (t4 j hj).2⟩
  obtain ⟨r, a, b, x, y, o⟩ := fault_pair (μ := μ) (b0 := μ) B (fun j _ => rfl) ⟨by rw [t3]; exact hN, fun j hj => (t4 j hj).1⟩ ib
  have ea := faultOf_fr x
  obtain ⟨r', a', b', x', y', o'⟩ := fault_pair (μ := μ) (b0 := a) B (fun j _ => rfl) ⟨by rw [ea 7 false 1 (by omega) (by omega), t3]; exact hN, fun j hj => by rw [ea 42 false j (by omega) (by omega)]; exact (t4 j hj).1⟩ ib
  rw [x] at x'
  have hxx := Option.some.inj x'
  have hr : r' = r := (congrArg Prod.fst hxx).symm
  have haa : a' = a := (congrArg Prod.snd hxx).symm
  subst hr
  subst haa
  have G := fr_X7_fault y'
  have eb : ∀ r i j, ¬ (r = 7 ∧ 2 ≤ j ∧ (j ≤ 13 ∨ j = 35)) ∧ ¬ (43 ≤ r ∧ r ≤ 48) → rd b' r i j = rd a' r i j := fun r i j w => frFd G (by decide) w
  have e : ∀ r i j, ¬ (r = 7 ∧ 2 ≤ j ∧ (j ≤ 13 ∨ j = 35)) ∧ ¬ (43 ≤ r ∧ r ≤ 48) → ¬ (r = 3 ∨ r = 30 ∨ r = 31) → ((r = 0 ∨ (10 ≤ r ∧ r ≤ 20)) → i = false) → rd b' r i j = rd μ r i j := fun r i j w1 w2 w3 => (eb r i j w1).trans (ea r i j w2 w3)
  have hX : D_X6_fault μ = some (r', a') := by
    unfold D_X6_fault
    rw [hN, x, bd_k]
  refine ⟨r', a', b', hX, y', I.step ⟨⟨?_, hA.trf (fun r k w => e r false k (by omega) (by omega) (fun _ => rfl)), fun i => (hM i).tr (fun r k w => e r i k (by omega) (by omega) (by omega)) (fun r k w => e r false k (by omega) (by omega) (fun _ => rfl)) (fun k w => e 0 false k (by omega) (by omega) (fun _ => rfl)), hS.trf (fun r k w => e r false k (by omega) (by omega) (fun _ => rfl)), chg.tr hC (fun i => Or.inl (e 2 i 4 (by omega) (by omega) (by omega)))⟩, fun i => Kp.of (fun r k w => e r false k (by omega) (by omega) (fun _ => rfl)) (fun r k w => e r i k (by omega) (by omega) (by omega))⟩, fun k hk => ?_⟩
  · exact IText.tr ⟨t1, t2, t3, t4⟩ (fun r i k w => e r i k (by omega) (by omega) (by omega))
  · rw [eb 18 true k (by omega)]
    exact o'.2.2.1 k hk
