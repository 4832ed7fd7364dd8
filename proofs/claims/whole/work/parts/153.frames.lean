/-! PURE: what a method leaves as it was -/
def inW (L : List (Nat × Nat)) (r j : Nat) : Bool := L.any fun q => q.1 == r && (decide (10 ≤ r) || q.2 == j)
def dbR (r : Nat) : Bool := decide (r < 3) || r == 4 || (decide (10 ≤ r) && decide (r < 30)) || (decide (33 ≤ r) && decide (r < 37))
def okI (o : Option Bool) (r : Nat) (i : Bool) : Prop := match o with
  | none => True
  | some b => dbR r = true → i = b
def frO (L : List (Nat × Nat)) (o : Option Bool) (r : Nat) (i : Bool) (j : Nat) : Prop := inW L r j = false ∨ ∃ b, o = some b ∧ dbR r = true ∧ ¬ i = b
def Fr (L : List (Nat × Nat)) (o : Option Bool) (μ m : Mi) : Prop := ∀ r i j, frO L o r i j → rd m r i j = rd μ r i j ∧ rl m r i j = rl μ r i j
theorem nb {p : Prop} (h : false = true) : p := by cases h
theorem frO.no {L : List (Nat × Nat)} {o : Option Bool} {r : Nat} {i : Bool} {j : Nat} (h : inW L r j = true) (hi : okI o r i) : ¬ frO L o r i j := by
  rintro (h1 | ⟨b, h1, h2, h3⟩)
  · rw [h] at h1; cases h1
  · subst h1; exact h3 (hi h2)
theorem Fr.rf {L : List (Nat × Nat)} {o : Option Bool} {μ : Mi} : Fr L o μ μ := fun _ _ _ _ => ⟨rfl, rfl⟩
theorem Fr.tr {L : List (Nat × Nat)} {o : Option Bool} {a b c : Mi} (h1 : Fr L o a b) (h2 : Fr L o b c) : Fr L o a c := fun r i j h => ⟨(h2 r i j h).1.trans (h1 r i j h).1, (h2 r i j h).2.trans (h1 r i j h).2⟩
theorem Fr.w {L : List (Nat × Nat)} {o : Option Bool} {a μ : Mi} {r : Nat} {i : Bool} {j : Nat} {v : Int} (h : inW L r j = true) (hi : okI o r i) (h1 : Fr L o a μ) : Fr L o a (wr μ r i j v) := fun r' i' j' h' => ⟨by
  rw [rd_wr, if_neg (fun z => by rw [z.1, z.2.1, z.2.2] at h'; exact frO.no h hi h')]
  exact (h1 r' i' j' h').1, (h1 r' i' j' h').2⟩
theorem Fr.l {L : List (Nat × Nat)} {o : Option Bool} {a μ : Mi} {r : Nat} {i : Bool} {j : Nat} {v : Int} (h : inW L r j = true) (hi : okI o r i) (h1 : Fr L o a μ) : Fr L o a (wl μ r i j v) := fun r' i' j' h' => ⟨(h1 r' i' j' h').1, by
  rw [rl_wl, if_neg (fun z => by rw [z.1, z.2.1, z.2.2] at h'; exact frO.no h hi h')]
  exact (h1 r' i' j' h').2⟩
theorem Fr.c {L : List (Nat × Nat)} {a μ : Mi} {r n : Nat} (h : ∀ j, inW L r j = true) (h1 : Fr L none a μ) : Fr L none a (cpy μ r n) := fun r' i' j' h' => ⟨by
  rw [rd_cpy, if_neg (fun z => by rw [z.1] at h'; exact frO.no (h j') (by trivial) h')]
  exact (h1 r' i' j' h').1, (h1 r' i' j' h').2⟩
theorem Fr.mono {L L2 : List (Nat × Nat)} {o o2 : Option Bool} {a b : Mi} (h : (L.all fun q => inW L2 q.1 q.2) = true) (ho : o2 = none ∨ o2 = o) (h1 : Fr L o a b) : Fr L2 o2 a b := fun r i j h' => h1 r i j (by
  rcases h' with h' | h'
  · left
    cases hc : inW L r j with
    | false => rfl
    | true =>
      obtain ⟨q, hq, h2⟩ := List.any_eq_true.mp hc
      have h3 := List.all_eq_true.mp h q hq
      simp only [Bool.and_eq_true, Bool.or_eq_true, decide_eq_true_eq, beq_iff_eq] at h2
      obtain ⟨e1, e2⟩ := h2
      obtain ⟨q2, hq2, h4⟩ := List.any_eq_true.mp h3
      have h5 := List.any_eq_false.mp h' q2 hq2
      simp only [Bool.and_eq_true, Bool.or_eq_true, decide_eq_true_eq, beq_iff_eq] at h4 h5
      refine absurd ?_ h5
      rw [← e1]
      refine ⟨h4.1, ?_⟩
      rcases h4.2 with h6 | h6
      · exact Or.inl h6
      · rcases e2 with h7 | h7
        · exact Or.inl (by omega)
        · exact Or.inr (by rw [h6, h7])
  · rcases ho with ho | ho
    · obtain ⟨b, h2, _⟩ := h'
      rw [ho] at h2; cases h2
    · rw [ho] at h'; exact Or.inr h')
theorem frE {L : List (Nat × Nat)} {o : Option Bool} {a b mm : Mi} {e r : Int} (h : some (e, b) = some (r, mm)) (h1 : Fr L o a b) : Fr L o a mm := by
  cases h
  exact h1
theorem frV {L : List (Nat × Nat)} {o : Option Bool} {a b mm : Mi} (h : some b = some mm) (h1 : Fr L o a b) : Fr L o a mm := by
  cases h
  exact h1
theorem frR {L : List (Nat × Nat)} {o : Option Bool} {a b : Mi} (h : Fr L o a b) {r : Nat} {i : Bool} {j : Nat} (hr : inW L r j = false) : rd b r i j = rd a r i j := (h r i j (Or.inl hr)).1
theorem frL {L : List (Nat × Nat)} {o : Option Bool} {a b : Mi} (h : Fr L o a b) {r : Nat} {i : Bool} {j : Nat} (hr : inW L r j = false) : rl b r i j = rl a r i j := (h r i j (Or.inl hr)).2
theorem frI {L : List (Nat × Nat)} {x : Bool} {a b : Mi} (h : Fr L (some x) a b) {r : Nat} {i : Bool} {j : Nat} (hr : dbR r = true) (hi : ¬ i = x) : rd b r i j = rd a r i j := (h r i j (Or.inr ⟨x, rfl, hr, hi⟩)).1
def W_X0_clear : List (Nat × Nat) := [(0, 0), (0, 1), (0, 2)]
theorem fr_X0_clear {x0 : Bool} {μ : Mi} {mm : Mi} (h : D_X0_clear x0 μ = some mm) : Fr W_X0_clear (some x0) μ mm := by
  unfold D_X0_clear at h
  exact frV h (Fr.w rfl (fun _ => rfl) (Fr.w rfl (fun _ => rfl) (Fr.w rfl (fun _ => rfl) Fr.rf)))
def W_X0_takeOver : List (Nat × Nat) := [(0, 0), (0, 1), (0, 2), (10, 0), (11, 0), (12, 0), (13, 0), (14, 0), (15, 0), (16, 0), (17, 0), (18, 0), (19, 0), (20, 0)]
theorem Q_X0_takeOver_145 {mm : Mi} : ∀ (n : Nat) (x2 : Int) (μ : Mi), B_X0_takeOver_145 n x2 μ = some mm → Fr W_X0_takeOver none μ mm := by
  intro n
  induction n with
  | zero =>
    intro x2 μ h
    exact nope h
  | succ n hk145 =>
    intro x2 μ h
    replace h : F_X0_takeOver_145 (B_X0_takeOver_145 n) x2 μ = some mm := h
    unfold F_X0_takeOver_145 at h
    by_cases c : 16 ≤ (w32 x2)
    · replace h := ifp c h
      exact frV h (Fr.c (fun _ => rfl) (Fr.c (fun _ => rfl) Fr.rf))
    · replace h := ifn c h
      obtain ⟨hi, h⟩ := ift h
      obtain ⟨hi, h⟩ := ift h
      obtain ⟨hb, h⟩ := ift h
      exact Fr.tr (Fr.w rfl trivial Fr.rf) (hk145 _ _ h)
theorem fr_X0_takeOver {μ : Mi} {mm : Mi} (h : D_X0_takeOver μ = some mm) : Fr W_X0_takeOver none μ mm := by
  unfold D_X0_takeOver at h
  exact Fr.tr (Fr.c (fun _ => rfl) (Fr.c (fun _ => rfl) (Fr.c (fun _ => rfl) (Fr.c (fun _ => rfl) (Fr.c (fun _ => rfl) (Fr.c (fun _ => rfl) (Fr.c (fun _ => rfl) (Fr.c (fun _ => rfl) (Fr.w rfl trivial (Fr.w rfl trivial (Fr.w rfl trivial Fr.rf))))))))))) (Q_X0_takeOver_145 FU _ _ h)
def W_X0_addLand : List (Nat × Nat) := [(0, 0), (10, 0)]
theorem fr_X0_addLand {x0 : Bool} {x1 : Int} {μ : Mi} {mm : Mi} (h : D_X0_addLand x0 x1 μ = some mm) : Fr W_X0_addLand (some x0) μ mm := by
  unfold D_X0_addLand at h
  by_cases c : 4 ≤ (w32 (rd μ 0 x0 0))
  · replace h := ifp c h
    exact frV h Fr.rf
  · replace h := ifn c h
    obtain ⟨hi, h⟩ := ift h
    exact frV h (Fr.w rfl (fun _ => rfl) (Fr.w rfl (fun _ => rfl) Fr.rf))
def W_X0_addTown : List (Nat × Nat) := [(0, 1), (11, 0), (12, 0)]
theorem fr_X0_addTown {x0 : Bool} {x1 : Int} {x2 : Int} {μ : Mi} {mm : Mi} (h : D_X0_addTown x0 x1 x2 μ = some mm) : Fr W_X0_addTown (some x0) μ mm := by
  unfold D_X0_addTown at h
  by_cases c : 8 ≤ (w32 (rd μ 0 x0 1))
  · replace h := ifp c h
    exact frV h Fr.rf
  · replace h := ifn c h
    obtain ⟨hi, h⟩ := ift h
    obtain ⟨hi, h⟩ := ift h
    exact frV h (Fr.w rfl (fun _ => rfl) (Fr.w rfl (fun _ => rfl) (Fr.w rfl (fun _ => rfl) Fr.rf)))
def W_X0_addLink : List (Nat × Nat) := [(0, 2), (13, 0), (14, 0), (15, 0), (16, 0), (17, 0), (18, 0), (19, 0), (20, 0)]
theorem fr_X0_addLink {x0 : Bool} {x1 : Int} {x2 : Int} {x3 : Int} {x4 : Int} {x5 : Int} {x6 : Int} {μ : Mi} {mm : Mi} (h : D_X0_addLink x0 x1 x2 x3 x4 x5 x6 μ = some mm) : Fr W_X0_addLink (some x0) μ mm := by
  unfold D_X0_addLink at h
  by_cases c : 16 ≤ (w32 (rd μ 0 x0 2))
  · replace h := ifp c h
    exact frV h Fr.rf
  · replace h := ifn c h
    obtain ⟨hi, h⟩ := ift h
    obtain ⟨hi, h⟩ := ift h
    obtain ⟨hi, h⟩ := ift h
    obtain ⟨hb, h⟩ := ift h
    obtain ⟨hi, h⟩ := ift h
    obtain ⟨hi, h⟩ := ift h
    obtain ⟨hi, h⟩ := ift h
    obtain ⟨r1, h1, h⟩ := bp_some h
    obtain ⟨hi, h⟩ := ift h
    obtain ⟨r2, h2, h⟩ := bp_some h
    obtain ⟨hi, h⟩ := ift h
    exact frV h (Fr.w rfl (fun _ => rfl) (Fr.w rfl (fun _ => rfl) (Fr.w rfl (fun _ => rfl) (Fr.w rfl (fun _ => rfl) (Fr.w rfl (fun _ => rfl) (Fr.w rfl (fun _ => rfl) (Fr.w rfl (fun _ => rfl) (Fr.w rfl (fun _ => rfl) (Fr.w rfl (fun _ => rfl) Fr.rf)))))))))
def W_X2_settle : List (Nat × Nat) := [(2, 0), (2, 1), (2, 2), (2, 4)]
theorem fr_X2_settle {x0 : Bool} {x1 : Int} {x2 : Int} {x3 : Int} {μ : Mi} {mm : Mi} (h : D_X2_settle x0 x1 x2 x3 μ = some mm) : Fr W_X2_settle (some x0) μ mm := by
  unfold D_X2_settle at h
  exact frV h (Fr.w rfl (fun _ => rfl) (Fr.w rfl (fun _ => rfl) (Fr.w rfl (fun _ => rfl) (Fr.w rfl (fun _ => rfl) Fr.rf))))
def W_X2_startAnew : List (Nat × Nat) := [(2, 0), (2, 1), (2, 2), (2, 3), (2, 4)]
theorem fr_X2_startAnew {x0 : Bool} {μ : Mi} {mm : Mi} (h : D_X2_startAnew x0 μ = some mm) : Fr W_X2_startAnew (some x0) μ mm := by
  unfold D_X2_startAnew at h
  obtain ⟨m1, h1, h⟩ := bm_some h
  exact frV h (Fr.tr (Fr.w rfl (fun _ => rfl) Fr.rf) (Fr.mono rfl (Or.inr rfl) (fr_X2_settle h1)))
def W_X2_add : List (Nat × Nat) := [(2, 3), (2, 4), (24, 0), (25, 0), (26, 0), (27, 0), (28, 0), (29, 0)]
theorem fr_X2_add {x0 : Bool} {x1 : Int} {x2 : Int} {x3 : Int} {x4 : Int} {μ : Mi} {r : Int} {mm : Mi} (h : D_X2_add x0 x1 x2 x3 x4 μ = some (r, mm)) : Fr W_X2_add (some x0) μ mm := by
  unfold D_X2_add at h
  by_cases c : 8 ≤ (w32 (rd μ 2 x0 3))
  · replace h := ifp c h
    exact frE h Fr.rf
  · replace h := ifn c h
    obtain ⟨r1, h1, h⟩ := bp_some h
    by_cases c : (w32 r1) < (w32 (D_X2_mostOf x1))
    · replace h := ifp c h
      obtain ⟨hi, h⟩ := ift h
      obtain ⟨hi, h⟩ := ift h
      obtain ⟨hi, h⟩ := ift h
      obtain ⟨hi, h⟩ := ift h
      obtain ⟨hi, h⟩ := ift h
      obtain ⟨hi, h⟩ := ift h
      exact frE h (Fr.w rfl (fun _ => rfl) (Fr.w rfl (fun _ => rfl) (Fr.w rfl (fun _ => rfl) (Fr.w rfl (fun _ => rfl) (Fr.w rfl (fun _ => rfl) (Fr.w rfl (fun _ => rfl) (Fr.w rfl (fun _ => rfl) (Fr.w rfl (fun _ => rfl) Fr.rf))))))))
    · replace h := ifn c h
      exact frE h Fr.rf
def W_X2_setDoubted : List (Nat × Nat) := [(2, 4), (29, 0)]
theorem fr_X2_setDoubted {x0 : Bool} {x1 : Int} {x2 : Int} {μ : Mi} {r : Int} {mm : Mi} (h : D_X2_setDoubted x0 x1 x2 μ = some (r, mm)) : Fr W_X2_setDoubted (some x0) μ mm := by
  unfold D_X2_setDoubted at h
  by_cases c : (w32 (D_X2_has x0 x1 μ)) = 0
  · replace h := ifp c h
    exact frE h Fr.rf
  · replace h := ifn c h
    obtain ⟨hi, h⟩ := ift h
    by_cases c : ¬ (w32 (rd μ 29 x0 (ix x1))) = (w32 x2)
    · replace h := ifp c h
      obtain ⟨hi, h⟩ := ift h
      obtain ⟨hb, h⟩ := ift h
      exact frE h (Fr.w rfl (fun _ => rfl) (Fr.w rfl (fun _ => rfl) Fr.rf))
    · replace h := ifn c h
      exact frE h Fr.rf
def W_X2_dropLast : List (Nat × Nat) := [(2, 3), (2, 4)]
theorem fr_X2_dropLast {x0 : Bool} {μ : Mi} {r : Int} {mm : Mi} (h : D_X2_dropLast x0 μ = some (r, mm)) : Fr W_X2_dropLast (some x0) μ mm := by
  unfold D_X2_dropLast at h
  by_cases c : ¬ (w32 (rd μ 2 x0 3)) = 0
  · replace h := ifp c h
    exact frE h (Fr.w rfl (fun _ => rfl) (Fr.w rfl (fun _ => rfl) Fr.rf))
  · replace h := ifn c h
    exact frE h Fr.rf
def W_X3_takeNumber : List (Nat × Nat) := [(3, 6), (3, 7), (3, 8)]
theorem Q_X3_takeNumber_10 {mm : Mi} : ∀ (n : Nat) (μ : Mi), B_X3_takeNumber_10 n μ = some mm → Fr W_X3_takeNumber none μ mm := by
  intro n
  induction n with
  | zero =>
    intro μ h
    exact nope h
  | succ n hk10 =>
    intro μ h
    replace h : F_X3_takeNumber_10 (B_X3_takeNumber_10 n) μ = some mm := h
    unfold F_X3_takeNumber_10 at h
    by_cases c : (w32 (rd μ 3 false 4)) ≤ (w32 (rd μ 3 false 6))
    · replace h := ifp c h
      exact frV h Fr.rf
    · replace h := ifn c h
      obtain ⟨r1, h1, h⟩ := bp_some h
      by_cases c : (w32 r1) = 0
      · replace h := ifp c h
        exact frV h Fr.rf
      · replace h := ifn c h
        obtain ⟨hi, h⟩ := ift h
        exact Fr.tr (Fr.w rfl trivial (Fr.w rfl trivial Fr.rf)) (hk10 _ h)
theorem fr_X3_takeNumber {μ : Mi} {mm : Mi} (h : D_X3_takeNumber μ = some mm) : Fr W_X3_takeNumber none μ mm := by
  unfold D_X3_takeNumber at h
  exact Fr.tr (Fr.w rfl trivial (Fr.w rfl trivial Fr.rf)) (Q_X3_takeNumber_10 FU _ h)
def W_X3_takeWord : List (Nat × Nat) := [(3, 6), (3, 7), (3, 9)]
theorem Q_X3_takeWord_10 {mm : Mi} : ∀ (n : Nat) (μ : Mi), B_X3_takeWord_10 n μ = some mm → Fr W_X3_takeWord none μ mm := by
  intro n
  induction n with
  | zero =>
    intro μ h
    exact nope h
  | succ n hk10 =>
    intro μ h
    replace h : F_X3_takeWord_10 (B_X3_takeWord_10 n) μ = some mm := h
    unfold F_X3_takeWord_10 at h
    by_cases c : (w32 (rd μ 3 false 4)) ≤ (w32 (rd μ 3 false 6))
    · replace h := ifp c h
      exact frV h Fr.rf
    · replace h := ifn c h
      obtain ⟨r1, h1, h⟩ := bp_some h
      by_cases c : (w32 r1) = 0
      · replace h := ifp c h
        exact frV h Fr.rf
      · replace h := ifn c h
        obtain ⟨hi, h⟩ := ift h
        exact Fr.tr (Fr.w rfl trivial (Fr.l rfl trivial Fr.rf)) (hk10 _ h)
theorem fr_X3_takeWord {μ : Mi} {mm : Mi} (h : D_X3_takeWord μ = some mm) : Fr W_X3_takeWord none μ mm := by
  unfold D_X3_takeWord at h
  exact Fr.tr (Fr.l rfl trivial (Fr.w rfl trivial Fr.rf)) (Q_X3_takeWord_10 FU _ h)
def W_X3_next : List (Nat × Nat) := [(3, 5), (3, 6), (3, 7), (3, 8), (3, 9)]
theorem Q_X3_next_143 {mm : Mi} (s0 : Int) (μ : Mi) (h : B_X3_next_143 s0 μ = some mm) : Fr W_X3_next none μ mm := by
  unfold B_X3_next_143 at h
  exact frV h (Fr.w rfl trivial (Fr.w rfl trivial Fr.rf))
theorem Q_X3_next_60 {mm : Mi} (μ : Mi) (h : B_X3_next_60 μ = some mm) : Fr W_X3_next none μ mm := by
  unfold B_X3_next_60 at h
  by_cases c : (w32 (rd μ 3 false 5)) < (w32 (rd μ 3 false 4))
  · replace h := ifp c h
    obtain ⟨r1, h1, h⟩ := bp_some h
    by_cases c : (w32 r1) = 0
    · replace h := ifp c h
      obtain ⟨r2, h2, h⟩ := bp_some h
      by_cases c : (w32 r2) = 0
      · replace h := ifp c h
        obtain ⟨hi, h⟩ := ift h
        by_cases c : ¬ (w32 (rd μ 41 false (ix (rd μ 3 false 5)))) = 59
        · replace h := ifp c h
          exact Fr.tr (Fr.w rfl trivial Fr.rf) (Q_X3_next_143 _ _ h)
        · replace h := ifn c h
          exact Fr.tr (Fr.w rfl trivial Fr.rf) (Q_X3_next_143 _ _ h)
      · replace h := ifn c h
        obtain ⟨m3, h3, h⟩ := bm_some h
        exact frV h (Fr.tr (Fr.w rfl trivial Fr.rf) (Fr.mono rfl (Or.inl rfl) (fr_X3_takeNumber h3)))
    · replace h := ifn c h
      obtain ⟨m2, h2, h⟩ := bm_some h
      exact frV h (Fr.tr (Fr.w rfl trivial Fr.rf) (Fr.mono rfl (Or.inl rfl) (fr_X3_takeWord h2)))
  · replace h := ifn c h
    exact frV h (Fr.w rfl trivial (Fr.w rfl trivial Fr.rf))
theorem Q_X3_next_47 {mm : Mi} {k8 : (Mi → Option Mi)} (hk8 : ∀ (m : Mi), k8 m = some mm → Fr W_X3_next none m mm) (μ : Mi) (h : B_X3_next_47 k8 μ = some mm) : Fr W_X3_next none μ mm := by
  unfold B_X3_next_47 at h
  exact Fr.tr (Fr.w rfl trivial Fr.rf) (hk8 _ h)
theorem Q_X3_next_8 {mm : Mi} : ∀ (n : Nat) (μ : Mi), B_X3_next_8 n μ = some mm → Fr W_X3_next none μ mm := by
  intro n
  induction n with
  | zero =>
    intro μ h
    exact nope h
  | succ n hk8 =>
    intro μ h
    replace h : F_X3_next_8 (B_X3_next_8 n) μ = some mm := h
    unfold F_X3_next_8 at h
    by_cases c : (w32 (rd μ 3 false 4)) ≤ (w32 (rd μ 3 false 5))
    · replace h := ifp c h
      exact Fr.tr Fr.rf (Q_X3_next_60 _ h)
    · replace h := ifn c h
      obtain ⟨hi, h⟩ := ift h
      by_cases c : (w32 (rd μ 41 false (ix (rd μ 3 false 5)))) = 32
      · replace h := ifp c h
        exact Fr.tr Fr.rf (Q_X3_next_47 hk8 _ h)
      · replace h := ifn c h
        obtain ⟨hi, h⟩ := ift h
        by_cases c : ¬ (w32 (rd μ 41 false (ix (rd μ 3 false 5)))) = 10
        · replace h := ifp c h
          exact Fr.tr Fr.rf (Q_X3_next_60 _ h)
        · replace h := ifn c h
          exact Fr.tr Fr.rf (Q_X3_next_47 hk8 _ h)
theorem fr_X3_next {μ : Mi} {mm : Mi} (h : D_X3_next μ = some mm) : Fr W_X3_next none μ mm := by
  unfold D_X3_next at h
  exact Fr.tr (Fr.w rfl trivial Fr.rf) (Q_X3_next_8 FU _ h)
def W_X3_passWord : List (Nat × Nat) := [(3, 5), (3, 6), (3, 7), (3, 8), (3, 9)]
theorem fr_X3_passWord {x1 : Nat} {μ : Mi} {r : Int} {mm : Mi} (h : D_X3_passWord x1 μ = some (r, mm)) : Fr W_X3_passWord none μ mm := by
  unfold D_X3_passWord at h
  obtain ⟨r1, h1, h⟩ := bp_some h
  by_cases c : ¬ (w32 r1) = 0
  · replace h := ifp c h
    obtain ⟨m2, h2, h⟩ := bm_some h
    exact frE h (Fr.tr Fr.rf (Fr.mono rfl (Or.inl rfl) (fr_X3_next h2)))
  · replace h := ifn c h
    exact frE h Fr.rf
def W_X3_readLink : List (Nat × Nat) := [(0, 2), (3, 5), (3, 6), (3, 7), (3, 8), (3, 9), (13, 0), (14, 0), (15, 0), (16, 0), (17, 0), (18, 0), (19, 0), (20, 0)]
theorem Q_X3_readLink_75 {r : Int} {mm : Mi} (x1 : Int) (x2 : Int) (x3 : Int) (s0 : Int) (s1 : Int) (μ : Mi) (h : B_X3_readLink_75 x1 x2 x3 s0 s1 μ = some (r, mm)) : Fr W_X3_readLink none μ mm := by
  unfold B_X3_readLink_75 at h
  by_cases c : ¬ (w32 (D_X3_isNumber s1 s0 μ)) = 0
  · replace h := ifp c h
    obtain ⟨m2, h2, h⟩ := bm_some h
    obtain ⟨r3, m3, h3, h⟩ := bd_some h
    by_cases c : (w32 r3) = 0
    · replace h := ifp c h
      exact frE h (Fr.tr (Fr.tr Fr.rf (Fr.mono rfl (Or.inl rfl) (fr_X3_next h2))) (Fr.mono rfl (Or.inl rfl) (fr_X3_passWord h3)))
    · replace h := ifn c h
      by_cases c : ¬ (w32 (D_X3_isNumber 1 48 m3)) = 0
      · replace h := ifp c h
        obtain ⟨m5, h5, h⟩ := bm_some h
        obtain ⟨r6, m6, h6, h⟩ := bd_some h
        by_cases c : (w32 r6) = 0
        · replace h := ifp c h
          exact frE h (Fr.tr (Fr.tr (Fr.tr (Fr.tr Fr.rf (Fr.mono rfl (Or.inl rfl) (fr_X3_next h2))) (Fr.mono rfl (Or.inl rfl) (fr_X3_passWord h3))) (Fr.mono rfl (Or.inl rfl) (fr_X3_next h5))) (Fr.mono rfl (Or.inl rfl) (fr_X3_passWord h6)))
        · replace h := ifn c h
          by_cases c : ¬ (w32 (D_X3_isNumber 0 99 m6)) = 0
          · replace h := ifp c h
            obtain ⟨m8, h8, h⟩ := bm_some h
            by_cases c : (w32 (rd m8 3 false 7)) = 3
            · replace h := ifp c h
              obtain ⟨m9, h9, h⟩ := bm_some h
              obtain ⟨m10, h10, h⟩ := bm_some h
              exact frE h (Fr.tr (Fr.tr (Fr.tr (Fr.tr (Fr.tr (Fr.tr (Fr.tr Fr.rf (Fr.mono rfl (Or.inl rfl) (fr_X3_next h2))) (Fr.mono rfl (Or.inl rfl) (fr_X3_passWord h3))) (Fr.mono rfl (Or.inl rfl) (fr_X3_next h5))) (Fr.mono rfl (Or.inl rfl) (fr_X3_passWord h6))) (Fr.mono rfl (Or.inl rfl) (fr_X3_next h8))) (Fr.mono rfl (Or.inl rfl) (fr_X3_next h9))) (Fr.mono rfl (Or.inl rfl) (fr_X0_addLink h10)))
            · replace h := ifn c h
              exact frE h (Fr.tr (Fr.tr (Fr.tr (Fr.tr (Fr.tr Fr.rf (Fr.mono rfl (Or.inl rfl) (fr_X3_next h2))) (Fr.mono rfl (Or.inl rfl) (fr_X3_passWord h3))) (Fr.mono rfl (Or.inl rfl) (fr_X3_next h5))) (Fr.mono rfl (Or.inl rfl) (fr_X3_passWord h6))) (Fr.mono rfl (Or.inl rfl) (fr_X3_next h8)))
          · replace h := ifn c h
            exact frE h (Fr.tr (Fr.tr (Fr.tr (Fr.tr Fr.rf (Fr.mono rfl (Or.inl rfl) (fr_X3_next h2))) (Fr.mono rfl (Or.inl rfl) (fr_X3_passWord h3))) (Fr.mono rfl (Or.inl rfl) (fr_X3_next h5))) (Fr.mono rfl (Or.inl rfl) (fr_X3_passWord h6)))
      · replace h := ifn c h
        exact frE h (Fr.tr (Fr.tr Fr.rf (Fr.mono rfl (Or.inl rfl) (fr_X3_next h2))) (Fr.mono rfl (Or.inl rfl) (fr_X3_passWord h3)))
  · replace h := ifn c h
    exact frE h Fr.rf
theorem fr_X3_readLink {x1 : Int} {μ : Mi} {r : Int} {mm : Mi} (h : D_X3_readLink x1 μ = some (r, mm)) : Fr W_X3_readLink none μ mm := by
  unfold D_X3_readLink at h
  by_cases c : (w32 (rd μ 0 true 2)) < 16
  · replace h := ifp c h
    obtain ⟨m1, h1, h⟩ := bm_some h
    obtain ⟨r2, h2, h⟩ := bp_some h
    by_cases c : 0 ≤ (w32 r2)
    · replace h := ifp c h
      obtain ⟨m3, h3, h⟩ := bm_some h
      obtain ⟨r4, h4, h⟩ := bp_some h
      by_cases c : (w32 r4) < 0
      · replace h := ifp c h
        exact frE h (Fr.tr (Fr.tr Fr.rf (Fr.mono rfl (Or.inl rfl) (fr_X3_next h1))) (Fr.mono rfl (Or.inl rfl) (fr_X3_next h3)))
      · replace h := ifn c h
        by_cases c : ¬ (w32 r4) = (w32 r2)
        · replace h := ifp c h
          obtain ⟨m5, h5, h⟩ := bm_some h
          obtain ⟨r6, m6, h6, h⟩ := bd_some h
          by_cases c : (w32 r6) = 0
          · replace h := ifp c h
            exact frE h (Fr.tr (Fr.tr (Fr.tr (Fr.tr Fr.rf (Fr.mono rfl (Or.inl rfl) (fr_X3_next h1))) (Fr.mono rfl (Or.inl rfl) (fr_X3_next h3))) (Fr.mono rfl (Or.inl rfl) (fr_X3_next h5))) (Fr.mono rfl (Or.inl rfl) (fr_X3_passWord h6)))
          · replace h := ifn c h
            by_cases c : (w32 x1) = 0
            · replace h := ifp c h
              exact Fr.tr (Fr.tr (Fr.tr (Fr.tr (Fr.tr Fr.rf (Fr.mono rfl (Or.inl rfl) (fr_X3_next h1))) (Fr.mono rfl (Or.inl rfl) (fr_X3_next h3))) (Fr.mono rfl (Or.inl rfl) (fr_X3_next h5))) (Fr.mono rfl (Or.inl rfl) (fr_X3_passWord h6))) (Q_X3_readLink_75 _ _ _ _ _ _ h)
            · replace h := ifn c h
              exact Fr.tr (Fr.tr (Fr.tr (Fr.tr (Fr.tr Fr.rf (Fr.mono rfl (Or.inl rfl) (fr_X3_next h1))) (Fr.mono rfl (Or.inl rfl) (fr_X3_next h3))) (Fr.mono rfl (Or.inl rfl) (fr_X3_next h5))) (Fr.mono rfl (Or.inl rfl) (fr_X3_passWord h6))) (Q_X3_readLink_75 _ _ _ _ _ _ h)
        · replace h := ifn c h
          exact frE h (Fr.tr (Fr.tr Fr.rf (Fr.mono rfl (Or.inl rfl) (fr_X3_next h1))) (Fr.mono rfl (Or.inl rfl) (fr_X3_next h3)))
    · replace h := ifn c h
      exact frE h (Fr.tr Fr.rf (Fr.mono rfl (Or.inl rfl) (fr_X3_next h1)))
  · replace h := ifn c h
    exact frE h Fr.rf
def W_X3_readTown : List (Nat × Nat) := [(0, 1), (3, 5), (3, 6), (3, 7), (3, 8), (3, 9), (11, 0), (12, 0), (31, 0)]
theorem Q_X3_readTown_128 {r : Int} {mm : Mi} (x1 : Int) (x3 : Int) (x4 : Int) (μ : Mi) (h : B_X3_readTown_128 x1 x3 x4 μ = some (r, mm)) : Fr W_X3_readTown none μ mm := by
  unfold B_X3_readTown_128 at h
  by_cases c : (w32 (rd μ 3 false 7)) = 3
  · replace h := ifp c h
    obtain ⟨m1, h1, h⟩ := bm_some h
    obtain ⟨hi, h⟩ := ift h
    obtain ⟨m2, h2, h⟩ := bm_some h
    exact frE h (Fr.tr (Fr.l rfl trivial (Fr.tr Fr.rf (Fr.mono rfl (Or.inl rfl) (fr_X3_next h1)))) (Fr.mono rfl (Or.inl rfl) (fr_X0_addTown h2)))
  · replace h := ifn c h
    exact frE h Fr.rf
theorem Q_X3_readTown_92 {r : Int} {mm : Mi} (x1 : Int) (x3 : Int) (x4 : Int) (s0 : Int) (μ : Mi) (h : B_X3_readTown_92 x1 x3 x4 s0 μ = some (r, mm)) : Fr W_X3_readTown none μ mm := by
  unfold B_X3_readTown_92 at h
  by_cases c : (w32 s0) = 0
  · replace h := ifp c h
    exact Fr.tr Fr.rf (Q_X3_readTown_128 _ _ _ _ h)
  · replace h := ifn c h
    obtain ⟨m1, h1, h⟩ := bm_some h
    by_cases c : ¬ (w32 (D_X3_isNumber 0 12 m1)) = 0
    · replace h := ifp c h
      obtain ⟨m3, h3, h⟩ := bm_some h
      exact Fr.tr (Fr.tr (Fr.tr Fr.rf (Fr.mono rfl (Or.inl rfl) (fr_X3_next h1))) (Fr.mono rfl (Or.inl rfl) (fr_X3_next h3))) (Q_X3_readTown_128 _ _ _ _ h)
    · replace h := ifn c h
      exact frE h (Fr.tr Fr.rf (Fr.mono rfl (Or.inl rfl) (fr_X3_next h1)))
theorem fr_X3_readTown {μ : Mi} {r : Int} {mm : Mi} (h : D_X3_readTown μ = some (r, mm)) : Fr W_X3_readTown none μ mm := by
  unfold D_X3_readTown at h
  by_cases c : (w32 (rd μ 0 true 1)) < 8
  · replace h := ifp c h
    obtain ⟨m1, h1, h⟩ := bm_some h
    obtain ⟨r2, h2, h⟩ := bp_some h
    by_cases c : ¬ (w32 r2) = 0
    · replace h := ifp c h
      obtain ⟨m3, h3, h⟩ := bm_some h
      obtain ⟨r4, m4, h4, h⟩ := bd_some h
      by_cases c : ¬ (w32 r4) = 0
      · replace h := ifp c h
        obtain ⟨r5, h5, h⟩ := bp_some h
        by_cases c : 0 ≤ (w32 r5)
        · replace h := ifp c h
          obtain ⟨m6, h6, h⟩ := bm_some h
          obtain ⟨r7, h7, h⟩ := bp_some h
          by_cases c : (w32 r7) = 0
          · replace h := ifp c h
            obtain ⟨r8, h8, h⟩ := bp_some h
            by_cases c : (w32 r8) = 0
            · replace h := ifp c h
              exact Fr.tr (Fr.tr (Fr.tr (Fr.tr (Fr.tr Fr.rf (Fr.mono rfl (Or.inl rfl) (fr_X3_next h1))) (Fr.mono rfl (Or.inl rfl) (fr_X3_next h3))) (Fr.mono rfl (Or.inl rfl) (fr_X3_passWord h4))) (Fr.mono rfl (Or.inl rfl) (fr_X3_next h6))) (Q_X3_readTown_92 _ _ _ _ _ h)
            · replace h := ifn c h
              exact Fr.tr (Fr.tr (Fr.tr (Fr.tr (Fr.tr Fr.rf (Fr.mono rfl (Or.inl rfl) (fr_X3_next h1))) (Fr.mono rfl (Or.inl rfl) (fr_X3_next h3))) (Fr.mono rfl (Or.inl rfl) (fr_X3_passWord h4))) (Fr.mono rfl (Or.inl rfl) (fr_X3_next h6))) (Q_X3_readTown_92 _ _ _ _ _ h)
          · replace h := ifn c h
            exact Fr.tr (Fr.tr (Fr.tr (Fr.tr (Fr.tr Fr.rf (Fr.mono rfl (Or.inl rfl) (fr_X3_next h1))) (Fr.mono rfl (Or.inl rfl) (fr_X3_next h3))) (Fr.mono rfl (Or.inl rfl) (fr_X3_passWord h4))) (Fr.mono rfl (Or.inl rfl) (fr_X3_next h6))) (Q_X3_readTown_92 _ _ _ _ _ h)
        · replace h := ifn c h
          exact frE h (Fr.tr (Fr.tr (Fr.tr Fr.rf (Fr.mono rfl (Or.inl rfl) (fr_X3_next h1))) (Fr.mono rfl (Or.inl rfl) (fr_X3_next h3))) (Fr.mono rfl (Or.inl rfl) (fr_X3_passWord h4)))
      · replace h := ifn c h
        exact frE h (Fr.tr (Fr.tr (Fr.tr Fr.rf (Fr.mono rfl (Or.inl rfl) (fr_X3_next h1))) (Fr.mono rfl (Or.inl rfl) (fr_X3_next h3))) (Fr.mono rfl (Or.inl rfl) (fr_X3_passWord h4)))
    · replace h := ifn c h
      exact frE h (Fr.tr Fr.rf (Fr.mono rfl (Or.inl rfl) (fr_X3_next h1)))
  · replace h := ifn c h
    exact frE h Fr.rf
def W_X3_readLand : List (Nat × Nat) := [(0, 0), (3, 5), (3, 6), (3, 7), (3, 8), (3, 9), (10, 0), (30, 0)]
theorem fr_X3_readLand {μ : Mi} {r : Int} {mm : Mi} (h : D_X3_readLand μ = some (r, mm)) : Fr W_X3_readLand none μ mm := by
  unfold D_X3_readLand at h
  by_cases c : (w32 (rd μ 0 true 0)) < 4
  · replace h := ifp c h
    obtain ⟨m1, h1, h⟩ := bm_some h
    obtain ⟨r2, h2, h⟩ := bp_some h
    by_cases c : ¬ (w32 r2) = 0
    · replace h := ifp c h
      obtain ⟨m3, h3, h⟩ := bm_some h
      obtain ⟨r4, h4, h⟩ := bp_some h
      by_cases c : 0 ≤ (w32 r4)
      · replace h := ifp c h
        obtain ⟨m5, h5, h⟩ := bm_some h
        by_cases c : (w32 (rd m5 3 false 7)) = 3
        · replace h := ifp c h
          obtain ⟨m6, h6, h⟩ := bm_some h
          obtain ⟨hi, h⟩ := ift h
          obtain ⟨m7, h7, h⟩ := bm_some h
          exact frE h (Fr.tr (Fr.l rfl trivial (Fr.tr (Fr.tr (Fr.tr (Fr.tr Fr.rf (Fr.mono rfl (Or.inl rfl) (fr_X3_next h1))) (Fr.mono rfl (Or.inl rfl) (fr_X3_next h3))) (Fr.mono rfl (Or.inl rfl) (fr_X3_next h5))) (Fr.mono rfl (Or.inl rfl) (fr_X3_next h6)))) (Fr.mono rfl (Or.inl rfl) (fr_X0_addLand h7)))
        · replace h := ifn c h
          exact frE h (Fr.tr (Fr.tr (Fr.tr Fr.rf (Fr.mono rfl (Or.inl rfl) (fr_X3_next h1))) (Fr.mono rfl (Or.inl rfl) (fr_X3_next h3))) (Fr.mono rfl (Or.inl rfl) (fr_X3_next h5)))
      · replace h := ifn c h
        exact frE h (Fr.tr (Fr.tr Fr.rf (Fr.mono rfl (Or.inl rfl) (fr_X3_next h1))) (Fr.mono rfl (Or.inl rfl) (fr_X3_next h3)))
    · replace h := ifn c h
      exact frE h (Fr.tr Fr.rf (Fr.mono rfl (Or.inl rfl) (fr_X3_next h1)))
  · replace h := ifn c h
    exact frE h Fr.rf
def W_X3_readLine : List (Nat × Nat) := [(0, 0), (0, 1), (0, 2), (3, 5), (3, 6), (3, 7), (3, 8), (3, 9), (10, 0), (11, 0), (12, 0), (13, 0), (14, 0), (15, 0), (16, 0), (17, 0), (18, 0), (19, 0), (20, 0), (30, 0), (31, 0)]
theorem fr_X3_readLine {μ : Mi} {r : Int} {mm : Mi} (h : D_X3_readLine μ = some (r, mm)) : Fr W_X3_readLine none μ mm := by
  unfold D_X3_readLine at h
  obtain ⟨r1, h1, h⟩ := bp_some h
  by_cases c : (w32 r1) = 0
  · replace h := ifp c h
    obtain ⟨r2, h2, h⟩ := bp_some h
    by_cases c : (w32 r2) = 0
    · replace h := ifp c h
      obtain ⟨r3, h3, h⟩ := bp_some h
      by_cases c : (w32 r3) = 0
      · replace h := ifp c h
        obtain ⟨r4, h4, h⟩ := bp_some h
        by_cases c : (w32 r4) = 0
        · replace h := ifp c h
          exact frE h Fr.rf
        · replace h := ifn c h
          obtain ⟨r5, m5, h5, h⟩ := bd_some h
          by_cases c : (w32 r5) = 0
          · replace h := ifp c h
            exact frE h (Fr.tr Fr.rf (Fr.mono rfl (Or.inl rfl) (fr_X3_readLink h5)))
          · replace h := ifn c h
            exact frE h (Fr.tr Fr.rf (Fr.mono rfl (Or.inl rfl) (fr_X3_readLink h5)))
      · replace h := ifn c h
        obtain ⟨r4, m4, h4, h⟩ := bd_some h
        obtain ⟨hb, h⟩ := ift h
        exact frE h (Fr.tr Fr.rf (Fr.mono rfl (Or.inl rfl) (fr_X3_readLink h4)))
    · replace h := ifn c h
      obtain ⟨r3, m3, h3, h⟩ := bd_some h
      obtain ⟨hb, h⟩ := ift h
      exact frE h (Fr.tr Fr.rf (Fr.mono rfl (Or.inl rfl) (fr_X3_readTown h3)))
  · replace h := ifn c h
    obtain ⟨r2, m2, h2, h⟩ := bd_some h
    obtain ⟨hb, h⟩ := ift h
    exact frE h (Fr.tr Fr.rf (Fr.mono rfl (Or.inl rfl) (fr_X3_readLand h2)))
def W_X3_faultOf : List (Nat × Nat) := [(0, 0), (0, 1), (0, 2), (3, 4), (3, 5), (3, 6), (3, 7), (3, 8), (3, 9), (10, 0), (11, 0), (12, 0), (13, 0), (14, 0), (15, 0), (16, 0), (17, 0), (18, 0), (19, 0), (20, 0), (30, 0), (31, 0)]
theorem Q_X3_faultOf_63 {r : Int} {mm : Mi} (μ : Mi) (h : B_X3_faultOf_63 μ = some (r, mm)) : Fr W_X3_faultOf none μ mm := by
  unfold B_X3_faultOf_63 at h
  by_cases c : ¬ (w32 (rd μ 0 true 1)) = 0
  · replace h := ifp c h
    exact frE h Fr.rf
  · replace h := ifn c h
    exact frE h Fr.rf
theorem Q_X3_faultOf_31 {r : Int} {mm : Mi} : ∀ (n : Nat) (x2 : Int) (μ : Mi), B_X3_faultOf_31 n x2 μ = some (r, mm) → Fr W_X3_faultOf none μ mm := by
  intro n
  induction n with
  | zero =>
    intro x2 μ h
    exact nope h
  | succ n hk31 =>
    intro x2 μ h
    replace h : F_X3_faultOf_31 (B_X3_faultOf_31 n) x2 μ = some (r, mm) := h
    unfold F_X3_faultOf_31 at h
    by_cases c : 500 ≤ (w32 x2)
    · replace h := ifp c h
      exact Fr.tr Fr.rf (Q_X3_faultOf_63 _ h)
    · replace h := ifn c h
      by_cases c : (w32 (rd μ 3 false 7)) = 0
      · replace h := ifp c h
        exact Fr.tr Fr.rf (Q_X3_faultOf_63 _ h)
      · replace h := ifn c h
        obtain ⟨r1, m1, h1, h⟩ := bd_some h
        by_cases c : ¬ (w32 r1) = 0
        · replace h := ifp c h
          exact Fr.tr (Fr.tr Fr.rf (Fr.mono rfl (Or.inl rfl) (fr_X3_readLine h1))) (hk31 _ _ h)
        · replace h := ifn c h
          exact frE h (Fr.tr Fr.rf (Fr.mono rfl (Or.inl rfl) (fr_X3_readLine h1)))
theorem fr_X3_faultOf {x1 : Int} {μ : Mi} {r : Int} {mm : Mi} (h : D_X3_faultOf x1 μ = some (r, mm)) : Fr W_X3_faultOf none μ mm := by
  unfold D_X3_faultOf at h
  obtain ⟨m2, h2, h⟩ := bm_some h
  obtain ⟨m3, h3, h⟩ := bm_some h
  exact Fr.tr (Fr.tr (Fr.tr (Fr.w rfl trivial (Fr.w rfl trivial Fr.rf)) (Fr.mono rfl (Or.inl rfl) (fr_X0_clear h2))) (Fr.mono rfl (Or.inl rfl) (fr_X3_next h3))) (Q_X3_faultOf_31 FU _ _ h)
def W_X4_mustLearn : List (Nat × Nat) := [(1, 0), (2, 4)]
theorem Q_X4_mustLearn_45  {x0 : Bool}{r : Int} {mm : Mi} (x1 : Int) (s0 : Int) (μ : Mi) (h : B_X4_mustLearn_45 x0 x1 s0 μ = some (r, mm)) : Fr W_X4_mustLearn (some x0) μ mm := by
  unfold B_X4_mustLearn_45 at h
  obtain ⟨hb, h⟩ := ift h
  exact frE h (Fr.w rfl (fun _ => rfl) Fr.rf)
theorem Q_X4_mustLearn_26  {x0 : Bool}{r : Int} {mm : Mi} (x1 : Int) (μ : Mi) (h : B_X4_mustLearn_26 x0 x1 μ = some (r, mm)) : Fr W_X4_mustLearn (some x0) μ mm := by
  unfold B_X4_mustLearn_26 at h
  by_cases c : ¬ (w32 (iand (ishr (rd μ 1 x0 0) x1) 1)) = 0
  · replace h := ifp c h
    exact Fr.tr Fr.rf (Q_X4_mustLearn_45 _ _ _ h)
  · replace h := ifn c h
    exact Fr.tr Fr.rf (Q_X4_mustLearn_45 _ _ _ h)
theorem fr_X4_mustLearn {x0 : Bool} {x1 : Int} {μ : Mi} {r : Int} {mm : Mi} (h : D_X4_mustLearn x0 x1 μ = some (r, mm)) : Fr W_X4_mustLearn (some x0) μ mm := by
  unfold D_X4_mustLearn at h
  by_cases c : (w32 (rd μ 2 x0 4)) = 0
  · replace h := ifp c h
    exact Fr.tr Fr.rf (Q_X4_mustLearn_26 _ _ h)
  · replace h := ifn c h
    exact Fr.tr (Fr.w rfl (fun _ => rfl) (Fr.w rfl (fun _ => rfl) Fr.rf)) (Q_X4_mustLearn_26 _ _ h)
def W_X4_listCells : List (Nat × Nat) := [(4, 8), (33, 0)]
theorem Q_X4_listCells_81  {x0 : Bool}{mm : Mi} {k7 : (Bool → Int → Mi → Option Mi)} {k23 : (Bool → Int → Int → Mi → Option Mi)} (hk7 : ∀ (x1 : Int) (m : Mi), k7 x0 x1 m = some mm → Fr W_X4_listCells (some x0) m mm) (hk23 : ∀ (x1 : Int) (x2 : Int) (m : Mi), k23 x0 x1 x2 m = some mm → Fr W_X4_listCells (some x0) m mm) (x1 : Int) (x2 : Int) (μ : Mi) (h : B_X4_listCells_81 k7 k23 x0 x1 x2 μ = some mm) : Fr W_X4_listCells (some x0) μ mm := by
  unfold B_X4_listCells_81 at h
  exact Fr.tr Fr.rf (hk23 _ _ _ h)
theorem Q_X4_listCells_29  {x0 : Bool}{mm : Mi} {k7 : (Bool → Int → Mi → Option Mi)} {k23 : (Bool → Int → Int → Mi → Option Mi)} (hk7 : ∀ (x1 : Int) (m : Mi), k7 x0 x1 m = some mm → Fr W_X4_listCells (some x0) m mm) (hk23 : ∀ (x1 : Int) (x2 : Int) (m : Mi), k23 x0 x1 x2 m = some mm → Fr W_X4_listCells (some x0) m mm) : ∀ (n : Nat) (x1 : Int) (x2 : Int) (x3 : Int) (μ : Mi), B_X4_listCells_29 k7 k23 n x0 x1 x2 x3 μ = some mm → Fr W_X4_listCells (some x0) μ mm := by
  intro n
  induction n with
  | zero =>
    intro x1 x2 x3 μ h
    exact nope h
  | succ n hk29 =>
    intro x1 x2 x3 μ h
    replace h : F_X4_listCells_29 k7 k23 (B_X4_listCells_29 k7 k23 n) x0 x1 x2 x3 μ = some mm := h
    unfold F_X4_listCells_29 at h
    by_cases c : (w32 (ishl 1 (rd μ 4 x0 10))) ≤ (w32 x3)
    · replace h := ifp c h
      exact Fr.tr Fr.rf (Q_X4_listCells_81 hk7 hk23 _ _ _ h)
    · replace h := ifn c h
      by_cases c : 256 ≤ (w32 (rd μ 4 x0 8))
      · replace h := ifp c h
        exact Fr.tr Fr.rf (Q_X4_listCells_81 hk7 hk23 _ _ _ h)
      · replace h := ifn c h
        obtain ⟨hi, h⟩ := ift h
        exact Fr.tr (Fr.w rfl (fun _ => rfl) (Fr.w rfl (fun _ => rfl) Fr.rf)) (hk29 _ _ _ _ h)
theorem Q_X4_listCells_23  {x0 : Bool}{mm : Mi} {k7 : (Bool → Int → Mi → Option Mi)} (hk7 : ∀ (x1 : Int) (m : Mi), k7 x0 x1 m = some mm → Fr W_X4_listCells (some x0) m mm) : ∀ (n : Nat) (x1 : Int) (x2 : Int) (μ : Mi), B_X4_listCells_23 k7 n x0 x1 x2 μ = some mm → Fr W_X4_listCells (some x0) μ mm := by
  intro n
  induction n with
  | zero =>
    intro x1 x2 μ h
    exact nope h
  | succ n hk23 =>
    intro x1 x2 μ h
    replace h : F_X4_listCells_23 k7 (B_X4_listCells_23 k7 n) x0 x1 x2 μ = some mm := h
    unfold F_X4_listCells_23 at h
    by_cases c : (w32 x2) < 0
    · replace h := ifp c h
      exact Fr.tr Fr.rf (hk7 _ _ h)
    · replace h := ifn c h
      exact Fr.tr Fr.rf (Q_X4_listCells_29 hk7 hk23 FU _ _ _ _ h)
theorem Q_X4_listCells_7  {x0 : Bool}{mm : Mi} : ∀ (n : Nat) (x1 : Int) (μ : Mi), B_X4_listCells_7 n x0 x1 μ = some mm → Fr W_X4_listCells (some x0) μ mm := by
  intro n
  induction n with
  | zero =>
    intro x1 μ h
    exact nope h
  | succ n hk7 =>
    intro x1 μ h
    replace h : F_X4_listCells_7 (B_X4_listCells_7 n) x0 x1 μ = some mm := h
    unfold F_X4_listCells_7 at h
    by_cases c : (w32 (rd μ 0 false 1)) ≤ (w32 x1)
    · replace h := ifp c h
      exact frV h Fr.rf
    · replace h := ifn c h
      exact Fr.tr Fr.rf (Q_X4_listCells_23 hk7 FU _ _ _ h)
theorem fr_X4_listCells {x0 : Bool} {μ : Mi} {mm : Mi} (h : D_X4_listCells x0 μ = some mm) : Fr W_X4_listCells (some x0) μ mm := by
  unfold D_X4_listCells at h
  exact Fr.tr (Fr.w rfl (fun _ => rfl) Fr.rf) (Q_X4_listCells_7 FU _ _ h)
def W_X4_prepare : List (Nat × Nat) := [(4, 8), (4, 9), (4, 10), (4, 11), (33, 0), (34, 0), (35, 0), (36, 0)]
theorem Q_X4_prepare_186  {x0 : Bool}{mm : Mi} : ∀ (n : Nat) (x2 : Int) (μ : Mi), B_X4_prepare_186 n x0 x2 μ = some mm → Fr W_X4_prepare (some x0) μ mm := by
  intro n
  induction n with
  | zero =>
    intro x2 μ h
    exact nope h
  | succ n hk186 =>
    intro x2 μ h
    replace h : F_X4_prepare_186 (B_X4_prepare_186 n) x0 x2 μ = some mm := h
    unfold F_X4_prepare_186 at h
    by_cases c : 96 < (w32 x2)
    · replace h := ifp c h
      obtain ⟨m1, h1, h⟩ := bm_some h
      exact frV h (Fr.tr Fr.rf (Fr.mono rfl (Or.inr rfl) (fr_X4_listCells h1)))
    · replace h := ifn c h
      obtain ⟨r1, h1, h⟩ := bp_some h
      obtain ⟨hi, h⟩ := ift h
      exact Fr.tr (Fr.w rfl (fun _ => rfl) Fr.rf) (hk186 _ _ h)
theorem Q_X4_prepare_178  {x0 : Bool}{mm : Mi} {k17 : (Bool → Int → Int → Mi → Option Mi)} (hk17 : ∀ (x1 : Int) (x2 : Int) (m : Mi), k17 x0 x1 x2 m = some mm → Fr W_X4_prepare (some x0) m mm) (x1 : Int) (x2 : Int) (μ : Mi) (h : B_X4_prepare_178 k17 x0 x1 x2 μ = some mm) : Fr W_X4_prepare (some x0) μ mm := by
  unfold B_X4_prepare_178 at h
  exact Fr.tr Fr.rf (hk17 _ _ _ h)
theorem Q_X4_prepare_131  {x0 : Bool}{mm : Mi} {k17 : (Bool → Int → Int → Mi → Option Mi)} (hk17 : ∀ (x1 : Int) (x2 : Int) (m : Mi), k17 x0 x1 x2 m = some mm → Fr W_X4_prepare (some x0) m mm) (x1 : Int) (x2 : Int) (x3 : Int) (μ : Mi) (h : B_X4_prepare_131 k17 x0 x1 x2 x3 μ = some mm) : Fr W_X4_prepare (some x0) μ mm := by
  unfold B_X4_prepare_131 at h
  by_cases c : ¬ (w32 x3) = 0
  · replace h := ifp c h
    exact Fr.tr Fr.rf (Q_X4_prepare_178 hk17 _ _ _ h)
  · replace h := ifn c h
    obtain ⟨r1, h1, h⟩ := bp_some h
    by_cases c : (w32 r1) = 0
    · replace h := ifp c h
      exact Fr.tr Fr.rf (Q_X4_prepare_178 hk17 _ _ _ h)
    · replace h := ifn c h
      obtain ⟨hi, h⟩ := ift h
      by_cases c : (w32 (rd μ 2 x0 2)) < (w32 (rd μ 26 x0 (ix x2)))
      · replace h := ifp c h
        exact Fr.tr Fr.rf (Q_X4_prepare_178 hk17 _ _ _ h)
      · replace h := ifn c h
        exact Fr.tr (Fr.w rfl (fun _ => rfl) Fr.rf) (Q_X4_prepare_178 hk17 _ _ _ h)
theorem Q_X4_prepare_87  {x0 : Bool}{mm : Mi} {k17 : (Bool → Int → Int → Mi → Option Mi)} (hk17 : ∀ (x1 : Int) (x2 : Int) (m : Mi), k17 x0 x1 x2 m = some mm → Fr W_X4_prepare (some x0) m mm) (x1 : Int) (x2 : Int) (x3 : Int) (μ : Mi) (h : B_X4_prepare_87 k17 x0 x1 x2 x3 μ = some mm) : Fr W_X4_prepare (some x0) μ mm := by
  unfold B_X4_prepare_87 at h
  by_cases c : ¬ (w32 x3) = 0
  · replace h := ifp c h
    exact Fr.tr Fr.rf (Q_X4_prepare_131 hk17 _ _ _ _ h)
  · replace h := ifn c h
    obtain ⟨r1, h1, h⟩ := bp_some h
    by_cases c : (w32 r1) = 0
    · replace h := ifp c h
      exact Fr.tr Fr.rf (Q_X4_prepare_131 hk17 _ _ _ _ h)
    · replace h := ifn c h
      by_cases c : 2 ≤ (w32 (rd μ 4 x0 10))
      · replace h := ifp c h
        exact Fr.tr Fr.rf (Q_X4_prepare_131 hk17 _ _ _ _ h)
      · replace h := ifn c h
        obtain ⟨hi, h⟩ := ift h
        exact Fr.tr (Fr.w rfl (fun _ => rfl) (Fr.w rfl (fun _ => rfl) Fr.rf)) (Q_X4_prepare_131 hk17 _ _ _ _ h)
theorem Q_X4_prepare_41  {x0 : Bool}{mm : Mi} {k17 : (Bool → Int → Int → Mi → Option Mi)} (hk17 : ∀ (x1 : Int) (x2 : Int) (m : Mi), k17 x0 x1 x2 m = some mm → Fr W_X4_prepare (some x0) m mm) (x1 : Int) (x2 : Int) (s0 : Int) (μ : Mi) (h : B_X4_prepare_41 k17 x0 x1 x2 s0 μ = some mm) : Fr W_X4_prepare (some x0) μ mm := by
  unfold B_X4_prepare_41 at h
  by_cases c : ¬ (w32 s0) = 0
  · replace h := ifp c h
    exact Fr.tr Fr.rf (Q_X4_prepare_87 hk17 _ _ _ _ h)
  · replace h := ifn c h
    obtain ⟨r1, h1, h⟩ := bp_some h
    by_cases c : (w32 r1) = 0
    · replace h := ifp c h
      exact Fr.tr Fr.rf (Q_X4_prepare_87 hk17 _ _ _ _ h)
    · replace h := ifn c h
      by_cases c : 6 ≤ (w32 (rd μ 4 x0 9))
      · replace h := ifp c h
        exact Fr.tr Fr.rf (Q_X4_prepare_87 hk17 _ _ _ _ h)
      · replace h := ifn c h
        obtain ⟨hi, h⟩ := ift h
        exact Fr.tr (Fr.w rfl (fun _ => rfl) (Fr.w rfl (fun _ => rfl) Fr.rf)) (Q_X4_prepare_87 hk17 _ _ _ _ h)
theorem Q_X4_prepare_17  {x0 : Bool}{mm : Mi} : ∀ (n : Nat) (x1 : Int) (x2 : Int) (μ : Mi), B_X4_prepare_17 n x0 x1 x2 μ = some mm → Fr W_X4_prepare (some x0) μ mm := by
  intro n
  induction n with
  | zero =>
    intro x1 x2 μ h
    exact nope h
  | succ n hk17 =>
    intro x1 x2 μ h
    replace h : F_X4_prepare_17 (B_X4_prepare_17 n) x0 x1 x2 μ = some mm := h
    unfold F_X4_prepare_17 at h
    by_cases c : (w32 (rd μ 2 x0 3)) ≤ (w32 x2)
    · replace h := ifp c h
      exact Fr.tr Fr.rf (Q_X4_prepare_186 FU _ _ h)
    · replace h := ifn c h
      by_cases c : (w32 (iand (ishr x1 x2) 1)) = 0
      · replace h := ifp c h
        exact Fr.tr Fr.rf (Q_X4_prepare_41 hk17 _ _ _ _ h)
      · replace h := ifn c h
        exact Fr.tr Fr.rf (Q_X4_prepare_41 hk17 _ _ _ _ h)
theorem fr_X4_prepare {x0 : Bool} {x1 : Int} {μ : Mi} {mm : Mi} (h : D_X4_prepare x0 x1 μ = some mm) : Fr W_X4_prepare (some x0) μ mm := by
  unfold D_X4_prepare at h
  exact Fr.tr (Fr.w rfl (fun _ => rfl) (Fr.w rfl (fun _ => rfl) (Fr.w rfl (fun _ => rfl) Fr.rf))) (Q_X4_prepare_17 FU _ _ _ h)
def W_X4_fill : List (Nat × Nat) := [(4, 12), (32, 0)]
theorem Q_X4_fill_35  {x0 : Bool}{mm : Mi} {k13 : (Bool → Int → Mi → Option Mi)} {k26 : (Bool → Int → Int → Int → Mi → Option Mi)} (hk13 : ∀ (x2 : Int) (m : Mi), k13 x0 x2 m = some mm → Fr W_X4_fill (some x0) m mm) (hk26 : ∀ (x2 : Int) (x3 : Int) (x4 : Int) (m : Mi), k26 x0 x2 x3 x4 m = some mm → Fr W_X4_fill (some x0) m mm) : ∀ (n : Nat) (x2 : Int) (x3 : Int) (x4 : Int) (x5 : Int) (μ : Mi), B_X4_fill_35 k13 k26 n x0 x2 x3 x4 x5 μ = some mm → Fr W_X4_fill (some x0) μ mm := by
  intro n
  induction n with
  | zero =>
    intro x2 x3 x4 x5 μ h
    exact nope h
  | succ n hk35 =>
    intro x2 x3 x4 x5 μ h
    replace h : F_X4_fill_35 k13 k26 (B_X4_fill_35 k13 k26 n) x0 x2 x3 x4 x5 μ = some mm := h
    unfold F_X4_fill_35 at h
    by_cases c : (w32 (rd μ 4 x0 8)) ≤ (w32 x5)
    · replace h := ifp c h
      exact Fr.tr Fr.rf (hk26 _ _ _ _ h)
    · replace h := ifn c h
      obtain ⟨hi, h⟩ := ift h
      obtain ⟨r2, h2, h⟩ := bp_some h
      obtain ⟨hi, h⟩ := ift h
      exact Fr.tr (Fr.w rfl (by intro h; exact nb h) Fr.rf) (hk35 _ _ _ _ _ h)
theorem Q_X4_fill_26  {x0 : Bool}{mm : Mi} {k13 : (Bool → Int → Mi → Option Mi)} (hk13 : ∀ (x2 : Int) (m : Mi), k13 x0 x2 m = some mm → Fr W_X4_fill (some x0) m mm) : ∀ (n : Nat) (x2 : Int) (x3 : Int) (x4 : Int) (μ : Mi), B_X4_fill_26 k13 n x0 x2 x3 x4 μ = some mm → Fr W_X4_fill (some x0) μ mm := by
  intro n
  induction n with
  | zero =>
    intro x2 x3 x4 μ h
    exact nope h
  | succ n hk26 =>
    intro x2 x3 x4 μ h
    replace h : F_X4_fill_26 k13 (B_X4_fill_26 k13 n) x0 x2 x3 x4 μ = some mm := h
    unfold F_X4_fill_26 at h
    by_cases c : (w32 x3) < (w32 x4)
    · replace h := ifp c h
      exact Fr.tr Fr.rf (hk13 _ _ h)
    · replace h := ifn c h
      exact Fr.tr Fr.rf (Q_X4_fill_35 hk13 hk26 FU _ _ _ _ _ h)
theorem Q_X4_fill_13  {x0 : Bool}{mm : Mi} : ∀ (n : Nat) (x2 : Int) (μ : Mi), B_X4_fill_13 n x0 x2 μ = some mm → Fr W_X4_fill (some x0) μ mm := by
  intro n
  induction n with
  | zero =>
    intro x2 μ h
    exact nope h
  | succ n hk13 =>
    intro x2 μ h
    replace h : F_X4_fill_13 (B_X4_fill_13 n) x0 x2 μ = some mm := h
    unfold F_X4_fill_13 at h
    by_cases c : (w32 x2) < 0
    · replace h := ifp c h
      exact frV h Fr.rf
    · replace h := ifn c h
      exact Fr.tr Fr.rf (Q_X4_fill_26 hk13 FU _ _ _ _ h)
theorem fr_X4_fill {x0 : Bool} {x1 : Int} {μ : Mi} {mm : Mi} (h : D_X4_fill x0 x1 μ = some mm) : Fr W_X4_fill (some x0) μ mm := by
  unfold D_X4_fill at h
  exact Fr.tr (Fr.w rfl (fun _ => rfl) Fr.rf) (Q_X4_fill_13 FU _ _ h)
def W_X4_reach : List (Nat × Nat) := [(32, 0)]
theorem fr_X4_reach {x0 : Bool} {x1 : Int} {x2 : Int} {μ : Mi} {r : Int} {mm : Mi} (h : D_X4_reach x0 x1 x2 μ = some (r, mm)) : Fr W_X4_reach (some x0) μ mm := by
  unfold D_X4_reach at h
  by_cases c : (w32 x2) < 0
  · replace h := ifp c h
    exact frE h Fr.rf
  · replace h := ifn c h
    obtain ⟨hi, h⟩ := ift h
    by_cases c : 0 ≤ (w32 (rd μ 32 false (ix (D_X4_index x1 x2))))
    · replace h := ifp c h
      obtain ⟨hi, h⟩ := ift h
      obtain ⟨hi, h⟩ := ift h
      exact frE h (Fr.w rfl (by intro h; exact nb h) Fr.rf)
    · replace h := ifn c h
      exact frE h Fr.rf
def W_X4_goOnFrom : List (Nat × Nat) := [(21, 0), (32, 0)]
theorem Q_X4_goOnFrom_140  {x0 : Bool}{mm : Mi} {k46 : (Bool → Int → Int → Int → Mi → Option Mi)} (hk46 : ∀ (x1 : Int) (x2 : Int) (x3 : Int) (m : Mi), k46 x0 x1 x2 x3 m = some mm → Fr W_X4_goOnFrom (some x0) m mm) (x1 : Int) (x2 : Int) (x3 : Int) (μ : Mi) (h : B_X4_goOnFrom_140 k46 x0 x1 x2 x3 μ = some mm) : Fr W_X4_goOnFrom (some x0) μ mm := by
  unfold B_X4_goOnFrom_140 at h
  exact Fr.tr Fr.rf (hk46 _ _ _ _ h)
theorem Q_X4_goOnFrom_111  {x0 : Bool}{mm : Mi} {k46 : (Bool → Int → Int → Int → Mi → Option Mi)} (hk46 : ∀ (x1 : Int) (x2 : Int) (x3 : Int) (m : Mi), k46 x0 x1 x2 x3 m = some mm → Fr W_X4_goOnFrom (some x0) m mm) : ∀ (n : Nat) (x1 : Int) (x2 : Int) (x3 : Int) (x4 : Int) (x5 : Int) (μ : Mi), B_X4_goOnFrom_111 k46 n x0 x1 x2 x3 x4 x5 μ = some mm → Fr W_X4_goOnFrom (some x0) μ mm := by
  intro n
  induction n with
  | zero =>
    intro x1 x2 x3 x4 x5 μ h
    exact nope h
  | succ n hk111 =>
    intro x1 x2 x3 x4 x5 μ h
    replace h : F_X4_goOnFrom_111 k46 (B_X4_goOnFrom_111 k46 n) x0 x1 x2 x3 x4 x5 μ = some mm := h
    unfold F_X4_goOnFrom_111 at h
    by_cases c : (w32 x4) ≤ (w32 x5)
    · replace h := ifp c h
      exact Fr.tr Fr.rf (Q_X4_goOnFrom_140 hk46 _ _ _ _ h)
    · replace h := ifn c h
      obtain ⟨hi, h⟩ := ift h
      obtain ⟨hi, h⟩ := ift h
      exact Fr.tr (Fr.w rfl (fun _ => rfl) Fr.rf) (hk111 _ _ _ _ _ _ h)
theorem Q_X4_goOnFrom_46  {x0 : Bool}{mm : Mi} : ∀ (n : Nat) (x1 : Int) (x2 : Int) (x3 : Int) (μ : Mi), B_X4_goOnFrom_46 n x0 x1 x2 x3 μ = some mm → Fr W_X4_goOnFrom (some x0) μ mm := by
  intro n
  induction n with
  | zero =>
    intro x1 x2 x3 μ h
    exact nope h
  | succ n hk46 =>
    intro x1 x2 x3 μ h
    replace h : F_X4_goOnFrom_46 (B_X4_goOnFrom_46 n) x0 x1 x2 x3 μ = some mm := h
    unfold F_X4_goOnFrom_46 at h
    by_cases c : (w32 (rd μ 0 false 2)) ≤ (w32 x3)
    · replace h := ifp c h
      exact frV h Fr.rf
    · replace h := ifn c h
      obtain ⟨r1, h1, h⟩ := bp_some h
      by_cases c : (w32 r1) = 0
      · replace h := ifp c h
        exact Fr.tr Fr.rf (Q_X4_goOnFrom_140 hk46 _ _ _ _ h)
      · replace h := ifn c h
        obtain ⟨r2, h2, h⟩ := bp_some h
        by_cases c : ¬ (w32 r2) = 0
        · replace h := ifp c h
          exact Fr.tr Fr.rf (Q_X4_goOnFrom_140 hk46 _ _ _ _ h)
        · replace h := ifn c h
          obtain ⟨hi, h⟩ := ift h
          obtain ⟨r3, h3, h⟩ := bp_some h
          obtain ⟨r4, m4, h4, h⟩ := bd_some h
          by_cases c : (w32 r4) = 0
          · replace h := ifp c h
            exact Fr.tr (Fr.tr Fr.rf (Fr.mono rfl (Or.inr rfl) (fr_X4_reach h4))) (Q_X4_goOnFrom_140 hk46 _ _ _ _ h)
          · replace h := ifn c h
            exact Fr.tr (Fr.tr Fr.rf (Fr.mono rfl (Or.inr rfl) (fr_X4_reach h4))) (Q_X4_goOnFrom_111 hk46 FU _ _ _ _ _ _ h)
theorem fr_X4_goOnFrom {x0 : Bool} {x1 : Int} {x2 : Int} {μ : Mi} {mm : Mi} (h : D_X4_goOnFrom x0 x1 x2 μ = some mm) : Fr W_X4_goOnFrom (some x0) μ mm := by
  unfold D_X4_goOnFrom at h
  obtain ⟨hi, h⟩ := ift h
  obtain ⟨hi, h⟩ := ift h
  by_cases c : (w32 x1) < (w32 (rd μ 2 x0 2))
  · replace h := ifp c h
    obtain ⟨r2, h2, h⟩ := bp_some h
    obtain ⟨r3, m3, h3, h⟩ := bd_some h
    exact Fr.tr (Fr.tr (Fr.w rfl (fun _ => rfl) Fr.rf) (Fr.mono rfl (Or.inr rfl) (fr_X4_reach h3))) (Q_X4_goOnFrom_46 FU _ _ _ _ h)
  · replace h := ifn c h
    exact frV h (Fr.w rfl (fun _ => rfl) Fr.rf)
def W_X4_learnWhere : List (Nat × Nat) := [(1, 0), (1, 1), (2, 4), (4, 8), (4, 9), (4, 10), (4, 11), (4, 12), (21, 0), (32, 0), (33, 0), (34, 0), (35, 0), (36, 0)]
theorem Q_X4_learnWhere_144  {x0 : Bool}{mm : Mi} {k70 : (Bool → Int → Mi → Option Mi)} {k89 : (Bool → Int → Int → Int → Mi → Option Mi)} {k97 : (Bool → Int → Int → Int → Int → Mi → Option Mi)} (hk70 : ∀ (x1 : Int) (m : Mi), k70 x0 x1 m = some mm → Fr W_X4_learnWhere (some x0) m mm) (hk89 : ∀ (x1 : Int) (x2 : Int) (x3 : Int) (m : Mi), k89 x0 x1 x2 x3 m = some mm → Fr W_X4_learnWhere (some x0) m mm) (hk97 : ∀ (x1 : Int) (x2 : Int) (x3 : Int) (x4 : Int) (m : Mi), k97 x0 x1 x2 x3 x4 m = some mm → Fr W_X4_learnWhere (some x0) m mm) (x1 : Int) (x2 : Int) (x3 : Int) (x4 : Int) (μ : Mi) (h : B_X4_learnWhere_144 k70 k89 k97 x0 x1 x2 x3 x4 μ = some mm) : Fr W_X4_learnWhere (some x0) μ mm := by
  unfold B_X4_learnWhere_144 at h
  exact Fr.tr Fr.rf (hk97 _ _ _ _ _ h)
theorem Q_X4_learnWhere_97  {x0 : Bool}{mm : Mi} {k70 : (Bool → Int → Mi → Option Mi)} {k89 : (Bool → Int → Int → Int → Mi → Option Mi)} (hk70 : ∀ (x1 : Int) (m : Mi), k70 x0 x1 m = some mm → Fr W_X4_learnWhere (some x0) m mm) (hk89 : ∀ (x1 : Int) (x2 : Int) (x3 : Int) (m : Mi), k89 x0 x1 x2 x3 m = some mm → Fr W_X4_learnWhere (some x0) m mm) : ∀ (n : Nat) (x1 : Int) (x2 : Int) (x3 : Int) (x4 : Int) (μ : Mi), B_X4_learnWhere_97 k70 k89 n x0 x1 x2 x3 x4 μ = some mm → Fr W_X4_learnWhere (some x0) μ mm := by
  intro n
  induction n with
  | zero =>
    intro x1 x2 x3 x4 μ h
    exact nope h
  | succ n hk97 =>
    intro x1 x2 x3 x4 μ h
    replace h : F_X4_learnWhere_97 k70 k89 (B_X4_learnWhere_97 k70 k89 n) x0 x1 x2 x3 x4 μ = some mm := h
    unfold F_X4_learnWhere_97 at h
    by_cases c : (w32 (rd μ 4 x0 8)) ≤ (w32 x4)
    · replace h := ifp c h
      exact Fr.tr Fr.rf (hk89 _ _ _ _ h)
    · replace h := ifn c h
      obtain ⟨hi, h⟩ := ift h
      obtain ⟨hi, h⟩ := ift h
      by_cases c : (w32 (rd μ 32 false (ix (D_X4_index x1 ((x3 * 256) + (rd μ 33 x0 (ix x4))))))) < 1073741824
      · replace h := ifp c h
        exact Fr.tr Fr.rf (Q_X4_learnWhere_144 hk70 hk89 hk97 _ _ _ _ _ h)
      · replace h := ifn c h
        obtain ⟨m2, h2, h⟩ := bm_some h
        exact Fr.tr (Fr.tr Fr.rf (Fr.mono rfl (Or.inr rfl) (fr_X4_goOnFrom h2))) (Q_X4_learnWhere_144 hk70 hk89 hk97 _ _ _ _ _ h)
theorem Q_X4_learnWhere_89  {x0 : Bool}{mm : Mi} {k70 : (Bool → Int → Mi → Option Mi)} (hk70 : ∀ (x1 : Int) (m : Mi), k70 x0 x1 m = some mm → Fr W_X4_learnWhere (some x0) m mm) : ∀ (n : Nat) (x1 : Int) (x2 : Int) (x3 : Int) (μ : Mi), B_X4_learnWhere_89 k70 n x0 x1 x2 x3 μ = some mm → Fr W_X4_learnWhere (some x0) μ mm := by
  intro n
  induction n with
  | zero =>
    intro x1 x2 x3 μ h
    exact nope h
  | succ n hk89 =>
    intro x1 x2 x3 μ h
    replace h : F_X4_learnWhere_89 k70 (B_X4_learnWhere_89 k70 n) x0 x1 x2 x3 μ = some mm := h
    unfold F_X4_learnWhere_89 at h
    by_cases c : (w32 x2) < (w32 x3)
    · replace h := ifp c h
      exact Fr.tr Fr.rf (hk70 _ _ h)
    · replace h := ifn c h
      exact Fr.tr Fr.rf (Q_X4_learnWhere_97 hk70 hk89 FU _ _ _ _ _ h)
theorem Q_X4_learnWhere_70  {x0 : Bool}{mm : Mi} : ∀ (n : Nat) (x1 : Int) (μ : Mi), B_X4_learnWhere_70 n x0 x1 μ = some mm → Fr W_X4_learnWhere (some x0) μ mm := by
  intro n
  induction n with
  | zero =>
    intro x1 μ h
    exact nope h
  | succ n hk70 =>
    intro x1 μ h
    replace h : F_X4_learnWhere_70 (B_X4_learnWhere_70 n) x0 x1 μ = some mm := h
    unfold F_X4_learnWhere_70 at h
    by_cases c : (w32 (rd μ 2 x0 2)) < (w32 x1)
    · replace h := ifp c h
      exact frV h Fr.rf
    · replace h := ifn c h
      exact Fr.tr Fr.rf (Q_X4_learnWhere_89 hk70 FU _ _ _ _ h)
theorem Q_X4_learnWhere_36  {x0 : Bool}{mm : Mi} : ∀ (n : Nat) (x1 : Int) (μ : Mi), B_X4_learnWhere_36 n x0 x1 μ = some mm → Fr W_X4_learnWhere (some x0) μ mm := by
  intro n
  induction n with
  | zero =>
    intro x1 μ h
    exact nope h
  | succ n hk36 =>
    intro x1 μ h
    replace h : F_X4_learnWhere_36 (B_X4_learnWhere_36 n) x0 x1 μ = some mm := h
    unfold F_X4_learnWhere_36 at h
    by_cases c : 96 < (w32 x1)
    · replace h := ifp c h
      obtain ⟨r1, h1, h⟩ := bp_some h
      obtain ⟨r2, m2, h2, h⟩ := bd_some h
      exact Fr.tr (Fr.tr Fr.rf (Fr.mono rfl (Or.inr rfl) (fr_X4_reach h2))) (Q_X4_learnWhere_70 FU _ _ h)
    · replace h := ifn c h
      obtain ⟨hi, h⟩ := ift h
      exact Fr.tr (Fr.w rfl (fun _ => rfl) Fr.rf) (hk36 _ _ h)
theorem fr_X4_learnWhere {x0 : Bool} {μ : Mi} {mm : Mi} (h : D_X4_learnWhere x0 μ = some mm) : Fr W_X4_learnWhere (some x0) μ mm := by
  unfold D_X4_learnWhere at h
  obtain ⟨r1, m1, h1, h⟩ := bd_some h
  by_cases c : ¬ (w32 r1) = 0
  · replace h := ifp c h
    obtain ⟨m2, h2, h⟩ := bm_some h
    obtain ⟨m3, h3, h⟩ := bm_some h
    obtain ⟨r4, h4, h⟩ := bp_some h
    exact Fr.tr (Fr.w rfl (fun _ => rfl) (Fr.tr (Fr.tr (Fr.tr Fr.rf (Fr.mono rfl (Or.inr rfl) (fr_X4_mustLearn h1))) (Fr.mono rfl (Or.inr rfl) (fr_X4_prepare h2))) (Fr.mono rfl (Or.inr rfl) (fr_X4_fill h3)))) (Q_X4_learnWhere_36 FU _ _ h)
  · replace h := ifn c h
    exact frV h (Fr.tr Fr.rf (Fr.mono rfl (Or.inr rfl) (fr_X4_mustLearn h1)))
def W_X4_howManyWays : List (Nat × Nat) := [(1, 0), (1, 1), (2, 4), (4, 8), (4, 9), (4, 10), (4, 11), (4, 12), (21, 0), (32, 0), (33, 0), (34, 0), (35, 0), (36, 0)]
theorem fr_X4_howManyWays {x0 : Bool} {μ : Mi} {r : Int} {mm : Mi} (h : D_X4_howManyWays x0 μ = some (r, mm)) : Fr W_X4_howManyWays (some x0) μ mm := by
  unfold D_X4_howManyWays at h
  obtain ⟨m1, h1, h⟩ := bm_some h
  exact frE h (Fr.tr Fr.rf (Fr.mono rfl (Or.inr rfl) (fr_X4_learnWhere h1)))
def W_X4_whereAt : List (Nat × Nat) := [(1, 0), (1, 1), (2, 4), (4, 8), (4, 9), (4, 10), (4, 11), (4, 12), (21, 0), (32, 0), (33, 0), (34, 0), (35, 0), (36, 0)]
theorem fr_X4_whereAt {x0 : Bool} {x1 : Int} {μ : Mi} {r : Int} {mm : Mi} (h : D_X4_whereAt x0 x1 μ = some (r, mm)) : Fr W_X4_whereAt (some x0) μ mm := by
  unfold D_X4_whereAt at h
  obtain ⟨m1, h1, h⟩ := bm_some h
  by_cases c : (w32 x1) < 0
  · replace h := ifp c h
    exact frE h (Fr.tr Fr.rf (Fr.mono rfl (Or.inr rfl) (fr_X4_learnWhere h1)))
  · replace h := ifn c h
    by_cases c : 96 < (w32 x1)
    · replace h := ifp c h
      exact frE h (Fr.tr Fr.rf (Fr.mono rfl (Or.inr rfl) (fr_X4_learnWhere h1)))
    · replace h := ifn c h
      obtain ⟨hi, h⟩ := ift h
      exact frE h (Fr.tr Fr.rf (Fr.mono rfl (Or.inr rfl) (fr_X4_learnWhere h1)))
def W_X4_extremeOf : List (Nat × Nat) := [(1, 0), (2, 4), (4, 8), (4, 9), (4, 10), (4, 11), (4, 12), (22, 0), (32, 0), (33, 0), (34, 0), (35, 0), (36, 0)]
theorem Q_X4_extremeOf_42  {x0 : Bool}{r : Int} {mm : Mi} (x1 : Int) (μ : Mi) (h : B_X4_extremeOf_42 x0 x1 μ = some (r, mm)) : Fr W_X4_extremeOf (some x0) μ mm := by
  unfold B_X4_extremeOf_42 at h
  obtain ⟨hi, h⟩ := ift h
  exact frE h Fr.rf
theorem fr_X4_extremeOf {x0 : Bool} {x1 : Int} {μ : Mi} {r : Int} {mm : Mi} (h : D_X4_extremeOf x0 x1 μ = some (r, mm)) : Fr W_X4_extremeOf (some x0) μ mm := by
  unfold D_X4_extremeOf at h
  by_cases c : (w32 x1) < 0
  · replace h := ifp c h
    exact frE h Fr.rf
  · replace h := ifn c h
    by_cases c : (w32 x1) ≤ 3
    · replace h := ifp c h
      obtain ⟨r1, m1, h1, h⟩ := bd_some h
      by_cases c : (w32 r1) = 0
      · replace h := ifp c h
        exact Fr.tr (Fr.tr Fr.rf (Fr.mono rfl (Or.inr rfl) (fr_X4_mustLearn h1))) (Q_X4_extremeOf_42 _ _ h)
      · replace h := ifn c h
        obtain ⟨m2, h2, h⟩ := bm_some h
        obtain ⟨m3, h3, h⟩ := bm_some h
        obtain ⟨r4, h4, h⟩ := bp_some h
        obtain ⟨hi, h⟩ := ift h
        exact Fr.tr (Fr.w rfl (fun _ => rfl) (Fr.tr (Fr.tr (Fr.tr Fr.rf (Fr.mono rfl (Or.inr rfl) (fr_X4_mustLearn h1))) (Fr.mono rfl (Or.inr rfl) (fr_X4_prepare h2))) (Fr.mono rfl (Or.inr rfl) (fr_X4_fill h3)))) (Q_X4_extremeOf_42 _ _ h)
    · replace h := ifn c h
      exact frE h Fr.rf
def W_X4_followTale : List (Nat × Nat) := [(1, 2), (23, 0)]
theorem Q_X4_followTale_143  {x0 : Bool}{mm : Mi} {k28 : (Bool → Int → Int → Int → Mi → Option Mi)} (hk28 : ∀ (x1 : Int) (x2 : Int) (x3 : Int) (m : Mi), k28 x0 x1 x2 x3 m = some mm → Fr W_X4_followTale (some x0) m mm) (x1 : Int) (x2 : Int) (x3 : Int) (μ : Mi) (h : B_X4_followTale_143 k28 x0 x1 x2 x3 μ = some mm) : Fr W_X4_followTale (some x0) μ mm := by
  unfold B_X4_followTale_143 at h
  exact Fr.tr Fr.rf (hk28 _ _ _ _ h)
theorem Q_X4_followTale_28  {x0 : Bool}{mm : Mi} : ∀ (n : Nat) (x1 : Int) (x2 : Int) (x3 : Int) (μ : Mi), B_X4_followTale_28 n x0 x1 x2 x3 μ = some mm → Fr W_X4_followTale (some x0) μ mm := by
  intro n
  induction n with
  | zero =>
    intro x1 x2 x3 μ h
    exact nope h
  | succ n hk28 =>
    intro x1 x2 x3 μ h
    replace h : F_X4_followTale_28 (B_X4_followTale_28 n) x0 x1 x2 x3 μ = some mm := h
    unfold F_X4_followTale_28 at h
    by_cases c : 96 ≤ (w32 x3)
    · replace h := ifp c h
      exact frV h Fr.rf
    · replace h := ifn c h
      by_cases c : (w32 (rd μ 2 x0 2)) ≤ (w32 x2)
      · replace h := ifp c h
        exact frV h Fr.rf
      · replace h := ifn c h
        by_cases c : (w32 (rd μ 1 x0 2)) < 0
        · replace h := ifp c h
          exact frV h Fr.rf
        · replace h := ifn c h
          by_cases c : (w32 x1) < 0
          · replace h := ifp c h
            exact frV h Fr.rf
          · replace h := ifn c h
            obtain ⟨r1, h1, h⟩ := bp_some h
            by_cases c : 0 ≤ (w32 r1)
            · replace h := ifp c h
              obtain ⟨hi, h⟩ := ift h
              obtain ⟨r2, h2, h⟩ := bp_some h
              obtain ⟨hi, h⟩ := ift h
              exact Fr.tr (Fr.w rfl (fun _ => rfl) (Fr.w rfl (fun _ => rfl) Fr.rf)) (Q_X4_followTale_143 hk28 _ _ _ _ h)
            · replace h := ifn c h
              obtain ⟨r2, h2, h⟩ := bp_some h
              exact Fr.tr Fr.rf (Q_X4_followTale_143 hk28 _ _ _ _ h)
theorem Q_X4_followTale_23  {x0 : Bool}{mm : Mi} (x1 : Int) (x2 : Int) (s0 : Int) (μ : Mi) (h : B_X4_followTale_23 x0 x1 x2 s0 μ = some mm) : Fr W_X4_followTale (some x0) μ mm := by
  unfold B_X4_followTale_23 at h
  exact Fr.tr (Fr.w rfl (fun _ => rfl) Fr.rf) (Q_X4_followTale_28 FU _ _ _ _ h)
theorem fr_X4_followTale {x0 : Bool} {μ : Mi} {mm : Mi} (h : D_X4_followTale x0 μ = some mm) : Fr W_X4_followTale (some x0) μ mm := by
  unfold D_X4_followTale at h
  obtain ⟨r1, h1, h⟩ := bp_some h
  obtain ⟨r2, h2, h⟩ := bp_some h
  by_cases c : 0 ≤ (w32 r2)
  · replace h := ifp c h
    exact Fr.tr Fr.rf (Q_X4_followTale_23 _ _ _ _ h)
  · replace h := ifn c h
    exact Fr.tr Fr.rf (Q_X4_followTale_23 _ _ _ _ h)
def W_X4_taleAt : List (Nat × Nat) := [(1, 0), (1, 2), (2, 4), (4, 8), (4, 9), (4, 10), (4, 11), (4, 12), (23, 0), (32, 0), (33, 0), (34, 0), (35, 0), (36, 0)]
theorem Q_X4_taleAt_23  {x0 : Bool}{r : Int} {mm : Mi} (x1 : Int) (μ : Mi) (h : B_X4_taleAt_23 x0 x1 μ = some (r, mm)) : Fr W_X4_taleAt (some x0) μ mm := by
  unfold B_X4_taleAt_23 at h
  by_cases c : ¬ (w32 x1) = (-1)
  · replace h := ifp c h
    by_cases c : (w32 x1) < 0
    · replace h := ifp c h
      exact frE h Fr.rf
    · replace h := ifn c h
      by_cases c : (w32 (rd μ 1 x0 2)) ≤ (w32 x1)
      · replace h := ifp c h
        exact frE h Fr.rf
      · replace h := ifn c h
        obtain ⟨hi, h⟩ := ift h
        exact frE h Fr.rf
  · replace h := ifn c h
    exact frE h Fr.rf
theorem fr_X4_taleAt {x0 : Bool} {x1 : Int} {μ : Mi} {r : Int} {mm : Mi} (h : D_X4_taleAt x0 x1 μ = some (r, mm)) : Fr W_X4_taleAt (some x0) μ mm := by
  unfold D_X4_taleAt at h
  obtain ⟨r1, m1, h1, h⟩ := bd_some h
  by_cases c : (w32 r1) = 0
  · replace h := ifp c h
    exact Fr.tr (Fr.tr Fr.rf (Fr.mono rfl (Or.inr rfl) (fr_X4_mustLearn h1))) (Q_X4_taleAt_23 _ _ h)
  · replace h := ifn c h
    obtain ⟨m2, h2, h⟩ := bm_some h
    obtain ⟨m3, h3, h⟩ := bm_some h
    obtain ⟨m4, h4, h⟩ := bm_some h
    exact Fr.tr (Fr.tr (Fr.tr (Fr.tr (Fr.tr Fr.rf (Fr.mono rfl (Or.inr rfl) (fr_X4_mustLearn h1))) (Fr.mono rfl (Or.inr rfl) (fr_X4_prepare h2))) (Fr.mono rfl (Or.inr rfl) (fr_X4_fill h3))) (Fr.mono rfl (Or.inr rfl) (fr_X4_followTale h4))) (Q_X4_taleAt_23 _ _ h)
def W_X4_fewestToDoubt : List (Nat × Nat) := [(1, 0), (1, 3), (2, 4), (4, 8), (4, 9), (4, 10), (4, 11), (4, 12), (32, 0), (33, 0), (34, 0), (35, 0), (36, 0)]
theorem Q_X4_fewestToDoubt_43  {x0 : Bool}{r : Int} {mm : Mi} (μ : Mi) (h : B_X4_fewestToDoubt_43 x0 μ = some (r, mm)) : Fr W_X4_fewestToDoubt (some x0) μ mm := by
  unfold B_X4_fewestToDoubt_43 at h
  exact frE h Fr.rf
theorem Q_X4_fewestToDoubt_40  {x0 : Bool}{r : Int} {mm : Mi} (s0 : Int) (μ : Mi) (h : B_X4_fewestToDoubt_40 x0 s0 μ = some (r, mm)) : Fr W_X4_fewestToDoubt (some x0) μ mm := by
  unfold B_X4_fewestToDoubt_40 at h
  exact Fr.tr (Fr.w rfl (fun _ => rfl) Fr.rf) (Q_X4_fewestToDoubt_43 _ h)
theorem fr_X4_fewestToDoubt {x0 : Bool} {μ : Mi} {r : Int} {mm : Mi} (h : D_X4_fewestToDoubt x0 μ = some (r, mm)) : Fr W_X4_fewestToDoubt (some x0) μ mm := by
  unfold D_X4_fewestToDoubt at h
  obtain ⟨r1, m1, h1, h⟩ := bd_some h
  by_cases c : (w32 r1) = 0
  · replace h := ifp c h
    exact Fr.tr (Fr.tr Fr.rf (Fr.mono rfl (Or.inr rfl) (fr_X4_mustLearn h1))) (Q_X4_fewestToDoubt_43 _ h)
  · replace h := ifn c h
    obtain ⟨m2, h2, h⟩ := bm_some h
    obtain ⟨m3, h3, h⟩ := bm_some h
    obtain ⟨r4, h4, h⟩ := bp_some h
    by_cases c : 0 ≤ (w32 r4)
    · replace h := ifp c h
      exact Fr.tr (Fr.tr (Fr.tr (Fr.tr Fr.rf (Fr.mono rfl (Or.inr rfl) (fr_X4_mustLearn h1))) (Fr.mono rfl (Or.inr rfl) (fr_X4_prepare h2))) (Fr.mono rfl (Or.inr rfl) (fr_X4_fill h3))) (Q_X4_fewestToDoubt_40 _ _ h)
    · replace h := ifn c h
      exact Fr.tr (Fr.tr (Fr.tr (Fr.tr Fr.rf (Fr.mono rfl (Or.inr rfl) (fr_X4_mustLearn h1))) (Fr.mono rfl (Or.inr rfl) (fr_X4_prepare h2))) (Fr.mono rfl (Or.inr rfl) (fr_X4_fill h3))) (Q_X4_fewestToDoubt_40 _ _ h)
def W_X4_freestWithout : List (Nat × Nat) := [(1, 0), (1, 1), (1, 4), (2, 4), (4, 8), (4, 9), (4, 10), (4, 11), (4, 12), (21, 0), (32, 0), (33, 0), (34, 0), (35, 0), (36, 0)]
theorem Q_X4_freestWithout_93  {x0 : Bool}{r : Int} {mm : Mi} (μ : Mi) (h : B_X4_freestWithout_93 x0 μ = some (r, mm)) : Fr W_X4_freestWithout (some x0) μ mm := by
  unfold B_X4_freestWithout_93 at h
  exact frE h Fr.rf
theorem Q_X4_freestWithout_87  {x0 : Bool}{r : Int} {mm : Mi} {k31 : (Bool → Int → Int → Mi → Option (Int × Mi))} (hk31 : ∀ (x1 : Int) (x2 : Int) (m : Mi), k31 x0 x1 x2 m = some (r, mm) → Fr W_X4_freestWithout (some x0) m mm) (x1 : Int) (x2 : Int) (μ : Mi) (h : B_X4_freestWithout_87 k31 x0 x1 x2 μ = some (r, mm)) : Fr W_X4_freestWithout (some x0) μ mm := by
  unfold B_X4_freestWithout_87 at h
  exact Fr.tr Fr.rf (hk31 _ _ _ h)
theorem Q_X4_freestWithout_31  {x0 : Bool}{r : Int} {mm : Mi} : ∀ (n : Nat) (x1 : Int) (x2 : Int) (μ : Mi), B_X4_freestWithout_31 n x0 x1 x2 μ = some (r, mm) → Fr W_X4_freestWithout (some x0) μ mm := by
  intro n
  induction n with
  | zero =>
    intro x1 x2 μ h
    exact nope h
  | succ n hk31 =>
    intro x1 x2 μ h
    replace h : F_X4_freestWithout_31 (B_X4_freestWithout_31 n) x0 x1 x2 μ = some (r, mm) := h
    unfold F_X4_freestWithout_31 at h
    by_cases c : (w32 (rd μ 2 x0 3)) ≤ (w32 x2)
    · replace h := ifp c h
      exact Fr.tr Fr.rf (Q_X4_freestWithout_93 _ h)
    · replace h := ifn c h
      obtain ⟨hi, h⟩ := ift h
      by_cases c : ¬ (w32 (rd μ 29 x0 (ix x2))) = 0
      · replace h := ifp c h
        exact Fr.tr Fr.rf (Q_X4_freestWithout_87 hk31 _ _ _ h)
      · replace h := ifn c h
        obtain ⟨m1, h1, h⟩ := bm_some h
        obtain ⟨m2, h2, h⟩ := bm_some h
        obtain ⟨r3, h3, h⟩ := bp_some h
        by_cases c : (w32 r3) ≤ (w32 x1)
        · replace h := ifp c h
          exact Fr.tr (Fr.tr (Fr.tr Fr.rf (Fr.mono rfl (Or.inr rfl) (fr_X4_prepare h1))) (Fr.mono rfl (Or.inr rfl) (fr_X4_fill h2))) (Q_X4_freestWithout_87 hk31 _ _ _ h)
        · replace h := ifn c h
          obtain ⟨r4, h4, h⟩ := bp_some h
          exact Fr.tr (Fr.w rfl (fun _ => rfl) (Fr.tr (Fr.tr Fr.rf (Fr.mono rfl (Or.inr rfl) (fr_X4_prepare h1))) (Fr.mono rfl (Or.inr rfl) (fr_X4_fill h2)))) (Q_X4_freestWithout_87 hk31 _ _ _ h)
theorem fr_X4_freestWithout {x0 : Bool} {μ : Mi} {r : Int} {mm : Mi} (h : D_X4_freestWithout x0 μ = some (r, mm)) : Fr W_X4_freestWithout (some x0) μ mm := by
  unfold D_X4_freestWithout at h
  obtain ⟨m1, h1, h⟩ := bm_some h
  obtain ⟨r2, m2, h2, h⟩ := bd_some h
  by_cases c : (w32 r2) = 0
  · replace h := ifp c h
    exact Fr.tr (Fr.tr (Fr.tr Fr.rf (Fr.mono rfl (Or.inr rfl) (fr_X4_learnWhere h1))) (Fr.mono rfl (Or.inr rfl) (fr_X4_mustLearn h2))) (Q_X4_freestWithout_93 _ h)
  · replace h := ifn c h
    exact Fr.tr (Fr.w rfl (fun _ => rfl) (Fr.tr (Fr.tr Fr.rf (Fr.mono rfl (Or.inr rfl) (fr_X4_learnWhere h1))) (Fr.mono rfl (Or.inr rfl) (fr_X4_mustLearn h2)))) (Q_X4_freestWithout_31 FU _ _ _ h)
def W_X5_add : List (Nat × Nat) := [(5, 0), (37, 0), (38, 0)]
theorem fr_X5_add {x1 : Int} {x2 : Int} {μ : Mi} {r : Int} {mm : Mi} (h : D_X5_add x1 x2 μ = some (r, mm)) : Fr W_X5_add none μ mm := by
  unfold D_X5_add at h
  by_cases c : (w32 (rd μ 5 false 0)) < 20
  · replace h := ifp c h
    obtain ⟨hi, h⟩ := ift h
    obtain ⟨hi, h⟩ := ift h
    exact frE h (Fr.w rfl trivial (Fr.w rfl trivial (Fr.w rfl trivial Fr.rf)))
  · replace h := ifn c h
    exact frE h Fr.rf
def W_X5_stay : List (Nat × Nat) := [(39, 0), (40, 0)]
theorem Q_X5_stay_3 {mm : Mi} : ∀ (n : Nat) (x2 : Int) (x3 : Int) (x4 : Int) (μ : Mi), B_X5_stay_3 n x2 x3 x4 μ = some mm → Fr W_X5_stay none μ mm := by
  intro n
  induction n with
  | zero =>
    intro x2 x3 x4 μ h
    exact nope h
  | succ n hk3 =>
    intro x2 x3 x4 μ h
    replace h : F_X5_stay_3 (B_X5_stay_3 n) x2 x3 x4 μ = some mm := h
    unfold F_X5_stay_3 at h
    by_cases c : (w32 x2) < (w32 x4)
    · replace h := ifp c h
      exact frV h Fr.rf
    · replace h := ifn c h
      obtain ⟨hi, h⟩ := ift h
      obtain ⟨hi, h⟩ := ift h
      exact Fr.tr (Fr.w rfl trivial (Fr.w rfl trivial Fr.rf)) (hk3 _ _ _ _ h)
theorem fr_X5_stay {x1 : Int} {x2 : Int} {x3 : Int} {μ : Mi} {mm : Mi} (h : D_X5_stay x1 x2 x3 μ = some mm) : Fr W_X5_stay none μ mm := by
  unfold D_X5_stay at h
  exact Fr.tr Fr.rf (Q_X5_stay_3 FU _ _ _ _ h)
def W_X5_wrongLeg : List (Nat × Nat) := [(39, 0), (40, 0)]
theorem Q_X5_wrongLeg_120 {r : Int} {mm : Mi} {k10 : (Bool → Int → Int → Int → Mi → Option (Int × Mi))} (hk10 : ∀ (x1 : Bool) (x2 : Int) (x3 : Int) (x4 : Int) (m : Mi), k10 x1 x2 x3 x4 m = some (r, mm) → Fr W_X5_wrongLeg none m mm) : ∀ (n : Nat) (x1 : Bool) (x4 : Int) (x5 : Int) (x7 : Int) (x8 : Int) (μ : Mi), B_X5_wrongLeg_120 k10 n x1 x4 x5 x7 x8 μ = some (r, mm) → Fr W_X5_wrongLeg none μ mm := by
  intro n
  induction n with
  | zero =>
    intro x1 x4 x5 x7 x8 μ h
    exact nope h
  | succ n hk120 =>
    intro x1 x4 x5 x7 x8 μ h
    replace h : F_X5_wrongLeg_120 k10 (B_X5_wrongLeg_120 k10 n) x1 x4 x5 x7 x8 μ = some (r, mm) := h
    unfold F_X5_wrongLeg_120 at h
    by_cases c : (w32 x7) ≤ (w32 x8)
    · replace h := ifp c h
      obtain ⟨hi, h⟩ := ift h
      exact Fr.tr Fr.rf (hk10 _ _ _ _ _ h)
    · replace h := ifn c h
      obtain ⟨hi, h⟩ := ift h
      obtain ⟨hi, h⟩ := ift h
      exact Fr.tr (Fr.w rfl trivial (Fr.w rfl trivial Fr.rf)) (hk120 _ _ _ _ _ _ h)
theorem Q_X5_wrongLeg_10 {r : Int} {mm : Mi} : ∀ (n : Nat) (x1 : Bool) (x2 : Int) (x3 : Int) (x4 : Int) (μ : Mi), B_X5_wrongLeg_10 n x1 x2 x3 x4 μ = some (r, mm) → Fr W_X5_wrongLeg none μ mm := by
  intro n
  induction n with
  | zero =>
    intro x1 x2 x3 x4 μ h
    exact nope h
  | succ n hk10 =>
    intro x1 x2 x3 x4 μ h
    replace h : F_X5_wrongLeg_10 (B_X5_wrongLeg_10 n) x1 x2 x3 x4 μ = some (r, mm) := h
    unfold F_X5_wrongLeg_10 at h
    by_cases c : (w32 (rd μ 5 false 0)) ≤ (w32 x4)
    · replace h := ifp c h
      obtain ⟨m1, h1, h⟩ := bm_some h
      exact frE h (Fr.tr Fr.rf (Fr.mono rfl (Or.inl rfl) (fr_X5_stay h1)))
    · replace h := ifn c h
      obtain ⟨hi, h⟩ := ift h
      obtain ⟨hi, h⟩ := ift h
      obtain ⟨hi, h⟩ := ift h
      by_cases c : (w32 (rd μ 38 false (ix x4))) < (w32 x3)
      · replace h := ifp c h
        exact frE h Fr.rf
      · replace h := ifn c h
        obtain ⟨hi, h⟩ := ift h
        by_cases c : ¬ (w32 (rd μ 13 false (ix (rd μ 37 false (ix x4))))) = (w32 x2)
        · replace h := ifp c h
          exact frE h Fr.rf
        · replace h := ifn c h
          obtain ⟨r1, h1, h⟩ := bp_some h
          by_cases c : (w32 r1) = 0
          · replace h := ifp c h
            exact frE h Fr.rf
          · replace h := ifn c h
            by_cases c : (w32 ((rd μ 38 false (ix x4)) + (rd μ 16 false (ix (rd μ 37 false (ix x4)))))) ≤ (w32 (rd μ 2 x1 2))
            · replace h := ifp c h
              obtain ⟨m2, h2, h⟩ := bm_some h
              obtain ⟨hi, h⟩ := ift h
              exact Fr.tr (Fr.w rfl trivial (Fr.tr Fr.rf (Fr.mono rfl (Or.inl rfl) (fr_X5_stay h2)))) (Q_X5_wrongLeg_120 hk10 FU _ _ _ _ _ _ h)
            · replace h := ifn c h
              exact frE h Fr.rf
theorem fr_X5_wrongLeg {x1 : Bool} {μ : Mi} {r : Int} {mm : Mi} (h : D_X5_wrongLeg x1 μ = some (r, mm)) : Fr W_X5_wrongLeg none μ mm := by
  unfold D_X5_wrongLeg at h
  exact Fr.tr Fr.rf (Q_X5_wrongLeg_10 FU _ _ _ _ _ h)
def W_X5_barOf : List (Nat × Nat) := [(39, 0), (40, 0)]
theorem fr_X5_barOf {x1 : Bool} {μ : Mi} {r : Int} {mm : Mi} (h : D_X5_barOf x1 μ = some (r, mm)) : Fr W_X5_barOf none μ mm := by
  unfold D_X5_barOf at h
  obtain ⟨r1, m1, h1, h⟩ := bd_some h
  by_cases c : (w32 r1) = (-1)
  · replace h := ifp c h
    obtain ⟨r2, h2, h⟩ := bp_some h
    by_cases c : (w32 r2) = (-1)
    · replace h := ifp c h
      obtain ⟨r3, h3, h⟩ := bp_some h
      by_cases c : (w32 r3) = (-1)
      · replace h := ifp c h
        obtain ⟨r4, h4, h⟩ := bp_some h
        by_cases c : (w32 r4) = (-1)
        · replace h := ifp c h
          obtain ⟨r5, h5, h⟩ := bp_some h
          by_cases c : ¬ (w32 r5) = (-1)
          · replace h := ifp c h
            exact frE h (Fr.tr Fr.rf (Fr.mono rfl (Or.inl rfl) (fr_X5_wrongLeg h1)))
          · replace h := ifn c h
            exact frE h (Fr.tr Fr.rf (Fr.mono rfl (Or.inl rfl) (fr_X5_wrongLeg h1)))
        · replace h := ifn c h
          exact frE h (Fr.tr Fr.rf (Fr.mono rfl (Or.inl rfl) (fr_X5_wrongLeg h1)))
      · replace h := ifn c h
        exact frE h (Fr.tr Fr.rf (Fr.mono rfl (Or.inl rfl) (fr_X5_wrongLeg h1)))
    · replace h := ifn c h
      exact frE h (Fr.tr Fr.rf (Fr.mono rfl (Or.inl rfl) (fr_X5_wrongLeg h1)))
  · replace h := ifn c h
    exact frE h (Fr.tr Fr.rf (Fr.mono rfl (Or.inl rfl) (fr_X5_wrongLeg h1)))
def W_X6_append : List (Nat × Nat) := [(6, 1), (41, 0)]
theorem Q_X6_append_3 {mm : Mi} : ∀ (n : Nat) (x1 : Int) (x2 : Int) (μ : Mi), B_X6_append_3 n x1 x2 μ = some mm → Fr W_X6_append none μ mm := by
  intro n
  induction n with
  | zero =>
    intro x1 x2 μ h
    exact nope h
  | succ n hk3 =>
    intro x1 x2 μ h
    replace h : F_X6_append_3 (B_X6_append_3 n) x1 x2 μ = some mm := h
    unfold F_X6_append_3 at h
    by_cases c : (w32 x2) < 0
    · replace h := ifp c h
      exact frV h Fr.rf
    · replace h := ifn c h
      by_cases c : 500 ≤ (w32 (rd μ 6 false 1))
      · replace h := ifp c h
        exact frV h Fr.rf
      · replace h := ifn c h
        obtain ⟨hi, h⟩ := ift h
        exact Fr.tr (Fr.w rfl trivial (Fr.w rfl trivial Fr.rf)) (hk3 _ _ _ h)
theorem fr_X6_append {x1 : Int} {μ : Mi} {mm : Mi} (h : D_X6_append x1 μ = some mm) : Fr W_X6_append none μ mm := by
  unfold D_X6_append at h
  exact Fr.tr Fr.rf (Q_X6_append_3 FU _ _ _ h)
def W_X6_feed : List (Nat × Nat) := [(6, 1), (41, 0)]
theorem fr_X6_feed {x1 : Int} {x2 : Int} {x3 : Int} {x4 : Int} {x5 : Int} {μ : Mi} {r : Int} {mm : Mi} (h : D_X6_feed x1 x2 x3 x4 x5 μ = some (r, mm)) : Fr W_X6_feed none μ mm := by
  unfold D_X6_feed at h
  by_cases c : (w32 ((rd μ 6 false 1) + 20)) ≤ 500
  · replace h := ifp c h
    obtain ⟨m1, h1, h⟩ := bm_some h
    obtain ⟨m2, h2, h⟩ := bm_some h
    obtain ⟨m3, h3, h⟩ := bm_some h
    obtain ⟨m4, h4, h⟩ := bm_some h
    obtain ⟨m5, h5, h⟩ := bm_some h
    exact frE h (Fr.tr (Fr.tr (Fr.tr (Fr.tr (Fr.tr Fr.rf (Fr.mono rfl (Or.inl rfl) (fr_X6_append h1))) (Fr.mono rfl (Or.inl rfl) (fr_X6_append h2))) (Fr.mono rfl (Or.inl rfl) (fr_X6_append h3))) (Fr.mono rfl (Or.inl rfl) (fr_X6_append h4))) (Fr.mono rfl (Or.inl rfl) (fr_X6_append h5)))
  · replace h := ifn c h
    exact frE h Fr.rf
def W_X6_end : List (Nat × Nat) := [(6, 1)]
theorem fr_X6_end {x1 : Int} {μ : Mi} {r : Int} {mm : Mi} (h : D_X6_end x1 μ = some (r, mm)) : Fr W_X6_end none μ mm := by
  unfold D_X6_end at h
  by_cases c : (w32 x1) < 0
  · replace h := ifp c h
    exact frE h Fr.rf
  · replace h := ifn c h
    by_cases c : (w32 x1) ≤ (w32 (rd μ 6 false 1))
    · replace h := ifp c h
      exact frE h (Fr.w rfl trivial Fr.rf)
    · replace h := ifn c h
      exact frE h Fr.rf
def W_X6_fault : List (Nat × Nat) := [(0, 0), (0, 1), (0, 2), (3, 4), (3, 5), (3, 6), (3, 7), (3, 8), (3, 9), (10, 0), (11, 0), (12, 0), (13, 0), (14, 0), (15, 0), (16, 0), (17, 0), (18, 0), (19, 0), (20, 0), (30, 0), (31, 0)]
theorem fr_X6_fault {μ : Mi} {r : Int} {mm : Mi} (h : D_X6_fault μ = some (r, mm)) : Fr W_X6_fault none μ mm := by
  unfold D_X6_fault at h
  obtain ⟨r1, m1, h1, h⟩ := bd_some h
  exact frE h (Fr.tr Fr.rf (Fr.mono rfl (Or.inl rfl) (fr_X3_faultOf h1)))
def W_X6_map : List (Nat × Nat) := [(0, 0), (0, 1), (0, 2), (2, 0), (2, 1), (2, 2), (2, 3), (2, 4), (3, 4), (3, 5), (3, 6), (3, 7), (3, 8), (3, 9), (5, 0), (6, 1), (10, 0), (11, 0), (12, 0), (13, 0), (14, 0), (15, 0), (16, 0), (17, 0), (18, 0), (19, 0), (20, 0), (30, 0), (31, 0)]
theorem fr_X6_map {μ : Mi} {r : Int} {mm : Mi} (h : D_X6_map μ = some (r, mm)) : Fr W_X6_map none μ mm := by
  unfold D_X6_map at h
  obtain ⟨r1, m1, h1, h⟩ := bd_some h
  by_cases c : (w32 r1) = (-1)
  · replace h := ifp c h
    obtain ⟨m2, h2, h⟩ := bm_some h
    obtain ⟨m3, h3, h⟩ := bm_some h
    obtain ⟨m4, h4, h⟩ := bm_some h
    exact frE h (Fr.w rfl trivial (Fr.tr (Fr.tr (Fr.w rfl trivial (Fr.tr (Fr.tr Fr.rf (Fr.mono rfl (Or.inl rfl) (fr_X3_faultOf h1))) (Fr.mono rfl (Or.inl rfl) (fr_X0_takeOver h2)))) (Fr.mono rfl (Or.inl rfl) (fr_X2_startAnew h3))) (Fr.mono rfl (Or.inl rfl) (fr_X2_startAnew h4))))
  · replace h := ifn c h
    exact frE h (Fr.tr Fr.rf (Fr.mono rfl (Or.inl rfl) (fr_X3_faultOf h1)))
def W_X6_man : List (Nat × Nat) := [(2, 0), (2, 1), (2, 2), (2, 4)]
theorem fr_X6_man {x1 : Int} {x2 : Int} {x3 : Int} {x4 : Int} {μ : Mi} {r : Int} {mm : Mi} (h : D_X6_man x1 x2 x3 x4 μ = some (r, mm)) : Fr W_X6_man none μ mm := by
  unfold D_X6_man at h
  by_cases c : (w32 (D_X6_isMan x1 μ)) = 0
  · replace h := ifp c h
    exact frE h Fr.rf
  · replace h := ifn c h
    by_cases c : (w32 (D_X0_hasTown false x2 μ)) = 0
    · replace h := ifp c h
      exact frE h Fr.rf
    · replace h := ifn c h
      by_cases c : (w32 x3) < 0
      · replace h := ifp c h
        exact frE h Fr.rf
      · replace h := ifn c h
        by_cases c : 4 < (w32 x3)
        · replace h := ifp c h
          exact frE h Fr.rf
        · replace h := ifn c h
          by_cases c : (w32 x4) < 1
          · replace h := ifp c h
            exact frE h Fr.rf
          · replace h := ifn c h
            by_cases c : (w32 x4) ≤ 96
            · replace h := ifp c h
              obtain ⟨m4, h4, h⟩ := bm_some h
              exact frE h (Fr.tr Fr.rf (Fr.mono rfl (Or.inl rfl) (fr_X2_settle h4)))
            · replace h := ifn c h
              exact frE h Fr.rf
def W_X6_stamp : List (Nat × Nat) := [(2, 3), (2, 4), (24, 0), (25, 0), (26, 0), (27, 0), (28, 0), (29, 0)]
theorem fr_X6_stamp {x1 : Int} {x2 : Int} {x3 : Int} {x4 : Int} {x5 : Int} {μ : Mi} {r : Int} {mm : Mi} (h : D_X6_stamp x1 x2 x3 x4 x5 μ = some (r, mm)) : Fr W_X6_stamp none μ mm := by
  unfold D_X6_stamp at h
  by_cases c : (w32 (D_X6_isMan x1 μ)) = 0
  · replace h := ifp c h
    exact frE h Fr.rf
  · replace h := ifn c h
    by_cases c : (w32 (D_X0_hasLand false x2 μ)) = 0
    · replace h := ifp c h
      exact frE h Fr.rf
    · replace h := ifn c h
      by_cases c : (w32 x4) < (-1)
      · replace h := ifp c h
        exact frE h Fr.rf
      · replace h := ifn c h
        by_cases c : (w32 x5) < (w32 x4)
        · replace h := ifp c h
          exact frE h Fr.rf
        · replace h := ifn c h
          by_cases c : (w32 x5) ≤ 5
          · replace h := ifp c h
            obtain ⟨r4, m4, h4, h⟩ := bd_some h
            by_cases c : (w32 r4) < 0
            · replace h := ifp c h
              exact frE h (Fr.tr Fr.rf (Fr.mono rfl (Or.inl rfl) (fr_X2_add h4)))
            · replace h := ifn c h
              obtain ⟨hi, h⟩ := ift h
              obtain ⟨hb, h⟩ := ift h
              exact frE h (Fr.w rfl trivial (Fr.tr Fr.rf (Fr.mono rfl (Or.inl rfl) (fr_X2_add h4))))
          · replace h := ifn c h
            exact frE h Fr.rf
def W_X6_paper : List (Nat × Nat) := [(2, 3), (2, 4), (24, 0), (25, 0), (26, 0), (27, 0), (28, 0), (29, 0)]
theorem fr_X6_paper {x1 : Int} {x2 : Int} {x3 : Int} {μ : Mi} {r : Int} {mm : Mi} (h : D_X6_paper x1 x2 x3 μ = some (r, mm)) : Fr W_X6_paper none μ mm := by
  unfold D_X6_paper at h
  by_cases c : (w32 (D_X6_isMan x1 μ)) = 0
  · replace h := ifp c h
    exact frE h Fr.rf
  · replace h := ifn c h
    by_cases c : (w32 (D_X0_hasTown false x2 μ)) = 0
    · replace h := ifp c h
      exact frE h Fr.rf
    · replace h := ifn c h
      by_cases c : ¬ (w32 (D_X6_isHour x3)) = 0
      · replace h := ifp c h
        obtain ⟨r5, m5, h5, h⟩ := bd_some h
        exact frE h (Fr.tr Fr.rf (Fr.mono rfl (Or.inl rfl) (fr_X2_add h5)))
      · replace h := ifn c h
        exact frE h Fr.rf
def W_X6_look : List (Nat × Nat) := [(2, 3), (2, 4), (24, 0), (25, 0), (26, 0), (27, 0), (28, 0), (29, 0)]
theorem fr_X6_look {x1 : Int} {x2 : Int} {x3 : Int} {x4 : Int} {μ : Mi} {r : Int} {mm : Mi} (h : D_X6_look x1 x2 x3 x4 μ = some (r, mm)) : Fr W_X6_look none μ mm := by
  unfold D_X6_look at h
  by_cases c : (w32 (D_X6_isMan x1 μ)) = 0
  · replace h := ifp c h
    exact frE h Fr.rf
  · replace h := ifn c h
    by_cases c : (w32 (D_X0_hasTown false x2 μ)) = 0
    · replace h := ifp c h
      exact frE h Fr.rf
    · replace h := ifn c h
      by_cases c : (w32 (D_X6_isHour x3)) = 0
      · replace h := ifp c h
        exact frE h Fr.rf
      · replace h := ifn c h
        by_cases c : (w32 (D_X6_isHour x4)) = 0
        · replace h := ifp c h
          exact frE h Fr.rf
        · replace h := ifn c h
          by_cases c : (w32 x3) ≤ (w32 x4)
          · replace h := ifp c h
            obtain ⟨r6, m6, h6, h⟩ := bd_some h
            exact frE h (Fr.tr Fr.rf (Fr.mono rfl (Or.inl rfl) (fr_X2_add h6)))
          · replace h := ifn c h
            exact frE h Fr.rf
def W_X6_doubt : List (Nat × Nat) := [(2, 4), (29, 0)]
theorem fr_X6_doubt {x1 : Int} {x2 : Int} {x3 : Int} {μ : Mi} {r : Int} {mm : Mi} (h : D_X6_doubt x1 x2 x3 μ = some (r, mm)) : Fr W_X6_doubt none μ mm := by
  unfold D_X6_doubt at h
  by_cases c : (w32 (D_X6_isMan x1 μ)) = 0
  · replace h := ifp c h
    exact frE h Fr.rf
  · replace h := ifn c h
    obtain ⟨r3, m3, h3, h⟩ := bd_some h
    by_cases c : (w32 r3) = 0
    · replace h := ifp c h
      exact frE h (Fr.tr Fr.rf (Fr.mono rfl (Or.inl rfl) (fr_X2_setDoubted h3)))
    · replace h := ifn c h
      exact frE h (Fr.tr Fr.rf (Fr.mono rfl (Or.inl rfl) (fr_X2_setDoubted h3)))
def W_X6_undo : List (Nat × Nat) := [(2, 3), (2, 4)]
theorem fr_X6_undo {x1 : Int} {μ : Mi} {r : Int} {mm : Mi} (h : D_X6_undo x1 μ = some (r, mm)) : Fr W_X6_undo none μ mm := by
  unfold D_X6_undo at h
  by_cases c : (w32 (D_X6_isMan x1 μ)) = 0
  · replace h := ifp c h
    exact frE h Fr.rf
  · replace h := ifn c h
    obtain ⟨r3, m3, h3, h⟩ := bd_some h
    exact frE h (Fr.tr Fr.rf (Fr.mono rfl (Or.inl rfl) (fr_X2_dropLast h3)))
def W_X6_ways : List (Nat × Nat) := [(1, 0), (1, 1), (2, 4), (4, 8), (4, 9), (4, 10), (4, 11), (4, 12), (21, 0), (32, 0), (33, 0), (34, 0), (35, 0), (36, 0)]
theorem fr_X6_ways {x1 : Int} {μ : Mi} {r : Int} {mm : Mi} (h : D_X6_ways x1 μ = some (r, mm)) : Fr W_X6_ways none μ mm := by
  unfold D_X6_ways at h
  by_cases c : (w32 (D_X6_isMan x1 μ)) = 0
  · replace h := ifp c h
    exact frE h Fr.rf
  · replace h := ifn c h
    obtain ⟨r3, m3, h3, h⟩ := bd_some h
    exact frE h (Fr.tr Fr.rf (Fr.mono rfl (Or.inl rfl) (fr_X4_howManyWays h3)))
def W_X6_may : List (Nat × Nat) := [(1, 0), (1, 1), (2, 4), (4, 8), (4, 9), (4, 10), (4, 11), (4, 12), (21, 0), (32, 0), (33, 0), (34, 0), (35, 0), (36, 0)]
theorem fr_X6_may {x1 : Int} {x2 : Int} {μ : Mi} {r : Int} {mm : Mi} (h : D_X6_may x1 x2 μ = some (r, mm)) : Fr W_X6_may none μ mm := by
  unfold D_X6_may at h
  by_cases c : (w32 (D_X6_isTimeOf x1 x2 μ)) = 0
  · replace h := ifp c h
    exact frE h Fr.rf
  · replace h := ifn c h
    obtain ⟨r3, m3, h3, h⟩ := bd_some h
    exact frE h (Fr.tr Fr.rf (Fr.mono rfl (Or.inl rfl) (fr_X4_whereAt h3)))
def W_X6_surely : List (Nat × Nat) := [(1, 0), (1, 1), (2, 4), (4, 8), (4, 9), (4, 10), (4, 11), (4, 12), (21, 0), (32, 0), (33, 0), (34, 0), (35, 0), (36, 0)]
theorem fr_X6_surely {x1 : Int} {x2 : Int} {μ : Mi} {r : Int} {mm : Mi} (h : D_X6_surely x1 x2 μ = some (r, mm)) : Fr W_X6_surely none μ mm := by
  unfold D_X6_surely at h
  by_cases c : ¬ (w32 (D_X6_isTimeOf x1 x2 μ)) = 0
  · replace h := ifp c h
    obtain ⟨r3, m3, h3, h⟩ := bd_some h
    by_cases c : (w32 (D_X6_isOneTown r3)) = 0
    · replace h := ifp c h
      exact frE h (Fr.tr Fr.rf (Fr.mono rfl (Or.inl rfl) (fr_X4_whereAt h3)))
    · replace h := ifn c h
      exact frE h (Fr.tr Fr.rf (Fr.mono rfl (Or.inl rfl) (fr_X4_whereAt h3)))
  · replace h := ifn c h
    exact frE h Fr.rf
def W_X6_extreme : List (Nat × Nat) := [(1, 0), (2, 4), (4, 8), (4, 9), (4, 10), (4, 11), (4, 12), (22, 0), (32, 0), (33, 0), (34, 0), (35, 0), (36, 0)]
theorem fr_X6_extreme {x1 : Int} {x2 : Int} {μ : Mi} {r : Int} {mm : Mi} (h : D_X6_extreme x1 x2 μ = some (r, mm)) : Fr W_X6_extreme none μ mm := by
  unfold D_X6_extreme at h
  by_cases c : (w32 (D_X6_isMan x1 μ)) = 0
  · replace h := ifp c h
    exact frE h Fr.rf
  · replace h := ifn c h
    by_cases c : (w32 x2) < 0
    · replace h := ifp c h
      exact frE h Fr.rf
    · replace h := ifn c h
      by_cases c : (w32 x2) ≤ 3
      · replace h := ifp c h
        obtain ⟨r3, m3, h3, h⟩ := bd_some h
        exact frE h (Fr.tr Fr.rf (Fr.mono rfl (Or.inl rfl) (fr_X4_extremeOf h3)))
      · replace h := ifn c h
        exact frE h Fr.rf
def W_X6_tale : List (Nat × Nat) := [(1, 0), (1, 2), (2, 4), (4, 8), (4, 9), (4, 10), (4, 11), (4, 12), (23, 0), (32, 0), (33, 0), (34, 0), (35, 0), (36, 0)]
theorem fr_X6_tale {x1 : Int} {x2 : Int} {μ : Mi} {r : Int} {mm : Mi} (h : D_X6_tale x1 x2 μ = some (r, mm)) : Fr W_X6_tale none μ mm := by
  unfold D_X6_tale at h
  by_cases c : (w32 (D_X6_isMan x1 μ)) = 0
  · replace h := ifp c h
    exact frE h Fr.rf
  · replace h := ifn c h
    by_cases c : (w32 x2) < (-1)
    · replace h := ifp c h
      exact frE h Fr.rf
    · replace h := ifn c h
      obtain ⟨r3, m3, h3, h⟩ := bd_some h
      exact frE h (Fr.tr Fr.rf (Fr.mono rfl (Or.inl rfl) (fr_X4_taleAt h3)))
def W_X6_toDoubt : List (Nat × Nat) := [(1, 0), (1, 3), (2, 4), (4, 8), (4, 9), (4, 10), (4, 11), (4, 12), (32, 0), (33, 0), (34, 0), (35, 0), (36, 0)]
theorem fr_X6_toDoubt {x1 : Int} {μ : Mi} {r : Int} {mm : Mi} (h : D_X6_toDoubt x1 μ = some (r, mm)) : Fr W_X6_toDoubt none μ mm := by
  unfold D_X6_toDoubt at h
  by_cases c : (w32 (D_X6_isMan x1 μ)) = 0
  · replace h := ifp c h
    exact frE h Fr.rf
  · replace h := ifn c h
    obtain ⟨r3, m3, h3, h⟩ := bd_some h
    exact frE h (Fr.tr Fr.rf (Fr.mono rfl (Or.inl rfl) (fr_X4_fewestToDoubt h3)))
def W_X6_away : List (Nat × Nat) := [(1, 0), (1, 1), (1, 4), (2, 4), (4, 8), (4, 9), (4, 10), (4, 11), (4, 12), (21, 0), (32, 0), (33, 0), (34, 0), (35, 0), (36, 0)]
theorem fr_X6_away {x1 : Int} {μ : Mi} {r : Int} {mm : Mi} (h : D_X6_away x1 μ = some (r, mm)) : Fr W_X6_away none μ mm := by
  unfold D_X6_away at h
  by_cases c : (w32 (D_X6_isMan x1 μ)) = 0
  · replace h := ifp c h
    exact frE h Fr.rf
  · replace h := ifn c h
    obtain ⟨r3, m3, h3, h⟩ := bd_some h
    exact frE h (Fr.tr Fr.rf (Fr.mono rfl (Or.inl rfl) (fr_X4_freestWithout h3)))
def W_X6_met : List (Nat × Nat) := [(1, 0), (1, 1), (2, 4), (4, 8), (4, 9), (4, 10), (4, 11), (4, 12), (21, 0), (32, 0), (33, 0), (34, 0), (35, 0), (36, 0)]
theorem fr_X6_met {x1 : Int} {x2 : Int} {μ : Mi} {r : Int} {mm : Mi} (h : D_X6_met x1 x2 μ = some (r, mm)) : Fr W_X6_met none μ mm := by
  unfold D_X6_met at h
  by_cases c : (w32 (D_X6_isTimeOf 0 x1 μ)) = 0
  · replace h := ifp c h
    exact frE h Fr.rf
  · replace h := ifn c h
    by_cases c : ¬ (w32 (D_X6_isTimeOf 1 x1 μ)) = 0
    · replace h := ifp c h
      obtain ⟨r3, m3, h3, h⟩ := bd_some h
      obtain ⟨r4, m4, h4, h⟩ := bd_some h
      by_cases c : (w32 x2) = 0
      · replace h := ifp c h
        exact frE h (Fr.tr (Fr.tr Fr.rf (Fr.mono rfl (Or.inl rfl) (fr_X4_whereAt h3))) (Fr.mono rfl (Or.inl rfl) (fr_X4_whereAt h4)))
      · replace h := ifn c h
        by_cases c : ¬ (w32 r3) = (w32 r4)
        · replace h := ifp c h
          exact frE h (Fr.tr (Fr.tr Fr.rf (Fr.mono rfl (Or.inl rfl) (fr_X4_whereAt h3))) (Fr.mono rfl (Or.inl rfl) (fr_X4_whereAt h4)))
        · replace h := ifn c h
          by_cases c : (w32 (D_X6_isOneTown r3)) = 0
          · replace h := ifp c h
            exact frE h (Fr.tr (Fr.tr Fr.rf (Fr.mono rfl (Or.inl rfl) (fr_X4_whereAt h3))) (Fr.mono rfl (Or.inl rfl) (fr_X4_whereAt h4)))
          · replace h := ifn c h
            exact frE h (Fr.tr (Fr.tr Fr.rf (Fr.mono rfl (Or.inl rfl) (fr_X4_whereAt h3))) (Fr.mono rfl (Or.inl rfl) (fr_X4_whereAt h4)))
    · replace h := ifn c h
      exact frE h Fr.rf
def W_X6_leg : List (Nat × Nat) := [(5, 0), (37, 0), (38, 0)]
theorem fr_X6_leg {x1 : Int} {x2 : Int} {μ : Mi} {r : Int} {mm : Mi} (h : D_X6_leg x1 x2 μ = some (r, mm)) : Fr W_X6_leg none μ mm := by
  unfold D_X6_leg at h
  by_cases c : (w32 (D_X0_hasLink false x1 μ)) = 0
  · replace h := ifp c h
    exact frE h Fr.rf
  · replace h := ifn c h
    by_cases c : ¬ (w32 (D_X6_isHour x2)) = 0
    · replace h := ifp c h
      obtain ⟨r3, m3, h3, h⟩ := bd_some h
      exact frE h (Fr.tr Fr.rf (Fr.mono rfl (Or.inl rfl) (fr_X5_add h3)))
    · replace h := ifn c h
      exact frE h Fr.rf
def W_X6_forget : List (Nat × Nat) := [(5, 0)]
theorem fr_X6_forget {μ : Mi} {r : Int} {mm : Mi} (h : D_X6_forget μ = some (r, mm)) : Fr W_X6_forget none μ mm := by
  unfold D_X6_forget at h
  exact frE h (Fr.w rfl trivial Fr.rf)
def W_X6_barred : List (Nat × Nat) := [(39, 0), (40, 0)]
theorem fr_X6_barred {x1 : Int} {μ : Mi} {r : Int} {mm : Mi} (h : D_X6_barred x1 μ = some (r, mm)) : Fr W_X6_barred none μ mm := by
  unfold D_X6_barred at h
  by_cases c : (w32 (D_X6_isMan x1 μ)) = 0
  · replace h := ifp c h
    exact frE h Fr.rf
  · replace h := ifn c h
    obtain ⟨r3, m3, h3, h⟩ := bd_some h
    exact frE h (Fr.tr Fr.rf (Fr.mono rfl (Or.inl rfl) (fr_X5_barOf h3)))
def W_X7_feed : List (Nat × Nat) := [(7, 1), (42, 0)]
theorem Q_X7_feed_71 {r : Int} {mm : Mi} {k18 : (Int → Int → Int → Int → Int → Int → Mi → Option (Int × Mi))} (hk18 : ∀ (x1 : Int) (x2 : Int) (x3 : Int) (x4 : Int) (x5 : Int) (x6 : Int) (m : Mi), k18 x1 x2 x3 x4 x5 x6 m = some (r, mm) → Fr W_X7_feed none m mm) (x1 : Int) (x2 : Int) (x3 : Int) (x4 : Int) (x5 : Int) (x6 : Int) (s0 : Int) (μ : Mi) (h : B_X7_feed_71 k18 x1 x2 x3 x4 x5 x6 s0 μ = some (r, mm)) : Fr W_X7_feed none μ mm := by
  unfold B_X7_feed_71 at h
  obtain ⟨hi, h⟩ := ift h
  exact Fr.tr (Fr.w rfl trivial (Fr.w rfl trivial Fr.rf)) (hk18 _ _ _ _ _ _ _ h)
theorem Q_X7_feed_18 {r : Int} {mm : Mi} : ∀ (n : Nat) (x1 : Int) (x2 : Int) (x3 : Int) (x4 : Int) (x5 : Int) (x6 : Int) (μ : Mi), B_X7_feed_18 n x1 x2 x3 x4 x5 x6 μ = some (r, mm) → Fr W_X7_feed none μ mm := by
  intro n
  induction n with
  | zero =>
    intro x1 x2 x3 x4 x5 x6 μ h
    exact nope h
  | succ n hk18 =>
    intro x1 x2 x3 x4 x5 x6 μ h
    replace h : F_X7_feed_18 (B_X7_feed_18 n) x1 x2 x3 x4 x5 x6 μ = some (r, mm) := h
    unfold F_X7_feed_18 at h
    by_cases c : 20 ≤ (w32 x6)
    · replace h := ifp c h
      exact frE h Fr.rf
    · replace h := ifn c h
      by_cases c : 4 ≤ (w32 x6)
      · replace h := ifp c h
        by_cases c : 8 ≤ (w32 x6)
        · replace h := ifp c h
          by_cases c : 12 ≤ (w32 x6)
          · replace h := ifp c h
            by_cases c : 16 ≤ (w32 x6)
            · replace h := ifp c h
              exact Fr.tr Fr.rf (Q_X7_feed_71 hk18 _ _ _ _ _ _ _ _ h)
            · replace h := ifn c h
              exact Fr.tr Fr.rf (Q_X7_feed_71 hk18 _ _ _ _ _ _ _ _ h)
          · replace h := ifn c h
            exact Fr.tr Fr.rf (Q_X7_feed_71 hk18 _ _ _ _ _ _ _ _ h)
        · replace h := ifn c h
          exact Fr.tr Fr.rf (Q_X7_feed_71 hk18 _ _ _ _ _ _ _ _ h)
      · replace h := ifn c h
        exact Fr.tr Fr.rf (Q_X7_feed_71 hk18 _ _ _ _ _ _ _ _ h)
theorem fr_X7_feed {x1 : Int} {x2 : Int} {x3 : Int} {x4 : Int} {x5 : Int} {μ : Mi} {r : Int} {mm : Mi} (h : D_X7_feed x1 x2 x3 x4 x5 μ = some (r, mm)) : Fr W_X7_feed none μ mm := by
  unfold D_X7_feed at h
  by_cases c : (w32 ((rd μ 7 false 1) + 20)) ≤ 500
  · replace h := ifp c h
    exact Fr.tr Fr.rf (Q_X7_feed_18 FU _ _ _ _ _ _ _ h)
  · replace h := ifn c h
    exact frE h Fr.rf
def W_X7_end : List (Nat × Nat) := [(7, 1)]
theorem fr_X7_end {x1 : Int} {μ : Mi} {r : Int} {mm : Mi} (h : D_X7_end x1 μ = some (r, mm)) : Fr W_X7_end none μ mm := by
  unfold D_X7_end at h
  by_cases c : ¬ (w32 (D_X7_in x1 0 (rd μ 7 false 1))) = 0
  · replace h := ifp c h
    exact frE h (Fr.w rfl trivial Fr.rf)
  · replace h := ifn c h
    exact frE h Fr.rf
def W_X7_next : List (Nat × Nat) := [(7, 2), (7, 3), (7, 4), (7, 5)]
theorem Q_X7_next_312 {mm : Mi} (s0 : Int) (μ : Mi) (h : B_X7_next_312 s0 μ = some mm) : Fr W_X7_next none μ mm := by
  unfold B_X7_next_312 at h
  exact frV h (Fr.w rfl trivial (Fr.w rfl trivial Fr.rf))
theorem Q_X7_next_292 {mm : Mi} (μ : Mi) (h : B_X7_next_292 μ = some mm) : Fr W_X7_next none μ mm := by
  unfold B_X7_next_292 at h
  exact frV h (Fr.w rfl trivial Fr.rf)
theorem Q_X7_next_276 {mm : Mi} {k208 : (Mi → Option Mi)} (hk208 : ∀ (m : Mi), k208 m = some mm → Fr W_X7_next none m mm) (s0 : Int) (μ : Mi) (h : B_X7_next_276 k208 s0 μ = some mm) : Fr W_X7_next none μ mm := by
  unfold B_X7_next_276 at h
  exact Fr.tr (Fr.w rfl trivial (Fr.l rfl trivial Fr.rf)) (hk208 _ h)
theorem Q_X7_next_208 {mm : Mi} : ∀ (n : Nat) (μ : Mi), B_X7_next_208 n μ = some mm → Fr W_X7_next none μ mm := by
  intro n
  induction n with
  | zero =>
    intro μ h
    exact nope h
  | succ n hk208 =>
    intro μ h
    replace h : F_X7_next_208 (B_X7_next_208 n) μ = some mm := h
    unfold F_X7_next_208 at h
    by_cases c : (w32 (rd μ 7 false 1)) ≤ (w32 (rd μ 7 false 2))
    · replace h := ifp c h
      exact Fr.tr Fr.rf (Q_X7_next_292 _ h)
    · replace h := ifn c h
      obtain ⟨hi, h⟩ := ift h
      by_cases c : (w32 (D_X7_isDigit (rd μ 42 false (ix (rd μ 7 false 2))))) = 0
      · replace h := ifp c h
        exact Fr.tr Fr.rf (Q_X7_next_292 _ h)
      · replace h := ifn c h
        by_cases c : (w32 (lcmp (rl μ 7 false 5) 999)) ≤ 0
        · replace h := ifp c h
          obtain ⟨hi, h⟩ := ift h
          exact Fr.tr Fr.rf (Q_X7_next_276 hk208 _ _ h)
        · replace h := ifn c h
          exact Fr.tr Fr.rf (Q_X7_next_276 hk208 _ _ h)
theorem Q_X7_next_193 {mm : Mi} (μ : Mi) (h : B_X7_next_193 μ = some mm) : Fr W_X7_next none μ mm := by
  unfold B_X7_next_193 at h
  exact frV h (Fr.w rfl trivial Fr.rf)
theorem Q_X7_next_174 {mm : Mi} (μ : Mi) (h : B_X7_next_174 μ = some mm) : Fr W_X7_next none μ mm := by
  unfold B_X7_next_174 at h
  by_cases c : (w32 ((rd μ 7 false 2) - (rd μ 7 false 4))) ≤ 8
  · replace h := ifp c h
    exact Fr.tr Fr.rf (Q_X7_next_193 _ h)
  · replace h := ifn c h
    exact Fr.tr (Fr.l rfl trivial Fr.rf) (Q_X7_next_193 _ h)
theorem Q_X7_next_161 {mm : Mi} {k99 : (Mi → Option Mi)} (hk99 : ∀ (m : Mi), k99 m = some mm → Fr W_X7_next none m mm) (μ : Mi) (h : B_X7_next_161 k99 μ = some mm) : Fr W_X7_next none μ mm := by
  unfold B_X7_next_161 at h
  exact Fr.tr (Fr.w rfl trivial Fr.rf) (hk99 _ h)
theorem Q_X7_next_99 {mm : Mi} : ∀ (n : Nat) (μ : Mi), B_X7_next_99 n μ = some mm → Fr W_X7_next none μ mm := by
  intro n
  induction n with
  | zero =>
    intro μ h
    exact nope h
  | succ n hk99 =>
    intro μ h
    replace h : F_X7_next_99 (B_X7_next_99 n) μ = some mm := h
    unfold F_X7_next_99 at h
    by_cases c : (w32 (rd μ 7 false 1)) ≤ (w32 (rd μ 7 false 2))
    · replace h := ifp c h
      exact Fr.tr Fr.rf (Q_X7_next_174 _ h)
    · replace h := ifn c h
      obtain ⟨hi, h⟩ := ift h
      by_cases c : (w32 (D_X7_isLetter (rd μ 42 false (ix (rd μ 7 false 2))))) = 0
      · replace h := ifp c h
        exact Fr.tr Fr.rf (Q_X7_next_174 _ h)
      · replace h := ifn c h
        by_cases c : 8 ≤ (w32 ((rd μ 7 false 2) - (rd μ 7 false 4)))
        · replace h := ifp c h
          exact Fr.tr Fr.rf (Q_X7_next_161 hk99 _ h)
        · replace h := ifn c h
          obtain ⟨hi, h⟩ := ift h
          exact Fr.tr (Fr.l rfl trivial Fr.rf) (Q_X7_next_161 hk99 _ h)
theorem Q_X7_next_52 {mm : Mi} (μ : Mi) (h : B_X7_next_52 μ = some mm) : Fr W_X7_next none μ mm := by
  unfold B_X7_next_52 at h
  by_cases c : ¬ (w32 (rd μ 7 false 2)) = (w32 (rd μ 7 false 1))
  · replace h := ifp c h
    obtain ⟨hi, h⟩ := ift h
    by_cases c : (w32 (D_X7_isLetter (rd μ 42 false (ix (rd μ 7 false 2))))) = 0
    · replace h := ifp c h
      by_cases c : (w32 (D_X7_isDigit (rd μ 42 false (ix (rd μ 7 false 2))))) = 0
      · replace h := ifp c h
        by_cases c : ¬ (w32 (rd μ 42 false (ix (rd μ 7 false 2)))) = 59
        · replace h := ifp c h
          exact Fr.tr (Fr.w rfl trivial (Fr.l rfl trivial (Fr.w rfl trivial Fr.rf))) (Q_X7_next_312 _ _ h)
        · replace h := ifn c h
          exact Fr.tr (Fr.w rfl trivial (Fr.l rfl trivial (Fr.w rfl trivial Fr.rf))) (Q_X7_next_312 _ _ h)
      · replace h := ifn c h
        exact Fr.tr (Fr.w rfl trivial (Fr.l rfl trivial (Fr.w rfl trivial Fr.rf))) (Q_X7_next_208 FU _ h)
    · replace h := ifn c h
      exact Fr.tr (Fr.w rfl trivial (Fr.l rfl trivial (Fr.w rfl trivial Fr.rf))) (Q_X7_next_99 FU _ h)
  · replace h := ifn c h
    exact frV h (Fr.w rfl trivial (Fr.l rfl trivial (Fr.w rfl trivial Fr.rf)))
theorem Q_X7_next_39 {mm : Mi} {k0 : (Mi → Option Mi)} (hk0 : ∀ (m : Mi), k0 m = some mm → Fr W_X7_next none m mm) (μ : Mi) (h : B_X7_next_39 k0 μ = some mm) : Fr W_X7_next none μ mm := by
  unfold B_X7_next_39 at h
  exact Fr.tr (Fr.w rfl trivial Fr.rf) (hk0 _ h)
theorem Q_X7_next_0 {mm : Mi} : ∀ (n : Nat) (μ : Mi), B_X7_next_0 n μ = some mm → Fr W_X7_next none μ mm := by
  intro n
  induction n with
  | zero =>
    intro μ h
    exact nope h
  | succ n hk0 =>
    intro μ h
    replace h : F_X7_next_0 (B_X7_next_0 n) μ = some mm := h
    unfold F_X7_next_0 at h
    by_cases c : (w32 (rd μ 7 false 1)) ≤ (w32 (rd μ 7 false 2))
    · replace h := ifp c h
      exact Fr.tr Fr.rf (Q_X7_next_52 _ h)
    · replace h := ifn c h
      obtain ⟨hi, h⟩ := ift h
      by_cases c : (w32 (rd μ 42 false (ix (rd μ 7 false 2)))) = 32
      · replace h := ifp c h
        exact Fr.tr Fr.rf (Q_X7_next_39 hk0 _ h)
      · replace h := ifn c h
        obtain ⟨hi, h⟩ := ift h
        by_cases c : ¬ (w32 (rd μ 42 false (ix (rd μ 7 false 2)))) = 10
        · replace h := ifp c h
          exact Fr.tr Fr.rf (Q_X7_next_52 _ h)
        · replace h := ifn c h
          exact Fr.tr Fr.rf (Q_X7_next_39 hk0 _ h)
theorem fr_X7_next {μ : Mi} {mm : Mi} (h : D_X7_next μ = some mm) : Fr W_X7_next none μ mm := Q_X7_next_0 FU μ h
def W_X7_word : List (Nat × Nat) := [(7, 2), (7, 3), (7, 4), (7, 5)]
theorem fr_X7_word {x1 : Nat} {μ : Mi} {r : Int} {mm : Mi} (h : D_X7_word x1 μ = some (r, mm)) : Fr W_X7_word none μ mm := by
  unfold D_X7_word at h
  obtain ⟨r1, h1, h⟩ := bp_some h
  by_cases c : ¬ (w32 r1) = 0
  · replace h := ifp c h
    obtain ⟨m2, h2, h⟩ := bm_some h
    exact frE h (Fr.tr Fr.rf (Fr.mono rfl (Or.inl rfl) (fr_X7_next h2)))
  · replace h := ifn c h
    exact frE h Fr.rf
def W_X7_closes : List (Nat × Nat) := [(7, 2), (7, 3), (7, 4), (7, 5)]
theorem fr_X7_closes {μ : Mi} {r : Int} {mm : Mi} (h : D_X7_closes μ = some (r, mm)) : Fr W_X7_closes none μ mm := by
  unfold D_X7_closes at h
  by_cases c : (w32 (rd μ 7 false 3)) = 3
  · replace h := ifp c h
    obtain ⟨m1, h1, h⟩ := bm_some h
    exact frE h (Fr.tr Fr.rf (Fr.mono rfl (Or.inl rfl) (fr_X7_next h1)))
  · replace h := ifn c h
    exact frE h Fr.rf
def W_X7_number : List (Nat × Nat) := [(7, 2), (7, 3), (7, 4), (7, 5), (7, 35)]
theorem fr_X7_number {x1 : Int} {x2 : Int} {μ : Mi} {r : Int} {mm : Mi} (h : D_X7_number x1 x2 μ = some (r, mm)) : Fr W_X7_number none μ mm := by
  unfold D_X7_number at h
  by_cases c : ¬ (w32 (rd μ 7 false 3)) = 2
  · replace h := ifp c h
    exact frE h Fr.rf
  · replace h := ifn c h
    by_cases c : (w32 (lcmp (rl μ 7 false 5) (w32 x1))) < 0
    · replace h := ifp c h
      exact frE h Fr.rf
    · replace h := ifn c h
      by_cases c : (w32 (lcmp (rl μ 7 false 5) (w32 x2))) ≤ 0
      · replace h := ifp c h
        obtain ⟨m1, h1, h⟩ := bm_some h
        exact frE h (Fr.tr (Fr.w rfl trivial Fr.rf) (Fr.mono rfl (Or.inl rfl) (fr_X7_next h1)))
      · replace h := ifn c h
        exact frE h Fr.rf
def W_X7_landLine : List (Nat × Nat) := [(7, 2), (7, 3), (7, 4), (7, 5), (7, 6), (43, 0), (44, 0)]
theorem Q_X7_landLine_93 {r : Int} {mm : Mi} (s0 : Int) (μ : Mi) (h : B_X7_landLine_93 s0 μ = some (r, mm)) : Fr W_X7_landLine none μ mm := by
  unfold B_X7_landLine_93 at h
  by_cases c : ¬ (w32 s0) = (-1)
  · replace h := ifp c h
    obtain ⟨hi, h⟩ := ift h
    obtain ⟨m1, h1, h⟩ := bm_some h
    obtain ⟨r2, m2, h2, h⟩ := bd_some h
    obtain ⟨hb, h⟩ := ift h
    exact frE h (Fr.tr (Fr.tr (Fr.w rfl trivial (Fr.w rfl trivial Fr.rf)) (Fr.mono rfl (Or.inl rfl) (fr_X7_next h1))) (Fr.mono rfl (Or.inl rfl) (fr_X7_closes h2)))
  · replace h := ifn c h
    exact frE h Fr.rf
theorem fr_X7_landLine {μ : Mi} {r : Int} {mm : Mi} (h : D_X7_landLine μ = some (r, mm)) : Fr W_X7_landLine none μ mm := by
  unfold D_X7_landLine at h
  by_cases c : ¬ (w32 (rd μ 7 false 6)) = 4
  · replace h := ifp c h
    obtain ⟨m1, h1, h⟩ := bm_some h
    obtain ⟨r2, h2, h⟩ := bp_some h
    by_cases c : ¬ (w32 r2) = 0
    · replace h := ifp c h
      obtain ⟨hi, h⟩ := ift h
      obtain ⟨m3, h3, h⟩ := bm_some h
      obtain ⟨r4, h4, h⟩ := bp_some h
      by_cases c : (w32 r4) = 0
      · replace h := ifp c h
        obtain ⟨r5, h5, h⟩ := bp_some h
        by_cases c : (w32 r5) = 0
        · replace h := ifp c h
          obtain ⟨r6, h6, h⟩ := bp_some h
          by_cases c : (w32 r6) = 0
          · replace h := ifp c h
            obtain ⟨r7, h7, h⟩ := bp_some h
            by_cases c : (w32 r7) = 0
            · replace h := ifp c h
              exact Fr.tr (Fr.tr (Fr.l rfl trivial (Fr.tr Fr.rf (Fr.mono rfl (Or.inl rfl) (fr_X7_next h1)))) (Fr.mono rfl (Or.inl rfl) (fr_X7_next h3))) (Q_X7_landLine_93 _ _ h)
            · replace h := ifn c h
              exact Fr.tr (Fr.tr (Fr.l rfl trivial (Fr.tr Fr.rf (Fr.mono rfl (Or.inl rfl) (fr_X7_next h1)))) (Fr.mono rfl (Or.inl rfl) (fr_X7_next h3))) (Q_X7_landLine_93 _ _ h)
          · replace h := ifn c h
            exact Fr.tr (Fr.tr (Fr.l rfl trivial (Fr.tr Fr.rf (Fr.mono rfl (Or.inl rfl) (fr_X7_next h1)))) (Fr.mono rfl (Or.inl rfl) (fr_X7_next h3))) (Q_X7_landLine_93 _ _ h)
        · replace h := ifn c h
          exact Fr.tr (Fr.tr (Fr.l rfl trivial (Fr.tr Fr.rf (Fr.mono rfl (Or.inl rfl) (fr_X7_next h1)))) (Fr.mono rfl (Or.inl rfl) (fr_X7_next h3))) (Q_X7_landLine_93 _ _ h)
      · replace h := ifn c h
        exact Fr.tr (Fr.tr (Fr.l rfl trivial (Fr.tr Fr.rf (Fr.mono rfl (Or.inl rfl) (fr_X7_next h1)))) (Fr.mono rfl (Or.inl rfl) (fr_X7_next h3))) (Q_X7_landLine_93 _ _ h)
    · replace h := ifn c h
      exact frE h (Fr.tr Fr.rf (Fr.mono rfl (Or.inl rfl) (fr_X7_next h1)))
  · replace h := ifn c h
    exact frE h Fr.rf
def W_X7_townLine : List (Nat × Nat) := [(7, 2), (7, 3), (7, 4), (7, 5), (7, 9), (7, 35), (45, 0), (46, 0), (47, 0)]
theorem Q_X7_townLine_152 {r : Int} {mm : Mi} (x1 : Int) (μ : Mi) (h : B_X7_townLine_152 x1 μ = some (r, mm)) : Fr W_X7_townLine none μ mm := by
  unfold B_X7_townLine_152 at h
  obtain ⟨hi, h⟩ := ift h
  obtain ⟨r1, m1, h1, h⟩ := bd_some h
  obtain ⟨hb, h⟩ := ift h
  exact frE h (Fr.tr (Fr.w rfl trivial (Fr.l rfl trivial Fr.rf)) (Fr.mono rfl (Or.inl rfl) (fr_X7_closes h1)))
theorem Q_X7_townLine_151 {r : Int} {mm : Mi} (x1 : Int) (s0 : Int) (s1 : Int) (μ : Mi) (h : B_X7_townLine_151 x1 s0 s1 μ = some (r, mm)) : Fr W_X7_townLine none μ mm := by
  unfold B_X7_townLine_151 at h
  obtain ⟨hi, h⟩ := ift h
  exact Fr.tr (Fr.w rfl trivial Fr.rf) (Q_X7_townLine_152 _ _ h)
theorem Q_X7_townLine_104 {r : Int} {mm : Mi} (x1 : Int) (μ : Mi) (h : B_X7_townLine_104 x1 μ = some (r, mm)) : Fr W_X7_townLine none μ mm := by
  unfold B_X7_townLine_104 at h
  obtain ⟨r1, h1, h⟩ := bp_some h
  obtain ⟨m2, h2, h⟩ := bm_some h
  obtain ⟨r3, m3, h3, h⟩ := bd_some h
  by_cases c : ¬ (w32 r3) = 0
  · replace h := ifp c h
    by_cases c : (w32 r1) = 0
    · replace h := ifp c h
      exact Fr.tr (Fr.tr (Fr.tr Fr.rf (Fr.mono rfl (Or.inl rfl) (fr_X7_next h2))) (Fr.mono rfl (Or.inl rfl) (fr_X7_number h3))) (Q_X7_townLine_151 _ _ _ _ h)
    · replace h := ifn c h
      exact Fr.tr (Fr.tr (Fr.tr Fr.rf (Fr.mono rfl (Or.inl rfl) (fr_X7_next h2))) (Fr.mono rfl (Or.inl rfl) (fr_X7_number h3))) (Q_X7_townLine_151 _ _ _ _ h)
  · replace h := ifn c h
    exact frE h (Fr.tr (Fr.tr Fr.rf (Fr.mono rfl (Or.inl rfl) (fr_X7_next h2))) (Fr.mono rfl (Or.inl rfl) (fr_X7_number h3)))
theorem fr_X7_townLine {μ : Mi} {r : Int} {mm : Mi} (h : D_X7_townLine μ = some (r, mm)) : Fr W_X7_townLine none μ mm := by
  unfold D_X7_townLine at h
  by_cases c : ¬ (w32 (rd μ 7 false 9)) = 8
  · replace h := ifp c h
    obtain ⟨m1, h1, h⟩ := bm_some h
    obtain ⟨r2, h2, h⟩ := bp_some h
    by_cases c : ¬ (w32 r2) = 0
    · replace h := ifp c h
      obtain ⟨m3, h3, h⟩ := bm_some h
      obtain ⟨r4, m4, h4, h⟩ := bd_some h
      by_cases c : ¬ (w32 r4) = 0
      · replace h := ifp c h
        obtain ⟨r5, h5, h⟩ := bp_some h
        obtain ⟨hi, h⟩ := ift h
        obtain ⟨hi, h⟩ := ift h
        by_cases c : ¬ (w32 r5) = (-1)
        · replace h := ifp c h
          obtain ⟨m6, h6, h⟩ := bm_some h
          obtain ⟨hi, h⟩ := ift h
          obtain ⟨r7, h7, h⟩ := bp_some h
          by_cases c : ¬ (w32 r7) = 0
          · replace h := ifp c h
            exact Fr.tr (Fr.w rfl trivial (Fr.tr (Fr.w rfl trivial (Fr.tr (Fr.tr (Fr.tr Fr.rf (Fr.mono rfl (Or.inl rfl) (fr_X7_next h1))) (Fr.mono rfl (Or.inl rfl) (fr_X7_next h3))) (Fr.mono rfl (Or.inl rfl) (fr_X7_word h4)))) (Fr.mono rfl (Or.inl rfl) (fr_X7_next h6)))) (Q_X7_townLine_104 _ _ h)
          · replace h := ifn c h
            obtain ⟨r8, h8, h⟩ := bp_some h
            by_cases c : (w32 r8) = 0
            · replace h := ifp c h
              exact Fr.tr (Fr.w rfl trivial (Fr.tr (Fr.w rfl trivial (Fr.tr (Fr.tr (Fr.tr Fr.rf (Fr.mono rfl (Or.inl rfl) (fr_X7_next h1))) (Fr.mono rfl (Or.inl rfl) (fr_X7_next h3))) (Fr.mono rfl (Or.inl rfl) (fr_X7_word h4)))) (Fr.mono rfl (Or.inl rfl) (fr_X7_next h6)))) (Q_X7_townLine_152 _ _ h)
            · replace h := ifn c h
              exact Fr.tr (Fr.w rfl trivial (Fr.tr (Fr.w rfl trivial (Fr.tr (Fr.tr (Fr.tr Fr.rf (Fr.mono rfl (Or.inl rfl) (fr_X7_next h1))) (Fr.mono rfl (Or.inl rfl) (fr_X7_next h3))) (Fr.mono rfl (Or.inl rfl) (fr_X7_word h4)))) (Fr.mono rfl (Or.inl rfl) (fr_X7_next h6)))) (Q_X7_townLine_104 _ _ h)
        · replace h := ifn c h
          exact frE h (Fr.w rfl trivial (Fr.tr (Fr.tr (Fr.tr Fr.rf (Fr.mono rfl (Or.inl rfl) (fr_X7_next h1))) (Fr.mono rfl (Or.inl rfl) (fr_X7_next h3))) (Fr.mono rfl (Or.inl rfl) (fr_X7_word h4))))
      · replace h := ifn c h
        exact frE h (Fr.tr (Fr.tr (Fr.tr Fr.rf (Fr.mono rfl (Or.inl rfl) (fr_X7_next h1))) (Fr.mono rfl (Or.inl rfl) (fr_X7_next h3))) (Fr.mono rfl (Or.inl rfl) (fr_X7_word h4)))
    · replace h := ifn c h
      exact frE h (Fr.tr Fr.rf (Fr.mono rfl (Or.inl rfl) (fr_X7_next h1)))
  · replace h := ifn c h
    exact frE h Fr.rf
def W_X7_linkLine : List (Nat × Nat) := [(7, 2), (7, 3), (7, 4), (7, 5), (7, 13), (7, 35), (48, 0)]
theorem Q_X7_linkLine_220 {r : Int} {mm : Mi} (s0 : Int) (s1 : Int) (μ : Mi) (h : B_X7_linkLine_220 s0 s1 μ = some (r, mm)) : Fr W_X7_linkLine none μ mm := by
  unfold B_X7_linkLine_220 at h
  obtain ⟨hi, h⟩ := ift h
  obtain ⟨r1, m1, h1, h⟩ := bd_some h
  obtain ⟨hb, h⟩ := ift h
  exact frE h (Fr.tr (Fr.w rfl trivial (Fr.w rfl trivial Fr.rf)) (Fr.mono rfl (Or.inl rfl) (fr_X7_closes h1)))
theorem Q_X7_linkLine_118 {r : Int} {mm : Mi} (x1 : Int) (x2 : Int) (s0 : Int) (s1 : Int) (μ : Mi) (h : B_X7_linkLine_118 x1 x2 s0 s1 μ = some (r, mm)) : Fr W_X7_linkLine none μ mm := by
  unfold B_X7_linkLine_118 at h
  obtain ⟨r1, m1, h1, h⟩ := bd_some h
  by_cases c : ¬ (w32 r1) = 0
  · replace h := ifp c h
    obtain ⟨hi, h⟩ := ift h
    obtain ⟨r2, m2, h2, h⟩ := bd_some h
    by_cases c : (w32 r2) = 0
    · replace h := ifp c h
      exact frE h (Fr.tr (Fr.w rfl trivial (Fr.tr Fr.rf (Fr.mono rfl (Or.inl rfl) (fr_X7_number h1)))) (Fr.mono rfl (Or.inl rfl) (fr_X7_word h2)))
    · replace h := ifn c h
      obtain ⟨r3, m3, h3, h⟩ := bd_some h
      by_cases c : ¬ (w32 r3) = 0
      · replace h := ifp c h
        obtain ⟨hi, h⟩ := ift h
        obtain ⟨r4, m4, h4, h⟩ := bd_some h
        by_cases c : (w32 r4) = 0
        · replace h := ifp c h
          exact frE h (Fr.tr (Fr.w rfl trivial (Fr.tr (Fr.tr (Fr.w rfl trivial (Fr.tr Fr.rf (Fr.mono rfl (Or.inl rfl) (fr_X7_number h1)))) (Fr.mono rfl (Or.inl rfl) (fr_X7_word h2))) (Fr.mono rfl (Or.inl rfl) (fr_X7_number h3)))) (Fr.mono rfl (Or.inl rfl) (fr_X7_word h4)))
        · replace h := ifn c h
          obtain ⟨r5, m5, h5, h⟩ := bd_some h
          by_cases c : ¬ (w32 r5) = 0
          · replace h := ifp c h
            obtain ⟨hi, h⟩ := ift h
            by_cases c : (w32 x1) = 0
            · replace h := ifp c h
              exact Fr.tr (Fr.w rfl trivial (Fr.tr (Fr.tr (Fr.w rfl trivial (Fr.tr (Fr.tr (Fr.w rfl trivial (Fr.tr Fr.rf (Fr.mono rfl (Or.inl rfl) (fr_X7_number h1)))) (Fr.mono rfl (Or.inl rfl) (fr_X7_word h2))) (Fr.mono rfl (Or.inl rfl) (fr_X7_number h3)))) (Fr.mono rfl (Or.inl rfl) (fr_X7_word h4))) (Fr.mono rfl (Or.inl rfl) (fr_X7_number h5)))) (Q_X7_linkLine_220 _ _ _ h)
            · replace h := ifn c h
              exact Fr.tr (Fr.w rfl trivial (Fr.tr (Fr.tr (Fr.w rfl trivial (Fr.tr (Fr.tr (Fr.w rfl trivial (Fr.tr Fr.rf (Fr.mono rfl (Or.inl rfl) (fr_X7_number h1)))) (Fr.mono rfl (Or.inl rfl) (fr_X7_word h2))) (Fr.mono rfl (Or.inl rfl) (fr_X7_number h3)))) (Fr.mono rfl (Or.inl rfl) (fr_X7_word h4))) (Fr.mono rfl (Or.inl rfl) (fr_X7_number h5)))) (Q_X7_linkLine_220 _ _ _ h)
          · replace h := ifn c h
            exact frE h (Fr.tr (Fr.tr (Fr.w rfl trivial (Fr.tr (Fr.tr (Fr.w rfl trivial (Fr.tr Fr.rf (Fr.mono rfl (Or.inl rfl) (fr_X7_number h1)))) (Fr.mono rfl (Or.inl rfl) (fr_X7_word h2))) (Fr.mono rfl (Or.inl rfl) (fr_X7_number h3)))) (Fr.mono rfl (Or.inl rfl) (fr_X7_word h4))) (Fr.mono rfl (Or.inl rfl) (fr_X7_number h5)))
      · replace h := ifn c h
        exact frE h (Fr.tr (Fr.tr (Fr.w rfl trivial (Fr.tr Fr.rf (Fr.mono rfl (Or.inl rfl) (fr_X7_number h1)))) (Fr.mono rfl (Or.inl rfl) (fr_X7_word h2))) (Fr.mono rfl (Or.inl rfl) (fr_X7_number h3)))
  · replace h := ifn c h
    exact frE h (Fr.tr Fr.rf (Fr.mono rfl (Or.inl rfl) (fr_X7_number h1)))
theorem fr_X7_linkLine {x1 : Int} {μ : Mi} {r : Int} {mm : Mi} (h : D_X7_linkLine x1 μ = some (r, mm)) : Fr W_X7_linkLine none μ mm := by
  unfold D_X7_linkLine at h
  by_cases c : ¬ (w32 (rd μ 7 false 13)) = 16
  · replace h := ifp c h
    obtain ⟨m1, h1, h⟩ := bm_some h
    obtain ⟨r2, h2, h⟩ := bp_some h
    obtain ⟨hi, h⟩ := ift h
    obtain ⟨hi, h⟩ := ift h
    by_cases c : ¬ (w32 r2) = (-1)
    · replace h := ifp c h
      obtain ⟨m3, h3, h⟩ := bm_some h
      obtain ⟨r4, h4, h⟩ := bp_some h
      obtain ⟨hi, h⟩ := ift h
      obtain ⟨hi, h⟩ := ift h
      by_cases c : (w32 r4) = (-1)
      · replace h := ifp c h
        exact frE h (Fr.w rfl trivial (Fr.tr (Fr.w rfl trivial (Fr.tr Fr.rf (Fr.mono rfl (Or.inl rfl) (fr_X7_next h1)))) (Fr.mono rfl (Or.inl rfl) (fr_X7_next h3))))
      · replace h := ifn c h
        obtain ⟨hi, h⟩ := ift h
        obtain ⟨hi, h⟩ := ift h
        by_cases c : ¬ (w32 r4) = (w32 (rd (wr m3 48 false (ix ((6 * (rd μ 7 false 13)) + 1)) r4) 48 false (ix (6 * (rd μ 7 false 13)))))
        · replace h := ifp c h
          obtain ⟨m5, h5, h⟩ := bm_some h
          obtain ⟨r6, m6, h6, h⟩ := bd_some h
          by_cases c : (w32 r6) = 0
          · replace h := ifp c h
            exact frE h (Fr.tr (Fr.tr (Fr.w rfl trivial (Fr.tr (Fr.w rfl trivial (Fr.tr Fr.rf (Fr.mono rfl (Or.inl rfl) (fr_X7_next h1)))) (Fr.mono rfl (Or.inl rfl) (fr_X7_next h3)))) (Fr.mono rfl (Or.inl rfl) (fr_X7_next h5))) (Fr.mono rfl (Or.inl rfl) (fr_X7_word h6)))
          · replace h := ifn c h
            by_cases c : (w32 x1) = 0
            · replace h := ifp c h
              exact Fr.tr (Fr.tr (Fr.tr (Fr.w rfl trivial (Fr.tr (Fr.w rfl trivial (Fr.tr Fr.rf (Fr.mono rfl (Or.inl rfl) (fr_X7_next h1)))) (Fr.mono rfl (Or.inl rfl) (fr_X7_next h3)))) (Fr.mono rfl (Or.inl rfl) (fr_X7_next h5))) (Fr.mono rfl (Or.inl rfl) (fr_X7_word h6))) (Q_X7_linkLine_118 _ _ _ _ _ h)
            · replace h := ifn c h
              exact Fr.tr (Fr.tr (Fr.tr (Fr.w rfl trivial (Fr.tr (Fr.w rfl trivial (Fr.tr Fr.rf (Fr.mono rfl (Or.inl rfl) (fr_X7_next h1)))) (Fr.mono rfl (Or.inl rfl) (fr_X7_next h3)))) (Fr.mono rfl (Or.inl rfl) (fr_X7_next h5))) (Fr.mono rfl (Or.inl rfl) (fr_X7_word h6))) (Q_X7_linkLine_118 _ _ _ _ _ h)
        · replace h := ifn c h
          exact frE h (Fr.w rfl trivial (Fr.tr (Fr.w rfl trivial (Fr.tr Fr.rf (Fr.mono rfl (Or.inl rfl) (fr_X7_next h1)))) (Fr.mono rfl (Or.inl rfl) (fr_X7_next h3))))
    · replace h := ifn c h
      exact frE h (Fr.w rfl trivial (Fr.tr Fr.rf (Fr.mono rfl (Or.inl rfl) (fr_X7_next h1))))
  · replace h := ifn c h
    exact frE h Fr.rf
def W_X7_line : List (Nat × Nat) := [(7, 2), (7, 3), (7, 4), (7, 5), (7, 6), (7, 9), (7, 13), (7, 35), (43, 0), (44, 0), (45, 0), (46, 0), (47, 0), (48, 0)]
theorem Q_X7_line_46 {r : Int} {mm : Mi} (μ : Mi) (h : B_X7_line_46 μ = some (r, mm)) : Fr W_X7_line none μ mm := by
  unfold B_X7_line_46 at h
  obtain ⟨r1, h1, h⟩ := bp_some h
  obtain ⟨r2, m2, h2, h⟩ := bd_some h
  by_cases c : (w32 r2) = 0
  · replace h := ifp c h
    exact frE h (Fr.tr Fr.rf (Fr.mono rfl (Or.inl rfl) (fr_X7_linkLine h2)))
  · replace h := ifn c h
    exact frE h (Fr.tr Fr.rf (Fr.mono rfl (Or.inl rfl) (fr_X7_linkLine h2)))
theorem fr_X7_line {μ : Mi} {r : Int} {mm : Mi} (h : D_X7_line μ = some (r, mm)) : Fr W_X7_line none μ mm := by
  unfold D_X7_line at h
  obtain ⟨r1, h1, h⟩ := bp_some h
  by_cases c : (w32 r1) = 0
  · replace h := ifp c h
    obtain ⟨r2, h2, h⟩ := bp_some h
    by_cases c : (w32 r2) = 0
    · replace h := ifp c h
      obtain ⟨r3, h3, h⟩ := bp_some h
      by_cases c : ¬ (w32 r3) = 0
      · replace h := ifp c h
        exact Fr.tr Fr.rf (Q_X7_line_46 _ h)
      · replace h := ifn c h
        obtain ⟨r4, h4, h⟩ := bp_some h
        by_cases c : (w32 r4) = 0
        · replace h := ifp c h
          exact frE h Fr.rf
        · replace h := ifn c h
          exact Fr.tr Fr.rf (Q_X7_line_46 _ h)
    · replace h := ifn c h
      obtain ⟨r3, m3, h3, h⟩ := bd_some h
      obtain ⟨hb, h⟩ := ift h
      exact frE h (Fr.tr Fr.rf (Fr.mono rfl (Or.inl rfl) (fr_X7_townLine h3)))
  · replace h := ifn c h
    obtain ⟨r2, m2, h2, h⟩ := bd_some h
    obtain ⟨hb, h⟩ := ift h
    exact frE h (Fr.tr Fr.rf (Fr.mono rfl (Or.inl rfl) (fr_X7_landLine h2)))
def W_X7_fault : List (Nat × Nat) := [(7, 2), (7, 3), (7, 4), (7, 5), (7, 6), (7, 9), (7, 13), (7, 35), (43, 0), (44, 0), (45, 0), (46, 0), (47, 0), (48, 0)]
theorem Q_X7_fault_24 {r : Int} {mm : Mi} : ∀ (n : Nat) (μ : Mi), B_X7_fault_24 n μ = some (r, mm) → Fr W_X7_fault none μ mm := by
  intro n
  induction n with
  | zero =>
    intro μ h
    exact nope h
  | succ n hk24 =>
    intro μ h
    replace h : F_X7_fault_24 (B_X7_fault_24 n) μ = some (r, mm) := h
    unfold F_X7_fault_24 at h
    by_cases c : (w32 (rd μ 7 false 3)) = 0
    · replace h := ifp c h
      by_cases c : ¬ (w32 (rd μ 7 false 9)) = 0
      · replace h := ifp c h
        exact frE h Fr.rf
      · replace h := ifn c h
        exact frE h Fr.rf
    · replace h := ifn c h
      obtain ⟨r1, m1, h1, h⟩ := bd_some h
      by_cases c : ¬ (w32 r1) = 0
      · replace h := ifp c h
        exact Fr.tr (Fr.tr Fr.rf (Fr.mono rfl (Or.inl rfl) (fr_X7_line h1))) (hk24 _ h)
      · replace h := ifn c h
        exact frE h (Fr.tr Fr.rf (Fr.mono rfl (Or.inl rfl) (fr_X7_line h1)))
theorem fr_X7_fault {μ : Mi} {r : Int} {mm : Mi} (h : D_X7_fault μ = some (r, mm)) : Fr W_X7_fault none μ mm := by
  unfold D_X7_fault at h
  obtain ⟨m1, h1, h⟩ := bm_some h
  exact Fr.tr (Fr.tr (Fr.w rfl trivial (Fr.w rfl trivial (Fr.w rfl trivial (Fr.w rfl trivial Fr.rf)))) (Fr.mono rfl (Or.inl rfl) (fr_X7_next h1))) (Q_X7_fault_24 FU _ h)
def W_X7_map : List (Nat × Nat) := [(7, 1), (7, 2), (7, 3), (7, 4), (7, 5), (7, 6), (7, 9), (7, 13), (7, 15), (7, 17), (7, 20), (7, 32), (7, 35), (43, 0), (44, 0), (45, 0), (46, 0), (47, 0), (48, 0), (49, 0), (50, 0), (51, 0), (52, 0), (53, 0), (54, 0), (55, 0), (56, 0)]
theorem Q_X7_map_125 {r : Int} {mm : Mi} : ∀ (n : Nat) (x1 : Int) (μ : Mi), B_X7_map_125 n x1 μ = some (r, mm) → Fr W_X7_map none μ mm := by
  intro n
  induction n with
  | zero =>
    intro x1 μ h
    exact nope h
  | succ n hk125 =>
    intro x1 μ h
    replace h : F_X7_map_125 (B_X7_map_125 n) x1 μ = some (r, mm) := h
    unfold F_X7_map_125 at h
    by_cases c : 2 ≤ (w32 x1)
    · replace h := ifp c h
      exact frE h (Fr.w rfl trivial (Fr.w rfl trivial Fr.rf))
    · replace h := ifn c h
      obtain ⟨hi, h⟩ := ift h
      obtain ⟨hi, h⟩ := ift h
      obtain ⟨hi, h⟩ := ift h
      obtain ⟨hi, h⟩ := ift h
      exact Fr.tr (Fr.w rfl trivial (Fr.w rfl trivial (Fr.w rfl trivial (Fr.w rfl trivial Fr.rf)))) (hk125 _ _ h)
theorem Q_X7_map_99 {r : Int} {mm : Mi} : ∀ (n : Nat) (x1 : Int) (μ : Mi), B_X7_map_99 n x1 μ = some (r, mm) → Fr W_X7_map none μ mm := by
  intro n
  induction n with
  | zero =>
    intro x1 μ h
    exact nope h
  | succ n hk99 =>
    intro x1 μ h
    replace h : F_X7_map_99 (B_X7_map_99 n) x1 μ = some (r, mm) := h
    unfold F_X7_map_99 at h
    by_cases c : 96 ≤ (w32 x1)
    · replace h := ifp c h
      exact Fr.tr Fr.rf (Q_X7_map_125 FU _ _ h)
    · replace h := ifn c h
      obtain ⟨hi, h⟩ := ift h
      obtain ⟨hi, h⟩ := ift h
      exact Fr.tr (Fr.w rfl trivial Fr.rf) (hk99 _ _ h)
theorem Q_X7_map_61 {r : Int} {mm : Mi} : ∀ (n : Nat) (x1 : Int) (μ : Mi), B_X7_map_61 n x1 μ = some (r, mm) → Fr W_X7_map none μ mm := by
  intro n
  induction n with
  | zero =>
    intro x1 μ h
    exact nope h
  | succ n hk61 =>
    intro x1 μ h
    replace h : F_X7_map_61 (B_X7_map_61 n) x1 μ = some (r, mm) := h
    unfold F_X7_map_61 at h
    by_cases c : 8 ≤ (w32 x1)
    · replace h := ifp c h
      exact Fr.tr Fr.rf (Q_X7_map_99 FU _ _ h)
    · replace h := ifn c h
      obtain ⟨hi, h⟩ := ift h
      obtain ⟨hi, h⟩ := ift h
      obtain ⟨hi, h⟩ := ift h
      obtain ⟨hi, h⟩ := ift h
      exact Fr.tr (Fr.w rfl trivial (Fr.w rfl trivial Fr.rf)) (hk61 _ _ h)
theorem Q_X7_map_36 {r : Int} {mm : Mi} : ∀ (n : Nat) (x1 : Int) (μ : Mi), B_X7_map_36 n x1 μ = some (r, mm) → Fr W_X7_map none μ mm := by
  intro n
  induction n with
  | zero =>
    intro x1 μ h
    exact nope h
  | succ n hk36 =>
    intro x1 μ h
    replace h : F_X7_map_36 (B_X7_map_36 n) x1 μ = some (r, mm) := h
    unfold F_X7_map_36 at h
    by_cases c : 4 ≤ (w32 x1)
    · replace h := ifp c h
      exact Fr.tr Fr.rf (Q_X7_map_61 FU _ _ h)
    · replace h := ifn c h
      obtain ⟨hi, h⟩ := ift h
      obtain ⟨hi, h⟩ := ift h
      exact Fr.tr (Fr.w rfl trivial Fr.rf) (hk36 _ _ h)
theorem fr_X7_map {μ : Mi} {r : Int} {mm : Mi} (h : D_X7_map μ = some (r, mm)) : Fr W_X7_map none μ mm := by
  unfold D_X7_map at h
  obtain ⟨r1, m1, h1, h⟩ := bd_some h
  by_cases c : (w32 r1) = (-1)
  · replace h := ifp c h
    exact Fr.tr (Fr.w rfl trivial (Fr.w rfl trivial (Fr.w rfl trivial (Fr.tr Fr.rf (Fr.mono rfl (Or.inl rfl) (fr_X7_fault h1)))))) (Q_X7_map_36 FU _ _ h)
  · replace h := ifn c h
    exact frE h (Fr.tr Fr.rf (Fr.mono rfl (Or.inl rfl) (fr_X7_fault h1)))
def W_X7_man : List (Nat × Nat) := [(53, 0), (54, 0), (55, 0)]
theorem fr_X7_man {x1 : Int} {x2 : Int} {x3 : Int} {x4 : Int} {μ : Mi} {r : Int} {mm : Mi} (h : D_X7_man x1 x2 x3 x4 μ = some (r, mm)) : Fr W_X7_man none μ mm := by
  unfold D_X7_man at h
  by_cases c : (w32 (D_X7_isMan x1 μ)) = 0
  · replace h := ifp c h
    exact frE h Fr.rf
  · replace h := ifn c h
    obtain ⟨r2, h2, h⟩ := bp_some h
    by_cases c : (w32 r2) = 0
    · replace h := ifp c h
      exact frE h Fr.rf
    · replace h := ifn c h
      by_cases c : (w32 (D_X7_in x3 0 4)) = 0
      · replace h := ifp c h
        exact frE h Fr.rf
      · replace h := ifn c h
        by_cases c : ¬ (w32 (D_X7_in x4 1 96)) = 0
        · replace h := ifp c h
          obtain ⟨hi, h⟩ := ift h
          obtain ⟨hi, h⟩ := ift h
          obtain ⟨hi, h⟩ := ift h
          exact frE h (Fr.w rfl trivial (Fr.w rfl trivial (Fr.w rfl trivial Fr.rf)))
        · replace h := ifn c h
          exact frE h Fr.rf
def W_X7_left : List (Nat × Nat) := [(56, 0), (57, 0), (58, 0), (59, 0), (60, 0), (61, 0), (62, 0)]
theorem fr_X7_left {x1 : Int} {x2 : Int} {x3 : Int} {x4 : Int} {x5 : Int} {x6 : Int} {μ : Mi} {r : Int} {mm : Mi} (h : D_X7_left x1 x2 x3 x4 x5 x6 μ = some (r, mm)) : Fr W_X7_left none μ mm := by
  unfold D_X7_left at h
  obtain ⟨hi, h⟩ := ift h
  by_cases c : ¬ (w32 (rd μ 56 false (ix x1))) = 8
  · replace h := ifp c h
    obtain ⟨hi, h⟩ := ift h
    obtain ⟨hi, h⟩ := ift h
    obtain ⟨hi, h⟩ := ift h
    obtain ⟨hi, h⟩ := ift h
    obtain ⟨hi, h⟩ := ift h
    obtain ⟨hi, h⟩ := ift h
    obtain ⟨hi, h⟩ := ift h
    obtain ⟨hi, h⟩ := ift h
    obtain ⟨hi, h⟩ := ift h
    obtain ⟨hi, h⟩ := ift h
    exact frE h (Fr.w rfl trivial (Fr.w rfl trivial (Fr.w rfl trivial (Fr.w rfl trivial (Fr.w rfl trivial (Fr.w rfl trivial (Fr.w rfl trivial Fr.rf)))))))
  · replace h := ifn c h
    exact frE h Fr.rf
def W_X7_stamp : List (Nat × Nat) := [(56, 0), (57, 0), (58, 0), (59, 0), (60, 0), (61, 0), (62, 0)]
theorem Q_X7_stamp_73 {r : Int} {mm : Mi} (s0 : Int) (s1 : Int) (s2 : Int) (s3 : Int) (s4 : Int) (s5 : Int) (μ : Mi) (h : B_X7_stamp_73 s0 s1 s2 s3 s4 s5 μ = some (r, mm)) : Fr W_X7_stamp none μ mm := by
  unfold B_X7_stamp_73 at h
  obtain ⟨r1, m1, h1, h⟩ := bd_some h
  exact frE h (Fr.tr Fr.rf (Fr.mono rfl (Or.inl rfl) (fr_X7_left h1)))
theorem fr_X7_stamp {x1 : Int} {x2 : Int} {x3 : Int} {x4 : Int} {x5 : Int} {μ : Mi} {r : Int} {mm : Mi} (h : D_X7_stamp x1 x2 x3 x4 x5 μ = some (r, mm)) : Fr W_X7_stamp none μ mm := by
  unfold D_X7_stamp at h
  by_cases c : (w32 (D_X7_isMan x1 μ)) = 0
  · replace h := ifp c h
    exact frE h Fr.rf
  · replace h := ifn c h
    by_cases c : (w32 (D_X7_in x2 0 ((rd μ 7 false 15) - 1))) = 0
    · replace h := ifp c h
      exact frE h Fr.rf
    · replace h := ifn c h
      by_cases c : (w32 (D_X7_in x4 (-1) 5)) = 0
      · replace h := ifp c h
        exact frE h Fr.rf
      · replace h := ifn c h
        by_cases c : (w32 (D_X7_in x5 x4 5)) = 0
        · replace h := ifp c h
          exact frE h Fr.rf
        · replace h := ifn c h
          obtain ⟨r5, h5, h⟩ := bp_some h
          by_cases c : ¬ (w32 r5) = 6
          · replace h := ifp c h
            by_cases c : (w32 x3) = 0
            · replace h := ifp c h
              exact Fr.tr Fr.rf (Q_X7_stamp_73 _ _ _ _ _ _ _ h)
            · replace h := ifn c h
              exact Fr.tr Fr.rf (Q_X7_stamp_73 _ _ _ _ _ _ _ h)
          · replace h := ifn c h
            exact frE h Fr.rf
def W_X7_paper : List (Nat × Nat) := [(56, 0), (57, 0), (58, 0), (59, 0), (60, 0), (61, 0), (62, 0)]
theorem fr_X7_paper {x1 : Int} {x2 : Int} {x3 : Int} {μ : Mi} {r : Int} {mm : Mi} (h : D_X7_paper x1 x2 x3 μ = some (r, mm)) : Fr W_X7_paper none μ mm := by
  unfold D_X7_paper at h
  by_cases c : (w32 (D_X7_isMan x1 μ)) = 0
  · replace h := ifp c h
    exact frE h Fr.rf
  · replace h := ifn c h
    obtain ⟨r2, h2, h⟩ := bp_some h
    by_cases c : (w32 r2) = 0
    · replace h := ifp c h
      exact frE h Fr.rf
    · replace h := ifn c h
      by_cases c : (w32 (D_X7_in x3 0 96)) = 0
      · replace h := ifp c h
        exact frE h Fr.rf
      · replace h := ifn c h
        obtain ⟨r4, m4, h4, h⟩ := bd_some h
        exact frE h (Fr.tr Fr.rf (Fr.mono rfl (Or.inl rfl) (fr_X7_left h4)))
def W_X7_look : List (Nat × Nat) := [(56, 0), (57, 0), (58, 0), (59, 0), (60, 0), (61, 0), (62, 0)]
theorem fr_X7_look {x1 : Int} {x2 : Int} {x3 : Int} {x4 : Int} {μ : Mi} {r : Int} {mm : Mi} (h : D_X7_look x1 x2 x3 x4 μ = some (r, mm)) : Fr W_X7_look none μ mm := by
  unfold D_X7_look at h
  by_cases c : (w32 (D_X7_isMan x1 μ)) = 0
  · replace h := ifp c h
    exact frE h Fr.rf
  · replace h := ifn c h
    obtain ⟨r2, h2, h⟩ := bp_some h
    by_cases c : (w32 r2) = 0
    · replace h := ifp c h
      exact frE h Fr.rf
    · replace h := ifn c h
      by_cases c : (w32 (D_X7_in x3 0 96)) = 0
      · replace h := ifp c h
        exact frE h Fr.rf
      · replace h := ifn c h
        by_cases c : (w32 (D_X7_in x4 x3 96)) = 0
        · replace h := ifp c h
          exact frE h Fr.rf
        · replace h := ifn c h
          obtain ⟨r5, h5, h⟩ := bp_some h
          by_cases c : 2 ≤ (w32 r5)
          · replace h := ifp c h
            exact frE h Fr.rf
          · replace h := ifn c h
            obtain ⟨r6, m6, h6, h⟩ := bd_some h
            exact frE h (Fr.tr Fr.rf (Fr.mono rfl (Or.inl rfl) (fr_X7_left h6)))
def W_X7_doubt : List (Nat × Nat) := [(62, 0)]
theorem fr_X7_doubt {x1 : Int} {x2 : Int} {x3 : Int} {μ : Mi} {r : Int} {mm : Mi} (h : D_X7_doubt x1 x2 x3 μ = some (r, mm)) : Fr W_X7_doubt none μ mm := by
  unfold D_X7_doubt at h
  obtain ⟨r1, h1, h⟩ := bp_some h
  by_cases c : (w32 r1) = 0
  · replace h := ifp c h
    exact frE h Fr.rf
  · replace h := ifn c h
    obtain ⟨hi, h⟩ := ift h
    by_cases c : ¬ (w32 (rd μ 62 false (ix ((8 * x1) + x2)))) = (w32 x3)
    · replace h := ifp c h
      obtain ⟨hi, h⟩ := ift h
      obtain ⟨hb, h⟩ := ift h
      exact frE h (Fr.w rfl trivial Fr.rf)
    · replace h := ifn c h
      exact frE h Fr.rf
def W_X7_undo : List (Nat × Nat) := [(56, 0)]
theorem fr_X7_undo {x1 : Int} {μ : Mi} {r : Int} {mm : Mi} (h : D_X7_undo x1 μ = some (r, mm)) : Fr W_X7_undo none μ mm := by
  unfold D_X7_undo at h
  by_cases c : (w32 (D_X7_isMan x1 μ)) = 0
  · replace h := ifp c h
    exact frE h Fr.rf
  · replace h := ifn c h
    obtain ⟨hi, h⟩ := ift h
    by_cases c : ¬ (w32 (rd μ 56 false (ix x1))) = 0
    · replace h := ifp c h
      obtain ⟨hi, h⟩ := ift h
      obtain ⟨hi, h⟩ := ift h
      obtain ⟨hi, h⟩ := ift h
      exact frE h (Fr.w rfl trivial Fr.rf)
    · replace h := ifn c h
      exact frE h Fr.rf
def W_X7_sets : List (Nat × Nat) := [(7, 36), (7, 37), (7, 40), (65, 0), (66, 0), (67, 0), (68, 0), (69, 0)]
theorem Q_X7_sets_262 {mm : Mi} {k38 : (Int → Int → Int → Mi → Option Mi)} (hk38 : ∀ (x1 : Int) (x2 : Int) (x3 : Int) (m : Mi), k38 x1 x2 x3 m = some mm → Fr W_X7_sets none m mm) (x1 : Int) (x2 : Int) (x3 : Int) (μ : Mi) (h : B_X7_sets_262 k38 x1 x2 x3 μ = some mm) : Fr W_X7_sets none μ mm := by
  unfold B_X7_sets_262 at h
  exact Fr.tr Fr.rf (hk38 _ _ _ _ h)
theorem Q_X7_sets_261 {mm : Mi} {k38 : (Int → Int → Int → Mi → Option Mi)} (hk38 : ∀ (x1 : Int) (x2 : Int) (x3 : Int) (m : Mi), k38 x1 x2 x3 m = some mm → Fr W_X7_sets none m mm) (x1 : Int) (x2 : Int) (x3 : Int) (s0 : Int) (s1 : Int) (μ : Mi) (h : B_X7_sets_261 k38 x1 x2 x3 s0 s1 μ = some mm) : Fr W_X7_sets none μ mm := by
  unfold B_X7_sets_261 at h
  obtain ⟨hi, h⟩ := ift h
  exact Fr.tr (Fr.w rfl trivial Fr.rf) (Q_X7_sets_262 hk38 _ _ _ _ h)
theorem Q_X7_sets_249 {mm : Mi} {k38 : (Int → Int → Int → Mi → Option Mi)} (hk38 : ∀ (x1 : Int) (x2 : Int) (x3 : Int) (m : Mi), k38 x1 x2 x3 m = some mm → Fr W_X7_sets none m mm) (x1 : Int) (x2 : Int) (x3 : Int) (x4 : Int) (s0 : Int) (μ : Mi) (h : B_X7_sets_249 k38 x1 x2 x3 x4 s0 μ = some mm) : Fr W_X7_sets none μ mm := by
  unfold B_X7_sets_249 at h
  obtain ⟨hi, h⟩ := ift h
  exact Fr.tr Fr.rf (Q_X7_sets_261 hk38 _ _ _ _ _ _ h)
theorem Q_X7_sets_38 {mm : Mi} : ∀ (n : Nat) (x1 : Int) (x2 : Int) (x3 : Int) (μ : Mi), B_X7_sets_38 n x1 x2 x3 μ = some mm → Fr W_X7_sets none μ mm := by
  intro n
  induction n with
  | zero =>
    intro x1 x2 x3 μ h
    exact nope h
  | succ n hk38 =>
    intro x1 x2 x3 μ h
    replace h : F_X7_sets_38 (B_X7_sets_38 n) x1 x2 x3 μ = some mm := h
    unfold F_X7_sets_38 at h
    obtain ⟨hi, h⟩ := ift h
    by_cases c : (w32 (rd μ 56 false (ix x1))) ≤ (w32 x3)
    · replace h := ifp c h
      exact frV h Fr.rf
    · replace h := ifn c h
      obtain ⟨hi, h⟩ := ift h
      by_cases c : ¬ (w32 (rd μ 62 false (ix ((8 * x1) + x3)))) = 0
      · replace h := ifp c h
        exact Fr.tr Fr.rf (Q_X7_sets_262 hk38 _ _ _ _ h)
      · replace h := ifn c h
        by_cases c : ¬ (w32 (iand (ishr x2 x3) 1)) = 1
        · replace h := ifp c h
          obtain ⟨hi, h⟩ := ift h
          by_cases c : ¬ (w32 (rd μ 57 false (ix ((8 * x1) + x3)))) = 0
          · replace h := ifp c h
            obtain ⟨hi, h⟩ := ift h
            by_cases c : ¬ (w32 (rd μ 57 false (ix ((8 * x1) + x3)))) = 2
            · replace h := ifp c h
              obtain ⟨hi, h⟩ := ift h
              obtain ⟨hi, h⟩ := ift h
              by_cases c : (w32 (rd μ 55 false (ix x1))) < (w32 (rd μ 59 false (ix ((8 * x1) + x3))))
              · replace h := ifp c h
                exact Fr.tr Fr.rf (Q_X7_sets_262 hk38 _ _ _ _ h)
              · replace h := ifn c h
                obtain ⟨hi, h⟩ := ift h
                obtain ⟨hi, h⟩ := ift h
                obtain ⟨hi, h⟩ := ift h
                by_cases c : (w32 (rd μ 66 false (ix (rd μ 59 false (ix ((8 * x1) + x3)))))) = (-1)
                · replace h := ifp c h
                  exact Fr.tr Fr.rf (Q_X7_sets_249 hk38 _ _ _ _ _ _ h)
                · replace h := ifn c h
                  obtain ⟨hi, h⟩ := ift h
                  obtain ⟨hi, h⟩ := ift h
                  obtain ⟨hi, h⟩ := ift h
                  by_cases c : ¬ (w32 (rd μ 66 false (ix (rd μ 59 false (ix ((8 * x1) + x3)))))) = (w32 (rd μ 58 false (ix ((8 * x1) + x3))))
                  · replace h := ifp c h
                    exact Fr.tr Fr.rf (Q_X7_sets_261 hk38 _ _ _ _ _ _ h)
                  · replace h := ifn c h
                    exact Fr.tr Fr.rf (Q_X7_sets_249 hk38 _ _ _ _ _ _ h)
            · replace h := ifn c h
              obtain ⟨hi, h⟩ := ift h
              obtain ⟨hi, h⟩ := ift h
              obtain ⟨hi, h⟩ := ift h
              obtain ⟨hi, h⟩ := ift h
              obtain ⟨hi, h⟩ := ift h
              obtain ⟨hi, h⟩ := ift h
              exact Fr.tr (Fr.w rfl trivial (Fr.w rfl trivial (Fr.w rfl trivial (Fr.w rfl trivial Fr.rf)))) (Q_X7_sets_262 hk38 _ _ _ _ h)
          · replace h := ifn c h
            obtain ⟨hi, h⟩ := ift h
            exact Fr.tr (Fr.w rfl trivial (Fr.w rfl trivial Fr.rf)) (Q_X7_sets_262 hk38 _ _ _ _ h)
        · replace h := ifn c h
          exact Fr.tr Fr.rf (Q_X7_sets_262 hk38 _ _ _ _ h)
theorem Q_X7_sets_17 {mm : Mi} : ∀ (n : Nat) (x1 : Int) (x2 : Int) (x3 : Int) (μ : Mi), B_X7_sets_17 n x1 x2 x3 μ = some mm → Fr W_X7_sets none μ mm := by
  intro n
  induction n with
  | zero =>
    intro x1 x2 x3 μ h
    exact nope h
  | succ n hk17 =>
    intro x1 x2 x3 μ h
    replace h : F_X7_sets_17 (B_X7_sets_17 n) x1 x2 x3 μ = some mm := h
    unfold F_X7_sets_17 at h
    by_cases c : 96 < (w32 x3)
    · replace h := ifp c h
      exact Fr.tr Fr.rf (Q_X7_sets_38 FU _ _ _ _ h)
    · replace h := ifn c h
      obtain ⟨hi, h⟩ := ift h
      exact Fr.tr (Fr.w rfl trivial Fr.rf) (hk17 _ _ _ _ h)
theorem fr_X7_sets {x1 : Int} {x2 : Int} {μ : Mi} {mm : Mi} (h : D_X7_sets x1 x2 μ = some mm) : Fr W_X7_sets none μ mm := by
  unfold D_X7_sets at h
  exact Fr.tr (Fr.w rfl trivial (Fr.w rfl trivial (Fr.w rfl trivial Fr.rf))) (Q_X7_sets_17 FU _ _ _ _ h)
def W_X7_goes : List (Nat × Nat) := [(7, 44)]
theorem Q_X7_goes_398 {r : Int} {mm : Mi} (s0 : Int) (s1 : Int) (s2 : Int) (s3 : Int) (s4 : Int) (μ : Mi) (h : B_X7_goes_398 s0 s1 s2 s3 s4 μ = some (r, mm)) : Fr W_X7_goes none μ mm := by
  unfold B_X7_goes_398 at h
  obtain ⟨r1, h1, h⟩ := bp_some h
  exact frE h Fr.rf
theorem Q_X7_goes_376 {r : Int} {mm : Mi} (x4 : Int) (x5 : Int) (x6 : Int) (x9 : Int) (x10 : Int) (μ : Mi) (h : B_X7_goes_376 x4 x5 x6 x9 x10 μ = some (r, mm)) : Fr W_X7_goes none μ mm := by
  unfold B_X7_goes_376 at h
  by_cases c : (w32 x10) = 0
  · replace h := ifp c h
    exact Fr.tr Fr.rf (Q_X7_goes_398 _ _ _ _ _ _ h)
  · replace h := ifn c h
    exact Fr.tr Fr.rf (Q_X7_goes_398 _ _ _ _ _ _ h)
theorem Q_X7_goes_368 {r : Int} {mm : Mi} (x4 : Int) (x5 : Int) (x6 : Int) (x9 : Int) (x10 : Int) (μ : Mi) (h : B_X7_goes_368 x4 x5 x6 x9 x10 μ = some (r, mm)) : Fr W_X7_goes none μ mm := by
  unfold B_X7_goes_368 at h
  by_cases c : ¬ (w32 x6) = (-1)
  · replace h := ifp c h
    exact Fr.tr Fr.rf (Q_X7_goes_376 _ _ _ _ _ _ h)
  · replace h := ifn c h
    exact frE h Fr.rf
theorem Q_X7_goes_302 {r : Int} {mm : Mi} (x1 : Int) (x4 : Int) (x5 : Int) (x6 : Int) (x7 : Int) (x9 : Int) (s0 : Int) (μ : Mi) (h : B_X7_goes_302 x1 x4 x5 x6 x7 x9 s0 μ = some (r, mm)) : Fr W_X7_goes none μ mm := by
  unfold B_X7_goes_302 at h
  obtain ⟨hi, h⟩ := ift h
  obtain ⟨hi, h⟩ := ift h
  by_cases c : (w32 (rd μ 50 false (ix x9))) = (w32 (rd μ 50 false (ix x7)))
  · replace h := ifp c h
    exact Fr.tr Fr.rf (Q_X7_goes_376 _ _ _ _ _ _ h)
  · replace h := ifn c h
    obtain ⟨hi, h⟩ := ift h
    obtain ⟨r1, h1, h⟩ := bp_some h
    by_cases c : (w32 r1) = (-1)
    · replace h := ifp c h
      exact Fr.tr Fr.rf (Q_X7_goes_368 _ _ _ _ _ _ h)
    · replace h := ifn c h
      obtain ⟨hi, h⟩ := ift h
      obtain ⟨r2, h2, h⟩ := bp_some h
      exact Fr.tr Fr.rf (Q_X7_goes_368 _ _ _ _ _ _ h)
theorem Q_X7_goes_301 {r : Int} {mm : Mi} (x1 : Int) (x4 : Int) (x5 : Int) (x6 : Int) (x7 : Int) (x9 : Int) (μ : Mi) (h : B_X7_goes_301 x1 x4 x5 x6 x7 x9 μ = some (r, mm)) : Fr W_X7_goes none μ mm := by
  unfold B_X7_goes_301 at h
  exact Fr.tr Fr.rf (Q_X7_goes_302 _ _ _ _ _ _ _ _ h)
theorem Q_X7_goes_265 {r : Int} {mm : Mi} {k206 : (Int → Int → Int → Int → Int → Int → Int → Mi → Option (Int × Mi))} (hk206 : ∀ (x1 : Int) (x4 : Int) (x5 : Int) (x6 : Int) (x7 : Int) (x9 : Int) (x10 : Int) (m : Mi), k206 x1 x4 x5 x6 x7 x9 x10 m = some (r, mm) → Fr W_X7_goes none m mm) (x1 : Int) (x4 : Int) (x5 : Int) (x6 : Int) (x7 : Int) (x9 : Int) (x10 : Int) (μ : Mi) (h : B_X7_goes_265 k206 x1 x4 x5 x6 x7 x9 x10 μ = some (r, mm)) : Fr W_X7_goes none μ mm := by
  unfold B_X7_goes_265 at h
  exact Fr.tr Fr.rf (hk206 _ _ _ _ _ _ _ _ h)
theorem Q_X7_goes_251 {r : Int} {mm : Mi} {k206 : (Int → Int → Int → Int → Int → Int → Int → Mi → Option (Int × Mi))} (hk206 : ∀ (x1 : Int) (x4 : Int) (x5 : Int) (x6 : Int) (x7 : Int) (x9 : Int) (x10 : Int) (m : Mi), k206 x1 x4 x5 x6 x7 x9 x10 m = some (r, mm) → Fr W_X7_goes none m mm) (x1 : Int) (x4 : Int) (x5 : Int) (x6 : Int) (x7 : Int) (x9 : Int) (x10 : Int) (s0 : Int) (μ : Mi) (h : B_X7_goes_251 k206 x1 x4 x5 x6 x7 x9 x10 s0 μ = some (r, mm)) : Fr W_X7_goes none μ mm := by
  unfold B_X7_goes_251 at h
  obtain ⟨hi, h⟩ := ift h
  by_cases c : (w32 (rd μ 54 false (ix (rd μ 7 false 36)))) ≤ (w32 s0)
  · replace h := ifp c h
    exact Fr.tr Fr.rf (Q_X7_goes_265 hk206 _ _ _ _ _ _ _ _ h)
  · replace h := ifn c h
    exact frE h Fr.rf
theorem Q_X7_goes_206 {r : Int} {mm : Mi} : ∀ (n : Nat) (x1 : Int) (x4 : Int) (x5 : Int) (x6 : Int) (x7 : Int) (x9 : Int) (x10 : Int) (μ : Mi), B_X7_goes_206 n x1 x4 x5 x6 x7 x9 x10 μ = some (r, mm) → Fr W_X7_goes none μ mm := by
  intro n
  induction n with
  | zero =>
    intro x1 x4 x5 x6 x7 x9 x10 μ h
    exact nope h
  | succ n hk206 =>
    intro x1 x4 x5 x6 x7 x9 x10 μ h
    replace h : F_X7_goes_206 (B_X7_goes_206 n) x1 x4 x5 x6 x7 x9 x10 μ = some (r, mm) := h
    unfold F_X7_goes_206 at h
    by_cases c : (w32 (rd μ 7 false 44)) < (w32 ((24 * x10) + 8))
    · replace h := ifp c h
      by_cases c : ¬ (w32 (idiv (rd μ 7 false 44) 24)) = (w32 (idiv x1 24))
      · replace h := ifp c h
        exact Fr.tr Fr.rf (Q_X7_goes_301 _ _ _ _ _ _ _ h)
      · replace h := ifn c h
        by_cases c : 8 ≤ (w32 (irem (rd μ 7 false 44) 24))
        · replace h := ifp c h
          exact Fr.tr Fr.rf (Q_X7_goes_301 _ _ _ _ _ _ _ h)
        · replace h := ifn c h
          exact Fr.tr Fr.rf (Q_X7_goes_302 _ _ _ _ _ _ _ _ h)
    · replace h := ifn c h
      by_cases c : (w32 x1) < (w32 ((24 * x10) + 8))
      · replace h := ifp c h
        by_cases c : ¬ (w32 x10) = (w32 (idiv x1 24))
        · replace h := ifp c h
          exact Fr.tr Fr.rf (Q_X7_goes_251 hk206 _ _ _ _ _ _ _ _ _ h)
        · replace h := ifn c h
          exact Fr.tr Fr.rf (Q_X7_goes_251 hk206 _ _ _ _ _ _ _ _ _ h)
      · replace h := ifn c h
        exact Fr.tr Fr.rf (Q_X7_goes_265 hk206 _ _ _ _ _ _ _ _ h)
theorem Q_X7_goes_200 {r : Int} {mm : Mi} (x1 : Int) (x4 : Int) (x5 : Int) (x6 : Int) (x7 : Int) (x9 : Int) (μ : Mi) (h : B_X7_goes_200 x1 x4 x5 x6 x7 x9 μ = some (r, mm)) : Fr W_X7_goes none μ mm := by
  unfold B_X7_goes_200 at h
  exact Fr.tr Fr.rf (Q_X7_goes_206 FU _ _ _ _ _ _ _ _ h)
theorem Q_X7_goes_149 {r : Int} {mm : Mi} : ∀ (n : Nat) (x1 : Int) (x4 : Int) (x5 : Int) (x6 : Int) (x7 : Int) (x8 : Int) (x9 : Int) (x10 : Int) (μ : Mi), B_X7_goes_149 n x1 x4 x5 x6 x7 x8 x9 x10 μ = some (r, mm) → Fr W_X7_goes none μ mm := by
  intro n
  induction n with
  | zero =>
    intro x1 x4 x5 x6 x7 x8 x9 x10 μ h
    exact nope h
  | succ n hk149 =>
    intro x1 x4 x5 x6 x7 x8 x9 x10 μ h
    replace h : F_X7_goes_149 (B_X7_goes_149 n) x1 x4 x5 x6 x7 x8 x9 x10 μ = some (r, mm) := h
    unfold F_X7_goes_149 at h
    by_cases c : (w32 (rd μ 7 false 44)) ≤ (w32 x10)
    · replace h := ifp c h
      by_cases c : (w32 x8) = 0
      · replace h := ifp c h
        exact Fr.tr Fr.rf (Q_X7_goes_200 _ _ _ _ _ _ _ h)
      · replace h := ifn c h
        by_cases c : 8 ≤ (w32 (irem x1 24))
        · replace h := ifp c h
          exact Fr.tr Fr.rf (Q_X7_goes_200 _ _ _ _ _ _ _ h)
        · replace h := ifn c h
          by_cases c : 4 ≤ (w32 x4)
          · replace h := ifp c h
            exact Fr.tr Fr.rf (Q_X7_goes_200 _ _ _ _ _ _ _ h)
          · replace h := ifn c h
            exact Fr.tr Fr.rf (Q_X7_goes_200 _ _ _ _ _ _ _ h)
    · replace h := ifn c h
      obtain ⟨hi, h⟩ := ift h
      by_cases c : (w32 (rd μ 66 false (ix x10))) = (-1)
      · replace h := ifp c h
        exact Fr.tr Fr.rf (hk149 _ _ _ _ _ _ _ _ _ h)
      · replace h := ifn c h
        exact frE h Fr.rf
theorem Q_X7_goes_142 {r : Int} {mm : Mi} (x1 : Int) (x4 : Int) (x5 : Int) (x6 : Int) (x7 : Int) (x8 : Int) (s0 : Int) (μ : Mi) (h : B_X7_goes_142 x1 x4 x5 x6 x7 x8 s0 μ = some (r, mm)) : Fr W_X7_goes none μ mm := by
  unfold B_X7_goes_142 at h
  exact Fr.tr Fr.rf (Q_X7_goes_149 FU _ _ _ _ _ _ _ _ _ h)
theorem Q_X7_goes_105 {r : Int} {mm : Mi} (x1 : Int) (x3 : Int) (x4 : Int) (x5 : Int) (x6 : Int) (x7 : Int) (x8 : Int) (s0 : Int) (μ : Mi) (h : B_X7_goes_105 x1 x3 x4 x5 x6 x7 x8 s0 μ = some (r, mm)) : Fr W_X7_goes none μ mm := by
  unfold B_X7_goes_105 at h
  obtain ⟨hi, h⟩ := ift h
  by_cases c : (w32 s0) ≤ (w32 (rd μ 55 false (ix (rd μ 7 false 36))))
  · replace h := ifp c h
    by_cases c : (w32 x8) = 0
    · replace h := ifp c h
      obtain ⟨r1, h1, h⟩ := bp_some h
      exact Fr.tr (Fr.w rfl trivial Fr.rf) (Q_X7_goes_142 _ _ _ _ _ _ _ _ h)
    · replace h := ifn c h
      exact Fr.tr (Fr.w rfl trivial Fr.rf) (Q_X7_goes_142 _ _ _ _ _ _ _ _ h)
  · replace h := ifn c h
    exact frE h (Fr.w rfl trivial Fr.rf)
theorem Q_X7_goes_85 {r : Int} {mm : Mi} (x1 : Int) (x3 : Int) (x4 : Int) (x5 : Int) (x6 : Int) (x7 : Int) (x8 : Int) (μ : Mi) (h : B_X7_goes_85 x1 x3 x4 x5 x6 x7 x8 μ = some (r, mm)) : Fr W_X7_goes none μ mm := by
  unfold B_X7_goes_85 at h
  by_cases c : (w32 x8) = 0
  · replace h := ifp c h
    obtain ⟨r1, h1, h⟩ := bp_some h
    exact Fr.tr Fr.rf (Q_X7_goes_105 _ _ _ _ _ _ _ _ _ h)
  · replace h := ifn c h
    exact Fr.tr Fr.rf (Q_X7_goes_105 _ _ _ _ _ _ _ _ _ h)
theorem Q_X7_goes_80 {r : Int} {mm : Mi} (x1 : Int) (x3 : Int) (x4 : Int) (x5 : Int) (x6 : Int) (x7 : Int) (x8 : Int) (s0 : Int) (s1 : Int) (μ : Mi) (h : B_X7_goes_80 x1 x3 x4 x5 x6 x7 x8 s0 s1 μ = some (r, mm)) : Fr W_X7_goes none μ mm := by
  unfold B_X7_goes_80 at h
  by_cases c : (w32 s1) = (w32 s0)
  · replace h := ifp c h
    exact Fr.tr Fr.rf (Q_X7_goes_85 _ _ _ _ _ _ _ _ h)
  · replace h := ifn c h
    exact frE h Fr.rf
theorem Q_X7_goes_38 {r : Int} {mm : Mi} (x1 : Int) (x3 : Int) (x4 : Int) (x5 : Int) (x6 : Int) (x7 : Int) (s0 : Int) (μ : Mi) (h : B_X7_goes_38 x1 x3 x4 x5 x6 x7 s0 μ = some (r, mm)) : Fr W_X7_goes none μ mm := by
  unfold B_X7_goes_38 at h
  by_cases c : ¬ (w32 s0) = 0
  · replace h := ifp c h
    exact Fr.tr Fr.rf (Q_X7_goes_85 _ _ _ _ _ _ _ _ h)
  · replace h := ifn c h
    obtain ⟨r1, h1, h⟩ := bp_some h
    by_cases c : ¬ (w32 r1) = (w32 x7)
    · replace h := ifp c h
      exact frE h Fr.rf
    · replace h := ifn c h
      obtain ⟨r2, h2, h⟩ := bp_some h
      obtain ⟨r3, h3, h⟩ := bp_some h
      by_cases c : ¬ (w32 r3) = 1
      · replace h := ifp c h
        exact Fr.tr Fr.rf (Q_X7_goes_80 _ _ _ _ _ _ _ _ _ _ h)
      · replace h := ifn c h
        exact Fr.tr Fr.rf (Q_X7_goes_80 _ _ _ _ _ _ _ _ _ _ h)
theorem fr_X7_goes {x1 : Int} {x2 : Int} {x3 : Int} {μ : Mi} {r : Int} {mm : Mi} (h : D_X7_goes x1 x2 x3 μ = some (r, mm)) : Fr W_X7_goes none μ mm := by
  unfold D_X7_goes at h
  by_cases c : ¬ (w32 x3) = (-1)
  · replace h := ifp c h
    exact Fr.tr Fr.rf (Q_X7_goes_38 _ _ _ _ _ _ _ _ h)
  · replace h := ifn c h
    exact Fr.tr Fr.rf (Q_X7_goes_38 _ _ _ _ _ _ _ _ h)
def W_X7_finds : List (Nat × Nat) := [(7, 44), (72, 0)]
theorem Q_X7_finds_204 {r : Int} {mm : Mi} {k164 : (Int → Mi → Option (Int × Mi))} (hk164 : ∀ (x2 : Int) (m : Mi), k164 x2 m = some (r, mm) → Fr W_X7_finds none m mm) (x2 : Int) (μ : Mi) (h : B_X7_finds_204 k164 x2 μ = some (r, mm)) : Fr W_X7_finds none μ mm := by
  unfold B_X7_finds_204 at h
  exact Fr.tr Fr.rf (hk164 _ _ h)
theorem Q_X7_finds_164 {r : Int} {mm : Mi} : ∀ (n : Nat) (x2 : Int) (μ : Mi), B_X7_finds_164 n x2 μ = some (r, mm) → Fr W_X7_finds none μ mm := by
  intro n
  induction n with
  | zero =>
    intro x2 μ h
    exact nope h
  | succ n hk164 =>
    intro x2 μ h
    replace h : F_X7_finds_164 (B_X7_finds_164 n) x2 μ = some (r, mm) := h
    unfold F_X7_finds_164 at h
    by_cases c : 1120 ≤ (w32 x2)
    · replace h := ifp c h
      exact frE h Fr.rf
    · replace h := ifn c h
      obtain ⟨hi, h⟩ := ift h
      obtain ⟨hi, h⟩ := ift h
      by_cases c : (w32 (rd μ 72 false (ix (((rd μ 55 false (ix (rd μ 7 false 36))) * 1120) + x2)))) = 0
      · replace h := ifp c h
        exact Fr.tr Fr.rf (Q_X7_finds_204 hk164 _ _ h)
      · replace h := ifn c h
        by_cases c : (w32 (D_X7_ends x2 μ)) = 0
        · replace h := ifp c h
          exact Fr.tr Fr.rf (Q_X7_finds_204 hk164 _ _ h)
        · replace h := ifn c h
          exact frE h Fr.rf
theorem Q_X7_finds_150 {r : Int} {mm : Mi} {k59 : (Int → Mi → Option (Int × Mi))} {k74 : (Int → Int → Mi → Option (Int × Mi))} (hk59 : ∀ (x2 : Int) (m : Mi), k59 x2 m = some (r, mm) → Fr W_X7_finds none m mm) (hk74 : ∀ (x2 : Int) (x3 : Int) (m : Mi), k74 x2 x3 m = some (r, mm) → Fr W_X7_finds none m mm) (x2 : Int) (x3 : Int) (μ : Mi) (h : B_X7_finds_150 k59 k74 x2 x3 μ = some (r, mm)) : Fr W_X7_finds none μ mm := by
  unfold B_X7_finds_150 at h
  exact Fr.tr Fr.rf (hk74 _ _ _ h)
theorem Q_X7_finds_144 {r : Int} {mm : Mi} {k59 : (Int → Mi → Option (Int × Mi))} {k74 : (Int → Int → Mi → Option (Int × Mi))} {k102 : (Int → Int → Int → Mi → Option (Int × Mi))} (hk59 : ∀ (x2 : Int) (m : Mi), k59 x2 m = some (r, mm) → Fr W_X7_finds none m mm) (hk74 : ∀ (x2 : Int) (x3 : Int) (m : Mi), k74 x2 x3 m = some (r, mm) → Fr W_X7_finds none m mm) (hk102 : ∀ (x2 : Int) (x3 : Int) (x4 : Int) (m : Mi), k102 x2 x3 x4 m = some (r, mm) → Fr W_X7_finds none m mm) (x2 : Int) (x3 : Int) (x4 : Int) (μ : Mi) (h : B_X7_finds_144 k59 k74 k102 x2 x3 x4 μ = some (r, mm)) : Fr W_X7_finds none μ mm := by
  unfold B_X7_finds_144 at h
  exact Fr.tr Fr.rf (hk102 _ _ _ _ h)
theorem Q_X7_finds_102 {r : Int} {mm : Mi} {k59 : (Int → Mi → Option (Int × Mi))} {k74 : (Int → Int → Mi → Option (Int × Mi))} (hk59 : ∀ (x2 : Int) (m : Mi), k59 x2 m = some (r, mm) → Fr W_X7_finds none m mm) (hk74 : ∀ (x2 : Int) (x3 : Int) (m : Mi), k74 x2 x3 m = some (r, mm) → Fr W_X7_finds none m mm) : ∀ (n : Nat) (x2 : Int) (x3 : Int) (x4 : Int) (μ : Mi), B_X7_finds_102 k59 k74 n x2 x3 x4 μ = some (r, mm) → Fr W_X7_finds none μ mm := by
  intro n
  induction n with
  | zero =>
    intro x2 x3 x4 μ h
    exact nope h
  | succ n hk102 =>
    intro x2 x3 x4 μ h
    replace h : F_X7_finds_102 k59 k74 (B_X7_finds_102 k59 k74 n) x2 x3 x4 μ = some (r, mm) := h
    unfold F_X7_finds_102 at h
    by_cases c : (w32 (rd μ 7 false 20)) ≤ (w32 x4)
    · replace h := ifp c h
      exact Fr.tr Fr.rf (Q_X7_finds_150 hk59 hk74 _ _ _ h)
    · replace h := ifn c h
      obtain ⟨r1, m1, h1, h⟩ := bd_some h
      by_cases c : (w32 r1) = (-1)
      · replace h := ifp c h
        exact Fr.tr (Fr.tr Fr.rf (Fr.mono rfl (Or.inl rfl) (fr_X7_goes h1))) (Q_X7_finds_144 hk59 hk74 hk102 _ _ _ _ h)
      · replace h := ifn c h
        obtain ⟨hi, h⟩ := ift h
        exact Fr.tr (Fr.w rfl trivial (Fr.tr Fr.rf (Fr.mono rfl (Or.inl rfl) (fr_X7_goes h1)))) (Q_X7_finds_144 hk59 hk74 hk102 _ _ _ _ h)
theorem Q_X7_finds_74 {r : Int} {mm : Mi} {k59 : (Int → Mi → Option (Int × Mi))} (hk59 : ∀ (x2 : Int) (m : Mi), k59 x2 m = some (r, mm) → Fr W_X7_finds none m mm) : ∀ (n : Nat) (x2 : Int) (x3 : Int) (μ : Mi), B_X7_finds_74 k59 n x2 x3 μ = some (r, mm) → Fr W_X7_finds none μ mm := by
  intro n
  induction n with
  | zero =>
    intro x2 x3 μ h
    exact nope h
  | succ n hk74 =>
    intro x2 x3 μ h
    replace h : F_X7_finds_74 k59 (B_X7_finds_74 k59 n) x2 x3 μ = some (r, mm) := h
    unfold F_X7_finds_74 at h
    by_cases c : 1120 ≤ (w32 x3)
    · replace h := ifp c h
      exact Fr.tr Fr.rf (hk59 _ _ h)
    · replace h := ifn c h
      obtain ⟨hi, h⟩ := ift h
      by_cases c : ¬ (w32 (rd μ 72 false (ix ((x2 * 1120) + x3)))) = 0
      · replace h := ifp c h
        exact Fr.tr Fr.rf (Q_X7_finds_102 hk59 hk74 FU _ _ _ _ h)
      · replace h := ifn c h
        exact Fr.tr Fr.rf (Q_X7_finds_150 hk59 hk74 _ _ _ h)
theorem Q_X7_finds_59 {r : Int} {mm : Mi} : ∀ (n : Nat) (x2 : Int) (μ : Mi), B_X7_finds_59 n x2 μ = some (r, mm) → Fr W_X7_finds none μ mm := by
  intro n
  induction n with
  | zero =>
    intro x2 μ h
    exact nope h
  | succ n hk59 =>
    intro x2 μ h
    replace h : F_X7_finds_59 (B_X7_finds_59 n) x2 μ = some (r, mm) := h
    unfold F_X7_finds_59 at h
    obtain ⟨hi, h⟩ := ift h
    by_cases c : (w32 (rd μ 55 false (ix (rd μ 7 false 36)))) ≤ (w32 x2)
    · replace h := ifp c h
      exact Fr.tr Fr.rf (Q_X7_finds_164 FU _ _ h)
    · replace h := ifn c h
      exact Fr.tr Fr.rf (Q_X7_finds_74 hk59 FU _ _ _ h)
theorem Q_X7_finds_2 {r : Int} {mm : Mi} : ∀ (n : Nat) (x1 : Int) (μ : Mi), B_X7_finds_2 n x1 μ = some (r, mm) → Fr W_X7_finds none μ mm := by
  intro n
  induction n with
  | zero =>
    intro x1 μ h
    exact nope h
  | succ n hk2 =>
    intro x1 μ h
    replace h : F_X7_finds_2 (B_X7_finds_2 n) x1 μ = some (r, mm) := h
    unfold F_X7_finds_2 at h
    obtain ⟨hi, h⟩ := ift h
    by_cases c : (w32 ((((rd μ 55 false (ix (rd μ 7 false 36))) * 1120) + 1120) - 1)) < (w32 x1)
    · replace h := ifp c h
      obtain ⟨r1, h1, h⟩ := bp_some h
      by_cases c : ¬ (w32 r1) = (-1)
      · replace h := ifp c h
        obtain ⟨hi, h⟩ := ift h
        exact Fr.tr (Fr.w rfl trivial Fr.rf) (Q_X7_finds_59 FU _ _ h)
      · replace h := ifn c h
        exact frE h Fr.rf
    · replace h := ifn c h
      obtain ⟨hi, h⟩ := ift h
      exact Fr.tr (Fr.w rfl trivial Fr.rf) (hk2 _ _ h)
theorem fr_X7_finds {μ : Mi} {r : Int} {mm : Mi} (h : D_X7_finds μ = some (r, mm)) : Fr W_X7_finds none μ mm := by
  unfold D_X7_finds at h
  exact Fr.tr Fr.rf (Q_X7_finds_2 FU _ _ h)
def W_X7_counts : List (Nat × Nat) := [(7, 44), (70, 0), (72, 0)]
theorem Q_X7_counts_185 {r : Int} {mm : Mi} {k19 : (Int → Mi → Option (Int × Mi))} {k25 : (Int → Int → Mi → Option (Int × Mi))} (hk19 : ∀ (x1 : Int) (m : Mi), k19 x1 m = some (r, mm) → Fr W_X7_counts none m mm) (hk25 : ∀ (x1 : Int) (x2 : Int) (m : Mi), k25 x1 x2 m = some (r, mm) → Fr W_X7_counts none m mm) (x1 : Int) (x2 : Int) (μ : Mi) (h : B_X7_counts_185 k19 k25 x1 x2 μ = some (r, mm)) : Fr W_X7_counts none μ mm := by
  unfold B_X7_counts_185 at h
  exact Fr.tr Fr.rf (hk25 _ _ _ h)
theorem Q_X7_counts_179 {r : Int} {mm : Mi} {k19 : (Int → Mi → Option (Int × Mi))} {k25 : (Int → Int → Mi → Option (Int × Mi))} {k97 : (Int → Int → Int → Int → Mi → Option (Int × Mi))} (hk19 : ∀ (x1 : Int) (m : Mi), k19 x1 m = some (r, mm) → Fr W_X7_counts none m mm) (hk25 : ∀ (x1 : Int) (x2 : Int) (m : Mi), k25 x1 x2 m = some (r, mm) → Fr W_X7_counts none m mm) (hk97 : ∀ (x1 : Int) (x2 : Int) (x3 : Int) (x4 : Int) (m : Mi), k97 x1 x2 x3 x4 m = some (r, mm) → Fr W_X7_counts none m mm) (x1 : Int) (x2 : Int) (x3 : Int) (x4 : Int) (μ : Mi) (h : B_X7_counts_179 k19 k25 k97 x1 x2 x3 x4 μ = some (r, mm)) : Fr W_X7_counts none μ mm := by
  unfold B_X7_counts_179 at h
  exact Fr.tr Fr.rf (hk97 _ _ _ _ _ h)
theorem Q_X7_counts_178 {r : Int} {mm : Mi} {k19 : (Int → Mi → Option (Int × Mi))} {k25 : (Int → Int → Mi → Option (Int × Mi))} {k97 : (Int → Int → Int → Int → Mi → Option (Int × Mi))} (hk19 : ∀ (x1 : Int) (m : Mi), k19 x1 m = some (r, mm) → Fr W_X7_counts none m mm) (hk25 : ∀ (x1 : Int) (x2 : Int) (m : Mi), k25 x1 x2 m = some (r, mm) → Fr W_X7_counts none m mm) (hk97 : ∀ (x1 : Int) (x2 : Int) (x3 : Int) (x4 : Int) (m : Mi), k97 x1 x2 x3 x4 m = some (r, mm) → Fr W_X7_counts none m mm) (x1 : Int) (x2 : Int) (x3 : Int) (x4 : Int) (s0 : Int) (s1 : Int) (μ : Mi) (h : B_X7_counts_178 k19 k25 k97 x1 x2 x3 x4 s0 s1 μ = some (r, mm)) : Fr W_X7_counts none μ mm := by
  unfold B_X7_counts_178 at h
  obtain ⟨hi, h⟩ := ift h
  exact Fr.tr (Fr.w rfl trivial Fr.rf) (Q_X7_counts_179 hk19 hk25 hk97 _ _ _ _ _ h)
theorem Q_X7_counts_97 {r : Int} {mm : Mi} {k19 : (Int → Mi → Option (Int × Mi))} {k25 : (Int → Int → Mi → Option (Int × Mi))} (hk19 : ∀ (x1 : Int) (m : Mi), k19 x1 m = some (r, mm) → Fr W_X7_counts none m mm) (hk25 : ∀ (x1 : Int) (x2 : Int) (m : Mi), k25 x1 x2 m = some (r, mm) → Fr W_X7_counts none m mm) : ∀ (n : Nat) (x1 : Int) (x2 : Int) (x3 : Int) (x4 : Int) (μ : Mi), B_X7_counts_97 k19 k25 n x1 x2 x3 x4 μ = some (r, mm) → Fr W_X7_counts none μ mm := by
  intro n
  induction n with
  | zero =>
    intro x1 x2 x3 x4 μ h
    exact nope h
  | succ n hk97 =>
    intro x1 x2 x3 x4 μ h
    replace h : F_X7_counts_97 k19 k25 (B_X7_counts_97 k19 k25 n) x1 x2 x3 x4 μ = some (r, mm) := h
    unfold F_X7_counts_97 at h
    by_cases c : (w32 (rd μ 7 false 20)) ≤ (w32 x4)
    · replace h := ifp c h
      exact Fr.tr Fr.rf (Q_X7_counts_185 hk19 hk25 _ _ _ h)
    · replace h := ifn c h
      obtain ⟨r1, m1, h1, h⟩ := bd_some h
      by_cases c : ¬ (w32 r1) = (-1)
      · replace h := ifp c h
        obtain ⟨hi, h⟩ := ift h
        obtain ⟨hi, h⟩ := ift h
        by_cases c : (w32 (rd m1 70 false (ix x3))) ≤ (w32 (1000000000 - (rd m1 70 false (ix (((rd m1 7 false 44) * 1120) + r1)))))
        · replace h := ifp c h
          obtain ⟨hi, h⟩ := ift h
          exact Fr.tr (Fr.tr Fr.rf (Fr.mono rfl (Or.inl rfl) (fr_X7_goes h1))) (Q_X7_counts_178 hk19 hk25 hk97 _ _ _ _ _ _ _ h)
        · replace h := ifn c h
          exact Fr.tr (Fr.tr Fr.rf (Fr.mono rfl (Or.inl rfl) (fr_X7_goes h1))) (Q_X7_counts_178 hk19 hk25 hk97 _ _ _ _ _ _ _ h)
      · replace h := ifn c h
        exact Fr.tr (Fr.tr Fr.rf (Fr.mono rfl (Or.inl rfl) (fr_X7_goes h1))) (Q_X7_counts_179 hk19 hk25 hk97 _ _ _ _ _ h)
theorem Q_X7_counts_90 {r : Int} {mm : Mi} {k19 : (Int → Mi → Option (Int × Mi))} {k25 : (Int → Int → Mi → Option (Int × Mi))} (hk19 : ∀ (x1 : Int) (m : Mi), k19 x1 m = some (r, mm) → Fr W_X7_counts none m mm) (hk25 : ∀ (x1 : Int) (x2 : Int) (m : Mi), k25 x1 x2 m = some (r, mm) → Fr W_X7_counts none m mm) (x1 : Int) (x2 : Int) (s0 : Int) (s1 : Int) (μ : Mi) (h : B_X7_counts_90 k19 k25 x1 x2 s0 s1 μ = some (r, mm)) : Fr W_X7_counts none μ mm := by
  unfold B_X7_counts_90 at h
  obtain ⟨hi, h⟩ := ift h
  exact Fr.tr (Fr.w rfl trivial Fr.rf) (Q_X7_counts_185 hk19 hk25 _ _ _ h)
theorem Q_X7_counts_25 {r : Int} {mm : Mi} {k19 : (Int → Mi → Option (Int × Mi))} (hk19 : ∀ (x1 : Int) (m : Mi), k19 x1 m = some (r, mm) → Fr W_X7_counts none m mm) : ∀ (n : Nat) (x1 : Int) (x2 : Int) (μ : Mi), B_X7_counts_25 k19 n x1 x2 μ = some (r, mm) → Fr W_X7_counts none μ mm := by
  intro n
  induction n with
  | zero =>
    intro x1 x2 μ h
    exact nope h
  | succ n hk25 =>
    intro x1 x2 μ h
    replace h : F_X7_counts_25 k19 (B_X7_counts_25 k19 n) x1 x2 μ = some (r, mm) := h
    unfold F_X7_counts_25 at h
    by_cases c : 1120 ≤ (w32 x2)
    · replace h := ifp c h
      exact Fr.tr Fr.rf (hk19 _ _ h)
    · replace h := ifn c h
      obtain ⟨hi, h⟩ := ift h
      obtain ⟨hi, h⟩ := ift h
      by_cases c : ¬ (w32 (rd μ 72 false (ix ((x1 * 1120) + x2)))) = 0
      · replace h := ifp c h
        obtain ⟨hi, h⟩ := ift h
        by_cases c : ¬ (w32 x1) = (w32 (rd μ 55 false (ix (rd μ 7 false 36))))
        · replace h := ifp c h
          exact Fr.tr (Fr.w rfl trivial Fr.rf) (Q_X7_counts_97 hk19 hk25 FU _ _ _ _ _ h)
        · replace h := ifn c h
          by_cases c : (w32 (D_X7_ends x2 (wr μ 70 false (ix ((x1 * 1120) + x2)) 0))) = 0
          · replace h := ifp c h
            exact Fr.tr (Fr.w rfl trivial Fr.rf) (Q_X7_counts_90 hk19 hk25 _ _ _ _ _ h)
          · replace h := ifn c h
            exact Fr.tr (Fr.w rfl trivial Fr.rf) (Q_X7_counts_90 hk19 hk25 _ _ _ _ _ h)
      · replace h := ifn c h
        exact Fr.tr (Fr.w rfl trivial Fr.rf) (Q_X7_counts_185 hk19 hk25 _ _ _ h)
theorem Q_X7_counts_19 {r : Int} {mm : Mi} : ∀ (n : Nat) (x1 : Int) (μ : Mi), B_X7_counts_19 n x1 μ = some (r, mm) → Fr W_X7_counts none μ mm := by
  intro n
  induction n with
  | zero =>
    intro x1 μ h
    exact nope h
  | succ n hk19 =>
    intro x1 μ h
    replace h : F_X7_counts_19 (B_X7_counts_19 n) x1 μ = some (r, mm) := h
    unfold F_X7_counts_19 at h
    by_cases c : (w32 x1) < 0
    · replace h := ifp c h
      obtain ⟨r1, h1, h⟩ := bp_some h
      obtain ⟨hi, h⟩ := ift h
      exact frE h Fr.rf
    · replace h := ifn c h
      exact Fr.tr Fr.rf (Q_X7_counts_25 hk19 FU _ _ _ h)
theorem fr_X7_counts {μ : Mi} {r : Int} {mm : Mi} (h : D_X7_counts μ = some (r, mm)) : Fr W_X7_counts none μ mm := by
  unfold D_X7_counts at h
  obtain ⟨r1, m1, h1, h⟩ := bd_some h
  by_cases c : ¬ (w32 r1) = 0
  · replace h := ifp c h
    obtain ⟨hi, h⟩ := ift h
    exact Fr.tr (Fr.tr Fr.rf (Fr.mono rfl (Or.inl rfl) (fr_X7_finds h1))) (Q_X7_counts_19 FU _ _ h)
  · replace h := ifn c h
    exact frE h (Fr.tr Fr.rf (Fr.mono rfl (Or.inl rfl) (fr_X7_finds h1)))
def W_X7_ways : List (Nat × Nat) := [(7, 36), (7, 37), (7, 40), (7, 44), (65, 0), (66, 0), (67, 0), (68, 0), (69, 0), (70, 0), (72, 0)]
theorem fr_X7_ways {x1 : Int} {μ : Mi} {r : Int} {mm : Mi} (h : D_X7_ways x1 μ = some (r, mm)) : Fr W_X7_ways none μ mm := by
  unfold D_X7_ways at h
  by_cases c : ¬ (w32 (D_X7_isMan x1 μ)) = 0
  · replace h := ifp c h
    obtain ⟨m2, h2, h⟩ := bm_some h
    obtain ⟨r3, m3, h3, h⟩ := bd_some h
    exact frE h (Fr.tr (Fr.tr Fr.rf (Fr.mono rfl (Or.inl rfl) (fr_X7_sets h2))) (Fr.mono rfl (Or.inl rfl) (fr_X7_counts h3)))
  · replace h := ifn c h
    exact frE h Fr.rf
def W_X7_mayBits : List (Nat × Nat) := [(7, 36), (7, 37), (7, 40), (7, 44), (65, 0), (66, 0), (67, 0), (68, 0), (69, 0), (70, 0), (72, 0)]
theorem Q_X7_mayBits_199 {r : Int} {mm : Mi} {k80 : (Int → Int → Int → Mi → Option (Int × Mi))} (hk80 : ∀ (x2 : Int) (x3 : Int) (x4 : Int) (m : Mi), k80 x2 x3 x4 m = some (r, mm) → Fr W_X7_mayBits none m mm) (x2 : Int) (x3 : Int) (x4 : Int) (μ : Mi) (h : B_X7_mayBits_199 k80 x2 x3 x4 μ = some (r, mm)) : Fr W_X7_mayBits none μ mm := by
  unfold B_X7_mayBits_199 at h
  exact Fr.tr Fr.rf (hk80 _ _ _ _ h)
theorem Q_X7_mayBits_193 {r : Int} {mm : Mi} {k80 : (Int → Int → Int → Mi → Option (Int × Mi))} {k89 : (Int → Int → Int → Int → Mi → Option (Int × Mi))} (hk80 : ∀ (x2 : Int) (x3 : Int) (x4 : Int) (m : Mi), k80 x2 x3 x4 m = some (r, mm) → Fr W_X7_mayBits none m mm) (hk89 : ∀ (x2 : Int) (x3 : Int) (x4 : Int) (x5 : Int) (m : Mi), k89 x2 x3 x4 x5 m = some (r, mm) → Fr W_X7_mayBits none m mm) (x2 : Int) (x3 : Int) (x4 : Int) (x5 : Int) (μ : Mi) (h : B_X7_mayBits_193 k80 k89 x2 x3 x4 x5 μ = some (r, mm)) : Fr W_X7_mayBits none μ mm := by
  unfold B_X7_mayBits_193 at h
  exact Fr.tr Fr.rf (hk89 _ _ _ _ _ h)
theorem Q_X7_mayBits_187 {r : Int} {mm : Mi} {k80 : (Int → Int → Int → Mi → Option (Int × Mi))} {k89 : (Int → Int → Int → Int → Mi → Option (Int × Mi))} {k127 : (Int → Int → Int → Int → Int → Mi → Option (Int × Mi))} (hk80 : ∀ (x2 : Int) (x3 : Int) (x4 : Int) (m : Mi), k80 x2 x3 x4 m = some (r, mm) → Fr W_X7_mayBits none m mm) (hk89 : ∀ (x2 : Int) (x3 : Int) (x4 : Int) (x5 : Int) (m : Mi), k89 x2 x3 x4 x5 m = some (r, mm) → Fr W_X7_mayBits none m mm) (hk127 : ∀ (x2 : Int) (x3 : Int) (x4 : Int) (x5 : Int) (x6 : Int) (m : Mi), k127 x2 x3 x4 x5 x6 m = some (r, mm) → Fr W_X7_mayBits none m mm) (x2 : Int) (x3 : Int) (x4 : Int) (x5 : Int) (x6 : Int) (μ : Mi) (h : B_X7_mayBits_187 k80 k89 k127 x2 x3 x4 x5 x6 μ = some (r, mm)) : Fr W_X7_mayBits none μ mm := by
  unfold B_X7_mayBits_187 at h
  exact Fr.tr Fr.rf (hk127 _ _ _ _ _ _ h)
theorem Q_X7_mayBits_127 {r : Int} {mm : Mi} {k80 : (Int → Int → Int → Mi → Option (Int × Mi))} {k89 : (Int → Int → Int → Int → Mi → Option (Int × Mi))} (hk80 : ∀ (x2 : Int) (x3 : Int) (x4 : Int) (m : Mi), k80 x2 x3 x4 m = some (r, mm) → Fr W_X7_mayBits none m mm) (hk89 : ∀ (x2 : Int) (x3 : Int) (x4 : Int) (x5 : Int) (m : Mi), k89 x2 x3 x4 x5 m = some (r, mm) → Fr W_X7_mayBits none m mm) : ∀ (n : Nat) (x2 : Int) (x3 : Int) (x4 : Int) (x5 : Int) (x6 : Int) (μ : Mi), B_X7_mayBits_127 k80 k89 n x2 x3 x4 x5 x6 μ = some (r, mm) → Fr W_X7_mayBits none μ mm := by
  intro n
  induction n with
  | zero =>
    intro x2 x3 x4 x5 x6 μ h
    exact nope h
  | succ n hk127 =>
    intro x2 x3 x4 x5 x6 μ h
    replace h : F_X7_mayBits_127 k80 k89 (B_X7_mayBits_127 k80 k89 n) x2 x3 x4 x5 x6 μ = some (r, mm) := h
    unfold F_X7_mayBits_127 at h
    by_cases c : (w32 (rd μ 7 false 20)) ≤ (w32 x6)
    · replace h := ifp c h
      exact Fr.tr Fr.rf (Q_X7_mayBits_193 hk80 hk89 _ _ _ _ _ h)
    · replace h := ifn c h
      obtain ⟨r1, m1, h1, h⟩ := bd_some h
      by_cases c : (w32 r1) = (-1)
      · replace h := ifp c h
        exact Fr.tr (Fr.tr Fr.rf (Fr.mono rfl (Or.inl rfl) (fr_X7_goes h1))) (Q_X7_mayBits_187 hk80 hk89 hk127 _ _ _ _ _ _ h)
      · replace h := ifn c h
        by_cases c : (w32 (rd m1 7 false 44)) ≤ (w32 x2)
        · replace h := ifp c h
          exact Fr.tr (Fr.tr Fr.rf (Fr.mono rfl (Or.inl rfl) (fr_X7_goes h1))) (Q_X7_mayBits_187 hk80 hk89 hk127 _ _ _ _ _ _ h)
        · replace h := ifn c h
          obtain ⟨hi, h⟩ := ift h
          by_cases c : (w32 (rd m1 70 false (ix (((rd m1 7 false 44) * 1120) + r1)))) ≤ 0
          · replace h := ifp c h
            exact Fr.tr (Fr.tr Fr.rf (Fr.mono rfl (Or.inl rfl) (fr_X7_goes h1))) (Q_X7_mayBits_187 hk80 hk89 hk127 _ _ _ _ _ _ h)
          · replace h := ifn c h
            exact Fr.tr (Fr.tr Fr.rf (Fr.mono rfl (Or.inl rfl) (fr_X7_goes h1))) (Q_X7_mayBits_187 hk80 hk89 hk127 _ _ _ _ _ _ h)
theorem Q_X7_mayBits_89 {r : Int} {mm : Mi} {k80 : (Int → Int → Int → Mi → Option (Int × Mi))} (hk80 : ∀ (x2 : Int) (x3 : Int) (x4 : Int) (m : Mi), k80 x2 x3 x4 m = some (r, mm) → Fr W_X7_mayBits none m mm) : ∀ (n : Nat) (x2 : Int) (x3 : Int) (x4 : Int) (x5 : Int) (μ : Mi), B_X7_mayBits_89 k80 n x2 x3 x4 x5 μ = some (r, mm) → Fr W_X7_mayBits none μ mm := by
  intro n
  induction n with
  | zero =>
    intro x2 x3 x4 x5 μ h
    exact nope h
  | succ n hk89 =>
    intro x2 x3 x4 x5 μ h
    replace h : F_X7_mayBits_89 k80 (B_X7_mayBits_89 k80 n) x2 x3 x4 x5 μ = some (r, mm) := h
    unfold F_X7_mayBits_89 at h
    by_cases c : 1120 ≤ (w32 x5)
    · replace h := ifp c h
      exact Fr.tr Fr.rf (Q_X7_mayBits_199 hk80 _ _ _ _ h)
    · replace h := ifn c h
      by_cases c : 256 ≤ (w32 x3)
      · replace h := ifp c h
        exact Fr.tr Fr.rf (Q_X7_mayBits_199 hk80 _ _ _ _ h)
      · replace h := ifn c h
        obtain ⟨hi, h⟩ := ift h
        by_cases c : ¬ (w32 (rd μ 72 false (ix ((x4 * 1120) + x5)))) = 0
        · replace h := ifp c h
          exact Fr.tr Fr.rf (Q_X7_mayBits_127 hk80 hk89 FU _ _ _ _ _ _ h)
        · replace h := ifn c h
          exact Fr.tr Fr.rf (Q_X7_mayBits_193 hk80 hk89 _ _ _ _ _ h)
theorem Q_X7_mayBits_80 {r : Int} {mm : Mi} : ∀ (n : Nat) (x2 : Int) (x3 : Int) (x4 : Int) (μ : Mi), B_X7_mayBits_80 n x2 x3 x4 μ = some (r, mm) → Fr W_X7_mayBits none μ mm := by
  intro n
  induction n with
  | zero =>
    intro x2 x3 x4 μ h
    exact nope h
  | succ n hk80 =>
    intro x2 x3 x4 μ h
    replace h : F_X7_mayBits_80 (B_X7_mayBits_80 n) x2 x3 x4 μ = some (r, mm) := h
    unfold F_X7_mayBits_80 at h
    by_cases c : (w32 x2) ≤ (w32 x4)
    · replace h := ifp c h
      exact frE h Fr.rf
    · replace h := ifn c h
      exact Fr.tr Fr.rf (Q_X7_mayBits_89 hk80 FU _ _ _ _ _ h)
theorem Q_X7_mayBits_71 {r : Int} {mm : Mi} {k20 : (Int → Int → Int → Mi → Option (Int × Mi))} (hk20 : ∀ (x2 : Int) (x3 : Int) (x4 : Int) (m : Mi), k20 x2 x3 x4 m = some (r, mm) → Fr W_X7_mayBits none m mm) (x2 : Int) (x3 : Int) (x4 : Int) (μ : Mi) (h : B_X7_mayBits_71 k20 x2 x3 x4 μ = some (r, mm)) : Fr W_X7_mayBits none μ mm := by
  unfold B_X7_mayBits_71 at h
  exact Fr.tr Fr.rf (hk20 _ _ _ _ h)
theorem Q_X7_mayBits_20 {r : Int} {mm : Mi} : ∀ (n : Nat) (x2 : Int) (x3 : Int) (x4 : Int) (μ : Mi), B_X7_mayBits_20 n x2 x3 x4 μ = some (r, mm) → Fr W_X7_mayBits none μ mm := by
  intro n
  induction n with
  | zero =>
    intro x2 x3 x4 μ h
    exact nope h
  | succ n hk20 =>
    intro x2 x3 x4 μ h
    replace h : F_X7_mayBits_20 (B_X7_mayBits_20 n) x2 x3 x4 μ = some (r, mm) := h
    unfold F_X7_mayBits_20 at h
    by_cases c : 1120 ≤ (w32 x4)
    · replace h := ifp c h
      exact Fr.tr Fr.rf (Q_X7_mayBits_80 FU _ _ _ _ h)
    · replace h := ifn c h
      obtain ⟨hi, h⟩ := ift h
      by_cases c : (w32 (rd μ 72 false (ix ((x2 * 1120) + x4)))) = 0
      · replace h := ifp c h
        exact Fr.tr Fr.rf (Q_X7_mayBits_71 hk20 _ _ _ _ h)
      · replace h := ifn c h
        obtain ⟨hi, h⟩ := ift h
        by_cases c : (w32 (rd μ 70 false (ix ((x2 * 1120) + x4)))) ≤ 0
        · replace h := ifp c h
          exact Fr.tr Fr.rf (Q_X7_mayBits_71 hk20 _ _ _ _ h)
        · replace h := ifn c h
          exact Fr.tr Fr.rf (Q_X7_mayBits_71 hk20 _ _ _ _ h)
theorem fr_X7_mayBits {x1 : Int} {x2 : Int} {μ : Mi} {r : Int} {mm : Mi} (h : D_X7_mayBits x1 x2 μ = some (r, mm)) : Fr W_X7_mayBits none μ mm := by
  unfold D_X7_mayBits at h
  obtain ⟨m1, h1, h⟩ := bm_some h
  obtain ⟨r2, m2, h2, h⟩ := bd_some h
  by_cases c : ¬ (w32 r2) = 0
  · replace h := ifp c h
    exact Fr.tr (Fr.tr (Fr.tr Fr.rf (Fr.mono rfl (Or.inl rfl) (fr_X7_sets h1))) (Fr.mono rfl (Or.inl rfl) (fr_X7_counts h2))) (Q_X7_mayBits_20 FU _ _ _ _ h)
  · replace h := ifn c h
    exact frE h (Fr.tr (Fr.tr Fr.rf (Fr.mono rfl (Or.inl rfl) (fr_X7_sets h1))) (Fr.mono rfl (Or.inl rfl) (fr_X7_counts h2)))
def W_X7_may : List (Nat × Nat) := [(7, 36), (7, 37), (7, 40), (7, 44), (65, 0), (66, 0), (67, 0), (68, 0), (69, 0), (70, 0), (72, 0)]
theorem fr_X7_may {x1 : Int} {x2 : Int} {μ : Mi} {r : Int} {mm : Mi} (h : D_X7_may x1 x2 μ = some (r, mm)) : Fr W_X7_may none μ mm := by
  unfold D_X7_may at h
  by_cases c : (w32 (D_X7_isMan x1 μ)) = 0
  · replace h := ifp c h
    exact frE h Fr.rf
  · replace h := ifn c h
    obtain ⟨hi, h⟩ := ift h
    by_cases c : (w32 (D_X7_in x2 0 (rd μ 55 false (ix x1)))) = 0
    · replace h := ifp c h
      exact frE h Fr.rf
    · replace h := ifn c h
      obtain ⟨r3, m3, h3, h⟩ := bd_some h
      exact frE h (Fr.tr Fr.rf (Fr.mono rfl (Or.inl rfl) (fr_X7_mayBits h3)))
def W_X7_surely : List (Nat × Nat) := [(7, 36), (7, 37), (7, 40), (7, 44), (65, 0), (66, 0), (67, 0), (68, 0), (69, 0), (70, 0), (72, 0)]
theorem Q_X7_surely_51 {r : Int} {mm : Mi} : ∀ (n : Nat) (x3 : Int) (x4 : Int) (μ : Mi), B_X7_surely_51 n x3 x4 μ = some (r, mm) → Fr W_X7_surely none μ mm := by
  intro n
  induction n with
  | zero =>
    intro x3 x4 μ h
    exact nope h
  | succ n hk51 =>
    intro x3 x4 μ h
    replace h : F_X7_surely_51 (B_X7_surely_51 n) x3 x4 μ = some (r, mm) := h
    unfold F_X7_surely_51 at h
    by_cases c : (w32 (ishr x3 x4)) = 1
    · replace h := ifp c h
      exact frE h Fr.rf
    · replace h := ifn c h
      exact Fr.tr Fr.rf (hk51 _ _ _ h)
theorem fr_X7_surely {x1 : Int} {x2 : Int} {μ : Mi} {r : Int} {mm : Mi} (h : D_X7_surely x1 x2 μ = some (r, mm)) : Fr W_X7_surely none μ mm := by
  unfold D_X7_surely at h
  by_cases c : (w32 (D_X7_isMan x1 μ)) = 0
  · replace h := ifp c h
    exact frE h Fr.rf
  · replace h := ifn c h
    obtain ⟨hi, h⟩ := ift h
    by_cases c : ¬ (w32 (D_X7_in x2 0 (rd μ 55 false (ix x1)))) = 0
    · replace h := ifp c h
      obtain ⟨r3, m3, h3, h⟩ := bd_some h
      obtain ⟨r4, h4, h⟩ := bp_some h
      by_cases c : ¬ (w32 r4) = 1
      · replace h := ifp c h
        exact frE h (Fr.tr Fr.rf (Fr.mono rfl (Or.inl rfl) (fr_X7_mayBits h3)))
      · replace h := ifn c h
        by_cases c : ¬ (w32 r3) = 256
        · replace h := ifp c h
          exact Fr.tr (Fr.tr Fr.rf (Fr.mono rfl (Or.inl rfl) (fr_X7_mayBits h3))) (Q_X7_surely_51 FU _ _ _ h)
        · replace h := ifn c h
          exact frE h (Fr.tr Fr.rf (Fr.mono rfl (Or.inl rfl) (fr_X7_mayBits h3)))
    · replace h := ifn c h
      exact frE h Fr.rf
def W_X7_leasts : List (Nat × Nat) := [(7, 44), (71, 0)]
theorem Q_X7_leasts_211 {r : Int} {mm : Mi} {k10 : (Int → Int → Int → Mi → Option (Int × Mi))} {k17 : (Int → Int → Int → Int → Mi → Option (Int × Mi))} (hk10 : ∀ (x1 : Int) (x2 : Int) (x3 : Int) (m : Mi), k10 x1 x2 x3 m = some (r, mm) → Fr W_X7_leasts none m mm) (hk17 : ∀ (x1 : Int) (x2 : Int) (x3 : Int) (x4 : Int) (m : Mi), k17 x1 x2 x3 x4 m = some (r, mm) → Fr W_X7_leasts none m mm) (x1 : Int) (x2 : Int) (x3 : Int) (x4 : Int) (μ : Mi) (h : B_X7_leasts_211 k10 k17 x1 x2 x3 x4 μ = some (r, mm)) : Fr W_X7_leasts none μ mm := by
  unfold B_X7_leasts_211 at h
  exact Fr.tr Fr.rf (hk17 _ _ _ _ _ h)
theorem Q_X7_leasts_205 {r : Int} {mm : Mi} {k10 : (Int → Int → Int → Mi → Option (Int × Mi))} {k17 : (Int → Int → Int → Int → Mi → Option (Int × Mi))} {k95 : (Int → Int → Int → Int → Int → Int → Mi → Option (Int × Mi))} (hk10 : ∀ (x1 : Int) (x2 : Int) (x3 : Int) (m : Mi), k10 x1 x2 x3 m = some (r, mm) → Fr W_X7_leasts none m mm) (hk17 : ∀ (x1 : Int) (x2 : Int) (x3 : Int) (x4 : Int) (m : Mi), k17 x1 x2 x3 x4 m = some (r, mm) → Fr W_X7_leasts none m mm) (hk95 : ∀ (x1 : Int) (x2 : Int) (x3 : Int) (x4 : Int) (x5 : Int) (x6 : Int) (m : Mi), k95 x1 x2 x3 x4 x5 x6 m = some (r, mm) → Fr W_X7_leasts none m mm) (x1 : Int) (x2 : Int) (x3 : Int) (x4 : Int) (x5 : Int) (x6 : Int) (μ : Mi) (h : B_X7_leasts_205 k10 k17 k95 x1 x2 x3 x4 x5 x6 μ = some (r, mm)) : Fr W_X7_leasts none μ mm := by
  unfold B_X7_leasts_205 at h
  exact Fr.tr Fr.rf (hk95 _ _ _ _ _ _ _ h)
theorem Q_X7_leasts_204 {r : Int} {mm : Mi} {k10 : (Int → Int → Int → Mi → Option (Int × Mi))} {k17 : (Int → Int → Int → Int → Mi → Option (Int × Mi))} {k95 : (Int → Int → Int → Int → Int → Int → Mi → Option (Int × Mi))} (hk10 : ∀ (x1 : Int) (x2 : Int) (x3 : Int) (m : Mi), k10 x1 x2 x3 m = some (r, mm) → Fr W_X7_leasts none m mm) (hk17 : ∀ (x1 : Int) (x2 : Int) (x3 : Int) (x4 : Int) (m : Mi), k17 x1 x2 x3 x4 m = some (r, mm) → Fr W_X7_leasts none m mm) (hk95 : ∀ (x1 : Int) (x2 : Int) (x3 : Int) (x4 : Int) (x5 : Int) (x6 : Int) (m : Mi), k95 x1 x2 x3 x4 x5 x6 m = some (r, mm) → Fr W_X7_leasts none m mm) (x1 : Int) (x2 : Int) (x3 : Int) (x4 : Int) (x5 : Int) (x6 : Int) (s0 : Int) (s1 : Int) (μ : Mi) (h : B_X7_leasts_204 k10 k17 k95 x1 x2 x3 x4 x5 x6 s0 s1 μ = some (r, mm)) : Fr W_X7_leasts none μ mm := by
  unfold B_X7_leasts_204 at h
  obtain ⟨hi, h⟩ := ift h
  exact Fr.tr (Fr.w rfl trivial Fr.rf) (Q_X7_leasts_205 hk10 hk17 hk95 _ _ _ _ _ _ _ h)
theorem Q_X7_leasts_95 {r : Int} {mm : Mi} {k10 : (Int → Int → Int → Mi → Option (Int × Mi))} {k17 : (Int → Int → Int → Int → Mi → Option (Int × Mi))} (hk10 : ∀ (x1 : Int) (x2 : Int) (x3 : Int) (m : Mi), k10 x1 x2 x3 m = some (r, mm) → Fr W_X7_leasts none m mm) (hk17 : ∀ (x1 : Int) (x2 : Int) (x3 : Int) (x4 : Int) (m : Mi), k17 x1 x2 x3 x4 m = some (r, mm) → Fr W_X7_leasts none m mm) : ∀ (n : Nat) (x1 : Int) (x2 : Int) (x3 : Int) (x4 : Int) (x5 : Int) (x6 : Int) (μ : Mi), B_X7_leasts_95 k10 k17 n x1 x2 x3 x4 x5 x6 μ = some (r, mm) → Fr W_X7_leasts none μ mm := by
  intro n
  induction n with
  | zero =>
    intro x1 x2 x3 x4 x5 x6 μ h
    exact nope h
  | succ n hk95 =>
    intro x1 x2 x3 x4 x5 x6 μ h
    replace h : F_X7_leasts_95 k10 k17 (B_X7_leasts_95 k10 k17 n) x1 x2 x3 x4 x5 x6 μ = some (r, mm) := h
    unfold F_X7_leasts_95 at h
    by_cases c : (w32 (rd μ 7 false 20)) ≤ (w32 x6)
    · replace h := ifp c h
      exact Fr.tr Fr.rf (Q_X7_leasts_211 hk10 hk17 _ _ _ _ _ h)
    · replace h := ifn c h
      obtain ⟨r1, m1, h1, h⟩ := bd_some h
      by_cases c : (w32 r1) = (-1)
      · replace h := ifp c h
        exact Fr.tr (Fr.tr Fr.rf (Fr.mono rfl (Or.inl rfl) (fr_X7_goes h1))) (Q_X7_leasts_205 hk10 hk17 hk95 _ _ _ _ _ _ _ h)
      · replace h := ifn c h
        obtain ⟨hi, h⟩ := ift h
        by_cases c : ¬ (w32 (rd m1 71 false (ix (((rd m1 7 false 44) * 1120) + r1)))) = 1000000
        · replace h := ifp c h
          obtain ⟨hi, h⟩ := ift h
          obtain ⟨r2, h2, h⟩ := bp_some h
          obtain ⟨hi, h⟩ := ift h
          by_cases c : (w32 (rd m1 71 false (ix x5))) ≤ (w32 ((rd m1 71 false (ix (((rd m1 7 false 44) * 1120) + r1))) + (x2 * r2)))
          · replace h := ifp c h
            obtain ⟨hi, h⟩ := ift h
            exact Fr.tr (Fr.tr Fr.rf (Fr.mono rfl (Or.inl rfl) (fr_X7_goes h1))) (Q_X7_leasts_204 hk10 hk17 hk95 _ _ _ _ _ _ _ _ _ h)
          · replace h := ifn c h
            exact Fr.tr (Fr.tr Fr.rf (Fr.mono rfl (Or.inl rfl) (fr_X7_goes h1))) (Q_X7_leasts_204 hk10 hk17 hk95 _ _ _ _ _ _ _ _ _ h)
        · replace h := ifn c h
          exact Fr.tr (Fr.tr Fr.rf (Fr.mono rfl (Or.inl rfl) (fr_X7_goes h1))) (Q_X7_leasts_205 hk10 hk17 hk95 _ _ _ _ _ _ _ h)
theorem Q_X7_leasts_17 {r : Int} {mm : Mi} {k10 : (Int → Int → Int → Mi → Option (Int × Mi))} (hk10 : ∀ (x1 : Int) (x2 : Int) (x3 : Int) (m : Mi), k10 x1 x2 x3 m = some (r, mm) → Fr W_X7_leasts none m mm) : ∀ (n : Nat) (x1 : Int) (x2 : Int) (x3 : Int) (x4 : Int) (μ : Mi), B_X7_leasts_17 k10 n x1 x2 x3 x4 μ = some (r, mm) → Fr W_X7_leasts none μ mm := by
  intro n
  induction n with
  | zero =>
    intro x1 x2 x3 x4 μ h
    exact nope h
  | succ n hk17 =>
    intro x1 x2 x3 x4 μ h
    replace h : F_X7_leasts_17 k10 (B_X7_leasts_17 k10 n) x1 x2 x3 x4 μ = some (r, mm) := h
    unfold F_X7_leasts_17 at h
    by_cases c : 1120 ≤ (w32 x4)
    · replace h := ifp c h
      exact Fr.tr Fr.rf (hk10 _ _ _ _ h)
    · replace h := ifn c h
      obtain ⟨hi, h⟩ := ift h
      obtain ⟨hi, h⟩ := ift h
      by_cases c : (w32 (rd μ 72 false (ix ((x3 * 1120) + x4)))) = 0
      · replace h := ifp c h
        exact Fr.tr (Fr.w rfl trivial Fr.rf) (Q_X7_leasts_211 hk10 hk17 _ _ _ _ _ h)
      · replace h := ifn c h
        obtain ⟨hi, h⟩ := ift h
        by_cases c : ¬ (w32 (rd μ 70 false (ix ((x3 * 1120) + x4)))) = 0
        · replace h := ifp c h
          obtain ⟨hi, h⟩ := ift h
          by_cases c : ¬ (w32 x3) = (w32 (rd μ 55 false (ix (rd μ 7 false 36))))
          · replace h := ifp c h
            exact Fr.tr (Fr.w rfl trivial Fr.rf) (Q_X7_leasts_95 hk10 hk17 FU _ _ _ _ _ _ _ h)
          · replace h := ifn c h
            obtain ⟨hi, h⟩ := ift h
            exact Fr.tr (Fr.w rfl trivial (Fr.w rfl trivial Fr.rf)) (Q_X7_leasts_211 hk10 hk17 _ _ _ _ _ h)
        · replace h := ifn c h
          exact Fr.tr (Fr.w rfl trivial Fr.rf) (Q_X7_leasts_211 hk10 hk17 _ _ _ _ _ h)
theorem Q_X7_leasts_10 {r : Int} {mm : Mi} : ∀ (n : Nat) (x1 : Int) (x2 : Int) (x3 : Int) (μ : Mi), B_X7_leasts_10 n x1 x2 x3 μ = some (r, mm) → Fr W_X7_leasts none μ mm := by
  intro n
  induction n with
  | zero =>
    intro x1 x2 x3 μ h
    exact nope h
  | succ n hk10 =>
    intro x1 x2 x3 μ h
    replace h : F_X7_leasts_10 (B_X7_leasts_10 n) x1 x2 x3 μ = some (r, mm) := h
    unfold F_X7_leasts_10 at h
    by_cases c : (w32 x3) < 0
    · replace h := ifp c h
      obtain ⟨r1, h1, h⟩ := bp_some h
      obtain ⟨hi, h⟩ := ift h
      exact frE h Fr.rf
    · replace h := ifn c h
      exact Fr.tr Fr.rf (Q_X7_leasts_17 hk10 FU _ _ _ _ _ h)
theorem fr_X7_leasts {x1 : Int} {x2 : Int} {μ : Mi} {r : Int} {mm : Mi} (h : D_X7_leasts x1 x2 μ = some (r, mm)) : Fr W_X7_leasts none μ mm := by
  unfold D_X7_leasts at h
  obtain ⟨hi, h⟩ := ift h
  exact Fr.tr Fr.rf (Q_X7_leasts_10 FU _ _ _ _ h)
def W_X7_extreme : List (Nat × Nat) := [(7, 36), (7, 37), (7, 40), (7, 44), (65, 0), (66, 0), (67, 0), (68, 0), (69, 0), (70, 0), (71, 0), (72, 0)]
theorem Q_X7_extreme_58 {r : Int} {mm : Mi} (s0 : Int) (s1 : Int) (μ : Mi) (h : B_X7_extreme_58 s0 s1 μ = some (r, mm)) : Fr W_X7_extreme none μ mm := by
  unfold B_X7_extreme_58 at h
  obtain ⟨r1, m1, h1, h⟩ := bd_some h
  exact frE h (Fr.tr Fr.rf (Fr.mono rfl (Or.inl rfl) (fr_X7_leasts h1)))
theorem Q_X7_extreme_47 {r : Int} {mm : Mi} (x2 : Int) (s0 : Int) (μ : Mi) (h : B_X7_extreme_47 x2 s0 μ = some (r, mm)) : Fr W_X7_extreme none μ mm := by
  unfold B_X7_extreme_47 at h
  by_cases c : ¬ (w32 (irem x2 2)) = 0
  · replace h := ifp c h
    exact Fr.tr Fr.rf (Q_X7_extreme_58 _ _ _ h)
  · replace h := ifn c h
    exact Fr.tr Fr.rf (Q_X7_extreme_58 _ _ _ h)
theorem fr_X7_extreme {x1 : Int} {x2 : Int} {μ : Mi} {r : Int} {mm : Mi} (h : D_X7_extreme x1 x2 μ = some (r, mm)) : Fr W_X7_extreme none μ mm := by
  unfold D_X7_extreme at h
  by_cases c : (w32 (D_X7_isMan x1 μ)) = 0
  · replace h := ifp c h
    exact frE h Fr.rf
  · replace h := ifn c h
    by_cases c : ¬ (w32 (D_X7_in x2 0 3)) = 0
    · replace h := ifp c h
      obtain ⟨m3, h3, h⟩ := bm_some h
      obtain ⟨r4, m4, h4, h⟩ := bd_some h
      by_cases c : ¬ (w32 r4) = 0
      · replace h := ifp c h
        by_cases c : 2 ≤ (w32 x2)
        · replace h := ifp c h
          exact Fr.tr (Fr.tr (Fr.tr Fr.rf (Fr.mono rfl (Or.inl rfl) (fr_X7_sets h3))) (Fr.mono rfl (Or.inl rfl) (fr_X7_counts h4))) (Q_X7_extreme_47 _ _ _ h)
        · replace h := ifn c h
          exact Fr.tr (Fr.tr (Fr.tr Fr.rf (Fr.mono rfl (Or.inl rfl) (fr_X7_sets h3))) (Fr.mono rfl (Or.inl rfl) (fr_X7_counts h4))) (Q_X7_extreme_47 _ _ _ h)
      · replace h := ifn c h
        exact frE h (Fr.tr (Fr.tr Fr.rf (Fr.mono rfl (Or.inl rfl) (fr_X7_sets h3))) (Fr.mono rfl (Or.inl rfl) (fr_X7_counts h4)))
    · replace h := ifn c h
      exact frE h Fr.rf
def W_X7_tale : List (Nat × Nat) := [(7, 36), (7, 37), (7, 40), (7, 44), (65, 0), (66, 0), (67, 0), (68, 0), (69, 0), (70, 0), (71, 0), (72, 0)]
theorem Q_X7_tale_146 {r : Int} {mm : Mi} {k48 : (Int → Int → Int → Int → Mi → Option (Int × Mi))} {k77 : (Int → Int → Int → Int → Int → Int → Mi → Option (Int × Mi))} (hk48 : ∀ (x2 : Int) (x3 : Int) (x4 : Int) (x5 : Int) (m : Mi), k48 x2 x3 x4 x5 m = some (r, mm) → Fr W_X7_tale none m mm) (hk77 : ∀ (x2 : Int) (x3 : Int) (x4 : Int) (x5 : Int) (x6 : Int) (x7 : Int) (m : Mi), k77 x2 x3 x4 x5 x6 x7 m = some (r, mm) → Fr W_X7_tale none m mm) (x2 : Int) (x3 : Int) (x4 : Int) (x5 : Int) (x6 : Int) (μ : Mi) (h : B_X7_tale_146 k48 k77 x2 x3 x4 x5 x6 μ = some (r, mm)) : Fr W_X7_tale none μ mm := by
  unfold B_X7_tale_146 at h
  obtain ⟨r1, m1, h1, h⟩ := bd_some h
  exact Fr.tr (Fr.tr Fr.rf (Fr.mono rfl (Or.inl rfl) (fr_X7_goes h1))) (hk77 _ _ _ _ _ _ _ h)
theorem Q_X7_tale_187 {r : Int} {mm : Mi} {k48 : (Int → Int → Int → Int → Mi → Option (Int × Mi))} (hk48 : ∀ (x2 : Int) (x3 : Int) (x4 : Int) (x5 : Int) (m : Mi), k48 x2 x3 x4 x5 m = some (r, mm) → Fr W_X7_tale none m mm) (x2 : Int) (x3 : Int) (x7 : Int) (μ : Mi) (h : B_X7_tale_187 k48 x2 x3 x7 μ = some (r, mm)) : Fr W_X7_tale none μ mm := by
  unfold B_X7_tale_187 at h
  exact Fr.tr Fr.rf (hk48 _ _ _ _ _ h)
theorem Q_X7_tale_77 {r : Int} {mm : Mi} {k48 : (Int → Int → Int → Int → Mi → Option (Int × Mi))} (hk48 : ∀ (x2 : Int) (x3 : Int) (x4 : Int) (x5 : Int) (m : Mi), k48 x2 x3 x4 x5 m = some (r, mm) → Fr W_X7_tale none m mm) : ∀ (n : Nat) (x2 : Int) (x3 : Int) (x4 : Int) (x5 : Int) (x6 : Int) (x7 : Int) (μ : Mi), B_X7_tale_77 k48 n x2 x3 x4 x5 x6 x7 μ = some (r, mm) → Fr W_X7_tale none μ mm := by
  intro n
  induction n with
  | zero =>
    intro x2 x3 x4 x5 x6 x7 μ h
    exact nope h
  | succ n hk77 =>
    intro x2 x3 x4 x5 x6 x7 μ h
    replace h : F_X7_tale_77 k48 (B_X7_tale_77 k48 n) x2 x3 x4 x5 x6 x7 μ = some (r, mm) := h
    unfold F_X7_tale_77 at h
    by_cases c : (w32 x7) = (-1)
    · replace h := ifp c h
      exact Fr.tr Fr.rf (Q_X7_tale_146 hk48 hk77 _ _ _ _ _ _ h)
    · replace h := ifn c h
      obtain ⟨hi, h⟩ := ift h
      by_cases c : (w32 (rd μ 71 false (ix (((rd μ 7 false 44) * 1120) + x7)))) = 1000000
      · replace h := ifp c h
        exact Fr.tr Fr.rf (Q_X7_tale_146 hk48 hk77 _ _ _ _ _ _ h)
      · replace h := ifn c h
        obtain ⟨hi, h⟩ := ift h
        obtain ⟨r1, h1, h⟩ := bp_some h
        obtain ⟨hi, h⟩ := ift h
        by_cases c : (w32 ((rd μ 71 false (ix (((rd μ 7 false 44) * 1120) + x7))) + r1)) = (w32 (rd μ 71 false (ix ((x4 * 1120) + x5))))
        · replace h := ifp c h
          by_cases c : (w32 x6) = (-1)
          · replace h := ifp c h
            exact Fr.tr Fr.rf (Q_X7_tale_187 hk48 _ _ _ _ h)
          · replace h := ifn c h
            by_cases c : ¬ (w32 x3) = (w32 x2)
            · replace h := ifp c h
              exact Fr.tr Fr.rf (Q_X7_tale_187 hk48 _ _ _ _ h)
            · replace h := ifn c h
              exact frE h Fr.rf
        · replace h := ifn c h
          exact Fr.tr Fr.rf (Q_X7_tale_146 hk48 hk77 _ _ _ _ _ _ h)
theorem Q_X7_tale_48 {r : Int} {mm : Mi} : ∀ (n : Nat) (x2 : Int) (x3 : Int) (x4 : Int) (x5 : Int) (μ : Mi), B_X7_tale_48 n x2 x3 x4 x5 μ = some (r, mm) → Fr W_X7_tale none μ mm := by
  intro n
  induction n with
  | zero =>
    intro x2 x3 x4 x5 μ h
    exact nope h
  | succ n hk48 =>
    intro x2 x3 x4 x5 μ h
    replace h : F_X7_tale_48 (B_X7_tale_48 n) x2 x3 x4 x5 μ = some (r, mm) := h
    unfold F_X7_tale_48 at h
    obtain ⟨hi, h⟩ := ift h
    by_cases c : (w32 (rd μ 55 false (ix (rd μ 7 false 36)))) ≤ (w32 x4)
    · replace h := ifp c h
      by_cases c : ¬ (w32 x2) = (-1)
      · replace h := ifp c h
        exact frE h Fr.rf
      · replace h := ifn c h
        exact frE h Fr.rf
    · replace h := ifn c h
      obtain ⟨r1, m1, h1, h⟩ := bd_some h
      exact Fr.tr (Fr.tr Fr.rf (Fr.mono rfl (Or.inl rfl) (fr_X7_goes h1))) (Q_X7_tale_77 hk48 FU _ _ _ _ _ _ _ h)
theorem fr_X7_tale {x1 : Int} {x2 : Int} {μ : Mi} {r : Int} {mm : Mi} (h : D_X7_tale x1 x2 μ = some (r, mm)) : Fr W_X7_tale none μ mm := by
  unfold D_X7_tale at h
  by_cases c : (w32 (D_X7_isMan x1 μ)) = 0
  · replace h := ifp c h
    exact frE h Fr.rf
  · replace h := ifn c h
    by_cases c : (-1) ≤ (w32 x2)
    · replace h := ifp c h
      obtain ⟨m2, h2, h⟩ := bm_some h
      obtain ⟨r3, m3, h3, h⟩ := bd_some h
      by_cases c : ¬ (w32 r3) = 0
      · replace h := ifp c h
        obtain ⟨r4, m4, h4, h⟩ := bd_some h
        obtain ⟨r5, h5, h⟩ := bp_some h
        exact Fr.tr (Fr.tr (Fr.tr (Fr.tr Fr.rf (Fr.mono rfl (Or.inl rfl) (fr_X7_sets h2))) (Fr.mono rfl (Or.inl rfl) (fr_X7_counts h3))) (Fr.mono rfl (Or.inl rfl) (fr_X7_leasts h4))) (Q_X7_tale_48 FU _ _ _ _ _ h)
      · replace h := ifn c h
        exact frE h (Fr.tr (Fr.tr Fr.rf (Fr.mono rfl (Or.inl rfl) (fr_X7_sets h2))) (Fr.mono rfl (Or.inl rfl) (fr_X7_counts h3)))
    · replace h := ifn c h
      exact frE h Fr.rf
def W_X7_toDoubt : List (Nat × Nat) := [(7, 36), (7, 37), (7, 40), (7, 44), (65, 0), (66, 0), (67, 0), (68, 0), (69, 0), (72, 0)]
theorem Q_X7_toDoubt_118 {r : Int} {mm : Mi} {k56 : (Int → Int → Int → Mi → Option (Int × Mi))} {k69 : (Int → Int → Int → Int → Mi → Option (Int × Mi))} (hk56 : ∀ (x1 : Int) (x2 : Int) (x3 : Int) (m : Mi), k56 x1 x2 x3 m = some (r, mm) → Fr W_X7_toDoubt none m mm) (hk69 : ∀ (x1 : Int) (x2 : Int) (x3 : Int) (x4 : Int) (m : Mi), k69 x1 x2 x3 x4 m = some (r, mm) → Fr W_X7_toDoubt none m mm) (x1 : Int) (x2 : Int) (x3 : Int) (x4 : Int) (μ : Mi) (h : B_X7_toDoubt_118 k56 k69 x1 x2 x3 x4 μ = some (r, mm)) : Fr W_X7_toDoubt none μ mm := by
  unfold B_X7_toDoubt_118 at h
  exact Fr.tr Fr.rf (hk69 _ _ _ _ _ h)
theorem Q_X7_toDoubt_69 {r : Int} {mm : Mi} {k56 : (Int → Int → Int → Mi → Option (Int × Mi))} (hk56 : ∀ (x1 : Int) (x2 : Int) (x3 : Int) (m : Mi), k56 x1 x2 x3 m = some (r, mm) → Fr W_X7_toDoubt none m mm) : ∀ (n : Nat) (x1 : Int) (x2 : Int) (x3 : Int) (x4 : Int) (μ : Mi), B_X7_toDoubt_69 k56 n x1 x2 x3 x4 μ = some (r, mm) → Fr W_X7_toDoubt none μ mm := by
  intro n
  induction n with
  | zero =>
    intro x1 x2 x3 x4 μ h
    exact nope h
  | succ n hk69 =>
    intro x1 x2 x3 x4 μ h
    replace h : F_X7_toDoubt_69 k56 (B_X7_toDoubt_69 k56 n) x1 x2 x3 x4 μ = some (r, mm) := h
    unfold F_X7_toDoubt_69 at h
    obtain ⟨hi, h⟩ := ift h
    by_cases c : (w32 (ishl 1 (rd μ 56 false (ix x1)))) ≤ (w32 x4)
    · replace h := ifp c h
      exact Fr.tr Fr.rf (hk56 _ _ _ _ h)
    · replace h := ifn c h
      obtain ⟨r1, h1, h⟩ := bp_some h
      by_cases c : ¬ (w32 r1) = (w32 x3)
      · replace h := ifp c h
        exact Fr.tr Fr.rf (Q_X7_toDoubt_118 hk56 hk69 _ _ _ _ _ h)
      · replace h := ifn c h
        by_cases c : (w32 (iand x4 x2)) = 0
        · replace h := ifp c h
          obtain ⟨m2, h2, h⟩ := bm_some h
          obtain ⟨r3, m3, h3, h⟩ := bd_some h
          by_cases c : (w32 r3) = 0
          · replace h := ifp c h
            exact Fr.tr (Fr.tr (Fr.tr Fr.rf (Fr.mono rfl (Or.inl rfl) (fr_X7_sets h2))) (Fr.mono rfl (Or.inl rfl) (fr_X7_finds h3))) (Q_X7_toDoubt_118 hk56 hk69 _ _ _ _ _ h)
          · replace h := ifn c h
            exact frE h (Fr.tr (Fr.tr Fr.rf (Fr.mono rfl (Or.inl rfl) (fr_X7_sets h2))) (Fr.mono rfl (Or.inl rfl) (fr_X7_finds h3)))
        · replace h := ifn c h
          exact Fr.tr Fr.rf (Q_X7_toDoubt_118 hk56 hk69 _ _ _ _ _ h)
theorem Q_X7_toDoubt_56 {r : Int} {mm : Mi} : ∀ (n : Nat) (x1 : Int) (x2 : Int) (x3 : Int) (μ : Mi), B_X7_toDoubt_56 n x1 x2 x3 μ = some (r, mm) → Fr W_X7_toDoubt none μ mm := by
  intro n
  induction n with
  | zero =>
    intro x1 x2 x3 μ h
    exact nope h
  | succ n hk56 =>
    intro x1 x2 x3 μ h
    replace h : F_X7_toDoubt_56 (B_X7_toDoubt_56 n) x1 x2 x3 μ = some (r, mm) := h
    unfold F_X7_toDoubt_56 at h
    obtain ⟨hi, h⟩ := ift h
    by_cases c : (w32 (rd μ 56 false (ix x1))) < (w32 x3)
    · replace h := ifp c h
      exact frE h Fr.rf
    · replace h := ifn c h
      exact Fr.tr Fr.rf (Q_X7_toDoubt_69 hk56 FU _ _ _ _ _ h)
theorem Q_X7_toDoubt_46 {r : Int} {mm : Mi} {k14 : (Int → Int → Int → Mi → Option (Int × Mi))} (hk14 : ∀ (x1 : Int) (x2 : Int) (x3 : Int) (m : Mi), k14 x1 x2 x3 m = some (r, mm) → Fr W_X7_toDoubt none m mm) (x1 : Int) (x3 : Int) (s0 : Int) (s1 : Int) (μ : Mi) (h : B_X7_toDoubt_46 k14 x1 x3 s0 s1 μ = some (r, mm)) : Fr W_X7_toDoubt none μ mm := by
  unfold B_X7_toDoubt_46 at h
  exact Fr.tr Fr.rf (hk14 _ _ _ _ h)
theorem Q_X7_toDoubt_14 {r : Int} {mm : Mi} : ∀ (n : Nat) (x1 : Int) (x2 : Int) (x3 : Int) (μ : Mi), B_X7_toDoubt_14 n x1 x2 x3 μ = some (r, mm) → Fr W_X7_toDoubt none μ mm := by
  intro n
  induction n with
  | zero =>
    intro x1 x2 x3 μ h
    exact nope h
  | succ n hk14 =>
    intro x1 x2 x3 μ h
    replace h : F_X7_toDoubt_14 (B_X7_toDoubt_14 n) x1 x2 x3 μ = some (r, mm) := h
    unfold F_X7_toDoubt_14 at h
    obtain ⟨hi, h⟩ := ift h
    by_cases c : (w32 (rd μ 56 false (ix x1))) ≤ (w32 x3)
    · replace h := ifp c h
      exact Fr.tr Fr.rf (Q_X7_toDoubt_56 FU _ _ _ _ h)
    · replace h := ifn c h
      obtain ⟨hi, h⟩ := ift h
      by_cases c : (w32 (rd μ 62 false (ix ((8 * x1) + x3)))) = 0
      · replace h := ifp c h
        exact Fr.tr Fr.rf (Q_X7_toDoubt_46 hk14 _ _ _ _ _ h)
      · replace h := ifn c h
        exact Fr.tr Fr.rf (Q_X7_toDoubt_46 hk14 _ _ _ _ _ h)
theorem fr_X7_toDoubt {x1 : Int} {μ : Mi} {r : Int} {mm : Mi} (h : D_X7_toDoubt x1 μ = some (r, mm)) : Fr W_X7_toDoubt none μ mm := by
  unfold D_X7_toDoubt at h
  by_cases c : ¬ (w32 (D_X7_isMan x1 μ)) = 0
  · replace h := ifp c h
    exact Fr.tr Fr.rf (Q_X7_toDoubt_14 FU _ _ _ _ h)
  · replace h := ifn c h
    exact frE h Fr.rf
def W_X7_away : List (Nat × Nat) := [(7, 36), (7, 37), (7, 40), (7, 44), (65, 0), (66, 0), (67, 0), (68, 0), (69, 0), (70, 0), (72, 0)]
theorem Q_X7_away_85 {r : Int} {mm : Mi} {k26 : (Int → Int → Int → Int → Mi → Option (Int × Mi))} (hk26 : ∀ (x1 : Int) (x2 : Int) (x3 : Int) (x4 : Int) (m : Mi), k26 x1 x2 x3 x4 m = some (r, mm) → Fr W_X7_away none m mm) (x1 : Int) (x2 : Int) (x3 : Int) (x4 : Int) (μ : Mi) (h : B_X7_away_85 k26 x1 x2 x3 x4 μ = some (r, mm)) : Fr W_X7_away none μ mm := by
  unfold B_X7_away_85 at h
  exact Fr.tr Fr.rf (hk26 _ _ _ _ _ h)
theorem Q_X7_away_26 {r : Int} {mm : Mi} : ∀ (n : Nat) (x1 : Int) (x2 : Int) (x3 : Int) (x4 : Int) (μ : Mi), B_X7_away_26 n x1 x2 x3 x4 μ = some (r, mm) → Fr W_X7_away none μ mm := by
  intro n
  induction n with
  | zero =>
    intro x1 x2 x3 x4 μ h
    exact nope h
  | succ n hk26 =>
    intro x1 x2 x3 x4 μ h
    replace h : F_X7_away_26 (B_X7_away_26 n) x1 x2 x3 x4 μ = some (r, mm) := h
    unfold F_X7_away_26 at h
    obtain ⟨hi, h⟩ := ift h
    by_cases c : (w32 (rd μ 56 false (ix x1))) ≤ (w32 x4)
    · replace h := ifp c h
      exact frE h Fr.rf
    · replace h := ifn c h
      obtain ⟨hi, h⟩ := ift h
      by_cases c : (w32 (rd μ 62 false (ix ((8 * x1) + x4)))) = 0
      · replace h := ifp c h
        obtain ⟨m1, h1, h⟩ := bm_some h
        obtain ⟨r2, m2, h2, h⟩ := bd_some h
        by_cases c : (w32 x2) < (w32 r2)
        · replace h := ifp c h
          exact Fr.tr (Fr.tr (Fr.tr Fr.rf (Fr.mono rfl (Or.inl rfl) (fr_X7_sets h1))) (Fr.mono rfl (Or.inl rfl) (fr_X7_counts h2))) (Q_X7_away_85 hk26 _ _ _ _ _ h)
        · replace h := ifn c h
          exact Fr.tr (Fr.tr (Fr.tr Fr.rf (Fr.mono rfl (Or.inl rfl) (fr_X7_sets h1))) (Fr.mono rfl (Or.inl rfl) (fr_X7_counts h2))) (Q_X7_away_85 hk26 _ _ _ _ _ h)
      · replace h := ifn c h
        exact Fr.tr Fr.rf (Q_X7_away_85 hk26 _ _ _ _ _ h)
theorem fr_X7_away {x1 : Int} {μ : Mi} {r : Int} {mm : Mi} (h : D_X7_away x1 μ = some (r, mm)) : Fr W_X7_away none μ mm := by
  unfold D_X7_away at h
  by_cases c : ¬ (w32 (D_X7_isMan x1 μ)) = 0
  · replace h := ifp c h
    obtain ⟨m2, h2, h⟩ := bm_some h
    obtain ⟨r3, m3, h3, h⟩ := bd_some h
    exact Fr.tr (Fr.tr (Fr.tr Fr.rf (Fr.mono rfl (Or.inl rfl) (fr_X7_sets h2))) (Fr.mono rfl (Or.inl rfl) (fr_X7_counts h3))) (Q_X7_away_26 FU _ _ _ _ _ h)
  · replace h := ifn c h
    exact frE h Fr.rf
def W_X7_met : List (Nat × Nat) := [(7, 36), (7, 37), (7, 40), (7, 44), (65, 0), (66, 0), (67, 0), (68, 0), (69, 0), (70, 0), (72, 0)]
theorem fr_X7_met {x1 : Int} {x2 : Int} {μ : Mi} {r : Int} {mm : Mi} (h : D_X7_met x1 x2 μ = some (r, mm)) : Fr W_X7_met none μ mm := by
  unfold D_X7_met at h
  by_cases c : (w32 (rd μ 7 false 17)) = 0
  · replace h := ifp c h
    exact frE h Fr.rf
  · replace h := ifn c h
    by_cases c : (w32 (D_X7_in x1 0 (rd μ 55 false 0))) = 0
    · replace h := ifp c h
      exact frE h Fr.rf
    · replace h := ifn c h
      by_cases c : (w32 x1) ≤ (w32 (rd μ 55 false 1))
      · replace h := ifp c h
        by_cases c : ¬ (w32 x2) = 0
        · replace h := ifp c h
          obtain ⟨r2, m2, h2, h⟩ := bd_some h
          by_cases c : (w32 r2) = (-1)
          · replace h := ifp c h
            exact frE h (Fr.tr Fr.rf (Fr.mono rfl (Or.inl rfl) (fr_X7_surely h2)))
          · replace h := ifn c h
            obtain ⟨r3, m3, h3, h⟩ := bd_some h
            by_cases c : ¬ (w32 r2) = (w32 r3)
            · replace h := ifp c h
              exact frE h (Fr.tr (Fr.tr Fr.rf (Fr.mono rfl (Or.inl rfl) (fr_X7_surely h2))) (Fr.mono rfl (Or.inl rfl) (fr_X7_surely h3)))
            · replace h := ifn c h
              exact frE h (Fr.tr (Fr.tr Fr.rf (Fr.mono rfl (Or.inl rfl) (fr_X7_surely h2))) (Fr.mono rfl (Or.inl rfl) (fr_X7_surely h3)))
        · replace h := ifn c h
          obtain ⟨r2, m2, h2, h⟩ := bd_some h
          obtain ⟨r3, m3, h3, h⟩ := bd_some h
          exact frE h (Fr.tr (Fr.tr Fr.rf (Fr.mono rfl (Or.inl rfl) (fr_X7_mayBits h2))) (Fr.mono rfl (Or.inl rfl) (fr_X7_mayBits h3)))
      · replace h := ifn c h
        exact frE h Fr.rf
def W_X7_leg : List (Nat × Nat) := [(7, 32), (63, 0), (64, 0)]
theorem fr_X7_leg {x1 : Int} {x2 : Int} {μ : Mi} {r : Int} {mm : Mi} (h : D_X7_leg x1 x2 μ = some (r, mm)) : Fr W_X7_leg none μ mm := by
  unfold D_X7_leg at h
  obtain ⟨r1, h1, h⟩ := bp_some h
  by_cases c : (w32 r1) = 0
  · replace h := ifp c h
    exact frE h Fr.rf
  · replace h := ifn c h
    by_cases c : (w32 (D_X7_in x2 0 96)) = 0
    · replace h := ifp c h
      exact frE h Fr.rf
    · replace h := ifn c h
      by_cases c : ¬ (w32 (rd μ 7 false 32)) = 20
      · replace h := ifp c h
        obtain ⟨hi, h⟩ := ift h
        obtain ⟨hi, h⟩ := ift h
        exact frE h (Fr.w rfl trivial (Fr.w rfl trivial (Fr.w rfl trivial Fr.rf)))
      · replace h := ifn c h
        exact frE h Fr.rf
def W_X7_forget : List (Nat × Nat) := [(7, 32)]
theorem fr_X7_forget {μ : Mi} {r : Int} {mm : Mi} (h : D_X7_forget μ = some (r, mm)) : Fr W_X7_forget none μ mm := by
  unfold D_X7_forget at h
  exact frE h (Fr.w rfl trivial Fr.rf)
def W_X7_follows : List (Nat × Nat) := [(73, 0), (74, 0)]
theorem Q_X7_follows_255 {r : Int} {mm : Mi} (x2 : Int) (μ : Mi) (h : B_X7_follows_255 x2 μ = some (r, mm)) : Fr W_X7_follows none μ mm := by
  unfold B_X7_follows_255 at h
  obtain ⟨hi, h⟩ := ift h
  obtain ⟨hi, h⟩ := ift h
  exact frE h (Fr.w rfl trivial Fr.rf)
theorem Q_X7_follows_211 {r : Int} {mm : Mi} {k14 : (Int → Int → Int → Mi → Option (Int × Mi))} (hk14 : ∀ (x1 : Int) (x2 : Int) (x3 : Int) (m : Mi), k14 x1 x2 x3 m = some (r, mm) → Fr W_X7_follows none m mm) : ∀ (n : Nat) (x1 : Int) (x3 : Int) (x5 : Int) (μ : Mi), B_X7_follows_211 k14 n x1 x3 x5 μ = some (r, mm) → Fr W_X7_follows none μ mm := by
  intro n
  induction n with
  | zero =>
    intro x1 x3 x5 μ h
    exact nope h
  | succ n hk211 =>
    intro x1 x3 x5 μ h
    replace h : F_X7_follows_211 k14 (B_X7_follows_211 k14 n) x1 x3 x5 μ = some (r, mm) := h
    unfold F_X7_follows_211 at h
    by_cases c : (w32 x5) ≤ (w32 x1)
    · replace h := ifp c h
      obtain ⟨hi, h⟩ := ift h
      obtain ⟨r1, h1, h⟩ := bp_some h
      exact Fr.tr Fr.rf (hk14 _ _ _ _ h)
    · replace h := ifn c h
      obtain ⟨hi, h⟩ := ift h
      obtain ⟨hi, h⟩ := ift h
      exact Fr.tr (Fr.w rfl trivial (Fr.w rfl trivial Fr.rf)) (hk211 _ _ _ _ h)
theorem Q_X7_follows_142 {r : Int} {mm : Mi} {k14 : (Int → Int → Int → Mi → Option (Int × Mi))} (hk14 : ∀ (x1 : Int) (x2 : Int) (x3 : Int) (m : Mi), k14 x1 x2 x3 m = some (r, mm) → Fr W_X7_follows none m mm) : ∀ (n : Nat) (x1 : Int) (x2 : Int) (x3 : Int) (x4 : Int) (μ : Mi), B_X7_follows_142 k14 n x1 x2 x3 x4 μ = some (r, mm) → Fr W_X7_follows none μ mm := by
  intro n
  induction n with
  | zero =>
    intro x1 x2 x3 x4 μ h
    exact nope h
  | succ n hk142 =>
    intro x1 x2 x3 x4 μ h
    replace h : F_X7_follows_142 k14 (B_X7_follows_142 k14 n) x1 x2 x3 x4 μ = some (r, mm) := h
    unfold F_X7_follows_142 at h
    by_cases c : (w32 x4) ≤ (w32 x1)
    · replace h := ifp c h
      by_cases c : ¬ (w32 x3) = (w32 (rd μ 7 false 32))
      · replace h := ifp c h
        obtain ⟨hi, h⟩ := ift h
        obtain ⟨hi, h⟩ := ift h
        obtain ⟨hi, h⟩ := ift h
        obtain ⟨r1, h1, h⟩ := bp_some h
        exact Fr.tr (Fr.w rfl trivial (Fr.w rfl trivial Fr.rf)) (Q_X7_follows_211 hk14 FU _ _ _ _ h)
      · replace h := ifn c h
        exact Fr.tr Fr.rf (Q_X7_follows_255 _ _ h)
    · replace h := ifn c h
      obtain ⟨hi, h⟩ := ift h
      obtain ⟨hi, h⟩ := ift h
      exact Fr.tr (Fr.w rfl trivial (Fr.w rfl trivial Fr.rf)) (hk142 _ _ _ _ _ h)
theorem Q_X7_follows_87 {r : Int} {mm : Mi} {k14 : (Int → Int → Int → Mi → Option (Int × Mi))} (hk14 : ∀ (x1 : Int) (x2 : Int) (x3 : Int) (m : Mi), k14 x1 x2 x3 m = some (r, mm) → Fr W_X7_follows none m mm) (x1 : Int) (x2 : Int) (x3 : Int) (x4 : Int) (x5 : Int) (s0 : Int) (μ : Mi) (h : B_X7_follows_87 k14 x1 x2 x3 x4 x5 s0 μ = some (r, mm)) : Fr W_X7_follows none μ mm := by
  unfold B_X7_follows_87 at h
  by_cases c : (w32 x4) < (w32 x1)
  · replace h := ifp c h
    exact frE h Fr.rf
  · replace h := ifn c h
    obtain ⟨r1, h1, h⟩ := bp_some h
    by_cases c : ¬ (w32 r1) = (w32 x2)
    · replace h := ifp c h
      exact frE h Fr.rf
    · replace h := ifn c h
      obtain ⟨r2, h2, h⟩ := bp_some h
      by_cases c : ¬ (w32 r2) = (w32 s0)
      · replace h := ifp c h
        exact frE h Fr.rf
      · replace h := ifn c h
        obtain ⟨r3, h3, h⟩ := bp_some h
        obtain ⟨hi, h⟩ := ift h
        by_cases c : (w32 (x4 + r3)) ≤ (w32 (rd μ 55 false (ix (rd μ 7 false 36))))
        · replace h := ifp c h
          exact Fr.tr Fr.rf (Q_X7_follows_142 hk14 FU _ _ _ _ _ h)
        · replace h := ifn c h
          exact frE h Fr.rf
theorem Q_X7_follows_48 {r : Int} {mm : Mi} {k14 : (Int → Int → Int → Mi → Option (Int × Mi))} (hk14 : ∀ (x1 : Int) (x2 : Int) (x3 : Int) (m : Mi), k14 x1 x2 x3 m = some (r, mm) → Fr W_X7_follows none m mm) (x1 : Int) (x2 : Int) (x3 : Int) (s0 : Int) (μ : Mi) (h : B_X7_follows_48 k14 x1 x2 x3 s0 μ = some (r, mm)) : Fr W_X7_follows none μ mm := by
  unfold B_X7_follows_48 at h
  by_cases c : (w32 (rd μ 7 false 32)) ≤ (w32 x3)
  · replace h := ifp c h
    exact Fr.tr Fr.rf (Q_X7_follows_142 hk14 FU _ _ _ _ _ h)
  · replace h := ifn c h
    obtain ⟨hi, h⟩ := ift h
    obtain ⟨r1, h1, h⟩ := bp_some h
    by_cases c : ¬ (w32 r1) = 1
    · replace h := ifp c h
      exact Fr.tr Fr.rf (Q_X7_follows_87 hk14 _ _ _ _ _ _ _ h)
    · replace h := ifn c h
      exact Fr.tr Fr.rf (Q_X7_follows_87 hk14 _ _ _ _ _ _ _ h)
theorem Q_X7_follows_14 {r : Int} {mm : Mi} : ∀ (n : Nat) (x1 : Int) (x2 : Int) (x3 : Int) (μ : Mi), B_X7_follows_14 n x1 x2 x3 μ = some (r, mm) → Fr W_X7_follows none μ mm := by
  intro n
  induction n with
  | zero =>
    intro x1 x2 x3 μ h
    exact nope h
  | succ n hk14 =>
    intro x1 x2 x3 μ h
    replace h : F_X7_follows_14 (B_X7_follows_14 n) x1 x2 x3 μ = some (r, mm) := h
    unfold F_X7_follows_14 at h
    by_cases c : (w32 (rd μ 7 false 32)) < (w32 x3)
    · replace h := ifp c h
      exact Fr.tr Fr.rf (Q_X7_follows_255 _ _ h)
    · replace h := ifn c h
      by_cases c : ¬ (w32 x3) = (w32 (rd μ 7 false 32))
      · replace h := ifp c h
        obtain ⟨hi, h⟩ := ift h
        exact Fr.tr Fr.rf (Q_X7_follows_48 hk14 _ _ _ _ _ h)
      · replace h := ifn c h
        obtain ⟨hi, h⟩ := ift h
        exact Fr.tr Fr.rf (Q_X7_follows_48 hk14 _ _ _ _ _ h)
theorem fr_X7_follows {μ : Mi} {r : Int} {mm : Mi} (h : D_X7_follows μ = some (r, mm)) : Fr W_X7_follows none μ mm := by
  unfold D_X7_follows at h
  obtain ⟨hi, h⟩ := ift h
  exact Fr.tr Fr.rf (Q_X7_follows_14 FU _ _ _ _ h)
def W_X7_barred : List (Nat × Nat) := [(7, 36), (7, 37), (7, 40), (65, 0), (66, 0), (67, 0), (68, 0), (69, 0), (73, 0), (74, 0)]
theorem Q_X7_barred_225 {r : Int} {mm : Mi} {k65 : (Int → Int → Mi → Option (Int × Mi))} {k73 : (Int → Int → Int → Mi → Option (Int × Mi))} (hk65 : ∀ (x1 : Int) (x3 : Int) (m : Mi), k65 x1 x3 m = some (r, mm) → Fr W_X7_barred none m mm) (hk73 : ∀ (x1 : Int) (x3 : Int) (x4 : Int) (m : Mi), k73 x1 x3 x4 m = some (r, mm) → Fr W_X7_barred none m mm) (x1 : Int) (x3 : Int) (x4 : Int) (μ : Mi) (h : B_X7_barred_225 k65 k73 x1 x3 x4 μ = some (r, mm)) : Fr W_X7_barred none μ mm := by
  unfold B_X7_barred_225 at h
  exact Fr.tr Fr.rf (hk73 _ _ _ _ h)
theorem Q_X7_barred_208 {r : Int} {mm : Mi} {k65 : (Int → Int → Mi → Option (Int × Mi))} {k73 : (Int → Int → Int → Mi → Option (Int × Mi))} (hk65 : ∀ (x1 : Int) (x3 : Int) (m : Mi), k65 x1 x3 m = some (r, mm) → Fr W_X7_barred none m mm) (hk73 : ∀ (x1 : Int) (x3 : Int) (x4 : Int) (m : Mi), k73 x1 x3 x4 m = some (r, mm) → Fr W_X7_barred none m mm) (x1 : Int) (x3 : Int) (x4 : Int) (x6 : Int) (μ : Mi) (h : B_X7_barred_208 k65 k73 x1 x3 x4 x6 μ = some (r, mm)) : Fr W_X7_barred none μ mm := by
  unfold B_X7_barred_208 at h
  by_cases c : ¬ (w32 x6) = 0
  · replace h := ifp c h
    exact Fr.tr Fr.rf (Q_X7_barred_225 hk65 hk73 _ _ _ _ h)
  · replace h := ifn c h
    exact frE h Fr.rf
theorem Q_X7_barred_200 {r : Int} {mm : Mi} {k65 : (Int → Int → Mi → Option (Int × Mi))} {k73 : (Int → Int → Int → Mi → Option (Int × Mi))} {k150 : (Int → Int → Int → Int → Int → Int → Mi → Option (Int × Mi))} (hk65 : ∀ (x1 : Int) (x3 : Int) (m : Mi), k65 x1 x3 m = some (r, mm) → Fr W_X7_barred none m mm) (hk73 : ∀ (x1 : Int) (x3 : Int) (x4 : Int) (m : Mi), k73 x1 x3 x4 m = some (r, mm) → Fr W_X7_barred none m mm) (hk150 : ∀ (x1 : Int) (x3 : Int) (x4 : Int) (x5 : Int) (x6 : Int) (x7 : Int) (m : Mi), k150 x1 x3 x4 x5 x6 x7 m = some (r, mm) → Fr W_X7_barred none m mm) (x1 : Int) (x3 : Int) (x4 : Int) (x5 : Int) (x7 : Int) (s0 : Int) (μ : Mi) (h : B_X7_barred_200 k65 k73 k150 x1 x3 x4 x5 x7 s0 μ = some (r, mm)) : Fr W_X7_barred none μ mm := by
  unfold B_X7_barred_200 at h
  exact Fr.tr Fr.rf (hk150 _ _ _ _ _ _ _ h)
theorem Q_X7_barred_195 {r : Int} {mm : Mi} {k65 : (Int → Int → Mi → Option (Int × Mi))} {k73 : (Int → Int → Int → Mi → Option (Int × Mi))} {k150 : (Int → Int → Int → Int → Int → Int → Mi → Option (Int × Mi))} (hk65 : ∀ (x1 : Int) (x3 : Int) (m : Mi), k65 x1 x3 m = some (r, mm) → Fr W_X7_barred none m mm) (hk73 : ∀ (x1 : Int) (x3 : Int) (x4 : Int) (m : Mi), k73 x1 x3 x4 m = some (r, mm) → Fr W_X7_barred none m mm) (hk150 : ∀ (x1 : Int) (x3 : Int) (x4 : Int) (x5 : Int) (x6 : Int) (x7 : Int) (m : Mi), k150 x1 x3 x4 x5 x6 x7 m = some (r, mm) → Fr W_X7_barred none m mm) (x1 : Int) (x3 : Int) (x4 : Int) (x5 : Int) (x7 : Int) (μ : Mi) (h : B_X7_barred_195 k65 k73 k150 x1 x3 x4 x5 x7 μ = some (r, mm)) : Fr W_X7_barred none μ mm := by
  unfold B_X7_barred_195 at h
  exact Fr.tr Fr.rf (Q_X7_barred_200 hk65 hk73 hk150 _ _ _ _ _ _ _ h)
theorem Q_X7_barred_150 {r : Int} {mm : Mi} {k65 : (Int → Int → Mi → Option (Int × Mi))} {k73 : (Int → Int → Int → Mi → Option (Int × Mi))} (hk65 : ∀ (x1 : Int) (x3 : Int) (m : Mi), k65 x1 x3 m = some (r, mm) → Fr W_X7_barred none m mm) (hk73 : ∀ (x1 : Int) (x3 : Int) (x4 : Int) (m : Mi), k73 x1 x3 x4 m = some (r, mm) → Fr W_X7_barred none m mm) : ∀ (n : Nat) (x1 : Int) (x3 : Int) (x4 : Int) (x5 : Int) (x6 : Int) (x7 : Int) (μ : Mi), B_X7_barred_150 k65 k73 n x1 x3 x4 x5 x6 x7 μ = some (r, mm) → Fr W_X7_barred none μ mm := by
  intro n
  induction n with
  | zero =>
    intro x1 x3 x4 x5 x6 x7 μ h
    exact nope h
  | succ n hk150 =>
    intro x1 x3 x4 x5 x6 x7 μ h
    replace h : F_X7_barred_150 k65 k73 (B_X7_barred_150 k65 k73 n) x1 x3 x4 x5 x6 x7 μ = some (r, mm) := h
    unfold F_X7_barred_150 at h
    obtain ⟨hi, h⟩ := ift h
    by_cases c : (w32 (rd μ 60 false (ix x5))) < (w32 x7)
    · replace h := ifp c h
      exact Fr.tr Fr.rf (Q_X7_barred_208 hk65 hk73 _ _ _ _ _ h)
    · replace h := ifn c h
      obtain ⟨hi, h⟩ := ift h
      by_cases c : (w32 (rd μ 55 false (ix x1))) < (w32 x7)
      · replace h := ifp c h
        exact Fr.tr Fr.rf (Q_X7_barred_208 hk65 hk73 _ _ _ _ _ h)
      · replace h := ifn c h
        by_cases c : ¬ (w32 x6) = 0
        · replace h := ifp c h
          exact Fr.tr Fr.rf (Q_X7_barred_195 hk65 hk73 hk150 _ _ _ _ _ _ h)
        · replace h := ifn c h
          obtain ⟨hi, h⟩ := ift h
          obtain ⟨hi, h⟩ := ift h
          by_cases c : ¬ (w32 (rd μ 73 false (ix x7))) = (w32 (rd μ 58 false (ix x5)))
          · replace h := ifp c h
            exact Fr.tr Fr.rf (Q_X7_barred_200 hk65 hk73 hk150 _ _ _ _ _ _ _ h)
          · replace h := ifn c h
            exact Fr.tr Fr.rf (Q_X7_barred_195 hk65 hk73 hk150 _ _ _ _ _ _ h)
theorem Q_X7_barred_138 {r : Int} {mm : Mi} {k65 : (Int → Int → Mi → Option (Int × Mi))} {k73 : (Int → Int → Int → Mi → Option (Int × Mi))} (hk65 : ∀ (x1 : Int) (x3 : Int) (m : Mi), k65 x1 x3 m = some (r, mm) → Fr W_X7_barred none m mm) (hk73 : ∀ (x1 : Int) (x3 : Int) (x4 : Int) (m : Mi), k73 x1 x3 x4 m = some (r, mm) → Fr W_X7_barred none m mm) (x1 : Int) (x3 : Int) (x4 : Int) (x5 : Int) (μ : Mi) (h : B_X7_barred_138 k65 k73 x1 x3 x4 x5 μ = some (r, mm)) : Fr W_X7_barred none μ mm := by
  unfold B_X7_barred_138 at h
  obtain ⟨hi, h⟩ := ift h
  exact Fr.tr Fr.rf (Q_X7_barred_150 hk65 hk73 FU _ _ _ _ _ _ _ h)
theorem Q_X7_barred_73 {r : Int} {mm : Mi} {k65 : (Int → Int → Mi → Option (Int × Mi))} (hk65 : ∀ (x1 : Int) (x3 : Int) (m : Mi), k65 x1 x3 m = some (r, mm) → Fr W_X7_barred none m mm) : ∀ (n : Nat) (x1 : Int) (x3 : Int) (x4 : Int) (μ : Mi), B_X7_barred_73 k65 n x1 x3 x4 μ = some (r, mm) → Fr W_X7_barred none μ mm := by
  intro n
  induction n with
  | zero =>
    intro x1 x3 x4 μ h
    exact nope h
  | succ n hk73 =>
    intro x1 x3 x4 μ h
    replace h : F_X7_barred_73 k65 (B_X7_barred_73 k65 n) x1 x3 x4 μ = some (r, mm) := h
    unfold F_X7_barred_73 at h
    obtain ⟨hi, h⟩ := ift h
    by_cases c : (w32 (rd μ 56 false (ix x1))) ≤ (w32 x4)
    · replace h := ifp c h
      exact Fr.tr Fr.rf (hk65 _ _ _ h)
    · replace h := ifn c h
      obtain ⟨hi, h⟩ := ift h
      by_cases c : ¬ (w32 (rd μ 62 false (ix ((8 * x1) + x4)))) = 0
      · replace h := ifp c h
        exact Fr.tr Fr.rf (Q_X7_barred_225 hk65 hk73 _ _ _ _ h)
      · replace h := ifn c h
        obtain ⟨hi, h⟩ := ift h
        by_cases c : ¬ (w32 (rd μ 57 false (ix ((8 * x1) + x4)))) = (w32 x3)
        · replace h := ifp c h
          exact Fr.tr Fr.rf (Q_X7_barred_225 hk65 hk73 _ _ _ _ h)
        · replace h := ifn c h
          by_cases c : ¬ (w32 x3) = 1
          · replace h := ifp c h
            exact Fr.tr Fr.rf (Q_X7_barred_138 hk65 hk73 _ _ _ _ _ h)
          · replace h := ifn c h
            obtain ⟨hi, h⟩ := ift h
            obtain ⟨hi, h⟩ := ift h
            by_cases c : (w32 (rd μ 59 false (ix ((8 * x1) + x4)))) ≤ (w32 (rd μ 55 false (ix x1)))
            · replace h := ifp c h
              exact Fr.tr Fr.rf (Q_X7_barred_138 hk65 hk73 _ _ _ _ _ h)
            · replace h := ifn c h
              exact Fr.tr Fr.rf (Q_X7_barred_225 hk65 hk73 _ _ _ _ h)
theorem Q_X7_barred_65 {r : Int} {mm : Mi} : ∀ (n : Nat) (x1 : Int) (x3 : Int) (μ : Mi), B_X7_barred_65 n x1 x3 μ = some (r, mm) → Fr W_X7_barred none μ mm := by
  intro n
  induction n with
  | zero =>
    intro x1 x3 μ h
    exact nope h
  | succ n hk65 =>
    intro x1 x3 μ h
    replace h : F_X7_barred_65 (B_X7_barred_65 n) x1 x3 μ = some (r, mm) := h
    unfold F_X7_barred_65 at h
    by_cases c : 2 < (w32 x3)
    · replace h := ifp c h
      exact frE h Fr.rf
    · replace h := ifn c h
      exact Fr.tr Fr.rf (Q_X7_barred_73 hk65 FU _ _ _ _ h)
theorem fr_X7_barred {x1 : Int} {μ : Mi} {r : Int} {mm : Mi} (h : D_X7_barred x1 μ = some (r, mm)) : Fr W_X7_barred none μ mm := by
  unfold D_X7_barred at h
  by_cases c : ¬ (w32 (D_X7_isMan x1 μ)) = 0
  · replace h := ifp c h
    obtain ⟨m2, h2, h⟩ := bm_some h
    obtain ⟨r3, m3, h3, h⟩ := bd_some h
    by_cases c : (w32 r3) = (-1)
    · replace h := ifp c h
      obtain ⟨r4, h4, h⟩ := bp_some h
      by_cases c : (w32 r4) = (-1)
      · replace h := ifp c h
        obtain ⟨r5, h5, h⟩ := bp_some h
        by_cases c : (w32 r5) = (-1)
        · replace h := ifp c h
          exact Fr.tr (Fr.tr (Fr.tr Fr.rf (Fr.mono rfl (Or.inl rfl) (fr_X7_sets h2))) (Fr.mono rfl (Or.inl rfl) (fr_X7_follows h3))) (Q_X7_barred_65 FU _ _ _ h)
        · replace h := ifn c h
          exact frE h (Fr.tr (Fr.tr Fr.rf (Fr.mono rfl (Or.inl rfl) (fr_X7_sets h2))) (Fr.mono rfl (Or.inl rfl) (fr_X7_follows h3)))
      · replace h := ifn c h
        exact frE h (Fr.tr (Fr.tr Fr.rf (Fr.mono rfl (Or.inl rfl) (fr_X7_sets h2))) (Fr.mono rfl (Or.inl rfl) (fr_X7_follows h3)))
    · replace h := ifn c h
      exact frE h (Fr.tr (Fr.tr Fr.rf (Fr.mono rfl (Or.inl rfl) (fr_X7_sets h2))) (Fr.mono rfl (Or.inl rfl) (fr_X7_follows h3)))
  · replace h := ifn c h
    exact frE h Fr.rf
