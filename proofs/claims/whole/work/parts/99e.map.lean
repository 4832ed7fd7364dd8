/-! PURE: map -/
theorem tk_145 : ∀ (d n x : Nat) (μ : Mi), x + d = 16 → d < n → (∀ k, k < 16 → isB (rd μ 18 true k)) → ∃ m, B_X0_takeOver_145 n (x : Int) μ = some (cpy (cpy m 19 16) 20 16) ∧ ∀ r i j, rd m r i j = if r = 18 ∧ i = false ∧ x ≤ j ∧ j < 16 then rd μ 18 true j else rd μ r i j := by
  intro d
  induction d with
  | zero =>
    intro n x μ hx hn ib
    obtain ⟨n, rfl⟩ : ∃ q, n = q + 1 := ⟨n - 1, by omega⟩
    refine ⟨μ, ?_, fun r i j => by rw [if_neg (by omega)]⟩
    rw [B_X0_takeOver_145_s, F_X0_takeOver_145, wid (x := (x : Int)) (by omega) (by omega), if_pos (by omega)]
  | succ d ih =>
    intro n x μ hx hn ib
    obtain ⟨n, rfl⟩ : ∃ q, n = q + 1 := ⟨n - 1, by omega⟩
    have hb : 0 ≤ (x : Int) ∧ (x : Int) < 16 := by omega
    obtain ⟨m, a1, a2⟩ := ih n (x + 1) (wr μ 18 false x (rd μ 18 true x)) (by omega) (by omega) (fun k hk => by rw [rd_ob (by decide)]; exact ib k hk)
    refine ⟨m, ?_, fun r i j => ?_⟩
    · rw [B_X0_takeOver_145_s, F_X0_takeOver_145, wid (x := (x : Int)) (by omega) (by omega), if_neg (by omega), if_pos hb, if_pos hb, ixn x (by omega), if_pos (ib x (by omega)), show (x : Int) + 1 = ((x + 1 : Nat) : Int) by omega]
      exact a1
    · rw [a2]
      by_cases u : r = 18 ∧ i = false ∧ x ≤ j ∧ j < 16
      · rw [if_pos u]
        by_cases e : j = x
        · rw [if_neg (by omega), e, u.1, u.2.1, rd_s]
        · rw [if_pos ⟨u.1, u.2.1, by omega, u.2.2.2⟩, rd_ob (by decide)]
      · rw [if_neg u, if_neg (fun w => u ⟨w.1, w.2.1, by omega, w.2.2.2⟩), rd_wr, if_neg (fun w => u ⟨w.1, w.2.1, by omega, by omega⟩)]
theorem take_X {a : Mi} (ib : IB a) : ∃ m, D_X0_takeOver a = some m ∧ (∀ k, k < 3 → rd m 0 false k = rd a 0 true k) ∧ (∀ r k, (r = 10 ∧ k < 4) ∨ (11 ≤ r ∧ r ≤ 12 ∧ k < 8) ∨ (13 ≤ r ∧ r ≤ 20 ∧ k < 16) → rd m r false k = rd a r true k) ∧ (∀ r j, rd m r true j = rd a r true j) ∧ (∀ r j, ¬ r = 0 → ¬ (10 ≤ r ∧ r ≤ 20) → rd m r false j = rd a r false j) := by
  obtain ⟨m, e, f⟩ := tk_145 16 FU 0 (cpy (cpy (cpy (cpy (cpy (cpy (cpy (cpy (wr (wr (wr a 0 false 0 (rd a 0 true 0)) 0 false 1 (rd a 0 true 1)) 0 false 2 (rd a 0 true 2)) 10 4) 11 8) 12 8) 13 16) 14 16) 15 16) 16 16) 17 16) (by omega) (FU_gt (by omega)) (fun k hk => by
    rw [rd_ct, rd_ct, rd_ct, rd_ct, rd_ct, rd_ct, rd_ct, rd_ct, rd_ob (by decide), rd_ob (by decide), rd_ob (by decide)]
    exact ib k hk)
  rw [show ((0 : Nat) : Int) = 0 from rfl] at e
  refine ⟨cpy (cpy m 19 16) 20 16, ?_, ?_, ?_, ?_, ?_⟩
  · unfold D_X0_takeOver
    exact e
  · intro k hk
    rw [rd_cr (by omega), rd_cr (by omega), f, if_neg (by omega), rd_cr (by omega), rd_cr (by omega), rd_cr (by omega), rd_cr (by omega), rd_cr (by omega), rd_cr (by omega), rd_cr (by omega), rd_cr (by omega)]
    rcases (by omega : k = 0 ∨ k = 1 ∨ k = 2) with rfl | rfl | rfl
    · rw [rdx (by omega), rdx (by omega), rd_s]
    · rw [rdx (by omega), rd_s]
    · rw [rd_s]
  · intro r k hk
    have w : ∀ v x y z : Int, ∀ q : Nat, 10 ≤ q → rd (wr (wr (wr a 0 false 0 x) 0 false 1 y) 0 false 2 z) q true k = rd a q true k := fun v x y z q hq => by
      rw [rdx (by omega), rdx (by omega), rdx (by omega)]
    rcases (by omega : r = 10 ∨ r = 11 ∨ r = 12 ∨ r = 13 ∨ r = 14 ∨ r = 15 ∨ r = 16 ∨ r = 17 ∨ r = 18 ∨ r = 19 ∨ r = 20) with rfl | rfl | rfl | rfl | rfl | rfl | rfl | rfl | rfl | rfl | rfl
    · rw [rd_cr (by omega), rd_cr (by omega), f, if_neg (by omega), rd_cr (by omega), rd_cr (by omega), rd_cr (by omega), rd_cr (by omega), rd_cr (by omega), rd_cr (by omega), rd_cr (by omega), rd_cpy, if_pos ⟨rfl, rfl, by omega⟩]
      exact w 0 _ _ _ 10 (by omega)
    · rw [rd_cr (by omega), rd_cr (by omega), f, if_neg (by omega), rd_cr (by omega), rd_cr (by omega), rd_cr (by omega), rd_cr (by omega), rd_cr (by omega), rd_cr (by omega), rd_cpy, if_pos ⟨rfl, rfl, by omega⟩, rd_ct]
      exact w 0 _ _ _ 11 (by omega)
    · rw [rd_cr (by omega), rd_cr (by omega), f, if_neg (by omega), rd_cr (by omega), rd_cr (by omega), rd_cr (by omega), rd_cr (by omega), rd_cr (by omega), rd_cpy, if_pos ⟨rfl, rfl, by omega⟩, rd_ct, rd_ct]
      exact w 0 _ _ _ 12 (by omega)
    · rw [rd_cr (by omega), rd_cr (by omega), f, if_neg (by omega), rd_cr (by omega), rd_cr (by omega), rd_cr (by omega), rd_cr (by omega), rd_cpy, if_pos ⟨rfl, rfl, by omega⟩, rd_ct, rd_ct, rd_ct]
      exact w 0 _ _ _ 13 (by omega)
    · rw [rd_cr (by omega), rd_cr (by omega), f, if_neg (by omega), rd_cr (by omega), rd_cr (by omega), rd_cr (by omega), rd_cpy, if_pos ⟨rfl, rfl, by omega⟩, rd_ct, rd_ct, rd_ct, rd_ct]
      exact w 0 _ _ _ 14 (by omega)
    · rw [rd_cr (by omega), rd_cr (by omega), f, if_neg (by omega), rd_cr (by omega), rd_cr (by omega), rd_cpy, if_pos ⟨rfl, rfl, by omega⟩, rd_ct, rd_ct, rd_ct, rd_ct, rd_ct]
      exact w 0 _ _ _ 15 (by omega)
    · rw [rd_cr (by omega), rd_cr (by omega), f, if_neg (by omega), rd_cr (by omega), rd_cpy, if_pos ⟨rfl, rfl, by omega⟩, rd_ct, rd_ct, rd_ct, rd_ct, rd_ct, rd_ct]
      exact w 0 _ _ _ 16 (by omega)
    · rw [rd_cr (by omega), rd_cr (by omega), f, if_neg (by omega), rd_cpy, if_pos ⟨rfl, rfl, by omega⟩, rd_ct, rd_ct, rd_ct, rd_ct, rd_ct, rd_ct, rd_ct]
      exact w 0 _ _ _ 17 (by omega)
    · rw [rd_cr (by omega), rd_cr (by omega), f, if_pos ⟨rfl, rfl, by omega, by omega⟩, rd_ct, rd_ct, rd_ct, rd_ct, rd_ct, rd_ct, rd_ct, rd_ct]
      exact w 0 _ _ _ 18 (by omega)
    · rw [rd_cr (by omega), rd_cpy, if_pos ⟨rfl, rfl, by omega⟩, f, if_neg (fun q => by cases q.2.1), rd_ct, rd_ct, rd_ct, rd_ct, rd_ct, rd_ct, rd_ct, rd_ct]
      exact w 0 _ _ _ 19 (by omega)
    · rw [rd_cpy, if_pos ⟨rfl, rfl, by omega⟩, rd_ct, f, if_neg (fun q => by cases q.2.1), rd_ct, rd_ct, rd_ct, rd_ct, rd_ct, rd_ct, rd_ct, rd_ct]
      exact w 0 _ _ _ 20 (by omega)
  · intro r j
    rw [rd_ct, rd_ct, f, if_neg (fun q => by cases q.2.1), rd_ct, rd_ct, rd_ct, rd_ct, rd_ct, rd_ct, rd_ct, rd_ct, rd_ob (by decide), rd_ob (by decide), rd_ob (by decide)]
  · intro r j h0 h1
    rw [rd_cr (by omega), rd_cr (by omega), f, if_neg (by omega), rd_cr (by omega), rd_cr (by omega), rd_cr (by omega), rd_cr (by omega), rd_cr (by omega), rd_cr (by omega), rd_cr (by omega), rd_cr (by omega), rdx (by omega), rdx (by omega), rdx (by omega)]
theorem mp_36 : ∀ (d n x : Nat) (μ : Mi), x + d = 4 → d < n → ∃ m, B_X7_map_36 n (x : Int) μ = B_X7_map_61 FU 0 m ∧ ∀ r i j, rd m r i j = if r = 49 ∧ i = false ∧ x ≤ j ∧ j < 4 then rd μ 44 false j else rd μ r i j := by
  intro d
  induction d with
  | zero =>
    intro n x μ hx hn
    obtain ⟨n, rfl⟩ : ∃ q, n = q + 1 := ⟨n - 1, by omega⟩
    refine ⟨μ, ?_, fun r i j => by rw [if_neg (by omega)]⟩
    rw [B_X7_map_36_s, F_X7_map_36, wid (x := (x : Int)) (by omega) (by omega), if_pos (by omega)]
  | succ d ih =>
    intro n x μ hx hn
    obtain ⟨n, rfl⟩ : ∃ q, n = q + 1 := ⟨n - 1, by omega⟩
    obtain ⟨m, a1, a2⟩ := ih n (x + 1) (wr μ 49 false x (rd μ 44 false x)) (by omega) (by omega)
    refine ⟨m, ?_, fun r i j => ?_⟩
    · rw [B_X7_map_36_s, F_X7_map_36, wid (x := (x : Int)) (by omega) (by omega), if_neg (by omega), if_pos (by omega), if_pos (by omega), ixn x (by omega), show (x : Int) + 1 = ((x + 1 : Nat) : Int) by omega]
      exact a1
    · rw [a2]
      by_cases u : r = 49 ∧ i = false ∧ x ≤ j ∧ j < 4
      · rw [if_pos u]
        by_cases e : j = x
        · rw [if_neg (by omega), e, u.1, u.2.1, rd_s]
        · rw [if_pos ⟨u.1, u.2.1, by omega, u.2.2.2⟩, rdx (by omega)]
      · rw [if_neg u, if_neg (fun w => u ⟨w.1, w.2.1, by omega, w.2.2.2⟩), rd_wr, if_neg (fun w => u ⟨w.1, w.2.1, by omega, by omega⟩)]
theorem mp_61 : ∀ (d n x : Nat) (μ : Mi), x + d = 8 → d < n → ∃ m, B_X7_map_61 n (x : Int) μ = B_X7_map_99 FU 0 m ∧ ∀ r i j, rd m r i j = if (r = 50 ∨ r = 51) ∧ i = false ∧ x ≤ j ∧ j < 8 then rd μ (r - 4) false j else rd μ r i j := by
  intro d
  induction d with
  | zero =>
    intro n x μ hx hn
    obtain ⟨n, rfl⟩ : ∃ q, n = q + 1 := ⟨n - 1, by omega⟩
    refine ⟨μ, ?_, fun r i j => by rw [if_neg (by omega)]⟩
    rw [B_X7_map_61_s, F_X7_map_61, wid (x := (x : Int)) (by omega) (by omega), if_pos (by omega)]
  | succ d ih =>
    intro n x μ hx hn
    obtain ⟨n, rfl⟩ : ∃ q, n = q + 1 := ⟨n - 1, by omega⟩
    have hb : 0 ≤ (x : Int) ∧ (x : Int) < 8 := by omega
    obtain ⟨m, a1, a2⟩ := ih n (x + 1) (wr (wr μ 50 false x (rd μ 46 false x)) 51 false x (rd μ 47 false x)) (by omega) (by omega)
    refine ⟨m, ?_, fun r i j => ?_⟩
    · rw [B_X7_map_61_s, F_X7_map_61, wid (x := (x : Int)) (by omega) (by omega), if_neg (by omega), if_pos hb, if_pos hb, if_pos hb, if_pos hb, ixn x (by omega), show (x : Int) + 1 = ((x + 1 : Nat) : Int) by omega]
      exact a1
    · rw [a2]
      by_cases u : (r = 50 ∨ r = 51) ∧ i = false ∧ x ≤ j ∧ j < 8
      · rw [if_pos u]
        by_cases e : j = x
        · rw [if_neg (by omega), e, u.2.1]
          rcases u.1 with w | w
          · rw [w, rdx (by omega), rd_s]
          · rw [w, rd_s]
        · rw [if_pos ⟨u.1, u.2.1, by omega, u.2.2.2⟩, rdx (by omega), rdx (by omega)]
      · rw [if_neg u, if_neg (fun w => u ⟨w.1, w.2.1, by omega, w.2.2.2⟩), rd_wr, if_neg (fun w => u ⟨by omega, w.2.1, by omega, by omega⟩), rd_wr, if_neg (fun w => u ⟨by omega, w.2.1, by omega, by omega⟩)]
theorem mp_99 : ∀ (d n x : Nat) (μ : Mi), x + d = 96 → d < n → ∃ m, B_X7_map_99 n (x : Int) μ = B_X7_map_125 FU 0 m ∧ ∀ r i j, rd m r i j = if r = 52 ∧ i = false ∧ x ≤ j ∧ j < 96 then rd μ 48 false j else rd μ r i j := by
  intro d
  induction d with
  | zero =>
    intro n x μ hx hn
    obtain ⟨n, rfl⟩ : ∃ q, n = q + 1 := ⟨n - 1, by omega⟩
    refine ⟨μ, ?_, fun r i j => by rw [if_neg (by omega)]⟩
    rw [B_X7_map_99_s, F_X7_map_99, wid (x := (x : Int)) (by omega) (by omega), if_pos (by omega)]
  | succ d ih =>
    intro n x μ hx hn
    obtain ⟨n, rfl⟩ : ∃ q, n = q + 1 := ⟨n - 1, by omega⟩
    obtain ⟨m, a1, a2⟩ := ih n (x + 1) (wr μ 52 false x (rd μ 48 false x)) (by omega) (by omega)
    refine ⟨m, ?_, fun r i j => ?_⟩
    · rw [B_X7_map_99_s, F_X7_map_99, wid (x := (x : Int)) (by omega) (by omega), if_neg (by omega), if_pos (by omega), if_pos (by omega), ixn x (by omega), show (x : Int) + 1 = ((x + 1 : Nat) : Int) by omega]
      exact a1
    · rw [a2]
      by_cases u : r = 52 ∧ i = false ∧ x ≤ j ∧ j < 96
      · rw [if_pos u]
        by_cases e : j = x
        · rw [if_neg (by omega), e, u.1, u.2.1, rd_s]
        · rw [if_pos ⟨u.1, u.2.1, by omega, u.2.2.2⟩, rdx (by omega)]
      · rw [if_neg u, if_neg (fun w => u ⟨w.1, w.2.1, by omega, w.2.2.2⟩), rd_wr, if_neg (fun w => u ⟨w.1, w.2.1, by omega, by omega⟩)]
theorem mp_125 {μ : Mi} : ∃ m, B_X7_map_125 FU 0 μ = some (rd μ 7 false 17, m) ∧ (∀ k, k < 2 → rd m 53 false k = 0 ∧ rd m 54 false k = 0 ∧ rd m 55 false k = 96 ∧ rd m 56 false k = 0) ∧ rd m 7 false 32 = 0 ∧ rd m 7 false 1 = 0 ∧ ∀ r i j, ¬ (53 ≤ r ∧ r ≤ 56) → ¬ (r = 7 ∧ (j = 32 ∨ j = 1)) → rd m r i j = rd μ r i j := by
  have e0 : B_X7_map_125 FU 0 μ = B_X7_map_125 999998 2 (wr (wr (wr (wr (wr (wr (wr (wr μ 53 false 0 0) 54 false 0 0) 55 false 0 96) 56 false 0 0) 53 false 1 0) 54 false 1 0) 55 false 1 96) 56 false 1 0) := by
    show B_X7_map_125 (999999 + 1) 0 μ = _
    rw [B_X7_map_125_s, F_X7_map_125, if_neg (by decide), if_pos (by decide), if_pos (by decide), if_pos (by decide), if_pos (by decide)]
    show B_X7_map_125 (999998 + 1) (0 + 1) _ = _
    rw [B_X7_map_125_s, F_X7_map_125, if_neg (by decide), if_pos (by decide), if_pos (by decide), if_pos (by decide), if_pos (by decide)]
    rfl
  refine ⟨wr (wr (wr (wr (wr (wr (wr (wr (wr (wr μ 53 false 0 0) 54 false 0 0) 55 false 0 96) 56 false 0 0) 53 false 1 0) 54 false 1 0) 55 false 1 96) 56 false 1 0) 7 false 32 0) 7 false 1 0, ?_, ?_, ?_, rd_s, ?_⟩
  · rw [e0]
    show B_X7_map_125 (999997 + 1) 2 _ = _
    rw [B_X7_map_125_s, F_X7_map_125, if_pos (by decide), rdx (by omega), rdx (by omega), rdx (by omega), rdx (by omega), rdx (by omega), rdx (by omega), rdx (by omega), rdx (by omega)]
  · intro k hk
    rcases (by omega : k = 0 ∨ k = 1) with rfl | rfl
    · refine ⟨?_, ?_, ?_, ?_⟩ <;> simp [rd_wr]
    · refine ⟨?_, ?_, ?_, ?_⟩ <;> simp [rd_wr]
  · rw [rdx (by omega), rd_s]
  · intro r i j h1 h2
    rw [rdx (by omega), rdx (by omega), rdx (by omega), rdx (by omega), rdx (by omega), rdx (by omega), rdx (by omega), rdx (by omega), rdx (by omega), rdx (by omega)]
theorem new_X {i : Bool} {μ : Mi} : ∃ m, D_X2_startAnew i μ = some m ∧ rd m 2 i 0 = 0 ∧ rd m 2 i 1 = 0 ∧ rd m 2 i 2 = 96 ∧ rd m 2 i 3 = 0 ∧ rd m 2 i 4 = 1 ∧ (∀ r i' j, ¬ (r = 2 ∧ i' = i) → rd m r i' j = rd μ r i' j) := by
  refine ⟨_, rfl, ?_, ?_, ?_, ?_, rd_s, ?_⟩
  · rw [rdx (by omega), rdx (by omega), rdx (by omega), rd_s]
  · rw [rdx (by omega), rdx (by omega), rd_s]
  · rw [rdx (by omega), rd_s]
  · rw [rdx (by omega), rdx (by omega), rdx (by omega), rdx (by omega), rd_s]
  · intro r i' j h
    rw [rd_wr, if_neg (fun w => h ⟨w.1, w.2.1⟩), rd_wr, if_neg (fun w => h ⟨w.1, w.2.1⟩), rd_wr, if_neg (fun w => h ⟨w.1, w.2.1⟩), rd_wr, if_neg (fun w => h ⟨w.1, w.2.1⟩), rd_wr, if_neg (fun w => h ⟨w.1, w.2.1⟩)]
theorem op_map {μ : Mi} (I : Inv μ) (ib : IB μ) : OpB D_X6_map D_X7_map μ := by
  obtain ⟨hT, hA, hM, hS, hC⟩ := I.1
  obtain ⟨t1, t2, t3, t4⟩ := hT
  obtain ⟨N, hN⟩ : ∃ N : Nat, rd μ 6 false 1 = (N : Int) := ⟨(rd μ 6 false 1).toNat, by omega⟩
  have B : TB (fun j => rd μ 41 false j) N := ⟨by omega, fun j hj => (t4 j hj).2⟩
  obtain ⟨r, a, b, x, y, o⟩ := fault_pair (μ := μ) (b0 := μ) B (fun j _ => rfl) ⟨by rw [t3]; exact hN, fun j hj => (t4 j hj).1⟩ ib
  have ea := faultOf_fr x
  -- the pair from any memory with the same text
  have pair : ∀ m : Mi, rd m 7 false 1 = (N : Int) → (∀ j, j < 500 → rd m 42 false j = rd μ 41 false j) → ∃ b', D_X7_fault m = some (r, b') ∧ OutF r a b' := fun m h1 h2 => by
    obtain ⟨r', a', b', x', y', o'⟩ := fault_pair (μ := μ) (b0 := m) B (fun j _ => rfl) ⟨h1, h2⟩ ib
    rw [x] at x'
    have hxx := Option.some.inj x'
    have hr : r' = r := (congrArg Prod.fst hxx).symm
    have haa : a' = a := (congrArg Prod.snd hxx).symm
    subst hr
    subst haa
    exact ⟨b', y', o'⟩
  have hr := o.1
  have hr5 := o.2.1
  by_cases z : r = -1
  rotate_left
  · -- a fault: nothing changes
    obtain ⟨b', y', o'⟩ := pair a (by rw [ea 7 false 1 (by omega) (by omega), t3]; exact hN) (fun j hj => by rw [ea 42 false j (by omega) (by omega)]; exact (t4 j hj).1)
    have hX : D_X6_map μ = some (-1, a) := by
      unfold D_X6_map
      rw [hN, x, bd_k, wid (x := r) (by omega) (by omega), if_neg z]
    have hM' : D_X7_map a = some (-1, b') := by
      unfold D_X7_map
      rw [y', bd_k, wid (x := r) (by omega) (by omega), if_neg z]
    have G := fr_X7_fault y'
    have eb : ∀ r i j, ¬ (r = 7 ∧ 2 ≤ j ∧ (j ≤ 13 ∨ j = 35)) ∧ ¬ (43 ≤ r ∧ r ≤ 48) → rd b' r i j = rd a r i j := fun r i j w => frFd G (by decide) w
    have e : ∀ r i j, ¬ (r = 7 ∧ 2 ≤ j ∧ (j ≤ 13 ∨ j = 35)) ∧ ¬ (43 ≤ r ∧ r ≤ 48) → ¬ (r = 3 ∨ r = 30 ∨ r = 31) → ((r = 0 ∨ (10 ≤ r ∧ r ≤ 20)) → i = false) → rd b' r i j = rd μ r i j := fun r i j w1 w2 w3 => (eb r i j w1).trans (ea r i j w2 w3)
    refine ⟨-1, a, b', hX, hM', I.step ⟨⟨?_, hA.trf (fun r k w => e r false k (by omega) (by omega) (fun _ => rfl)), fun i => (hM i).tr (fun r k w => e r i k (by omega) (by omega) (by omega)) (fun r k w => e r false k (by omega) (by omega) (fun _ => rfl)) (fun k w => e 0 false k (by omega) (by omega) (fun _ => rfl)), hS.trf (fun r k w => e r false k (by omega) (by omega) (fun _ => rfl)), chg.tr hC (fun i => Or.inl (e 2 i 4 (by omega) (by omega) (by omega)))⟩, fun i => Kp.of (fun r k w => e r false k (by omega) (by omega) (fun _ => rfl)) (fun r k w => e r i k (by omega) (by omega) (by omega))⟩, fun k hk => ?_⟩
    · exact IText.tr ⟨t1, t2, t3, t4⟩ (fun r i k w => e r i k (by omega) (by omega) (by omega))
    · rw [eb 18 true k (by omega)]
      exact o'.2.2.1 k hk
  -- a new map
  obtain ⟨m1, a1, a2, a3, a4, a5⟩ := take_X (a := a) o.2.2.1
  obtain ⟨m2, b1, b2, b3, b4, b5, b6, b7⟩ := new_X (i := false) (μ := wr m1 6 false 1 0)
  obtain ⟨m3, c1, c2, c3, c4, c5, c6, c7⟩ := new_X (i := true) (μ := m2)
  obtain ⟨m4, hm4⟩ : ∃ m4, m4 = wr m3 5 false 0 0 := ⟨_, rfl⟩
  -- the class's memory
  have k1 : ∀ r j, ¬ (r = 5 ∧ j = 0) → ¬ r = 2 → ¬ (r = 6 ∧ j = 1) → rd m4 r false j = rd m1 r false j := fun r j w1 w2 w3 => by
    rw [hm4, rdx (by omega), c7 r false j (by omega), b7 r false j (by omega), rdx (by omega)]
  have k1t : ∀ r j, ¬ r = 2 → ¬ r = 5 → ¬ r = 6 → rd m4 r true j = rd m1 r true j := fun r j w1 w2 w3 => by
    rw [hm4, rdx (by omega), c7 r true j (by omega), b7 r true j (by omega), rdx (by omega)]
  have k2 : ∀ r j, ¬ (r = 0 ∨ (10 ≤ r ∧ r ≤ 20)) → ¬ (r = 3 ∨ r = 30 ∨ r = 31) → ¬ (r = 5 ∧ j = 0) → ¬ r = 2 → ¬ (r = 6 ∧ j = 1) → rd m4 r false j = rd μ r false j := fun r j w1 w2 w3 w4 w5 => by
    rw [k1 r j w3 w4 w5, a5 r j (by omega) (by omega), ea r false j (by omega) (fun _ => rfl)]
  obtain ⟨b', y', o'⟩ := pair m4 (by rw [k2 7 1 (by omega) (by omega) (by omega) (by omega) (by omega), t3]; exact hN) (fun j hj => by rw [k2 42 j (by omega) (by omega) (by omega) (by omega) (by omega)]; exact (t4 j hj).1)
  obtain ⟨nl, nt, nk, D, hnt⟩ := o'.2.2.2 z
  obtain ⟨⟨⟨n1, n2, n3, -⟩, n5, n6, n7, -⟩, d1, d2, ⟨d3, d4, d5⟩, d6, d7⟩ := D
  have G := fr_X7_fault y'
  have eb : ∀ r i j, ¬ (r = 7 ∧ 2 ≤ j ∧ (j ≤ 13 ∨ j = 35)) ∧ ¬ (43 ≤ r ∧ r ≤ 48) → rd b' r i j = rd m4 r i j := fun r i j w => frFd G (by decide) w
  obtain ⟨p0, hp0⟩ : ∃ p0, p0 = wr (wr (wr b' 7 false 15 (nl : Int)) 7 false 17 (nt : Int)) 7 false 20 (nk : Int) := ⟨_, rfl⟩
  obtain ⟨p1, e1, f1⟩ := mp_36 4 FU 0 p0 (by omega) (FU_gt (by omega))
  obtain ⟨p2, e2, f2⟩ := mp_61 8 FU 0 p1 (by omega) (FU_gt (by omega))
  obtain ⟨p3, e3, f3⟩ := mp_99 96 FU 0 p2 (by omega) (FU_gt (by omega))
  obtain ⟨p4, e4, g1, g2, g3, f4⟩ := mp_125 (μ := p3)
  rw [show ((0 : Nat) : Int) = 0 from rfl] at e1 e2 e3
  -- the reference's memory
  have q0 : ∀ r i j, ¬ (r = 7 ∧ (j = 15 ∨ j = 17 ∨ j = 20)) → rd p0 r i j = rd b' r i j := fun r i j w => by
    rw [hp0, rdx (by omega), rdx (by omega), rdx (by omega)]
  have q3 : ∀ r i j, ¬ (49 ≤ r ∧ r ≤ 52) → rd p3 r i j = rd p0 r i j := fun r i j w => by
    rw [f3, if_neg (by omega), f2, if_neg (by omega), f1, if_neg (by omega)]
  have q4 : ∀ r i j, ¬ (49 ≤ r ∧ r ≤ 56) → ¬ (r = 7 ∧ (j = 32 ∨ j = 1 ∨ j = 15 ∨ j = 17 ∨ j = 20)) → rd p4 r i j = rd b' r i j := fun r i j w1 w2 => by
    rw [f4 r i j (by omega) (by omega), q3 r i j (by omega), q0 r i j (by omega)]
  have h17 : rd p4 7 false 17 = (nt : Int) := by
    rw [f4 7 false 17 (by omega) (by omega), q3 7 false 17 (by omega), hp0, rdx (by omega), rd_s]
  have h15 : rd p4 7 false 15 = (nl : Int) := by
    rw [f4 7 false 15 (by omega) (by omega), q3 7 false 15 (by omega), hp0, rdx (by omega), rdx (by omega), rd_s]
  have h20 : rd p4 7 false 20 = (nk : Int) := by
    rw [f4 7 false 20 (by omega) (by omega), q3 7 false 20 (by omega), hp0, rd_s]
  have v49 : ∀ k, k < 4 → rd p4 49 false k = rd b' 44 false k := fun k hk => by
    rw [f4 49 false k (by omega) (by omega), f3, if_neg (by omega), f2, if_neg (by omega), f1, if_pos ⟨rfl, rfl, by omega, hk⟩, q0 44 false k (by omega)]
  have v50 : ∀ k, k < 8 → rd p4 50 false k = rd b' 46 false k := fun k hk => by
    rw [f4 50 false k (by omega) (by omega), f3, if_neg (by omega), f2, if_pos ⟨Or.inl rfl, rfl, by omega, hk⟩, show 50 - 4 = 46 from rfl, f1, if_neg (by omega), q0 46 false k (by omega)]
  have v51 : ∀ k, k < 8 → rd p4 51 false k = rd b' 47 false k := fun k hk => by
    rw [f4 51 false k (by omega) (by omega), f3, if_neg (by omega), f2, if_pos ⟨Or.inr rfl, rfl, by omega, hk⟩, show 51 - 4 = 47 from rfl, f1, if_neg (by omega), q0 47 false k (by omega)]
  have v52 : ∀ k, k < 96 → rd p4 52 false k = rd b' 48 false k := fun k hk => by
    rw [f4 52 false k (by omega) (by omega), f3, if_pos ⟨rfl, rfl, by omega, hk⟩, f2, if_neg (by omega), f1, if_neg (by omega), q0 48 false k (by omega)]
  -- the atlas
  have u0 : ∀ k, k < 3 → rd p4 0 false k = rd a 0 true k := fun k hk => by
    rw [q4 0 false k (by omega) (by omega), eb 0 false k (by omega), k1 0 k (by omega) (by omega) (by omega), a2 k hk]
  have ur : ∀ r k, (r = 10 ∧ k < 4) ∨ (11 ≤ r ∧ r ≤ 12 ∧ k < 8) ∨ (13 ≤ r ∧ r ≤ 20 ∧ k < 16) → rd p4 r false k = rd a r true k := fun r k w => by
    rw [q4 r false k (by omega) (by omega), eb r false k (by omega), k1 r k (by omega) (by omega) (by omega), a3 r k w]
  have um : ∀ i k, rd p4 2 i k = rd m4 2 i k := fun i k => by
    rw [q4 2 i k (by omega) (by omega), eb 2 i k (by omega)]
  have umF : ∀ k, rd m4 2 false k = rd m2 2 false k := fun k => by
    rw [hm4, rdx (by omega), c7 2 false k (by decide)]
  have umT : ∀ k, rd m4 2 true k = rd m3 2 true k := fun k => by
    rw [hm4, rdx (by omega)]
  have men : ∀ i, rd p4 2 i 0 = 0 ∧ rd p4 2 i 1 = 0 ∧ rd p4 2 i 2 = 96 ∧ rd p4 2 i 3 = 0 ∧ rd p4 2 i 4 = 1 := fun i => by
    rw [um, um, um, um, um]
    cases i with
    | false => rw [umF, umF, umF, umF, umF]; exact ⟨b2, b3, b4, b5, b6⟩
    | true => rw [umT, umT, umT, umT, umT]; exact ⟨c2, c3, c4, c5, c6⟩
  have hX : D_X6_map μ = some ((nt : Int), m4) := by
    unfold D_X6_map
    rw [hN, x, bd_k, wid (x := r) (by omega) (by omega), if_pos z, a1, bm_k, b1, bm_k, c1, bm_k, hm4]
    rw [c7 0 false 1 (by omega), b7 0 false 1 (by omega), rdx (by omega), a2 1 (by omega), n6]
  have hM' : D_X7_map m4 = some ((nt : Int), p4) := by
    unfold D_X7_map
    rw [y', bd_k, wid (x := r) (by omega) (by omega), if_pos z, n3, n7, d5, ← hp0, e1, e2, e3, e4, ← h17, f4 7 false 17 (by omega) (by omega)]
  refine ⟨(nt : Int), m4, p4, hX, hM', I.step ⟨⟨?_, ?_, fun i => ?_, ?_, fun i => Or.inr (men i).2.2.2.2⟩, fun i => Or.inl (men i).2.2.2.2⟩, fun k hk => ?_⟩
  · have e61 : rd p4 6 false 1 = 0 := by
      rw [q4 6 false 1 (by omega) (by omega), eb 6 false 1 (by omega), hm4, rdx (by omega), c7 6 false 1 (by omega), b7 6 false 1 (by omega), rd_s]
    refine ⟨by omega, by omega, by rw [g3, e61], fun j hj => ?_⟩
    rw [q4 42 false j (by omega) (by omega), eb 42 false j (by omega), k2 42 j (by omega) (by omega) (by omega) (by omega) (by omega), q4 41 false j (by omega) (by omega), eb 41 false j (by omega), k2 41 j (by omega) (by omega) (by omega) (by omega) (by omega)]
    exact t4 j hj
  · unfold IAtlas
    rw [u0 0 (by omega), u0 1 (by omega), u0 2 (by omega), h15, h17, h20, n2, n6, d4]
    refine ⟨⟨by omega, by omega, rfl⟩, ⟨by omega, by omega, rfl⟩, ⟨by omega, by omega, rfl⟩, fun k hk => ?_, fun k hk => ?_, fun k hk => ?_⟩
    · unfold ILand
      rw [ur 10 k (by omega), v49 k (by omega)]
      exact d1 k (by omega)
    · unfold ITown
      rw [ur 11 k (by omega), ur 12 k (by omega), v50 k (by omega), v51 k (by omega), u0 0 (by omega), n2]
      exact d2 k (by omega)
    · have L := d6 k (by omega)
      have st : ∀ p q w : Int, 0 ≤ p ∧ p < (nt : Int) → 0 ≤ q ∧ q < (nt : Int) → stL0 p4 p q w = stL1 a p q w := fun p q w hp hq => by
        have l := d2 p.toNat (by omega)
        unfold stL0 stL1
        rw [ur 11 p.toNat (by omega), ur 11 q.toNat (by omega), ur 10 _ (by omega)]
      unfold ILink
      unfold LkR at L
      obtain ⟨⟨l1, l2, l3⟩, ⟨l4, l5, l6⟩, l7, l8, l9, l10, l11, l12, l13⟩ := L
      rw [ur 13 k (by omega), ur 14 k (by omega), ur 15 k (by omega), ur 16 k (by omega), ur 17 k (by omega), ur 18 k (by omega), ur 19 k (by omega), ur 20 k (by omega), u0 1 (by omega), n6, st _ _ _ ⟨l1, l2⟩ ⟨l4, l5⟩, st _ _ _ ⟨l4, l5⟩ ⟨l1, l2⟩, v52 (6 * k) (by omega), v52 (6 * k + 1) (by omega), v52 (6 * k + 2) (by omega), v52 (6 * k + 3) (by omega), v52 (6 * k + 4) (by omega), v52 (6 * k + 5) (by omega)]
      exact ⟨⟨l1, l2, l3⟩, ⟨l4, l5, l6⟩, l7, l8, l9, l10, l11, l12, l13⟩
  · obtain ⟨w1, w2, w3, w4, w5⟩ := men i
    have hmi := mi_le i
    obtain ⟨s1, s2, s3, s4⟩ := g1 (mi i) (by omega)
    unfold IMan
    rw [w1, w2, w3, w4, s1, s2, s3, s4, u0 1 (by omega), n6]
    exact ⟨⟨by omega, by omega, rfl⟩, fun _ => ⟨⟨by omega, by omega, rfl⟩, ⟨by omega, by omega, rfl⟩, ⟨by omega, by omega, rfl⟩⟩, fun t ht => by omega, Nat.zero_le _, Nat.zero_le _⟩
  · have e5 : rd p4 5 false 0 = 0 := by
      rw [q4 5 false 0 (by omega) (by omega), eb 5 false 0 (by omega), hm4, rd_s]
    unfold IStory
    rw [e5, g2]
    exact ⟨⟨by omega, by omega, rfl⟩, fun k hk => by omega⟩
  · rw [q4 18 true k (by omega) (by omega), eb 18 true k (by omega), k1t 18 k (by omega) (by omega) (by omega), a4 18 k]
    exact d7 k hk
