/-! PURE: a whole line; the fault -/
theorem link_75 {tx : Nat → Int} {N p q K Q nl nt nk : Nat} {a0 b0 a b : Mi} {x y d hi : Int} (h : SRa tx N p q K a) (g : SRb tx N p q K b) (D : DR a0 b0 nl nt nk) (hn : nk < 16) (hx : 0 ≤ x ∧ x < (nt : Int)) (hy : 0 ≤ y ∧ y < (nt : Int)) (hne : ¬ x = y) (hd : d = 0 ∨ d = 1) (hh : 0 ≤ hi ∧ hi ≤ 95) (FA : FrA a0 a) (L : LB b0 b nk [x, y]) (hq : Q ≤ q) : ∃ r a' b', B_X3_readLink_75 d x y hi 0 a = some (r, a') ∧ B_X7_linkLine_118 d ((6 * nk : Nat) : Int) hi 0 b = some (r, b') ∧ OutL tx N Q r a' b' := by
  have hb : ∀ j : Nat, j < 6 → w32 (((6 * nk : Nat) : Int) + (j : Int)) = ((6 * nk + j : Nat) : Int) := fun j hj => by rw [wid (by omega) (by omega)]; omega
  have hi2 : ((6 * nk : Nat) : Int) + 2 = ((6 * nk + 2 : Nat) : Int) := by omega
  have hi3 : ((6 * nk : Nat) : Int) + 3 = ((6 * nk + 3 : Nat) : Int) := by omega
  have hi4 : ((6 * nk : Nat) : Int) + 4 = ((6 * nk + 4 : Nat) : Int) := by omega
  have hi5 : ((6 * nk : Nat) : Int) + 5 = ((6 * nk + 5 : Nat) : Int) := by omega
  unfold B_X3_readLink_75 B_X7_linkLine_118
  rcases num_at h g (lo := 0) (hi := hi) (by omega) (by omega) with ⟨f1, f2⟩ | ⟨hr, a1, b1, p1, q1, K1, f1, f2, f3, f4, f5, f6, f7, h1, g1, F1, G1, l1⟩
  · rw [f1, f2, bd_k, if_neg (show ¬ ¬ w32 0 = 0 by decide), if_neg (show ¬ ¬ w32 0 = 0 by decide)]
    exact ⟨0, a, b, rfl, rfl, OutL.no D FA h g⟩
  have L1 : LB b0 b1 nk [x, y] := L.n.fr G1
  obtain ⟨b2, hb2⟩ : ∃ b2, b2 = wr b1 48 false (6 * nk + 2) hr := ⟨_, rfl⟩
  have g2 : SRb tx N p1 q1 K1 b2 := by rw [hb2]; exact g1.w (by omega)
  have L2 : LB b0 b2 nk [x, y, hr] := by rw [hb2]; exact L1.put rfl
  rw [f1, f2, f5, f6, bm_k, bd_k, if_pos (show ¬ w32 1 = 0 by decide), if_pos (show ¬ w32 1 = 0 by decide), f7, hi2, wid (x := ((6 * nk + 2 : Nat) : Int)) (by omega) (by omega), if_pos (show 0 ≤ ((6 * nk + 2 : Nat) : Int) ∧ ((6 * nk + 2 : Nat) : Int) < 96 by omega), ixn _ (by omega), ← hb2]
  rcases pass_at h1 g2 (k := 12) (by omega) with ⟨e1, e2⟩ | ⟨a3, b3, p3, q3, K3, e1, e2, h3, g3, F3, G3, l3⟩
  · rw [e1, e2, bd_k, bd_k, if_pos (show w32 0 = 0 by decide), if_pos (show w32 0 = 0 by decide)]
    exact ⟨0, a1, b2, rfl, rfl, OutL.no D (FA.tr F1) h1 g2⟩
  have L3 := L2.fr G3
  rw [e1, e2, bd_k, bd_k, if_neg (show ¬ w32 1 = 0 by decide), if_neg (show ¬ w32 1 = 0 by decide)]
  rcases num_at h3 g3 (lo := 1) (hi := 48) (by omega) (by omega) with ⟨f1', f2'⟩ | ⟨la, a4, b4, p4, q4, K4, f1', f2', f3', f4', f5', f6', f7', h4, g4, F4, G4, l4⟩
  · rw [f1', f2', bd_k, if_neg (show ¬ ¬ w32 0 = 0 by decide), if_neg (show ¬ ¬ w32 0 = 0 by decide)]
    exact ⟨0, a3, b3, rfl, rfl, OutL.no D ((FA.tr F1).tr F3) h3 g3⟩
  have L4 : LB b0 b4 nk [x, y, hr] := L3.n.fr G4
  obtain ⟨b5, hb5⟩ : ∃ b5, b5 = wr b4 48 false (6 * nk + 3) la := ⟨_, rfl⟩
  have g5 : SRb tx N p4 q4 K4 b5 := by rw [hb5]; exact g4.w (by omega)
  have L5 : LB b0 b5 nk [x, y, hr, la] := by rw [hb5]; exact L4.put rfl
  rw [f1', f2', f5', f6', bm_k, bd_k, if_pos (show ¬ w32 1 = 0 by decide), if_pos (show ¬ w32 1 = 0 by decide), f7', hi3, wid (x := ((6 * nk + 3 : Nat) : Int)) (by omega) (by omega), if_pos (show 0 ≤ ((6 * nk + 3 : Nat) : Int) ∧ ((6 * nk + 3 : Nat) : Int) < 96 by omega), ixn _ (by omega), ← hb5]
  rcases pass_at h4 g5 (k := 13) (by omega) with ⟨e1', e2'⟩ | ⟨a6, b6, p6, q6, K6, e1', e2', h6, g6, F6, G6, l6⟩
  · rw [e1', e2', bd_k, bd_k, if_pos (show w32 0 = 0 by decide), if_pos (show w32 0 = 0 by decide)]
    exact ⟨0, a4, b5, rfl, rfl, OutL.no D (((FA.tr F1).tr F3).tr F4) h4 g5⟩
  have L6 := L5.fr G6
  rw [e1', e2', bd_k, bd_k, if_neg (show ¬ w32 1 = 0 by decide), if_neg (show ¬ w32 1 = 0 by decide)]
  rcases num_at h6 g6 (lo := 0) (hi := 99) (by omega) (by omega) with ⟨f1'', f2''⟩ | ⟨pr, a7, b7, p7, q7, K7, f1'', f2'', f3'', f4'', f5'', f6'', f7'', h7, g7, F7, G7, l7⟩
  · rw [f1'', f2'', bd_k, if_neg (show ¬ ¬ w32 0 = 0 by decide), if_neg (show ¬ ¬ w32 0 = 0 by decide)]
    exact ⟨0, a6, b6, rfl, rfl, OutL.no D ((((FA.tr F1).tr F3).tr F4).tr F6) h6 g6⟩
  have L7 : LB b0 b7 nk [x, y, hr, la] := L6.n.fr G7
  obtain ⟨b8, hb8⟩ : ∃ b8, b8 = wr b7 48 false (6 * nk + 4) pr := ⟨_, rfl⟩
  have g8 : SRb tx N p7 q7 K7 b8 := by rw [hb8]; exact g7.w (by omega)
  have L8 : LB b0 b8 nk [x, y, hr, la, pr] := by rw [hb8]; exact L7.put rfl
  rw [f1'', f2'', f5'', f6'', bm_k, bd_k, if_pos (show ¬ w32 1 = 0 by decide), if_pos (show ¬ w32 1 = 0 by decide), f7'', hi4, wid (x := ((6 * nk + 4 : Nat) : Int)) (by omega) (by omega), if_pos (show 0 ≤ ((6 * nk + 4 : Nat) : Int) ∧ ((6 * nk + 4 : Nat) : Int) < 96 by omega), ixn _ (by omega), ← hb8, hi5]
  have := link_tail (Q := Q) h7 g8 D hn hx hy hne hd (hr := hr) (la := la) (pr := pr) ⟨f3, by omega⟩ ⟨f3', f4'⟩ ⟨f3'', f4''⟩ ((((FA.tr F1).tr F3).tr F4).tr F6 |>.tr F7) L8 (by omega)
  rcases hd with rfl | rfl
  · rw [if_pos (show w32 0 = 0 by decide)]
    exact this
  · rw [if_neg (show ¬ w32 1 = 0 by decide)]
    exact this
theorem link_line {tx : Nat → Int} {N p q K nl nt nk : Nat} {a b : Mi} {d : Int} (h : SRa tx N p q K a) (g : SRb tx N p q K b) (D : DR a b nl nt nk) (hd : d = 0 ∨ d = 1) : ∃ r a' b', D_X3_readLink d a = some (r, a') ∧ D_X7_linkLine d b = some (r, b') ∧ OutL tx N q r a' b' := by
  obtain ⟨n1, n2, n3⟩ := D.2.2.2.1
  unfold D_X3_readLink D_X7_linkLine
  rw [n2, n3, wid (x := (nk : Int)) (by omega) (by omega)]
  by_cases z : nk = 16
  · rw [if_neg (by omega), if_neg (by omega)]
    exact ⟨0, a, b, rfl, rfl, OutL.no D FrA.rf h g⟩
  have hi0 : 6 * (nk : Int) = ((6 * nk : Nat) : Int) := by omega
  have hi1 : ((6 * nk : Nat) : Int) + 1 = ((6 * nk + 1 : Nat) : Int) := by omega
  have w0 : 0 ≤ ((6 * nk : Nat) : Int) ∧ ((6 * nk : Nat) : Int) < 96 := by omega
  have w1 : 0 ≤ ((6 * nk + 1 : Nat) : Int) ∧ ((6 * nk + 1 : Nat) : Int) < 96 := by omega
  rw [if_pos (by omega), if_pos (by omega), hi0, hi1, wid (x := ((6 * nk : Nat) : Int)) (by omega) (by omega), wid (x := ((6 * nk + 1 : Nat) : Int)) (by omega) (by omega), ixn (6 * nk) (by omega), ixn (6 * nk + 1) (by omega)]
  obtain ⟨a1, b1, p1, q1, K1, x1, y1, h1, g1, F1, G1, l1, m1⟩ := nxt h g
  have D1 := D.fr F1 G1
  have hnt := D1.1.2.1
  obtain ⟨t, t1, t2, t3, t4⟩ := town_at h1 g1 D1.1.2.1 D1.1.2.2.1 D1.1.2.2.2.1 D1.1.2.2.2.2
  obtain ⟨b2, hb2⟩ : ∃ b2, b2 = wr b1 48 false (6 * nk) t := ⟨_, rfl⟩
  have g2 : SRb tx N p1 q1 K1 b2 := by rw [hb2]; exact g1.w (by omega)
  have L2 : LB b b2 nk [t] := by rw [hb2]; exact ((LB.rf).fr G1).put rfl
  rw [x1, bm_k, y1, bm_k, t1, bp_k, t2, bp_k, if_pos w0, if_pos w0, wid (x := t) (by omega) (by omega), ← hb2]
  by_cases u : t = -1
  · rw [if_neg (by omega), if_neg (by omega)]
    exact ⟨0, a1, b2, rfl, rfl, OutL.no D F1 h1 g2⟩
  obtain ⟨a3, b3, p3, q3, K3, x3, y3, h3, g3, F3, G3, l3, m3⟩ := nxt h1 g2
  have L3 := L2.fr G3
  have FA3 := F1.tr F3
  obtain ⟨t', t1', t2', t3', t4'⟩ := town_at h3 g3 hnt (by rw [FA3.1 0 true 1 (by omega)]; exact D.1.2.2.1) (by rw [L3.1 7 9 (by omega)]; exact D.1.2.2.2.1) (fun k hk => by rw [FA3.2 31 false k (by omega), L3.2.1 45 k (by omega)]; exact D.1.2.2.2.2 k hk)
  obtain ⟨b4, hb4⟩ : ∃ b4, b4 = wr b3 48 false (6 * nk + 1) t' := ⟨_, rfl⟩
  have g4 : SRb tx N p3 q3 K3 b4 := by rw [hb4]; exact g3.w (by omega)
  have L4 : LB b b4 nk [t, t'] := by rw [hb4]; exact L3.put rfl
  have v0 : rd b4 48 false (6 * nk) = t := L4.2.2.2 0 (by show 0 < 2; omega)
  rw [if_pos (show 0 ≤ t by omega), if_pos u, x3, bm_k, y3, bm_k, t1', bp_k, t2', bp_k, if_pos w1, if_pos w1, if_pos w1, if_pos w0, wid (x := t') (by omega) (by omega), ← hb4, v0, wid (x := t) (by omega) (by omega)]
  by_cases u' : t' = -1
  · rw [if_pos (show t' < 0 by omega), if_pos u']
    exact ⟨0, a3, b4, rfl, rfl, OutL.no D FA3 h3 g4⟩
  rw [if_neg (show ¬ t' < 0 by omega), if_neg u']
  by_cases e : t' = t
  · rw [if_neg (fun w => w e), if_neg (fun w => w e)]
    exact ⟨0, a3, b4, rfl, rfl, OutL.no D FA3 h3 g4⟩
  rw [if_pos e, if_pos e]
  obtain ⟨a5, b5, p5, q5, K5, x5, y5, h5, g5, F5, G5, l5, m5⟩ := nxt h3 g4
  have L5 := L4.fr G5
  rw [x5, bm_k, y5, bm_k]
  rcases pass_at h5 g5 (k := 11) (by omega) with ⟨e1, e2⟩ | ⟨a6, b6, p6, q6, K6, e1, e2, h6, g6, F6, G6, l6⟩
  · rw [e1, e2, bd_k, bd_k, if_pos (show w32 0 = 0 by decide), if_pos (show w32 0 = 0 by decide)]
    exact ⟨0, a5, b5, rfl, rfl, OutL.no D (FA3.tr F5) h5 g5⟩
  have L6 := L5.fr G6
  rw [e1, e2, bd_k, bd_k, if_neg (show ¬ w32 1 = 0 by decide), if_neg (show ¬ w32 1 = 0 by decide)]
  have fin := fun (hi : Int) (hh : 0 ≤ hi ∧ hi ≤ 95) => link_75 (Q := q) (d := d) h6 g6 D (by omega) (x := t) (y := t') ⟨by omega, t4⟩ ⟨by omega, t4'⟩ (fun w => e w.symm) hd hh ((FA3.tr F5).tr F6) L6 (by omega)
  rcases hd with rfl | rfl
  · rw [if_pos (show w32 0 = 0 by decide), if_pos (show w32 0 = 0 by decide)]
    exact fin 95 (by omega)
  · rw [if_neg (show ¬ w32 1 = 0 by decide), if_neg (show ¬ w32 1 = 0 by decide)]
    exact fin 23 (by omega)
theorem line_at {tx : Nat → Int} {N p q K nl nt nk : Nat} {a b : Mi} (h : SRa tx N p q K a) (g : SRb tx N p q K b) (D : DR a b nl nt nk) : ∃ r a' b', D_X3_readLine a = some (r, a') ∧ D_X7_line b = some (r, b') ∧ OutL tx N q r a' b' := by
  unfold D_X3_readLine D_X7_line
  have hr : ∀ {r : Int} {a' b' : Mi}, OutL tx N q r a' b' → isB r ∧ (w32 r = r) ∧ (r = 0 ∨ r = 1) := fun {r a' b'} o => by
    obtain ⟨_, _, _, _, _, w⟩ := o
    rcases w with ⟨rfl, _⟩ | ⟨rfl, _⟩
    · exact ⟨isB_0, by decide, Or.inl rfl⟩
    · exact ⟨isB_1, by decide, Or.inr rfl⟩
  rw [isWord_X h (k := 0) (by omega), isWord_X h (k := 1) (by omega), isWord_X h (k := 9) (by omega), isWord_X h (k := 10) (by omega), isWord_M g (k := 0) (by omega), isWord_M g (k := 1) (by omega), isWord_M g (k := 9) (by omega), isWord_M g (k := 10) (by omega), bp_k, bp_k, bp_k, bp_k, bp_k, bp_k, bp_k, bp_k]
  rcases rW_c tx p q K 0 with ⟨e0, _⟩ | ⟨e0, _⟩
  · obtain ⟨r, a', b', x, y, o⟩ := land_line h g D
    rw [e0, if_neg (show ¬ w32 1 = 0 by decide), if_neg (show ¬ w32 1 = 0 by decide), x, y, bd_k, bd_k, if_pos (hr o).1, if_pos (hr o).1]
    exact ⟨r, a', b', rfl, rfl, o⟩
  rw [e0, if_pos (show w32 0 = 0 by decide), if_pos (show w32 0 = 0 by decide)]
  rcases rW_c tx p q K 1 with ⟨e1, _⟩ | ⟨e1, _⟩
  · obtain ⟨r, a', b', x, y, o⟩ := town_line h g D
    rw [e1, if_neg (show ¬ w32 1 = 0 by decide), if_neg (show ¬ w32 1 = 0 by decide), x, y, bd_k, bd_k, if_pos (hr o).1, if_pos (hr o).1]
    exact ⟨r, a', b', rfl, rfl, o⟩
  rw [e1, if_pos (show w32 0 = 0 by decide), if_pos (show w32 0 = 0 by decide)]
  have e46 : ∀ d : Int, rW tx p q K 9 = d → ∀ r b', D_X7_linkLine d b = some (r, b') → (r = 0 ∨ r = 1) → B_X7_line_46 b = some (r, b') := fun d ed r b' y w => by
    unfold B_X7_line_46
    rw [isWord_M g (k := 9) (by omega), bp_k, ed, y, bd_k]
    rcases w with rfl | rfl
    · rw [if_pos (by decide)]
    · rw [if_neg (by decide)]
  rcases rW_c tx p q K 9 with ⟨e9, _⟩ | ⟨e9, _⟩
  · obtain ⟨r, a', b', x, y, o⟩ := link_line h g D (d := 1) (Or.inr rfl)
    rw [e46 1 e9 r b' y (hr o).2.2, e9, if_neg (show ¬ w32 1 = 0 by decide), if_pos (show ¬ w32 1 = 0 by decide), x, bd_k, if_pos (hr o).1]
    exact ⟨r, a', b', rfl, rfl, o⟩
  rw [e9, if_pos (show w32 0 = 0 by decide), if_neg (show ¬ ¬ w32 0 = 0 by decide)]
  rcases rW_c tx p q K 10 with ⟨e10, _⟩ | ⟨e10, _⟩
  · obtain ⟨r, a', b', x, y, o⟩ := link_line h g D (d := 0) (Or.inl rfl)
    rw [e46 0 e9 r b' y (hr o).2.2, e10, if_neg (show ¬ w32 1 = 0 by decide), if_neg (show ¬ w32 1 = 0 by decide), x, bd_k]
    rcases (hr o).2.2 with rfl | rfl
    · rw [if_pos (show w32 0 = 0 by decide)]
      exact ⟨0, a', b', rfl, rfl, o⟩
    · rw [if_neg (show ¬ w32 1 = 0 by decide)]
      exact ⟨1, a', b', rfl, rfl, o⟩
  · rw [e10, if_pos (show w32 0 = 0 by decide), if_pos (show w32 0 = 0 by decide)]
    exact ⟨0, a, b, rfl, rfl, OutL.no D FrA.rf h g⟩
/-- the end of both readings -/
def OutF (r : Int) (a b : Mi) : Prop := -1 ≤ r ∧ r ≤ 500 ∧ (∀ k, k < 16 → isB (rd a 18 true k)) ∧ (r = -1 → ∃ nl nt nk, DR a b nl nt nk ∧ 0 < nt)
theorem loop_at {tx : Nat → Int} {N : Nat} : ∀ (d n m l p q K nl nt nk : Nat) (a b : Mi), l + d = 501 → d < n → d < m → SRa tx N p q K a → SRb tx N p q K b → DR a b nl nt nk → (¬ K = 0 → l < q) → ∃ r a' b', B_X3_faultOf_31 n (l : Int) a = some (r, a') ∧ B_X7_fault_24 m b = some (r, b') ∧ OutF r a' b' := by
  have fin : ∀ (n m l p q K nl nt nk : Nat) (a b : Mi), 0 < n → 0 < m → l ≤ 501 → K = 0 → SRa tx N p q K a → SRb tx N p q K b → DR a b nl nt nk → ∃ r a' b', B_X3_faultOf_31 n (l : Int) a = some (r, a') ∧ B_X7_fault_24 m b = some (r, b') ∧ OutF r a' b' := by
    intro n m l p q K nl nt nk a b hn hm hl hK h g D
    obtain ⟨n, rfl⟩ : ∃ q, n = q + 1 := ⟨n - 1, by omega⟩
    obtain ⟨m, rfl⟩ : ∃ q, m = q + 1 := ⟨m - 1, by omega⟩
    have hnt := D.1.2.1
    have hN := h.1.1
    have ha := h.2.1.1
    have hp := g.2.2.1.1
    have hpq := h.2.2.2
    rw [B_X3_faultOf_31_s, F_X3_faultOf_31, B_X7_fault_24_s, F_X7_fault_24, h.2.2.1.2.2.1, g.2.2.1.2.2.1, hK, if_pos (show w32 ((0 : Nat) : Int) = 0 by decide), if_pos (show w32 ((0 : Nat) : Int) = 0 by decide)]
    have e63 : (if 500 ≤ w32 (l : Int) then B_X3_faultOf_63 a else B_X3_faultOf_63 a) = B_X3_faultOf_63 a := by split <;> rfl
    rw [e63]
    unfold B_X3_faultOf_63
    rw [D.1.2.2.1, D.1.2.2.2.1, ha, hp, wid (x := (nt : Int)) (by omega) (by omega)]
    by_cases z : nt = 0
    · rw [if_neg (by omega), if_neg (by omega)]
      -- the end of the text
      have hpN : p = N := h.2.2.2.2.2.2.2.2.2 hK
      rw [hpN]
      exact ⟨(N : Int), a, b, rfl, rfl, by omega, by omega, D.2.2.2.2.2, fun w => by omega⟩
    · rw [if_pos (by omega), if_pos (by omega)]
      exact ⟨-1, a, b, rfl, rfl, by omega, by omega, D.2.2.2.2.2, fun _ => ⟨nl, nt, nk, D, by omega⟩⟩
  intro d
  induction d with
  | zero =>
    intro n m l p q K nl nt nk a b hl hn hm h g D hq
    have hN := h.1.1
    have hqN := h.2.2.2.2.1
    exact fin n m l p q K nl nt nk a b (by omega) (by omega) (by omega) (Decidable.byContradiction fun w => by have := hq w; omega) h g D
  | succ d ih =>
    intro n m l p q K nl nt nk a b hl hn hm h g D hq
    have hN := h.1.1
    have hqN := h.2.2.2.2.1
    by_cases hK : K = 0
    · exact fin n m l p q K nl nt nk a b (by omega) (by omega) (by omega) hK h g D
    obtain ⟨n, rfl⟩ : ∃ q, n = q + 1 := ⟨n - 1, by omega⟩
    obtain ⟨m, rfl⟩ : ∃ q, m = q + 1 := ⟨m - 1, by omega⟩
    have hlq := hq hK
    have hK4 := h.2.2.2.2.2.1
    obtain ⟨r, a', b', x, y, p', q', K', h', g', o⟩ := line_at h g D
    rw [B_X3_faultOf_31_s, F_X3_faultOf_31, B_X7_fault_24_s, F_X7_fault_24, h.2.2.1.2.2.1, g.2.2.1.2.2.1, wid (x := (K : Int)) (by omega) (by omega), if_neg (show ¬ (K : Int) = 0 by omega), if_neg (show ¬ (K : Int) = 0 by omega), wid (x := (l : Int)) (by omega) (by omega), if_neg (by omega), x, bd_k, y, bd_k]
    rcases o with ⟨rfl, ib⟩ | ⟨rfl, o2, nl', nt', nk', D'⟩
    · have hpq := h'.2.2.2.1
      have hqN' := h'.2.2.2.2.1
      rw [if_neg (show ¬ ¬ w32 0 = 0 by decide), if_neg (show ¬ ¬ w32 0 = 0 by decide), h'.2.2.1.1, g'.2.2.1.1]
      exact ⟨(p' : Int), a', b', rfl, rfl, by omega, by omega, ib, fun w => by omega⟩
    · rw [if_pos (show ¬ w32 1 = 0 by decide), if_pos (show ¬ w32 1 = 0 by decide), show (l : Int) + 1 = ((l + 1 : Nat) : Int) by omega]
      exact ih n m (l + 1) p' q' K' nl' nt' nk' a' b' (by omega) (by omega) (by omega) h' g' D' (fun w => by have := o2 w; omega)
