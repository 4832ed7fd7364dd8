/-! PURE: what is drafted -/
def stL1 (μ : Mi) (a b w : Int) : Int := if rd μ 11 true a.toNat = rd μ 11 true b.toNat then -1 else if rd μ 10 true (rd μ 11 true a.toNat).toNat / w % 2 = 1 then rd μ 11 true a.toNat else -1
def LkR (a b : Mi) (k nt : Nat) : Prop := (0 ≤ rd a 13 true k ∧ rd a 13 true k < (nt : Int) ∧ rd b 48 false (6 * k) = rd a 13 true k) ∧ (0 ≤ rd a 14 true k ∧ rd a 14 true k < (nt : Int) ∧ rd b 48 false (6 * k + 1) = rd a 14 true k) ∧ ¬ rd a 13 true k = rd a 14 true k ∧ (0 ≤ rd a 15 true k ∧ rd a 15 true k ≤ 95 ∧ rd b 48 false (6 * k + 2) = rd a 15 true k) ∧ (1 ≤ rd a 16 true k ∧ rd a 16 true k ≤ 48 ∧ rd b 48 false (6 * k + 3) = rd a 16 true k) ∧ (0 ≤ rd a 17 true k ∧ rd a 17 true k ≤ 99 ∧ rd b 48 false (6 * k + 4) = rd a 17 true k) ∧ ((rd a 18 true k = 0 ∨ rd a 18 true k = 1) ∧ rd b 48 false (6 * k + 5) = rd a 18 true k) ∧ rd a 19 true k = stL1 a (rd a 13 true k) (rd a 14 true k) 2 ∧ rd a 20 true k = stL1 a (rd a 14 true k) (rd a 13 true k) 1
def DR (a b : Mi) (nl nt nk : Nat) : Prop := DNm a b nl nt ∧ (∀ k, k < nl → 0 ≤ rd a 10 true k ∧ rd a 10 true k ≤ 3 ∧ rd b 44 false k = rd a 10 true k) ∧ (∀ k, k < nt → 0 ≤ rd a 11 true k ∧ rd a 11 true k < (nl : Int) ∧ rd b 46 false k = rd a 11 true k ∧ -12 ≤ rd a 12 true k ∧ rd a 12 true k ≤ 12 ∧ rd b 47 false k = rd a 12 true k) ∧ (nk ≤ 16 ∧ rd a 0 true 2 = (nk : Int) ∧ rd b 7 false 13 = (nk : Int)) ∧ (∀ k, k < nk → LkR a b k nt) ∧ ∀ k, k < 16 → isB (rd a 18 true k)
/-- the draft as far as it counts is the same -/
theorem DR.eq {a b a' b' : Mi} {nl nt nk : Nat} (D : DR a b nl nt nk) (ea : ∀ r j, r = 0 ∨ (10 ≤ r ∧ r ≤ 20) → rd a' r true j = rd a r true j) (la : ∀ r j, r = 30 ∨ r = 31 → rl a' r false j = rl a r false j) (eb : ∀ r j, (r = 7 ∧ (j = 6 ∨ j = 9 ∨ j = 13)) ∨ (44 ≤ r ∧ r ≤ 48) → rd b' r false j = rd b r false j) (lb : ∀ r j, r = 43 ∨ r = 45 → rl b' r false j = rl b r false j) : DR a' b' nl nt nk := by
  unfold DR DNm LkR stL1 at *
  simp (disch := omega) only [ea, la, eb, lb]
  exact D
theorem DR.fr {a b a' b' : Mi} {nl nt nk : Nat} (D : DR a b nl nt nk) (F : FrA a a') (G : FrB b b') : DR a' b' nl nt nk := D.eq (fun r j h => F.1 r true j (by omega)) (fun r j h => F.2 r false j (by omega)) (fun r j h => G.1 r false j (by omega)) (fun r j h => G.2 r false j (by omega))
theorem stL1_e {a a' : Mi} {x y w : Int} {nl nt : Nat} (h11 : ∀ k, k < nt → rd a' 11 true k = rd a 11 true k) (h10 : ∀ k, k < nl → rd a' 10 true k = rd a 10 true k) (hl : ∀ k, k < nt → 0 ≤ rd a 11 true k ∧ rd a 11 true k < (nl : Int)) (hx : 0 ≤ x ∧ x < (nt : Int)) (hy : 0 ≤ y ∧ y < (nt : Int)) : stL1 a' x y w = stL1 a x y w := by
  have l := hl x.toNat (by omega)
  unfold stL1
  rw [h11 x.toNat (by omega), h11 y.toNat (by omega), h10 _ (by omega)]
theorem DR.land {a b a' b' : Mi} {nl nt nk : Nat} {h A C : Int} (D : DR a b nl nt nk) (hn : nl < 4) (hh : 0 ≤ h ∧ h ≤ 3) (nm : nmR A C) (ea : ∀ r j, (r = 0 ∧ 1 ≤ j) ∨ (11 ≤ r ∧ r ≤ 20) → rd a' r true j = rd a r true j) (ea0 : rd a' 0 true 0 = ((nl + 1 : Nat) : Int)) (e10 : ∀ k, rd a' 10 true k = if k = nl then h else rd a 10 true k) (e30 : ∀ k, rl a' 30 false k = if k = nl then A else rl a 30 false k) (e31 : ∀ k, rl a' 31 false k = rl a 31 false k) (eb : ∀ r j, (r = 7 ∧ (j = 9 ∨ j = 13)) ∨ (46 ≤ r ∧ r ≤ 48) → rd b' r false j = rd b r false j) (eb6 : rd b' 7 false 6 = ((nl + 1 : Nat) : Int)) (e44 : ∀ k, rd b' 44 false k = if k = nl then h else rd b 44 false k) (e43 : ∀ k, rl b' 43 false k = if k = nl then C else rl b 43 false k) (e45 : ∀ k, rl b' 45 false k = rl b 45 false k) : DR a' b' (nl + 1) nt nk := by
  obtain ⟨⟨⟨n1, n2, n3, n4⟩, n5, n6, n7, n8⟩, d1, d2, ⟨d3, d4, d5⟩, d6, d7⟩ := D
  have st : ∀ k, k < nk → ∀ w, stL1 a' (rd a 13 true k) (rd a 14 true k) w = stL1 a (rd a 13 true k) (rd a 14 true k) w ∧ stL1 a' (rd a 14 true k) (rd a 13 true k) w = stL1 a (rd a 14 true k) (rd a 13 true k) w := fun k hk w => by
    obtain ⟨⟨p1, p2, -⟩, ⟨p3, p4, -⟩, -⟩ := d6 k hk
    have f := fun (x y : Int) => stL1_e (a := a) (a' := a') (x := x) (y := y) (w := w) (nl := nl) (nt := nt) (fun k _ => ea 11 k (by omega)) (fun k hk => by rw [e10, if_neg (by omega)]) (fun k hk => ⟨(d2 k hk).1, (d2 k hk).2.1⟩)
    exact ⟨f _ _ ⟨p1, p2⟩ ⟨p3, p4⟩, f _ _ ⟨p3, p4⟩ ⟨p1, p2⟩⟩
  refine ⟨⟨⟨by omega, ea0, eb6, fun k hk => ?_⟩, n5, by rw [ea 0 1 (by omega)]; exact n6, by rw [eb 7 9 (by omega)]; exact n7, fun k hk => by rw [e31, e45]; exact n8 k hk⟩, fun k hk => ?_, fun k hk => ?_, ⟨d3, by rw [ea 0 2 (by omega)]; exact d4, by rw [eb 7 13 (by omega)]; exact d5⟩, fun k hk => ?_, fun k hk => by rw [ea 18 k (by omega)]; exact d7 k hk⟩
  · rw [e30, e43]
    by_cases q : k = nl
    · rw [if_pos q, if_pos q]; exact nm
    · rw [if_neg q, if_neg q]; exact n4 k (by omega)
  · rw [e10, e44]
    by_cases q : k = nl
    · rw [if_pos q, if_pos q]; exact ⟨hh.1, hh.2, rfl⟩
    · rw [if_neg q, if_neg q]; exact d1 k (by omega)
  · rw [ea 11 k (by omega), ea 12 k (by omega), eb 46 k (by omega), eb 47 k (by omega)]
    obtain ⟨p1, p2, p3⟩ := d2 k hk
    exact ⟨p1, by omega, p3⟩
  · have := d6 k hk
    have s1 := (st k hk 2).1
    have s2 := (st k hk 1).2
    unfold LkR at *
    simp (disch := omega) only [ea, eb, s1, s2]
    exact this
theorem DR.town {a b a' b' : Mi} {nl nt nk : Nat} {l z A C : Int} (D : DR a b nl nt nk) (hn : nt < 8) (hl : 0 ≤ l ∧ l < (nl : Int)) (hz : -12 ≤ z ∧ z ≤ 12) (nm : nmR A C) (ea : ∀ r j, (r = 0 ∧ ¬ j = 1) ∨ r = 10 ∨ (13 ≤ r ∧ r ≤ 20) → rd a' r true j = rd a r true j) (ea1 : rd a' 0 true 1 = ((nt + 1 : Nat) : Int)) (e11 : ∀ k, rd a' 11 true k = if k = nt then l else rd a 11 true k) (e12 : ∀ k, rd a' 12 true k = if k = nt then z else rd a 12 true k) (e31 : ∀ k, rl a' 31 false k = if k = nt then A else rl a 31 false k) (e30 : ∀ k, rl a' 30 false k = rl a 30 false k) (eb : ∀ r j, (r = 7 ∧ (j = 6 ∨ j = 13)) ∨ r = 44 ∨ r = 48 → rd b' r false j = rd b r false j) (eb9 : rd b' 7 false 9 = ((nt + 1 : Nat) : Int)) (e46 : ∀ k, rd b' 46 false k = if k = nt then l else rd b 46 false k) (e47 : ∀ k, rd b' 47 false k = if k = nt then z else rd b 47 false k) (e45 : ∀ k, rl b' 45 false k = if k = nt then C else rl b 45 false k) (e43 : ∀ k, rl b' 43 false k = rl b 43 false k) : DR a' b' nl (nt + 1) nk := by
  obtain ⟨⟨⟨n1, n2, n3, n4⟩, n5, n6, n7, n8⟩, d1, d2, ⟨d3, d4, d5⟩, d6, d7⟩ := D
  have st : ∀ k, k < nk → ∀ w, stL1 a' (rd a 13 true k) (rd a 14 true k) w = stL1 a (rd a 13 true k) (rd a 14 true k) w ∧ stL1 a' (rd a 14 true k) (rd a 13 true k) w = stL1 a (rd a 14 true k) (rd a 13 true k) w := fun k hk w => by
    obtain ⟨⟨p1, p2, -⟩, ⟨p3, p4, -⟩, -⟩ := d6 k hk
    have f := fun (x y : Int) => stL1_e (a := a) (a' := a') (x := x) (y := y) (w := w) (nl := nl) (nt := nt) (fun k hk => by rw [e11, if_neg (by omega)]) (fun k _ => ea 10 k (by omega)) (fun k hk => ⟨(d2 k hk).1, (d2 k hk).2.1⟩)
    exact ⟨f _ _ ⟨p1, p2⟩ ⟨p3, p4⟩, f _ _ ⟨p3, p4⟩ ⟨p1, p2⟩⟩
  refine ⟨⟨⟨n1, by rw [ea 0 0 (by omega)]; exact n2, by rw [eb 7 6 (by omega)]; exact n3, fun k hk => by rw [e30, e43]; exact n4 k hk⟩, by omega, ea1, eb9, fun k hk => ?_⟩, fun k hk => by rw [ea 10 k (by omega), eb 44 k (by omega)]; exact d1 k hk, fun k hk => ?_, ⟨d3, by rw [ea 0 2 (by omega)]; exact d4, by rw [eb 7 13 (by omega)]; exact d5⟩, fun k hk => ?_, fun k hk => by rw [ea 18 k (by omega)]; exact d7 k hk⟩
  · rw [e31, e45]
    by_cases q : k = nt
    · rw [if_pos q, if_pos q]; exact nm
    · rw [if_neg q, if_neg q]; exact n8 k (by omega)
  · rw [e11, e12, e46, e47]
    by_cases q : k = nt
    · rw [if_pos q, if_pos q, if_pos q, if_pos q]; exact ⟨hl.1, hl.2, rfl, hz.1, hz.2, rfl⟩
    · rw [if_neg q, if_neg q, if_neg q, if_neg q]; exact d2 k (by omega)
  · have := d6 k hk
    have s1 := (st k hk 2).1
    have s2 := (st k hk 1).2
    unfold LkR at *
    simp (disch := omega) only [ea, eb, s1, s2]
    obtain ⟨⟨p1, p2, p3⟩, ⟨p4, p5, p6⟩, p7⟩ := this
    exact ⟨⟨p1, by omega, p3⟩, ⟨p4, by omega, p6⟩, p7⟩
/-- two reads -/
theorem nxt {tx : Nat → Int} {N p q K : Nat} {a b : Mi} (h : SRa tx N p q K a) (g : SRb tx N p q K b) : ∃ a' b' p' q' K', D_X3_next a = some a' ∧ D_X7_next b = some b' ∧ SRa tx N p' q' K' a' ∧ SRb tx N p' q' K' b' ∧ FrA a a' ∧ FrB b b' ∧ q ≤ q' ∧ (¬ K' = 0 → q < q') := by
  obtain ⟨B, X, T, P⟩ := h
  obtain ⟨-, Y, U, -⟩ := g
  obtain ⟨a', a1, a2, a3⟩ := next_X B X P.2.1 T.2.1
  obtain ⟨b', b1, b2, b3⟩ := next_M B Y P.2.1 U.2.1
  obtain ⟨t, t1⟩ := tok_P (tx := tx) P.2.1
  have ht := t.1
  have ht4 := t.2.2.2.1
  exact ⟨a', b', _, _, _, a1, b1, ⟨B, X.fr a3, a2, t⟩, ⟨B, Y.fr b3, b2, t⟩, a3, b3, by omega, fun w => by have := ht4 w; omega⟩
theorem SRa.eq {tx : Nat → Int} {N p q K : Nat} {a a' : Mi} (h : SRa tx N p q K a) (e : ∀ r i j, r = 3 ∨ r = 41 → rd a' r i j = rd a r i j) (l : ∀ i j, rl a' 3 i j = rl a 3 i j) : SRa tx N p q K a' := by
  obtain ⟨B, ⟨x1, x2⟩, ⟨t1, t2, t3, t4, t5⟩, P⟩ := h
  exact ⟨B, ⟨by rw [e 3 false 4 (by omega)]; exact x1, fun j hj => by rw [e 41 false j (by omega)]; exact x2 j hj⟩, ⟨by rw [e 3 false 5 (by omega)]; exact t1, by rw [e 3 false 6 (by omega)]; exact t2, by rw [e 3 false 7 (by omega)]; exact t3, fun w => by rw [l]; exact t4 w, fun w => by rw [e 3 false 8 (by omega)]; exact t5 w⟩, P⟩
theorem SRb.eq {tx : Nat → Int} {N p q K : Nat} {b b' : Mi} (h : SRb tx N p q K b) (e : ∀ r j, (r = 7 ∧ j ≤ 4) ∨ r = 42 → rd b' r false j = rd b r false j) (l : rl b' 7 false 5 = rl b 7 false 5) : SRb tx N p q K b' := by
  obtain ⟨B, ⟨x1, x2⟩, ⟨t1, t2, t3, t4, t5⟩, P⟩ := h
  exact ⟨B, ⟨by rw [e 7 1 (by omega)]; exact x1, fun j hj => by rw [e 42 j (by omega)]; exact x2 j hj⟩, ⟨by rw [e 7 4 (by omega)]; exact t1, by rw [e 7 2 (by omega)]; exact t2, by rw [e 7 3 (by omega)]; exact t3, fun w => by rw [l]; exact t4 w, fun w => by rw [l]; exact t5 w⟩, P⟩
theorem SRb.w {tx : Nat → Int} {N p q K : Nat} {b : Mi} {r j : Nat} {v : Int} (h : SRb tx N p q K b) (hr : ¬ (r = 7 ∧ j ≤ 4) ∧ ¬ r = 42) : SRb tx N p q K (wr b r false j v) := h.eq (fun r' j' w => rdx (by omega)) (rl_wr ..)
theorem SRb.l {tx : Nat → Int} {N p q K : Nat} {b : Mi} {r j : Nat} {v : Int} (h : SRb tx N p q K b) (hr : ¬ r = 7) : SRb tx N p q K (wl b r false j v) := h.eq (fun r' j' w => rd_wl ..) (by rw [rl_wl, if_neg (fun w => hr w.1.symm)])
/-- how a line ends -/
def OutL (tx : Nat → Int) (N q : Nat) (r : Int) (a b : Mi) : Prop := ∃ p' q' K', SRa tx N p' q' K' a ∧ SRb tx N p' q' K' b ∧ ((r = 0 ∧ ∀ k, k < 16 → isB (rd a 18 true k)) ∨ (r = 1 ∧ (¬ K' = 0 → q < q') ∧ ∃ nl nt nk, DR a b nl nt nk))
theorem OutL.no {tx : Nat → Int} {N q p' q' K' nl nt nk : Nat} {a0 b0 a b : Mi} (D : DR a0 b0 nl nt nk) (F : FrA a0 a) (h : SRa tx N p' q' K' a) (g : SRb tx N p' q' K' b) : OutL tx N q 0 a b := ⟨p', q', K', h, g, Or.inl ⟨rfl, fun k hk => by rw [F.1 18 true k (by omega)]; exact D.2.2.2.2.2 k hk⟩⟩
theorem how_at {tx : Nat → Int} {N p q K : Nat} {a b : Mi} (h : SRa tx N p q K a) (g : SRb tx N p q K b) : ∃ v : Int, -1 ≤ v ∧ v ≤ 3 ∧ D_X3_howOfWord a = some v ∧ (bp (D_X7_isWord 2 b) fun r4 => if (w32 r4) = 0 then bp (D_X7_isWord 3 b) fun r5 => if (w32 r5) = 0 then bp (D_X7_isWord 4 b) fun r6 => if (w32 r6) = 0 then bp (D_X7_isWord 5 b) fun r7 => if (w32 r7) = 0 then B_X7_landLine_93 (-1) b else B_X7_landLine_93 0 b else B_X7_landLine_93 3 b else B_X7_landLine_93 2 b else B_X7_landLine_93 1 b) = B_X7_landLine_93 v b := by
  unfold D_X3_howOfWord
  rw [isWord_X h (k := 2) (by omega), isWord_X h (k := 3) (by omega), isWord_X h (k := 4) (by omega), isWord_X h (k := 5) (by omega), isWord_M g (k := 2) (by omega), isWord_M g (k := 3) (by omega), isWord_M g (k := 4) (by omega), isWord_M g (k := 5) (by omega), bp_k, bp_k, bp_k, bp_k, bp_k, bp_k, bp_k, bp_k]
  rcases rW_c tx p q K 2 with ⟨e, _⟩ | ⟨e, _⟩
  · rw [e, if_neg (show ¬ w32 1 = 0 by decide), if_neg (show ¬ w32 1 = 0 by decide)]; exact ⟨1, by omega, by omega, rfl, rfl⟩
  · rw [e, if_pos (show w32 0 = 0 by decide), if_pos (show w32 0 = 0 by decide)]
    rcases rW_c tx p q K 3 with ⟨e, _⟩ | ⟨e, _⟩
    · rw [e, if_neg (show ¬ w32 1 = 0 by decide), if_neg (show ¬ w32 1 = 0 by decide)]; exact ⟨2, by omega, by omega, rfl, rfl⟩
    · rw [e, if_pos (show w32 0 = 0 by decide), if_pos (show w32 0 = 0 by decide)]
      rcases rW_c tx p q K 4 with ⟨e, _⟩ | ⟨e, _⟩
      · rw [e, if_neg (show ¬ w32 1 = 0 by decide), if_neg (show ¬ w32 1 = 0 by decide)]; exact ⟨3, by omega, by omega, rfl, rfl⟩
      · rw [e, if_pos (show w32 0 = 0 by decide), if_pos (show w32 0 = 0 by decide)]
        rcases rW_c tx p q K 5 with ⟨e, _⟩ | ⟨e, _⟩
        · rw [e, if_neg (show ¬ w32 1 = 0 by decide), if_neg (show ¬ w32 1 = 0 by decide)]; exact ⟨0, by omega, by omega, rfl, rfl⟩
        · rw [e, if_pos (show w32 0 = 0 by decide), if_pos (show w32 0 = 0 by decide)]; exact ⟨-1, by omega, by omega, rfl, rfl⟩
theorem land_line {tx : Nat → Int} {N p q K nl nt nk : Nat} {a b : Mi} (h : SRa tx N p q K a) (g : SRb tx N p q K b) (D : DR a b nl nt nk) : ∃ r a' b', D_X3_readLand a = some (r, a') ∧ D_X7_landLine b = some (r, b') ∧ OutL tx N q r a' b' := by
  obtain ⟨n1, n2, n3, -⟩ := D.1.1
  unfold D_X3_readLand D_X7_landLine
  rw [n2, n3, wid (x := (nl : Int)) (by omega) (by omega)]
  by_cases z : nl = 4
  · rw [if_neg (by omega), if_neg (by omega)]
    exact ⟨0, a, b, rfl, rfl, OutL.no D FrA.rf h g⟩
  rw [if_pos (by omega), if_pos (by omega)]
  obtain ⟨a1, b1, p1, q1, K1, x1, y1, h1, g1, F1, G1, l1, m1⟩ := nxt h g
  have D1 := D.fr F1 G1
  obtain ⟨r2, s1, s2, s3⟩ := new_at h1 g1 D1.1
  rw [x1, bm_k, y1, bm_k, s1, bp_k, s2, bp_k]
  rcases s3 with ⟨rfl, c⟩ | rfl
  rotate_left
  · rw [if_neg (by decide), if_neg (by decide)]
    exact ⟨0, a1, b1, rfl, rfl, OutL.no D F1 h1 g1⟩
  have nm := new_nm h1 g1 c
  have n3' : rd b1 7 false 6 = (nl : Int) := (G1.1 7 false 6 (by omega)).trans n3
  obtain ⟨b2, hb2⟩ : ∃ b2, b2 = wl b1 43 false nl (rl b1 7 false 5) := ⟨_, rfl⟩
  have g2 : SRb tx N p1 q1 K1 b2 := by rw [hb2]; exact g1.l (by omega)
  obtain ⟨a3, b3, p3, q3, K3, x3, y3, h3, g3, F3, G3, l3, m3⟩ := nxt h1 g2
  obtain ⟨v, v1, v2, v3, v4⟩ := how_at h3 g3
  rw [if_pos (by decide), if_pos (by decide), n3', wid (x := (nl : Int)) (by omega) (by omega), if_pos (by omega), ixn nl (by omega), ← hb2, x3, bm_k, y3, bm_k, v3, bp_k, v4, wid (x := v) (by omega) (by omega)]
  have n3b : rd b3 7 false 6 = (nl : Int) := by rw [G3.1 7 false 6 (by omega), hb2, rd_wl]; exact n3'
  unfold B_X7_landLine_93
  rw [wid (x := v) (by omega) (by omega)]
  by_cases u : v = -1
  · rw [if_neg (by omega), if_neg (by omega)]
    exact ⟨0, a3, b3, rfl, rfl, OutL.no D (F1.tr F3) h3 g3⟩
  rw [if_pos (by omega), if_pos u, n3b, wid (x := (nl : Int)) (by omega) (by omega), if_pos (by omega), ixn nl (by omega)]
  obtain ⟨b4, hb4⟩ : ∃ b4, b4 = wr (wr b3 44 false nl v) 7 false 6 ((nl : Int) + 1) := ⟨_, rfl⟩
  have g4 : SRb tx N p3 q3 K3 b4 := by rw [hb4]; exact (g3.w (by omega)).w (by omega)
  obtain ⟨a5, b5, p5, q5, K5, x5, y5, h5, g5, F5, G5, l5, m5⟩ := nxt h3 g4
  rw [← hb4, x5, bm_k, y5, bm_k]
  unfold D_X7_closes
  have k5a : rd a5 3 false 7 = (K5 : Int) := h5.2.2.1.2.2.1
  have k5b : rd b5 7 false 3 = (K5 : Int) := g5.2.2.1.2.2.1
  have hK5 := h5.2.2.2.2.2.1
  rw [k5a, k5b, wid (x := (K5 : Int)) (by omega) (by omega)]
  by_cases w : K5 = 3
  rotate_left
  · rw [if_neg (by omega), if_neg (by omega), bd_k, if_pos isB_0]
    exact ⟨0, a5, b5, rfl, rfl, OutL.no D ((F1.tr F3).tr F5) h5 g5⟩
  obtain ⟨a6, b6, p6, q6, K6, x6, y6, h6, g6, F6, G6, l6, m6⟩ := nxt h5 g5
  have FA : FrA a a6 := ((F1.tr F3).tr F5).tr F6
  have n2' : rd a6 0 true 0 = (nl : Int) := (FA.1 0 true 0 (by omega)).trans n2
  rw [if_pos (by omega), if_pos (by omega), x6, bm_k, y6, bm_k, bd_k, if_pos isB_1, n2', wid (x := (nl : Int)) (by omega) (by omega), if_pos (by omega), ixn nl (by omega)]
  unfold D_X0_addLand
  rw [rd_wl, n2', wid (x := (nl : Int)) (by omega) (by omega), if_neg (by omega), if_pos (by omega), ixn nl (by omega), bm_k]
  refine ⟨1, _, b6, rfl, rfl, p6, q6, K6, h6.eq (fun r i j w => by rw [rdx (by omega), rdx (by omega), rd_wl]) (fun i j => by rw [rl_wr, rl_wr, rl_wl, if_neg (by omega)]), g6, Or.inr ⟨rfl, fun w => by have := m6 w; omega, nl + 1, nt, nk, ?_⟩⟩
  have GB : ∀ r j, (r = 7 ∧ (j = 9 ∨ j = 13)) ∨ (46 ≤ r ∧ r ≤ 48) → rd b6 r false j = rd b r false j := fun r j w => by
    rw [G6.1 r false j (by omega), G5.1 r false j (by omega), hb4, rdx (by omega), rdx (by omega), G3.1 r false j (by omega), hb2, rd_wl, G1.1 r false j (by omega)]
  refine DR.land D (by omega) (h := v) ⟨by omega, v2⟩ nm (fun r j w => ?_) ?_ (fun k => ?_) (fun k => ?_) (fun k => ?_) GB ?_ (fun k => ?_) (fun k => ?_) (fun k => ?_)
  · rw [rdx (by omega), rdx (by omega), rd_wl, FA.1 r true j (by omega)]
  · rw [rd_s]; omega
  · rw [rdx (by omega), rd_wr, rd_wl, FA.1 10 true k (by omega)]
    by_cases e : k = nl
    · rw [if_pos ⟨rfl, rfl, e⟩, if_pos e]
    · rw [if_neg (fun w => e w.2.2), if_neg e]
  · rw [rl_wr, rl_wr, rl_wl, FA.2 30 false k (by omega)]
    by_cases e : k = nl
    · rw [if_pos ⟨rfl, rfl, e⟩, if_pos e]
    · rw [if_neg (fun w => e w.2.2), if_neg e]
  · rw [rl_wr, rl_wr, rl_wl, if_neg (by omega), FA.2 31 false k (by omega)]
  · rw [G6.1 7 false 6 (by omega), G5.1 7 false 6 (by omega), hb4, rd_s]; omega
  · rw [G6.1 44 false k (by omega), G5.1 44 false k (by omega), hb4, rdx (by omega), rd_wr, G3.1 44 false k (by omega), hb2, rd_wl, G1.1 44 false k (by omega)]
    by_cases e : k = nl
    · rw [if_pos ⟨rfl, rfl, e⟩, if_pos e]
    · rw [if_neg (fun w => e w.2.2), if_neg e]
  · rw [G6.2 43 false k (by omega), G5.2 43 false k (by omega), hb4, rl_wr, rl_wr, G3.2 43 false k (by omega), hb2, rl_wl, G1.2 43 false k (by omega)]
    by_cases e : k = nl
    · rw [if_pos ⟨rfl, rfl, e⟩, if_pos e]
    · rw [if_neg (fun w => e w.2.2), if_neg e]
  · rw [G6.2 45 false k (by omega), G5.2 45 false k (by omega), hb4, rl_wr, rl_wr, G3.2 45 false k (by omega), hb2, rl_wl, if_neg (by omega), G1.2 45 false k (by omega)]
