/-! PURE: lines of towns and links -/
theorem pass_at {tx : Nat → Int} {N p q K k : Nat} {a b : Mi} (h : SRa tx N p q K a) (g : SRb tx N p q K b) (hk : k < 14) : (D_X3_passWord k a = some (0, a) ∧ D_X7_word k b = some (0, b)) ∨ ∃ a' b' p' q' K', D_X3_passWord k a = some (1, a') ∧ D_X7_word k b = some (1, b') ∧ SRa tx N p' q' K' a' ∧ SRb tx N p' q' K' b' ∧ FrA a a' ∧ FrB b b' ∧ q ≤ q' := by
  unfold D_X3_passWord D_X7_word
  rw [isWord_X h hk, bp_k, isWord_M g hk, bp_k]
  rcases rW_c tx p q K k with ⟨e, _⟩ | ⟨e, _⟩
  · obtain ⟨a', b', p', q', K', x1, y1, h1, g1, F1, G1, l1, -⟩ := nxt h g
    rw [e, if_pos (by decide), if_pos (by decide), x1, y1, bm_k, bm_k]
    exact Or.inr ⟨a', b', p', q', K', rfl, rfl, h1, g1, F1, G1, l1⟩
  · rw [e, if_neg (by decide), if_neg (by decide)]
    exact Or.inl ⟨rfl, rfl⟩
theorem num_at {tx : Nat → Int} {N p q K : Nat} {a b : Mi} (h : SRa tx N p q K a) (g : SRb tx N p q K b) {lo hi : Int} (h0 : 0 ≤ lo ∧ lo ≤ 1) (h1 : 0 ≤ hi ∧ hi ≤ 99) : (D_X3_isNumber lo hi a = 0 ∧ D_X7_number lo hi b = some (0, b)) ∨ ∃ V a' b' p' q' K', D_X3_isNumber lo hi a = 1 ∧ rd a 3 false 8 = V ∧ lo ≤ V ∧ V ≤ hi ∧ D_X3_next a = some a' ∧ D_X7_number lo hi b = some (1, b') ∧ rd b' 7 false 35 = V ∧ SRa tx N p' q' K' a' ∧ SRb tx N p' q' K' b' ∧ FrA a a' ∧ FrB (wr b 7 false 35 V) b' ∧ q ≤ q' := by
  obtain ⟨n1, n2⟩ := num_M g h0 h1
  rcases num_X h h0 h1 with ⟨e, c, e8⟩ | ⟨e, c⟩
  · have g' : SRb tx N p q K (wr b 7 false 35 (nvM (tkn tx p) (q - p))) := g.w (by omega)
    obtain ⟨a', b', p', q', K', x1, y1, h1, g1, F1, G1, l1, -⟩ := nxt h g'
    refine Or.inr ⟨_, a', b', p', q', K', e, e8, c.2.1, c.2.2, x1, ?_, ?_, h1, g1, F1, G1, l1⟩
    · rw [n1 c, y1, bm_k]
    · rw [G1.1 7 false 35 (by omega), rd_s]
  · exact Or.inl ⟨e, n2 c⟩
theorem town_tail {tx : Nat → Int} {N p q K Q nl nt nk : Nat} {a0 b0 a b : Mi} {l z A C : Int} (h : SRa tx N p q K a) (g : SRb tx N p q K b) (D : DR a0 b0 nl nt nk) (hn : nt < 8) (hl : 0 ≤ l ∧ l < (nl : Int)) (hz : -12 ≤ z ∧ z ≤ 12) (nm : nmR A C) (FA : FrA a0 a) (GB : ∀ r j, (r = 7 ∧ (j = 6 ∨ j = 9 ∨ j = 13)) ∨ r = 44 ∨ r = 48 → rd b r false j = rd b0 r false j) (b46 : ∀ k, rd b 46 false k = if k = nt then l else rd b0 46 false k) (b47 : ∀ k, rd b 47 false k = if k = nt then z else rd b0 47 false k) (lb : ∀ r j, r = 43 ∨ r = 45 → rl b r false j = rl b0 r false j) (hq : Q ≤ q) : ∃ r a' b', B_X3_readTown_128 A l z a = some (r, a') ∧ B_X7_townLine_152 C b = some (r, b') ∧ OutL tx N Q r a' b' := by
  have n5 := D.1.2
  have e9 : rd b 7 false 9 = (nt : Int) := (GB 7 9 (by omega)).trans n5.2.2.1
  unfold B_X3_readTown_128 B_X7_townLine_152
  rw [e9, wid (x := (nt : Int)) (by omega) (by omega), if_pos (show 0 ≤ (nt : Int) ∧ (nt : Int) < 8 by omega), ixn nt (by omega)]
  obtain ⟨b1, hb1⟩ : ∃ b1, b1 = wr (wl b 45 false nt C) 7 false 9 ((nt : Int) + 1) := ⟨_, rfl⟩
  have g1 : SRb tx N p q K b1 := by rw [hb1]; exact (g.l (by omega)).w (by omega)
  rw [← hb1]
  unfold D_X7_closes
  rw [h.2.2.1.2.2.1, g1.2.2.1.2.2.1, wid (x := (K : Int)) (by have := h.2.2.2.2.2.1; omega) (by have := h.2.2.2.2.2.1; omega)]
  by_cases w : K = 3
  rotate_left
  · rw [if_neg (by omega), if_neg (by omega), bd_k, if_pos isB_0]
    exact ⟨0, a, b1, rfl, rfl, OutL.no D FA h g1⟩
  obtain ⟨a6, b6, p6, q6, K6, x6, y6, h6, g6, F6, G6, l6, m6⟩ := nxt h g1
  have FA6 : FrA a0 a6 := FA.tr F6
  have n2' : rd a6 0 true 1 = (nt : Int) := (FA6.1 0 true 1 (by omega)).trans n5.2.1
  rw [if_pos (by omega), if_pos (by omega), x6, bm_k, y6, bm_k, bd_k, if_pos isB_1, n2', wid (x := (nt : Int)) (by omega) (by omega), if_pos (by omega), ixn nt (by omega)]
  unfold D_X0_addTown
  rw [rd_wl, n2', wid (x := (nt : Int)) (by omega) (by omega), if_neg (by omega), if_pos (by omega), if_pos (by omega), ixn nt (by omega), bm_k]
  refine ⟨1, _, b6, rfl, rfl, p6, q6, K6, h6.eq (fun r i j w => by rw [rdx (by omega), rdx (by omega), rdx (by omega), rd_wl]) (fun i j => by rw [rl_wr, rl_wr, rl_wr, rl_wl, if_neg (by omega)]), g6, Or.inr ⟨rfl, fun w => by have := m6 w; omega, nl, nt + 1, nk, ?_⟩⟩
  refine DR.town D hn (l := l) (z := z) hl hz nm (fun r j w => ?_) ?_ (fun k => ?_) (fun k => ?_) (fun k => ?_) (fun k => ?_) (fun r j w => ?_) ?_ (fun k => ?_) (fun k => ?_) (fun k => ?_) (fun k => ?_)
  · rw [rdx (by omega), rdx (by omega), rdx (by omega), rd_wl, FA6.1 r true j (by omega)]
  · rw [rd_s]; omega
  · rw [rdx (by omega), rdx (by omega), rd_wr, rd_wl, FA6.1 11 true k (by omega)]
    by_cases e : k = nt
    · rw [if_pos ⟨rfl, rfl, e⟩, if_pos e]
    · rw [if_neg (fun w => e w.2.2), if_neg e]
  · rw [rdx (by omega), rd_wr, rdx (by omega), rd_wl, FA6.1 12 true k (by omega)]
    by_cases e : k = nt
    · rw [if_pos ⟨rfl, rfl, e⟩, if_pos e]
    · rw [if_neg (fun w => e w.2.2), if_neg e]
  · rw [rl_wr, rl_wr, rl_wr, rl_wl, FA6.2 31 false k (by omega)]
    by_cases e : k = nt
    · rw [if_pos ⟨rfl, rfl, e⟩, if_pos e]
    · rw [if_neg (fun w => e w.2.2), if_neg e]
  · rw [rl_wr, rl_wr, rl_wr, rl_wl, if_neg (by omega), FA6.2 30 false k (by omega)]
  · rw [G6.1 r false j (by omega), hb1, rdx (by omega), rd_wl, GB r j (by omega)]
  · rw [G6.1 7 false 9 (by omega), hb1, rd_s]; omega
  · rw [G6.1 46 false k (by omega), hb1, rdx (by omega), rd_wl, b46]
  · rw [G6.1 47 false k (by omega), hb1, rdx (by omega), rd_wl, b47]
  · rw [G6.2 45 false k (by omega), hb1, rl_wr, rl_wl, lb 45 k (by omega)]
    by_cases e : k = nt
    · rw [if_pos ⟨rfl, rfl, e⟩, if_pos e]
    · rw [if_neg (fun w => e w.2.2), if_neg e]
  · rw [G6.2 43 false k (by omega), hb1, rl_wr, rl_wl, if_neg (by omega), lb 43 k (by omega)]
theorem town_line {tx : Nat → Int} {N p q K nl nt nk : Nat} {a b : Mi} (h : SRa tx N p q K a) (g : SRb tx N p q K b) (D : DR a b nl nt nk) : ∃ r a' b', D_X3_readTown a = some (r, a') ∧ D_X7_townLine b = some (r, b') ∧ OutL tx N q r a' b' := by
  obtain ⟨n1, n2, n3, -⟩ := D.1.2
  unfold D_X3_readTown D_X7_townLine
  rw [n2, n3, wid (x := (nt : Int)) (by omega) (by omega)]
  by_cases z : nt = 8
  · rw [if_neg (by omega), if_neg (by omega)]
    exact ⟨0, a, b, rfl, rfl, OutL.no D FrA.rf h g⟩
  rw [if_pos (by omega), if_pos (by omega)]
  obtain ⟨a1, b1, p1, q1, K1, x1, y1, h1, g1, F1, G1, l1, m1⟩ := nxt h g
  have D1 := D.fr F1 G1
  obtain ⟨r2, s1, s2, s3⟩ := new_at h1 g1 D1.1
  rw [x1, bm_k, y1, bm_k, s1, bp_k, s2, bp_k]
  rcases s3 with ⟨rfl, c⟩ | rfl
  rotate_left
  · rw [if_neg (by decide), if_neg (by decide)]
    exact ⟨0, a1, b1, rfl, rfl, OutL.no D F1 h1 g1⟩
  have nm := new_nm h1 g1 c
  obtain ⟨a3, b3, p3, q3, K3, x3, y3, h3, g3, F3, G3, l3, m3⟩ := nxt h1 g1
  rw [if_pos (by decide), if_pos (by decide), x3, bm_k, y3, bm_k]
  rcases pass_at h3 g3 (k := 6) (by omega) with ⟨e1, e2⟩ | ⟨a4, b4, p4, q4, K4, e1, e2, h4, g4, F4, G4, l4⟩
  · rw [e1, e2, bd_k, bd_k, if_neg (by decide), if_neg (by decide)]
    exact ⟨0, a3, b3, rfl, rfl, OutL.no D (F1.tr F3) h3 g3⟩
  have FA4 : FrA a a4 := (F1.tr F3).tr F4
  have GB4 : FrB b b4 := (G1.tr G3).tr G4
  have D4 := D.fr FA4 GB4
  obtain ⟨t, t1, t2, t3, t4⟩ := land_at h4 g4 D4.1.1.1 D4.1.1.2.1 D4.1.1.2.2.1 D4.1.1.2.2.2
  have hl4 := D4.1.1.1
  have e9 : rd b4 7 false 9 = (nt : Int) := D4.1.2.2.2.1
  rw [e1, e2, bd_k, bd_k, if_pos (by decide), if_pos (by decide), t1, bp_k, t2, bp_k, e9, wid (x := (nt : Int)) (by omega) (by omega), if_pos (show 0 ≤ (nt : Int) ∧ (nt : Int) < 8 by omega), if_pos (show 0 ≤ (nt : Int) ∧ (nt : Int) < 8 by omega), ixn nt (by omega), wid (x := t) (by omega) (by omega)]
  obtain ⟨b5, hb5⟩ : ∃ b5, b5 = wr b4 46 false nt t := ⟨_, rfl⟩
  have g5 : SRb tx N p4 q4 K4 b5 := by rw [hb5]; exact g4.w (by omega)
  rw [← hb5]
  by_cases u : t = -1
  · rw [if_neg (by omega), if_neg (by omega)]
    exact ⟨0, a4, b5, rfl, rfl, OutL.no D FA4 h4 g5⟩
  obtain ⟨a6, b6, p6, q6, K6, x6, y6, h6, g6, F6, G6, l6, m6⟩ := nxt h4 g5
  have FA6 := FA4.tr F6
  have e9' : rd b6 7 false 9 = (nt : Int) := by rw [G6.1 7 false 9 (by omega), hb5, rdx (by omega)]; exact e9
  rw [if_pos (by omega), if_pos u, x6, bm_k, y6, bm_k, e9', wid (x := (nt : Int)) (by omega) (by omega), if_pos (by omega), ixn nt (by omega)]
  obtain ⟨b7, hb7⟩ : ∃ b7, b7 = wr b6 47 false nt 0 := ⟨_, rfl⟩
  have g7 : SRb tx N p6 q6 K6 b7 := by rw [hb7]; exact g6.w (by omega)
  rw [← hb7, isWord_X h6 (k := 7) (by omega), bp_k, isWord_X h6 (k := 8) (by omega), bp_k, isWord_M g7 (k := 7) (by omega), bp_k, isWord_M g7 (k := 8) (by omega), bp_k]
  have c1 : ∀ r j, (r = 7 ∧ (j = 6 ∨ j = 9 ∨ j = 13)) ∨ r = 44 ∨ r = 48 → rd b7 r false j = rd b r false j := fun r j w => by
    rw [hb7, rdx (by omega), G6.1 r false j (by omega), hb5, rdx (by omega), GB4.1 r false j (by omega)]
  have c2 : ∀ k, rd b7 46 false k = if k = nt then t else rd b 46 false k := fun k => by
    rw [hb7, rdx (by omega), G6.1 46 false k (by omega), hb5, rd_wr, GB4.1 46 false k (by omega)]
    by_cases e : k = nt
    · rw [if_pos ⟨rfl, rfl, e⟩, if_pos e]
    · rw [if_neg (fun w => e w.2.2), if_neg e]
  have c3 : ∀ k, rd b7 47 false k = if k = nt then 0 else rd b 47 false k := fun k => by
    rw [hb7, rd_wr, G6.1 47 false k (by omega), hb5, rdx (by omega), GB4.1 47 false k (by omega)]
    by_cases e : k = nt
    · rw [if_pos ⟨rfl, rfl, e⟩, if_pos e]
    · rw [if_neg (fun w => e w.2.2), if_neg e]
  have c4 : ∀ r j, r = 43 ∨ r = 45 → rl b7 r false j = rl b r false j := fun r j w => by
    rw [hb7, rl_wr, G6.2 r false j (by omega), hb5, rl_wr, GB4.2 r false j (by omega)]
  -- with a clock
  have clock : ∀ sg : Int, (sg = 1 ∧ rW tx p6 q6 K6 7 = 1) ∨ (sg = -1 ∧ rW tx p6 q6 K6 7 = 0) → ∃ r a' b', B_X3_readTown_92 (rl a1 3 false 9) t 0 sg a6 = some (r, a') ∧ B_X7_townLine_104 (rl b1 7 false 5) b7 = some (r, b') ∧ OutL tx N q r a' b' := fun sg hsg => by
    obtain ⟨a8, b8, p8, q8, K8, x8, y8, h8, g8, F8, G8, l8, m8⟩ := nxt h6 g7
    unfold B_X3_readTown_92 B_X7_townLine_104
    rw [if_neg (show ¬ w32 sg = 0 by rcases hsg with w | w <;> rw [w.1] <;> decide), x8, bm_k, isWord_M g7 (k := 7) (by omega), bp_k, y8, bm_k]
    rcases num_at h8 g8 (lo := 0) (hi := 12) (by omega) (by omega) with ⟨f1, f2⟩ | ⟨V, a9, b9, p9, q9, K9, f1, f2, f3, f4, f5, f6, f7, h9, g9, F9, G9, l9⟩
    · rw [f1, f2, bd_k, if_neg (by decide), if_neg (by decide)]
      exact ⟨0, a8, b8, rfl, rfl, OutL.no D (FA6.tr F8) h8 g8⟩
    have e9b : rd b9 7 false 9 = (nt : Int) := by rw [G9.1 7 false 9 (by omega), rdx (by omega), G8.1 7 false 9 (by omega), c1 7 9 (by omega)]; exact n3
    rw [f1, f2, f5, f6, bm_k, bd_k, if_pos (by decide), if_pos (by decide), f7, e9b]
    have e151 : ∀ v : Int, B_X7_townLine_151 (rl b1 7 false 5) v (nt : Int) b9 = B_X7_townLine_152 (rl b1 7 false 5) (wr b9 47 false nt v) := fun v => by
      unfold B_X7_townLine_151
      rw [wid (x := (nt : Int)) (by omega) (by omega), if_pos (by omega), ixn nt (by omega)]
    rw [e151, e151]
    have fin : ∀ v : Int, v = sg * V → ∃ r a' b', B_X3_readTown_128 (rl a1 3 false 9) t (sg * V) a9 = some (r, a') ∧ B_X7_townLine_152 (rl b1 7 false 5) (wr b9 47 false nt v) = some (r, b') ∧ OutL tx N q r a' b' := fun v hv => by
      rw [← hv]
      refine town_tail (Q := q) h9 (g9.w (by omega)) D (by omega) (l := t) (z := v) ⟨by omega, t4⟩ (by rcases hsg with w | w <;> rw [hv, w.1] <;> omega) nm ((FA6.tr F8).tr F9) (fun r j w => ?_) (fun k => ?_) (fun k => ?_) (fun r j w => ?_) (by omega)
      · rw [rdx (by omega), G9.1 r false j (by omega), rdx (by omega), G8.1 r false j (by omega), c1 r j w]
      · rw [rdx (by omega), G9.1 46 false k (by omega), rdx (by omega), G8.1 46 false k (by omega), c2 k]
      · rw [rd_wr, G9.1 47 false k (by omega), rdx (by omega), G8.1 47 false k (by omega), c3 k]
        by_cases e : k = nt
        · rw [if_pos ⟨rfl, rfl, e⟩, if_pos e]
        · rw [if_neg (fun w => e w.2.2), if_neg e, if_neg e]
      · rw [rl_wr, G9.2 r false j (by omega), rl_wr, G8.2 r false j (by omega), c4 r j w]
    rcases hsg with ⟨w1, w2⟩ | ⟨w1, w2⟩
    · rw [w2, if_neg (by decide)]
      exact fin V (by rw [w1]; omega)
    · rw [w2, if_pos (by decide)]
      exact fin (-V) (by rw [w1]; omega)
  rcases rW_c tx p6 q6 K6 7 with ⟨e7, _⟩ | ⟨e7, _⟩
  · rw [e7, if_neg (show ¬ w32 1 = 0 by decide), if_pos (show ¬ w32 1 = 0 by decide)]
    exact clock 1 (Or.inl ⟨rfl, e7⟩)
  · rw [e7, if_pos (show w32 0 = 0 by decide), if_neg (show ¬ ¬ w32 0 = 0 by decide)]
    rcases rW_c tx p6 q6 K6 8 with ⟨e8, _⟩ | ⟨e8, _⟩
    · rw [e8, if_neg (show ¬ w32 1 = 0 by decide), if_neg (show ¬ w32 1 = 0 by decide)]
      exact clock (-1) (Or.inr ⟨rfl, e7⟩)
    · rw [e8, if_pos (show w32 0 = 0 by decide), if_pos (show w32 0 = 0 by decide)]
      unfold B_X3_readTown_92
      rw [if_pos (show w32 0 = 0 by decide)]
      exact town_tail (Q := q) h6 g7 D (by omega) (l := t) (z := 0) ⟨by omega, t4⟩ (by omega) nm FA6 c1 c2 c3 c4 (by omega)
