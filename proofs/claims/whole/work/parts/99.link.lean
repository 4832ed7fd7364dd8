/-! PURE: lines of links -/
def LB (b0 b : Mi) (nk : Nat) (vs : List Int) : Prop := (∀ r j, (r = 7 ∧ (j = 6 ∨ j = 9 ∨ j = 13)) ∨ r = 44 ∨ r = 46 ∨ r = 47 → rd b r false j = rd b0 r false j) ∧ (∀ r j, r = 43 ∨ r = 45 → rl b r false j = rl b0 r false j) ∧ (∀ k, k < 6 * nk → rd b 48 false k = rd b0 48 false k) ∧ ∀ j, j < vs.length → rd b 48 false (6 * nk + j) = vs.getD j 0
theorem LB.rf {b0 : Mi} {nk : Nat} : LB b0 b0 nk [] := ⟨fun _ _ _ => rfl, fun _ _ _ => rfl, fun _ _ => rfl, fun j hj => (by cases hj)⟩
theorem LB.fr {b0 b b' : Mi} {nk : Nat} {vs : List Int} (h : LB b0 b nk vs) (F : FrB b b') : LB b0 b' nk vs := ⟨fun r j w => (F.1 r false j (by omega)).trans (h.1 r j w), fun r j w => (F.2 r false j (by omega)).trans (h.2.1 r j w), fun k hk => (F.1 48 false k (by omega)).trans (h.2.2.1 k hk), fun j hj => (F.1 48 false _ (by omega)).trans (h.2.2.2 j hj)⟩
theorem LB.n {b0 b : Mi} {nk : Nat} {vs : List Int} {v : Int} (h : LB b0 b nk vs) : LB b0 (wr b 7 false 35 v) nk vs := ⟨fun r j w => (rdx (by omega)).trans (h.1 r j w), fun r j w => (rl_wr ..).trans (h.2.1 r j w), fun k hk => (rdx (by omega)).trans (h.2.2.1 k hk), fun j hj => (rdx (by omega)).trans (h.2.2.2 j hj)⟩
theorem getD_li {l : List Int} {x : Int} {q : Nat} (h : q < l.length) : (l ++ [x]).getD q 0 = l.getD q 0 := by
  simp [List.getD_eq_getElem?_getD, List.getElem?_append_left h]
theorem getD_ri {l : List Int} {x : Int} : (l ++ [x]).getD l.length 0 = x := by
  simp [List.getD_eq_getElem?_getD]
theorem LB.put {b0 b : Mi} {nk : Nat} {vs : List Int} {v : Int} {i : Nat} (h : LB b0 b nk vs) (hi : i = 6 * nk + vs.length) : LB b0 (wr b 48 false i v) nk (vs ++ [v]) := by
  refine ⟨fun r j w => (rdx (by omega)).trans (h.1 r j w), fun r j w => (rl_wr ..).trans (h.2.1 r j w), fun k hk => (rdx (by omega)).trans (h.2.2.1 k hk), fun j hj => ?_⟩
  rw [List.length_append] at hj
  have hj' : j < vs.length + 1 := hj
  by_cases e : j = vs.length
  · subst e
    rw [getD_ri, hi, rd_s]
  · rw [getD_li (by omega), rdx (by omega)]
    exact h.2.2.2 j (by omega)
theorem and21 : ∀ v : Nat, v ≤ 3 → ((w32 (iand (v : Int) 2) = 0 ↔ ¬ (v : Int) / 2 % 2 = 1) ∧ (w32 (iand (v : Int) 1) = 0 ↔ ¬ (v : Int) / 1 % 2 = 1)) := by decide
theorem stLand_X {μ : Mi} {nl nt : Nat} {x y w : Int} (hnl : nl ≤ 4) (hnt : nt ≤ 8) (h11 : ∀ k, k < nt → 0 ≤ rd μ 11 true k ∧ rd μ 11 true k < (nl : Int)) (h10 : ∀ k, k < nl → 0 ≤ rd μ 10 true k ∧ rd μ 10 true k ≤ 3) (hx : 0 ≤ x ∧ x < (nt : Int)) (hy : 0 ≤ y ∧ y < (nt : Int)) (hw : w = 1 ∨ w = 2) : D_X0_stampingLand true x y w μ = some (stL1 μ x y w) ∧ -1 ≤ stL1 μ x y w ∧ stL1 μ x y w ≤ 3 := by
  have a := h11 x.toNat (by omega)
  have b := h11 y.toNat (by omega)
  have e := h10 (rd μ 11 true x.toNat).toNat (by omega)
  obtain ⟨v, hv⟩ : ∃ v : Nat, rd μ 10 true (rd μ 11 true x.toNat).toNat = (v : Int) := ⟨(rd μ 10 true (rd μ 11 true x.toNat).toNat).toNat, by omega⟩
  have ev := and21 v (by omega)
  unfold D_X0_stampingLand stL1
  rw [wid (x := x) (by omega) (by omega), wid (x := y) (by omega) (by omega), if_pos (by omega), if_pos (by omega), ixd hx.1 (by omega), ixd hy.1 (by omega), wid (x := rd μ 11 true x.toNat) (by omega) (by omega), wid (x := rd μ 11 true y.toNat) (by omega) (by omega), if_pos (show 0 ≤ rd μ 11 true x.toNat ∧ rd μ 11 true x.toNat < 4 by omega), ixd a.1 (by omega), hv]
  by_cases z : rd μ 11 true x.toNat = rd μ 11 true y.toNat
  · rw [if_pos z, if_pos z]; exact ⟨rfl, by omega, by omega⟩
  · rw [if_neg z, if_neg z]
    rcases hw with rfl | rfl
    · by_cases u : (v : Int) / 1 % 2 = 1
      · rw [if_neg (fun q => ev.2.mp q u), if_pos u]; exact ⟨rfl, by omega, by omega⟩
      · rw [if_pos (ev.2.mpr u), if_neg u]; exact ⟨rfl, by omega, by omega⟩
    · by_cases u : (v : Int) / 2 % 2 = 1
      · rw [if_neg (fun q => ev.1.mp q u), if_pos u]; exact ⟨rfl, by omega, by omega⟩
      · rw [if_pos (ev.1.mpr u), if_neg u]; exact ⟨rfl, by omega, by omega⟩
theorem DR.link {a b a' b' : Mi} {nl nt nk : Nat} {x y d hr la pr : Int} (D : DR a b nl nt nk) (hn : nk < 16) (hx : 0 ≤ x ∧ x < (nt : Int)) (hy : 0 ≤ y ∧ y < (nt : Int)) (hne : ¬ x = y) (hd : d = 0 ∨ d = 1) (h1 : 0 ≤ hr ∧ hr ≤ 95) (h2 : 1 ≤ la ∧ la ≤ 48) (h3 : 0 ≤ pr ∧ pr ≤ 99) (ea : ∀ r j, (r = 0 ∧ ¬ j = 2) ∨ (10 ≤ r ∧ r ≤ 12) → rd a' r true j = rd a r true j) (ea2 : rd a' 0 true 2 = ((nk + 1 : Nat) : Int)) (e13 : ∀ k, rd a' 13 true k = if k = nk then x else rd a 13 true k) (e14 : ∀ k, rd a' 14 true k = if k = nk then y else rd a 14 true k) (e15 : ∀ k, rd a' 15 true k = if k = nk then hr else rd a 15 true k) (e16 : ∀ k, rd a' 16 true k = if k = nk then la else rd a 16 true k) (e17 : ∀ k, rd a' 17 true k = if k = nk then pr else rd a 17 true k) (e18 : ∀ k, rd a' 18 true k = if k = nk then d else rd a 18 true k) (e19 : ∀ k, rd a' 19 true k = if k = nk then stL1 a x y 2 else rd a 19 true k) (e20 : ∀ k, rd a' 20 true k = if k = nk then stL1 a y x 1 else rd a 20 true k) (la0 : ∀ r j, r = 30 ∨ r = 31 → rl a' r false j = rl a r false j) (eb : ∀ r j, (r = 7 ∧ (j = 6 ∨ j = 9)) ∨ r = 44 ∨ r = 46 ∨ r = 47 → rd b' r false j = rd b r false j) (eb13 : rd b' 7 false 13 = ((nk + 1 : Nat) : Int)) (e48 : ∀ k, k < 6 * nk → rd b' 48 false k = rd b 48 false k) (v48 : ∀ j, j < 6 → rd b' 48 false (6 * nk + j) = [x, y, hr, la, pr, d].getD j 0) (lb0 : ∀ r j, r = 43 ∨ r = 45 → rl b' r false j = rl b r false j) : DR a' b' nl nt (nk + 1) := by
  obtain ⟨⟨⟨n1, n2, n3, n4⟩, n5, n6, n7, n8⟩, d1, d2, ⟨d3, d4, d5⟩, d6, d7⟩ := D
  have st : ∀ x y w, stL1 a' x y w = stL1 a x y w := fun x y w => by
    unfold stL1
    rw [ea 11 _ (by omega), ea 11 _ (by omega), ea 10 _ (by omega)]
  refine ⟨⟨⟨n1, by rw [ea 0 0 (by omega)]; exact n2, by rw [eb 7 6 (by omega)]; exact n3, fun k hk => by rw [la0 30 k (by omega), lb0 43 k (by omega)]; exact n4 k hk⟩, n5, by rw [ea 0 1 (by omega)]; exact n6, by rw [eb 7 9 (by omega)]; exact n7, fun k hk => by rw [la0 31 k (by omega), lb0 45 k (by omega)]; exact n8 k hk⟩, fun k hk => by rw [ea 10 k (by omega), eb 44 k (by omega)]; exact d1 k hk, fun k hk => by rw [ea 11 k (by omega), ea 12 k (by omega), eb 46 k (by omega), eb 47 k (by omega)]; exact d2 k hk, ⟨by omega, ea2, eb13⟩, fun k hk => ?_, fun k hk => ?_⟩
  · by_cases e : k = nk
    · subst e
      have v0 := v48 0 (by omega)
      rw [Nat.add_zero] at v0
      unfold LkR
      rw [e13, e14, e15, e16, e17, e18, e19, e20, if_pos rfl, if_pos rfl, if_pos rfl, if_pos rfl, if_pos rfl, if_pos rfl, if_pos rfl, if_pos rfl, st, st, v0, v48 1 (by omega), v48 2 (by omega), v48 3 (by omega), v48 4 (by omega), v48 5 (by omega)]
      exact ⟨⟨hx.1, hx.2, rfl⟩, ⟨hy.1, hy.2, rfl⟩, hne, ⟨h1.1, h1.2, rfl⟩, ⟨h2.1, h2.2, rfl⟩, ⟨h3.1, h3.2, rfl⟩, ⟨hd, rfl⟩, rfl, rfl⟩
    · have := d6 k (by omega)
      unfold LkR at *
      rw [e13, e14, e15, e16, e17, e18, e19, e20, if_neg e, if_neg e, if_neg e, if_neg e, if_neg e, if_neg e, if_neg e, if_neg e, st, st, e48 _ (by omega), e48 _ (by omega), e48 _ (by omega), e48 _ (by omega), e48 _ (by omega), e48 _ (by omega)]
      exact this
  · rw [e18]
    split
    · exact isB_b hd
    · exact d7 k hk
theorem link_tail {tx : Nat → Int} {N p q K Q nl nt nk : Nat} {a0 b0 a b : Mi} {x y d hr la pr : Int} (h : SRa tx N p q K a) (g : SRb tx N p q K b) (D : DR a0 b0 nl nt nk) (hn : nk < 16) (hx : 0 ≤ x ∧ x < (nt : Int)) (hy : 0 ≤ y ∧ y < (nt : Int)) (hne : ¬ x = y) (hd : d = 0 ∨ d = 1) (h1 : 0 ≤ hr ∧ hr ≤ 95) (h2 : 1 ≤ la ∧ la ≤ 48) (h3 : 0 ≤ pr ∧ pr ≤ 99) (FA : FrA a0 a) (L : LB b0 b nk [x, y, hr, la, pr]) (hq : Q ≤ q) : ∃ r a' b', (if (w32 (rd a 3 false 7)) = 3 then bm (D_X3_next a) fun m9 => bm (D_X0_addLink true x y d hr la pr m9) fun m10 => some (1, m10) else some (0, a)) = some (r, a') ∧ B_X7_linkLine_220 d ((6 * nk + 5 : Nat) : Int) b = some (r, b') ∧ OutL tx N Q r a' b' := by
  have hnt := D.1.2.1
  have hnl := D.1.1.1
  have e13 : rd b 7 false 13 = (nk : Int) := (L.1 7 13 (by omega)).trans D.2.2.2.1.2.2
  unfold B_X7_linkLine_220
  rw [wid (x := ((6 * nk + 5 : Nat) : Int)) (by omega) (by omega), if_pos (show 0 ≤ ((6 * nk + 5 : Nat) : Int) ∧ ((6 * nk + 5 : Nat) : Int) < 96 by omega), ixn _ (by omega), e13]
  obtain ⟨b1, hb1⟩ : ∃ b1, b1 = wr (wr b 48 false (6 * nk + 5) d) 7 false 13 ((nk : Int) + 1) := ⟨_, rfl⟩
  have g1 : SRb tx N p q K b1 := by rw [hb1]; exact (g.w (by omega)).w (by omega)
  have L6 : LB b0 (wr b 48 false (6 * nk + 5) d) nk [x, y, hr, la, pr, d] := L.put rfl
  rw [← hb1]
  unfold D_X7_closes
  rw [h.2.2.1.2.2.1, g1.2.2.1.2.2.1, wid (x := (K : Int)) (by have := h.2.2.2.2.2.1; omega) (by have := h.2.2.2.2.2.1; omega)]
  by_cases w : K = 3
  rotate_left
  · rw [if_neg (by omega), if_neg (by omega), bd_k, if_pos isB_0]
    exact ⟨0, a, b1, rfl, rfl, OutL.no D FA h g1⟩
  obtain ⟨a6, b6, p6, q6, K6, x6, y6, h6, g6, F6, G6, l6, m6⟩ := nxt h g1
  have FA6 : FrA a0 a6 := FA.tr F6
  have n2 : rd a6 0 true 2 = (nk : Int) := (FA6.1 0 true 2 (by omega)).trans D.2.2.2.1.2.1
  obtain ⟨a7, ha7⟩ : ∃ a7, a7 = wr (wr (wr (wr (wr (wr a6 13 true nk x) 14 true nk y) 18 true nk d) 15 true nk hr) 16 true nk la) 17 true nk pr := ⟨_, rfl⟩
  have r7 : ∀ r i j, r < 13 ∨ 18 < r → rd a7 r i j = rd a6 r i j := fun r i j w => by
    rw [ha7, rdx (by omega), rdx (by omega), rdx (by omega), rdx (by omega), rdx (by omega), rdx (by omega)]
  have s11 : ∀ (m : Mi), (∀ j, rd m 11 true j = rd a0 11 true j) → ∀ k, k < nt → 0 ≤ rd m 11 true k ∧ rd m 11 true k < (nl : Int) := fun m e k hk => by rw [e]; exact ⟨(D.2.2.1 k hk).1, (D.2.2.1 k hk).2.1⟩
  have s10 : ∀ (m : Mi), (∀ j, rd m 10 true j = rd a0 10 true j) → ∀ k, k < nl → 0 ≤ rd m 10 true k ∧ rd m 10 true k ≤ 3 := fun m e k hk => by rw [e]; exact ⟨(D.2.1 k hk).1, (D.2.1 k hk).2.1⟩
  have q11 : ∀ j, rd a7 11 true j = rd a0 11 true j := fun j => by rw [r7 11 true j (by omega), FA6.1 11 true j (by omega)]
  have q10 : ∀ j, rd a7 10 true j = rd a0 10 true j := fun j => by rw [r7 10 true j (by omega), FA6.1 10 true j (by omega)]
  have E1 := stLand_X hnl hnt (s11 a7 q11) (s10 a7 q10) hx hy (Or.inr rfl : (2 : Int) = 1 ∨ (2 : Int) = 2)
  have s1e : stL1 a7 x y 2 = stL1 a0 x y 2 := by unfold stL1; rw [q11, q11, q10]
  rw [s1e] at E1
  have E2 := stLand_X (μ := wr a7 19 true nk (stL1 a0 x y 2)) hnl hnt (s11 _ (fun j => by rw [rdx (by omega)]; exact q11 j)) (s10 _ (fun j => by rw [rdx (by omega)]; exact q10 j)) hy hx (Or.inl rfl : (1 : Int) = 1 ∨ (1 : Int) = 2)
  have s2e : stL1 (wr a7 19 true nk (stL1 a0 x y 2)) y x 1 = stL1 a0 y x 1 := by
    unfold stL1
    rw [rdx (by omega), rdx (by omega), rdx (by omega), q11, q11, q10]
  rw [s2e] at E2
  have hnk : 0 ≤ (nk : Int) ∧ (nk : Int) < 16 := by omega
  have hadd : D_X0_addLink true x y d hr la pr a6 = some (wr (wr (wr a7 19 true nk (stL1 a0 x y 2)) 20 true nk (stL1 a0 y x 1)) 0 true 2 ((nk : Int) + 1)) := by
    unfold D_X0_addLink
    rw [n2, wid (x := (nk : Int)) (by omega) (by omega), if_neg (by omega), if_pos hnk, if_pos hnk, if_pos hnk, if_pos (isB_b hd), if_pos hnk, if_pos hnk, if_pos hnk, ixn nk (by omega), ← ha7, E1.1, bp_k, if_pos hnk, E2.1, bp_k, if_pos hnk]
  rw [if_pos (by omega), if_pos (by omega), x6, bm_k, y6, bm_k, bd_k, if_pos isB_1, hadd, bm_k]
  refine ⟨1, _, b6, rfl, rfl, p6, q6, K6, h6.eq (fun r i j w => by rw [rdx (by omega), rdx (by omega), rdx (by omega), r7 r i j (by omega)]) (fun i j => by rw [rl_wr, rl_wr, rl_wr, ha7, rl_wr, rl_wr, rl_wr, rl_wr, rl_wr, rl_wr]), g6, Or.inr ⟨rfl, fun w => by have := m6 w; omega, nl, nt, nk + 1, ?_⟩⟩
  have one : ∀ (m : Mi) (r : Nat) (v : Int) (k : Nat), (∀ j, rd m r true j = rd a0 r true j) → rd (wr m r true nk v) r true k = if k = nk then v else rd a0 r true k := fun m r v k e => by
    rw [rd_wr, e]
    by_cases u : k = nk
    · rw [if_pos ⟨rfl, rfl, u⟩, if_pos u]
    · rw [if_neg (fun w => u w.2.2), if_neg u]
  have f6 : ∀ r j, 10 ≤ r → rd a6 r true j = rd a0 r true j := fun r j w => FA6.1 r true j (by omega)
  refine DR.link D hn hx hy hne hd h1 h2 h3 (fun r j w => ?_) ?_ (fun k => ?_) (fun k => ?_) (fun k => ?_) (fun k => ?_) (fun k => ?_) (fun k => ?_) (fun k => ?_) (fun k => ?_) (fun r j w => ?_) (fun r j w => ?_) ?_ (fun k hk => ?_) (fun j hj => ?_) (fun r j w => ?_)
  · rw [rdx (by omega), rdx (by omega), rdx (by omega), r7 r true j (by omega), FA6.1 r true j (by omega)]
  · rw [rd_s]; omega
  · rw [rdx (by omega), rdx (by omega), rdx (by omega), ha7, rdx (by omega), rdx (by omega), rdx (by omega), rdx (by omega), rdx (by omega), one _ 13 x k (fun j => f6 13 j (by omega))]
  · rw [rdx (by omega), rdx (by omega), rdx (by omega), ha7, rdx (by omega), rdx (by omega), rdx (by omega), rdx (by omega), one _ 14 y k (fun j => by rw [rdx (by omega)]; exact f6 14 j (by omega))]
  · rw [rdx (by omega), rdx (by omega), rdx (by omega), ha7, rdx (by omega), rdx (by omega), one _ 15 hr k (fun j => by rw [rdx (by omega), rdx (by omega), rdx (by omega)]; exact f6 15 j (by omega))]
  · rw [rdx (by omega), rdx (by omega), rdx (by omega), ha7, rdx (by omega), one _ 16 la k (fun j => by rw [rdx (by omega), rdx (by omega), rdx (by omega), rdx (by omega)]; exact f6 16 j (by omega))]
  · rw [rdx (by omega), rdx (by omega), rdx (by omega), ha7, one _ 17 pr k (fun j => by rw [rdx (by omega), rdx (by omega), rdx (by omega), rdx (by omega), rdx (by omega)]; exact f6 17 j (by omega))]
  · rw [rdx (by omega), rdx (by omega), rdx (by omega), ha7, rdx (by omega), rdx (by omega), rdx (by omega), one _ 18 d k (fun j => by rw [rdx (by omega), rdx (by omega)]; exact f6 18 j (by omega))]
  · rw [rdx (by omega), rdx (by omega), one _ 19 _ k (fun j => by rw [r7 19 true j (by omega)]; exact f6 19 j (by omega))]
  · rw [rdx (by omega), one _ 20 _ k (fun j => by rw [rdx (by omega), r7 20 true j (by omega)]; exact f6 20 j (by omega))]
  · rw [rl_wr, rl_wr, rl_wr, ha7, rl_wr, rl_wr, rl_wr, rl_wr, rl_wr, rl_wr, FA6.2 r false j (by omega)]
  · rw [G6.1 r false j (by omega), hb1, rdx (by omega), L6.1 r j (by omega)]
  · rw [G6.1 7 false 13 (by omega), hb1, rd_s]; omega
  · rw [G6.1 48 false k (by omega), hb1, rdx (by omega), L6.2.2.1 k hk]
  · rw [G6.1 48 false _ (by omega), hb1, rdx (by omega), L6.2.2.2 j hj]
  · rw [G6.2 r false j (by omega), hb1, rl_wr, L6.2.1 r j w]
