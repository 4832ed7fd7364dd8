/-! PURE: next, by the class and by the reference -/
abbrev tkn (tx : Nat → Int) (p : Nat) : Nat → Int := fun j => tx (p + j)
def kdK (tx : Nat → Int) (N p : Nat) : Nat := if N ≤ p then 0 else if ltr (tx p) = true then 1 else if dgt (tx p) = true then 2 else if tx p = 59 then 3 else 4
def enK' (tx : Nat → Int) (N p : Nat) : Nat := if N ≤ p then p else if ltr (tx p) = true then runP (fun j => ltr (tx j)) N (N - p) p else if dgt (tx p) = true then runP (fun j => dgt (tx j)) N (N - p) p else p + 1
def stK (tx : Nat → Int) (N s : Nat) : Nat := runP (fun j => blk (tx j)) N (N - s) s
/-- the reference's number -/
def nvM (f : Nat → Int) : Nat → Int
  | 0 => 0
  | d + 1 => if 999 < nvM f d then nvM f d else 10 * nvM f d + f d - 48
theorem nvM_b {f : Nat → Int} : ∀ d, (∀ j, j < d → 48 ≤ f j ∧ f j ≤ 57) → 0 ≤ nvM f d ∧ nvM f d ≤ 9999
  | 0, _ => ⟨Int.le_refl _, by show (0 : Int) ≤ 9999; omega⟩
  | d + 1, h => by
    have ih := nvM_b d (fun j hj => h j (by omega))
    have := h d (by omega)
    rw [nvM]
    split <;> omega
/-- a token, as both hold it -/
def TkX (tx : Nat → Int) (p q K : Nat) (a : Mi) : Prop := rd a 3 false 5 = (p : Int) ∧ rd a 3 false 6 = (q : Int) ∧ rd a 3 false 7 = (K : Int) ∧ (K = 1 → rl a 3 false 9 = k32 (tkn tx p) (q - p)) ∧ (K = 2 → rd a 3 false 8 = min 1000 (nvM (tkn tx p) (q - p)))
def TkM (tx : Nat → Int) (p q K : Nat) (b : Mi) : Prop := rd b 7 false 4 = (p : Int) ∧ rd b 7 false 2 = (q : Int) ∧ rd b 7 false 3 = (K : Int) ∧ (K = 1 → rl b 7 false 5 = if q - p ≤ 8 then k256 (tkn tx p) (q - p) else 0) ∧ (K = 2 → rl b 7 false 5 = nvM (tkn tx p) (q - p))
/-- what a token is -/
def TkP (tx : Nat → Int) (N p q K : Nat) : Prop := p ≤ q ∧ q ≤ N ∧ K ≤ 4 ∧ (¬ K = 0 → p < q) ∧ (K = 1 → lts (tkn tx p) (q - p)) ∧ (K = 2 → ∀ j, j < q - p → 48 ≤ tkn tx p j ∧ tkn tx p j ≤ 57) ∧ (K = 0 → p = N)
theorem ltr_iff {v : Int} : ltr v = true ↔ 97 ≤ v ∧ v ≤ 122 := by unfold ltr; simp
theorem dgt_iff {v : Int} : dgt v = true ↔ 48 ≤ v ∧ v ≤ 57 := by unfold dgt; simp
theorem blk_iff {v : Int} : blk v = true ↔ v = 32 ∨ v = 10 := by unfold blk; simp
theorem tok_P {tx : Nat → Int} {N s : Nat} (hs : s ≤ N) : TkP tx N (stK tx N s) (enK' tx N (stK tx N s)) (kdK tx N (stK tx N s)) ∧ s ≤ stK tx N s := by
  obtain ⟨a, b, -, -⟩ := runP_p (P := fun j => blk (tx j)) (N := N) (N - s) s (by omega)
  have a' : s ≤ stK tx N s := a
  have b' : stK tx N s ≤ N := b
  obtain ⟨p, hp⟩ : ∃ p, p = stK tx N s := ⟨_, rfl⟩
  rw [← hp] at a' b' ⊢
  refine ⟨?_, a'⟩
  unfold TkP kdK enK'
  by_cases z : N ≤ p
  · rw [if_pos z, if_pos z]
    exact ⟨Nat.le_refl _, b', by omega, fun w => absurd rfl w, fun w => by omega, fun w => by omega, fun _ => by omega⟩
  · rw [if_neg z, if_neg z]
    by_cases y : ltr (tx p) = true
    · rw [if_pos y, if_pos y]
      obtain ⟨r1, r2, r3, r4⟩ := runP_p (P := fun j => ltr (tx j)) (N := N) (N - p) p (by omega)
      have r5 : p < runP (fun j => ltr (tx j)) N (N - p) p := Nat.lt_of_not_le fun w => by
        have e : runP (fun j => ltr (tx j)) N (N - p) p = p := by omega
        have := r4 (by omega)
        rw [e, y] at this
        cases this
      exact ⟨r1, r2, by omega, fun _ => r5, fun _ j hj => ltr_iff.mp (r3 (p + j) (by omega) (by omega)), fun w => by omega, fun w => by omega⟩
    · rw [if_neg y, if_neg y]
      by_cases x : dgt (tx p) = true
      · rw [if_pos x, if_pos x]
        obtain ⟨r1, r2, r3, r4⟩ := runP_p (P := fun j => dgt (tx j)) (N := N) (N - p) p (by omega)
        have r5 : p < runP (fun j => dgt (tx j)) N (N - p) p := Nat.lt_of_not_le fun w => by
          have e : runP (fun j => dgt (tx j)) N (N - p) p = p := by omega
          have := r4 (by omega)
          rw [e, x] at this
          cases this
        exact ⟨r1, r2, by omega, fun _ => r5, fun w => by omega, fun _ j hj => dgt_iff.mp (r3 (p + j) (by omega) (by omega)), fun w => by omega⟩
      · rw [if_neg x, if_neg x]
        have hk : (if tx p = 59 then 3 else 4) = 3 ∨ (if tx p = 59 then 3 else 4) = 4 := by split <;> omega
        exact ⟨by omega, by omega, by omega, fun _ => by omega, fun w => by omega, fun w => by omega, fun w => by omega⟩
/-! the class -/
theorem nX_8 {tx : Nat → Int} {N : Nat} (B : TB tx N) : ∀ (f n x : Nat) (μ : Mi), x + f = N → f < n → TXa tx N μ → rd μ 3 false 5 = (x : Int) → ∃ m, B_X3_next_8 n μ = B_X3_next_60 m ∧ rd m 3 false 5 = ((runP (fun j => blk (tx j)) N f x : Nat) : Int) ∧ FrA μ m := by
  have hN := B.1
  intro f
  induction f with
  | zero =>
    intro n x μ hx hn h h5
    obtain ⟨n, rfl⟩ : ∃ q, n = q + 1 := ⟨n - 1, by omega⟩
    refine ⟨μ, ?_, h5, FrA.rf⟩
    rw [B_X3_next_8_s, F_X3_next_8, h.1, h5, wid (x := (N : Int)) (by omega) (by omega), wid (x := (x : Int)) (by omega) (by omega), if_pos (by omega)]
  | succ f ih =>
    intro n x μ hx hn h h5
    obtain ⟨n, rfl⟩ : ∃ q, n = q + 1 := ⟨n - 1, by omega⟩
    have hb := B.2 x (by omega)
    have hxb : 0 ≤ (x : Int) ∧ (x : Int) < 500 := by omega
    rw [B_X3_next_8_s, F_X3_next_8, h.1, h5, wid (x := (N : Int)) (by omega) (by omega), wid (x := (x : Int)) (by omega) (by omega), if_neg (by omega), if_pos hxb, if_pos hxb, ixn x (by omega), h.2 x (by omega), wid (x := tx x) (by omega) (by omega), runP]
    have e47 : B_X3_next_47 (B_X3_next_8 n) μ = B_X3_next_8 n (wr μ 3 false 5 ((x + 1 : Nat) : Int)) := by
      unfold B_X3_next_47
      rw [h5, show (x : Int) + 1 = ((x + 1 : Nat) : Int) by omega]
    have F1 : FrA μ (wr μ 3 false 5 ((x + 1 : Nat) : Int)) := FrA.rf.w (by omega)
    rw [e47]
    by_cases z : tx x = 32 ∨ tx x = 10
    · obtain ⟨m, a1, a2, a3⟩ := ih n (x + 1) (wr μ 3 false 5 ((x + 1 : Nat) : Int)) (by omega) (by omega) (h.fr F1) rd_s
      rw [if_pos (show x < N ∧ blk (tx x) = true from ⟨by omega, blk_iff.mpr z⟩)]
      refine ⟨m, ?_, a2, F1.tr a3⟩
      rw [← a1]
      by_cases y : tx x = 32
      · rw [if_pos y]
      · rw [if_neg y, if_neg (by omega)]
    · rw [if_neg (show ¬ (x < N ∧ blk (tx x) = true) from fun w => z (blk_iff.mp w.2))]
      refine ⟨μ, ?_, h5, FrA.rf⟩
      rw [if_neg (fun w => z (Or.inl w)), if_pos (fun w => z (Or.inr w))]
theorem wX_10 {tx : Nat → Int} {N p : Nat} (B : TB tx N) : ∀ (f n x : Nat) (μ : Mi), x + f = N → p ≤ x → f < n → TXa tx N μ → rd μ 3 false 6 = (x : Int) → rl μ 3 false 9 = k32 (tkn tx p) (x - p) → ∃ m, B_X3_takeWord_10 n μ = some m ∧ rd m 3 false 6 = ((runP (fun j => ltr (tx j)) N f x : Nat) : Int) ∧ rl m 3 false 9 = k32 (tkn tx p) (runP (fun j => ltr (tx j)) N f x - p) ∧ rd m 3 false 5 = rd μ 3 false 5 ∧ rd m 3 false 7 = rd μ 3 false 7 ∧ FrA μ m := by
  have hN := B.1
  intro f
  induction f with
  | zero =>
    intro n x μ hx hp hn h h6 h9
    obtain ⟨n, rfl⟩ : ∃ q, n = q + 1 := ⟨n - 1, by omega⟩
    refine ⟨μ, ?_, h6, h9, rfl, rfl, FrA.rf⟩
    rw [B_X3_takeWord_10_s, F_X3_takeWord_10, h.1, h6, wid (x := (N : Int)) (by omega) (by omega), wid (x := (x : Int)) (by omega) (by omega), if_pos (by omega)]
  | succ f ih =>
    intro n x μ hx hp hn h h6 h9
    obtain ⟨n, rfl⟩ : ∃ q, n = q + 1 := ⟨n - 1, by omega⟩
    have hb := B.2 x (by omega)
    have hxb : 0 ≤ (x : Int) ∧ (x : Int) < 500 := by omega
    rw [B_X3_takeWord_10_s, F_X3_takeWord_10, h.1, h6, wid (x := (N : Int)) (by omega) (by omega), wid (x := (x : Int)) (by omega) (by omega), if_neg (by omega), isLetter_X B h (by omega), bp_k, if_pos hxb, ixn x (by omega), h.2 x (by omega), runP]
    by_cases z : ltr (tx x) = true
    · have zl := ltr_iff.mp z
      have F1 : FrA μ (wr (wl μ 3 false 9 (k32 (tkn tx p) (x + 1 - p))) 3 false 6 ((x + 1 : Nat) : Int)) := (FrA.rf.l).w (by omega)
      obtain ⟨m, a1, a2, a3, a4, a5, a6⟩ := ih n (x + 1) (wr (wl μ 3 false 9 (k32 (tkn tx p) (x + 1 - p))) 3 false 6 ((x + 1 : Nat) : Int)) (by omega) (by omega) (by omega) (h.fr F1) rd_s (by rw [rl_wr, rl_s])
      rw [if_neg (nb10 z), if_pos (show x < N ∧ ltr (tx x) = true from ⟨by omega, z⟩)]
      refine ⟨m, ?_, a2, a3, a4.trans (rdx (by omega)), a5.trans (rdx (by omega)), F1.tr a6⟩
      rw [← a1, h9, wid (x := tx x - 97 + 1) (by omega) (by omega), show (x : Int) + 1 = ((x + 1 : Nat) : Int) by omega, show x + 1 - p = (x - p) + 1 by omega, k32]
      have e : tkn tx p (x - p) = tx x := by
        show tx (p + (x - p)) = tx x
        rw [show p + (x - p) = x by omega]
      rw [e, show tx x - 97 + 1 = tx x - 96 by omega]
    · rw [if_pos (yb10 z), if_neg (fun w => z w.2)]
      exact ⟨μ, rfl, h6, h9, rfl, rfl, FrA.rf⟩
theorem uX_10 {tx : Nat → Int} {N p : Nat} (B : TB tx N) : ∀ (f n x : Nat) (μ : Mi), x + f = N → p ≤ x → f < n → (∀ j, j < x - p → 48 ≤ tkn tx p j ∧ tkn tx p j ≤ 57) → TXa tx N μ → rd μ 3 false 6 = (x : Int) → rd μ 3 false 8 = min 1000 (nvM (tkn tx p) (x - p)) → ∃ m, B_X3_takeNumber_10 n μ = some m ∧ rd m 3 false 6 = ((runP (fun j => dgt (tx j)) N f x : Nat) : Int) ∧ rd m 3 false 8 = min 1000 (nvM (tkn tx p) (runP (fun j => dgt (tx j)) N f x - p)) ∧ rd m 3 false 5 = rd μ 3 false 5 ∧ rd m 3 false 7 = rd μ 3 false 7 ∧ FrA μ m := by
  have hN := B.1
  intro f
  induction f with
  | zero =>
    intro n x μ hx hp hn hd h h6 h9
    obtain ⟨n, rfl⟩ : ∃ q, n = q + 1 := ⟨n - 1, by omega⟩
    refine ⟨μ, ?_, h6, h9, rfl, rfl, FrA.rf⟩
    rw [B_X3_takeNumber_10_s, F_X3_takeNumber_10, h.1, h6, wid (x := (N : Int)) (by omega) (by omega), wid (x := (x : Int)) (by omega) (by omega), if_pos (by omega)]
  | succ f ih =>
    intro n x μ hx hp hn hd h h6 h9
    obtain ⟨n, rfl⟩ : ∃ q, n = q + 1 := ⟨n - 1, by omega⟩
    have hb := B.2 x (by omega)
    have hv := nvM_b _ hd
    have hxb : 0 ≤ (x : Int) ∧ (x : Int) < 500 := by omega
    rw [B_X3_takeNumber_10_s, F_X3_takeNumber_10, h.1, h6, wid (x := (N : Int)) (by omega) (by omega), wid (x := (x : Int)) (by omega) (by omega), if_neg (by omega), isDigit_X B h (by omega), bp_k, if_pos hxb, ixn x (by omega), h.2 x (by omega), runP]
    by_cases z : dgt (tx x) = true
    · have zl := dgt_iff.mp z
      have e : tkn tx p (x - p) = tx x := by
        show tx (p + (x - p)) = tx x
        rw [show p + (x - p) = x by omega]
      have hd' : ∀ j, j < x + 1 - p → 48 ≤ tkn tx p j ∧ tkn tx p j ≤ 57 := fun j hj => by
        by_cases q : j = x - p
        · rw [q, e]; exact zl
        · exact hd j (by omega)
      have F1 : FrA μ (wr (wr μ 3 false 8 (min 1000 (nvM (tkn tx p) (x + 1 - p)))) 3 false 6 ((x + 1 : Nat) : Int)) := (FrA.rf.w (by omega)).w (by omega)
      obtain ⟨m, a1, a2, a3, a4, a5, a6⟩ := ih n (x + 1) (wr (wr μ 3 false 8 (min 1000 (nvM (tkn tx p) (x + 1 - p)))) 3 false 6 ((x + 1 : Nat) : Int)) (by omega) (by omega) (by omega) hd' (h.fr F1) rd_s (by rw [rdx (by omega), rd_s])
      rw [if_neg (nb10 z), if_pos (show x < N ∧ dgt (tx x) = true from ⟨by omega, z⟩)]
      refine ⟨m, ?_, a2, a3, a4.trans ((rdx (by omega)).trans (rdx (by omega))), a5.trans ((rdx (by omega)).trans (rdx (by omega))), F1.tr a6⟩
      have en : nvM (tkn tx p) (x + 1 - p) = if 999 < nvM (tkn tx p) (x - p) then nvM (tkn tx p) (x - p) else 10 * nvM (tkn tx p) (x - p) + tx x - 48 := by
        rw [show x + 1 - p = (x - p) + 1 by omega, nvM, e]
      rw [← a1, h9, min_X (by decide) (wid (by omega) (by omega)), show (x : Int) + 1 = ((x + 1 : Nat) : Int) by omega]
      have em : min 1000 (min 1000 (nvM (tkn tx p) (x - p)) * 10 + (tx x - 48)) = min 1000 (nvM (tkn tx p) (x + 1 - p)) := by
        rw [en]
        split <;> omega
      rw [em]
    · rw [if_pos (yb10 z), if_neg (fun w => z w.2)]
      exact ⟨μ, rfl, h6, h9, rfl, rfl, FrA.rf⟩
theorem next_X {tx : Nat → Int} {N s : Nat} {μ : Mi} (B : TB tx N) (h : TXa tx N μ) (hs : s ≤ N) (h6 : rd μ 3 false 6 = (s : Int)) : ∃ m, D_X3_next μ = some m ∧ TkX tx (stK tx N s) (enK' tx N (stK tx N s)) (kdK tx N (stK tx N s)) m ∧ FrA μ m := by
  have hN := B.1
  have F0 : FrA μ (wr μ 3 false 5 (s : Int)) := FrA.rf.w (by omega)
  obtain ⟨m, a1, a2, a3⟩ := nX_8 B (N - s) FU s (wr μ 3 false 5 (s : Int)) (by omega) (FU_gt (by omega)) (h.fr F0) rd_s
  have hst : runP (fun j => blk (tx j)) N (N - s) s = stK tx N s := rfl
  rw [hst] at a2
  obtain ⟨⟨t1, t2, -⟩, t3⟩ := tok_P (tx := tx) hs
  obtain ⟨p, hp⟩ : ∃ p, p = stK tx N s := ⟨_, rfl⟩
  rw [← hp] at a2 t1 t2 t3 ⊢
  have F1 := F0.tr a3
  have hm := h.fr F1
  have e0 : D_X3_next μ = B_X3_next_60 m := by
    unfold D_X3_next
    rw [h6]
    exact a1
  rw [e0]
  unfold B_X3_next_60
  rw [a2, hm.1, wid (x := (p : Int)) (by omega) (by omega), wid (x := (N : Int)) (by omega) (by omega)]
  unfold kdK enK'
  by_cases z : N ≤ p
  · rw [if_neg (by omega), if_pos z, if_pos z]
    refine ⟨_, rfl, ⟨?_, ?_, rd_s, fun w => by omega, fun w => by omega⟩, F1.tr ((FrA.rf.w (by omega)).w (by omega))⟩
    · rw [rdx (by omega), rdx (by omega)]; exact a2
    · rw [rdx (by omega), rd_s]
  · rw [if_pos (by omega), if_neg z, if_neg z]
    have F2 : FrA m (wr m 3 false 6 (p : Int)) := FrA.rf.w (by omega)
    have hm2 := hm.fr F2
    have hpb : 0 ≤ (p : Int) ∧ (p : Int) < 500 := by omega
    have hb := B.2 p (by omega)
    rw [isLetter_X B hm2 (by omega), bp_k, isDigit_X B hm2 (by omega), bp_k, if_pos hpb, ixn p (by omega), hm.2 p (by omega), wid (x := tx p) (by omega) (by omega)]
    by_cases y : ltr (tx p) = true
    · rw [if_neg (nb10 y), if_pos y, if_pos y]
      have F3 : FrA m (wl (wr (wr m 3 false 6 (p : Int)) 3 false 7 1) 3 false 9 0) := (F2.w (by omega)).l
      obtain ⟨m4, b1, b2, b3, b4, b5, b6⟩ := wX_10 (p := p) B (N - p) FU p (wl (wr (wr m 3 false 6 (p : Int)) 3 false 7 1) 3 false 9 0) (by omega) (Nat.le_refl _) (FU_gt (by omega)) (hm.fr F3) (by rw [rd_wl, rdx (by omega), rd_s]) (by rw [rl_s, Nat.sub_self]; rfl)
      refine ⟨m4, ?_, ⟨?_, b2, ?_, fun _ => b3, fun w => by omega⟩, F1.tr (F3.tr b6)⟩
      · unfold D_X3_takeWord
        rw [b1, bm_k]
      · rw [b4, rd_wl, rdx (by omega), rdx (by omega)]; exact a2
      · rw [b5, rd_wl, rd_s]; rfl
    · rw [if_pos (yb10 y), if_neg y, if_neg y]
      by_cases x : dgt (tx p) = true
      · rw [if_neg (nb10 x), if_pos x, if_pos x]
        have F3 : FrA m (wr (wr (wr m 3 false 6 (p : Int)) 3 false 7 2) 3 false 8 0) := (F2.w (by omega)).w (by omega)
        obtain ⟨m4, b1, b2, b3, b4, b5, b6⟩ := uX_10 (p := p) B (N - p) FU p (wr (wr (wr m 3 false 6 (p : Int)) 3 false 7 2) 3 false 8 0) (by omega) (Nat.le_refl _) (FU_gt (by omega)) (fun j hj => by omega) (hm.fr F3) (by rw [rdx (by omega), rdx (by omega), rd_s]) (by rw [rd_s, Nat.sub_self]; rfl)
        refine ⟨m4, ?_, ⟨?_, b2, ?_, fun w => by omega, fun _ => b3⟩, F1.tr (F3.tr b6)⟩
        · unfold D_X3_takeNumber
          rw [b1, bm_k]
        · rw [b4, rdx (by omega), rdx (by omega), rdx (by omega)]; exact a2
        · rw [b5, rdx (by omega), rd_s]; rfl
      · rw [if_pos (yb10 x), if_neg x, if_neg x]
        have e143 : ∀ v : Int, B_X3_next_143 v (wr m 3 false 6 (p : Int)) = some (wr (wr (wr m 3 false 6 (p : Int)) 3 false 7 v) 3 false 6 ((p + 1 : Nat) : Int)) := fun v => by
          unfold B_X3_next_143
          rw [rd_s, show (p : Int) + 1 = ((p + 1 : Nat) : Int) by omega]
        rw [e143, e143]
        have F3 : ∀ v : Int, FrA m (wr (wr (wr m 3 false 6 (p : Int)) 3 false 7 v) 3 false 6 ((p + 1 : Nat) : Int)) := fun v => (F2.w (by omega)).w (by omega)
        by_cases u : tx p = 59
        · rw [if_neg (fun w => w u), if_pos u]
          refine ⟨_, rfl, ⟨?_, rd_s, ?_, fun w => by omega, fun w => by omega⟩, F1.tr (F3 3)⟩
          · rw [rdx (by omega), rdx (by omega), rdx (by omega)]; exact a2
          · rw [rdx (by omega), rd_s]; rfl
        · rw [if_pos u, if_neg u]
          refine ⟨_, rfl, ⟨?_, rd_s, ?_, fun w => by omega, fun w => by omega⟩, F1.tr (F3 4)⟩
          · rw [rdx (by omega), rdx (by omega), rdx (by omega)]; exact a2
          · rw [rdx (by omega), rd_s]; rfl
/-! the reference -/
theorem nM_0 {tx : Nat → Int} {N : Nat} (B : TB tx N) : ∀ (f n x : Nat) (μ : Mi), x + f = N → f < n → TXb tx N μ → rd μ 7 false 2 = (x : Int) → ∃ m, B_X7_next_0 n μ = B_X7_next_52 m ∧ rd m 7 false 2 = ((runP (fun j => blk (tx j)) N f x : Nat) : Int) ∧ FrB μ m := by
  have hN := B.1
  intro f
  induction f with
  | zero =>
    intro n x μ hx hn h h5
    obtain ⟨n, rfl⟩ : ∃ q, n = q + 1 := ⟨n - 1, by omega⟩
    refine ⟨μ, ?_, h5, FrB.rf⟩
    rw [B_X7_next_0_s, F_X7_next_0, h.1, h5, wid (x := (N : Int)) (by omega) (by omega), wid (x := (x : Int)) (by omega) (by omega), if_pos (by omega)]
  | succ f ih =>
    intro n x μ hx hn h h5
    obtain ⟨n, rfl⟩ : ∃ q, n = q + 1 := ⟨n - 1, by omega⟩
    have hb := B.2 x (by omega)
    have hxb : 0 ≤ (x : Int) ∧ (x : Int) < 500 := by omega
    rw [B_X7_next_0_s, F_X7_next_0, h.1, h5, wid (x := (N : Int)) (by omega) (by omega), wid (x := (x : Int)) (by omega) (by omega), if_neg (by omega), if_pos hxb, if_pos hxb, ixn x (by omega), h.2 x (by omega), wid (x := tx x) (by omega) (by omega), runP]
    have e39 : B_X7_next_39 (B_X7_next_0 n) μ = B_X7_next_0 n (wr μ 7 false 2 ((x + 1 : Nat) : Int)) := by
      unfold B_X7_next_39
      rw [h5, show (x : Int) + 1 = ((x + 1 : Nat) : Int) by omega]
    have F1 : FrB μ (wr μ 7 false 2 ((x + 1 : Nat) : Int)) := FrB.rf.w (by omega)
    rw [e39]
    by_cases z : tx x = 32 ∨ tx x = 10
    · obtain ⟨m, a1, a2, a3⟩ := ih n (x + 1) (wr μ 7 false 2 ((x + 1 : Nat) : Int)) (by omega) (by omega) (h.fr F1) rd_s
      rw [if_pos (show x < N ∧ blk (tx x) = true from ⟨by omega, blk_iff.mpr z⟩)]
      refine ⟨m, ?_, a2, F1.tr a3⟩
      rw [← a1]
      by_cases y : tx x = 32
      · rw [if_pos y]
      · rw [if_neg y, if_neg (by omega)]
    · rw [if_neg (show ¬ (x < N ∧ blk (tx x) = true) from fun w => z (blk_iff.mp w.2))]
      refine ⟨μ, ?_, h5, FrB.rf⟩
      rw [if_neg (fun w => z (Or.inl w)), if_pos (fun w => z (Or.inr w))]
theorem wM_99 {tx : Nat → Int} {N p : Nat} (B : TB tx N) : ∀ (f n x : Nat) (μ : Mi), x + f = N → p ≤ x → f < n → lts (tkn tx p) (x - p) → TXb tx N μ → rd μ 7 false 2 = (x : Int) → rd μ 7 false 4 = (p : Int) → rl μ 7 false 5 = k256 (tkn tx p) (min 8 (x - p)) → ∃ m, B_X7_next_99 n μ = some m ∧ rd m 7 false 2 = ((runP (fun j => ltr (tx j)) N f x : Nat) : Int) ∧ rl m 7 false 5 = (if runP (fun j => ltr (tx j)) N f x - p ≤ 8 then k256 (tkn tx p) (runP (fun j => ltr (tx j)) N f x - p) else 0) ∧ rd m 7 false 4 = (p : Int) ∧ rd m 7 false 3 = 1 ∧ FrB μ m := by
  have hN := B.1
  have fin : ∀ (x : Nat) (μ : Mi), p ≤ x → x ≤ 500 → rd μ 7 false 2 = (x : Int) → rd μ 7 false 4 = (p : Int) → rl μ 7 false 5 = k256 (tkn tx p) (min 8 (x - p)) → ∃ m, B_X7_next_174 μ = some m ∧ rd m 7 false 2 = (x : Int) ∧ rl m 7 false 5 = (if x - p ≤ 8 then k256 (tkn tx p) (x - p) else 0) ∧ rd m 7 false 4 = (p : Int) ∧ rd m 7 false 3 = 1 ∧ FrB μ m := fun x μ hp hx h2 h4 h5 => by
    unfold B_X7_next_174 B_X7_next_193
    rw [h2, h4, wid (x := (x : Int) - (p : Int)) (by omega) (by omega)]
    by_cases z : x - p ≤ 8
    · rw [if_pos (by omega), if_pos z]
      refine ⟨_, rfl, by rw [rdx (by omega)]; exact h2, ?_, by rw [rdx (by omega)]; exact h4, rd_s, FrB.rf.w (by omega)⟩
      rw [rl_wr, h5, show min 8 (x - p) = x - p by omega]
    · rw [if_neg (by omega), if_neg z]
      refine ⟨_, rfl, by rw [rdx (by omega), rd_wl]; exact h2, ?_, by rw [rdx (by omega), rd_wl]; exact h4, rd_s, (FrB.rf.l).w (by omega)⟩
      rw [rl_wr, rl_s]
  intro f
  induction f with
  | zero =>
    intro n x μ hx hp hn hl h h2 h4 h5
    obtain ⟨n, rfl⟩ : ∃ q, n = q + 1 := ⟨n - 1, by omega⟩
    obtain ⟨m, a1, a2, a3, a4, a5, a6⟩ := fin x μ hp (by omega) h2 h4 h5
    refine ⟨m, ?_, a2, a3, a4, a5, a6⟩
    rw [B_X7_next_99_s, F_X7_next_99, h.1, h2, wid (x := (N : Int)) (by omega) (by omega), wid (x := (x : Int)) (by omega) (by omega), if_pos (by omega)]
    exact a1
  | succ f ih =>
    intro n x μ hx hp hn hl h h2 h4 h5
    obtain ⟨n, rfl⟩ : ∃ q, n = q + 1 := ⟨n - 1, by omega⟩
    have hb := B.2 x (by omega)
    have hxb : 0 ≤ (x : Int) ∧ (x : Int) < 500 := by omega
    have e : tkn tx p (x - p) = tx x := by
      show tx (p + (x - p)) = tx x
      rw [show p + (x - p) = x by omega]
    rw [B_X7_next_99_s, F_X7_next_99, h.1, h2, h4, wid (x := (N : Int)) (by omega) (by omega), wid (x := (x : Int)) (by omega) (by omega), if_neg (by omega), if_pos hxb, if_pos hxb, ixn x (by omega), h.2 x (by omega), isLetter_M hb, wid (x := (x : Int) - (p : Int)) (by omega) (by omega), wid (x := tx x) (by omega) (by omega), runP]
    have e161 : ∀ m : Mi, rd m 7 false 2 = (x : Int) → B_X7_next_161 (B_X7_next_99 n) m = B_X7_next_99 n (wr m 7 false 2 ((x + 1 : Nat) : Int)) := fun m q => by
      unfold B_X7_next_161
      rw [q, show (x : Int) + 1 = ((x + 1 : Nat) : Int) by omega]
    by_cases z : ltr (tx x) = true
    · have zl := ltr_iff.mp z
      have hl' : lts (tkn tx p) (x + 1 - p) := fun j hj => by
        by_cases q : j = x - p
        · rw [q, e]; exact zl
        · exact hl j (by omega)
      rw [if_neg (nb10 z), if_pos (show x < N ∧ ltr (tx x) = true from ⟨by omega, z⟩)]
      by_cases y : 8 ≤ x - p
      · rw [if_pos (by omega), e161 μ h2]
        have F1 : FrB μ (wr μ 7 false 2 ((x + 1 : Nat) : Int)) := FrB.rf.w (by omega)
        obtain ⟨m, a1, a2, a3, a4, a5, a6⟩ := ih n (x + 1) (wr μ 7 false 2 ((x + 1 : Nat) : Int)) (by omega) (by omega) (by omega) hl' (h.fr F1) rd_s (by rw [rdx (by omega)]; exact h4) (by rw [rl_wr, h5, show min 8 (x - p) = min 8 (x + 1 - p) by omega])
        exact ⟨m, a1, a2, a3, a4, a5, F1.tr a6⟩
      · have hl7 : lts (tkn tx p) (x - p) := hl
        have b1 := (k256_b _ hl7).1
        have b2 := k256_lt _ hl7
        have b3 := p256_7 (x - p) (by omega)
        rw [if_neg (by omega), h5, show min 8 (x - p) = x - p by omega, lor8 b1 (by omega) (by omega) (by omega), e161 _ (by rw [rd_wl]; exact h2)]
        have ek : k256 (tkn tx p) (x - p) * 256 + tx x = k256 (tkn tx p) (min 8 (x + 1 - p)) := by
          rw [show min 8 (x + 1 - p) = (x - p) + 1 by omega, k256, e]
        rw [ek]
        have F1 : FrB μ (wr (wl μ 7 false 5 (k256 (tkn tx p) (min 8 (x + 1 - p)))) 7 false 2 ((x + 1 : Nat) : Int)) := (FrB.rf.l).w (by omega)
        obtain ⟨m, a1, a2, a3, a4, a5, a6⟩ := ih n (x + 1) (wr (wl μ 7 false 5 (k256 (tkn tx p) (min 8 (x + 1 - p)))) 7 false 2 ((x + 1 : Nat) : Int)) (by omega) (by omega) (by omega) hl' (h.fr F1) rd_s (by rw [rdx (by omega), rd_wl]; exact h4) (by rw [rl_wr, rl_s])
        exact ⟨m, a1, a2, a3, a4, a5, F1.tr a6⟩
    · rw [if_pos (yb10 z), if_neg (fun w => z w.2)]
      exact fin x μ hp (by omega) h2 h4 h5
theorem uM_208 {tx : Nat → Int} {N p : Nat} (B : TB tx N) : ∀ (f n x : Nat) (μ : Mi), x + f = N → p ≤ x → f < n → (∀ j, j < x - p → 48 ≤ tkn tx p j ∧ tkn tx p j ≤ 57) → TXb tx N μ → rd μ 7 false 2 = (x : Int) → rl μ 7 false 5 = nvM (tkn tx p) (x - p) → ∃ m, B_X7_next_208 n μ = some m ∧ rd m 7 false 2 = ((runP (fun j => dgt (tx j)) N f x : Nat) : Int) ∧ rl m 7 false 5 = nvM (tkn tx p) (runP (fun j => dgt (tx j)) N f x - p) ∧ rd m 7 false 4 = rd μ 7 false 4 ∧ rd m 7 false 3 = 2 ∧ FrB μ m := by
  have hN := B.1
  have fin : ∀ (x : Nat) (μ : Mi), rd μ 7 false 2 = (x : Int) → rl μ 7 false 5 = nvM (tkn tx p) (x - p) → ∃ m, B_X7_next_292 μ = some m ∧ rd m 7 false 2 = (x : Int) ∧ rl m 7 false 5 = nvM (tkn tx p) (x - p) ∧ rd m 7 false 4 = rd μ 7 false 4 ∧ rd m 7 false 3 = 2 ∧ FrB μ m := fun x μ h2 h5 => ⟨_, rfl, by rw [rdx (by omega)]; exact h2, by rw [rl_wr]; exact h5, rdx (by omega), rd_s, FrB.rf.w (by omega)⟩
  intro f
  induction f with
  | zero =>
    intro n x μ hx hp hn hd h h2 h5
    obtain ⟨n, rfl⟩ : ∃ q, n = q + 1 := ⟨n - 1, by omega⟩
    obtain ⟨m, a1, a2⟩ := fin x μ h2 h5
    refine ⟨m, ?_, a2⟩
    rw [B_X7_next_208_s, F_X7_next_208, h.1, h2, wid (x := (N : Int)) (by omega) (by omega), wid (x := (x : Int)) (by omega) (by omega), if_pos (by omega)]
    exact a1
  | succ f ih =>
    intro n x μ hx hp hn hd h h2 h5
    obtain ⟨n, rfl⟩ : ∃ q, n = q + 1 := ⟨n - 1, by omega⟩
    have hb := B.2 x (by omega)
    have hv := nvM_b _ hd
    have hxb : 0 ≤ (x : Int) ∧ (x : Int) < 500 := by omega
    have e : tkn tx p (x - p) = tx x := by
      show tx (p + (x - p)) = tx x
      rw [show p + (x - p) = x by omega]
    have lc := lcmp_lt (a := nvM (tkn tx p) (x - p)) (b := 999) (w64id (by omega) (by omega)) (by decide)
    rw [B_X7_next_208_s, F_X7_next_208, h.1, h2, wid (x := (N : Int)) (by omega) (by omega), wid (x := (x : Int)) (by omega) (by omega), if_neg (by omega), if_pos hxb, if_pos hxb, ixn x (by omega), h.2 x (by omega), isDigit_M hb, h5, lc, wid (x := tx x) (by omega) (by omega), runP]
    have e276 : ∀ v : Int, B_X7_next_276 (B_X7_next_208 n) v μ = B_X7_next_208 n (wr (wl μ 7 false 5 v) 7 false 2 ((x + 1 : Nat) : Int)) := fun v => by
      unfold B_X7_next_276
      rw [h2, show (x : Int) + 1 = ((x + 1 : Nat) : Int) by omega]
    by_cases z : dgt (tx x) = true
    · have zl := dgt_iff.mp z
      have hd' : ∀ j, j < x + 1 - p → 48 ≤ tkn tx p j ∧ tkn tx p j ≤ 57 := fun j hj => by
        by_cases q : j = x - p
        · rw [q, e]; exact zl
        · exact hd j (by omega)
      have F1 : FrB μ (wr (wl μ 7 false 5 (nvM (tkn tx p) (x + 1 - p))) 7 false 2 ((x + 1 : Nat) : Int)) := (FrB.rf.l).w (by omega)
      obtain ⟨m, a1, a2, a3, a4, a5, a6⟩ := ih n (x + 1) (wr (wl μ 7 false 5 (nvM (tkn tx p) (x + 1 - p))) 7 false 2 ((x + 1 : Nat) : Int)) (by omega) (by omega) (by omega) hd' (h.fr F1) rd_s (by rw [rl_wr, rl_s])
      rw [if_neg (nb10 z), if_pos (show x < N ∧ dgt (tx x) = true from ⟨by omega, z⟩)]
      refine ⟨m, ?_, a2, a3, a4.trans (rdx (by omega)), a5, F1.tr a6⟩
      have en : nvM (tkn tx p) (x + 1 - p) = if 999 < nvM (tkn tx p) (x - p) then nvM (tkn tx p) (x - p) else 10 * nvM (tkn tx p) (x - p) + tx x - 48 := by
        rw [show x + 1 - p = (x - p) + 1 by omega, nvM, e]
      rw [← a1, e276, e276, en]
      by_cases u : 999 < nvM (tkn tx p) (x - p)
      · rw [if_pos u, if_pos u, if_neg (by decide)]
      · rw [if_neg u, if_neg u]
        by_cases w : nvM (tkn tx p) (x - p) = 999
        · rw [if_pos w, if_pos (by decide)]
        · rw [if_neg w, if_pos (by decide)]
    · rw [if_pos (yb10 z), if_neg (fun w => z w.2)]
      exact fin x μ h2 h5
theorem next_M {tx : Nat → Int} {N s : Nat} {μ : Mi} (B : TB tx N) (h : TXb tx N μ) (hs : s ≤ N) (h2 : rd μ 7 false 2 = (s : Int)) : ∃ m, D_X7_next μ = some m ∧ TkM tx (stK tx N s) (enK' tx N (stK tx N s)) (kdK tx N (stK tx N s)) m ∧ FrB μ m := by
  have hN := B.1
  obtain ⟨m, a1, a2, F1⟩ := nM_0 B (N - s) FU s μ (by omega) (FU_gt (by omega)) h h2
  have hst : runP (fun j => blk (tx j)) N (N - s) s = stK tx N s := rfl
  rw [hst] at a2
  obtain ⟨⟨t1, t2, -⟩, t3⟩ := tok_P (tx := tx) hs
  obtain ⟨p, hp⟩ : ∃ p, p = stK tx N s := ⟨_, rfl⟩
  rw [← hp] at a2 t1 t2 t3 ⊢
  have hm := h.fr F1
  have e0 : D_X7_next μ = B_X7_next_52 m := a1
  rw [e0]
  unfold B_X7_next_52
  rw [a2, hm.1, wid (x := (p : Int)) (by omega) (by omega), wid (x := (N : Int)) (by omega) (by omega)]
  obtain ⟨m2, hm2⟩ : ∃ m2, m2 = wr (wl (wr m 7 false 4 (p : Int)) 7 false 5 0) 7 false 3 0 := ⟨_, rfl⟩
  rw [← hm2]
  have F2 : FrB m m2 := by rw [hm2]; exact ((FrB.rf.w (by omega)).l).w (by omega)
  have g2 : rd m2 7 false 2 = (p : Int) := by rw [hm2, rdx (by omega), rd_wl, rdx (by omega)]; exact a2
  have g4 : rd m2 7 false 4 = (p : Int) := by rw [hm2, rdx (by omega), rd_wl, rd_s]
  have g5 : rl m2 7 false 5 = 0 := by rw [hm2, rl_wr, rl_s]
  have hmm := hm.fr F2
  unfold kdK enK'
  by_cases z : N ≤ p
  · rw [if_neg (by omega), if_pos z, if_pos z]
    exact ⟨m2, rfl, ⟨g4, g2, by rw [hm2, rd_s]; rfl, fun w => by omega, fun w => by omega⟩, F1.tr F2⟩
  · have hpb : 0 ≤ (p : Int) ∧ (p : Int) < 500 := by omega
    have hb := B.2 p (by omega)
    rw [if_pos (by omega), if_neg z, if_neg z, if_pos hpb, ixn p (by omega), hm.2 p (by omega), isLetter_M hb, isDigit_M hb, wid (x := tx p) (by omega) (by omega)]
    by_cases y : ltr (tx p) = true
    · rw [if_neg (nb10 y), if_pos y, if_pos y]
      obtain ⟨m4, b1, b2, b3, b4, b5, b6⟩ := wM_99 (p := p) B (N - p) FU p m2 (by omega) (Nat.le_refl _) (FU_gt (by omega)) (fun j hj => by omega) hmm g2 g4 (by rw [g5, Nat.sub_self]; rfl)
      exact ⟨m4, b1, ⟨b4, b2, b5, fun _ => b3, fun w => by omega⟩, F1.tr (F2.tr b6)⟩
    · rw [if_pos (yb10 y), if_neg y, if_neg y]
      by_cases x : dgt (tx p) = true
      · rw [if_neg (nb10 x), if_pos x, if_pos x]
        obtain ⟨m4, b1, b2, b3, b4, b5, b6⟩ := uM_208 (p := p) B (N - p) FU p m2 (by omega) (Nat.le_refl _) (FU_gt (by omega)) (fun j hj => by omega) hmm g2 (by rw [g5, Nat.sub_self]; rfl)
        exact ⟨m4, b1, ⟨b4.trans g4, b2, b5, fun w => by omega, fun _ => b3⟩, F1.tr (F2.tr b6)⟩
      · rw [if_pos (yb10 x), if_neg x, if_neg x]
        have e312 : ∀ v : Int, B_X7_next_312 v m2 = some (wr (wr m2 7 false 3 v) 7 false 2 ((p + 1 : Nat) : Int)) := fun v => by
          unfold B_X7_next_312
          rw [g2, show (p : Int) + 1 = ((p + 1 : Nat) : Int) by omega]
        rw [e312, e312]
        have F3 : ∀ v : Int, FrB m (wr (wr m2 7 false 3 v) 7 false 2 ((p + 1 : Nat) : Int)) := fun v => (F2.w (by omega)).w (by omega)
        by_cases u : tx p = 59
        · rw [if_neg (fun w => w u), if_pos u]
          refine ⟨_, rfl, ⟨?_, rd_s, ?_, fun w => by omega, fun w => by omega⟩, F1.tr (F3 3)⟩
          · rw [rdx (by omega), rdx (by omega)]; exact g4
          · rw [rdx (by omega), rd_s]; rfl
        · rw [if_pos u, if_neg u]
          refine ⟨_, rfl, ⟨?_, rd_s, ?_, fun w => by omega, fun w => by omega⟩, F1.tr (F3 4)⟩
          · rw [rdx (by omega), rdx (by omega)]; exact g4
          · rw [rdx (by omega), rd_s]; rfl
