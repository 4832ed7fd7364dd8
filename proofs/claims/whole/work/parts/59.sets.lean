/-! PURE: the reference's sets -/
theorem MC.eq {μ m : Mi} {i : Bool} {c : Co} (M : MC μ i c) (e : ∀ r i q, (r = 7 ∧ q = 20) ∨ (49 ≤ r ∧ r ≤ 62) → rd m r i q = rd μ r i q) : MC m i c := by
  obtain ⟨a1, a2, a3, a4, a5, a6⟩ := M
  refine ⟨?_, ?_, ?_, ?_, ?_, ?_⟩
  · simp (disch := omega) only [e]; exact a1
  · intro k hk; simp (disch := omega) only [e]; exact a2 k hk
  · intro k hk; simp (disch := omega) only [e]; exact a3 k hk
  · intro k hk; simp (disch := omega) only [e]; exact a4 k hk
  · simp (disch := omega) only [e]; exact a5
  · intro k hk; simp (disch := omega) only [e]; exact a6 k hk
abbrev pAt (c : Co) (B h n : Nat) : Prop := pmk c B n = true ∧ c 26 n = (h : Int)
/-- what the papers say of the hour h -/
def pA (c : Co) (B h : Nat) : Nat → Int
  | 0 => -1
  | n + 1 => if pAt c B h n then (if pA c B h n = -1 ∨ pA c B h n = c 25 n then c 25 n else 8) else pA c B h n
theorem pA_ok {c : Co} (hw : WF c) (B h : Nat) : ∀ n : Nat, (n : Int) ≤ c 2 3 → (-1 ≤ pA c B h n ∧ pA c B h n ≤ 8) ∧ (pA c B h n = -1 ↔ ∀ q, q < n → ¬ pAt c B h q) ∧ (∀ t : Nat, t < 8 → ((pA c B h n = -1 ∨ pA c B h n = (t : Int)) ↔ ∀ q, q < n → pAt c B h q → c 25 q = (t : Int)))
  | 0, _ => by
    refine ⟨by rw [pA]; omega, ⟨fun _ q hq => by omega, fun _ => rfl⟩, fun t _ => ⟨fun _ q hq => by omega, fun _ => Or.inl rfl⟩⟩
  | n + 1, hn => by
    obtain ⟨a1, a2, a3⟩ := pA_ok hw B h n (by omega)
    obtain ⟨t1, t2, t3, t4, t5, t6⟩ := hw.2.2.2.2.2.2.2.2.2 n (by omega)
    rw [pA]
    by_cases z : pAt c B h n
    · rw [if_pos z]
      refine ⟨?_, ?_, ?_⟩
      · split <;> omega
      · constructor
        · intro w; split at w <;> omega
        · intro w; exact absurd z (w n (by omega))
      · intro t ht
        have b3 := a3 t ht
        constructor
        · intro w q hq pq
          by_cases e : q = n
          · rw [e]; split at w <;> omega
          · refine b3.mp ?_ q (by omega) pq
            split at w <;> omega
        · intro w
          have w1 := w n (by omega) z
          have w2 := b3.mpr (fun q hq pq => w q (by omega) pq)
          right
          rw [if_pos (by omega)]
          exact w1
    · rw [if_neg z]
      refine ⟨a1, a2.trans ⟨fun w q hq => ?_, fun w q hq => w q (by omega)⟩, fun t ht => (a3 t ht).trans ⟨fun w q hq pq => ?_, fun w q hq pq => w q (by omega) pq⟩⟩
      · by_cases e : q = n
        · rw [e]; exact z
        · exact w q (by omega)
      · by_cases e : q = n
        · rw [e] at pq; exact absurd pq z
        · exact w q (by omega) pq
def PQ (μ : Mi) (i : Bool) (c : Co) (B n : Nat) : Prop := MC μ i c ∧ rd μ 7 false 36 = (mi i : Int) ∧ rd μ 7 false 37 = (((sLn c B 0 n).length : Nat) : Int) ∧ (∀ q, q < (sLn c B 0 n).length → rd μ 65 false q = ((8 * mi i + (sLn c B 0 n).getD q 0 : Nat) : Int)) ∧ rd μ 7 false 40 = (((sLn c B 2 n).length : Nat) : Int) ∧ (∀ q, q < (sLn c B 2 n).length → rd μ 67 false q = c 25 ((sLn c B 2 n).getD q 0) ∧ rd μ 68 false q = c 26 ((sLn c B 2 n).getD q 0) ∧ rd μ 69 false q = c 27 ((sLn c B 2 n).getD q 0)) ∧ ∀ h, h ≤ 96 → rd μ 66 false h = pA c B h n
theorem sets_one {i : Bool} {c : Co} (hw : WF c) (h2 : WF2 c) {B n : Nat} (hB : B < 256) (hn : (n : Int) < c 2 3) {k38 : Int → Int → Int → Mi → Option Mi} {μ : Mi} (I : PQ μ i c B n) : ∃ m, F_X7_sets_38 k38 (mi i : Int) (B : Int) (n : Int) μ = k38 (mi i : Int) (B : Int) ((n + 1 : Nat) : Int) m ∧ PQ m i c B (n + 1) := by
  have hsz := hw.2.2.2.2.2.2.2.2.1
  have hen := hw.2.2.2.2.2.2.2.1
  have hm := mi_le i
  obtain ⟨t1, t2, t3, t4, t5, t6⟩ := hw.2.2.2.2.2.2.2.2.2 n hn
  have hS6 : c 24 n = 0 → (sLn c B 0 n).length < 6 := fun q => by
    have a1 := sLn_len c B 0 n
    have a2 := cn_mono (fun t => decide (c 24 t = 0)) (n + 1) ((c 2 3).toNat - (n + 1))
    rw [show n + 1 + ((c 2 3).toNat - (n + 1)) = (c 2 3).toNat by omega, cn, if_pos (by simpa using q)] at a2
    have := h2.1
    omega
  have hL2 : c 24 n = 2 → (sLn c B 2 n).length < 2 := fun q => by
    have a1 := sLn_len c B 2 n
    have a2 := cn_mono (fun t => decide (c 24 t = 2)) (n + 1) ((c 2 3).toNat - (n + 1))
    rw [show n + 1 + ((c 2 3).toNat - (n + 1)) = (c 2 3).toNat by omega, cn, if_pos (by simpa using q)] at a2
    have := h2.2
    omega
  obtain ⟨i1, i2, i3, i4, i5, i6, i7⟩ := I
  obtain ⟨e57, e58, e59, e60, e61, e62⟩ := i1.2.2.2.2.2 n hn
  have e55 := i1.2.2.2.2.1.2.2.1
  have e56 := i1.2.2.2.2.1.2.2.2
  have hstep : ∀ w : Int, sLn c B w (n + 1) = if kp c B n = true ∧ c 24 n = w then sLn c B w n ++ [n] else sLn c B w n := fun _ => rfl
  have hpA : ∀ h, pA c B h (n + 1) = if pAt c B h n then (if pA c B h n = -1 ∨ pA c B h n = c 25 n then c 25 n else 8) else pA c B h n := fun _ => rfl
  have h262 : ∀ m : Mi, B_X7_sets_262 k38 (mi i : Int) (B : Int) (n : Int) m = k38 (mi i : Int) (B : Int) ((n + 1 : Nat) : Int) m := fun m => by
    unfold B_X7_sets_262
    rw [show (n : Int) + 1 = ((n + 1 : Nat) : Int) by omega]
  obtain ⟨X, hX⟩ : ∃ X, X = 8 * mi i + n := ⟨_, rfl⟩
  have hXr : 0 ≤ (X : Int) ∧ (X : Int) < 16 := by omega
  have hmi : 0 ≤ (mi i : Int) ∧ (mi i : Int) < 2 := by omega
  rw [← hX] at e57 e58 e59 e60 e61 e62
  -- a trace that does not count
  have skip : ¬ kp c B n = true ∨ (c 24 n = 1 ∧ c 2 2 < c 26 n) → PQ μ i c B (n + 1) := fun q => by
    have hk : ∀ w : Int, w ≠ 1 → sLn c B w (n + 1) = sLn c B w n := fun w hne => by
      rw [hstep, if_neg (fun z => by rcases q with q | q; exact q z.1; omega)]
    refine ⟨i1, i2, ?_, ?_, ?_, ?_, fun h hh => ?_⟩
    · rw [hk 0 (by omega)]; exact i3
    · rw [hk 0 (by omega)]; exact i4
    · rw [hk 2 (by omega)]; exact i5
    · rw [hk 2 (by omega)]; exact i6
    · rw [hpA, if_neg (fun z => by
        have z1 := z.1
        unfold pmk at z1
        simp only [Bool.and_eq_true, decide_eq_true_eq] at z1
        rcases q with q | q
        · exact q z1.1
        · omega)]
      exact i7 h hh
  rw [F_X7_sets_38, wid (x := (mi i : Int)) (by omega) (by omega), if_pos hmi, ixn (mi i) (by omega), e56, wid (x := c 2 3) (by omega) (by omega), wid (x := (n : Int)) (by omega) (by omega), if_neg (by omega), show 8 * (mi i : Int) + (n : Int) = (X : Int) by omega, wid (x := (X : Int)) (by omega) (by omega), ixn X (by omega), bit_n B n (by omega) (by omega)]
  simp only [if_pos hXr, if_pos hmi]
  rw [e62, e57, e59, e55, e58, e60, wid (x := c 29 n) (by omega) (by omega), wid (x := c 24 n) (by omega) (by omega), wid (x := c 26 n) (by omega) (by omega), wid (x := c 2 2) (by omega) (by omega), wid (x := c 25 n) (by omega) (by omega)]
  by_cases qd : c 29 n = 0
  · rw [if_neg (fun z => z qd)]
    by_cases qB : B.testBit n = true
    · rw [if_pos qB, if_neg (by decide), h262]
      exact ⟨μ, rfl, skip (Or.inl (by unfold kp; simp [qB]))⟩
    · rw [if_neg qB, if_pos (by decide)]
      have hk : kp c B n = true := by unfold kp; simp [qB, qd]
      rcases t1 with t1 | t1 | t1
      · -- a stamp
        have hlen := hS6 t1
        rw [if_neg (fun z => z t1), i3, wid (x := (((sLn c B 0 n).length : Nat) : Int)) (by omega) (by omega), if_pos (by omega), ixn _ (by omega), h262]
        refine ⟨_, rfl, i1.eq (fun r i q h => ?_), ?_, ?_, ?_, ?_, ?_, fun h hh => ?_⟩
        · rw [rdx (by omega), rdx (by omega)]
        · rw [rdx (by omega), rdx (by omega)]; exact i2
        · rw [rd_s, hstep, if_pos ⟨hk, t1⟩, List.length_append]; simp
        · intro q hq
          rw [hstep, if_pos ⟨hk, t1⟩] at hq ⊢
          rw [rdx (by omega), rd_wr]
          by_cases e : q = (sLn c B 0 n).length
          · rw [if_pos ⟨rfl, rfl, e⟩, e, getD_r, hX]
          · rw [List.length_append] at hq
            simp at hq
            rw [if_neg (fun z => e z.2.2), getD_l (by omega)]
            exact i4 q (by omega)
        · rw [rdx (by omega), rdx (by omega), hstep, if_neg (fun z => by omega)]; exact i5
        · intro q hq
          rw [hstep, if_neg (fun z => by omega)] at hq ⊢
          simp (disch := omega) only [rdx]
          exact i6 q hq
        · rw [rdx (by omega), rdx (by omega), hpA, if_neg (fun z => by
            have z1 := z.1
            unfold pmk at z1
            simp only [Bool.and_eq_true, decide_eq_true_eq] at z1
            omega)]
          exact i7 h hh
      · -- a paper
        have t40 := t4 (by omega)
        rw [if_pos (by omega), if_pos (by omega)]
        by_cases qe : c 2 2 < c 26 n
        · rw [if_pos qe, h262]
          exact ⟨μ, rfl, skip (Or.inr ⟨t1, qe⟩)⟩
        · obtain ⟨H, hH⟩ : ∃ H : Nat, c 26 n = (H : Int) := ⟨(c 26 n).toNat, by omega⟩
          have hHr : 0 ≤ (H : Int) ∧ (H : Int) < 97 := by omega
          have hpm : pmk c B n = true := by
            unfold pmk
            rw [hk]
            simp only [Bool.true_and, decide_eq_true_eq]
            omega
          have p66 := i7 H (by omega)
          have prng := (pA_ok hw B H n (by omega)).1
          have h261 : ∀ x : Int, x = pA c B H (n + 1) → ∃ m, B_X7_sets_261 k38 (mi i : Int) (B : Int) (n : Int) x (H : Int) μ = k38 (mi i : Int) (B : Int) ((n + 1 : Nat) : Int) m ∧ PQ m i c B (n + 1) := fun x hx => by
            unfold B_X7_sets_261
            rw [wid (x := (H : Int)) (by omega) (by omega), if_pos hHr, ixn H (by omega), h262]
            refine ⟨_, rfl, i1.eq (fun r i q h => ?_), ?_, ?_, ?_, ?_, ?_, fun h hh => ?_⟩
            · rw [rdx (by omega)]
            · rw [rdx (by omega)]; exact i2
            · rw [rdx (by omega), hstep, if_neg (fun z => by omega)]; exact i3
            · intro q hq
              rw [hstep, if_neg (fun z => by omega)] at hq ⊢
              rw [rdx (by omega)]
              exact i4 q hq
            · rw [rdx (by omega), hstep, if_neg (fun z => by omega)]; exact i5
            · intro q hq
              rw [hstep, if_neg (fun z => by omega)] at hq ⊢
              simp (disch := omega) only [rdx]
              exact i6 q hq
            · rw [rd_wr]
              by_cases e : h = H
              · rw [if_pos ⟨rfl, rfl, e⟩, e]; exact hx
              · rw [if_neg (fun z => e z.2.2), hpA, if_neg (fun z => by have := z.2; omega)]
                exact i7 h hh
          have hgo := hpA H
          rw [if_pos ⟨hpm, hH⟩] at hgo
          have h249 : ∀ y : Int, B_X7_sets_249 k38 (mi i : Int) (B : Int) (n : Int) (X : Int) y μ = B_X7_sets_261 k38 (mi i : Int) (B : Int) (n : Int) (c 25 n) y μ := fun y => by
            unfold B_X7_sets_249
            rw [wid (x := (X : Int)) (by omega) (by omega), if_pos hXr, ixn X (by omega), e58]
          rw [if_neg qe, hH, ixn H (by omega), p66, wid (x := pA c B H n) (by omega) (by omega), h249]
          simp only [if_pos hHr]
          by_cases y1 : pA c B H n = -1
          · rw [if_pos y1]
            exact h261 _ (by rw [hgo, if_pos (Or.inl y1)])
          · rw [if_neg y1]
            by_cases y2 : pA c B H n = c 25 n
            · rw [if_neg (fun z => z y2)]
              exact h261 _ (by rw [hgo, if_pos (Or.inr y2)])
            · rw [if_pos y2]
              exact h261 _ (by rw [hgo, if_neg (by omega)])
      · -- a look
        have hlen := hL2 t1
        have hlr : 0 ≤ (((sLn c B 2 n).length : Nat) : Int) ∧ (((sLn c B 2 n).length : Nat) : Int) < 2 := by omega
        rw [if_pos (by omega), if_neg (by omega), i5, wid (x := (((sLn c B 2 n).length : Nat) : Int)) (by omega) (by omega), ixn _ (by omega)]
        simp only [if_pos hlr]
        rw [h262]
        refine ⟨_, rfl, i1.eq (fun r i q h => ?_), ?_, ?_, ?_, ?_, ?_, fun h hh => ?_⟩
        · rw [rdx (by omega), rdx (by omega), rdx (by omega), rdx (by omega)]
        · rw [rdx (by omega), rdx (by omega), rdx (by omega), rdx (by omega)]; exact i2
        · rw [rdx (by omega), rdx (by omega), rdx (by omega), rdx (by omega), hstep, if_neg (fun z => by omega)]; exact i3
        · intro q hq
          rw [hstep, if_neg (fun z => by omega)] at hq ⊢
          rw [rdx (by omega), rdx (by omega), rdx (by omega), rdx (by omega)]
          exact i4 q hq
        · rw [rd_s, hstep, if_pos ⟨hk, t1⟩, List.length_append]; simp
        · intro q hq
          rw [hstep, if_pos ⟨hk, t1⟩] at hq ⊢
          by_cases e : q = (sLn c B 2 n).length
          · rw [e, getD_r]
            refine ⟨?_, ?_, ?_⟩
            · rw [rdx (by omega), rdx (by omega), rdx (by omega), rd_s]
            · rw [rdx (by omega), rdx (by omega), rd_s]
            · rw [rdx (by omega), rd_s]
          · rw [List.length_append] at hq
            simp at hq
            rw [getD_l (by omega)]
            simp (disch := omega) only [rdx]
            exact i6 q (by omega)
        · rw [rdx (by omega), rdx (by omega), rdx (by omega), rdx (by omega), hpA, if_neg (fun z => by
            have z1 := z.1
            unfold pmk at z1
            simp only [Bool.and_eq_true, decide_eq_true_eq] at z1
            omega)]
          exact i7 h hh
  · rw [if_pos qd, h262]
    exact ⟨μ, rfl, skip (Or.inl (by unfold kp; simp [qd]))⟩
theorem sets_38 {i : Bool} {c : Co} (hw : WF c) (h2 : WF2 c) {B : Nat} (hB : B < 256) : ∀ (d n k : Nat) (μ : Mi), k + d = (c 2 3).toNat → d < n → PQ μ i c B k → ∃ m, B_X7_sets_38 n (mi i : Int) (B : Int) (k : Int) μ = some m ∧ PQ m i c B (c 2 3).toNat := by
  have hsz := hw.2.2.2.2.2.2.2.2.1
  have hm := mi_le i
  intro d
  induction d with
  | zero =>
    intro n k μ hk hn I
    obtain ⟨n, rfl⟩ : ∃ q, n = q + 1 := ⟨n - 1, by omega⟩
    refine ⟨μ, ?_, by rw [show (c 2 3).toNat = k by omega]; exact I⟩
    rw [B_X7_sets_38_s, F_X7_sets_38, wid (x := (mi i : Int)) (by omega) (by omega), if_pos (by omega), ixn (mi i) (by omega), I.1.2.2.2.2.1.2.2.2, wid (x := c 2 3) (by omega) (by omega), wid (x := (k : Int)) (by omega) (by omega), if_pos (by omega)]
  | succ d ih =>
    intro n k μ hk hn I
    obtain ⟨n, rfl⟩ : ∃ q, n = q + 1 := ⟨n - 1, by omega⟩
    obtain ⟨m1, a1, a2⟩ := sets_one hw h2 hB (n := k) (by omega) (k38 := B_X7_sets_38 n) I
    obtain ⟨m, b1, b2⟩ := ih n (k + 1) m1 (by omega) (by omega) a2
    refine ⟨m, ?_, b2⟩
    rw [B_X7_sets_38_s, a1]
    exact b1
theorem sets_17 {i : Bool} {c : Co} (B : Nat) : ∀ (d n k : Nat) (μ : Mi), k + d = 97 → d < n → MC μ i c → rd μ 7 false 36 = (mi i : Int) → rd μ 7 false 37 = 0 → rd μ 7 false 40 = 0 → (∀ q, q < k → rd μ 66 false q = -1) → ∃ m, B_X7_sets_17 n (mi i : Int) (B : Int) (k : Int) μ = B_X7_sets_38 FU (mi i : Int) (B : Int) 0 m ∧ PQ m i c B 0 := by
  intro d
  induction d with
  | zero =>
    intro n k μ hk hn h1 h2 h3 h4 h5
    obtain ⟨n, rfl⟩ : ∃ q, n = q + 1 := ⟨n - 1, by omega⟩
    refine ⟨μ, ?_, h1, h2, ?_, fun q hq => ?_, ?_, fun q hq => ?_, fun h hh => h5 h (by omega)⟩
    · rw [B_X7_sets_17_s, F_X7_sets_17, wid (x := (k : Int)) (by omega) (by omega), if_pos (by omega)]
    · rw [h3]; rfl
    · simp [sLn] at hq
    · rw [h4]; rfl
    · simp [sLn] at hq
  | succ d ih =>
    intro n k μ hk hn h1 h2 h3 h4 h5
    obtain ⟨n, rfl⟩ : ∃ q, n = q + 1 := ⟨n - 1, by omega⟩
    obtain ⟨m, a1, a2⟩ := ih n (k + 1) (wr μ 66 false k (-1)) (by omega) (by omega) (h1.eq (fun r i q h => rdx (by omega))) (by rw [rdx (by omega)]; exact h2) (by rw [rdx (by omega)]; exact h3) (by rw [rdx (by omega)]; exact h4) (fun q hq => by
      rw [rd_wr]
      split
      · rfl
      · rename_i w
        exact h5 q (by
          have : q ≠ k := fun z => w ⟨rfl, rfl, z⟩
          omega))
    refine ⟨m, ?_, a2⟩
    rw [B_X7_sets_17_s, F_X7_sets_17, wid (x := (k : Int)) (by omega) (by omega), if_neg (by omega), if_pos (by omega), ixn k (by omega), show (k : Int) + 1 = ((k + 1 : Nat) : Int) by omega]
    exact a1
/-- sets: the reference stands prepared as the class does -/
theorem sets_M {μ : Mi} {i : Bool} {c : Co} (M : MC μ i c) (hw : WF c) (h2 : WF2 c) {B : Nat} (hB : B < 256) : ∃ m, D_X7_sets (mi i : Int) (B : Int) μ = some m ∧ Pm m i c (SL c B) (LL c B) (PM c B) := by
  have hsz := hw.2.2.2.2.2.2.2.2.1
  obtain ⟨m1, a1, a2⟩ := sets_17 (i := i) (c := c) B 97 FU 0 (wr (wr (wr μ 7 false 36 (mi i : Int)) 7 false 37 0) 7 false 40 0) (by omega) (FU_gt (by omega)) (M.eq (fun r i q h => by rw [rdx (by omega), rdx (by omega), rdx (by omega)])) (by rw [rdx (by omega), rdx (by omega), rd_s]) (by rw [rdx (by omega), rd_s]) rd_s (fun q hq => by omega)
  obtain ⟨m, b1, b2⟩ := sets_38 hw h2 hB (c 2 3).toNat FU 0 m1 (by omega) (FU_gt (by omega)) a2
  rw [show ((0 : Nat) : Int) = 0 from rfl] at a1 b1
  refine ⟨m, ?_, ?_⟩
  · unfold D_X7_sets
    rw [a1]
    exact b1
  · obtain ⟨i1, i2, i3, i4, i5, i6, i7⟩ := b2
    have bit : ∀ q, (PM c B).testBit q = true ↔ q < (c 2 3).toNat ∧ pmk c B q = true := fun q => by
      unfold PM
      rw [mb_bit]
      simp only [Bool.and_eq_true, decide_eq_true_eq]
    refine ⟨i1, hw, Sk_of hw h2 B, i2, i3, i4, i5, i6, fun h hh => ?_⟩
    rw [i7 h hh]
    obtain ⟨p1, p2, p3⟩ := pA_ok hw B h (c 2 3).toNat (by omega)
    refine ⟨p1, p2.trans ⟨fun w q hq hc => ?_, fun w q hq hc => ?_⟩, fun t ht => (p3 t ht).trans ?_⟩
    · obtain ⟨z1, z2⟩ := (bit q).mp hq
      exact w q z1 ⟨z2, hc⟩
    · exact w q ((bit q).mpr ⟨hq, hc.1⟩) hc.2
    · unfold pMs
      rw [mb_0]
      constructor
      · intro w q hq
        unfold pmp
        cases z : (PM c B).testBit q with
        | false => rfl
        | true =>
          have := w q hq
          simp only [Bool.true_and, decide_eq_false_iff_not]
          exact fun y => y.2 (this ⟨((bit q).mp z).2, y.1⟩)
      · intro w q hq hp
        have := w q hq
        unfold pmp at this
        rw [(bit q).mpr ⟨hq, hp.1⟩] at this
        simp only [Bool.true_and, decide_eq_false_iff_not] at this
        exact Decidable.byContradiction fun y => this ⟨hp.2, y⟩
