/-! PURE: prepare -/
/-- a trace counts: not doubted, not left out -/
def kp (c : Co) (B t : Nat) : Bool := decide (c 29 t = 0) && !B.testBit t
def sLn (c : Co) (B : Nat) (w : Int) : Nat → List Nat
  | 0 => []
  | n + 1 => if kp c B n = true ∧ c 24 n = w then sLn c B w n ++ [n] else sLn c B w n
def pmk (c : Co) (B t : Nat) : Bool := kp c B t && decide (c 24 t = 1 ∧ c 26 t ≤ c 2 2)
/-- the stamps, looks, papers that count without those of B -/
def SL (c : Co) (B : Nat) : List Nat := sLn c B 0 (c 2 3).toNat
def LL (c : Co) (B : Nat) : List Nat := sLn c B 2 (c 2 3).toNat
def PM (c : Co) (B : Nat) : Nat := mb (pmk c B) (c 2 3).toNat
def WF2 (c : Co) : Prop := cn (fun t => decide (c 24 t = 0)) (c 2 3).toNat ≤ 6 ∧ cn (fun t => decide (c 24 t = 2)) (c 2 3).toNat ≤ 2
theorem cn_mono (p : Nat → Bool) : ∀ (n d : Nat), cn p n ≤ cn p (n + d)
  | n, 0 => Nat.le_refl _
  | n, d + 1 => by
    have := cn_mono p n d
    rw [← Nat.add_assoc, cn]
    omega
theorem sLn_len (c : Co) (B : Nat) (w : Int) : ∀ n, (sLn c B w n).length ≤ cn (fun t => decide (c 24 t = w)) n
  | 0 => Nat.le_refl _
  | n + 1 => by
    have := sLn_len c B w n
    rw [sLn, cn]
    split
    · rename_i q
      rw [List.length_append, if_pos (by simpa using q.2)]
      simp
      omega
    · omega
theorem getD_l {l : List Nat} {x q : Nat} (h : q < l.length) : (l ++ [x]).getD q 0 = l.getD q 0 := by
  simp [List.getD_eq_getElem?_getD, List.getElem?_append_left h]
theorem getD_r {l : List Nat} {x : Nat} : (l ++ [x]).getD l.length 0 = x := by
  simp [List.getD_eq_getElem?_getD]
theorem sLn_at (c : Co) (B : Nat) (w : Int) : ∀ n q, q < (sLn c B w n).length → (sLn c B w n).getD q 0 < n ∧ c 24 ((sLn c B w n).getD q 0) = w ∧ kp c B ((sLn c B w n).getD q 0) = true
  | 0, q, h => by simp [sLn] at h
  | n + 1, q, h => by
    rw [sLn] at h ⊢
    by_cases z : kp c B n = true ∧ c 24 n = w
    · rw [if_pos z] at h ⊢
      by_cases e : q < (sLn c B w n).length
      · rw [getD_l e]
        have := sLn_at c B w n q e
        exact ⟨by omega, this.2⟩
      · have e2 : q = (sLn c B w n).length := by
          rw [List.length_append] at h
          simp at h
          omega
        rw [e2, getD_r]
        exact ⟨by omega, z.2, z.1⟩
    · rw [if_neg z] at h ⊢
      have := sLn_at c B w n q h
      exact ⟨by omega, this.2⟩
theorem Sk_of {c : Co} (hw : WF c) (h2 : WF2 c) (B : Nat) : Sk c (SL c B) (LL c B) (PM c B) := by
  have hsz := hw.2.2.2.2.2.2.2.2.1
  refine ⟨Nat.le_trans (sLn_len c B 0 _) h2.1, Nat.le_trans (sLn_len c B 2 _) h2.2, fun q hq => ?_, fun q hq => ?_, fun q hq => ?_⟩
  · have := (sLn_at c B 0 _ q hq).1
    unfold SL
    omega
  · have := sLn_at c B 2 _ q hq
    unfold LL
    exact ⟨by omega, this.2.1⟩
  · unfold PM at hq
    rw [mb_bit] at hq
    simp only [Bool.and_eq_true, decide_eq_true_eq, pmk] at hq
    exact ⟨by omega, hq.2.2.1, hq.2.2.2⟩
theorem counts_X {μ : Mi} {i : Bool} {c : Co} (hc : cr μ i = c) (hw : WF c) {n : Nat} (hn : (n : Int) < c 2 3) {w : Int} (h0 : 0 ≤ w ∧ w ≤ 2) : D_X2_counts i (n : Int) w μ = some (if c 24 n = w ∧ c 29 n = 0 then 1 else 0) := by
  have hsz := hw.2.2.2.2.2.2.2.2.1
  obtain ⟨t1, t2, t3, t4, t5, t6⟩ := hw.2.2.2.2.2.2.2.2.2 n hn
  unfold D_X2_counts
  rw [has_X (by rw [cm hc (by omega)]; omega) (by rw [cm hc (by omega)]; omega) ⟨by omega, by omega⟩, cm hc (r := 2) (by omega), if_neg (nb10 (by omega)), wid (x := (n : Int)) (by omega) (by omega), if_pos (by omega), ixn n (by omega), cm hc (r := 24) (by omega), cm hc (r := 29) (by omega), wid (x := c 24 n) (by omega) (by omega), wid (x := w) (by omega) (by omega), wid (x := c 29 n) (by omega) (by omega), if_pos (show 0 ≤ (n : Int) ∧ (n : Int) < 8 by omega)]
  by_cases q1 : c 24 n = w
  · rw [if_neg (by omega)]
    by_cases q2 : c 29 n = 0
    · rw [if_neg (by omega), if_pos ⟨q1, q2⟩]
    · rw [if_pos q2, if_neg (fun z => q2 z.2)]
  · rw [if_pos q1, if_neg (fun z => q1 z.1)]
theorem leavesAt_X {μ : Mi} {i : Bool} {c : Co} (hc : cr μ i = c) (hw : WF c) {k h : Nat} (hk : (k : Int) < c 0 2) (hh : h ≤ 96) : D_X0_leavesAt false (k : Int) (h : Int) μ = some (if c 15 k = (if c 18 k = 0 then (h : Int) else ((h % 24 : Nat) : Int)) then 1 else 0) := by
  have hnl := hw.2.1
  obtain ⟨-, -, -, k6, -, -, k10, -⟩ := hw.2.2.2.1 k hk
  unfold D_X0_leavesAt B_X0_leavesAt_23
  rw [wid (x := (k : Int)) (by omega) (by omega), if_pos (by omega), if_pos (by omega), ixn k (by omega), ca hc (r := 18) (by omega), ca hc (r := 15) (by omega), wid (x := c 18 k) (by omega) (by omega), wid (x := c 15 k) (by omega) (by omega), irem24 (by omega), wid (x := (h : Int)) (by omega) (by omega), wid (x := ((h % 24 : Nat) : Int)) (by omega) (by omega)]
  by_cases q : c 18 k = 0
  · simp only [if_pos q]
    by_cases q2 : c 15 k = (h : Int)
    · rw [if_neg (by omega), if_pos q2]
    · rw [if_pos q2, if_neg q2]
  · simp only [if_neg q]
    by_cases q2 : c 15 k = ((h % 24 : Nat) : Int)
    · rw [if_neg (fun z => z q2), if_pos q2]
    · rw [if_pos q2, if_neg q2]
theorem linksLeaving_X {μ : Mi} {i : Bool} {c : Co} (hc : cr μ i = c) (hw : WF c) {h : Nat} (hh : h ≤ 96) : D_X4_linksLeaving i (h : Int) μ = some ((lv4 c h : Nat) : Int) := by
  have hnl := hw.2.1
  have hen := hw.2.2.2.2.2.2.2.1
  have key : ∀ d n k : Nat, k + d = (c 0 2).toNat → d < n → B_X4_linksLeaving_4 n i (h : Int) ((mb (lvp c h) k : Nat) : Int) (k : Int) μ = some ((lv4 c h : Nat) : Int) := by
    intro d
    induction d with
    | zero =>
      intro n k hk hn
      obtain ⟨n, rfl⟩ : ∃ q, n = q + 1 := ⟨n - 1, by omega⟩
      rw [B_X4_linksLeaving_4_s, F_X4_linksLeaving_4, ca hc (r := 0) (by omega), wid (x := c 0 2) (by omega) (by omega), wid (x := (k : Int)) (by omega) (by omega), if_pos (by omega), show k = (c 0 2).toNat by omega]
      rfl
    | succ d ih =>
      intro n k hk hn
      obtain ⟨n, rfl⟩ : ∃ q, n = q + 1 := ⟨n - 1, by omega⟩
      have hkl : (k : Int) < c 0 2 := by omega
      obtain ⟨-, -, -, k6, k7, -, k10, -⟩ := hw.2.2.2.1 k hkl
      have hb : mb (lvp c h) k < 2147483648 := Nat.lt_trans (mb_lt _ k) (two_lt (by omega))
      have hgo : ∀ b : Nat, (b = mb (lvp c h) (k + 1)) → B_X4_linksLeaving_54 (B_X4_linksLeaving_4 n) i (h : Int) (b : Int) (k : Int) μ = some ((lv4 c h : Nat) : Int) := by
        intro b e
        unfold B_X4_linksLeaving_54
        rw [e, show (k : Int) + 1 = ((k + 1 : Nat) : Int) by omega]
        exact ih n (k + 1) (by omega) (by omega)
      have hmb : mb (lvp c h) (k + 1) = if lvp c h k then mb (lvp c h) k ||| 2 ^ k else mb (lvp c h) k := rfl
      rw [B_X4_linksLeaving_4_s, F_X4_linksLeaving_4, ca hc (r := 0) (by omega), wid (x := c 0 2) (by omega) (by omega), wid (x := (k : Int)) (by omega) (by omega), if_neg (by omega), leavesAt_X hc hw hkl hh, bp_k, ixn k (by omega), ca hc (r := 16) (by omega), cm hc (r := 2) (by omega), wid (x := c 2 2) (by omega) (by omega), wid (x := (h : Int) + c 16 k) (by omega) (by omega)]
      by_cases q : c 15 k = (if c 18 k = 0 then (h : Int) else ((h % 24 : Nat) : Int))
      · rw [if_neg (nb10 q), if_pos (show 0 ≤ (k : Int) ∧ (k : Int) < 16 by omega)]
        by_cases q2 : c 2 2 < (h : Int) + c 16 k
        · rw [if_pos q2]
          exact hgo _ (by rw [hmb, if_neg (by unfold lvp; simp only [decide_eq_true_eq]; omega)])
        · rw [if_neg q2, or_bit _ k hb (by omega)]
          exact hgo _ (by rw [hmb, if_pos (by unfold lvp; simp only [decide_eq_true_eq]; exact ⟨q, by omega⟩)])
      · rw [if_pos (yb10 q)]
        exact hgo _ (by rw [hmb, if_neg (by unfold lvp; simp only [decide_eq_true_eq]; exact fun z => q z.1)])
  exact key (c 0 2).toNat FU 0 (by omega) (FU_gt (by omega))
/-- while the traces are gone through -/
def PI (μ : Mi) (i : Bool) (c : Co) (B n : Nat) : Prop := cr μ i = c ∧ rd μ 4 i 9 = (((sLn c B 0 n).length : Nat) : Int) ∧ (∀ q, q < (sLn c B 0 n).length → rd μ 35 i q = (((sLn c B 0 n).getD q 0 : Nat) : Int)) ∧ rd μ 4 i 10 = (((sLn c B 2 n).length : Nat) : Int) ∧ (∀ q, q < (sLn c B 2 n).length → rd μ 36 i q = (((sLn c B 2 n).getD q 0 : Nat) : Int)) ∧ rd μ 4 i 11 = ((mb (pmk c B) n : Nat) : Int)
theorem cr_s {μ : Mi} {i j : Bool} {r k : Nat} {v : Int} (h : r = 4 ∨ (33 ≤ r ∧ r ≤ 36) ∨ r = 1 ∨ (21 ≤ r ∧ r ≤ 23)) : cr (wr μ r j k v) i = cr μ i := by
  funext r' k'
  unfold cr
  split
  · rw [rdx (by omega)]
  · split
    · rw [rdx (by omega)]
    · rfl
theorem prep_one {i : Bool} {c : Co} (hw : WF c) (h2 : WF2 c) {B n : Nat} (hB : B < 256) (hn : (n : Int) < c 2 3) {k17 : Bool → Int → Int → Mi → Option Mi} {μ : Mi} (I : PI μ i c B n) : ∃ m, F_X4_prepare_17 k17 i (B : Int) (n : Int) μ = k17 i (B : Int) ((n + 1 : Nat) : Int) m ∧ PI m i c B (n + 1) := by
  have hsz := hw.2.2.2.2.2.2.2.2.1
  have hen := hw.2.2.2.2.2.2.2.1
  obtain ⟨t1, t2, t3, t4, t5, t6⟩ := hw.2.2.2.2.2.2.2.2.2 n hn
  have hsz3 : rd μ 2 i 3 = c 2 3 := cm I.1 (by omega)
  have hS6 : c 24 n = 0 → (sLn c B 0 n).length < 6 := fun q => by
    have a1 := sLn_len c B 0 n
    have a2 := cn_mono (fun t => decide (c 24 t = 0)) (n + 1) ((c 2 3).toNat - (n + 1))
    rw [show n + 1 + ((c 2 3).toNat - (n + 1)) = (c 2 3).toNat by omega, cn, if_pos (by simpa using q)] at a2
    have := h2.1
    omega
  have hL2 : c 24 n = 2 → (sLn c B 2 n).length < 2 := fun q => by
    have a1 := sLn_len c B 2 n
    have a2 := cn_mono (fun t => decide (c 24 t = 2)) (n + 1) ((c 2 3).toNat - (n + 1))
    rw [show n + 1 + ((c 2 3).toNat - (n + 1)) = (c 2 3).toNat by omega, cn, if_pos (by simpa using q)] at a2
    have := h2.2
    omega
  have hS8 : (sLn c B 0 n).length ≤ n := Nat.le_trans (sLn_len c B 0 n) (cn_le _ n)
  have hL8 : (sLn c B 2 n).length ≤ n := Nat.le_trans (sLn_len c B 2 n) (cn_le _ n)
  have hb : mb (pmk c B) n < 2147483648 := Nat.lt_trans (mb_lt _ n) (two_lt (by omega))
  obtain ⟨i1, i2, i3, i4, i5, i6⟩ := I
  have hstep : ∀ w : Int, sLn c B w (n + 1) = if kp c B n = true ∧ c 24 n = w then sLn c B w n ++ [n] else sLn c B w n := fun _ => rfl
  have hmstep : mb (pmk c B) (n + 1) = if pmk c B n then mb (pmk c B) n ||| 2 ^ n else mb (pmk c B) n := rfl
  have h178 : ∀ m : Mi, B_X4_prepare_178 k17 i (B : Int) (n : Int) m = k17 i (B : Int) ((n + 1 : Nat) : Int) m := fun m => by
    unfold B_X4_prepare_178
    rw [show (n : Int) + 1 = ((n + 1 : Nat) : Int) by omega]
  rw [F_X4_prepare_17, hsz3, wid (x := c 2 3) (by omega) (by omega), wid (x := (n : Int)) (by omega) (by omega), if_neg (by omega), bit_n B n (by omega) (by omega)]
  by_cases qB : B.testBit n = true
  · -- left out
    have hk : kp c B n = false := by unfold kp; rw [qB]; simp
    refine ⟨μ, ?_, i1, ?_, ?_, ?_, ?_, ?_⟩
    · rw [if_pos qB, if_neg (by decide)]
      unfold B_X4_prepare_41
      rw [if_pos (by decide)]
      unfold B_X4_prepare_87
      rw [if_pos (by decide)]
      unfold B_X4_prepare_131
      rw [if_pos (by decide), h178]
    · rw [hstep, if_neg (fun z => by rw [hk] at z; cases z.1)]; exact i2
    · rw [hstep, if_neg (fun z => by rw [hk] at z; cases z.1)]; exact i3
    · rw [hstep, if_neg (fun z => by rw [hk] at z; cases z.1)]; exact i4
    · rw [hstep, if_neg (fun z => by rw [hk] at z; cases z.1)]; exact i5
    · rw [hmstep, if_neg (by unfold pmk; rw [hk]; simp)]; exact i6
  · rw [if_neg qB, if_pos (by decide)]
    have hkd : kp c B n = decide (c 29 n = 0) := by unfold kp; simp [qB]
    by_cases qd : c 29 n = 0
    · have hk : kp c B n = true := by rw [hkd]; simpa using qd
      rcases t1 with t1 | t1 | t1
      · -- a stamp
        have hlen := hS6 t1
        refine ⟨wr (wr μ 35 i (sLn c B 0 n).length (n : Int)) 4 i 9 ((((sLn c B 0 n).length : Nat) : Int) + 1), ?_, ?_, ?_, ?_, ?_, ?_, ?_⟩
        · have hcm : cr (wr (wr μ 35 i (sLn c B 0 n).length (n : Int)) 4 i 9 ((((sLn c B 0 n).length : Nat) : Int) + 1)) i = c := by rw [cr_s (by omega), cr_s (by omega)]; exact i1
          unfold B_X4_prepare_41
          rw [if_neg (by decide), counts_X i1 hw hn (by decide), bp_k, if_neg (nb10 ⟨t1, qd⟩), i2, wid (x := (((sLn c B 0 n).length : Nat) : Int)) (by omega) (by omega), if_neg (by omega), if_pos (by omega), ixn _ (by omega)]
          unfold B_X4_prepare_87
          rw [if_neg (by decide), counts_X hcm hw hn (by decide), bp_k, if_pos (yb10 (by omega))]
          unfold B_X4_prepare_131
          rw [if_neg (by decide), counts_X hcm hw hn (by decide), bp_k, if_pos (yb10 (by omega)), h178]
        · rw [cr_s (by omega), cr_s (by omega)]; exact i1
        · rw [rd_s, hstep, if_pos ⟨hk, t1⟩, List.length_append]; simp
        · intro q hq
          rw [hstep, if_pos ⟨hk, t1⟩] at hq ⊢
          rw [rdx (by omega), rd_wr]
          by_cases e : q = (sLn c B 0 n).length
          · rw [if_pos ⟨rfl, rfl, e⟩, e, getD_r]
          · rw [List.length_append] at hq
            simp at hq
            rw [if_neg (fun z => e z.2.2), getD_l (by omega)]
            exact i3 q (by omega)
        · rw [rdx (by omega), rdx (by omega), hstep, if_neg (fun z => by omega)]; exact i4
        · intro q hq
          rw [hstep, if_neg (fun z => by omega)] at hq ⊢
          rw [rdx (by omega), rdx (by omega)]; exact i5 q hq
        · rw [rdx (by omega), rdx (by omega), hmstep, if_neg (by unfold pmk; simp only [Bool.and_eq_true, decide_eq_true_eq]; omega)]; exact i6
      · -- a paper
        by_cases qe : c 26 n ≤ c 2 2
        · refine ⟨wr μ 4 i 11 ((mb (pmk c B) n ||| 2 ^ n : Nat) : Int), ?_, ?_, ?_, ?_, ?_, ?_, ?_⟩
          · unfold B_X4_prepare_41
            rw [if_neg (by decide), counts_X i1 hw hn (by decide), bp_k, if_pos (yb10 (by omega))]
            unfold B_X4_prepare_87
            rw [if_neg (by decide), counts_X i1 hw hn (by decide), bp_k, if_pos (yb10 (by omega))]
            unfold B_X4_prepare_131
            rw [if_neg (by decide), counts_X i1 hw hn (by decide), bp_k, if_neg (nb10 ⟨t1, qd⟩), wid (x := (n : Int)) (by omega) (by omega), if_pos (by omega), ixn n (by omega), cm i1 (r := 2) (by omega), cm i1 (r := 26) (by omega), wid (x := c 2 2) (by omega) (by omega), wid (x := c 26 n) (by omega) (by omega), if_neg (by omega), i6, or_bit _ n hb (by omega), h178]
          · rw [cr_s (by omega)]; exact i1
          · rw [rdx (by omega), hstep, if_neg (fun z => by omega)]; exact i2
          · intro q hq
            rw [hstep, if_neg (fun z => by omega)] at hq ⊢
            rw [rdx (by omega)]; exact i3 q hq
          · rw [rdx (by omega), hstep, if_neg (fun z => by omega)]; exact i4
          · intro q hq
            rw [hstep, if_neg (fun z => by omega)] at hq ⊢
            rw [rdx (by omega)]; exact i5 q hq
          · rw [rd_s, hmstep, if_pos (by unfold pmk; simp only [Bool.and_eq_true, decide_eq_true_eq]; exact ⟨hk, t1, qe⟩)]
        · refine ⟨μ, ?_, i1, ?_, ?_, ?_, ?_, ?_⟩
          · unfold B_X4_prepare_41
            rw [if_neg (by decide), counts_X i1 hw hn (by decide), bp_k, if_pos (yb10 (by omega))]
            unfold B_X4_prepare_87
            rw [if_neg (by decide), counts_X i1 hw hn (by decide), bp_k, if_pos (yb10 (by omega))]
            unfold B_X4_prepare_131
            rw [if_neg (by decide), counts_X i1 hw hn (by decide), bp_k, if_neg (nb10 ⟨t1, qd⟩), wid (x := (n : Int)) (by omega) (by omega), if_pos (by omega), ixn n (by omega), cm i1 (r := 2) (by omega), cm i1 (r := 26) (by omega), wid (x := c 2 2) (by omega) (by omega), wid (x := c 26 n) (by omega) (by omega), if_pos (by omega), h178]
          · rw [hstep, if_neg (fun z => by omega)]; exact i2
          · rw [hstep, if_neg (fun z => by omega)]; exact i3
          · rw [hstep, if_neg (fun z => by omega)]; exact i4
          · rw [hstep, if_neg (fun z => by omega)]; exact i5
          · rw [hmstep, if_neg (by unfold pmk; simp only [Bool.and_eq_true, decide_eq_true_eq]; omega)]; exact i6
      · -- a look
        have hlen := hL2 t1
        refine ⟨wr (wr μ 36 i (sLn c B 2 n).length (n : Int)) 4 i 10 ((((sLn c B 2 n).length : Nat) : Int) + 1), ?_, ?_, ?_, ?_, ?_, ?_, ?_⟩
        · have hcm : cr (wr (wr μ 36 i (sLn c B 2 n).length (n : Int)) 4 i 10 ((((sLn c B 2 n).length : Nat) : Int) + 1)) i = c := by rw [cr_s (by omega), cr_s (by omega)]; exact i1
          unfold B_X4_prepare_41
          rw [if_neg (by decide), counts_X i1 hw hn (by decide), bp_k, if_pos (yb10 (by omega))]
          unfold B_X4_prepare_87
          rw [if_neg (by decide), counts_X i1 hw hn (by decide), bp_k, if_neg (nb10 ⟨t1, qd⟩), i4, wid (x := (((sLn c B 2 n).length : Nat) : Int)) (by omega) (by omega), if_neg (by omega), if_pos (by omega), ixn _ (by omega)]
          unfold B_X4_prepare_131
          rw [if_neg (by decide), counts_X hcm hw hn (by decide), bp_k, if_pos (yb10 (by omega)), h178]
        · rw [cr_s (by omega), cr_s (by omega)]; exact i1
        · rw [rdx (by omega), rdx (by omega), hstep, if_neg (fun z => by omega)]; exact i2
        · intro q hq
          rw [hstep, if_neg (fun z => by omega)] at hq ⊢
          rw [rdx (by omega), rdx (by omega)]; exact i3 q hq
        · rw [rd_s, hstep, if_pos ⟨hk, t1⟩, List.length_append]; simp
        · intro q hq
          rw [hstep, if_pos ⟨hk, t1⟩] at hq ⊢
          rw [rdx (by omega), rd_wr]
          by_cases e : q = (sLn c B 2 n).length
          · rw [if_pos ⟨rfl, rfl, e⟩, e, getD_r]
          · rw [List.length_append] at hq
            simp at hq
            rw [if_neg (fun z => e z.2.2), getD_l (by omega)]
            exact i5 q (by omega)
        · rw [rdx (by omega), rdx (by omega), hmstep, if_neg (by unfold pmk; simp only [Bool.and_eq_true, decide_eq_true_eq]; omega)]; exact i6
    · -- doubted
      have hk : kp c B n = false := by rw [hkd]; simpa using qd
      refine ⟨μ, ?_, i1, ?_, ?_, ?_, ?_, ?_⟩
      · unfold B_X4_prepare_41
        rw [if_neg (by decide), counts_X i1 hw hn (by decide), bp_k, if_pos (yb10 (fun z => qd z.2))]
        unfold B_X4_prepare_87
        rw [if_neg (by decide), counts_X i1 hw hn (by decide), bp_k, if_pos (yb10 (fun z => qd z.2))]
        unfold B_X4_prepare_131
        rw [if_neg (by decide), counts_X i1 hw hn (by decide), bp_k, if_pos (yb10 (fun z => qd z.2)), h178]
      · rw [hstep, if_neg (fun z => by rw [hk] at z; cases z.1)]; exact i2
      · rw [hstep, if_neg (fun z => by rw [hk] at z; cases z.1)]; exact i3
      · rw [hstep, if_neg (fun z => by rw [hk] at z; cases z.1)]; exact i4
      · rw [hstep, if_neg (fun z => by rw [hk] at z; cases z.1)]; exact i5
      · rw [hmstep, if_neg (by unfold pmk; rw [hk]; simp)]; exact i6
