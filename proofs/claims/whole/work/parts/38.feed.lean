/-! PURE: feed -/
/-- n bytes b 0, b 1 .. come behind z, in the text of role r whose length stands in the field (o, 1) -/
def ap (r o : Nat) (b : Nat → Int) (z : Nat) : Nat → Mi → Mi
  | 0, μ => μ
  | n + 1, μ => wr (wr (ap r o b z n μ) r false (z + n) (b n)) o false 1 ((z + n + 1 : Nat) : Int)
theorem ap_len {r o : Nat} (hr : r ≠ o) {b : Nat → Int} {z : Nat} {μ : Mi} (h : rd μ o false 1 = (z : Int)) : ∀ n, rd (ap r o b z n μ) o false 1 = ((z + n : Nat) : Int)
  | 0 => h
  | n + 1 => by rw [ap, rd_s]; rfl
theorem ap_off {r o : Nat} {b : Nat → Int} {z : Nat} {μ : Mi} {r' : Nat} {i' : Bool} {j' : Nat} (h1 : r' ≠ r) (h2 : ¬ (r' = o ∧ j' = 1)) : ∀ n, rd (ap r o b z n μ) r' i' j' = rd μ r' i' j'
  | 0 => rfl
  | n + 1 => by rw [ap, rdx h2, rdx (fun q => h1 q.1), ap_off h1 h2 n]
theorem ap_at {r o : Nat} (hr : r ≠ o) {b : Nat → Int} {z : Nat} {μ : Mi} {j : Nat} : ∀ n, rd (ap r o b z n μ) r false j = if z ≤ j ∧ j < z + n then b (j - z) else rd μ r false j
  | 0 => by rw [if_neg (by omega)]; rfl
  | n + 1 => by
    rw [ap, rdx (fun q => hr q.1), rd_wr]
    by_cases c : j = z + n
    · subst c
      rw [if_pos ⟨rfl, rfl, rfl⟩, if_pos (by omega), show z + n - z = n by omega]
    · rw [if_neg (fun q => c q.2.2), ap_at hr n]
      by_cases c2 : z ≤ j ∧ j < z + n
      · rw [if_pos c2, if_pos (by omega)]
      · rw [if_neg c2, if_neg (by omega)]
theorem i2b_rng (x : Int) : -128 ≤ i2b x ∧ i2b x ≤ 127 := by
  have h1 := Int8.le_toInt (Int32.ofInt x).toInt8
  have h2 := Int8.toInt_lt (Int32.ofInt x).toInt8
  have e : i2b x = (Int32.ofInt x).toInt8.toInt := by
    unfold i2b
    rw [Int8.toInt_toInt32]
  rw [e]
  omega
/-- the k-th of the twenty bytes -/
def wd (a b c d e : Int) (k : Nat) : Int := if k < 4 then a else if k < 8 then b else if k < 12 then c else if k < 16 then d else e
def fb (a b c d e : Int) (k : Nat) : Int := i2b (i2b (ishr (wd a b c d e k) (24 - 8 * ((k % 4 : Nat) : Int))))
theorem fb_rng {a b c d e : Int} (k : Nat) : -128 ≤ fb a b c d e k ∧ fb a b c d e k ≤ 127 := i2b_rng _
theorem append_X {a b c d e : Int} {z : Nat} {μ : Mi} (hz : rd μ 6 false 1 = (z : Int)) (q : Nat) (hq : q < 5) (hz2 : z + 20 ≤ 500) (x : Int) (hx : ∀ k, k < 4 → wd a b c d e (4 * q + k) = x) : D_X6_append x (ap 41 6 (fb a b c d e) z (4 * q) μ) = some (ap 41 6 (fb a b c d e) z (4 * (q + 1)) μ) := by
  have key : ∀ k n : Nat, k ≤ 4 → 4 - k < n → B_X6_append_3 n x (24 - 8 * (k : Int)) (ap 41 6 (fb a b c d e) z (4 * q + k) μ) = some (ap 41 6 (fb a b c d e) z (4 * (q + 1)) μ) := by
    intro k
    induction hd : 4 - k generalizing k with
    | zero =>
      intro n h4 hn
      obtain ⟨n, rfl⟩ : ∃ q, n = q + 1 := ⟨n - 1, by omega⟩
      have : k = 4 := by omega
      subst this
      rw [B_X6_append_3_s, F_X6_append_3, wid (by omega) (by omega), if_pos (by omega)]
      rfl
    | succ dd ih =>
      intro n h4 hn
      obtain ⟨n, rfl⟩ : ∃ q, n = q + 1 := ⟨n - 1, by omega⟩
      have hl := ap_len (r := 41) (o := 6) (by decide) (b := fb a b c d e) hz (4 * q + k)
      rw [B_X6_append_3_s, F_X6_append_3, wid (x := 24 - 8 * (k : Int)) (by omega) (by omega), if_neg (by omega), hl, wid (x := ((z + (4 * q + k) : Nat) : Int)) (by omega) (by omega), if_neg (by omega), if_pos (by omega), ixn _ (by omega)]
      have e1 : (24 - 8 * (k : Int)) + (-8) = 24 - 8 * ((k + 1 : Nat) : Int) := by omega
      have e2 : wr (wr (ap 41 6 (fb a b c d e) z (4 * q + k) μ) 41 false (z + (4 * q + k)) (i2b (i2b (ishr x (24 - 8 * (k : Int)))))) 6 false 1 (((z + (4 * q + k) : Nat) : Int) + 1) = ap 41 6 (fb a b c d e) z (4 * q + (k + 1)) μ := by
        rw [show 4 * q + (k + 1) = (4 * q + k) + 1 by omega, ap]
        have e3 : fb a b c d e (4 * q + k) = i2b (i2b (ishr x (24 - 8 * (k : Int)))) := by
          unfold fb
          rw [hx k (by omega), show (4 * q + k) % 4 = k by omega]
        rw [e3]
        rfl
      rw [e1, e2]
      exact ih (k + 1) (by omega) n (by omega) (by omega)
  exact key 0 FU (by omega) (FU_gt (by omega))
theorem feed_M {a b c d e : Int} {z : Nat} {μ : Mi} (hz : rd μ 7 false 1 = (z : Int)) (hz2 : z + 20 ≤ 500) : B_X7_feed_18 FU a b c d e 0 μ = some (((z + 20 : Nat) : Int), ap 42 7 (fb a b c d e) z 20 μ) := by
  have key : ∀ k n : Nat, k ≤ 20 → 20 - k < n → B_X7_feed_18 n a b c d e (k : Int) (ap 42 7 (fb a b c d e) z k μ) = some (((z + 20 : Nat) : Int), ap 42 7 (fb a b c d e) z 20 μ) := by
    intro k
    induction hd : 20 - k generalizing k with
    | zero =>
      intro n h4 hn
      obtain ⟨n, rfl⟩ : ∃ q, n = q + 1 := ⟨n - 1, by omega⟩
      have : k = 20 := by omega
      subst this
      rw [B_X7_feed_18_s, F_X7_feed_18, wid (by omega) (by omega), if_pos (by omega), ap_len (by decide) hz]
    | succ d' ih =>
      intro n h4 hn
      obtain ⟨n, rfl⟩ : ∃ q, n = q + 1 := ⟨n - 1, by omega⟩
      have hl := ap_len (r := 42) (o := 7) (by decide) (b := fb a b c d e) hz k
      have hB : B_X7_feed_71 (B_X7_feed_18 n) a b c d e (k : Int) (wd a b c d e k) (ap 42 7 (fb a b c d e) z k μ) = some (((z + 20 : Nat) : Int), ap 42 7 (fb a b c d e) z 20 μ) := by
        unfold B_X7_feed_71
        rw [hl, wid (x := ((z + k : Nat) : Int)) (by omega) (by omega), if_pos (by omega), ixn _ (by omega), show (4 : Int) = ((4 : Nat) : Int) from rfl, irem_n 4 (a := (k : Int)) (by omega) (by omega) (by omega) (by omega)]
        have e1 : ((k : Int) + 1) = ((k + 1 : Nat) : Int) := by omega
        have e2 : wr (wr (ap 42 7 (fb a b c d e) z k μ) 42 false (z + k) (i2b (i2b (ishr (wd a b c d e k) (24 - 8 * ((k : Int) % ((4 : Nat) : Int))))))) 7 false 1 (((z + k : Nat) : Int) + 1) = ap 42 7 (fb a b c d e) z (k + 1) μ := by
          rw [ap]
          have e3 : fb a b c d e k = i2b (i2b (ishr (wd a b c d e k) (24 - 8 * ((k : Int) % ((4 : Nat) : Int))))) := by
            unfold fb
            rw [show ((k % 4 : Nat) : Int) = (k : Int) % ((4 : Nat) : Int) from rfl]
          rw [e3]
          rfl
        rw [e1, e2]
        exact ih (k + 1) (by omega) n (by omega) (by omega)
      rw [B_X7_feed_18_s, F_X7_feed_18, wid (x := (k : Int)) (by omega) (by omega), if_neg (by omega)]
      by_cases c1 : k < 4
      · rw [if_neg (by omega)]
        rw [wd, if_pos c1] at hB
        exact hB
      · rw [if_pos (by omega)]
        by_cases c2 : k < 8
        · rw [if_neg (by omega)]
          rw [wd, if_neg c1, if_pos c2] at hB
          exact hB
        · rw [if_pos (by omega)]
          by_cases c3 : k < 12
          · rw [if_neg (by omega)]
            rw [wd, if_neg c1, if_neg c2, if_pos c3] at hB
            exact hB
          · rw [if_pos (by omega)]
            by_cases c4 : k < 16
            · rw [if_neg (by omega)]
              rw [wd, if_neg c1, if_neg c2, if_neg c3, if_pos c4] at hB
              exact hB
            · rw [if_pos (by omega)]
              rw [wd, if_neg c1, if_neg c2, if_neg c3, if_neg c4] at hB
              exact hB
  exact key 0 FU (by omega) (FU_gt (by omega))
theorem op_feed {μ : Mi} (h : Inv0 μ) {a b c d e : Int} : OpE (D_X6_feed a b c d e) (D_X7_feed a b c d e) μ := by
  have hI := h
  obtain ⟨hT, hA, hM, hS, hC⟩ := h
  have hT' := hT
  obtain ⟨t1, t2, t3, t4⟩ := hT'
  obtain ⟨z, hz⟩ : ∃ z : Nat, rd μ 6 false 1 = (z : Int) := ⟨(rd μ 6 false 1).toNat, by omega⟩
  rw [hz] at t1 t2 t3
  by_cases c1 : z + 20 ≤ 500
  · have hX : D_X6_feed a b c d e μ = some (((z + 20 : Nat) : Int), ap 41 6 (fb a b c d e) z 20 μ) := by
      unfold D_X6_feed
      rw [hz, wid (x := (z : Int) + 20) (by omega) (by omega), if_pos (by omega)]
      have s0 := append_X (a := a) (b := b) (c := c) (d := d) (e := e) hz 0 (by omega) c1 a (fun k hk => by rw [wd, if_pos (by omega)])
      have s1 := append_X (a := a) (b := b) (c := c) (d := d) (e := e) hz 1 (by omega) c1 b (fun k hk => by rw [wd, if_neg (by omega), if_pos (by omega)])
      have s2 := append_X (a := a) (b := b) (c := c) (d := d) (e := e) hz 2 (by omega) c1 c (fun k hk => by rw [wd, if_neg (by omega), if_neg (by omega), if_pos (by omega)])
      have s3 := append_X (a := a) (b := b) (c := c) (d := d) (e := e) hz 3 (by omega) c1 d (fun k hk => by rw [wd, if_neg (by omega), if_neg (by omega), if_neg (by omega), if_pos (by omega)])
      have s4 := append_X (a := a) (b := b) (c := c) (d := d) (e := e) hz 4 (by omega) c1 e (fun k hk => by rw [wd, if_neg (by omega), if_neg (by omega), if_neg (by omega), if_neg (by omega)])
      rw [show ap 41 6 (fb a b c d e) z (4 * 0) μ = μ from rfl] at s0
      rw [s0, bm_k, s1, bm_k, s2, bm_k, s3, bm_k, s4, bm_k, ap_len (by decide) hz]
    have hM7 : rd (ap 41 6 (fb a b c d e) z 20 μ) 7 false 1 = (z : Int) := by rw [ap_off (by decide) (by decide)]; exact t3
    refine ⟨((z + 20 : Nat) : Int), _, ap 42 7 (fb a b c d e) z 20 (ap 41 6 (fb a b c d e) z 20 μ), hX, ?_, ⟨⟨?_, ?_, ?_, ?_⟩, hA.tr ?_, fun i => (hM i).tr ?_ ?_ ?_, hS.tr ?_, chg.tr hC ?_⟩, fun i => Kp.of ?_ ?_⟩
    · unfold D_X7_feed
      rw [hM7, wid (x := (z : Int) + 20) (by omega) (by omega), if_pos (by omega)]
      exact feed_M hM7 c1
    · rw [ap_off (by decide) (by decide), ap_len (by decide) hz]; omega
    · rw [ap_off (by decide) (by decide), ap_len (by decide) hz]; omega
    · rw [ap_len (by decide) hM7, ap_off (by decide) (by decide), ap_len (by decide) hz]
    · intro j hj
      rw [ap_at (r := 42) (o := 7) (by decide), ap_off (r := 41) (o := 6) (by decide) (by omega), ap_off (r := 42) (o := 7) (by decide) (by omega), ap_at (r := 41) (o := 6) (by decide)]
      by_cases q : z ≤ j ∧ j < z + 20
      · simp only [if_pos q]
        exact ⟨trivial, fb_rng (j - z)⟩
      · simp only [if_neg q]
        exact t4 j hj
    all_goals intros; simp (disch := omega) only [ap_off, true_or]
  · refine OpE.same hI (-1) ?_ ?_
    · unfold D_X6_feed
      rw [hz, wid (x := (z : Int) + 20) (by omega) (by omega), if_neg (by omega)]
    · unfold D_X7_feed
      rw [t3, wid (x := (z : Int) + 20) (by omega) (by omega), if_neg (by omega)]
