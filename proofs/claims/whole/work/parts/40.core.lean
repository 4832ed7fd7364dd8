/-! PURE: the words of the search: what a man's answers hang on is c = cr μ i; S the stamps that count, L the looks, pm the papers (bits) -/
abbrev Co : Type := Nat → Nat → Int
theorem ca {μ : Mi} {i : Bool} {c : Co} (h : cr μ i = c) {r k : Nat} (hr : r = 0 ∨ (10 ≤ r ∧ r ≤ 20)) : rd μ r false k = c r k := by
  rw [← h, cr, if_pos hr]
theorem cm {μ : Mi} {i : Bool} {c : Co} (h : cr μ i = c) {r k : Nat} (hr : (r = 2 ∧ k < 4) ∨ (24 ≤ r ∧ r ≤ 29)) : rd μ r i k = c r k := by
  rw [← h, cr, if_neg (by omega), if_pos hr]
def mb (p : Nat → Bool) : Nat → Nat
  | 0 => 0
  | n + 1 => if p n then mb p n ||| 2 ^ n else mb p n
theorem mb_lt (p : Nat → Bool) : ∀ n, mb p n < 2 ^ n
  | 0 => Nat.zero_lt_one
  | n + 1 => by
    have h := mb_lt p n
    have h2 : 2 ^ (n + 1) = 2 ^ n * 2 := Nat.pow_succ 2 n
    rw [mb]
    split
    · exact Nat.or_lt_two_pow (by omega) (by omega)
    · omega
theorem mb_bit (p : Nat → Bool) (j : Nat) : ∀ n, (mb p n).testBit j = (decide (j < n) && p j)
  | 0 => by simp [mb]
  | n + 1 => by
    have h := mb_bit p j n
    rw [mb]
    by_cases e : j = n
    · subst e
      have h0 : (mb p j).testBit j = false := by rw [h]; simp
      by_cases q : p j = true
      · rw [if_pos q, Nat.testBit_or, h0, Nat.testBit_two_pow_self]; simp [q]
      · rw [if_neg q, h0]; simp [q]
    · have e2 : (2 ^ n).testBit j = false := by
        rw [Nat.testBit_two_pow]
        simp; omega
      have e3 : decide (j < n + 1) = decide (j < n) := by
        by_cases q : j < n
        · simp [q]; omega
        · simp [q]; omega
      split
      · rw [Nat.testBit_or, h, e2, Bool.or_false, e3]
      · rw [h, e3]
theorem mb_stop (p : Nat → Bool) (k : Nat) : ∀ n, k ≤ n → (∀ q, k ≤ q → q < n → p q = false) → mb p n = mb p k
  | 0, h, _ => by rw [show k = 0 by omega]
  | n + 1, h, hq => by
    by_cases e : k = n + 1
    · rw [e]
    · rw [mb, hq n (by omega) (by omega), if_neg (by decide), mb_stop p k n (by omega) (fun q h1 h2 => hq q h1 (by omega))]
theorem mb_0 {p : Nat → Bool} {n : Nat} : mb p n = 0 ↔ ∀ q, q < n → p q = false := by
  constructor
  · intro h q hq
    have := mb_bit p q n
    rw [h] at this
    simpa [hq] using this.symm
  · intro h
    exact mb_stop p 0 n (Nat.zero_le _) (fun q _ hq => h q hq)
theorem mb_cong {p q : Nat → Bool} : ∀ n, (∀ k, k < n → p k = q k) → mb p n = mb q n
  | 0, _ => rfl
  | n + 1, h => by rw [mb, mb, mb_cong n (fun k hk => h k (by omega)), h n (by omega)]
/-- one more bit, by the machine's own or and shift -/
theorem or_bit (b k : Nat) (hb : b < 2147483648) (hk : k < 31) : ior (b : Int) (ishl 1 (k : Int)) = ((b ||| 2 ^ k : Nat) : Int) := by
  rw [ishl1 k hk, ior_n b _ hb]
  exact Nat.lt_of_lt_of_le (Nat.pow_lt_pow_right (by omega) hk) (by decide)
theorem two_lt {n : Nat} (h : n ≤ 30) : 2 ^ n < 2147483648 := Nat.lt_of_lt_of_le (Nat.pow_lt_pow_right (by omega) (by omega : n < 31)) (by decide)
def WF (c : Co) : Prop := (1 ≤ c 0 1 ∧ c 0 1 ≤ 8) ∧ (0 ≤ c 0 2 ∧ c 0 2 ≤ 16) ∧ (0 ≤ c 0 0 ∧ c 0 0 ≤ 4) ∧ (∀ k : Nat, (k : Int) < c 0 2 → (0 ≤ c 13 k ∧ c 13 k < c 0 1) ∧ (0 ≤ c 14 k ∧ c 14 k < c 0 1) ∧ ¬ c 13 k = c 14 k ∧ (0 ≤ c 15 k ∧ c 15 k ≤ 95) ∧ (1 ≤ c 16 k ∧ c 16 k ≤ 48) ∧ (0 ≤ c 17 k ∧ c 17 k ≤ 99) ∧ (c 18 k = 0 ∨ c 18 k = 1) ∧ (-1 ≤ c 19 k ∧ c 19 k ≤ 3) ∧ (-1 ≤ c 20 k ∧ c 20 k ≤ 3)) ∧ (∀ t : Nat, (t : Int) < c 0 1 → (-12 ≤ c 12 t ∧ c 12 t ≤ 12) ∧ 0 ≤ c 11 t ∧ c 11 t < c 0 0) ∧ (0 ≤ c 2 0 ∧ c 2 0 < c 0 1) ∧ (0 ≤ c 2 1 ∧ c 2 1 ≤ 4) ∧ (1 ≤ c 2 2 ∧ c 2 2 ≤ 96) ∧ (0 ≤ c 2 3 ∧ c 2 3 ≤ 8) ∧ ∀ t : Nat, (t : Int) < c 2 3 → (c 24 t = 0 ∨ c 24 t = 1 ∨ c 24 t = 2) ∧ (0 ≤ c 25 t ∧ c 25 t ≤ 7) ∧ (-1 ≤ c 26 t ∧ c 26 t ≤ c 27 t ∧ c 27 t ≤ 96) ∧ (¬ c 24 t = 0 → 0 ≤ c 26 t) ∧ (c 28 t = 0 ∨ c 28 t = 1) ∧ (c 29 t = 0 ∨ c 29 t = 1)
/-- the sets that count -/
def Sk (c : Co) (S L : List Nat) (pm : Nat) : Prop := S.length ≤ 6 ∧ L.length ≤ 2 ∧ (∀ q, q < S.length → ((S.getD q 0 : Nat) : Int) < c 2 3) ∧ (∀ q, q < L.length → ((L.getD q 0 : Nat) : Int) < c 2 3 ∧ c 24 (L.getD q 0) = 2) ∧ ∀ q, pm.testBit q = true → (q : Int) < c 2 3 ∧ c 24 q = 1 ∧ c 26 q ≤ c 2 2
def lvp (c : Co) (h k : Nat) : Bool := decide (c 15 k = (if c 18 k = 0 then (h : Int) else ((h % 24 : Nat) : Int)) ∧ (h : Int) + c 16 k ≤ c 2 2)
/-- the links that leave at h, by bits -/
def lv4 (c : Co) (h : Nat) : Nat := mb (lvp c h) (c 0 2).toNat
/-- the search stands prepared -/
def Pr (μ : Mi) (i : Bool) (c : Co) (S L : List Nat) (pm : Nat) : Prop := cr μ i = c ∧ WF c ∧ Sk c S L pm ∧ rd μ 4 i 9 = ((S.length : Nat) : Int) ∧ (∀ q, q < S.length → rd μ 35 i q = ((S.getD q 0 : Nat) : Int)) ∧ rd μ 4 i 10 = ((L.length : Nat) : Int) ∧ (∀ q, q < L.length → rd μ 36 i q = ((L.getD q 0 : Nat) : Int)) ∧ rd μ 4 i 11 = (pm : Int) ∧ ∀ h, h ≤ 96 → rd μ 34 i h = ((lv4 c h : Nat) : Int)
theorem Sk.pm_lt {c : Co} {S L : List Nat} {pm : Nat} (hw : WF c) (h : Sk c S L pm) : pm < 256 := by
  obtain ⟨-, -, -, -, hp⟩ := h
  have h8 : c 2 3 ≤ 8 := hw.2.2.2.2.2.2.2.2.1.2
  refine Nat.lt_of_not_le fun hge => ?_
  obtain ⟨q, h1, h2⟩ := Nat.exists_ge_and_testBit_of_ge_two_pow (n := 8) (by omega : 2 ^ 8 ≤ pm)
  have := (hp q h2).1
  omega
def lkp (c : Co) (L : List Nat) (h t q : Nat) : Bool := decide (c 25 (L.getD q 0) = (t : Int) ∧ c 26 (L.getD q 0) ≤ (h : Int) ∧ (h : Int) ≤ c 27 (L.getD q 0))
/-- the looks that see him in the town t at h -/
def sa (c : Co) (L : List Nat) (h t : Nat) : Nat := mb (lkp c L h t) L.length
def pmp (c : Co) (pm h t q : Nat) : Bool := pm.testBit q && decide (c 26 q = (h : Int) ∧ ¬ c 25 q = (t : Int))
/-- the papers that he misses in the town t at h -/
def pMs (c : Co) (pm h t : Nat) : Nat := mb (pmp c pm h t) (c 2 3).toNat
def pbp (c : Co) (pm k h q : Nat) : Bool := pm.testBit q && decide ((h : Int) < c 26 q ∧ c 26 q < (h : Int) + c 16 k)
/-- the papers that he misses on the link k that leaves at h -/
def pBt (c : Co) (pm k h : Nat) : Nat := mb (pbp c pm k h) (c 2 3).toNat
theorem sa_lt {c : Co} {S L : List Nat} {pm h t : Nat} (hs : Sk c S L pm) : sa c L h t < 4 := by
  have h1 := mb_lt (lkp c L h t) L.length
  have h2 : 2 ^ L.length ≤ 2 ^ 2 := Nat.pow_le_pow_right (by omega) hs.2.1
  unfold sa
  omega
theorem seenAt_X {μ : Mi} {i : Bool} {c : Co} {S L : List Nat} {pm : Nat} (P : Pr μ i c S L pm) (h t : Nat) (hh : h ≤ 1000) (ht : t ≤ 1000) : D_X4_seenAt i (h : Int) (t : Int) μ = some ((sa c L h t : Nat) : Int) := by
  obtain ⟨hc, hw, hs, p1, p2, p3, p4, p5, p6⟩ := P
  have hl2 : L.length ≤ 2 := hs.2.1
  have hsz := hw.2.2.2.2.2.2.2.2.1
  have htr := hw.2.2.2.2.2.2.2.2.2
  have key : ∀ d n k : Nat, k + d = L.length → d < n → B_X4_seenAt_5 n i (h : Int) (t : Int) ((mb (lkp c L h t) k : Nat) : Int) (k : Int) μ = some ((sa c L h t : Nat) : Int) := by
    intro d
    induction d with
    | zero =>
      intro n k hk hn
      obtain ⟨n, rfl⟩ : ∃ q, n = q + 1 := ⟨n - 1, by omega⟩
      rw [B_X4_seenAt_5_s, F_X4_seenAt_5, p3, wid (by omega) (by omega), wid (by omega) (by omega), if_pos (by omega), show k = L.length by omega]
      rfl
    | succ d ih =>
      intro n k hk hn
      obtain ⟨n, rfl⟩ : ∃ q, n = q + 1 := ⟨n - 1, by omega⟩
      obtain ⟨hq1, hq2⟩ := hs.2.2.2.1 k (by omega)
      obtain ⟨t1, t2, t3, -⟩ := htr _ hq1
      have hb : mb (lkp c L h t) k < 2147483648 := Nat.lt_trans (mb_lt _ k) (two_lt (by omega))
      have hgo : ∀ b : Nat, (b = mb (lkp c L h t) (k + 1)) → B_X4_seenAt_72 (B_X4_seenAt_5 n) i (h : Int) (t : Int) (b : Int) (k : Int) μ = some ((sa c L h t : Nat) : Int) := by
        intro b e
        unfold B_X4_seenAt_72
        rw [e, show (k : Int) + 1 = ((k + 1 : Nat) : Int) by omega]
        exact ih n (k + 1) (by omega) (by omega)
      rw [B_X4_seenAt_5_s, F_X4_seenAt_5, p3, wid (x := ((L.length : Nat) : Int)) (by omega) (by omega), wid (x := (k : Int)) (by omega) (by omega), if_neg (by omega), if_pos (by omega), ixn k (by omega), p4 k (by omega), wid (x := ((L.getD k 0 : Nat) : Int)) (by omega) (by omega), ixn _ (by omega), cm hc (r := 25) (by omega), cm hc (r := 26) (by omega), cm hc (r := 27) (by omega), wid (x := c 25 (L.getD k 0)) (by omega) (by omega), wid (x := c 26 (L.getD k 0)) (by omega) (by omega), wid (x := c 27 (L.getD k 0)) (by omega) (by omega), wid (x := (h : Int)) (by omega) (by omega), wid (x := (t : Int)) (by omega) (by omega)]
      have hbn : 0 ≤ ((L.getD k 0 : Nat) : Int) ∧ ((L.getD k 0 : Nat) : Int) < 8 := by omega
      simp only [if_pos hbn]
      have hmb : mb (lkp c L h t) (k + 1) = if lkp c L h t k then mb (lkp c L h t) k ||| 2 ^ k else mb (lkp c L h t) k := rfl
      by_cases c1 : c 25 (L.getD k 0) = (t : Int)
      · rw [if_neg (by omega)]
        by_cases c2 : (h : Int) < c 26 (L.getD k 0)
        · rw [if_pos c2]
          exact hgo _ (by rw [hmb, if_neg (by unfold lkp; simp only [decide_eq_true_eq]; omega)])
        · rw [if_neg c2]
          by_cases c3 : c 27 (L.getD k 0) < (h : Int)
          · rw [if_pos c3]
            exact hgo _ (by rw [hmb, if_neg (by unfold lkp; simp only [decide_eq_true_eq]; omega)])
          · rw [if_neg c3, or_bit _ k hb (by omega)]
            exact hgo _ (by rw [hmb, if_pos (by unfold lkp; simp only [decide_eq_true_eq]; omega)])
      · rw [if_pos c1]
        exact hgo _ (by rw [hmb, if_neg (by unfold lkp; simp only [decide_eq_true_eq]; omega)])
  exact key L.length FU 0 (by omega) (FU_gt (by omega))
theorem pm_shift {pm k : Nat} (h : pm / 2 ^ k = 0) (q : Nat) (hq : k ≤ q) : pm.testBit q = false := by
  have h1 : pm < 2 ^ k := by
    rcases Nat.div_eq_zero_iff.mp h with h2 | h2
    · have : 0 < 2 ^ k := Nat.two_pow_pos k
      omega
    · exact h2
  exact Nat.testBit_lt_two_pow (Nat.lt_of_lt_of_le h1 (Nat.pow_le_pow_right (by omega) hq))
theorem papersMissed_X {μ : Mi} {i : Bool} {c : Co} {S L : List Nat} {pm : Nat} (P : Pr μ i c S L pm) (h t : Nat) (hh : h ≤ 1000) (ht : t ≤ 1000) : D_X4_papersMissed i (h : Int) (t : Int) μ = some ((pMs c pm h t : Nat) : Int) := by
  obtain ⟨hc, hw, hs, p1, p2, p3, p4, p5, p6⟩ := P
  have hpm := hs.pm_lt hw
  have hsz := hw.2.2.2.2.2.2.2.2.1
  have htr := hw.2.2.2.2.2.2.2.2.2
  have key : ∀ d n k : Nat, k + d = (c 2 3).toNat → d < n → B_X4_papersMissed_5 n i (h : Int) (t : Int) ((mb (pmp c pm h t) k : Nat) : Int) (k : Int) μ = some ((pMs c pm h t : Nat) : Int) := by
    intro d
    induction d with
    | zero =>
      intro n k hk hn
      obtain ⟨n, rfl⟩ : ∃ q, n = q + 1 := ⟨n - 1, by omega⟩
      rw [B_X4_papersMissed_5_s, F_X4_papersMissed_5, cm hc (r := 2) (by omega), wid (by omega) (by omega), wid (by omega) (by omega), if_pos (by omega), show k = (c 2 3).toNat by omega]
      rfl
    | succ d ih =>
      intro n k hk hn
      obtain ⟨n, rfl⟩ : ∃ q, n = q + 1 := ⟨n - 1, by omega⟩
      obtain ⟨t1, t2, t3, -⟩ := htr k (by omega)
      have hb : mb (pmp c pm h t) k < 2147483648 := Nat.lt_trans (mb_lt _ k) (two_lt (by omega))
      obtain ⟨dv, edv⟩ : ∃ dv, pm / 2 ^ k = dv := ⟨_, rfl⟩
      have hdv : dv ≤ pm := by rw [← edv]; exact Nat.div_le_self _ _
      have hgo : ∀ b : Nat, (b = mb (pmp c pm h t) (k + 1)) → B_X4_papersMissed_74 (B_X4_papersMissed_5 n) i (h : Int) (t : Int) (b : Int) (k : Int) μ = some ((pMs c pm h t : Nat) : Int) := by
        intro b e
        unfold B_X4_papersMissed_74
        rw [e, show (k : Int) + 1 = ((k + 1 : Nat) : Int) by omega]
        exact ih n (k + 1) (by omega) (by omega)
      have hmb : mb (pmp c pm h t) (k + 1) = if pmp c pm h t k then mb (pmp c pm h t) k ||| 2 ^ k else mb (pmp c pm h t) k := rfl
      rw [B_X4_papersMissed_5_s, F_X4_papersMissed_5, cm hc (r := 2) (by omega), wid (x := c 2 3) (by omega) (by omega), wid (x := (k : Int)) (by omega) (by omega), if_neg (by omega), p5, bit_n pm k (by omega) (by omega), ishr_n pm k (by omega) (by omega), edv, wid (x := (dv : Int)) (by omega) (by omega)]
      by_cases z : dv = 0
      · rw [if_pos (by omega)]
        have : mb (pmp c pm h t) (c 2 3).toNat = mb (pmp c pm h t) k := mb_stop _ _ _ (by omega) (fun q h1 _ => by unfold pmp; rw [pm_shift (edv.trans z) q h1]; rfl)
        unfold pMs
        rw [this]
      · rw [if_neg (by omega)]
        by_cases c0 : pm.testBit k = true
        · rw [if_pos c0, if_neg (by decide), ixn k (by omega), cm hc (r := 26) (by omega), cm hc (r := 25) (by omega), wid (x := c 26 k) (by omega) (by omega), wid (x := c 25 k) (by omega) (by omega), wid (x := (h : Int)) (by omega) (by omega), wid (x := (t : Int)) (by omega) (by omega)]
          have hbn : 0 ≤ (k : Int) ∧ (k : Int) < 8 := by omega
          simp only [if_pos hbn]
          by_cases c1 : c 26 k = (h : Int)
          · rw [if_neg (by omega)]
            by_cases c2 : c 25 k = (t : Int)
            · rw [if_pos c2]
              exact hgo _ (by rw [hmb, if_neg (by unfold pmp; simp only [Bool.and_eq_true, decide_eq_true_eq]; omega)])
            · rw [if_neg c2, or_bit _ k hb (by omega)]
              exact hgo _ (by rw [hmb, if_pos (by unfold pmp; simp only [Bool.and_eq_true, decide_eq_true_eq]; exact ⟨c0, c1, c2⟩)])
          · rw [if_pos c1]
            exact hgo _ (by rw [hmb, if_neg (by unfold pmp; simp only [Bool.and_eq_true, decide_eq_true_eq]; omega)])
        · rw [if_neg c0, if_pos (by decide)]
          exact hgo _ (by rw [hmb, if_neg (by unfold pmp; simp only [Bool.and_eq_true, decide_eq_true_eq]; exact fun q => c0 q.1)])
  exact key (c 2 3).toNat FU 0 (by omega) (FU_gt (by omega))
theorem papersBetween_X {μ : Mi} {i : Bool} {c : Co} {S L : List Nat} {pm : Nat} (P : Pr μ i c S L pm) (j h : Nat) (hj : (j : Int) < c 0 2) (hh : h ≤ 1000) : D_X4_papersBetween i (j : Int) (h : Int) μ = some ((pBt c pm j h : Nat) : Int) := by
  obtain ⟨hc, hw, hs, p1, p2, p3, p4, p5, p6⟩ := P
  have hpm := hs.pm_lt hw
  have hsz := hw.2.2.2.2.2.2.2.2.1
  have htr := hw.2.2.2.2.2.2.2.2.2
  have hnl := hw.2.1
  obtain ⟨-, -, -, -, la, -⟩ := hw.2.2.2.1 j hj
  have key : ∀ d n k : Nat, k + d = (c 2 3).toNat → d < n → B_X4_papersBetween_5 n i (j : Int) (h : Int) ((mb (pbp c pm j h) k : Nat) : Int) (k : Int) μ = some ((pBt c pm j h : Nat) : Int) := by
    intro d
    induction d with
    | zero =>
      intro n k hk hn
      obtain ⟨n, rfl⟩ : ∃ q, n = q + 1 := ⟨n - 1, by omega⟩
      rw [B_X4_papersBetween_5_s, F_X4_papersBetween_5, cm hc (r := 2) (by omega), wid (by omega) (by omega), wid (by omega) (by omega), if_pos (by omega), show k = (c 2 3).toNat by omega]
      rfl
    | succ d ih =>
      intro n k hk hn
      obtain ⟨n, rfl⟩ : ∃ q, n = q + 1 := ⟨n - 1, by omega⟩
      obtain ⟨t1, t2, t3, -⟩ := htr k (by omega)
      have hb : mb (pbp c pm j h) k < 2147483648 := Nat.lt_trans (mb_lt _ k) (two_lt (by omega))
      obtain ⟨dv, edv⟩ : ∃ dv, pm / 2 ^ k = dv := ⟨_, rfl⟩
      have hdv : dv ≤ pm := by rw [← edv]; exact Nat.div_le_self _ _
      have hgo : ∀ b : Nat, (b = mb (pbp c pm j h) (k + 1)) → B_X4_papersBetween_84 (B_X4_papersBetween_5 n) i (j : Int) (h : Int) (b : Int) (k : Int) μ = some ((pBt c pm j h : Nat) : Int) := by
        intro b e
        unfold B_X4_papersBetween_84
        rw [e, show (k : Int) + 1 = ((k + 1 : Nat) : Int) by omega]
        exact ih n (k + 1) (by omega) (by omega)
      have hmb : mb (pbp c pm j h) (k + 1) = if pbp c pm j h k then mb (pbp c pm j h) k ||| 2 ^ k else mb (pbp c pm j h) k := rfl
      rw [B_X4_papersBetween_5_s, F_X4_papersBetween_5, cm hc (r := 2) (by omega), wid (x := c 2 3) (by omega) (by omega), wid (x := (k : Int)) (by omega) (by omega), if_neg (by omega), p5, bit_n pm k (by omega) (by omega), ishr_n pm k (by omega) (by omega), edv, wid (x := (dv : Int)) (by omega) (by omega)]
      by_cases z : dv = 0
      · rw [if_pos (by omega)]
        have : mb (pbp c pm j h) (c 2 3).toNat = mb (pbp c pm j h) k := mb_stop _ _ _ (by omega) (fun q h1 _ => by unfold pbp; rw [pm_shift (edv.trans z) q h1]; rfl)
        unfold pBt
        rw [this]
      · rw [if_neg (by omega)]
        by_cases c0 : pm.testBit k = true
        · rw [if_pos c0, if_neg (by decide), ixn k (by omega), cm hc (r := 26) (by omega), wid (x := c 26 k) (by omega) (by omega), wid (x := (h : Int)) (by omega) (by omega), wid (x := (j : Int)) (by omega) (by omega), ixn j (by omega), ca hc (r := 16) (by omega), wid (x := (h : Int) + c 16 j) (by omega) (by omega)]
          have hbn : 0 ≤ (k : Int) ∧ (k : Int) < 8 := by omega
          have hbj : 0 ≤ (j : Int) ∧ (j : Int) < 16 := by omega
          simp only [if_pos hbn, if_pos hbj]
          by_cases c1 : c 26 k ≤ (h : Int)
          · rw [if_pos c1]
            exact hgo _ (by rw [hmb, if_neg (by unfold pbp; simp only [Bool.and_eq_true, decide_eq_true_eq]; omega)])
          · rw [if_neg c1]
            by_cases c2 : (h : Int) + c 16 j ≤ c 26 k
            · rw [if_pos c2]
              exact hgo _ (by rw [hmb, if_neg (by unfold pbp; simp only [Bool.and_eq_true, decide_eq_true_eq]; omega)])
            · rw [if_neg c2, or_bit _ k hb (by omega)]
              exact hgo _ (by rw [hmb, if_pos (by unfold pbp; simp only [Bool.and_eq_true, decide_eq_true_eq]; exact ⟨c0, by omega, by omega⟩)])
        · rw [if_neg c0, if_pos (by decide)]
          exact hgo _ (by rw [hmb, if_neg (by unfold pbp; simp only [Bool.and_eq_true, decide_eq_true_eq]; exact fun q => c0 q.1)])
  exact key (c 2 3).toNat FU 0 (by omega) (FU_gt (by omega))
