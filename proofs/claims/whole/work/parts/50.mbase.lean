/-! PURE: the reference's search: what it reads -/
def stLc (c : Co) (a b : Nat) (w : Int) : Int := if c 11 a = c 11 b then -1 else if c 10 (c 11 a).toNat / w % 2 = 1 then c 11 a else -1
/-- the reference holds the same map and man -/
def MC (μ : Mi) (i : Bool) (c : Co) : Prop := rd μ 7 false 20 = c 0 2 ∧ (∀ k : Nat, (k : Int) < c 0 0 → rd μ 49 false k = c 10 k ∧ 0 ≤ c 10 k ∧ c 10 k ≤ 3) ∧ (∀ t : Nat, (t : Int) < c 0 1 → rd μ 50 false t = c 11 t ∧ rd μ 51 false t = c 12 t) ∧ (∀ k : Nat, (k : Int) < c 0 2 → rd μ 52 false (6 * k) = c 13 k ∧ rd μ 52 false (6 * k + 1) = c 14 k ∧ rd μ 52 false (6 * k + 2) = c 15 k ∧ rd μ 52 false (6 * k + 3) = c 16 k ∧ rd μ 52 false (6 * k + 4) = c 17 k ∧ rd μ 52 false (6 * k + 5) = c 18 k ∧ c 19 k = stLc c (c 13 k).toNat (c 14 k).toNat 2 ∧ c 20 k = stLc c (c 14 k).toNat (c 13 k).toNat 1) ∧ (rd μ 53 false (mi i) = c 2 0 ∧ rd μ 54 false (mi i) = c 2 1 ∧ rd μ 55 false (mi i) = c 2 2 ∧ rd μ 56 false (mi i) = c 2 3) ∧ ∀ t : Nat, (t : Int) < c 2 3 → rd μ 57 false (8 * mi i + t) = c 24 t ∧ rd μ 58 false (8 * mi i + t) = c 25 t ∧ rd μ 59 false (8 * mi i + t) = c 26 t ∧ rd μ 60 false (8 * mi i + t) = c 27 t ∧ rd μ 61 false (8 * mi i + t) = c 28 t ∧ rd μ 62 false (8 * mi i + t) = c 29 t
/-- the reference's sets stand for S, L, pm -/
def Pm (μ : Mi) (i : Bool) (c : Co) (S L : List Nat) (pm : Nat) : Prop := MC μ i c ∧ WF c ∧ Sk c S L pm ∧ rd μ 7 false 36 = (mi i : Int) ∧ rd μ 7 false 37 = ((S.length : Nat) : Int) ∧ (∀ q, q < S.length → rd μ 65 false q = ((8 * mi i + S.getD q 0 : Nat) : Int)) ∧ rd μ 7 false 40 = ((L.length : Nat) : Int) ∧ (∀ q, q < L.length → rd μ 67 false q = c 25 (L.getD q 0) ∧ rd μ 68 false q = c 26 (L.getD q 0) ∧ rd μ 69 false q = c 27 (L.getD q 0)) ∧ ∀ h, h ≤ 96 → (-1 ≤ rd μ 66 false h ∧ rd μ 66 false h ≤ 8) ∧ (rd μ 66 false h = -1 ↔ ∀ q, pm.testBit q = true → ¬ c 26 q = (h : Int)) ∧ ∀ t : Nat, t < 8 → ((rd μ 66 false h = -1 ∨ rd μ 66 false h = (t : Int)) ↔ pMs c pm h t = 0)
/-- a state of the reference -/
def ms (t s e l : Nat) : Nat := ((t * 7 + s) * 4 + e) * 5 + l
theorem ms_lt {t s e l : Nat} (h1 : t < 8) (h2 : s ≤ 6) (h3 : e < 4) (h4 : l ≤ 4) : ms t s e l < 1120 := by unfold ms; omega
theorem stateOf_M (t s e l : Nat) : D_X7_stateOf (t : Int) (s : Int) (e : Int) (l : Int) = ((ms t s e l : Nat) : Int) := by
  unfold D_X7_stateOf ms
  omega
theorem comesTo_M {μ : Mi} {i : Bool} {c : Co} {S L : List Nat} {pm : Nat} (P : Pm μ i c S L pm) {h t s e l : Nat} (hh : h ≤ 96) (ht : t < 8) (hs6 : s ≤ 6) (he : e < 4) (hl : l ≤ 4) : D_X7_comesTo (h : Int) (t : Int) (s : Int) (e : Int) (l : Int) μ = some (if pMs c pm h t = 0 then ((ms t s (e ||| sa c L h t) l : Nat) : Int) else -1) := by
  obtain ⟨hM, hw, hs, p1, p2, p3, p4, p5, p6⟩ := P
  have hL2 := hs.2.1
  have hsz := hw.2.2.2.2.2.2.2.2.1
  obtain ⟨a1, a2, a3⟩ := p6 h hh
  have a3t := a3 t ht
  have key : ∀ d n k : Nat, k + d = L.length → d < n → B_X7_comesTo_29 n (h : Int) (t : Int) (s : Int) (l : Int) ((e ||| mb (lkp c L h t) k : Nat) : Int) (k : Int) μ = some ((ms t s (e ||| sa c L h t) l : Nat) : Int) := by
    intro d
    induction d with
    | zero =>
      intro n k hk hn
      obtain ⟨n, rfl⟩ : ∃ q, n = q + 1 := ⟨n - 1, by omega⟩
      rw [B_X7_comesTo_29_s, F_X7_comesTo_29, p4, wid (x := ((L.length : Nat) : Int)) (by omega) (by omega), wid (x := (k : Int)) (by omega) (by omega), if_pos (by omega), stateOf_M, show k = L.length by omega]
      rfl
    | succ d ih =>
      intro n k hk hn
      obtain ⟨n, rfl⟩ : ∃ q, n = q + 1 := ⟨n - 1, by omega⟩
      obtain ⟨hq1, hq2⟩ := hs.2.2.2.1 k (by omega)
      obtain ⟨t1, t2, t3, -⟩ := hw.2.2.2.2.2.2.2.2.2 _ hq1
      obtain ⟨b1, b2, b3⟩ := p5 k (by omega)
      have hb : e ||| mb (lkp c L h t) k < 2147483648 := by
        have h1 : mb (lkp c L h t) k < 2 ^ 2 := Nat.lt_of_lt_of_le (mb_lt _ k) (Nat.pow_le_pow_right (by omega) (by omega))
        have := Nat.or_lt_two_pow (n := 2) (by omega : e < 2 ^ 2) h1
        omega
      have hgo : ∀ b : Nat, (b = e ||| mb (lkp c L h t) (k + 1)) → B_X7_comesTo_79 (B_X7_comesTo_29 n) (h : Int) (t : Int) (s : Int) (l : Int) (b : Int) (k : Int) μ = some ((ms t s (e ||| sa c L h t) l : Nat) : Int) := by
        intro b eq
        unfold B_X7_comesTo_79
        rw [eq, show (k : Int) + 1 = ((k + 1 : Nat) : Int) by omega]
        exact ih n (k + 1) (by omega) (by omega)
      have hmb : mb (lkp c L h t) (k + 1) = if lkp c L h t k then mb (lkp c L h t) k ||| 2 ^ k else mb (lkp c L h t) k := rfl
      have hkb : 0 ≤ (k : Int) ∧ (k : Int) < 2 := by omega
      rw [B_X7_comesTo_29_s, F_X7_comesTo_29, p4, wid (x := ((L.length : Nat) : Int)) (by omega) (by omega), wid (x := (k : Int)) (by omega) (by omega), if_neg (by omega), ixn k (by omega), b1, b2, b3, wid (x := c 25 (L.getD k 0)) (by omega) (by omega), wid (x := (t : Int)) (by omega) (by omega), in_eq (wid (by omega) (by omega)) (wid (by omega) (by omega)) (wid (by omega) (by omega))]
      simp only [if_pos hkb]
      by_cases c1 : c 25 (L.getD k 0) = (t : Int)
      · rw [if_neg (by omega)]
        by_cases c2 : c 26 (L.getD k 0) ≤ (h : Int) ∧ (h : Int) ≤ c 27 (L.getD k 0)
        · rw [if_neg (nb10 c2), or_bit _ k hb (by omega)]
          exact hgo _ (by rw [hmb, if_pos (by unfold lkp; simp only [decide_eq_true_eq]; exact ⟨c1, c2⟩), Nat.or_assoc])
        · rw [if_pos (yb10 c2)]
          exact hgo _ (by rw [hmb, if_neg (by unfold lkp; simp only [decide_eq_true_eq]; exact fun z => c2 z.2)])
      · rw [if_pos c1]
        exact hgo _ (by rw [hmb, if_neg (by unfold lkp; simp only [decide_eq_true_eq]; exact fun z => c1 z.1)])
  have h22 : B_X7_comesTo_22 (h : Int) (t : Int) (s : Int) (e : Int) (l : Int) μ = some ((ms t s (e ||| sa c L h t) l : Nat) : Int) := by
    unfold B_X7_comesTo_22
    have := key L.length FU 0 (by omega) (FU_gt (by omega))
    rw [show e ||| mb (lkp c L h t) 0 = e from Nat.or_zero e] at this
    exact this
  unfold D_X7_comesTo
  rw [wid (x := (h : Int)) (by omega) (by omega), if_pos (by omega), ixn h (by omega), wid (x := rd μ 66 false h) (by omega) (by omega), wid (x := (t : Int)) (by omega) (by omega)]
  by_cases q1 : rd μ 66 false h = -1
  · rw [if_pos q1, if_pos (a3t.mp (Or.inl q1)), h22]
  · rw [if_neg q1, if_pos (by omega)]
    by_cases q2 : rd μ 66 false h = (t : Int)
    · rw [if_pos q2, if_pos (a3t.mp (Or.inr q2)), h22]
    · rw [if_neg q2, if_neg (fun z => (a3t.mpr z).elim q1 q2)]
theorem floorDiv_M : ∀ n, n < 600 → D_J9_floorDiv_7cf53 (((n : Nat) : Int) - 100) 24 = some ((((n : Nat) : Int) - 100) / 24) := by decide +kernel
theorem stamped_M {μ : Mi} {i : Bool} {c : Co} {S L : List Nat} {pm : Nat} (P : Pm μ i c S L pm) {s land h t o : Nat} (hs : s ≤ S.length) (hl : (land : Int) < c 0 0) (ho : o ≤ 1) (hh : h ≤ 200) (ht : (t : Int) < c 0 1) : D_X7_stamped (s : Int) (land : Int) (o : Int) (h : Int) (t : Int) μ = some (if c 10 land / ((2 ^ o : Nat) : Int) % 2 = 1 then (if sF c S s (land : Int) (o : Int) (dayC c h t) then (s : Int) + 1 else -1) else (s : Int)) := by
  obtain ⟨hM, hw, hsk, p1, p2, p3, p4, p5, p6⟩ := P
  have hS6 := hsk.1
  have htw := hw.1
  have hld := hw.2.2.1
  have hm := mi_le i
  have hsz := hw.2.2.2.2.2.2.2.2.1
  obtain ⟨m1, m2, m3⟩ := hM.2.1 land hl
  obtain ⟨m4, m5⟩ := hM.2.2.1 t ht
  have hck := (hw.2.2.2.2.1 t ht).1
  obtain ⟨z, hz⟩ : ∃ z : Nat, c 10 land = (z : Int) := ⟨(c 10 land).toNat, by omega⟩
  have hday := dayC_rng hw ht (by omega : h ≤ 400)
  have hfl : D_J9_floorDiv_7cf53 ((h : Int) + c 12 t) 24 = some (dayC c h t) := by
    have e1 := floorDiv_M ((h : Int) + c 12 t + 100).toNat (by omega)
    rw [show ((((h : Int) + c 12 t + 100).toNat : Nat) : Int) - 100 = (h : Int) + c 12 t by omega] at e1
    rw [e1]
    congr 1
    unfold dayC
    omega
  have hbit : iand (ishr (z : Int) (o : Int)) 1 = if (z : Int) / ((2 ^ o : Nat) : Int) % 2 = 1 then 1 else 0 := by
    rw [bit_n z o (by omega) (by omega), Nat.testBit_eq_decide_div_mod_eq]
    by_cases q : z / 2 ^ o % 2 = 1
    · rw [if_pos (by simpa using q), if_pos (by rw [← Int.natCast_ediv]; omega)]
    · rw [if_neg (by simpa using q), if_neg (by rw [← Int.natCast_ediv]; omega)]
  unfold D_X7_stamped
  rw [wid (x := (land : Int)) (by omega) (by omega), if_pos (by omega), ixn land (by omega), m1, hz, hbit]
  by_cases q : (z : Int) / ((2 ^ o : Nat) : Int) % 2 = 1
  · rw [if_pos q, if_pos (by decide), if_pos q, wid (x := (t : Int)) (by omega) (by omega), if_pos (by omega), ixn t (by omega), m5, hfl, bp_k, wid (x := (s : Int)) (by omega) (by omega), p2, wid (x := ((S.length : Nat) : Int)) (by omega) (by omega)]
    by_cases q2 : s < S.length
    · have hq3 := hsk.2.2.1 s q2
      obtain ⟨t1, t2, t3, t4, t5, t6⟩ := hw.2.2.2.2.2.2.2.2.2 _ hq3
      obtain ⟨n1, n2, n3, n4, n5, n6⟩ := hM.2.2.2.2.2 _ hq3
      have hb16 : 0 ≤ ((8 * mi i + S.getD s 0 : Nat) : Int) ∧ ((8 * mi i + S.getD s 0 : Nat) : Int) < 16 := by omega
      rw [if_pos (by omega), if_pos (by omega), ixn s (by omega), p3 s q2, wid (x := ((8 * mi i + S.getD s 0 : Nat) : Int)) (by omega) (by omega), ixn _ (by omega), n2, n5, n3, n4, wid (x := c 25 (S.getD s 0)) (by omega) (by omega), wid (x := c 28 (S.getD s 0)) (by omega) (by omega), wid (x := (o : Int)) (by omega) (by omega), in_eq (wid (by omega) (by omega)) (wid (by omega) (by omega)) (wid (by omega) (by omega))]
      simp only [if_pos hb16]
      by_cases q4 : c 25 (S.getD s 0) = (land : Int)
      · rw [if_neg (by omega)]
        by_cases q5 : c 28 (S.getD s 0) = (o : Int)
        · rw [if_neg (by omega)]
          by_cases q6 : c 26 (S.getD s 0) ≤ dayC c h t ∧ dayC c h t ≤ c 27 (S.getD s 0)
          · rw [if_neg (nb10 q6), if_pos ⟨q2, q4, q5, q6⟩]
          · rw [if_pos (yb10 q6), if_neg (fun w => q6 w.2.2.2)]
        · rw [if_pos q5, if_neg (fun w => q5 w.2.2.1)]
      · rw [if_pos q4, if_neg (fun w => q4 w.2.1)]
    · rw [if_neg (by omega), if_neg (fun w => q2 w.1)]
  · rw [if_neg q, if_neg (by decide), if_neg q]
