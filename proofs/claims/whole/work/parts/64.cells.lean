/-! PURE: the class goes forward: cells and moves -/
abbrev sc (c : Co) (k k' : Nat) : Prop := cp c (k % 5) = cp c (k' % 5) ∧ k / 140 = k' / 140 ∧ k / 20 % 7 = k' / 20 % 7 ∧ k / 5 % 4 = k' / 5 % 4
theorem sc.tm {c : Co} {k k' h : Nat} {T : Tb} (s : sc c k k') : Tm c T h k = Tm c T h k' := by
  obtain ⟨a, b, d, e⟩ := s
  unfold Tm
  rw [a, b, d, e]
theorem stay_cell {c : Co} {S L : List Nat} {pm h k : Nat} (hw : WF c) (hs : Sk c S L pm) (v : VM c S L h k) (q1 : ¬ nS c h (cp c (k % 5)) < 0) {k' : Nat} (hk : k' = ms (k / 140) (k / 20 % 7) (k / 5 % 4 ||| sa c L (h + 1) (k / 140)) (if h % 24 < 7 then min 4 (k % 5 + 1) else 0)) : cp c (k' % 5) = (nS c h (cp c (k % 5))).toNat ∧ k' / 140 = k / 140 ∧ k' / 20 % 7 = k / 20 % 7 ∧ k' / 5 % 4 = k / 5 % 4 ||| sa c L (h + 1) (k / 140) := by
  have hslp := hw.2.2.2.2.2.2.1
  obtain ⟨v0, v1, v2, v3, v4⟩ := v
  have hl : (if h % 24 < 7 then min 4 (k % 5 + 1) else 0) ≤ 4 := by split <;> omega
  have he : k / 5 % 4 ||| sa c L (h + 1) (k / 140) < 4 := or_lt4 (by omega) (sa_lt hs)
  obtain ⟨p1, p2, p3, p4⟩ := ms_parts (t := k / 140) (s := k / 20 % 7) (e := k / 5 % 4 ||| sa c L (h + 1) (k / 140)) (l := if h % 24 < 7 then min 4 (k % 5 + 1) else 0) (by omega) he hl
  rw [← hk] at p1 p2 p3 p4
  refine ⟨?_, p1, p2, p3⟩
  rw [p4]
  unfold cp nS at *
  split at v4
  · rename_i z8
    rw [if_pos z8] at q1 ⊢
    by_cases q7 : h % 24 = 7
    · rw [if_pos q7] at q1 ⊢
      rw [if_neg (by omega)]
      split at q1
      · rename_i w; rw [if_pos w]; omega
      · omega
    · rw [if_neg q7] at q1 ⊢
      rw [if_pos (by omega)]
      omega
  · rename_i z8
    rw [if_neg z8] at q1 ⊢
    rw [if_neg (by omega)]
    omega
theorem link_cell {c : Co} {S L : List Nat} {pm h k n : Nat} (hw : WF c) (hs : Sk c S L pm) (v : VM c S L h k) (q2 : ¬ (nK c h (h + (c 16 n).toNat) (cp c (k % 5)) < 0 ∨ nT c S n h (k / 20 % 7) 0 < 0)) {k' : Nat} (hk : k' = ms (c 14 n).toNat (nT c S n h (k / 20 % 7) 0).toNat (k / 5 % 4 ||| sa c L (h + (c 16 n).toNat) (c 14 n).toNat) (if smN h (h + (c 16 n).toNat) then k % 5 else 0)) : cp c (k' % 5) = (nK c h (h + (c 16 n).toNat) (cp c (k % 5))).toNat ∧ k' / 140 = (c 14 n).toNat ∧ k' / 20 % 7 = (nT c S n h (k / 20 % 7) 0).toNat ∧ k' / 5 % 4 = k / 5 % 4 ||| sa c L (h + (c 16 n).toNat) (c 14 n).toNat := by
  have hslp := hw.2.2.2.2.2.2.1
  have hS6 := hs.1
  obtain ⟨v0, v1, v2, v3, v4⟩ := v
  have hl : (if smN h (h + (c 16 n).toNat) then k % 5 else 0) ≤ 4 := by split <;> omega
  have he : k / 5 % 4 ||| sa c L (h + (c 16 n).toNat) (c 14 n).toNat < 4 := or_lt4 (by omega) (sa_lt hs)
  have hn6 := nT_le (c := c) (k := n) (h := h) v2 (by omega : 0 ≤ nT c S n h (k / 20 % 7) 0) (Or.inl rfl)
  obtain ⟨p1, p2, p3, p4⟩ := ms_parts (t := (c 14 n).toNat) (s := (nT c S n h (k / 20 % 7) 0).toNat) (e := k / 5 % 4 ||| sa c L (h + (c 16 n).toNat) (c 14 n).toNat) (l := if smN h (h + (c 16 n).toNat) then k % 5 else 0) (by omega) he hl
  rw [← hk] at p1 p2 p3 p4
  refine ⟨?_, p1, p2, p3⟩
  rw [p4]
  have q2' := q2
  unfold nK at q2' ⊢
  by_cases q5 : smN h (h + (c 16 n).toNat)
  · rw [if_pos q5, if_pos q5]; rfl
  · rw [if_neg q5, if_neg q5]
    rw [if_neg q5] at q2'
    rw [cp_0 hw]
    split at q2'
    · omega
    · rename_i w; rw [if_neg w]; rfl
/-- one cell, one move -/
theorem mG_sc {c : Co} {S L : List Nat} {pm h k k2 j g k1 : Nat} (hw : WF c) (hs : Sk c S L pm) (v : VM c S L h k) (v2 : VM c S L h k2) (s : sc c k k2) (q : mG c S L pm h k j = some (g, k1)) : ∃ k3, mG c S L pm h k2 j = some (g, k3) ∧ sc c k1 k3 := by
  obtain ⟨e1, e2, e3, e4⟩ := s
  cases j with
  | zero =>
    rw [mG] at q
    by_cases z : nS c h (cp c (k % 5)) < 0 ∨ ¬ pMs c pm (h + 1) (k / 140) = 0
    · rw [if_pos z] at q; cases q
    · rw [if_neg z] at q
      have hg : g = h + 1 ∧ k1 = ms (k / 140) (k / 20 % 7) (k / 5 % 4 ||| sa c L (h + 1) (k / 140)) (if h % 24 < 7 then min 4 (k % 5 + 1) else 0) := by
        cases q; exact ⟨rfl, rfl⟩
      have a := stay_cell hw hs v (fun w => z (Or.inl w)) hg.2
      obtain ⟨k3, h3⟩ : ∃ x, x = ms (k2 / 140) (k2 / 20 % 7) (k2 / 5 % 4 ||| sa c L (h + 1) (k2 / 140)) (if h % 24 < 7 then min 4 (k2 % 5 + 1) else 0) := ⟨_, rfl⟩
      have b := stay_cell hw hs v2 (by rw [← e1]; exact fun w => z (Or.inl w)) h3
      refine ⟨k3, ?_, ?_⟩
      · rw [mG, if_neg (show ¬ (nS c h (cp c (k2 % 5)) < 0 ∨ ¬ pMs c pm (h + 1) (k2 / 140) = 0) by rw [← e1, ← e2]; exact z), hg.1, h3]
      · exact ⟨by rw [a.1, b.1, e1], by rw [a.2.1, b.2.1, e2], by rw [a.2.2.1, b.2.2.1, e3], by rw [a.2.2.2, b.2.2.2, e4, e2]⟩
  | succ n =>
    rw [mG] at q
    by_cases z : GL c S L pm n h (cp c (k % 5)) (k / 140) (k / 20 % 7)
    · rw [if_pos z] at q
      have hg : g = h + (c 16 n).toNat ∧ k1 = ms (c 14 n).toNat (nT c S n h (k / 20 % 7) 0).toNat (k / 5 % 4 ||| sa c L (h + (c 16 n).toNat) (c 14 n).toNat) (if smN h (h + (c 16 n).toNat) then k % 5 else 0) := by
        cases q; exact ⟨rfl, rfl⟩
      have hno : ¬ (nK c h (h + (c 16 n).toNat) (cp c (k % 5)) < 0 ∨ nT c S n h (k / 20 % 7) 0 < 0) := fun w => w.elim z.2.2.2.1 z.2.2.2.2.1
      have a := link_cell hw hs v hno hg.2
      obtain ⟨k3, h3⟩ : ∃ x, x = ms (c 14 n).toNat (nT c S n h (k2 / 20 % 7) 0).toNat (k2 / 5 % 4 ||| sa c L (h + (c 16 n).toNat) (c 14 n).toNat) (if smN h (h + (c 16 n).toNat) then k2 % 5 else 0) := ⟨_, rfl⟩
      have b := link_cell hw hs v2 (by rw [← e1, ← e3]; exact hno) h3
      refine ⟨k3, ?_, ?_⟩
      · rw [mG, if_pos (show GL c S L pm n h (cp c (k2 % 5)) (k2 / 140) (k2 / 20 % 7) by rw [← e1, ← e2, ← e3]; exact z), hg.1, h3]
      · exact ⟨by rw [a.1, b.1, e1], by rw [a.2.1, b.2.1], by rw [a.2.2.1, b.2.2.1, e3], by rw [a.2.2.2, b.2.2.2, e4]⟩
    · rw [if_neg z] at q; cases q
theorem or30 {y : Nat} (h : y < 2147483648) : 1073741824 ≤ y ||| 1073741824 ∧ y ||| 1073741824 < 2147483648 := by
  constructor
  · refine Nat.le_of_not_lt fun z => ?_
    have h1 := Nat.testBit_lt_two_pow (i := 30) (show y ||| 1073741824 < 2 ^ 30 from z)
    rw [Nat.testBit_or, show (1073741824 : Nat) = 2 ^ 30 from rfl, Nat.testBit_two_pow_self, Bool.or_true] at h1
    cases h1
  · exact Nat.or_lt_two_pow (n := 31) h (by decide)
theorem reach_X {μ : Mi} {i : Bool} {c : Co} {S L : List Nat} {pm : Nat} (P : Pr μ i c S L pm) {g l t s e : Nat} (hg : g ≤ 96) (v : Vd c S L g l t s e) (hb : -1 ≤ tb μ g l t s e ∧ tb μ g l t s e ≤ 2147483647) : D_X4_reach i (g : Int) ((mk4 l t s e : Nat) : Int) μ = some (if 0 ≤ tb μ g l t s e then (1, wr μ 32 false (pT g l t s e) (((tb μ g l t s e).toNat ||| 1073741824 : Nat) : Int)) else (0, μ)) := by
  have hw := P.2.1
  have hs := P.2.2.1
  obtain ⟨a1, a2, a3⟩ := tab_X (μ := μ) hw hs hg v
  have h4 := mk4_lt (v.vs hw hs)
  unfold D_X4_reach
  rw [wid (x := ((mk4 l t s e : Nat) : Int)) (by omega) (by omega), if_neg (by omega), a1, if_pos a2, if_pos a2, if_pos a2, a3, show rd μ 32 false (pT g l t s e) = tb μ g l t s e from rfl, wid (x := tb μ g l t s e) (by omega) (by omega)]
  by_cases z : 0 ≤ tb μ g l t s e
  · rw [if_pos z, if_pos z]
    obtain ⟨y, hy⟩ : ∃ y : Nat, tb μ g l t s e = (y : Int) := ⟨(tb μ g l t s e).toNat, by omega⟩
    rw [hy, show (1073741824 : Int) = ((1073741824 : Nat) : Int) from rfl, ior_n y _ (by omega) (by omega)]
    rfl
  · rw [if_neg z, if_neg z]
