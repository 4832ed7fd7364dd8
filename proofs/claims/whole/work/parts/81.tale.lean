/-! PURE: tale, the class's side -/
theorem vj_stay {aim : Nat} {c : Co} {S L : List Nat} {pm : Nat} {T : Tb} (ha : aim ≤ 4) (hw : WF c) (hs : Sk c S L pm) (D : DP aim c S L pm T) {h k : Nat} (hh : (h : Int) < c 2 2) (v : VM c S L h k) : (if nS c h (cp c (k % 5)) < 0 then -1 else T (h + 1) (nS c h (cp c (k % 5))).toNat (k / 140) (k / 20 % 7) (k / 5 % 4 ||| sa c L (h + 1) (k / 140))) = vj aim c S L pm T h k 0 := by
  have vd := v.vd hw hs
  have hslp := hw.2.2.2.2.2.2.1
  obtain ⟨v0, v1, v2, v3, v4⟩ := v
  have hL2 := pow_L hs.2.1
  have hS6 := hs.1
  have htw := hw.1
  unfold vj
  rw [mG]
  by_cases q1 : nS c h (cp c (k % 5)) < 0
  · rw [if_pos q1, if_pos (Or.inl q1)]
  · have vd' := nS_Vd (pm := pm) hw vd (by omega)
    rw [if_neg q1]
    by_cases q2 : pMs c pm (h + 1) (k / 140) = 0
    · rw [if_neg (show ¬ (nS c h (cp c (k % 5)) < 0 ∨ ¬ pMs c pm (h + 1) (k / 140) = 0) from fun z => z.elim q1 (fun z => z q2))]
      have hl : (if h % 24 < 7 then min 4 (k % 5 + 1) else 0) ≤ 4 := by split <;> omega
      have he : k / 5 % 4 ||| sa c L (h + 1) (k / 140) < 4 := or_lt4 (by omega) (sa_lt hs)
      obtain ⟨p1, p2, p3, p4⟩ := ms_parts (t := k / 140) (s := k / 20 % 7) (e := k / 5 % 4 ||| sa c L (h + 1) (k / 140)) (l := if h % 24 < 7 then min 4 (k % 5 + 1) else 0) (by omega) he hl
      have ecp : cp c (if h % 24 < 7 then min 4 (k % 5 + 1) else 0) = (nS c h (cp c (k % 5))).toNat := by
        unfold cp nS at *
        split at v4
        · rename_i z8
          rw [if_pos z8] at q1 ⊢
          by_cases q7 : h % 24 = 7
          · rw [if_pos q7] at q1 ⊢
            rw [if_neg (by omega)]
            split at q1
            · rename_i w; rw [if_pos w]; omega
            · omega
          · rw [if_neg q7] at q1 ⊢
            rw [if_pos (by omega)]
            omega
        · rename_i z8
          rw [if_neg z8] at q1 ⊢
          rw [if_neg (by omega)]
          omega
      have eT : Tm c T (h + 1) (ms (k / 140) (k / 20 % 7) (k / 5 % 4 ||| sa c L (h + 1) (k / 140)) (if h % 24 < 7 then min 4 (k % 5 + 1) else 0)) = T (h + 1) (nS c h (cp c (k % 5))).toNat (k / 140) (k / 20 % 7) (k / 5 % 4 ||| sa c L (h + 1) (k / 140)) := by
        unfold Tm
        rw [p1, p2, p3, p4, ecp]
      have hb := (D (h + 1) _ _ _ _ (by omega) vd').2
      have hw0 : wj aim c 0 = 0 := rfl
      simp only [eT, hw0]
      split
      · omega
      · omega
    · rw [if_pos (Or.inr q2)]
      exact T_miss ha D (by omega) vd' q2
theorem vj_link {aim : Nat} {c : Co} {S L : List Nat} {pm : Nat} {T : Tb} (ha : aim ≤ 4) (hw : WF c) (hs : Sk c S L pm) (D : DP aim c S L pm T) {h k n : Nat} (hh : (h : Int) < c 2 2) (v : VM c S L h k) (hk : (n : Int) < c 0 2) : vj aim c S L pm T h k (n + 1) = if lvp c h n = true ∧ c 13 n = ((k / 140 : Nat) : Int) then bL aim c S L pm T n h (cp c (k % 5)) (k / 20 % 7) (k / 5 % 4) else -1 := by
  have vd := v.vd hw hs
  have hnl := hw.2.1
  have hslp := hw.2.2.2.2.2.2.1
  have hen := hw.2.2.2.2.2.2.2.1
  obtain ⟨v0, v1, v2, v3, v4⟩ := v
  have hL2 := pow_L hs.2.1
  have hS6 := hs.1
  have htw := hw.1
  unfold vj
  rw [mG]
  have hnP : nP aim c S n (k / 20 % 7) = 1 := by unfold nP; rw [if_neg (by omega)]
  have ebs : bsT aim c S L pm T n h (cp c (k % 5)) (k / 20 % 7) (k / 5 % 4) 1 = if nK c h (h + (c 16 n).toNat) (cp c (k % 5)) < 0 ∨ nT c S n h (k / 20 % 7) 0 < 0 then -1 else jn aim (-1) (chg aim (T (h + (c 16 n).toNat) (nK c h (h + (c 16 n).toNat) (cp c (k % 5))).toNat (c 14 n).toNat (nT c S n h (k / 20 % 7) 0).toNat (k / 5 % 4 ||| sa c L (h + (c 16 n).toNat) (c 14 n).toNat)) (pBt c pm n h)) := rfl
  by_cases q1 : lvp c h n = true ∧ c 13 n = ((k / 140 : Nat) : Int)
  · rw [if_pos q1]
    have hc := can_h (t := k / 140) hw hk q1.1
    unfold bL
    rw [hnP, ebs]
    by_cases q2 : nK c h (h + (c 16 n).toNat) (cp c (k % 5)) < 0 ∨ nT c S n h (k / 20 % 7) 0 < 0
    · have hng : ¬ GL c S L pm n h (cp c (k % 5)) (k / 140) (k / 20 % 7) := fun z => q2.elim z.2.2.2.1 z.2.2.2.2.1
      simp only [if_neg hng]
      rw [if_pos q2, if_pos (by decide)]
    · have vd' := arr_Vd (pm := pm) hw hk vd q2 (Or.inl rfl)
      have hb := (D (h + (c 16 n).toNat) _ _ _ _ (by omega) vd').2
      obtain ⟨-, ⟨k3, k4⟩, -, -, -, k9, -⟩ := hw.2.2.2.1 n hk
      have hwt : 0 ≤ wtA aim c n := by unfold wtA; repeat' split <;> omega
      rw [if_neg q2]
      by_cases q3 : pBt c pm n h = 0
      · have ech : ∀ x : Int, chg aim x (pBt c pm n h) = x := fun x => by unfold chg; rw [if_pos (Or.inr q3)]
        rw [ech, jn_m1 hb.1]
        by_cases q4 : pMs c pm (h + (c 16 n).toNat) (c 14 n).toNat = 0
        · rw [if_pos (⟨q1.1, q1.2, q3, fun z => q2 (Or.inl z), fun z => q2 (Or.inr z), q4⟩ : GL c S L pm n h (cp c (k % 5)) (k / 140) (k / 20 % 7))]
          have hl : (if smN h (h + (c 16 n).toNat) then k % 5 else 0) ≤ 4 := by split <;> omega
          have he : k / 5 % 4 ||| sa c L (h + (c 16 n).toNat) (c 14 n).toNat < 4 := or_lt4 (by omega) (sa_lt hs)
          have hn6 := nT_le (c := c) (k := n) (h := h) v2 (by omega : 0 ≤ nT c S n h (k / 20 % 7) 0) (Or.inl rfl)
          obtain ⟨p1, p2, p3, p4⟩ := ms_parts (t := (c 14 n).toNat) (s := (nT c S n h (k / 20 % 7) 0).toNat) (e := k / 5 % 4 ||| sa c L (h + (c 16 n).toNat) (c 14 n).toNat) (l := if smN h (h + (c 16 n).toNat) then k % 5 else 0) (by omega) he hl
          have ecp : cp c (if smN h (h + (c 16 n).toNat) then k % 5 else 0) = (nK c h (h + (c 16 n).toNat) (cp c (k % 5))).toNat := by
            have q2' := q2
            unfold nK at q2' ⊢
            by_cases q5 : smN h (h + (c 16 n).toNat)
            · rw [if_pos q5, if_pos q5]; rfl
            · rw [if_neg q5, if_neg q5]
              rw [if_neg q5] at q2'
              split at q2'
              · exact absurd (Or.inl (by decide)) q2'
              · rename_i w; rw [if_neg w]; unfold cp; omega
          have eT : Tm c T (h + (c 16 n).toNat) (ms (c 14 n).toNat (nT c S n h (k / 20 % 7) 0).toNat (k / 5 % 4 ||| sa c L (h + (c 16 n).toNat) (c 14 n).toNat) (if smN h (h + (c 16 n).toNat) then k % 5 else 0)) = T (h + (c 16 n).toNat) (nK c h (h + (c 16 n).toNat) (cp c (k % 5))).toNat (c 14 n).toNat (nT c S n h (k / 20 % 7) 0).toNat (k / 5 % 4 ||| sa c L (h + (c 16 n).toNat) (c 14 n).toNat) := by
            unfold Tm
            rw [p1, p2, p3, p4, ecp]
          have hw1 : wj aim c (n + 1) = wtA aim c n := rfl
          simp only [eT, hw1]
        · have hng : ¬ GL c S L pm n h (cp c (k % 5)) (k / 140) (k / 20 % 7) := fun z => q4 z.2.2.2.2.2
          simp only [if_neg hng]
          rw [T_miss ha D (by omega) vd' q4, if_pos (by decide)]
      · have ech : ∀ x : Int, -1 ≤ x → chg aim x (pBt c pm n h) = -1 := fun x hx => by
          unfold chg
          by_cases z : x < 0
          · rw [if_pos (Or.inl z)]; omega
          · rw [if_neg (fun w => w.elim z q3), if_neg (by omega)]
        have hng : ¬ GL c S L pm n h (cp c (k % 5)) (k / 140) (k / 20 % 7) := fun z => q3 z.2.2.1
        simp only [if_neg hng]
        rw [ech _ hb.1, jn_m1 (by omega), if_pos (by decide)]
  · have hng : ¬ GL c S L pm n h (cp c (k % 5)) (k / 140) (k / 20 % 7) := fun z => q1 ⟨z.1, z.2.1⟩
    simp only [if_neg hng]
    rw [if_neg q1]
