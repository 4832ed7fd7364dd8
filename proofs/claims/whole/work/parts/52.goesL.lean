/-! PURE: a step of the reference by a link -/
theorem ofLink_M {μ : Mi} (k w : Nat) (hk : k < 16) (hw : w ≤ 5) : D_X7_ofLink (k : Int) (w : Int) μ = some (rd μ 52 false (6 * k + w)) := by
  unfold D_X7_ofLink
  rw [wid (x := 6 * (k : Int) + (w : Int)) (by omega) (by omega), if_pos (by omega), show 6 * (k : Int) + (w : Int) = ((6 * k + w : Nat) : Int) by omega, ixn _ (by omega)]
theorem pBt_0 {c : Co} {S L : List Nat} {pm k h : Nat} (hs : Sk c S L pm) : pBt c pm k h = 0 ↔ ∀ q, pm.testBit q = true → ¬ ((h : Int) < c 26 q ∧ c 26 q < (h : Int) + c 16 k) := by
  unfold pBt
  rw [mb_0]
  constructor
  · intro z q hq w
    have h1 := (hs.2.2.2.2 q hq).1
    have := z q (by omega)
    unfold pbp at this
    rw [hq] at this
    simp only [Bool.true_and, decide_eq_false_iff_not] at this
    exact this w
  · intro z q _
    unfold pbp
    cases hq : pm.testBit q with
    | false => rfl
    | true =>
      simp only [Bool.true_and, decide_eq_false_iff_not]
      exact z q hq
/-- the two stamps of a crossing, as the reference goes through them -/
theorem stamps_M {μ : Mi} {i : Bool} {c : Co} {S L : List Nat} {pm : Nat} (P : Pm μ i c S L pm) {k h s t g : Nat} (hk : (k : Int) < c 0 2) (ht : c 13 k = (t : Int)) (hg : c 16 k = (g : Int)) (hs : s ≤ S.length) (hh : h + g ≤ 96) (h44 : rd μ 7 false 44 = ((h + g : Nat) : Int)) {x4 x5 f : Int} : B_X7_goes_302 (h : Int) x4 x5 (s : Int) (t : Int) (c 14 k) f μ = if nT c S k h s 0 < 0 then some (-1, μ) else B_X7_goes_376 x4 x5 (nT c S k h s 0) (c 14 k) f μ := by
  have hw := P.2.1
  have hS6 := P.2.2.1.1
  have htw := hw.1
  have hld := hw.2.2.1
  obtain ⟨⟨k1, k2⟩, ⟨k3, k4⟩, -⟩ := hw.2.2.2.1 k hk
  obtain ⟨b, hb⟩ : ∃ b : Nat, c 14 k = (b : Int) := ⟨(c 14 k).toNat, by omega⟩
  obtain ⟨-, -, -, -, -, -, m7, m8⟩ := P.1.2.2.2.1 k hk
  have haa : (c 13 k).toNat = t := by omega
  have hbb : (c 14 k).toNat = b := by omega
  have hgg : (c 16 k).toNat = g := by omega
  rw [haa, hbb] at m7 m8
  obtain ⟨n1, n2⟩ := P.1.2.2.1 t (by omega)
  obtain ⟨n3, n4⟩ := P.1.2.2.1 b (by omega)
  obtain ⟨-, l1, l2⟩ := hw.2.2.2.2.1 t (by omega)
  obtain ⟨-, l3, l4⟩ := hw.2.2.2.2.1 b (by omega)
  obtain ⟨la, hla⟩ : ∃ la : Nat, c 11 t = (la : Int) := ⟨(c 11 t).toNat, by omega⟩
  obtain ⟨lb, hlb⟩ : ∃ lb : Nat, c 11 b = (lb : Int) := ⟨(c 11 b).toNat, by omega⟩
  unfold B_X7_goes_302
  rw [hb, wid (x := (b : Int)) (by omega) (by omega), if_pos (by omega), wid (x := (t : Int)) (by omega) (by omega), if_pos (by omega), ixn b (by omega), ixn t (by omega), n1, n3, wid (x := c 11 b) (by omega) (by omega), wid (x := c 11 t) (by omega) (by omega)]
  unfold stLc at m7 m8
  have hnT : nT c S k h s 0 = if (¬ c 19 k = -1 ∧ ¬ sF c S s (c 19 k) 1 (dayC c h t)) ∨ (¬ c 20 k = -1 ∧ ¬ sF c S ((s + if c 19 k = -1 then 0 else 1) + 0) (c 20 k) 0 (dayC c (h + g) b)) then -1 else (((s + if c 19 k = -1 then 0 else 1) + 0 + (if c 20 k = -1 then 0 else 1) : Nat) : Int) := by
    unfold nT
    rw [haa, hbb, hgg]
  by_cases q : c 11 b = c 11 t
  · rw [if_pos q.symm] at m7
    rw [if_pos q] at m8
    have e : nT c S k h s 0 = (s : Int) := by
      rw [hnT, if_neg (fun z => by rcases z with z | z; exact z.1 m7; exact z.1 m8), if_pos m7, if_pos m8]
      rfl
    rw [if_pos q, e, if_neg (by omega)]
  · rw [if_neg (fun z => q z.symm)] at m7
    rw [if_neg q] at m8
    rw [if_neg q, if_pos (by omega), hla]
    have hst1 := stamped_M P (s := s) (land := la) (h := h) (t := t) (o := 1) hs (by omega) (by omega) (by omega) (by omega)
    rw [show ((1 : Nat) : Int) = 1 from rfl, show ((2 ^ 1 : Nat) : Int) = 2 from rfl] at hst1
    rw [hst1, bp_k]
    have hst2 : ∀ s1 : Nat, s1 ≤ S.length → D_X7_stamped (s1 : Int) (lb : Int) 0 ((h + g : Nat) : Int) (b : Int) μ = some (if c 10 lb / 1 % 2 = 1 then (if sF c S s1 (lb : Int) 0 (dayC c (h + g) b) then (s1 : Int) + 1 else -1) else (s1 : Int)) := fun s1 h1 => by
      have := stamped_M P (s := s1) (land := lb) (h := h + g) (t := b) (o := 0) h1 (by omega) (by omega) (by omega) (by omega)
      rw [show ((0 : Nat) : Int) = 0 from rfl, show ((2 ^ 0 : Nat) : Int) = 1 from rfl] at this
      exact this
    rw [hla, show ((la : Int)).toNat = la by omega] at m7
    rw [hlb, show ((lb : Int)).toNat = lb by omega] at m8
    -- behind the first stamp
    have hmid : ∀ s1 : Nat, s1 ≤ S.length → s1 = s + (if c 19 k = -1 then 0 else 1) → (¬ c 19 k = -1 → sF c S s (c 19 k) 1 (dayC c h t)) → (if w32 (s1 : Int) = -1 then B_X7_goes_368 x4 x5 (s1 : Int) (b : Int) f μ else if 0 ≤ (b : Int) ∧ (b : Int) < 8 then bp (D_X7_stamped (s1 : Int) (c 11 b) 0 (rd μ 7 false 44) (b : Int) μ) fun r2 => B_X7_goes_368 x4 x5 r2 (b : Int) f μ else none) = if nT c S k h s 0 < 0 then some (-1, μ) else B_X7_goes_376 x4 x5 (nT c S k h s 0) (b : Int) f μ := by
      intro s1 hs1 he ho
      rw [wid (x := (s1 : Int)) (by omega) (by omega), if_neg (by omega), if_pos (by omega), h44, hlb, hst2 s1 hs1, bp_k]
      unfold B_X7_goes_368
      by_cases q2 : c 10 lb / 1 % 2 = 1
      · rw [if_pos q2] at m8
        rw [if_pos q2]
        by_cases q3 : sF c S s1 (lb : Int) 0 (dayC c (h + g) b)
        · have e : nT c S k h s 0 = (s1 : Int) + 1 := by
            rw [hnT, if_neg, if_neg (show ¬ c 20 k = -1 by omega), ← he]
            · omega
            · rintro (z | z)
              · exact z.2 (ho z.1)
              · rw [m8, ← he] at z
                exact z.2 q3
          rw [if_pos q3, e, wid (x := (s1 : Int) + 1) (by omega) (by omega), if_pos (by omega), if_neg (by omega)]
        · have e : nT c S k h s 0 = -1 := by
            rw [hnT, if_pos]
            refine Or.inr ⟨by omega, ?_⟩
            rw [m8, ← he]
            exact q3
          rw [if_neg q3, e, if_neg (by decide), if_pos (by decide)]
      · rw [if_neg q2] at m8
        have e : nT c S k h s 0 = (s1 : Int) := by
          rw [hnT, if_neg, if_pos m8, ← he]
          · rfl
          · rintro (z | z)
            · exact z.2 (ho z.1)
            · exact z.1 m8
        rw [if_neg q2, e, wid (x := (s1 : Int)) (by omega) (by omega), if_pos (by omega), if_neg (by omega)]
    by_cases q2 : c 10 la / 2 % 2 = 1
    · rw [if_pos q2] at m7
      rw [if_pos q2]
      by_cases q3 : sF c S s (la : Int) 1 (dayC c h t)
      · rw [if_pos q3]
        have h1 := q3.1
        have := hmid (s + 1) (by omega) (by rw [if_neg (by omega)]) (fun _ => by rw [m7]; exact q3)
        rw [show ((s + 1 : Nat) : Int) = (s : Int) + 1 by omega] at this
        exact this
      · rw [if_neg q3, if_pos (by decide)]
        unfold B_X7_goes_368
        have e : nT c S k h s 0 = -1 := by
          rw [hnT, if_pos]
          refine Or.inl ⟨by omega, ?_⟩
          rw [m7]
          exact q3
        rw [if_neg (by decide), e, if_pos (by decide)]
    · rw [if_neg q2] at m7
      rw [if_neg q2]
      exact hmid s hs (by rw [if_pos m7]; rfl) (fun z => absurd m7 z)
