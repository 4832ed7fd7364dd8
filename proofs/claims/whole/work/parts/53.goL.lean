/-! PURE: the reference takes a link, or can't -/
/-- he can go by the link k from (h; l t s e): l hours slept, s stamps, looks e -/
abbrev GL (c : Co) (S L : List Nat) (pm k h l t s : Nat) : Prop := lvp c h k = true ∧ c 13 k = (t : Int) ∧ pBt c pm k h = 0 ∧ ¬ nK c h (h + (c 16 k).toNat) l < 0 ∧ ¬ nT c S k h s 0 < 0 ∧ pMs c pm (h + (c 16 k).toNat) (c 14 k).toNat = 0
theorem nK_bdS {c : Co} (hw : WF c) {h g l : Nat} (hh : h < g) : nK c h g (cp c l) < 0 ↔ bdS c h g l := by
  have hslp := hw.2.2.2.2.2.2.1
  unfold nK cp
  constructor
  · intro z
    split at z
    · omega
    · split at z
      · rename_i q1 q2
        rcases q2 with q2 | q2
        · exact Or.inl ⟨q2.1, by omega, by omega⟩
        · exact Or.inr q2
      · omega
  · intro z
    rw [if_neg, if_pos]
    · decide
    · rcases z with z | z
      · exact Or.inl ⟨z.1, by omega⟩
      · exact Or.inr z
    · rintro ⟨a, b⟩
      rcases z with z | z <;> omega
theorem goL_M {μ : Mi} {i : Bool} {c : Co} {S L : List Nat} {pm : Nat} (P : Pm μ i c S L pm) {k h t s e l g b : Nat} (hgg : (c 16 k).toNat = g) (hbb : (c 14 k).toNat = b) (hk : (k : Int) < c 0 2) (hh : (h : Int) < c 2 2) (ht : (t : Int) < c 0 1) (hs : s ≤ S.length) (he : e < 4) (hl : l ≤ 4) : ∃ m, D_X7_goes (h : Int) ((ms t s e l : Nat) : Int) (k : Int) μ = some (if GL c S L pm k h (cp c l) t s then ((ms b (nT c S k h s 0).toNat (e ||| sa c L (h + g) b) (if smN h (h + g) then l else 0) : Nat) : Int) else -1, m) ∧ (m = μ ∨ m = wr μ 7 false 44 ((h + g : Nat) : Int)) ∧ (GL c S L pm k h (cp c l) t s → m = wr μ 7 false 44 ((h + g : Nat) : Int)) := by
  have hw := P.2.1
  have hsk := P.2.2.1
  have hS6 := hsk.1
  have htw := hw.1
  have hnl := hw.2.1
  have hen := hw.2.2.2.2.2.2.2.1
  have hslp := hw.2.2.2.2.2.2.1
  have hm := mi_le i
  obtain ⟨⟨k1, k2⟩, ⟨k3, k4⟩, k5, k6, ⟨k7, k8⟩, k9, k10, k11, k12⟩ := hw.2.2.2.1 k hk
  obtain ⟨o1, o2, o3, o4, o5, o6, o7, o8⟩ := P.1.2.2.2.1 k hk
  obtain ⟨d1, d2, d3, d4⟩ := ms_dec (t := t) (s := s) (e := e) (l := l) (by omega) (by omega) he hl
  have hg : c 16 k = (g : Int) := by omega
  have hb : c 14 k = (b : Int) := by omega
  have e36 := P.2.2.2.1
  have e55 := P.1.2.2.2.2.1.2.2.1
  have f0 : D_X7_ofLink (k : Int) 0 μ = some (c 13 k) := by
    have := ofLink_M (μ := μ) k 0 (by omega) (by omega)
    rw [show ((0 : Nat) : Int) = 0 from rfl] at this
    rw [this]; exact congrArg some o1
  have f2 : D_X7_ofLink (k : Int) 2 μ = some (c 15 k) := by
    have := ofLink_M (μ := μ) k 2 (by omega) (by omega)
    rw [show ((2 : Nat) : Int) = 2 from rfl] at this
    rw [this, o3]
  have f5 : D_X7_ofLink (k : Int) 5 μ = some (c 18 k) := by
    have := ofLink_M (μ := μ) k 5 (by omega) (by omega)
    rw [show ((5 : Nat) : Int) = 5 from rfl] at this
    rw [this, o6]
  have f3 : D_X7_ofLink (k : Int) 3 μ = some (g : Int) := by
    have := ofLink_M (μ := μ) k 3 (by omega) (by omega)
    rw [show ((3 : Nat) : Int) = 3 from rfl] at this
    rw [this, o4, hg]
  have h24 : h % 24 < 24 := Nat.mod_lt _ (by omega)
  unfold D_X7_goes
  rw [wid (x := (k : Int)) (by omega) (by omega), if_pos (by omega), d1, d2, d3, d4]
  unfold B_X7_goes_38
  rw [if_neg (by decide), f0, bp_k, wid (x := c 13 k) (by omega) (by omega), wid (x := (t : Int)) (by omega) (by omega)]
  by_cases q1 : c 13 k = (t : Int)
  rotate_left
  · refine ⟨μ, ?_, Or.inl rfl, fun z => absurd z.2.1 q1⟩
    rw [if_pos q1, if_neg (fun z => q1 z.2.1)]
  rw [if_neg (by omega), f2, bp_k, f5, bp_k, wid (x := c 18 k) (by omega) (by omega), irem24 (by omega)]
  -- does it leave?
  have h80 : ∀ x : Int, 0 ≤ x → x ≤ 96 → x = (if c 18 k = 0 then (h : Int) else ((h % 24 : Nat) : Int)) → ∃ m, B_X7_goes_80 (h : Int) (k : Int) (l : Int) (e : Int) (s : Int) (t : Int) 0 x (c 15 k) μ = some (if GL c S L pm k h (cp c l) t s then ((ms b (nT c S k h s 0).toNat (e ||| sa c L (h + g) b) (if smN h (h + g) then l else 0) : Nat) : Int) else -1, m) ∧ (m = μ ∨ m = wr μ 7 false 44 ((h + g : Nat) : Int)) ∧ (GL c S L pm k h (cp c l) t s → m = wr μ 7 false 44 ((h + g : Nat) : Int)) := by
    intro x hx0 hx1 hx
    unfold B_X7_goes_80
    rw [wid (x := c 15 k) (by omega) (by omega), wid (x := x) (by omega) (by omega)]
    by_cases q2 : c 15 k = x
    rotate_left
    · have hno : ¬ GL c S L pm k h (cp c l) t s := by
        rintro ⟨z, -⟩
        unfold lvp at z
        simp only [decide_eq_true_eq] at z
        exact q2 (z.1.trans hx.symm)
      refine ⟨μ, ?_, Or.inl rfl, fun z => absurd z hno⟩
      rw [if_neg q2, if_neg hno]
    rw [if_pos q2]
    unfold B_X7_goes_85
    rw [if_pos (by decide), f3, bp_k]
    unfold B_X7_goes_105
    rw [e36, wid (x := (mi i : Int)) (by omega) (by omega), if_pos (by omega), ixn (mi i) (by omega), e55, wid (x := c 2 2) (by omega) (by omega), wid (x := (h : Int) + (g : Int)) (by omega) (by omega), show (h : Int) + (g : Int) = ((h + g : Nat) : Int) by omega]
    by_cases q3 : ((h + g : Nat) : Int) ≤ c 2 2
    rotate_left
    · have hno : ¬ GL c S L pm k h (cp c l) t s := by
        rintro ⟨z, -⟩
        unfold lvp at z
        simp only [decide_eq_true_eq] at z
        omega
      refine ⟨_, ?_, Or.inr rfl, fun z => absurd z hno⟩
      rw [if_neg q3, if_neg hno]
    have hlv : lvp c h k = true := by
      unfold lvp
      simp only [decide_eq_true_eq]
      exact ⟨q2.trans hx, by omega⟩
    have P' := Pm_w (v := ((h + g : Nat) : Int)) P
    have e44 : rd (wr μ 7 false 44 ((h + g : Nat) : Int)) 7 false 44 = ((h + g : Nat) : Int) := rd_s
    have f1 : D_X7_ofLink (k : Int) 1 (wr μ 7 false 44 ((h + g : Nat) : Int)) = some (c 14 k) := by
      have := ofLink_M (μ := wr μ 7 false 44 ((h + g : Nat) : Int)) k 1 (by omega) (by omega)
      rw [show ((1 : Nat) : Int) = 1 from rfl] at this
      rw [this, rdx (by omega), o2]
    refine ⟨wr μ 7 false 44 ((h + g : Nat) : Int), ?_, Or.inr rfl, fun _ => rfl⟩
    rw [if_pos q3, if_pos (by decide), f1, bp_k]
    unfold B_X7_goes_142
    -- behind the papers
    have hrest : pBt c pm k h = 0 → B_X7_goes_200 (h : Int) (l : Int) (e : Int) (s : Int) (t : Int) (c 14 k) (wr μ 7 false 44 ((h + g : Nat) : Int)) = some (if GL c S L pm k h (cp c l) t s then ((ms b (nT c S k h s 0).toNat (e ||| sa c L (h + g) b) (if smN h (h + g) then l else 0) : Nat) : Int) else -1, wr μ 7 false 44 ((h + g : Nat) : Int)) := by
      intro hpb
      obtain ⟨g1, g2, g3⟩ := goes_206 P' (h := h) (g := h + g) (l := l) (x5 := (e : Int)) (x6 := (s : Int)) (x7 := (t : Int)) (x9 := c 14 k) (by omega) (by omega) (by omega) e44
      by_cases bb : bdS c h (h + g) l
      · rw [g1 bb, if_neg]
        rintro ⟨-, -, -, z, -⟩
        rw [hgg] at z
        exact z ((nK_bdS hw (by omega)).mpr bb)
      · have hnk : ¬ nK c h (h + g) (cp c l) < 0 := fun z => bb ((nK_bdS hw (by omega)).mp z)
        have hfin : ∀ f : Int, (f = 0 ∨ f = 1) → (f = 0 ↔ ¬ smN h (h + g)) → B_X7_goes_302 (h : Int) (l : Int) (e : Int) (s : Int) (t : Int) (c 14 k) f (wr μ 7 false 44 ((h + g : Nat) : Int)) = some (if GL c S L pm k h (cp c l) t s then ((ms b (nT c S k h s 0).toNat (e ||| sa c L (h + g) b) (if smN h (h + g) then l else 0) : Nat) : Int) else -1, wr μ 7 false 44 ((h + g : Nat) : Int)) := by
          intro f hf hfs
          rw [stamps_M P' hk q1 hg hs (by omega) e44]
          by_cases q4 : nT c S k h s 0 < 0
          · rw [if_pos q4, if_neg (fun z => z.2.2.2.2.1 q4)]
          · obtain ⟨y, hy⟩ : ∃ y : Nat, nT c S k h s 0 = (y : Int) := ⟨(nT c S k h s 0).toNat, by omega⟩
            have hy6 := nT_le (c := c) (k := k) (h := h) hs (by omega : 0 ≤ nT c S k h s 0) (Or.inl rfl)
            rw [hy] at hy6
            have e376 : B_X7_goes_376 (l : Int) (e : Int) (nT c S k h s 0) (c 14 k) f (wr μ 7 false 44 ((h + g : Nat) : Int)) = some (if pMs c pm (h + g) b = 0 then ((ms b (nT c S k h s 0).toNat (e ||| sa c L (h + g) b) (if f = 0 then 0 else l) : Nat) : Int) else -1, wr μ 7 false 44 ((h + g : Nat) : Int)) := by
              rw [hb, hy]
              exact goes_376 P' hf e44 (by omega) (by omega) (by omega) he hl
            rw [if_neg q4, e376]
            have hfl : (if f = 0 then 0 else l) = (if smN h (h + g) then l else 0) := by
              by_cases q5 : smN h (h + g)
              · rw [if_pos q5, if_neg (fun z => (hfs.mp z) q5)]
              · rw [if_neg q5, if_pos (hfs.mpr q5)]
            rw [hfl]
            by_cases q6 : pMs c pm (h + g) b = 0
            · rw [if_pos q6, if_pos (⟨hlv, q1, hpb, by rw [hgg]; exact hnk, q4, by rw [hgg, hbb]; exact q6⟩ : GL c S L pm k h (cp c l) t s)]
            · rw [if_neg q6, if_neg (fun z => q6 (by have := z.2.2.2.2.2; rw [hgg, hbb] at this; exact this))]
        by_cases q5 : smN h (h + g)
        · rw [g2 bb q5]
          exact hfin 1 (Or.inr rfl) ⟨fun z => absurd z (by decide), fun z => absurd q5 z⟩
        · rw [g3 bb q5]
          exact hfin 0 (Or.inl rfl) ⟨fun _ => q5, fun _ => rfl⟩
    -- the papers between
    have key : ∀ d n x : Nat, x + d = h + g → h < x → d < n → (∀ y, h < y → y < x → rd μ 66 false y = -1) → B_X7_goes_149 n (h : Int) (l : Int) (e : Int) (s : Int) (t : Int) 0 (c 14 k) (x : Int) (wr μ 7 false 44 ((h + g : Nat) : Int)) = some (if GL c S L pm k h (cp c l) t s then ((ms b (nT c S k h s 0).toNat (e ||| sa c L (h + g) b) (if smN h (h + g) then l else 0) : Nat) : Int) else -1, wr μ 7 false 44 ((h + g : Nat) : Int)) := by
      intro d
      induction d with
      | zero =>
        intro n x hx hhx hn hall
        obtain ⟨n, rfl⟩ : ∃ q, n = q + 1 := ⟨n - 1, by omega⟩
        rw [B_X7_goes_149_s, F_X7_goes_149, e44, wid (x := ((h + g : Nat) : Int)) (by omega) (by omega), wid (x := (x : Int)) (by omega) (by omega), if_pos (by omega), if_pos (by decide)]
        refine hrest ((pBt_0 hsk).mpr fun q hq w => ?_)
        have h1 := hall (c 26 q).toNat (by omega) (by omega)
        have h2 := ((P.2.2.2.2.2.2.2.2 (c 26 q).toNat (by omega)).2.1.mp h1) q hq
        omega
      | succ d ih =>
        intro n x hx hhx hn hall
        obtain ⟨n, rfl⟩ : ∃ q, n = q + 1 := ⟨n - 1, by omega⟩
        have hpa := (P.2.2.2.2.2.2.2.2 x (by omega)).1
        rw [B_X7_goes_149_s, F_X7_goes_149, e44, wid (x := ((h + g : Nat) : Int)) (by omega) (by omega), wid (x := (x : Int)) (by omega) (by omega), if_neg (by omega), if_pos (by omega), ixn x (by omega), rdx (by omega), wid (x := rd μ 66 false x) (by omega) (by omega)]
        by_cases q4 : rd μ 66 false x = -1
        · rw [if_pos q4, show (x : Int) + 1 = ((x + 1 : Nat) : Int) by omega]
          exact ih n (x + 1) (by omega) (by omega) (by omega) (fun y h1 h2 => by
            by_cases z : y = x
            · rw [z]; exact q4
            · exact hall y h1 (by omega))
        · rw [if_neg q4, if_neg]
          rintro ⟨-, -, z, -⟩
          apply q4
          refine ((P.2.2.2.2.2.2.2.2 x (by omega)).2.1).mpr fun q hq w => ?_
          exact (pBt_0 hsk).mp z q hq ⟨by omega, by omega⟩
    have := key (g - 1) FU (h + 1) (by omega) (by omega) (FU_gt (by omega)) (fun y h1 h2 => by omega)
    rw [show ((h + 1 : Nat) : Int) = (h : Int) + 1 by omega] at this
    exact this
  by_cases q2 : c 18 k = 0
  · rw [if_pos (by omega)]
    exact h80 (h : Int) (by omega) (by omega) (by rw [if_pos q2])
  · rw [if_neg (by omega)]
    exact h80 _ (by omega) (by omega) (by rw [if_neg q2])
