/-! PURE: a step of the reference -/
theorem Pm_w {μ : Mi} {i : Bool} {c : Co} {S L : List Nat} {pm : Nat} {v : Int} (P : Pm μ i c S L pm) : Pm (wr μ 7 false 44 v) i c S L pm := by
  obtain ⟨⟨a1, a2, a3, a4, a5, a6⟩, hw, hs, p1, p2, p3, p4, p5, p6⟩ := P
  refine ⟨⟨?_, ?_, ?_, ?_, ?_, ?_⟩, hw, hs, ?_, ?_, ?_, ?_, ?_, ?_⟩
  · rw [rdx (by omega)]; exact a1
  · intro k hk; rw [rdx (by omega)]; exact a2 k hk
  · intro k hk; rw [rdx (by omega), rdx (by omega)]; exact a3 k hk
  · intro k hk; simp (disch := omega) only [rdx]; exact a4 k hk
  · simp (disch := omega) only [rdx]; exact a5
  · intro k hk; simp (disch := omega) only [rdx]; exact a6 k hk
  · rw [rdx (by omega)]; exact p1
  · rw [rdx (by omega)]; exact p2
  · intro k hk; rw [rdx (by omega)]; exact p3 k hk
  · rw [rdx (by omega)]; exact p4
  · intro k hk; simp (disch := omega) only [rdx]; exact p5 k hk
  · intro k hk; simp (disch := omega) only [rdx]; exact p6 k hk
/-- too little sleep between h and g, of l hours slept in h's night -/
abbrev bdS (c : Co) (h g l : Nat) : Prop := (h % 24 < 8 ∧ h - h % 24 + 8 ≤ g ∧ (l : Int) < c 2 1) ∨ (0 < c 2 1 ∧ h - h % 24 + 32 ≤ g)
abbrev smN (h g : Nat) : Prop := h % 24 < 8 ∧ g < h - h % 24 + 8
theorem goes_206 {μ : Mi} {i : Bool} {c : Co} {S L : List Nat} {pm : Nat} (P : Pm μ i c S L pm) {h g l : Nat} {x5 x6 x7 x9 : Int} (hh : h < g) (hg : g ≤ 96) (hl : l ≤ 5) (h44 : rd μ 7 false 44 = (g : Int)) : (bdS c h g l → B_X7_goes_200 (h : Int) (l : Int) x5 x6 x7 x9 μ = some (-1, μ)) ∧ (¬ bdS c h g l → smN h g → B_X7_goes_200 (h : Int) (l : Int) x5 x6 x7 x9 μ = B_X7_goes_302 (h : Int) (l : Int) x5 x6 x7 x9 1 μ) ∧ (¬ bdS c h g l → ¬ smN h g → B_X7_goes_200 (h : Int) (l : Int) x5 x6 x7 x9 μ = B_X7_goes_302 (h : Int) (l : Int) x5 x6 x7 x9 0 μ) := by
  have hw := P.2.1
  have hslp := hw.2.2.2.2.2.2.1
  have hm := mi_le i
  have e36 := P.2.2.2.1
  have e54 := P.1.2.2.2.2.1.2.1
  have hstep : ∀ (d n : Nat), d ≤ 100 → B_X7_goes_206 (n + 1) (h : Int) (l : Int) x5 x6 x7 x9 (d : Int) μ = if g < 24 * d + 8 then (if smN h g then B_X7_goes_302 (h : Int) (l : Int) x5 x6 x7 x9 1 μ else B_X7_goes_302 (h : Int) (l : Int) x5 x6 x7 x9 0 μ) else if h < 24 * d + 8 then (if c 2 1 ≤ (if d = h / 24 then (l : Int) else 0) then B_X7_goes_206 n (h : Int) (l : Int) x5 x6 x7 x9 ((d + 1 : Nat) : Int) μ else some (-1, μ)) else B_X7_goes_206 n (h : Int) (l : Int) x5 x6 x7 x9 ((d + 1 : Nat) : Int) μ := by
    intro d n hd
    have e251 : ∀ z : Int, 0 ≤ z → z ≤ 5 → B_X7_goes_251 (B_X7_goes_206 n) (h : Int) (l : Int) x5 x6 x7 x9 (d : Int) z μ = if c 2 1 ≤ z then B_X7_goes_206 n (h : Int) (l : Int) x5 x6 x7 x9 ((d + 1 : Nat) : Int) μ else some (-1, μ) := by
      intro z h0 h5
      unfold B_X7_goes_251 B_X7_goes_265
      rw [e36, wid (x := (mi i : Int)) (by omega) (by omega), if_pos (by omega), ixn (mi i) (by omega), e54, wid (x := c 2 1) (by omega) (by omega), wid (x := z) (by omega) (by omega), show (d : Int) + 1 = ((d + 1 : Nat) : Int) by omega]
    rw [B_X7_goes_206_s, F_X7_goes_206, h44, wid (x := (g : Int)) (by omega) (by omega), wid (x := 24 * (d : Int) + 8) (by omega) (by omega), idiv24 (by omega), idiv24 (by omega), irem24 (by omega), wid (x := ((g / 24 : Nat) : Int)) (by omega) (by omega), wid (x := ((h / 24 : Nat) : Int)) (by omega) (by omega), wid (x := ((g % 24 : Nat) : Int)) (by omega) (by omega), wid (x := (h : Int)) (by omega) (by omega), wid (x := (d : Int)) (by omega) (by omega), e251 0 (by omega) (by omega), e251 (l : Int) (by omega) (by omega)]
    unfold B_X7_goes_301 B_X7_goes_265
    rw [show (d : Int) + 1 = ((d + 1 : Nat) : Int) by omega]
    by_cases q1 : g < 24 * d + 8
    · rw [if_pos (by omega), if_pos q1]
      unfold smN
      by_cases q2 : ((g / 24 : Nat) : Int) = ((h / 24 : Nat) : Int)
      · rw [if_neg (by omega)]
        by_cases q3 : g % 24 < 8
        · rw [if_neg (by omega), if_pos (by omega)]
        · rw [if_pos (by omega), if_neg (by omega)]
      · rw [if_pos q2, if_neg (by omega)]
    · rw [if_neg (by omega), if_neg q1]
      by_cases q2 : h < 24 * d + 8
      · rw [if_pos (by omega), if_pos q2]
        by_cases q3 : d = h / 24
        · rw [if_neg (by omega)]
          simp only [if_pos q3]
        · rw [if_pos (by omega)]
          simp only [if_neg q3]
      · rw [if_neg (by omega), if_neg q2]
  have htail : ∀ r d n : Nat, d + r = 6 → h / 24 < d → r < n → B_X7_goes_206 n (h : Int) (l : Int) x5 x6 x7 x9 (d : Int) μ = if 0 < c 2 1 ∧ 24 * d + 8 ≤ g then some (-1, μ) else (if smN h g then B_X7_goes_302 (h : Int) (l : Int) x5 x6 x7 x9 1 μ else B_X7_goes_302 (h : Int) (l : Int) x5 x6 x7 x9 0 μ) := by
    intro r
    induction r with
    | zero =>
      intro d n hd hlt hn
      obtain ⟨n, rfl⟩ : ∃ q, n = q + 1 := ⟨n - 1, by omega⟩
      rw [hstep d n (by omega), if_pos (by omega), if_neg (show ¬ (0 < c 2 1 ∧ 24 * d + 8 ≤ g) by omega)]
    | succ r ih =>
      intro d n hd hlt hn
      obtain ⟨n, rfl⟩ : ∃ q, n = q + 1 := ⟨n - 1, by omega⟩
      rw [hstep d n (by omega)]
      by_cases q1 : g < 24 * d + 8
      · rw [if_pos q1, if_neg (show ¬ (0 < c 2 1 ∧ 24 * d + 8 ≤ g) by omega)]
      · rw [if_neg q1, if_pos (by omega)]
        simp only [if_neg (show ¬ d = h / 24 by omega)]
        by_cases q2 : c 2 1 ≤ 0
        · rw [if_pos q2, ih (d + 1) n (by omega) (by omega) (by omega), if_neg (show ¬ (0 < c 2 1 ∧ 24 * (d + 1) + 8 ≤ g) by omega), if_neg (show ¬ (0 < c 2 1 ∧ 24 * d + 8 ≤ g) by omega)]
        · rw [if_neg q2, if_pos (by omega)]
  have hall : B_X7_goes_200 (h : Int) (l : Int) x5 x6 x7 x9 μ = if ((h % 24 < 8 ∧ h - h % 24 + 8 ≤ g ∧ (l : Int) < c 2 1) ∨ (0 < c 2 1 ∧ h - h % 24 + 32 ≤ g)) then some (-1, μ) else (if smN h g then B_X7_goes_302 (h : Int) (l : Int) x5 x6 x7 x9 1 μ else B_X7_goes_302 (h : Int) (l : Int) x5 x6 x7 x9 0 μ) := by
    unfold B_X7_goes_200
    obtain ⟨n, hn⟩ : ∃ n, FU = n + 1 + 1 := ⟨999998, rfl⟩
    have hn9 : 100 < n := by
      have : FU = 1000000 := rfl
      omega
    have et := htail (6 - (h / 24 + 1)) (h / 24 + 1) (n + 1) (by omega) (by omega) (by omega)
    rw [idiv24 (by omega), hn, hstep (h / 24) (n + 1) (by omega)]
    by_cases q1 : g < 24 * (h / 24) + 8
    · rw [if_pos q1, if_neg (show ¬ ((h % 24 < 8 ∧ h - h % 24 + 8 ≤ g ∧ (l : Int) < c 2 1) ∨ (0 < c 2 1 ∧ h - h % 24 + 32 ≤ g)) by omega)]
    · rw [if_neg q1]
      simp only [eq_self_iff_true, if_true]
      by_cases q2 : h < 24 * (h / 24) + 8
      · rw [if_pos q2]
        by_cases q3 : c 2 1 ≤ (l : Int)
        · rw [if_pos q3, et]
          by_cases q4 : 0 < c 2 1 ∧ 24 * (h / 24 + 1) + 8 ≤ g
          · rw [if_pos q4, if_pos (Or.inr ⟨q4.1, by omega⟩)]
          · rw [if_neg q4, if_neg (show ¬ ((h % 24 < 8 ∧ h - h % 24 + 8 ≤ g ∧ (l : Int) < c 2 1) ∨ (0 < c 2 1 ∧ h - h % 24 + 32 ≤ g)) by omega)]
        · rw [if_neg q3, if_pos (Or.inl ⟨by omega, by omega, by omega⟩)]
      · rw [if_neg q2, et]
        by_cases q4 : 0 < c 2 1 ∧ 24 * (h / 24 + 1) + 8 ≤ g
        · rw [if_pos q4, if_pos (Or.inr ⟨q4.1, by omega⟩)]
        · rw [if_neg q4, if_neg (show ¬ ((h % 24 < 8 ∧ h - h % 24 + 8 ≤ g ∧ (l : Int) < c 2 1) ∨ (0 < c 2 1 ∧ h - h % 24 + 32 ≤ g)) by omega)]
  rw [hall]
  unfold bdS
  exact ⟨fun q => by rw [if_pos q], fun q q2 => by rw [if_neg q, if_pos q2], fun q q2 => by rw [if_neg q, if_neg q2]⟩
def cp (c : Co) (l : Nat) : Nat := min l (c 2 1).toNat
theorem ms_dec {t s e l : Nat} (ht : t < 8) (hs : s ≤ 6) (he : e < 4) (hl : l ≤ 4) : irem ((ms t s e l : Nat) : Int) 5 = (l : Int) ∧ irem (idiv ((ms t s e l : Nat) : Int) 5) 4 = (e : Int) ∧ irem (idiv ((ms t s e l : Nat) : Int) 20) 7 = (s : Int) ∧ idiv ((ms t s e l : Nat) : Int) 140 = (t : Int) := by
  have hlt := ms_lt ht hs he hl
  have e1 : irem ((ms t s e l : Nat) : Int) 5 = ((ms t s e l % 5 : Nat) : Int) := i_irem 5 (by omega) (by omega) (by omega)
  have e2 : idiv ((ms t s e l : Nat) : Int) 5 = ((ms t s e l / 5 : Nat) : Int) := i_idiv 5 (by omega) (by omega) (by omega)
  have e3 : irem ((ms t s e l / 5 : Nat) : Int) 4 = ((ms t s e l / 5 % 4 : Nat) : Int) := i_irem 4 (by omega) (by omega) (by omega)
  have e4 : idiv ((ms t s e l : Nat) : Int) 20 = ((ms t s e l / 20 : Nat) : Int) := i_idiv 20 (by omega) (by omega) (by omega)
  have e5 : irem ((ms t s e l / 20 : Nat) : Int) 7 = ((ms t s e l / 20 % 7 : Nat) : Int) := i_irem 7 (by omega) (by omega) (by omega)
  have e6 : idiv ((ms t s e l : Nat) : Int) 140 = ((ms t s e l / 140 : Nat) : Int) := i_idiv 140 (by omega) (by omega) (by omega)
  rw [e1, e2, e3, e4, e5, e6]
  unfold ms
  refine ⟨?_, ?_, ?_, ?_⟩ <;> omega
/-- behind the stamps: he comes -/
theorem goes_376 {μ : Mi} {i : Bool} {c : Co} {S L : List Nat} {pm : Nat} (P : Pm μ i c S L pm) {g t s e l : Nat} {f : Int} (hf : f = 0 ∨ f = 1) (h44 : rd μ 7 false 44 = (g : Int)) (hg : g ≤ 96) (ht : t < 8) (hs : s ≤ 6) (he : e < 4) (hl : l ≤ 4) : B_X7_goes_376 (l : Int) (e : Int) (s : Int) (t : Int) f μ = some (if pMs c pm g t = 0 then ((ms t s (e ||| sa c L g t) (if f = 0 then 0 else l) : Nat) : Int) else -1, μ) := by
  unfold B_X7_goes_376 B_X7_goes_398
  rw [h44]
  rcases hf with rfl | rfl
  · rw [if_pos (by decide)]
    have := comesTo_M P hg ht hs he (by omega : 0 ≤ 4)
    rw [show ((0 : Nat) : Int) = 0 from rfl] at this
    rw [this, bp_k]
    rfl
  · rw [if_neg (by decide), comesTo_M P hg ht hs he hl, bp_k]
    rfl
theorem goS_M {μ : Mi} {i : Bool} {c : Co} {S L : List Nat} {pm : Nat} (P : Pm μ i c S L pm) {h t s e l : Nat} (hh : (h : Int) < c 2 2) (ht : (t : Int) < c 0 1) (hs : s ≤ S.length) (he : e < 4) (hl : l ≤ (if h % 24 < 8 then min 4 (h % 24) else 0)) : D_X7_goes (h : Int) ((ms t s e l : Nat) : Int) (-1) μ = some (if nS c h (cp c l) < 0 ∨ ¬ pMs c pm (h + 1) t = 0 then -1 else ((ms t s (e ||| sa c L (h + 1) t) (if h % 24 < 7 then min 4 (l + 1) else 0) : Nat) : Int), wr μ 7 false 44 ((h + 1 : Nat) : Int)) := by
  have hw := P.2.1
  have hsk := P.2.2.1
  have hS6 := hsk.1
  have htw := hw.1
  have hen := hw.2.2.2.2.2.2.2.1
  have hslp := hw.2.2.2.2.2.2.1
  have hm := mi_le i
  have hl4 : l ≤ 4 := by split at hl <;> omega
  have P' := Pm_w (v := ((h + 1 : Nat) : Int)) P
  obtain ⟨d1, d2, d3, d4⟩ := ms_dec (t := t) (s := s) (e := e) (l := l) (by omega) (by omega) he hl4
  have e44 : rd (wr μ 7 false 44 ((h + 1 : Nat) : Int)) 7 false 44 = ((h + 1 : Nat) : Int) := rd_s
  have e36 := P.2.2.2.1
  have e55 := P.1.2.2.2.2.1.2.2.1
  -- behind the sleep
  have h302 : ∀ (l1 : Nat) (f : Int), l1 ≤ 4 → (f = 0 ∨ f = 1) → B_X7_goes_302 (h : Int) (l1 : Int) (e : Int) (s : Int) (t : Int) (t : Int) f (wr μ 7 false 44 ((h + 1 : Nat) : Int)) = some (if pMs c pm (h + 1) t = 0 then ((ms t s (e ||| sa c L (h + 1) t) (if f = 0 then 0 else l1) : Nat) : Int) else -1, wr μ 7 false 44 ((h + 1 : Nat) : Int)) := by
    intro l1 f hl1 hf
    unfold B_X7_goes_302
    rw [wid (x := (t : Int)) (by omega) (by omega), if_pos (by omega), if_pos (by omega), if_pos rfl]
    exact goes_376 P' hf e44 (by omega) (by omega) (by omega) he hl1
  have hgo : ∀ l1 : Nat, l1 = (if h % 24 < 8 ∧ l < 4 then l + 1 else l) → B_X7_goes_200 (h : Int) (l1 : Int) (e : Int) (s : Int) (t : Int) (t : Int) (wr μ 7 false 44 ((h + 1 : Nat) : Int)) = some (if nS c h (cp c l) < 0 ∨ ¬ pMs c pm (h + 1) t = 0 then -1 else ((ms t s (e ||| sa c L (h + 1) t) (if h % 24 < 7 then min 4 (l + 1) else 0) : Nat) : Int), wr μ 7 false 44 ((h + 1 : Nat) : Int)) := by
    intro l1 hl1
    have hl14 : l1 ≤ 4 := by rw [hl1]; split <;> omega
    obtain ⟨g1, g2, g3⟩ := goes_206 P' (h := h) (g := h + 1) (l := l1) (x5 := (e : Int)) (x6 := (s : Int)) (x7 := (t : Int)) (x9 := (t : Int)) (by omega) (by omega) (by omega) e44
    by_cases b : bdS c h (h + 1) l1
    · rw [g1 b]
      have : nS c h (cp c l) < 0 := by
        have q7 : h % 24 = 7 := by
          rcases b with b | b <;> omega
        have hb2 : (l1 : Int) < c 2 1 := by
          rcases b with b | b
          · exact b.2.2
          · omega
        unfold nS cp
        rw [if_pos (by omega), if_pos q7, if_neg]
        · omega
        · rw [hl1] at hb2
          split at hb2 <;> omega
      rw [if_pos (Or.inl this)]
    · have hns : ¬ nS c h (cp c l) < 0 := by
        intro z
        apply b
        unfold nS cp at z
        split at z
        · split at z
          · split at z
            · omega
            · rename_i q8 q7 q
              refine Or.inl ⟨q8, by omega, ?_⟩
              rw [hl1]
              split <;> omega
          · omega
        · omega
      by_cases q7 : h % 24 < 7
      · rw [g2 b ⟨by omega, by omega⟩, h302 l1 1 hl14 (Or.inr rfl), if_neg (show ¬ (1 : Int) = 0 by decide), if_pos q7]
        have el : l1 = min 4 (l + 1) := by rw [hl1]; split <;> omega
        rw [el]
        by_cases q : pMs c pm (h + 1) t = 0
        · rw [if_pos q, if_neg (show ¬ (nS c h (cp c l) < 0 ∨ ¬ pMs c pm (h + 1) t = 0) from fun z => z.elim hns (fun z => z q))]
        · rw [if_neg q, if_pos (Or.inr q)]
      · rw [g3 b (by intro z; omega), h302 l1 0 hl14 (Or.inl rfl), if_pos (show (0 : Int) = 0 from rfl), if_neg q7]
        by_cases q : pMs c pm (h + 1) t = 0
        · rw [if_pos q, if_neg (show ¬ (nS c h (cp c l) < 0 ∨ ¬ pMs c pm (h + 1) t = 0) from fun z => z.elim hns (fun z => z q))]
        · rw [if_neg q, if_pos (Or.inr q)]
  have h24 : h % 24 < 24 := Nat.mod_lt _ (by omega)
  unfold D_X7_goes
  rw [if_neg (by decide), d1, d2, d3, d4]
  unfold B_X7_goes_38
  rw [if_pos (by decide)]
  unfold B_X7_goes_85
  rw [if_neg (by decide)]
  unfold B_X7_goes_105
  rw [e36, wid (x := (mi i : Int)) (by omega) (by omega), if_pos (by omega), ixn (mi i) (by omega), e55, wid (x := c 2 2) (by omega) (by omega), wid (x := (h : Int) + 1) (by omega) (by omega), if_pos (by omega), if_neg (by decide)]
  unfold B_X7_goes_142
  obtain ⟨n, hn⟩ : ∃ n, FU = n + 1 := ⟨999999, rfl⟩
  rw [hn, B_X7_goes_149_s, F_X7_goes_149, show (h : Int) + 1 = ((h + 1 : Nat) : Int) by omega, e44, wid (x := ((h + 1 : Nat) : Int)) (by omega) (by omega), if_pos (by omega), if_neg (by decide), irem24 (by omega), wid (x := ((h % 24 : Nat) : Int)) (by omega) (by omega), wid (x := (l : Int)) (by omega) (by omega)]
  by_cases q8 : h % 24 < 8
  · rw [if_neg (by omega)]
    by_cases q4 : l < 4
    · rw [if_neg (by omega), show (l : Int) + 1 = ((l + 1 : Nat) : Int) by omega]
      exact hgo (l + 1) (by rw [if_pos ⟨q8, q4⟩])
    · rw [if_pos (by omega)]
      exact hgo l (by rw [if_neg (fun z => q4 z.2)])
  · rw [if_pos (by omega)]
    exact hgo l (by rw [if_neg (fun z => q8 z.1)])
