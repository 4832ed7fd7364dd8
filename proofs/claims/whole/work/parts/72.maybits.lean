/-! PURE: the reference's mayBits -/
theorem or8 {x : Nat} (h : x < 512) : 256 ≤ x ||| 2 ^ 8 ∧ x ||| 2 ^ 8 < 512 := by
  constructor
  · refine Nat.le_of_not_lt fun z => ?_
    have h1 := Nat.testBit_lt_two_pow (i := 8) (show x ||| 2 ^ 8 < 2 ^ 8 from z)
    rw [bit_one] at h1
    cases h1
  · exact Nat.or_lt_two_pow (n := 9) h (by decide)
theorem or8_2 (x : Nat) : x ||| 2 ^ 8 ||| 2 ^ 8 = x ||| 2 ^ 8 := by
  apply Nat.eq_of_testBit_eq
  intro q
  rw [Nat.testBit_or, Nat.testBit_or]
  cases x.testBit q <;> cases (2 ^ 8).testBit q <;> rfl
/-- the towns at the hour H -/
theorem mB_20 {i : Bool} {c : Co} {S L : List Nat} {pm : Nat} {U : Tb} {H : Nat} {μ : Mi} (E : DP 4 c S L pm U) (C : CI μ i c S L pm U 0 1120) (hH : (H : Int) ≤ c 2 2) : ∀ (d n k x : Nat), k + d = 1120 → d < n → x < 256 → (∀ t, t < 8 → (x.testBit t = true ↔ ∃ q, q < k ∧ ic μ H q = 1 ∧ 0 < Tm c U H q ∧ q / 140 = t)) → ∃ y : Nat, y < 256 ∧ B_X7_mayBits_20 n (H : Int) (x : Int) (k : Int) μ = B_X7_mayBits_80 FU (H : Int) (y : Int) 0 μ ∧ (∀ t, t < 8 → (y.testBit t = true ↔ ∃ q, q < 1120 ∧ ic μ H q = 1 ∧ 0 < Tm c U H q ∧ q / 140 = t)) := by
  have hw := C.1.1.2.1
  have hs := C.1.1.2.2.1
  have hen := hw.2.2.2.2.2.2.2.1
  intro d
  induction d with
  | zero =>
    intro n k x hk hn hx hb
    obtain ⟨n, rfl⟩ : ∃ q, n = q + 1 := ⟨n - 1, by omega⟩
    refine ⟨x, hx, ?_, by rw [show 1120 = k by omega]; exact hb⟩
    rw [B_X7_mayBits_20_s, F_X7_mayBits_20, wid (x := (k : Int)) (by omega) (by omega), if_pos (by omega)]
  | succ d ih =>
    intro n k x hk hn hx hb
    obtain ⟨n, rfl⟩ : ∃ q, n = q + 1 := ⟨n - 1, by omega⟩
    have hk1 : k < 1120 := by omega
    have hic := C.1.2.1 H k hH hk1
    have hon := C.2 H k hH hk1 (by omega)
    obtain ⟨X, hX⟩ : ∃ X, X = H * 1120 + k := ⟨_, rfl⟩
    have hXr : 0 ≤ (X : Int) ∧ (X : Int) < 108640 := by omega
    have e72 : rd μ 72 false X = ic μ H k := by rw [hX]; rfl
    rw [← hX] at hon
    have e71 : ∀ y : Int, B_X7_mayBits_71 (B_X7_mayBits_20 n) (H : Int) y (k : Int) μ = B_X7_mayBits_20 n (H : Int) y ((k + 1 : Nat) : Int) μ := fun y => by
      unfold B_X7_mayBits_71
      rw [show (k : Int) + 1 = ((k + 1 : Nat) : Int) by omega]
    have hcv : 0 ≤ cv c U μ H k ∧ cv c U μ H k ≤ 1000000000 ∧ (0 < cv c U μ H k ↔ ic μ H k = 1 ∧ 0 < Tm c U H k) := by
      unfold cv
      split
      · rename_i z
        have := Tm_4 hw hs E hH (C.1.2.2.1 H k hH hk1 z).1
        omega
      · rename_i z
        exact ⟨by omega, by omega, fun w => by omega, fun w => absurd w.1 z⟩
    have stay : ¬ (ic μ H k = 1 ∧ 0 < Tm c U H k) → ∀ t, t < 8 → (x.testBit t = true ↔ ∃ q, q < k + 1 ∧ ic μ H q = 1 ∧ 0 < Tm c U H q ∧ q / 140 = t) := fun hno t ht => (hb t ht).trans ⟨fun ⟨q, a, b⟩ => ⟨q, by omega, b⟩, fun ⟨q, a, b1, b2, b3⟩ => by
      by_cases e : q = k
      · rw [e] at b1 b2
        exact absurd ⟨b1, b2⟩ hno
      · exact ⟨q, by omega, b1, b2, b3⟩⟩
    have e140 : idiv (k : Int) 140 = ((k / 140 : Nat) : Int) := i_idiv 140 (by omega) (by omega) (by omega)
    have head : B_X7_mayBits_20 (n + 1) (H : Int) (x : Int) (k : Int) μ = if ic μ H k = 0 then B_X7_mayBits_20 n (H : Int) (x : Int) ((k + 1 : Nat) : Int) μ else if cv c U μ H k ≤ 0 then B_X7_mayBits_20 n (H : Int) (x : Int) ((k + 1 : Nat) : Int) μ else B_X7_mayBits_20 n (H : Int) ((x ||| 2 ^ (k / 140) : Nat) : Int) ((k + 1 : Nat) : Int) μ := by
      rw [B_X7_mayBits_20_s, F_X7_mayBits_20, wid (x := (k : Int)) (by omega) (by omega), if_neg (by omega), show (H : Int) * 1120 + (k : Int) = (X : Int) by omega, wid (x := (X : Int)) (by omega) (by omega), if_pos hXr, if_pos hXr, ixn X (by omega), e72, hon, wid (x := ic μ H k) (by omega) (by omega), wid (x := cv c U μ H k) (by omega) (by omega), e140, or_bit x (k / 140) (by omega) (by omega), e71, e71]
    rw [head]
    by_cases z : ic μ H k = 0
    · rw [if_pos z]
      exact ih n (k + 1) x (by omega) (by omega) hx (stay (fun w => by omega))
    · rw [if_neg z]
      by_cases y : cv c U μ H k ≤ 0
      · rw [if_pos y]
        exact ih n (k + 1) x (by omega) (by omega) hx (stay (fun w => by have := hcv.2.2.mpr w; omega))
      · rw [if_neg y]
        have hyes := hcv.2.2.mp (by omega)
        have h256 : 2 ^ (k / 140) < 256 := Nat.lt_of_lt_of_le (Nat.pow_lt_pow_right (by omega) (by omega : k / 140 < 8)) (by decide)
        refine ih n (k + 1) _ (by omega) (by omega) (Nat.or_lt_two_pow (n := 8) hx h256) (fun t ht => ?_)
        by_cases e : t = k / 140
        · rw [e]
          exact ⟨fun _ => ⟨k, by omega, hyes.1, hyes.2, rfl⟩, fun _ => bit_one x _⟩
        · rw [bit_ne e, hb t ht]
          exact ⟨fun ⟨q, a, b⟩ => ⟨q, by omega, b⟩, fun ⟨q, a, b1, b2, b3⟩ => ⟨q, by
            have : q ≠ k := fun w => e (by rw [← b3, w])
            omega, b1, b2, b3⟩⟩
/-- the link j of the state k at h passes over H and goes on -/
def hit (μ : Mi) (c : Co) (S L : List Nat) (pm : Nat) (U : Tb) (H h k j : Nat) : Prop := ic μ h k = 1 ∧ ∃ g k' : Nat, mG c S L pm h k (j + 1) = some (g, k') ∧ H < g ∧ 0 < Tm c U g k'
def MB (μ : Mi) (c : Co) (S L : List Nat) (pm : Nat) (U : Tb) (H x0 x h k j : Nat) : Prop := (x = x0 ∧ ∀ h' k' j' : Nat, dB h k j h' k' j' → h' < H → k' < 1120 → (j' : Int) < c 0 2 → ¬ hit μ c S L pm U H h' k' j') ∨ (x = x0 ||| 2 ^ 8 ∧ ∃ h' k' j' : Nat, h' < H ∧ k' < 1120 ∧ (j' : Int) < c 0 2 ∧ hit μ c S L pm U H h' k' j')
theorem MB.eq {μ m : Mi} {c : Co} {S L : List Nat} {pm : Nat} {U : Tb} {H x0 x h k j : Nat} (B : MB μ c S L pm U H x0 x h k j) (e : ∀ g k', ic m g k' = ic μ g k') : MB m c S L pm U H x0 x h k j := by
  unfold MB hit at *
  simp only [e]
  exact B
theorem MB.mono {μ : Mi} {c : Co} {S L : List Nat} {pm : Nat} {U : Tb} {H x0 x h k j h2 k2 j2 : Nat} (B : MB μ c S L pm U H x0 x h k j) (e : x = x0 → ∀ h' k' j' : Nat, dB h2 k2 j2 h' k' j' → h' < H → k' < 1120 → (j' : Int) < c 0 2 → ic μ h' k' = 1 → dB h k j h' k' j') : MB μ c S L pm U H x0 x h2 k2 j2 := by
  rcases B with ⟨b1, b2⟩ | b
  · exact Or.inl ⟨b1, fun h' k' j' d a1 a2 a3 z => b2 h' k' j' (e b1 h' k' j' d a1 a2 a3 z.1) a1 a2 a3 z⟩
  · exact Or.inr b
theorem mB_127 {i : Bool} {c : Co} {S L : List Nat} {pm : Nat} {U : Tb} {H h k x0 : Nat} {k80 : Int → Int → Int → Mi → Option (Int × Mi)} {k89 : Int → Int → Int → Int → Mi → Option (Int × Mi)} (E : DP 4 c S L pm U) (hx0 : x0 < 256) (hH : (H : Int) ≤ c 2 2) (hh : h < H) (hk : k < 1120) : ∀ (d n j x : Nat) (μ : Mi), j + d = (c 0 2).toNat → d < n → CI μ i c S L pm U 0 1120 → ic μ h k = 1 → MB μ c S L pm U H x0 x h k j → ∃ m y, B_X7_mayBits_127 k80 k89 n (H : Int) (x : Int) (h : Int) (k : Int) (j : Int) μ = k89 (H : Int) ((y : Nat) : Int) (h : Int) ((k + 1 : Nat) : Int) m ∧ CI m i c S L pm U 0 1120 ∧ MB m c S L pm U H x0 y h (k + 1) 0 ∧ ∀ g k', ic m g k' = ic μ g k' := by
  intro d
  induction d with
  | zero =>
    intro n j x μ hj hn C h1 B
    obtain ⟨n, rfl⟩ : ∃ q, n = q + 1 := ⟨n - 1, by omega⟩
    have hnl := C.1.1.2.1.2.1
    refine ⟨μ, x, ?_, C, B.mono (fun _ h' k' j' d _ _ c' _ => ?_), fun _ _ => rfl⟩
    · rw [B_X7_mayBits_127_s, F_X7_mayBits_127, C.1.1.1.1, wid (x := c 0 2) (by omega) (by omega), wid (x := (j : Int)) (by omega) (by omega), if_pos (by omega)]
      rfl
    · rcases d with d | ⟨d1, d2 | ⟨d2, d3⟩⟩
      · exact Or.inl d
      · by_cases z : k' = k
        · exact Or.inr ⟨d1, Or.inr ⟨z, by omega⟩⟩
        · exact Or.inr ⟨d1, Or.inl (by omega)⟩
      · omega
  | succ d ih =>
    intro n j x μ hj hn C h1 B
    obtain ⟨n, rfl⟩ : ∃ q, n = q + 1 := ⟨n - 1, by omega⟩
    have hw := C.1.1.2.1
    have hs := C.1.1.2.2.1
    have hnl := hw.2.1
    have hen := hw.2.2.2.2.2.2.2.1
    obtain ⟨v, vp⟩ := C.1.2.2.1 h k (by omega) hk h1
    obtain ⟨r, m1, g1, g2, g3, g4⟩ := goes_G C.1.1 (h := h) (k := k) (j := j + 1) (by omega) v (by omega)
    rw [show ((j + 1 : Nat) : Int) - 1 = (j : Int) by omega] at g1
    have C1 := C.eq g2
    have ei : ∀ g k', ic m1 g k' = ic μ g k' := fun g k' => g2 72 false _ (by omega)
    have h1m : ic m1 h k = 1 := by rw [ei]; exact h1
    have B1 := B.eq ei
    have e187 : ∀ y : Int, ∀ m, B_X7_mayBits_187 k80 k89 (B_X7_mayBits_127 k80 k89 n) (H : Int) y (h : Int) (k : Int) (j : Int) m = B_X7_mayBits_127 k80 k89 n (H : Int) y (h : Int) (k : Int) ((j + 1 : Nat) : Int) m := fun y m => by
      unfold B_X7_mayBits_187
      rw [show (j : Int) + 1 = ((j + 1 : Nat) : Int) by omega]
    have miss : ¬ hit m1 c S L pm U H h k j → MB m1 c S L pm U H x0 x h k (j + 1) := fun hno => by
      rcases B1 with ⟨b1, b2⟩ | b
      · refine Or.inl ⟨b1, fun h' k' j' d a1 a2 a3 z => ?_⟩
        by_cases w : h' = h ∧ k' = k ∧ j' = j
        · obtain ⟨rfl, rfl, rfl⟩ := w; exact hno z
        · refine b2 h' k' j' ?_ a1 a2 a3 z
          rcases d with d | ⟨d1, d2 | ⟨d2, d3⟩⟩
          · exact Or.inl d
          · exact Or.inr ⟨d1, Or.inl d2⟩
          · exact Or.inr ⟨d1, Or.inr ⟨d2, by omega⟩⟩
      · exact Or.inr b
    have go : ∀ y : Nat, MB m1 c S L pm U H x0 y h k (j + 1) → ∃ m y', B_X7_mayBits_127 k80 k89 n (H : Int) (y : Int) (h : Int) (k : Int) ((j + 1 : Nat) : Int) m1 = k89 (H : Int) ((y' : Nat) : Int) (h : Int) ((k + 1 : Nat) : Int) m ∧ CI m i c S L pm U 0 1120 ∧ MB m c S L pm U H x0 y' h (k + 1) 0 ∧ ∀ g k', ic m g k' = ic μ g k' := fun y By => by
      obtain ⟨m, y', a1, a2, a3, a4⟩ := ih n (j + 1) y m1 (by omega) (by omega) C1 h1m By
      exact ⟨m, y', a1, a2, a3, fun g k' => (a4 g k').trans (ei g k')⟩
    have hx : x < 512 := by
      have := or8 (x := x0) (by omega)
      rcases B with ⟨b, -⟩ | ⟨b, -⟩ <;> omega
    rw [B_X7_mayBits_127_s, F_X7_mayBits_127, C.1.1.1.1, wid (x := c 0 2) (by omega) (by omega), wid (x := (j : Int)) (by omega) (by omega), if_neg (by omega), g1, bd_k]
    cases hG : mG c S L pm h k (j + 1) with
    | none =>
      rw [g3 hG, if_pos (by decide), e187]
      exact go x (miss (fun ⟨_, g, k', a, _⟩ => by rw [hG] at a; cases a))
    | some q =>
      obtain ⟨g, k'⟩ := q
      obtain ⟨hr, h44⟩ := g4 g k' hG
      obtain ⟨o1, o2, o3, o4⟩ := mG_ok hw hs (by omega) v (by omega) hG
      have hk' := o3.1
      have hTm := Tm_4 hw hs E o2 o3
      have hicg : ic m1 g k' = 1 := C1.1.2.2.2.2.1 h k (j + 1) g k' (Or.inl (by omega)) (by omega) hk (by omega) h1m hG
      have hon : rd m1 70 false (g * 1120 + k') = max 0 (Tm c U g k') := by
        rw [C1.2 g k' o2 hk' (by omega)]
        unfold cv
        rw [if_pos hicg]
      obtain ⟨Y, hY⟩ : ∃ Y, Y = g * 1120 + k' := ⟨_, rfl⟩
      rw [← hY] at hon
      rw [hr, wid (x := (k' : Int)) (by omega) (by omega), if_neg (by omega), h44, wid (x := (g : Int)) (by omega) (by omega), wid (x := (H : Int)) (by omega) (by omega), show (g : Int) * 1120 + (k' : Int) = (Y : Int) by omega, wid (x := (Y : Int)) (by omega) (by omega), ixn Y (by omega), hon, wid (x := max 0 (Tm c U g k')) (by omega) (by omega), e187, e187]
      by_cases z1 : (g : Int) ≤ (H : Int)
      · rw [if_pos z1]
        exact go x (miss (fun ⟨_, g', k2, a, b, _⟩ => by rw [hG] at a; cases a; omega))
      · rw [if_neg z1, if_pos (by omega)]
        by_cases z2 : max 0 (Tm c U g k') ≤ 0
        · rw [if_pos z2]
          exact go x (miss (fun ⟨_, g', k2, a, _, b⟩ => by rw [hG] at a; cases a; omega))
        · rw [if_neg z2, show (256 : Int) = ((2 ^ 8 : Nat) : Int) from rfl, ior_n x (2 ^ 8) (by omega) (by decide)]
          refine go _ (Or.inr ⟨?_, h, k, j, hh, hk, by omega, h1m, g, k', hG, by omega, by omega⟩)
          rcases B with ⟨b, -⟩ | ⟨b, -⟩
          · rw [b]
          · rw [b, or8_2]
