/-! PURE: the reference's mayBits -/
theorem or8 {x : Nat} (h : x < 512) : 256 ≤ x ||| 2 ^ 8 ∧ x ||| 2 ^ 8 < 512 := by
  constructor
  · refine Nat.le_of_not_lt fun z => ?_
    have h1 := Nat.testBit_lt_two_pow (i := 8) (show x ||| 2 ^ 8 < 2 ^ 8 from z)
    rw [bit_one] at h1
    cases h1
  · exact Nat.or_lt_two_pow (n := 9) h (by decide)
theorem or8_2 (x : Nat) : x ||| 2 ^ 8 ||| 2 ^ 8 = x ||| 2 ^ 8 := by
  apply Nat.eq_of_testBit_eq
  intro q
  rw [Nat.testBit_or, Nat.testBit_or]
  cases x.testBit q <;> cases (2 ^ 8).testBit q <;> rfl
/-- the towns at the hour H -/
theorem mB_20 {i : Bool} {c : Co} {S L : List Nat} {pm : Nat} {U : Tb} {H : Nat} {μ : Mi} (E : DP 4 c S L pm U) (C : CI μ i c S L pm U 0 1120) (hH : (H : Int) ≤ c 2 2) : ∀ (d n k x : Nat), k + d = 1120 → d < n → x < 256 → (∀ t, t < 8 → (x.testBit t = true ↔ ∃ q, q < k ∧ ic μ H q = 1 ∧ 0 < Tm c U H q ∧ q / 140 = t)) → ∃ y : Nat, y < 256 ∧ B_X7_mayBits_20 n (H : Int) (x : Int) (k : Int) μ = B_X7_mayBits_80 FU (H : Int) (y : Int) 0 μ ∧ (∀ t, t < 8 → (y.testBit t = true ↔ ∃ q, q < 1120 ∧ ic μ H q = 1 ∧ 0 < Tm c U H q ∧ q / 140 = t)) := by
  have hw := C.1.1.2.1
  have hs := C.1.1.2.2.1
  have hen := hw.2.2.2.2.2.2.2.1
  intro d
  induction d with
  | zero =>
    intro n k x hk hn hx hb
    obtain ⟨n, rfl⟩ : ∃ q, n = q + 1 := ⟨n - 1, by omega⟩
    refine ⟨x, hx, ?_, by rw [show 1120 = k by omega]; exact hb⟩
    rw [B_X7_mayBits_20_s, F_X7_mayBits_20, wid (x := (k : Int)) (by omega) (by omega), if_pos (by omega)]
  | succ d ih =>
    intro n k x hk hn hx hb
    obtain ⟨n, rfl⟩ : ∃ q, n = q + 1 := ⟨n - 1, by omega⟩
    have hk1 : k < 1120 := by omega
    have hic := C.1.2.1 H k hH hk1
    have hon := C.2 H k hH hk1 (by omega)
    obtain ⟨X, hX⟩ : ∃ X, X = H * 1120 + k := ⟨_, rfl⟩
    have hXr : 0 ≤ (X : Int) ∧ (X : Int) < 108640 := by omega
    have e72 : rd μ 72 false X = ic μ H k := by rw [hX]; rfl
    rw [← hX] at hon
    have e71 : ∀ y : Int, B_X7_mayBits_71 (B_X7_mayBits_20 n) (H : Int) y (k : Int) μ = B_X7_mayBits_20 n (H : Int) y ((k + 1 : Nat) : Int) μ := fun y => by
      unfold B_X7_mayBits_71
      rw [show (k : Int) + 1 = ((k + 1 : Nat) : Int) by omega]
    have hcv : 0 ≤ cv c U μ H k ∧ cv c U μ H k ≤ 1000000000 ∧ (0 < cv c U μ H k ↔ ic μ H k = 1 ∧ 0 < Tm c U H k) := by
      unfold cv
      split
      · rename_i z
        have := Tm_4 hw hs E hH (C.1.2.2.1 H k hH hk1 z).1
        omega
      · rename_i z
        exact ⟨by omega, by omega, fun w => by omega, fun w => absurd w.1 z⟩
    have stay : ¬ (ic μ H k = 1 ∧ 0 < Tm c U H k) → ∀ t, t < 8 → (x.testBit t = true ↔ ∃ q, q < k + 1 ∧ ic μ H q = 1 ∧ 0 < Tm c U H q ∧ q / 140 = t) := fun hno t ht => (hb t ht).trans ⟨fun ⟨q, a, b⟩ => ⟨q, by omega, b⟩, fun ⟨q, a, b1, b2, b3⟩ => by
      by_cases e : q = k
      · rw [e] at b1 b2
        exact absurd ⟨b1, b2⟩ hno
      · exact ⟨q, by omega, b1, b2, b3⟩⟩
    have e140 : idiv (k : Int) 140 = ((k / 140 : Nat) : Int) := i_idiv 140 (by omega) (by omega) (by omega)
    have head : B_X7_mayBits_20 (n + 1) (H : Int) (x : Int) (k : Int) μ = if ic μ H k = 0 then B_X7_mayBits_20 n (H : Int) (x : Int) ((k + 1 : Nat) : Int) μ else if cv c U μ H k ≤ 0 then B_X7_mayBits_20 n (H : Int) (x : Int) ((k + 1 : Nat) : Int) μ else B_X7_mayBits_20 n (H : Int) ((x ||| 2 ^ (k / 140) : Nat) : Int) ((k + 1 : Nat) : Int) μ := by
      rw [B_X7_mayBits_20_s, F_X7_mayBits_20, wid (x := (k : Int)) (by omega) (by omega), if_neg (by omega), show (H : Int) * 1120 + (k : Int) = (X : Int) by omega, wid (x := (X : Int)) (by omega) (by omega), if_pos hXr, if_pos hXr, ixn X (by omega), e72, hon, wid (x := ic μ H k) (by omega) (by omega), wid (x := cv c U μ H k) (by omega) (by omega), e140, or_bit x (k / 140) (by omega) (by omega), e71, e71]
    rw [head]
    by_cases z : ic μ H k = 0
    · rw [if_pos z]
      exact ih n (k + 1) x (by omega) (by omega) hx (stay (fun w => by omega))
    · rw [if_neg z]
      by_cases y : cv c U μ H k ≤ 0
      · rw [if_pos y]
        exact ih n (k + 1) x (by omega) (by omega) hx (stay (fun w => by have := hcv.2.2.mpr w; omega))
      · rw [if_neg y]
        have hyes := hcv.2.2.mp (by omega)
        have h256 : 2 ^ (k / 140) < 256 := Nat.lt_of_lt_of_le (Nat.pow_lt_pow_right (by omega) (by omega : k / 140 < 8)) (by decide)
        refine ih n (k + 1) _ (by omega) (by omega) (Nat.or_lt_two_pow (n := 8) hx h256) (fun t ht => ?_)
        by_cases e : t = k / 140
        · rw [e]
          exact ⟨fun _ => ⟨k, by omega, hyes.1, hyes.2, rfl⟩, fun _ => bit_one x _⟩
        · rw [bit_ne e, hb t ht]
          exact ⟨fun ⟨q, a, b⟩ => ⟨q, by omega, b⟩, fun ⟨q, a, b1, b2, b3⟩ => ⟨q, by
            have : q ≠ k := fun w => e (by rw [← b3, w])
            omega, b1, b2, b3⟩⟩
