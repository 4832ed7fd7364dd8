/-! PURE: one town only -/
theorem ones_M {x : Nat} (hx : x < 512) : D_X7_ones (x : Int) = some ((cn (fun t => x.testBit t) 16 : Nat) : Int) := by
  have key : ∀ (d n k : Nat), k + d = 16 → d < n → B_X7_ones_4 n (x : Int) ((cn (fun t => x.testBit t) k : Nat) : Int) (k : Int) = some ((cn (fun t => x.testBit t) 16 : Nat) : Int) := by
    intro d
    induction d with
    | zero =>
      intro n k hk hn
      obtain ⟨n, rfl⟩ : ∃ q, n = q + 1 := ⟨n - 1, by omega⟩
      rw [B_X7_ones_4_s, F_X7_ones_4, wid (x := (k : Int)) (by omega) (by omega), if_pos (by omega), show k = 16 by omega]
    | succ d ih =>
      intro n k hk hn
      obtain ⟨n, rfl⟩ : ∃ q, n = q + 1 := ⟨n - 1, by omega⟩
      have := ih n (k + 1) (by omega) (by omega)
      rw [B_X7_ones_4_s, F_X7_ones_4, wid (x := (k : Int)) (by omega) (by omega), if_neg (by omega), bit_n x k (by omega) (by omega), show (k : Int) + 1 = ((k + 1 : Nat) : Int) by omega]
      rw [cn] at this
      rw [← this]
      congr 1
      split <;> simp
  have := key 16 FU 0 (by omega) (FU_gt (by omega))
  unfold D_X7_ones
  exact this
theorem one_town : ∀ x, x < 512 → D_X6_isOneTown ((x : Nat) : Int) = if cn (fun t => x.testBit t) 16 = 1 ∧ ¬ x = 256 then 1 else 0 := by decide +kernel
theorem one_pow : ∀ x, x < 512 → cn (fun t => x.testBit t) 16 = 1 → x = 1 ∨ x = 2 ∨ x = 4 ∨ x = 8 ∨ x = 16 ∨ x = 32 ∨ x = 64 ∨ x = 128 ∨ x = 256 := by decide +kernel
