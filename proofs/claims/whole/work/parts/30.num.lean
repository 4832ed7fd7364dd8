/-! PURE: numbers -/
theorem wid {x : Int} (h1 : -2147483648 ≤ x) (h2 : x ≤ 2147483647) : w32 x = x := Int32.toInt_ofInt_of_le (by omega) (by omega)
theorem w32_rng (x : Int) : -2147483648 ≤ w32 x ∧ w32 x ≤ 2147483647 := by
  have h1 := Int32.le_toInt (Int32.ofInt x)
  have h2 := Int32.toInt_lt (Int32.ofInt x)
  unfold w32
  omega
theorem w32_w32 (x : Int) : w32 (w32 x) = w32 x := wid (w32_rng x).1 (w32_rng x).2
theorem ixd {x : Int} (h1 : 0 ≤ x) (h2 : x ≤ 2147483647) : ix x = x.toNat := by unfold ix; rw [wid (by omega) h2]
theorem ixn (n : Nat) (h : n ≤ 2147483647) : ix (n : Int) = n := by rw [ixd (by omega) (by omega)]; rfl
theorem isB_b {x : Int} (h : x = 0 ∨ x = 1) : isB x := by
  rcases h with h | h
  · subst h; exact Or.inl (by decide)
  · subst h; exact Or.inr (by decide)
theorem bvn (a : Nat) (h : a < 2147483648) : (Int32.ofInt (a : Int)).toBitVec.toNat = a := by
  rw [Int32.toBitVec_ofInt, BitVec.toNat_ofInt]
  omega
theorem tin (x : Int32) (h : x.toBitVec.toNat < 2147483648) : x.toInt = (x.toBitVec.toNat : Int) := by
  rw [← Int32.toInt_toBitVec]
  exact BitVec.toInt_eq_toNat_of_lt (by omega)
theorem iand_n (a b : Nat) (ha : a < 2147483648) (hb : b < 2147483648) : iand (a : Int) (b : Int) = ((a &&& b : Nat) : Int) := by
  have e : (Int32.ofInt (a : Int) &&& Int32.ofInt (b : Int)).toBitVec.toNat = a &&& b := by
    rw [Int32.toBitVec_and, BitVec.toNat_and, bvn a ha, bvn b hb]
  unfold iand
  rw [tin _ (by rw [e]; exact Nat.lt_of_le_of_lt Nat.and_le_left ha), e]
theorem ior_n (a b : Nat) (ha : a < 2147483648) (hb : b < 2147483648) : ior (a : Int) (b : Int) = ((a ||| b : Nat) : Int) := by
  have e : (Int32.ofInt (a : Int) ||| Int32.ofInt (b : Int)).toBitVec.toNat = a ||| b := by
    rw [Int32.toBitVec_or, BitVec.toNat_or, bvn a ha, bvn b hb]
  have h2 : a ||| b < 2 ^ 31 := Nat.or_lt_two_pow (by omega) (by omega)
  unfold ior
  rw [tin _ (by rw [e]; omega), e]
theorem shk : ∀ k, k < 32 → ((Int32.ofInt ((k : Nat) : Int)) &&& 31).toBitVec.smod 32 = BitVec.ofNat 32 k := by decide +kernel
theorem ishr_n (a k : Nat) (ha : a < 2147483648) (hk : k < 32) : ishr (a : Int) (k : Int) = ((a / 2 ^ k : Nat) : Int) := by
  have e : (Int32.ofInt (a : Int) >>> (Int32.ofInt (k : Int) &&& 31)).toInt = ((Int32.ofInt (a : Int)).toBitVec.sshiftRight' (((Int32.ofInt (k : Int)) &&& 31).toBitVec.smod 32)).toInt := rfl
  unfold ishr
  rw [e, shk k hk, BitVec.toInt_sshiftRight', Int32.toInt_toBitVec]
  have h1 : (Int32.ofInt (a : Int)).toInt = (a : Int) := wid (by omega) (by omega)
  have h2 : (BitVec.ofNat 32 k).toNat = k := by
    rw [BitVec.toNat_ofNat]
    omega
  rw [h1, h2, Int.shiftRight_eq_div_pow]
  rfl
theorem ishl1 : ∀ k, k < 31 → ishl 1 ((k : Nat) : Int) = ((2 ^ k : Nat) : Int) := by decide +kernel
theorem bit_n (a k : Nat) (ha : a < 2147483648) (hk : k < 32) : iand (ishr (a : Int) (k : Int)) 1 = if a.testBit k then 1 else 0 := by
  rw [ishr_n a k ha hk]
  have h1 : a / 2 ^ k < 2147483648 := Nat.lt_of_le_of_lt (Nat.div_le_self a _) ha
  rw [show (1 : Int) = ((1 : Nat) : Int) from rfl, iand_n _ 1 h1 (by omega), Nat.and_one_is_mod, Nat.testBit_eq_decide_div_mod_eq]
  by_cases h : a / 2 ^ k % 2 = 1
  · simp [h]
  · have : a / 2 ^ k % 2 = 0 := by omega
    simp [this]
theorem idiv_n {a : Int} (d : Nat) (h0 : 0 ≤ a) (h1 : a ≤ 2147483647) (hd : 0 < d) (hd2 : d ≤ 2147483647) : idiv a (d : Int) = a / (d : Int) := by
  unfold idiv
  rw [Int32.toInt_div]
  have e1 : (Int32.ofInt a).toInt = a := wid (by omega) h1
  have e2 : (Int32.ofInt (d : Int)).toInt = (d : Int) := wid (by omega) (by omega)
  rw [e1, e2, Int.tdiv_eq_ediv_of_nonneg h0]
  have h3 : 0 ≤ a / (d : Int) := Int.ediv_nonneg h0 (by omega)
  have h4 : a / (d : Int) ≤ a := Int.ediv_le_self _ h0
  exact Int.bmod_eq_of_le (by omega) (by omega)
theorem irem_n {a : Int} (d : Nat) (h0 : 0 ≤ a) (h1 : a ≤ 2147483647) (hd : 0 < d) (hd2 : d ≤ 2147483647) : irem a (d : Int) = a % (d : Int) := by
  have e : irem a (d : Int) = w32 (a - idiv a (d : Int) * (d : Int)) := by
    unfold irem w32
    rw [Int32.ofInt_sub, Int32.ofInt_mul]
    unfold idiv
    rw [of32]
  rw [e, idiv_n d h0 h1 hd hd2]
  have h2 := Int.emod_def a (d : Int)
  have h3 : 0 ≤ a % (d : Int) := Int.emod_nonneg a (by omega)
  have h4 : a % (d : Int) < d := Int.emod_lt_of_pos a (by omega)
  have h5 : a / (d : Int) * (d : Int) = (d : Int) * (a / (d : Int)) := Int.mul_comm _ _
  rw [h5, ← h2, wid (by omega) (by omega)]
theorem lcmp_lt {a b : Int} (ha : w64 a = a) (hb : w64 b = b) : lcmp a b = if b < a then 1 else if a = b then 0 else -1 := by
  unfold lcmp
  rw [ha, hb]
theorem w64id {x : Int} (h1 : -9223372036854775808 ≤ x) (h2 : x ≤ 9223372036854775807) : w64 x = x := Int64.toInt_ofInt_of_le (by omega) (by omega)
theorem some_ite {α : Type} {c : Prop} [Decidable c] (a b : α) : (if c then some a else some b) = some (if c then a else b) := by split <;> rfl
theorem FU_gt {n : Nat} (h : n < 1000000) : n < FU := h
