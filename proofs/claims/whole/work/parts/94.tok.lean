/-! PURE: the text's tokens -/
/-- as long as P holds -/
def runP (P : Nat → Bool) (N : Nat) : Nat → Nat → Nat
  | 0, x => x
  | f + 1, x => if x < N ∧ P x = true then runP P N f (x + 1) else x
theorem runP_p {P : Nat → Bool} {N : Nat} : ∀ (f x : Nat), x + f = N → x ≤ runP P N f x ∧ runP P N f x ≤ N ∧ (∀ j, x ≤ j → j < runP P N f x → P j = true) ∧ (runP P N f x < N → P (runP P N f x) = false)
  | 0, x, h => ⟨Nat.le_refl _, by show x ≤ N; omega, fun j h1 h2 => by have h3 : j < x := h2; omega, fun h2 => by have h3 : x < N := h2; omega⟩
  | f + 1, x, h => by
    rw [runP]
    by_cases z : x < N ∧ P x = true
    · rw [if_pos z]
      obtain ⟨a, b, d, e⟩ := runP_p (P := P) (N := N) f (x + 1) (by omega)
      refine ⟨by omega, b, fun j h1 h2 => ?_, e⟩
      by_cases q : j = x
      · rw [q]; exact z.2
      · exact d j (by omega) h2
    · rw [if_neg z]
      refine ⟨Nat.le_refl _, by omega, fun j h1 h2 => by omega, fun h2 => ?_⟩
      have : ¬ P x = true := fun w => z ⟨h2, w⟩
      simpa using this
def blk (v : Int) : Bool := decide (v = 32 ∨ v = 10)
def ltr (v : Int) : Bool := decide (97 ≤ v ∧ v ≤ 122)
def dgt (v : Int) : Bool := decide (48 ≤ v ∧ v ≤ 57)
def TB (tx : Nat → Int) (N : Nat) : Prop := N ≤ 500 ∧ ∀ j, j < 500 → -128 ≤ tx j ∧ tx j ≤ 127
def TXa (tx : Nat → Int) (N : Nat) (μ : Mi) : Prop := rd μ 3 false 4 = (N : Int) ∧ ∀ j, j < 500 → rd μ 41 false j = tx j
def TXb (tx : Nat → Int) (N : Nat) (μ : Mi) : Prop := rd μ 7 false 1 = (N : Int) ∧ ∀ j, j < 500 → rd μ 42 false j = tx j
/-- only some fields of an object change -/
def FrA (a b : Mi) : Prop := (∀ r i j, ¬ (r = 3 ∧ 5 ≤ j ∧ j ≤ 8) → rd b r i j = rd a r i j) ∧ ∀ r i j, ¬ (r = 3 ∧ j = 9) → rl b r i j = rl a r i j
def FrB (a b : Mi) : Prop := (∀ r i j, ¬ (r = 7 ∧ 2 ≤ j ∧ j ≤ 4) → rd b r i j = rd a r i j) ∧ ∀ r i j, ¬ (r = 7 ∧ j = 5) → rl b r i j = rl a r i j
theorem FrA.rf {a : Mi} : FrA a a := ⟨fun _ _ _ _ => rfl, fun _ _ _ _ => rfl⟩
theorem FrB.rf {a : Mi} : FrB a a := ⟨fun _ _ _ _ => rfl, fun _ _ _ _ => rfl⟩
theorem FrA.tr {a b c : Mi} (h : FrA a b) (g : FrA b c) : FrA a c := ⟨fun r i j q => (g.1 r i j q).trans (h.1 r i j q), fun r i j q => (g.2 r i j q).trans (h.2 r i j q)⟩
theorem FrB.tr {a b c : Mi} (h : FrB a b) (g : FrB b c) : FrB a c := ⟨fun r i j q => (g.1 r i j q).trans (h.1 r i j q), fun r i j q => (g.2 r i j q).trans (h.2 r i j q)⟩
theorem FrA.w {a b : Mi} {k : Nat} {v : Int} (hk : 5 ≤ k ∧ k ≤ 8) (h : FrA a b) : FrA a (wr b 3 false k v) := ⟨fun r i j q => (rdx (by omega)).trans (h.1 r i j q), fun r i j q => (rl_wr ..).trans (h.2 r i j q)⟩
theorem FrA.l {a b : Mi} {v : Int} (h : FrA a b) : FrA a (wl b 3 false 9 v) := ⟨fun r i j q => (rd_wl ..).trans (h.1 r i j q), fun r i j q => by
  rw [rl_wl, if_neg (fun w => q ⟨w.1, w.2.2⟩)]
  exact h.2 r i j q⟩
theorem FrB.w {a b : Mi} {k : Nat} {v : Int} (hk : 2 ≤ k ∧ k ≤ 4) (h : FrB a b) : FrB a (wr b 7 false k v) := ⟨fun r i j q => (rdx (by omega)).trans (h.1 r i j q), fun r i j q => (rl_wr ..).trans (h.2 r i j q)⟩
theorem FrB.l {a b : Mi} {v : Int} (h : FrB a b) : FrB a (wl b 7 false 5 v) := ⟨fun r i j q => (rd_wl ..).trans (h.1 r i j q), fun r i j q => by
  rw [rl_wl, if_neg (fun w => q ⟨w.1, w.2.2⟩)]
  exact h.2 r i j q⟩
theorem TXa.fr {tx : Nat → Int} {N : Nat} {a b : Mi} (h : TXa tx N a) (f : FrA a b) : TXa tx N b := ⟨(f.1 3 false 4 (by omega)).trans h.1, fun j hj => (f.1 41 false j (by omega)).trans (h.2 j hj)⟩
theorem TXb.fr {tx : Nat → Int} {N : Nat} {a b : Mi} (h : TXb tx N a) (f : FrB a b) : TXb tx N b := ⟨(f.1 7 false 1 (by omega)).trans h.1, fun j hj => (f.1 42 false j (by omega)).trans (h.2 j hj)⟩
theorem isLetter_X {tx : Nat → Int} {N x : Nat} {μ : Mi} (B : TB tx N) (h : TXa tx N μ) (hx : x < 500) : D_X3_isLetter (x : Int) μ = some (if ltr (tx x) = true then 1 else 0) := by
  have hb := B.2 x hx
  unfold D_X3_isLetter
  have hxb : 0 ≤ (x : Int) ∧ (x : Int) < 500 := by omega
  rw [wid (x := (x : Int)) (by omega) (by omega), if_pos hxb, if_pos hxb, ixn x (by omega), h.2 x hx, wid (x := tx x) (by omega) (by omega)]
  unfold ltr
  simp only [decide_eq_true_eq]
  repeat' split
  all_goals first | rfl | omega
theorem isDigit_X {tx : Nat → Int} {N x : Nat} {μ : Mi} (B : TB tx N) (h : TXa tx N μ) (hx : x < 500) : D_X3_isDigit (x : Int) μ = some (if dgt (tx x) = true then 1 else 0) := by
  have hb := B.2 x hx
  unfold D_X3_isDigit
  have hxb : 0 ≤ (x : Int) ∧ (x : Int) < 500 := by omega
  rw [wid (x := (x : Int)) (by omega) (by omega), if_pos hxb, if_pos hxb, ixn x (by omega), h.2 x hx, wid (x := tx x) (by omega) (by omega)]
  unfold dgt
  simp only [decide_eq_true_eq]
  repeat' split
  all_goals first | rfl | omega
theorem isLetter_M {v : Int} (h : -128 ≤ v ∧ v ≤ 127) : D_X7_isLetter v = if ltr v = true then 1 else 0 := by
  unfold D_X7_isLetter ltr
  rw [wid (x := v) (by omega) (by omega)]
  simp only [decide_eq_true_eq]
  repeat' split
  all_goals first | rfl | omega
theorem isDigit_M {v : Int} (h : -128 ≤ v ∧ v ≤ 127) : D_X7_isDigit v = if dgt v = true then 1 else 0 := by
  unfold D_X7_isDigit dgt
  rw [wid (x := v) (by omega) (by omega)]
  simp only [decide_eq_true_eq]
  repeat' split
  all_goals first | rfl | omega
/-- the codes of words -/
def k32 (f : Nat → Int) : Nat → Int
  | 0 => 0
  | d + 1 => k32 f d * 32 + (f d - 96)
def k256 (f : Nat → Int) : Nat → Int
  | 0 => 0
  | d + 1 => k256 f d * 256 + f d
def lts (f : Nat → Int) (d : Nat) : Prop := ∀ j, j < d → 97 ≤ f j ∧ f j ≤ 122
def smW (f : Nat → Int) (d : Nat) (g : Nat → Int) (e : Nat) : Prop := d = e ∧ ∀ j, j < d → f j = g j
theorem k32_b {f : Nat → Int} : ∀ d, lts f d → 0 ≤ k32 f d ∧ (0 < d → 1 ≤ k32 f d)
  | 0, _ => ⟨Int.le_refl _, fun h => by omega⟩
  | d + 1, h => by
    have ih := (k32_b d (fun j hj => h j (by omega))).1
    have := h d (by omega)
    rw [k32]
    exact ⟨by omega, fun _ => by omega⟩
theorem k256_b {f : Nat → Int} : ∀ d, lts f d → 0 ≤ k256 f d ∧ (0 < d → 1 ≤ k256 f d)
  | 0, _ => ⟨Int.le_refl _, fun h => by omega⟩
  | d + 1, h => by
    have ih := (k256_b d (fun j hj => h j (by omega))).1
    have := h d (by omega)
    rw [k256]
    exact ⟨by omega, fun _ => by omega⟩
theorem k32_inj {f g : Nat → Int} : ∀ d e, lts f d → lts g e → k32 f d = k32 g e → smW f d g e
  | 0, 0, _, _, _ => ⟨rfl, fun j hj => by omega⟩
  | 0, e + 1, _, h2, q => by
    have := (k32_b (e + 1) h2).2 (by omega)
    rw [← q] at this
    have h3 : (1 : Int) ≤ 0 := this
    omega
  | d + 1, 0, h1, _, q => by
    have := (k32_b (d + 1) h1).2 (by omega)
    rw [q] at this
    have h3 : (1 : Int) ≤ 0 := this
    omega
  | d + 1, e + 1, h1, h2, q => by
    have a := h1 d (by omega)
    have b := h2 e (by omega)
    rw [k32, k32] at q
    obtain ⟨i1, i2⟩ := k32_inj d e (fun j hj => h1 j (by omega)) (fun j hj => h2 j (by omega)) (by omega)
    refine ⟨by omega, fun j hj => ?_⟩
    by_cases z : j = d
    · subst z
      subst i1
      omega
    · exact i2 j (by omega)
theorem k256_inj {f g : Nat → Int} : ∀ d e, lts f d → lts g e → k256 f d = k256 g e → smW f d g e
  | 0, 0, _, _, _ => ⟨rfl, fun j hj => by omega⟩
  | 0, e + 1, _, h2, q => by
    have := (k256_b (e + 1) h2).2 (by omega)
    rw [← q] at this
    have h3 : (1 : Int) ≤ 0 := this
    omega
  | d + 1, 0, h1, _, q => by
    have := (k256_b (d + 1) h1).2 (by omega)
    rw [q] at this
    have h3 : (1 : Int) ≤ 0 := this
    omega
  | d + 1, e + 1, h1, h2, q => by
    have a := h1 d (by omega)
    have b := h2 e (by omega)
    rw [k256, k256] at q
    obtain ⟨i1, i2⟩ := k256_inj d e (fun j hj => h1 j (by omega)) (fun j hj => h2 j (by omega)) (by omega)
    refine ⟨by omega, fun j hj => ?_⟩
    by_cases z : j = d
    · subst z
      subst i1
      omega
    · exact i2 j (by omega)
theorem k32_c {f g : Nat → Int} : ∀ d, (∀ j, j < d → f j = g j) → k32 f d = k32 g d
  | 0, _ => rfl
  | d + 1, h => by rw [k32, k32, k32_c d (fun j hj => h j (by omega)), h d (by omega)]
theorem k256_c {f g : Nat → Int} : ∀ d, (∀ j, j < d → f j = g j) → k256 f d = k256 g d
  | 0, _ => rfl
  | d + 1, h => by rw [k256, k256, k256_c d (fun j hj => h j (by omega)), h d (by omega)]
/-- short words have small codes -/
def p32 : Nat → Int
  | 0 => 1
  | d + 1 => p32 d * 32
def p256 : Nat → Int
  | 0 => 1
  | d + 1 => p256 d * 256
theorem k32_lt {f : Nat → Int} : ∀ d, lts f d → k32 f d < p32 d
  | 0, _ => by show (0 : Int) < 1; omega
  | d + 1, h => by
    have ih := k32_lt d (fun j hj => h j (by omega))
    have := h d (by omega)
    rw [k32, p32]
    omega
theorem k256_lt {f : Nat → Int} : ∀ d, lts f d → 2 * k256 f d < p256 d
  | 0, _ => by show (2 * 0 : Int) < 1; omega
  | d + 1, h => by
    have ih := k256_lt d (fun j hj => h j (by omega))
    have := h d (by omega)
    rw [k256, p256]
    omega
theorem p32_8 : ∀ d, d ≤ 8 → p32 d ≤ 1099511627776 := by decide
theorem p256_8 : ∀ d, d ≤ 8 → p256 d ≤ 18446744073709551616 := by decide
theorem p256_7 : ∀ d, d ≤ 7 → p256 d ≤ 72057594037927936 := by decide
theorem bv64 (a : Nat) (h : a < 9223372036854775808) : (Int64.ofInt (a : Int)).toBitVec.toNat = a := by
  rw [Int64.toBitVec_ofInt, BitVec.toNat_ofInt]
  omega
theorem ti64 (x : Int64) (h : x.toBitVec.toNat < 9223372036854775808) : x.toInt = (x.toBitVec.toNat : Int) := by
  rw [← Int64.toInt_toBitVec]
  exact BitVec.toInt_eq_toNat_of_lt (by omega)
theorem lshl8 (a : Nat) (h : a < 36028797018963968) : lshl (a : Int) 8 = ((a * 256 : Nat) : Int) := by
  have e : (Int64.ofInt (a : Int) <<< ((Int32.ofInt 8).toInt64 &&& 63)).toBitVec.toNat = a * 256 := by
    have e1 : (Int64.ofInt (a : Int) <<< ((Int32.ofInt 8).toInt64 &&& 63)).toBitVec = (Int64.ofInt (a : Int)).toBitVec <<< (((Int32.ofInt 8).toInt64 &&& 63).toBitVec.smod 64) := rfl
    have e2 : (((Int32.ofInt 8).toInt64 &&& 63).toBitVec.smod 64) = BitVec.ofNat 64 8 := by decide
    rw [e1, e2]
    have e3 : (Int64.ofInt (a : Int)).toBitVec <<< BitVec.ofNat 64 8 = (Int64.ofInt (a : Int)).toBitVec <<< 8 := by
      rw [BitVec.shiftLeft_eq']
      rfl
    rw [e3, BitVec.toNat_shiftLeft, bv64 a (by omega), Nat.shiftLeft_eq]
    omega
  unfold lshl
  rw [ti64 _ (by rw [e]; omega), e]
theorem lor_n (a b : Nat) (ha : a < 9223372036854775808) (hb : b < 9223372036854775808) : lor (a : Int) (b : Int) = ((a ||| b : Nat) : Int) := by
  have e : (Int64.ofInt (a : Int) ||| Int64.ofInt (b : Int)).toBitVec.toNat = a ||| b := by
    rw [Int64.toBitVec_or, BitVec.toNat_or, bv64 a ha, bv64 b hb]
  have h2 : a ||| b < 2 ^ 63 := Nat.or_lt_two_pow (by omega) (by omega)
  unfold lor
  rw [ti64 _ (by rw [e]; omega), e]
theorem lor8 {v x : Int} (h1 : 0 ≤ v) (h2 : v < 36028797018963968) (h3 : 0 ≤ x) (h4 : x < 256) : lor (lshl v 8) x = v * 256 + x := by
  obtain ⟨a, rfl⟩ : ∃ a : Nat, v = (a : Int) := ⟨v.toNat, by omega⟩
  obtain ⟨b, rfl⟩ : ∃ b : Nat, x = (b : Int) := ⟨x.toNat, by omega⟩
  rw [lshl8 a (by omega), lor_n _ b (by omega) (by omega)]
  have : a * 256 ||| b = a * 256 + b := by
    have := Nat.two_pow_add_eq_or_of_lt (i := 8) (b := b) (by omega : b < 2 ^ 8) a
    rw [show (2 : Nat) ^ 8 = 256 from rfl, Nat.mul_comm 256 a] at this
    exact this.symm
  rw [this]
  omega
