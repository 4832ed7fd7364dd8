/-! PURE: the invariant between class and reference -/
def R32 (x : Int) : Prop := -2147483648 ≤ x ∧ x ≤ 2147483647
def mi (i : Bool) : Nat := if i then 1 else 0
def IText (μ : Mi) : Prop := 0 ≤ rd μ 6 false 1 ∧ rd μ 6 false 1 ≤ 500 ∧ rd μ 7 false 1 = rd μ 6 false 1 ∧ ∀ j : Nat, j < 500 → rd μ 42 false j = rd μ 41 false j ∧ -128 ≤ rd μ 41 false j ∧ rd μ 41 false j ≤ 127
/-- a link's stamping land: of the town a, if the other town b lies in another land and the land of a stamps so (1 in, 2 out) -/
def stL0 (μ : Mi) (a b w : Int) : Int := if rd μ 11 false a.toNat = rd μ 11 false b.toNat then -1 else if rd μ 10 false (rd μ 11 false a.toNat).toNat / w % 2 = 1 then rd μ 11 false a.toNat else -1
def ILand (μ : Mi) (k : Nat) : Prop := 0 ≤ rd μ 10 false k ∧ rd μ 10 false k ≤ 3 ∧ rd μ 49 false k = rd μ 10 false k
def ITown (μ : Mi) (k : Nat) : Prop := 0 ≤ rd μ 11 false k ∧ rd μ 11 false k < rd μ 0 false 0 ∧ rd μ 50 false k = rd μ 11 false k ∧ -12 ≤ rd μ 12 false k ∧ rd μ 12 false k ≤ 12 ∧ rd μ 51 false k = rd μ 12 false k
def ILink (μ : Mi) (k : Nat) : Prop := (0 ≤ rd μ 13 false k ∧ rd μ 13 false k < rd μ 0 false 1 ∧ rd μ 52 false (6 * k) = rd μ 13 false k) ∧ (0 ≤ rd μ 14 false k ∧ rd μ 14 false k < rd μ 0 false 1 ∧ rd μ 52 false (6 * k + 1) = rd μ 14 false k) ∧ ¬ rd μ 13 false k = rd μ 14 false k ∧ (0 ≤ rd μ 15 false k ∧ rd μ 15 false k ≤ 95 ∧ rd μ 52 false (6 * k + 2) = rd μ 15 false k) ∧ (1 ≤ rd μ 16 false k ∧ rd μ 16 false k ≤ 48 ∧ rd μ 52 false (6 * k + 3) = rd μ 16 false k) ∧ (0 ≤ rd μ 17 false k ∧ rd μ 17 false k ≤ 99 ∧ rd μ 52 false (6 * k + 4) = rd μ 17 false k) ∧ ((rd μ 18 false k = 0 ∨ rd μ 18 false k = 1) ∧ rd μ 52 false (6 * k + 5) = rd μ 18 false k) ∧ rd μ 19 false k = stL0 μ (rd μ 13 false k) (rd μ 14 false k) 2 ∧ rd μ 20 false k = stL0 μ (rd μ 14 false k) (rd μ 13 false k) 1
def IAtlas (μ : Mi) : Prop := (0 ≤ rd μ 0 false 0 ∧ rd μ 0 false 0 ≤ 4 ∧ rd μ 7 false 15 = rd μ 0 false 0) ∧ (0 ≤ rd μ 0 false 1 ∧ rd μ 0 false 1 ≤ 8 ∧ rd μ 7 false 17 = rd μ 0 false 1) ∧ (0 ≤ rd μ 0 false 2 ∧ rd μ 0 false 2 ≤ 16 ∧ rd μ 7 false 20 = rd μ 0 false 2) ∧ (∀ k : Nat, (k : Int) < rd μ 0 false 0 → ILand μ k) ∧ (∀ k : Nat, (k : Int) < rd μ 0 false 1 → ITown μ k) ∧ ∀ k : Nat, (k : Int) < rd μ 0 false 2 → ILink μ k
def ITr (μ : Mi) (i : Bool) (t : Nat) : Prop := (rd μ 24 i t = 0 ∨ rd μ 24 i t = 1 ∨ rd μ 24 i t = 2) ∧ 0 ≤ rd μ 25 i t ∧ (rd μ 24 i t = 0 → rd μ 25 i t < rd μ 0 false 0) ∧ (¬ rd μ 24 i t = 0 → rd μ 25 i t < rd μ 0 false 1) ∧ rd μ 26 i t ≤ rd μ 27 i t ∧ (rd μ 24 i t = 0 → -1 ≤ rd μ 26 i t ∧ rd μ 27 i t ≤ 5) ∧ (¬ rd μ 24 i t = 0 → 0 ≤ rd μ 26 i t ∧ rd μ 27 i t ≤ 96) ∧ (rd μ 24 i t = 1 → rd μ 27 i t = rd μ 26 i t) ∧ (rd μ 28 i t = 0 ∨ rd μ 28 i t = 1) ∧ (rd μ 29 i t = 0 ∨ rd μ 29 i t = 1)
def ITm (μ : Mi) (i : Bool) (t : Nat) : Prop := rd μ 57 false (8 * mi i + t) = rd μ 24 i t ∧ rd μ 58 false (8 * mi i + t) = rd μ 25 i t ∧ rd μ 59 false (8 * mi i + t) = rd μ 26 i t ∧ rd μ 60 false (8 * mi i + t) = rd μ 27 i t ∧ rd μ 61 false (8 * mi i + t) = rd μ 28 i t ∧ rd μ 62 false (8 * mi i + t) = rd μ 29 i t
/-- how many below n -/
def cn (p : Nat → Bool) : Nat → Nat
  | 0 => 0
  | n + 1 => cn p n + (if p n then 1 else 0)
theorem cn_le (p : Nat → Bool) : ∀ n, cn p n ≤ n
  | 0 => Nat.le_refl 0
  | n + 1 => by
    have := cn_le p n
    rw [cn]
    split <;> omega
theorem cn_cong {p q : Nat → Bool} : ∀ n, (∀ k, k < n → p k = q k) → cn p n = cn q n
  | 0, _ => rfl
  | n + 1, h => by rw [cn, cn, cn_cong n (fun k hk => h k (by omega)), h n (by omega)]
def kd (μ : Mi) (i : Bool) (w : Int) (t : Nat) : Bool := decide (rd μ 24 i t = w)
def IMan (μ : Mi) (i : Bool) : Prop := (0 ≤ rd μ 2 i 3 ∧ rd μ 2 i 3 ≤ 8 ∧ rd μ 56 false (mi i) = rd μ 2 i 3) ∧ (0 < rd μ 0 false 1 → (0 ≤ rd μ 2 i 0 ∧ rd μ 2 i 0 < rd μ 0 false 1 ∧ rd μ 53 false (mi i) = rd μ 2 i 0) ∧ (0 ≤ rd μ 2 i 1 ∧ rd μ 2 i 1 ≤ 4 ∧ rd μ 54 false (mi i) = rd μ 2 i 1) ∧ (1 ≤ rd μ 2 i 2 ∧ rd μ 2 i 2 ≤ 96 ∧ rd μ 55 false (mi i) = rd μ 2 i 2)) ∧ (∀ t : Nat, (t : Int) < rd μ 2 i 3 → ITr μ i t ∧ ITm μ i t) ∧ cn (kd μ i 0) (rd μ 2 i 3).toNat ≤ 6 ∧ cn (kd μ i 2) (rd μ 2 i 3).toNat ≤ 2
def IStory (μ : Mi) : Prop := (0 ≤ rd μ 5 false 0 ∧ rd μ 5 false 0 ≤ 20 ∧ rd μ 7 false 32 = rd μ 5 false 0) ∧ ∀ k : Nat, (k : Int) < rd μ 5 false 0 → (0 ≤ rd μ 37 false k ∧ rd μ 37 false k < rd μ 0 false 2 ∧ rd μ 63 false k = rd μ 37 false k) ∧ (0 ≤ rd μ 38 false k ∧ rd μ 38 false k ≤ 96 ∧ rd μ 64 false k = rd μ 38 false k)
def Inv0 (μ : Mi) : Prop := IText μ ∧ IAtlas μ ∧ (∀ i, IMan μ i) ∧ IStory μ ∧ ∀ i, rd μ 2 i 4 = 0 ∨ rd μ 2 i 4 = 1
/-- what a man's answers hang on: the atlas and the man -/
def cr (μ : Mi) (i : Bool) (r k : Nat) : Int := if r = 0 ∨ (10 ≤ r ∧ r ≤ 20) then rd μ r false k else if (r = 2 ∧ k < 4) ∨ (24 ≤ r ∧ r ≤ 29) then rd μ r i k else 0
/-- what was found out about a man -/
def fd (μ : Mi) (i : Bool) (r k : Nat) : Int := if r = 1 ∨ (21 ≤ r ∧ r ≤ 23) then rd μ r i k else 0
def Kp (μ m : Mi) (i : Bool) : Prop := rd m 2 i 4 = 1 ∨ (cr m i = cr μ i ∧ fd m i = fd μ i ∧ rd m 2 i 4 = rd μ 2 i 4)
def Step (μ m : Mi) : Prop := Inv0 m ∧ ∀ i, Kp μ m i
def OpE (f g : Mi → Option (Int × Mi)) (μ : Mi) : Prop := ∃ r m1 m2, f μ = some (r, m1) ∧ g m1 = some (r, m2) ∧ Step μ m2
def OpP (f g : Mi → Option Int) (μ : Mi) : Prop := ∃ r, f μ = some r ∧ g μ = some r
theorem Kp.rf {μ : Mi} {i : Bool} : Kp μ μ i := Or.inr ⟨rfl, rfl, rfl⟩
theorem Step.rf {μ : Mi} (h : Inv0 μ) : Step μ μ := ⟨h, fun _ => Kp.rf⟩
theorem OpE.same {f g : Mi → Option (Int × Mi)} {μ : Mi} (h : Inv0 μ) (r : Int) (h1 : f μ = some (r, μ)) (h2 : g μ = some (r, μ)) : OpE f g μ := ⟨r, μ, μ, h1, h2, Step.rf h⟩
/-- nothing of what matters to the men has changed -/
theorem Kp.of {μ m : Mi} {i : Bool} (h : ∀ r k, r = 0 ∨ (10 ≤ r ∧ r ≤ 20) → rd m r false k = rd μ r false k) (h2 : ∀ r k, r = 1 ∨ r = 2 ∨ (21 ≤ r ∧ r ≤ 29) → rd m r i k = rd μ r i k) : Kp μ m i := by
  refine Or.inr ⟨?_, ?_, h2 2 4 (by omega)⟩
  · funext r k
    unfold cr
    split
    · rename_i q; exact h r k q
    · split
      · rename_i q; exact h2 r k (by omega)
      · rfl
  · funext r k
    unfold fd
    split
    · rename_i q; exact h2 r k (by omega)
    · rfl
theorem in_eq {v lo hi : Int} (h1 : w32 v = v) (h2 : w32 lo = lo) (h3 : w32 hi = hi) : D_X7_in v lo hi = if lo ≤ v ∧ v ≤ hi then 1 else 0 := by
  unfold D_X7_in
  rw [h1, h2, h3]
  by_cases c1 : v < lo
  · rw [if_pos c1, if_neg (by omega)]
  · rw [if_neg c1]
    by_cases c2 : hi < v
    · rw [if_pos c2, if_neg (by omega)]
    · rw [if_neg c2, if_pos (by omega)]
theorem w32_ite {c : Prop} [Decidable c] (a b : Int) : w32 (if c then a else b) = if c then w32 a else w32 b := by split <;> rfl
theorem b10 {c : Prop} [Decidable c] : (w32 (if c then 1 else 0) = 0) ↔ ¬ c := by
  by_cases h : c
  · rw [if_pos h]; exact ⟨fun q => absurd q (by decide), fun q => absurd h q⟩
  · rw [if_neg h]; exact ⟨fun _ => h, fun _ => by decide⟩
theorem isB_ite {c : Prop} [Decidable c] : isB (if c then 1 else 0) := by
  split
  · exact isB_1
  · exact isB_0
theorem isMan_X {μ : Mi} (h : IAtlas μ) {x : Int} (hx : R32 x) : D_X6_isMan x μ = if 0 < rd μ 0 false 1 ∧ (x = 0 ∨ x = 1) then 1 else 0 := by
  obtain ⟨-, ⟨a1, a2, a3⟩, -⟩ := h
  unfold D_X6_isMan
  rw [wid hx.1 hx.2, wid (x := rd μ 0 false 1) (by omega) (by omega)]
  by_cases c1 : rd μ 0 false 1 ≤ 0
  · rw [if_pos c1, if_neg (by omega)]
  · rw [if_neg c1]
    by_cases c2 : x = 0
    · rw [if_pos c2, if_pos (by omega)]
    · rw [if_neg c2]
      by_cases c3 : x = 1
      · rw [if_neg (by omega), if_pos (by omega)]
      · rw [if_pos c3, if_neg (by omega)]
theorem isMan_M {μ : Mi} (h : rd μ 7 false 17 = rd μ 0 false 1) (h0 : 0 ≤ rd μ 0 false 1) (h1 : rd μ 0 false 1 ≤ 8) {x : Int} (hx : R32 x) : D_X7_isMan x μ = if 0 < rd μ 0 false 1 ∧ (x = 0 ∨ x = 1) then 1 else 0 := by
  unfold D_X7_isMan
  rw [h, wid (x := rd μ 0 false 1) (by omega) (by omega), in_eq (wid hx.1 hx.2) (by decide) (by decide)]
  by_cases c1 : rd μ 0 false 1 ≤ 0
  · rw [if_pos c1, if_neg (by omega)]
  · rw [if_neg c1]
    by_cases c2 : (0 : Int) ≤ x ∧ x ≤ 1
    · rw [if_pos c2, if_neg (by decide), if_pos (by omega)]
    · rw [if_neg c2, if_pos (by decide), if_neg (by omega)]
theorem hasTown_X {μ : Mi} {i : Bool} (h0 : 0 ≤ rd μ 0 i 1) (h1 : rd μ 0 i 1 ≤ 8) {x : Int} (hx : R32 x) : D_X0_hasTown i x μ = if 0 ≤ x ∧ x < rd μ 0 i 1 then 1 else 0 := by
  unfold D_X0_hasTown
  rw [wid hx.1 hx.2, wid (x := rd μ 0 i 1) (by omega) (by omega)]
  by_cases c1 : x < 0
  · rw [if_pos c1, if_neg (by omega)]
  · rw [if_neg c1]
    by_cases c2 : rd μ 0 i 1 ≤ x
    · rw [if_pos c2, if_neg (by omega)]
    · rw [if_neg c2, if_pos (by omega)]
theorem hasLand_X {μ : Mi} {i : Bool} (h0 : 0 ≤ rd μ 0 i 0) (h1 : rd μ 0 i 0 ≤ 4) {x : Int} (hx : R32 x) : D_X0_hasLand i x μ = if 0 ≤ x ∧ x < rd μ 0 i 0 then 1 else 0 := by
  unfold D_X0_hasLand
  rw [wid hx.1 hx.2, wid (x := rd μ 0 i 0) (by omega) (by omega)]
  by_cases c1 : x < 0
  · rw [if_pos c1, if_neg (by omega)]
  · rw [if_neg c1]
    by_cases c2 : rd μ 0 i 0 ≤ x
    · rw [if_pos c2, if_neg (by omega)]
    · rw [if_neg c2, if_pos (by omega)]
theorem hasLink_X {μ : Mi} {i : Bool} (h0 : 0 ≤ rd μ 0 i 2) (h1 : rd μ 0 i 2 ≤ 16) {x : Int} (hx : R32 x) : D_X0_hasLink i x μ = if 0 ≤ x ∧ x < rd μ 0 i 2 then 1 else 0 := by
  unfold D_X0_hasLink
  rw [wid hx.1 hx.2, wid (x := rd μ 0 i 2) (by omega) (by omega)]
  by_cases c1 : x < 0
  · rw [if_pos c1, if_neg (by omega)]
  · rw [if_neg c1]
    by_cases c2 : rd μ 0 i 2 ≤ x
    · rw [if_pos c2, if_neg (by omega)]
    · rw [if_neg c2, if_pos (by omega)]
theorem isHour_X {x : Int} (hx : R32 x) : D_X6_isHour x = if 0 ≤ x ∧ x ≤ 96 then 1 else 0 := by
  unfold D_X6_isHour
  rw [wid hx.1 hx.2]
  by_cases c1 : x < 0
  · rw [if_pos c1, if_neg (by omega)]
  · rw [if_neg c1]
    by_cases c2 : 96 < x
    · rw [if_pos c2, if_neg (by omega)]
    · rw [if_neg c2, if_pos (by omega)]
theorem isTown_M {μ : Mi} {n : Int} (h : rd μ 7 false 17 = n) (h0 : 0 ≤ n) (h1 : n ≤ 8) {x : Int} (hx : R32 x) : D_X7_isTown x μ = some (if 0 ≤ x ∧ x < n then 1 else 0) := by
  unfold D_X7_isTown
  have e : D_X7_in x 0 (rd μ 7 false 17 - 1) = if 0 ≤ x ∧ x < n then 1 else 0 := by
    rw [in_eq (wid hx.1 hx.2) (by decide) (wid (by omega) (by omega)), h]
    by_cases c : 0 ≤ x ∧ x < n
    · rw [if_pos c, if_pos (by omega)]
    · rw [if_neg c, if_neg (by omega)]
  rw [e, if_pos isB_ite]
theorem isLink_M {μ : Mi} {n : Int} (h : rd μ 7 false 20 = n) (h0 : 0 ≤ n) (h1 : n ≤ 16) {x : Int} (hx : R32 x) : D_X7_isLink x μ = some (if 0 ≤ x ∧ x < n then 1 else 0) := by
  unfold D_X7_isLink
  have e : D_X7_in x 0 (rd μ 7 false 20 - 1) = if 0 ≤ x ∧ x < n then 1 else 0 := by
    rw [in_eq (wid hx.1 hx.2) (by decide) (wid (by omega) (by omega)), h]
    by_cases c : 0 ≤ x ∧ x < n
    · rw [if_pos c, if_pos (by omega)]
    · rw [if_neg c, if_neg (by omega)]
  rw [e, if_pos isB_ite]
theorem searchOf_X {μ : Mi} {x : Int} (h : x = 0 ∨ x = 1) : D_X6_searchOf x μ = decide (x = 1) := by
  rcases h with h | h <;> subst h <;> rfl
theorem mi_of {x : Int} (h : x = 0 ∨ x = 1) : mi (decide (x = 1)) = x.toNat ∧ ix x = x.toNat ∧ w32 x = x := by
  rcases h with h | h <;> subst h <;> decide
