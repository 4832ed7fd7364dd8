/-! PURE: the reference counts as the class does -/
theorem ml_0 {L : List Nat} {e : Nat} : ∀ n, ml L e n = 0 ↔ ∀ q, q < n → e.testBit q = true
  | 0 => ⟨fun _ q hq => by omega, fun _ => rfl⟩
  | n + 1 => by
    have ih := ml_0 (L := L) (e := e) n
    rw [ml]
    by_cases z : e.testBit n = true
    · rw [if_pos z, ih]
      constructor
      · intro h q hq
        by_cases w : q = n
        · rw [w]; exact z
        · exact h q (by omega)
      · intro h q hq
        exact h q (by omega)
    · rw [if_neg z]
      constructor
      · intro h
        have : 2 ^ (L.getD n 0) = 0 := (Nat.or_eq_zero_iff.mp h).2
        have h2 := Nat.two_pow_pos (L.getD n 0)
        omega
      · intro h
        exact absurd (h n (by omega)) z
theorem all_bits {n e : Nat} (he : e < 2 ^ n) : (∀ q, q < n → e.testBit q = true) ↔ e = 2 ^ n - 1 := by
  constructor
  · intro h
    apply Nat.eq_of_testBit_eq
    intro q
    rw [Nat.testBit_two_pow_sub_one]
    by_cases z : q < n
    · rw [h q z]; simp [z]
    · rw [Nat.testBit_lt_two_pow (Nat.lt_of_lt_of_le he (Nat.pow_le_pow_right (by omega) (by omega)))]
      simp [z]
  · intro h q hq
    rw [h, Nat.testBit_two_pow_sub_one]
    simp [hq]
/-- at the end -/
theorem Tm_end {aim : Nat} {c : Co} {S L : List Nat} {pm : Nat} {T : Tb} (ha : aim ≤ 4) (hw : WF c) (hs : Sk c S L pm) (D : DP aim c S L pm T) {h k : Nat} (hh : (h : Int) = c 2 2) (v : VM c S L h k) (hp : pMs c pm h (k / 140) = 0) : Tm c T h k = if enK S L k then (if aim = 4 then 1 else 0) else -1 := by
  have vd := v.vd hw hs
  have d1 := (D h (cp c (k % 5)) (k / 140) (k / 20 % 7) (k / 5 % 4) (by omega) vd).1
  unfold Tm
  rw [d1]
  unfold rh
  rw [if_neg (by omega), hp]
  have e1 : fL aim c S L pm T h (cp c (k % 5)) (k / 140) (k / 20 % 7) (k / 5 % 4) (c 0 2).toNat = fL aim c S L pm T h (cp c (k % 5)) (k / 140) (k / 20 % 7) (k / 5 % 4) 0 := fL_stop _ (by omega) (fun q h1 h2 => by
    have hk : (q : Int) < c 0 2 := by omega
    cases hl : lvp c h q with
    | false => rfl
    | true =>
      have := can_h (t := 0) hw hk hl
      omega)
  unfold chg
  rw [if_pos (Or.inr rfl), e1, fL]
  unfold v0A vE
  rw [if_pos hh]
  have hb : (ml L (k / 5 % 4) L.length = 0) ↔ k / 5 % 4 = 2 ^ L.length - 1 := by
    rw [ml_0, all_bits v.2.2.2.1]
  by_cases q1 : k / 20 % 7 < S.length
  · rw [if_pos q1, if_neg (show ¬ enK S L k from fun z => by have := z.2; omega)]
  · have hS := v.2.2.1
    rw [if_neg q1]
    unfold chg
    by_cases q2 : k / 5 % 4 = 2 ^ L.length - 1
    · rw [if_pos (Or.inr (hb.mpr q2)), if_pos (show enK S L k from ⟨q2, by omega⟩)]
    · have h0 : ¬ ((if aim = 4 then (1 : Int) else 0) < 0 ∨ ml L (k / 5 % 4) L.length = 0) := by
        rintro (z | z)
        · split at z <;> omega
        · exact q2 (hb.mp z)
      rw [if_neg h0, if_neg (by omega), if_neg (show ¬ enK S L k from fun z => q2 z.1)]
theorem wj_pos {aim : Nat} {c : Co} (hw : WF c) {j : Nat} (hj : (j : Int) ≤ c 0 2) : 0 ≤ wj aim c j := by
  cases j with
  | zero => exact Int.le_refl 0
  | succ j =>
    obtain ⟨-, -, -, -, -, k9, -⟩ := hw.2.2.2.1 j (by omega)
    show 0 ≤ wtA aim c j
    unfold wtA
    repeat' split
    all_goals omega
theorem vj_rng {aim : Nat} {c : Co} {S L : List Nat} {pm : Nat} {T : Tb} (hw : WF c) {h k j : Nat} (hj : (j : Int) ≤ c 0 2) : -1 ≤ vj aim c S L pm T h k j := by
  have := wj_pos (aim := aim) hw hj
  unfold vj
  split
  · omega
  · split <;> omega
theorem jn_pos {aim : Nat} {a b : Int} (ha : -1 ≤ a) (hb : -1 ≤ b) : -1 ≤ jn aim a b ∧ (0 ≤ jn aim a b ↔ 0 ≤ a ∨ 0 ≤ b) := by
  unfold jn
  repeat' split
  all_goals omega
theorem fj_pos {aim : Nat} {c : Co} {S L : List Nat} {pm : Nat} {T : Tb} (hw : WF c) {h k : Nat} : ∀ n : Nat, (n : Int) ≤ c 0 2 + 1 → -1 ≤ fj aim c S L pm T h k n ∧ (0 ≤ fj aim c S L pm T h k n ↔ ∃ j, j < n ∧ 0 ≤ vj aim c S L pm T h k j)
  | 0, _ => ⟨by rw [fj]; omega, ⟨fun z => by rw [fj] at z; omega, fun ⟨j, z, _⟩ => by omega⟩⟩
  | n + 1, hn => by
    obtain ⟨a1, a2⟩ := fj_pos (aim := aim) (S := S) (L := L) (pm := pm) (T := T) hw (h := h) (k := k) n (by omega)
    have b1 := vj_rng (aim := aim) (S := S) (L := L) (pm := pm) (T := T) hw (h := h) (k := k) (j := n) (by omega)
    obtain ⟨c1, c2⟩ := jn_pos (aim := aim) a1 b1
    rw [fj]
    refine ⟨c1, c2.trans ?_⟩
    rw [a2]
    constructor
    · rintro (⟨j, z1, z2⟩ | z)
      · exact ⟨j, by omega, z2⟩
      · exact ⟨n, by omega, z⟩
    · rintro ⟨j, z1, z2⟩
      by_cases w : j = n
      · right; rw [← w]; exact z2
      · left; exact ⟨j, by omega, z2⟩
/-- what is come to and goes on comes of a start that goes on -/
theorem reach_up {aim : Nat} {μ : Mi} {i : Bool} {c : Co} {S L : List Nat} {pm : Nat} {T : Tb} (ha : aim ≤ 4) (F : FI μ i c S L pm (c 2 2).toNat 0 0) (D : DP aim c S L pm T) : ∀ (n g k : Nat), g ≤ n → (g : Int) ≤ c 2 2 → k < 1120 → ic μ g k = 1 → 0 ≤ Tm c T g k → 0 ≤ Tm c T 0 (sK c L) := by
  have hw := F.1.2.1
  have hs := F.1.2.2.1
  intro n
  induction n with
  | zero =>
    intro g k hg hle hk h1 h2
    rcases F.2.2.2.1 g k hle hk h1 with ⟨z1, z2⟩ | ⟨h', k2, j', z, _⟩
    · rw [z1, z2] at h2; exact h2
    · omega
  | succ n ih =>
    intro g k hg hle hk h1 h2
    rcases F.2.2.2.1 g k hle hk h1 with ⟨z1, z2⟩ | ⟨h', k2, j', z1, z2, z3, z4, z5⟩
    · rw [z1, z2] at h2; exact h2
    · obtain ⟨v, vp⟩ := F.2.2.1 h' k2 (by omega) z2 z4
      refine ih h' k2 (by omega) (by omega) z2 z4 ?_
      rw [Tm_fold ha hw hs D (by omega) v vp]
      refine ((fj_pos hw _ (by have := hw.2.1; omega)).2).mpr ⟨j', by omega, ?_⟩
      have := wj_pos (aim := aim) hw z3
      unfold vj
      rw [z5]
      simp only
      rw [if_neg (by omega)]
      omega
/-- what is come to and goes on comes to an end -/
theorem reach_down {aim : Nat} {μ : Mi} {i : Bool} {c : Co} {S L : List Nat} {pm : Nat} {T : Tb} (ha : aim ≤ 4) (F : FI μ i c S L pm (c 2 2).toNat 0 0) (D : DP aim c S L pm T) : ∀ (n g k : Nat), (c 2 2).toNat ≤ g + n → (g : Int) ≤ c 2 2 → k < 1120 → ic μ g k = 1 → 0 ≤ Tm c T g k → ∃ k', k' < 1120 ∧ ic μ (c 2 2).toNat k' = 1 ∧ enK S L k' := by
  have hw := F.1.2.1
  have hs := F.1.2.2.1
  intro n
  induction n with
  | zero =>
    intro g k hg hle hk h1 h2
    have hge : g = (c 2 2).toNat := by omega
    subst hge
    obtain ⟨v, vp⟩ := F.2.2.1 _ k hle hk h1
    rw [Tm_end ha hw hs D (by omega) v vp] at h2
    refine ⟨k, hk, h1, ?_⟩
    split at h2
    · assumption
    · omega
  | succ n ih =>
    intro g k hg hle hk h1 h2
    by_cases hge : (g : Int) = c 2 2
    · have hge : g = (c 2 2).toNat := by omega
      subst hge
      obtain ⟨v, vp⟩ := F.2.2.1 _ k hle hk h1
      rw [Tm_end ha hw hs D (by omega) v vp] at h2
      refine ⟨k, hk, h1, ?_⟩
      split at h2
      · assumption
      · omega
    · obtain ⟨v, vp⟩ := F.2.2.1 g k hle hk h1
      rw [Tm_fold ha hw hs D (by omega) v vp] at h2
      obtain ⟨j, z1, z2⟩ := ((fj_pos hw _ (by have := hw.2.1; omega)).2).mp h2
      have hnl := hw.2.1
      have hj : (j : Int) ≤ c 0 2 := by omega
      unfold vj at z2
      cases hG : mG c S L pm g k j with
      | none => rw [hG] at z2; simp only at z2; omega
      | some q =>
        obtain ⟨g', k'⟩ := q
        rw [hG] at z2
        simp only at z2
        obtain ⟨o1, o2, o3, o4⟩ := mG_ok hw hs (by omega) v hj hG
        have hic := F.2.2.2.2.1 g k j g' k' (Or.inl (by omega)) (by omega) hk hj h1 hG
        refine ih g' k' (by omega) o2 o3.1 hic ?_
        split at z2 <;> omega
/-- finds, by the class's values -/
theorem finds_T {aim : Nat} {μ : Mi} {i : Bool} {c : Co} {S L : List Nat} {pm : Nat} {T : Tb} (ha : aim ≤ 4) (P : Pm μ i c S L pm) (D : DP aim c S L pm T) : ∃ r m, D_X7_finds μ = some (r, m) ∧ Pm m i c S L pm ∧ (r = 0 ∨ r = 1) ∧ (r = 1 ↔ 0 ≤ Tm c T 0 (sK c L)) ∧ (r = 1 → FI m i c S L pm (c 2 2).toNat 0 0) := by
  have hw := P.2.1
  have hs := P.2.2.1
  have hen := hw.2.2.2.2.2.2.2.1
  obtain ⟨r, m, h1, h2, h3⟩ := finds_M P
  obtain ⟨vs, s1, -⟩ := sK_VM (S := S) (pm := pm) hw hs
  refine ⟨r, m, h1, h2, ?_⟩
  rcases h3 with ⟨q, rfl⟩ | ⟨q, F, hr⟩
  · have := T_miss ha D (by omega) (vs.vd hw hs) (by rw [s1]; exact q)
    refine ⟨Or.inl rfl, ⟨fun z => by omega, fun z => ?_⟩, fun z => by omega⟩
    unfold Tm at z
    omega
  · rcases hr with ⟨rfl, k, k1, k2, k3⟩ | ⟨rfl, hno⟩
    · obtain ⟨v, vp⟩ := F.2.2.1 _ k (by omega) k1 k2
      refine ⟨Or.inr rfl, ⟨fun _ => reach_up ha F D (c 2 2).toNat _ k (by omega) (by omega) k1 k2 ?_, fun _ => rfl⟩, fun _ => F⟩
      rw [Tm_end ha hw hs D (by omega) v vp, if_pos k3]
      split <;> omega
    · refine ⟨Or.inl rfl, ⟨fun z => by omega, fun z => ?_⟩, fun z => by omega⟩
      obtain ⟨k', a, b, c'⟩ := reach_down ha F D (c 2 2).toNat 0 (sK c L) (by omega) (by omega) vs.1 F.2.2.2.2.2 z
      exact absurd c' (hno k' a b)
