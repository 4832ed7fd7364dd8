/-! PURE: mayBits, whole; may -/
theorem mB_89 {i : Bool} {c : Co} {S L : List Nat} {pm : Nat} {U : Tb} {H h x0 : Nat} {k80 : Int → Int → Int → Mi → Option (Int × Mi)} (E : DP 4 c S L pm U) (hx0 : x0 < 256) (hH : (H : Int) ≤ c 2 2) (hh : h < H) : ∀ (d n k x : Nat) (μ : Mi), k + d = 1120 → d < n → CI μ i c S L pm U 0 1120 → MB μ c S L pm U H x0 x h k 0 → ∃ m y, B_X7_mayBits_89 k80 n (H : Int) (x : Int) (h : Int) (k : Int) μ = k80 (H : Int) ((y : Nat) : Int) ((h + 1 : Nat) : Int) m ∧ CI m i c S L pm U 0 1120 ∧ MB m c S L pm U H x0 y (h + 1) 0 0 ∧ ∀ g k', ic m g k' = ic μ g k' := by
  have ho := or8 (x := x0) (by omega)
  intro d
  induction d with
  | zero =>
    intro n k x μ hk hn C B
    obtain ⟨n, rfl⟩ : ∃ q, n = q + 1 := ⟨n - 1, by omega⟩
    refine ⟨μ, x, ?_, C, B.mono (fun _ h' k' j' d a b _ _ => ?_), fun _ _ => rfl⟩
    · rw [B_X7_mayBits_89_s, F_X7_mayBits_89, wid (x := (k : Int)) (by omega) (by omega), if_pos (by omega)]
      unfold B_X7_mayBits_199
      rw [show (h : Int) + 1 = ((h + 1 : Nat) : Int) by omega]
    · rcases d with d | d
      · by_cases z : h' = h
        · exact Or.inr ⟨z, Or.inl (by omega)⟩
        · exact Or.inl (by omega)
      · omega
  | succ d ih =>
    intro n k x μ hk hn C B
    obtain ⟨n, rfl⟩ : ∃ q, n = q + 1 := ⟨n - 1, by omega⟩
    have hw := C.1.1.2.1
    have hnl := hw.2.1
    have hen := hw.2.2.2.2.2.2.2.1
    have hk1 : k < 1120 := by omega
    have hic := C.1.2.1 h k (by omega) hk1
    obtain ⟨X, hX⟩ : ∃ X, X = h * 1120 + k := ⟨_, rfl⟩
    have hXr : 0 ≤ (X : Int) ∧ (X : Int) < 108640 := by omega
    have e72 : rd μ 72 false X = ic μ h k := by rw [hX]; rfl
    have hx : x < 512 := by rcases B with ⟨b, -⟩ | ⟨b, -⟩ <;> omega
    have e193 : ∀ y : Int, ∀ m, B_X7_mayBits_193 k80 (B_X7_mayBits_89 k80 n) (H : Int) y (h : Int) (k : Int) m = B_X7_mayBits_89 k80 n (H : Int) y (h : Int) ((k + 1 : Nat) : Int) m := fun y m => by
      unfold B_X7_mayBits_193
      rw [show (k : Int) + 1 = ((k + 1 : Nat) : Int) by omega]
    have head : B_X7_mayBits_89 k80 (n + 1) (H : Int) (x : Int) (h : Int) (k : Int) μ = if 256 ≤ (x : Int) then k80 (H : Int) (x : Int) ((h + 1 : Nat) : Int) μ else if ¬ ic μ h k = 0 then B_X7_mayBits_127 k80 (B_X7_mayBits_89 k80 n) FU (H : Int) (x : Int) (h : Int) (k : Int) 0 μ else B_X7_mayBits_89 k80 n (H : Int) (x : Int) (h : Int) ((k + 1 : Nat) : Int) μ := by
      rw [B_X7_mayBits_89_s, F_X7_mayBits_89, wid (x := (k : Int)) (by omega) (by omega), if_neg (by omega), wid (x := (x : Int)) (by omega) (by omega), show (h : Int) * 1120 + (k : Int) = (X : Int) by omega, wid (x := (X : Int)) (by omega) (by omega), if_pos hXr, ixn X (by omega), e72, wid (x := ic μ h k) (by omega) (by omega), e193]
      unfold B_X7_mayBits_199
      rw [show (h : Int) + 1 = ((h + 1 : Nat) : Int) by omega]
    rw [head]
    by_cases z : 256 ≤ (x : Int)
    · rw [if_pos z]
      refine ⟨μ, x, rfl, C, ?_, fun _ _ => rfl⟩
      rcases B with ⟨b, -⟩ | b
      · omega
      · exact Or.inr b
    · rw [if_neg z]
      by_cases y : ic μ h k = 0
      · rw [if_neg (fun w => w y)]
        refine ih n (k + 1) x μ (by omega) (by omega) C (B.mono (fun _ h' k' j' d _ _ _ w => ?_))
        rcases d with d | ⟨d1, d2 | ⟨d2, d3⟩⟩
        · exact Or.inl d
        · refine Or.inr ⟨d1, ?_⟩
          by_cases v : k' = k
          · rw [v, d1, y] at w; omega
          · exact Or.inl (by omega)
        · omega
      · rw [if_pos y]
        obtain ⟨m1, y1, a1, a2, a3, a4⟩ := mB_127 (k80 := k80) (k89 := B_X7_mayBits_89 k80 n) E hx0 hH hh hk1 (c 0 2).toNat FU 0 x μ (by omega) (FU_gt (by omega)) C (by omega) B
        obtain ⟨m, y2, b1, b2, b3, b4⟩ := ih n (k + 1) y1 m1 (by omega) (by omega) a2 a3
        refine ⟨m, y2, ?_, b2, b3, fun g k' => (b4 g k').trans (a4 g k')⟩
        rw [show ((0 : Nat) : Int) = 0 from rfl] at a1
        exact a1.trans b1
theorem mB_80 {i : Bool} {c : Co} {S L : List Nat} {pm : Nat} {U : Tb} {H x0 : Nat} (E : DP 4 c S L pm U) (hx0 : x0 < 256) (hH : (H : Int) ≤ c 2 2) : ∀ (d n h x : Nat) (μ : Mi), h + d = H → d < n → CI μ i c S L pm U 0 1120 → MB μ c S L pm U H x0 x h 0 0 → ∃ m y, B_X7_mayBits_80 n (H : Int) (x : Int) (h : Int) μ = some (((y : Nat) : Int), m) ∧ CI m i c S L pm U 0 1120 ∧ MB m c S L pm U H x0 y H 0 0 ∧ ∀ g k', ic m g k' = ic μ g k' := by
  intro d
  induction d with
  | zero =>
    intro n h x μ hd hn C B
    obtain ⟨n, rfl⟩ : ∃ q, n = q + 1 := ⟨n - 1, by omega⟩
    have hen := C.1.1.2.1.2.2.2.2.2.2.2.1
    refine ⟨μ, x, ?_, C, by rw [show h = H by omega] at B; exact B, fun _ _ => rfl⟩
    rw [B_X7_mayBits_80_s, F_X7_mayBits_80, wid (x := (H : Int)) (by omega) (by omega), wid (x := (h : Int)) (by omega) (by omega), if_pos (by omega)]
  | succ d ih =>
    intro n h x μ hd hn C B
    obtain ⟨n, rfl⟩ : ∃ q, n = q + 1 := ⟨n - 1, by omega⟩
    have hen := C.1.1.2.1.2.2.2.2.2.2.2.1
    obtain ⟨m1, y1, a1, a2, a3, a4⟩ := mB_89 (k80 := B_X7_mayBits_80 n) E hx0 hH (h := h) (by omega) 1120 FU 0 x μ (by omega) (FU_gt (by omega)) C B
    obtain ⟨m, y2, b1, b2, b3, b4⟩ := ih n (h + 1) y1 m1 (by omega) (by omega) a2 a3
    refine ⟨m, y2, ?_, b2, b3, fun g k' => (b4 g k').trans (a4 g k')⟩
    rw [B_X7_mayBits_80_s, F_X7_mayBits_80, wid (x := (H : Int)) (by omega) (by omega), wid (x := (h : Int)) (by omega) (by omega), if_neg (by omega)]
    rw [show ((0 : Nat) : Int) = 0 from rfl] at a1
    exact a1.trans b1
/-- the reference's marks are what he may come to -/
theorem ic_Rch {μ : Mi} {i : Bool} {c : Co} {S L : List Nat} {pm : Nat} (F : FI μ i c S L pm (c 2 2).toNat 0 0) : ∀ g k : Nat, (g : Int) ≤ c 2 2 → k < 1120 → (ic μ g k = 1 ↔ Rch c S L pm g k) := by
  have hw := F.1.2.1
  have hs := F.1.2.2.1
  have hen := hw.2.2.2.2.2.2.2.1
  obtain ⟨vs, s1, -⟩ := sK_VM (S := S) (pm := pm) hw hs
  have hp : pMs c pm 0 (c 2 0).toNat = 0 := by
    have := (F.2.2.1 0 (sK c L) (by omega) vs.1 F.2.2.2.2.2).2
    rw [s1] at this
    exact this
  have fwd : ∀ n g k : Nat, g ≤ n → (g : Int) ≤ c 2 2 → k < 1120 → ic μ g k = 1 → Rch c S L pm g k := by
    intro n
    induction n with
    | zero =>
      intro g k hg hle hk h1
      rcases F.2.2.2.1 g k hle hk h1 with ⟨z1, z2⟩ | ⟨h', k2, j', z, _⟩
      · rw [z1, z2]; exact Rch.st hp
      · omega
    | succ n ih =>
      intro g k hg hle hk h1
      rcases F.2.2.2.1 g k hle hk h1 with ⟨z1, z2⟩ | ⟨h', k2, j', z1, z2, z3, z4, z5⟩
      · rw [z1, z2]; exact Rch.st hp
      · exact Rch.mv (ih h' k2 (by omega) (by omega) z2 z4) (by omega) z3 z5
  have bwd : ∀ n g k : Nat, Rcn c S L pm n g k → ic μ g k = 1 := by
    intro n
    induction n with
    | zero =>
      rintro g k ⟨rfl, rfl, -⟩
      exact F.2.2.2.2.2
    | succ n ih =>
      rintro g k ⟨h, k2, j, r, a, b, d⟩
      have v := (Rch.vm hw hs n h k2 r).2.1
      exact F.2.2.2.2.1 h k2 j g k (Or.inl (by omega)) a v.1 b (ih h k2 r) d
  exact fun g k hg hk => ⟨fwd g g k (by omega) hg hk, fun ⟨n, r⟩ => bwd n g k r⟩
