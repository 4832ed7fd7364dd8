/-! PURE: where the reference comes to -/
theorem Pm.eq {μ m : Mi} {i : Bool} {c : Co} {S L : List Nat} {pm : Nat} (P : Pm μ i c S L pm) (e : ∀ r i q, ¬ (r = 7 ∧ q = 44) → r < 70 → rd m r i q = rd μ r i q) : Pm m i c S L pm := by
  obtain ⟨⟨a1, a2, a3, a4, a5, a6⟩, hw, hs, p1, p2, p3, p4, p5, p6⟩ := P
  refine ⟨⟨?_, ?_, ?_, ?_, ?_, ?_⟩, hw, hs, ?_, ?_, ?_, ?_, ?_, ?_⟩
  · simp (disch := omega) only [e]; exact a1
  · intro k hk; simp (disch := omega) only [e]; exact a2 k hk
  · intro k hk; simp (disch := omega) only [e]; exact a3 k hk
  · intro k hk; simp (disch := omega) only [e]; exact a4 k hk
  · simp (disch := omega) only [e]; exact a5
  · intro k hk; simp (disch := omega) only [e]; exact a6 k hk
  · simp (disch := omega) only [e]; exact p1
  · simp (disch := omega) only [e]; exact p2
  · intro k hk; simp (disch := omega) only [e]; exact p3 k hk
  · simp (disch := omega) only [e]; exact p4
  · intro k hk; simp (disch := omega) only [e]; exact p5 k hk
  · intro k hk; simp (disch := omega) only [e]; exact p6 k hk
def sK (c : Co) (L : List Nat) : Nat := ms (c 2 0).toNat 0 (sa c L 0 (c 2 0).toNat) 0
theorem start_M {μ : Mi} {i : Bool} {c : Co} {S L : List Nat} {pm : Nat} (P : Pm μ i c S L pm) : D_X7_start μ = some (if pMs c pm 0 (c 2 0).toNat = 0 then ((sK c L : Nat) : Int) else -1) := by
  have hw := P.2.1
  have hm := mi_le i
  have hho := hw.2.2.2.2.2.1
  have htw := hw.1
  unfold D_X7_start
  rw [P.2.2.2.1, wid (x := (mi i : Int)) (by omega) (by omega), if_pos (by omega), ixn (mi i) (by omega), P.1.2.2.2.2.1.1]
  have := comesTo_M P (h := 0) (t := (c 2 0).toNat) (s := 0) (e := 0) (l := 0) (by omega) (by omega) (by omega) (by omega) (by omega)
  rw [show (((c 2 0).toNat : Nat) : Int) = c 2 0 by omega, show ((0 : Nat) : Int) = 0 from rfl, Nat.zero_or] at this
  rw [this, bp_k]
  rfl
theorem sK_VM {c : Co} {S L : List Nat} {pm : Nat} (hw : WF c) (hs : Sk c S L pm) : VM c S L 0 (sK c L) ∧ sK c L / 140 = (c 2 0).toNat ∧ sK c L / 20 % 7 = 0 ∧ sK c L / 5 % 4 = sa c L 0 (c 2 0).toNat ∧ sK c L % 5 = 0 := by
  have hho := hw.2.2.2.2.2.1
  have htw := hw.1
  have hsa := sa_lt (h := 0) (t := (c 2 0).toNat) hs
  obtain ⟨p1, p2, p3, p4⟩ := ms_parts (t := (c 2 0).toNat) (s := 0) (e := sa c L 0 (c 2 0).toNat) (l := 0) (by omega) hsa (by omega)
  refine ⟨⟨ms_lt (by omega) (by omega) hsa (by omega), ?_, ?_, ?_, ?_⟩, p1, p2, p3, p4⟩
  · unfold sK; rw [p1]; omega
  · unfold sK; rw [p2]; omega
  · unfold sK; rw [p3]; exact mb_lt _ _
  · unfold sK; rw [p4]; omega
def ic (μ : Mi) (h k : Nat) : Int := rd μ 72 false (h * 1120 + k)
/-- ahead of the move j of the state k at h -/
def dB (h k j h' k' j' : Nat) : Prop := h' < h ∨ (h' = h ∧ (k' < k ∨ (k' = k ∧ j' < j)))
def FI (μ : Mi) (i : Bool) (c : Co) (S L : List Nat) (pm h k j : Nat) : Prop := Pm μ i c S L pm ∧ (∀ g k' : Nat, (g : Int) ≤ c 2 2 → k' < 1120 → ic μ g k' = 0 ∨ ic μ g k' = 1) ∧ (∀ g k' : Nat, (g : Int) ≤ c 2 2 → k' < 1120 → ic μ g k' = 1 → VM c S L g k' ∧ pMs c pm g (k' / 140) = 0) ∧ (∀ g k' : Nat, (g : Int) ≤ c 2 2 → k' < 1120 → ic μ g k' = 1 → (g = 0 ∧ k' = sK c L) ∨ ∃ h' k2 j' : Nat, h' < g ∧ k2 < 1120 ∧ (j' : Int) ≤ c 0 2 ∧ ic μ h' k2 = 1 ∧ mG c S L pm h' k2 j' = some (g, k')) ∧ (∀ h' k2 j' g k' : Nat, dB h k j h' k2 j' → (h' : Int) < c 2 2 → k2 < 1120 → (j' : Int) ≤ c 0 2 → ic μ h' k2 = 1 → mG c S L pm h' k2 j' = some (g, k') → ic μ g k' = 1) ∧ ic μ 0 (sK c L) = 1
theorem FI.eq {μ m : Mi} {i : Bool} {c : Co} {S L : List Nat} {pm h k j : Nat} (F : FI μ i c S L pm h k j) (e : ∀ r i q, ¬ (r = 7 ∧ q = 44) → rd m r i q = rd μ r i q) : FI m i c S L pm h k j := by
  obtain ⟨P, f1, f2, f3, f4, f5⟩ := F
  have ei : ∀ g k', ic m g k' = ic μ g k' := fun g k' => e 72 false _ (by omega)
  refine ⟨P.eq (fun r i q h1 _ => e r i q h1), ?_, ?_, ?_, ?_, ?_⟩
  · intro g k' h1 h2; rw [ei]; exact f1 g k' h1 h2
  · intro g k' h1 h2 h3; rw [ei] at h3; exact f2 g k' h1 h2 h3
  · intro g k' h1 h2 h3
    rw [ei] at h3
    rcases f3 g k' h1 h2 h3 with z | ⟨h', k2, j', a, b, c', d, e'⟩
    · exact Or.inl z
    · exact Or.inr ⟨h', k2, j', a, b, c', by rw [ei]; exact d, e'⟩
  · intro h' k2 j' g k' d h1 h2 h3 h4 h5
    rw [ei] at h4 ⊢
    exact f4 h' k2 j' g k' d h1 h2 h3 h4 h5
  · rw [ei]; exact f5
theorem FI.mono {μ : Mi} {i : Bool} {c : Co} {S L : List Nat} {pm h k j h2 k2 j2 : Nat} (F : FI μ i c S L pm h k j) (e : ∀ h' k' j' : Nat, k' < 1120 → (j' : Int) ≤ c 0 2 → ic μ h' k' = 1 → dB h2 k2 j2 h' k' j' → dB h k j h' k' j') : FI μ i c S L pm h2 k2 j2 := by
  obtain ⟨P, f1, f2, f3, f4, f5⟩ := F
  exact ⟨P, f1, f2, f3, fun h' k' j' g k'' d a b c' d' e' => f4 h' k' j' g k'' (e h' k' j' b c' d' d) a b c' d' e', f5⟩
/-- a move is marked -/
theorem FI.mark {μ : Mi} {i : Bool} {c : Co} {S L : List Nat} {pm h k j g k' : Nat} (F : FI μ i c S L pm h k j) (hh : (h : Int) < c 2 2) (hk : k < 1120) (hj : (j : Int) ≤ c 0 2) (h1 : ic μ h k = 1) (q : mG c S L pm h k j = some (g, k')) : FI (wr μ 72 false (g * 1120 + k') 1) i c S L pm h k (j + 1) := by
  obtain ⟨P, f1, f2, f3, f4, f5⟩ := F
  have hw := P.2.1
  have hs := P.2.2.1
  obtain ⟨v, vp⟩ := f2 h k (by omega) hk h1
  obtain ⟨o1, o2, o3, o4⟩ := mG_ok hw hs hh v hj q
  have hk' := o3.1
  have ei : ∀ g2 k2, k2 < 1120 → ic (wr μ 72 false (g * 1120 + k') 1) g2 k2 = if g2 = g ∧ k2 = k' then 1 else ic μ g2 k2 := fun g2 k2 hk2 => by
    unfold ic
    rw [rd_wr]
    by_cases z : g2 = g ∧ k2 = k'
    · rw [if_pos z, if_pos ⟨rfl, rfl, by rw [z.1, z.2]⟩]
    · rw [if_neg z, if_neg (fun w => z (by have := w.2.2; omega))]
  have e1 : ∀ g2 k2, k2 < 1120 → ic μ g2 k2 = 1 → ic (wr μ 72 false (g * 1120 + k') 1) g2 k2 = 1 := fun g2 k2 hk2 z => by
    rw [ei g2 k2 hk2]
    split
    · rfl
    · exact z
  refine ⟨P.eq (fun r i q h1 h2 => rdx (by omega)), ?_, ?_, ?_, ?_, ?_⟩
  · intro g2 k2 a b
    rw [ei g2 k2 b]
    split
    · exact Or.inr rfl
    · exact f1 g2 k2 a b
  · intro g2 k2 a b z
    rw [ei g2 k2 b] at z
    by_cases w : g2 = g ∧ k2 = k'
    · rw [w.1, w.2]; exact ⟨o3, o4⟩
    · rw [if_neg w] at z; exact f2 g2 k2 a b z
  · intro g2 k2 a b z
    rw [ei g2 k2 b] at z
    by_cases w : g2 = g ∧ k2 = k'
    · refine Or.inr ⟨h, k, j, by omega, hk, hj, e1 h k hk h1, ?_⟩
      rw [w.1, w.2]; exact q
    · rw [if_neg w] at z
      rcases f3 g2 k2 a b z with y | ⟨h', k3, j', y1, y2, y3, y4, y5⟩
      · exact Or.inl y
      · exact Or.inr ⟨h', k3, j', y1, y2, y3, e1 _ _ y2 y4, y5⟩
  · intro h' k2 j' g2 k3 d a b c' z y
    have hle : h' ≤ h := by rcases d with d | d <;> omega
    rw [ei h' k2 b, if_neg (by omega)] at z
    obtain ⟨v2, -⟩ := f2 h' k2 (by omega) b z
    have ok2 := (mG_ok hw hs a v2 c' y).2.2.1.1
    by_cases w : h' = h ∧ k2 = k ∧ j' = j
    · obtain ⟨rfl, rfl, rfl⟩ := w
      rw [q] at y
      cases y
      rw [ei _ _ hk', if_pos ⟨rfl, rfl⟩]
    · refine e1 _ _ ok2 (f4 h' k2 j' g2 k3 ?_ a b c' z y)
      rcases d with d | ⟨d1, d2 | ⟨d2, d3⟩⟩
      · exact Or.inl d
      · exact Or.inr ⟨d1, Or.inl d2⟩
      · exact Or.inr ⟨d1, Or.inr ⟨d2, by omega⟩⟩
  · exact e1 0 _ (sK_VM hw hs).1.1 f5
theorem finds_102 {i : Bool} {c : Co} {S L : List Nat} {pm h k : Nat} {k59 : Int → Mi → Option (Int × Mi)} {k74 : Int → Int → Mi → Option (Int × Mi)} (hh : (h : Int) < c 2 2) (hk : k < 1120) : ∀ (d n j : Nat) (μ : Mi), j + d = (c 0 2).toNat + 1 → d < n → FI μ i c S L pm h k j → ic μ h k = 1 → ∃ m, B_X7_finds_102 k59 k74 n (h : Int) (k : Int) ((j : Int) - 1) μ = k74 (h : Int) ((k + 1 : Nat) : Int) m ∧ FI m i c S L pm h (k + 1) 0 := by
  intro d
  induction d with
  | zero =>
    intro n j μ hj hn F h1
    obtain ⟨n, rfl⟩ : ∃ q, n = q + 1 := ⟨n - 1, by omega⟩
    have hnl := F.1.2.1.2.1
    refine ⟨μ, ?_, F.mono (fun h' k' j' a b _ d => ?_)⟩
    · rw [B_X7_finds_102_s, F_X7_finds_102, F.1.1.1, wid (x := c 0 2) (by omega) (by omega), wid (x := (j : Int) - 1) (by omega) (by omega), if_pos (by omega)]
      rfl
    · rcases d with d | ⟨d1, d2 | ⟨d2, d3⟩⟩
      · exact Or.inl d
      · by_cases z : k' = k
        · exact Or.inr ⟨d1, Or.inr ⟨z, by omega⟩⟩
        · exact Or.inr ⟨d1, Or.inl (by omega)⟩
      · omega
  | succ d ih =>
    intro n j μ hj hn F h1
    obtain ⟨n, rfl⟩ : ∃ q, n = q + 1 := ⟨n - 1, by omega⟩
    have hw := F.1.2.1
    have hs := F.1.2.2.1
    have hnl := hw.2.1
    have hen := hw.2.2.2.2.2.2.2.1
    obtain ⟨v, vp⟩ := F.2.2.1 h k (by omega) hk h1
    have hjl : (j : Int) ≤ c 0 2 := by omega
    obtain ⟨r, m1, g1, g2, g3, g4⟩ := goes_G F.1 hh v hjl
    have F1 := F.eq g2
    have e144 : ∀ m, B_X7_finds_144 k59 k74 (B_X7_finds_102 k59 k74 n) (h : Int) (k : Int) ((j : Int) - 1) m = B_X7_finds_102 k59 k74 n (h : Int) (k : Int) (((j + 1 : Nat) : Int) - 1) m := fun m => by
      unfold B_X7_finds_144
      rw [show (j : Int) - 1 + 1 = ((j + 1 : Nat) : Int) - 1 by omega]
    have h1m : ic m1 h k = 1 := by rw [show ic m1 h k = ic μ h k from g2 72 false _ (by omega)]; exact h1
    cases hG : mG c S L pm h k j with
    | none =>
      have hr := g3 hG
      have F2 : FI m1 i c S L pm h k (j + 1) := by
        obtain ⟨P, f1, f2, f3, f4, f5⟩ := F1
        refine ⟨P, f1, f2, f3, fun h' k2 j' g' k3 d a b c' z y => ?_, f5⟩
        by_cases w : h' = h ∧ k2 = k ∧ j' = j
        · obtain ⟨rfl, rfl, rfl⟩ := w
          rw [hG] at y; cases y
        · refine f4 h' k2 j' g' k3 ?_ a b c' z y
          rcases d with d | ⟨d1, d2 | ⟨d2, d3⟩⟩
          · exact Or.inl d
          · exact Or.inr ⟨d1, Or.inl d2⟩
          · exact Or.inr ⟨d1, Or.inr ⟨d2, by omega⟩⟩
      obtain ⟨m, a, b⟩ := ih n (j + 1) m1 (by omega) (by omega) F2 h1m
      refine ⟨m, ?_, b⟩
      rw [B_X7_finds_102_s, F_X7_finds_102, F.1.1.1, wid (x := c 0 2) (by omega) (by omega), wid (x := (j : Int) - 1) (by omega) (by omega), if_neg (by omega), g1, bd_k, hr, if_pos (by decide), e144]
      exact a
    | some q =>
      obtain ⟨g, k'⟩ := q
      obtain ⟨hr, h44⟩ := g4 g k' hG
      obtain ⟨o1, o2, o3, o4⟩ := mG_ok hw hs hh v hjl hG
      have hk' := o3.1
      have F2 := F1.mark hh hk hjl h1m hG
      have h1w : ic (wr m1 72 false (g * 1120 + k') 1) h k = 1 := by
        unfold ic
        rw [rd_wr]
        split
        · rfl
        · exact h1m
      obtain ⟨m, a, b⟩ := ih n (j + 1) _ (by omega) (by omega) F2 h1w
      refine ⟨m, ?_, b⟩
      rw [B_X7_finds_102_s, F_X7_finds_102, F.1.1.1, wid (x := c 0 2) (by omega) (by omega), wid (x := (j : Int) - 1) (by omega) (by omega), if_neg (by omega), g1, bd_k, hr, wid (x := (k' : Int)) (by omega) (by omega), if_neg (by omega), h44, show (g : Int) * 1120 + (k' : Int) = ((g * 1120 + k' : Nat) : Int) by omega, wid (x := ((g * 1120 + k' : Nat) : Int)) (by omega) (by omega), if_pos (by omega), ixn _ (by omega), e144]
      exact a
theorem finds_74 {i : Bool} {c : Co} {S L : List Nat} {pm h : Nat} {k59 : Int → Mi → Option (Int × Mi)} (hh : (h : Int) < c 2 2) : ∀ (d n k : Nat) (μ : Mi), k + d = 1120 → d < n → FI μ i c S L pm h k 0 → ∃ m, B_X7_finds_74 k59 n (h : Int) (k : Int) μ = k59 ((h + 1 : Nat) : Int) m ∧ FI m i c S L pm (h + 1) 0 0 := by
  intro d
  induction d with
  | zero =>
    intro n k μ hk hn F
    obtain ⟨n, rfl⟩ : ∃ q, n = q + 1 := ⟨n - 1, by omega⟩
    refine ⟨μ, ?_, F.mono (fun h' k' j' a b _ d => ?_)⟩
    · rw [B_X7_finds_74_s, F_X7_finds_74, wid (x := (k : Int)) (by omega) (by omega), if_pos (by omega)]
      rfl
    · rcases d with d | d
      · by_cases z : h' = h
        · exact Or.inr ⟨z, Or.inl (by omega)⟩
        · exact Or.inl (by omega)
      · omega
  | succ d ih =>
    intro n k μ hk hn F
    obtain ⟨n, rfl⟩ : ∃ q, n = q + 1 := ⟨n - 1, by omega⟩
    have hw := F.1.2.1
    have hnl := hw.2.1
    have hen := hw.2.2.2.2.2.2.2.1
    have hk1 : k < 1120 := by omega
    have hic := F.2.1 h k (by omega) hk1
    have head : B_X7_finds_74 k59 (n + 1) (h : Int) (k : Int) μ = if ¬ ic μ h k = 0 then B_X7_finds_102 k59 (B_X7_finds_74 k59 n) FU (h : Int) (k : Int) (-1) μ else B_X7_finds_150 k59 (B_X7_finds_74 k59 n) (h : Int) (k : Int) μ := by
      rw [B_X7_finds_74_s, F_X7_finds_74, wid (x := (k : Int)) (by omega) (by omega), if_neg (by omega), show (h : Int) * 1120 + (k : Int) = ((h * 1120 + k : Nat) : Int) by omega, wid (x := ((h * 1120 + k : Nat) : Int)) (by omega) (by omega), if_pos (by omega), ixn _ (by omega), wid (x := rd μ 72 false (h * 1120 + k)) (by unfold ic at hic; omega) (by unfold ic at hic; omega)]
      rfl
    by_cases z : ic μ h k = 1
    · obtain ⟨m1, a1, a2⟩ := finds_102 (k59 := k59) (k74 := B_X7_finds_74 k59 n) hh hk1 ((c 0 2).toNat + 1) FU 0 μ (by omega) (FU_gt (by omega)) F z
      obtain ⟨m, b1, b2⟩ := ih n (k + 1) m1 (by omega) (by omega) a2
      refine ⟨m, ?_, b2⟩
      rw [head, if_pos (by omega)]
      rw [show ((0 : Nat) : Int) - 1 = -1 from rfl] at a1
      exact a1.trans b1
    · obtain ⟨m, b1, b2⟩ := ih n (k + 1) μ (by omega) (by omega) (F.mono (fun h' k' j' a b y d => by
        rcases d with d | ⟨d1, d2 | ⟨d2, d3⟩⟩
        · exact Or.inl d
        · refine Or.inr ⟨d1, ?_⟩
          by_cases w : k' = k
          · rw [w, d1] at y; exact absurd y z
          · exact Or.inl (by omega)
        · omega))
      refine ⟨m, ?_, b2⟩
      rw [head, if_neg (by omega)]
      unfold B_X7_finds_150
      rw [show (k : Int) + 1 = ((k + 1 : Nat) : Int) by omega]
      exact b1
theorem finds_59 {i : Bool} {c : Co} {S L : List Nat} {pm : Nat} : ∀ (d n h : Nat) (μ : Mi), h + d = (c 2 2).toNat → d < n → FI μ i c S L pm h 0 0 → ∃ m, B_X7_finds_59 n (h : Int) μ = B_X7_finds_164 FU 0 m ∧ FI m i c S L pm (c 2 2).toNat 0 0 := by
  intro d
  induction d with
  | zero =>
    intro n h μ hd hn F
    obtain ⟨n, rfl⟩ : ∃ q, n = q + 1 := ⟨n - 1, by omega⟩
    have hen := F.1.2.1.2.2.2.2.2.2.2.1
    have hm := mi_le i
    refine ⟨μ, ?_, by rw [show (c 2 2).toNat = h by omega]; exact F⟩
    rw [B_X7_finds_59_s, F_X7_finds_59, F.1.2.2.2.1, wid (x := (mi i : Int)) (by omega) (by omega), if_pos (by omega), ixn (mi i) (by omega), F.1.1.2.2.2.2.1.2.2.1, wid (x := c 2 2) (by omega) (by omega), wid (x := (h : Int)) (by omega) (by omega), if_pos (by omega)]
  | succ d ih =>
    intro n h μ hd hn F
    obtain ⟨n, rfl⟩ : ∃ q, n = q + 1 := ⟨n - 1, by omega⟩
    have hen := F.1.2.1.2.2.2.2.2.2.2.1
    have hm := mi_le i
    obtain ⟨m1, a1, a2⟩ := finds_74 (k59 := B_X7_finds_59 n) (h := h) (by omega) 1120 FU 0 μ (by omega) (FU_gt (by omega)) F
    obtain ⟨m, b1, b2⟩ := ih n (h + 1) m1 (by omega) (by omega) a2
    refine ⟨m, ?_, b2⟩
    rw [B_X7_finds_59_s, F_X7_finds_59, F.1.2.2.2.1, wid (x := (mi i : Int)) (by omega) (by omega), if_pos (by omega), ixn (mi i) (by omega), F.1.1.2.2.2.2.1.2.2.1, wid (x := c 2 2) (by omega) (by omega), wid (x := (h : Int)) (by omega) (by omega), if_neg (by omega)]
    exact a1.trans b1
abbrev enK (S L : List Nat) (k : Nat) : Prop := k / 5 % 4 = 2 ^ L.length - 1 ∧ k / 20 % 7 = S.length
theorem ends_M {μ : Mi} {i : Bool} {c : Co} {S L : List Nat} {pm : Nat} (P : Pm μ i c S L pm) {k : Nat} (hk : k < 1120) : D_X7_ends (k : Int) μ = if enK S L k then 1 else 0 := by
  have hs := P.2.2.1
  have hL2 := pow_L hs.2.1
  have hl := hs.2.1
  have hS6 := hs.1
  have h1 : 1 ≤ 2 ^ L.length := Nat.one_le_two_pow
  have e2 : idiv (k : Int) 5 = ((k / 5 : Nat) : Int) := i_idiv 5 (by omega) (by omega) (by omega)
  have e3 : irem ((k / 5 : Nat) : Int) 4 = ((k / 5 % 4 : Nat) : Int) := i_irem 4 (by omega) (by omega) (by omega)
  have e4 : idiv (k : Int) 20 = ((k / 20 : Nat) : Int) := i_idiv 20 (by omega) (by omega) (by omega)
  have e5 : irem ((k / 20 : Nat) : Int) 7 = ((k / 20 % 7 : Nat) : Int) := i_irem 7 (by omega) (by omega) (by omega)
  unfold D_X7_ends
  rw [e2, e3, e4, e5, P.2.2.2.2.2.2.1, P.2.2.2.2.1, ishl1 _ (by omega), wid (x := ((k / 5 % 4 : Nat) : Int)) (by omega) (by omega), wid (x := ((2 ^ L.length : Nat) : Int) - 1) (by omega) (by omega), wid (x := ((k / 20 % 7 : Nat) : Int)) (by omega) (by omega), wid (x := ((S.length : Nat) : Int)) (by omega) (by omega)]
  by_cases q1 : k / 5 % 4 = 2 ^ L.length - 1
  · rw [if_neg (by omega)]
    by_cases q2 : k / 20 % 7 = S.length
    · rw [if_neg (by omega), if_pos ⟨q1, q2⟩]
    · rw [if_pos (by omega), if_neg (fun z => q2 z.2)]
  · rw [if_pos (by omega), if_neg (fun z => q1 z.1)]
theorem finds_164 {μ : Mi} {i : Bool} {c : Co} {S L : List Nat} {pm : Nat} (F : FI μ i c S L pm (c 2 2).toNat 0 0) : ∃ r, B_X7_finds_164 FU 0 μ = some (r, μ) ∧ ((r = 1 ∧ ∃ k, k < 1120 ∧ ic μ (c 2 2).toNat k = 1 ∧ enK S L k) ∨ (r = 0 ∧ ∀ k, k < 1120 → ic μ (c 2 2).toNat k = 1 → ¬ enK S L k)) := by
  have hen := F.1.2.1.2.2.2.2.2.2.2.1
  have hm := mi_le i
  have key : ∀ (d n k : Nat), k + d = 1120 → d < n → (∀ q, q < k → ic μ (c 2 2).toNat q = 1 → ¬ enK S L q) → ∃ r, B_X7_finds_164 n (k : Int) μ = some (r, μ) ∧ ((r = 1 ∧ ∃ k, k < 1120 ∧ ic μ (c 2 2).toNat k = 1 ∧ enK S L k) ∨ (r = 0 ∧ ∀ k, k < 1120 → ic μ (c 2 2).toNat k = 1 → ¬ enK S L k)) := by
    intro d
    induction d with
    | zero =>
      intro n k hk hn hall
      obtain ⟨n, rfl⟩ : ∃ q, n = q + 1 := ⟨n - 1, by omega⟩
      refine ⟨0, ?_, Or.inr ⟨rfl, fun q hq => hall q (by omega)⟩⟩
      rw [B_X7_finds_164_s, F_X7_finds_164, wid (x := (k : Int)) (by omega) (by omega), if_pos (by omega)]
    | succ d ih =>
      intro n k hk hn hall
      obtain ⟨n, rfl⟩ : ∃ q, n = q + 1 := ⟨n - 1, by omega⟩
      have hk1 : k < 1120 := by omega
      have hic := F.2.1 (c 2 2).toNat k (by omega) hk1
      have head : B_X7_finds_164 (n + 1) (k : Int) μ = if ic μ (c 2 2).toNat k = 0 then B_X7_finds_164 n ((k + 1 : Nat) : Int) μ else if enK S L k then some (1, μ) else B_X7_finds_164 n ((k + 1 : Nat) : Int) μ := by
        rw [B_X7_finds_164_s, F_X7_finds_164, wid (x := (k : Int)) (by omega) (by omega), if_neg (by omega), F.1.2.2.2.1, wid (x := (mi i : Int)) (by omega) (by omega), if_pos (by omega), ixn (mi i) (by omega), F.1.1.2.2.2.2.1.2.2.1, show c 2 2 * 1120 + (k : Int) = (((c 2 2).toNat * 1120 + k : Nat) : Int) by omega, wid (x := (((c 2 2).toNat * 1120 + k : Nat) : Int)) (by omega) (by omega), if_pos (by omega), ixn _ (by omega), wid (x := rd μ 72 false ((c 2 2).toNat * 1120 + k)) (by unfold ic at hic; omega) (by unfold ic at hic; omega), ends_M F.1 hk1]
        unfold B_X7_finds_204
        rw [show (k : Int) + 1 = ((k + 1 : Nat) : Int) by omega]
        by_cases q : enK S L k
        · rw [if_neg (nb10 q), if_pos q]; rfl
        · rw [if_pos (yb10 q), if_neg q]; rfl
      by_cases z : ic μ (c 2 2).toNat k = 0
      · rw [head, if_pos z]
        exact ih n (k + 1) (by omega) (by omega) (fun q hq y => by
          by_cases w : q = k
          · rw [w, z] at y; omega
          · exact hall q (by omega) y)
      · rw [head, if_neg z]
        by_cases w : enK S L k
        · rw [if_pos w]
          exact ⟨1, rfl, Or.inl ⟨rfl, k, hk1, by omega, w⟩⟩
        · rw [if_neg w]
          exact ih n (k + 1) (by omega) (by omega) (fun q hq y => by
            by_cases x : q = k
            · rw [x]; exact w
            · exact hall q (by omega) y)
  exact key 1120 FU 0 (by omega) (FU_gt (by omega)) (fun q hq => by omega)
theorem finds_2 {i : Bool} {c : Co} {S L : List Nat} {pm : Nat} : ∀ (d n x : Nat) (μ : Mi), x + d = ((c 2 2).toNat + 1) * 1120 → d < n → Pm μ i c S L pm → (∀ q, q < x → rd μ 72 false q = 0) → ∃ m, B_X7_finds_2 n (x : Int) μ = (if pMs c pm 0 (c 2 0).toNat = 0 then B_X7_finds_59 FU 0 (wr m 72 false (sK c L) 1) else some (0, m)) ∧ Pm m i c S L pm ∧ ∀ q, q < ((c 2 2).toNat + 1) * 1120 → rd m 72 false q = 0 := by
  intro d
  induction d with
  | zero =>
    intro n x μ hx hn P hz
    obtain ⟨n, rfl⟩ : ∃ q, n = q + 1 := ⟨n - 1, by omega⟩
    have hen := P.2.1.2.2.2.2.2.2.2.1
    have hm := mi_le i
    have hsk := (sK_VM P.2.1 P.2.2.1).1.1
    refine ⟨μ, ?_, P, fun q hq => hz q (by omega)⟩
    rw [B_X7_finds_2_s, F_X7_finds_2, P.2.2.2.1, wid (x := (mi i : Int)) (by omega) (by omega), if_pos (by omega), ixn (mi i) (by omega), P.1.2.2.2.2.1.2.2.1, wid (x := c 2 2 * 1120 + 1120 - 1) (by omega) (by omega), wid (x := (x : Int)) (by omega) (by omega), if_pos (by omega), start_M P, bp_k]
    by_cases q : pMs c pm 0 (c 2 0).toNat = 0
    · rw [if_pos q, if_pos q, wid (x := ((sK c L : Nat) : Int)) (by omega) (by omega), if_pos (by omega), if_pos (by omega), ixn _ (by omega)]
    · rw [if_neg q, if_neg q, if_neg (by decide)]
  | succ d ih =>
    intro n x μ hx hn P hz
    obtain ⟨n, rfl⟩ : ∃ q, n = q + 1 := ⟨n - 1, by omega⟩
    have hen := P.2.1.2.2.2.2.2.2.2.1
    have hm := mi_le i
    obtain ⟨m, a1, a2, a3⟩ := ih n (x + 1) (wr μ 72 false x 0) (by omega) (by omega) (P.eq (fun r i q h1 h2 => rdx (by omega))) (fun q hq => by
      rw [rd_wr]
      split
      · rfl
      · rename_i w
        exact hz q (by
          have : q ≠ x := fun z => w ⟨rfl, rfl, z⟩
          omega))
    refine ⟨m, ?_, a2, a3⟩
    rw [B_X7_finds_2_s, F_X7_finds_2, P.2.2.2.1, wid (x := (mi i : Int)) (by omega) (by omega), if_pos (by omega), ixn (mi i) (by omega), P.1.2.2.2.2.1.2.2.1, wid (x := c 2 2 * 1120 + 1120 - 1) (by omega) (by omega), wid (x := (x : Int)) (by omega) (by omega), if_neg (by omega), if_pos (by omega), ixn x (by omega), show (x : Int) + 1 = ((x + 1 : Nat) : Int) by omega]
    exact a1
/-- finds: 1 if an end is come to; then the marks are closed under moves and come from the start -/
theorem finds_M {μ : Mi} {i : Bool} {c : Co} {S L : List Nat} {pm : Nat} (P : Pm μ i c S L pm) : ∃ r m, D_X7_finds μ = some (r, m) ∧ Pm m i c S L pm ∧ ((¬ pMs c pm 0 (c 2 0).toNat = 0 ∧ r = 0) ∨ (pMs c pm 0 (c 2 0).toNat = 0 ∧ FI m i c S L pm (c 2 2).toNat 0 0 ∧ ((r = 1 ∧ ∃ k, k < 1120 ∧ ic m (c 2 2).toNat k = 1 ∧ enK S L k) ∨ (r = 0 ∧ ∀ k, k < 1120 → ic m (c 2 2).toNat k = 1 → ¬ enK S L k)))) := by
  have hen := P.2.1.2.2.2.2.2.2.2.1
  obtain ⟨m1, a1, a2, a3⟩ := finds_2 (((c 2 2).toNat + 1) * 1120) FU 0 μ (by omega) (FU_gt (by omega)) P (fun q hq => by omega)
  obtain ⟨vs, s1, -⟩ := sK_VM (S := S) (pm := pm) a2.2.1 a2.2.2.1
  unfold D_X7_finds
  rw [show ((0 : Nat) : Int) = 0 from rfl] at a1
  rw [a1]
  by_cases q : pMs c pm 0 (c 2 0).toNat = 0
  · rw [if_pos q]
    have ei : ∀ g k' : Nat, (g : Int) ≤ c 2 2 → k' < 1120 → ic (wr m1 72 false (sK c L) 1) g k' = if g = 0 ∧ k' = sK c L then 1 else 0 := fun g k' hg hk => by
      have := vs.1
      unfold ic
      rw [rd_wr]
      by_cases z : g = 0 ∧ k' = sK c L
      · rw [if_pos z, if_pos ⟨rfl, rfl, by rw [z.1, z.2]; omega⟩]
      · rw [if_neg z, if_neg (fun w => z (by have := w.2.2; omega))]
        exact a3 _ (by
          have : g ≤ (c 2 2).toNat := by omega
          have h2 : g * 1120 ≤ (c 2 2).toNat * 1120 := Nat.mul_le_mul_right 1120 this
          omega)
    have F0 : FI (wr m1 72 false (sK c L) 1) i c S L pm 0 0 0 := by
      refine ⟨a2.eq (fun r i q h1 h2 => rdx (by omega)), ?_, ?_, ?_, ?_, ?_⟩
      · intro g k' h1 h2
        rw [ei g k' h1 h2]
        split
        · exact Or.inr rfl
        · exact Or.inl rfl
      · intro g k' h1 h2 h3
        rw [ei g k' h1 h2] at h3
        split at h3
        · rename_i w
          rw [w.1, w.2, s1]
          exact ⟨vs, q⟩
        · cases h3
      · intro g k' h1 h2 h3
        rw [ei g k' h1 h2] at h3
        split at h3
        · rename_i w; exact Or.inl w
        · cases h3
      · intro h' k2 j' g k' d
        rcases d with d | ⟨d1, d2 | ⟨d2, d3⟩⟩ <;> omega
      · rw [ei 0 _ (by omega) vs.1, if_pos ⟨rfl, rfl⟩]
    obtain ⟨m, b1, b2⟩ := finds_59 (c 2 2).toNat FU 0 _ (by omega) (FU_gt (by omega)) F0
    obtain ⟨r, c1, c2⟩ := finds_164 b2
    rw [show ((0 : Nat) : Int) = 0 from rfl] at b1
    exact ⟨r, m, by rw [b1, c1], b2.1, Or.inr ⟨q, b2, c2⟩⟩
  · rw [if_neg q]
    exact ⟨0, m1, rfl, a2, Or.inl ⟨q, rfl⟩⟩
