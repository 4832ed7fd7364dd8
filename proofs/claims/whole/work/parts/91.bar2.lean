/-! PURE: barred: the legs, by the reference -/
def SyM (μ : Mi) (i : Bool) (c : Co) (S L : List Nat) (pm : Nat) (lk la : Nat → Nat) (n : Nat) : Prop := Pm μ i c S L pm ∧ rd μ 7 false 32 = (n : Int) ∧ ∀ k, k < n → rd μ 63 false k = (lk k : Int) ∧ rd μ 64 false k = (la k : Int)
theorem SyM.eq {μ m : Mi} {i : Bool} {c : Co} {S L : List Nat} {pm : Nat} {lk la : Nat → Nat} {n : Nat} (y : SyM μ i c S L pm lk la n) (e : ∀ r i q, r < 73 → rd m r i q = rd μ r i q) : SyM m i c S L pm lk la n := ⟨y.1.eq (fun r i q _ h => e r i q (by omega)), by rw [e 7 false 32 (by omega)]; exact y.2.1, fun k hk => by rw [e 63 false k (by omega), e 64 false k (by omega)]; exact y.2.2 k hk⟩
def ex142 (k14 : Int → Int → Int → Mi → Option (Int × Mi)) (x1 x2 x3 : Int) (μ : Mi) : Option (Int × Mi) :=
  if ¬ (w32 x3) = (w32 (rd μ 7 false 32)) then
      if 0 ≤ (w32 x1) ∧ (w32 x1) < 97 then
      if 0 ≤ (w32 x1) ∧ (w32 x1) < 97 then
      if 0 ≤ (w32 x3) ∧ (w32 x3) < 20 then
      bp (D_X7_ofLink (rd μ 63 false (ix x3)) 3 (wr (wr μ 73 false (ix x1) x2) 74 false (ix x1) 0)) fun r1 =>
      B_X7_follows_211 k14 FU (x1 + 1) x3 (x1 + r1) (wr (wr μ 73 false (ix x1) x2) 74 false (ix x1) 0)
      else none
      else none
      else none
    else
      B_X7_follows_255 x2 μ
theorem fol_142 {k14 : Int → Int → Int → Mi → Option (Int × Mi)} {t k : Int} {b : Nat} (hb : b ≤ 96) : ∀ (d f x : Nat) (μ : Mi), x + d = b → d < f → ∃ m, B_X7_follows_142 k14 f (x : Int) t k (b : Int) μ = ex142 k14 (b : Int) t k m ∧ ∀ r i q, rd m r i q = if r = 73 ∧ i = false ∧ x ≤ q ∧ q < b then t else if r = 74 ∧ i = false ∧ x ≤ q ∧ q < b then 1 else rd μ r i q := by
  intro d
  induction d with
  | zero =>
    intro f x μ hx hn
    obtain ⟨f, rfl⟩ : ∃ q, f = q + 1 := ⟨f - 1, by omega⟩
    refine ⟨μ, ?_, fun r i q => ?_⟩
    · rw [B_X7_follows_142_s, F_X7_follows_142, wid (x := (b : Int)) (by omega) (by omega), wid (x := (x : Int)) (by omega) (by omega), if_pos (by omega), show (x : Int) = (b : Int) by omega]
      unfold ex142
      rw [wid (x := (b : Int)) (by omega) (by omega)]
    · rw [if_neg (by omega), if_neg (by omega)]
  | succ d ih =>
    intro f x μ hx hn
    obtain ⟨f, rfl⟩ : ∃ q, f = q + 1 := ⟨f - 1, by omega⟩
    obtain ⟨m, a1, a2⟩ := ih f (x + 1) (wr (wr μ 73 false x t) 74 false x 1) (by omega) (by omega)
    refine ⟨m, ?_, fun r i q => ?_⟩
    · rw [B_X7_follows_142_s, F_X7_follows_142, wid (x := (b : Int)) (by omega) (by omega), wid (x := (x : Int)) (by omega) (by omega), if_neg (by omega), if_pos (by omega), if_pos (by omega), ixn x (by omega), show (x : Int) + 1 = ((x + 1 : Nat) : Int) by omega]
      exact a1
    · rw [a2 r i q, rd_wr, rd_wr]
      by_cases u : r = 73 ∧ i = false ∧ x ≤ q ∧ q < b
      · rw [if_pos u]
        by_cases w : q = x
        · rw [if_neg (by omega), if_neg (by omega), if_neg (by omega), if_pos ⟨u.1, u.2.1, w⟩]
        · rw [if_pos ⟨u.1, u.2.1, by omega, u.2.2.2⟩]
      · rw [if_neg u, if_neg (fun w => u ⟨w.1, w.2.1, by omega, w.2.2.2⟩)]
        by_cases v : r = 74 ∧ i = false ∧ x ≤ q ∧ q < b
        · rw [if_pos v]
          by_cases w : q = x
          · rw [if_neg (by omega), if_pos ⟨v.1, v.2.1, w⟩]
          · rw [if_pos ⟨v.1, v.2.1, by omega, v.2.2.2⟩]
        · rw [if_neg v, if_neg (fun w => v ⟨w.1, w.2.1, by omega, w.2.2.2⟩), if_neg (fun w => v ⟨w.1, w.2.1, by omega, by omega⟩), if_neg (fun w => u ⟨w.1, w.2.1, by omega, by omega⟩)]
theorem fol_211 {i : Bool} {c : Co} {S L : List Nat} {pm : Nat} {lk la : Nat → Nat} {n k g : Nat} {k14 : Int → Int → Int → Mi → Option (Int × Mi)} (G : LG c lk la n) (hk : k < n) (hg : g ≤ 96) : ∀ (d f x : Nat) (μ : Mi), x + d = g → d < f → SyM μ i c S L pm lk la n → ∃ m, B_X7_follows_211 k14 f (x : Int) (k : Int) (g : Int) μ = k14 (g : Int) (c 14 (lk k)) ((k + 1 : Nat) : Int) m ∧ ∀ r i q, rd m r i q = if r = 73 ∧ i = false ∧ x ≤ q ∧ q < g then -1 else if r = 74 ∧ i = false ∧ x ≤ q ∧ q < g then 0 else rd μ r i q := by
  have hn20 := G.1
  obtain ⟨g1, g2⟩ := G.2 k hk
  intro d
  induction d with
  | zero =>
    intro f x μ hx hn y
    obtain ⟨f, rfl⟩ : ∃ q, f = q + 1 := ⟨f - 1, by omega⟩
    have hnl := y.1.2.1.2.1
    refine ⟨μ, ?_, fun r i q => ?_⟩
    · rw [B_X7_follows_211_s, F_X7_follows_211, wid (x := (g : Int)) (by omega) (by omega), wid (x := (x : Int)) (by omega) (by omega), if_pos (by omega), wid (x := (k : Int)) (by omega) (by omega), if_pos (by omega), ixn k (by omega), (y.2.2 k hk).1, show (1 : Int) = ((1 : Nat) : Int) from rfl, ofLink_M (lk k) 1 (by omega) (by omega), bp_k, (y.1.1.2.2.2.1 (lk k) g1).2.1, show (x : Int) = (g : Int) by omega, show (k : Int) + ((1 : Nat) : Int) = ((k + 1 : Nat) : Int) by omega]
    · rw [if_neg (by omega), if_neg (by omega)]
  | succ d ih =>
    intro f x μ hx hn y
    obtain ⟨f, rfl⟩ : ∃ q, f = q + 1 := ⟨f - 1, by omega⟩
    obtain ⟨m, a1, a2⟩ := ih f (x + 1) (wr (wr μ 73 false x (-1)) 74 false x 0) (by omega) (by omega) (y.eq (fun r i q h => by rw [rdx (by omega), rdx (by omega)]))
    refine ⟨m, ?_, fun r i q => ?_⟩
    · rw [B_X7_follows_211_s, F_X7_follows_211, wid (x := (g : Int)) (by omega) (by omega), wid (x := (x : Int)) (by omega) (by omega), if_neg (by omega), if_pos (by omega), if_pos (by omega), ixn x (by omega), show (x : Int) + 1 = ((x + 1 : Nat) : Int) by omega]
      exact a1
    · rw [a2 r i q, rd_wr, rd_wr]
      by_cases u : r = 73 ∧ i = false ∧ x ≤ q ∧ q < g
      · rw [if_pos u]
        by_cases w : q = x
        · rw [if_neg (by omega), if_neg (by omega), if_neg (by omega), if_pos ⟨u.1, u.2.1, w⟩]
        · rw [if_pos ⟨u.1, u.2.1, by omega, u.2.2.2⟩]
      · rw [if_neg u, if_neg (fun w => u ⟨w.1, w.2.1, by omega, w.2.2.2⟩)]
        by_cases v : r = 74 ∧ i = false ∧ x ≤ q ∧ q < g
        · rw [if_pos v]
          by_cases w : q = x
          · rw [if_neg (by omega), if_pos ⟨v.1, v.2.1, w⟩]
          · rw [if_pos ⟨v.1, v.2.1, by omega, v.2.2.2⟩]
        · rw [if_neg v, if_neg (fun w => v ⟨w.1, w.2.1, by omega, w.2.2.2⟩), if_neg (fun w => v ⟨w.1, w.2.1, by omega, by omega⟩), if_neg (fun w => u ⟨w.1, w.2.1, by omega, by omega⟩)]
theorem fol_14 {i : Bool} {c : Co} {S L : List Nat} {pm : Nat} {lk la : Nat → Nat} {n : Nat} (hw : WF c) (G : LG c lk la n) : ∀ (d f k : Nat) (μ : Mi), k + d = n → d < f → SyM μ i c S L pm lk la n → (∀ j, j < k → ¬ bdL c lk la j) → Lay c lk la (rd μ 73 false) (rd μ 74 false) k → ∃ r m, B_X7_follows_14 f (hrL c lk la k : Int) (twL c lk k) (k : Int) μ = some (r, m) ∧ Fst (bdL c lk la) n r ∧ (∀ r i q, r < 73 → rd m r i q = rd μ r i q) ∧ (r = -1 → Lay c lk la (rd m 73 false) (rd m 74 false) n ∧ Fin c lk la (rd m 73 false) (rd m 74 false) n) := by
  have hnl := hw.2.1
  have htw := hw.1
  have hen := hw.2.2.2.2.2.2.2.1
  have hho := hw.2.2.2.2.2.1
  have hn20 := G.1
  have hm := mi_le i
  have hmi : 0 ≤ (mi i : Int) ∧ (mi i : Int) < 2 := by omega
  intro d
  induction d with
  | zero =>
    intro f k μ hk hf y hb Y
    obtain ⟨f, rfl⟩ : ∃ q, f = q + 1 := ⟨f - 1, by omega⟩
    have ek : k = n := by omega
    subst ek
    have hle := (hrL_lt hw G k (Nat.le_refl _) hb).1
    obtain ⟨m, a1, a2⟩ := fol_142 (k14 := B_X7_follows_14 f) (t := twL c lk k) (k := (k : Int)) (b := (c 2 2).toNat) (by omega) ((c 2 2).toNat - hrL c lk la k) FU (hrL c lk la k) μ (by omega) (FU_gt (by omega))
    rw [show (((c 2 2).toNat : Nat) : Int) = c 2 2 by omega] at a1
    have ym : SyM m i c S L pm lk la k := y.eq (fun r i q h => by rw [a2, if_neg (by omega), if_neg (by omega)])
    have hex : ex142 (B_X7_follows_14 f) (c 2 2) (twL c lk k) (k : Int) m = some (-1, wr m 73 false (c 2 2).toNat (twL c lk k)) := by
      unfold ex142
      rw [ym.2.1, if_neg (fun w => w rfl)]
      unfold B_X7_follows_255
      rw [ym.1.2.2.2.1, wid (x := (mi i : Int)) (by omega) (by omega), if_pos hmi, ixn (mi i) (by omega), ym.1.1.2.2.2.2.1.2.2.1, wid (x := c 2 2) (by omega) (by omega), if_pos (by omega), ixd (by omega) (by omega)]
    refine ⟨-1, wr m 73 false (c 2 2).toNat (twL c lk k), ?_, Or.inr ⟨rfl, hb⟩, fun r i q h => ?_, fun _ => ⟨Y.eq hw G (Nat.le_refl _) hb (fun h hh => ?_), fun h p q => ?_, fun h p q => ?_⟩⟩
    · rw [B_X7_follows_14_s, F_X7_follows_14, y.2.1, wid (x := (k : Int)) (by omega) (by omega), if_neg (by omega), if_neg (fun w => w rfl), y.1.2.2.2.1, wid (x := (mi i : Int)) (by omega) (by omega), if_pos hmi, ixn (mi i) (by omega), y.1.1.2.2.2.2.1.2.2.1]
      unfold B_X7_follows_48
      rw [y.2.1, if_pos (Int.le_refl _), a1, hex]
    · rw [rdx (by omega), a2, if_neg (by omega), if_neg (by omega)]
    · rw [rdx (by omega), rdx (by omega), a2, a2, if_neg (by omega), if_neg (by omega), if_neg (by omega), if_neg (by omega)]
      exact ⟨rfl, rfl⟩
    · by_cases w : h = (c 2 2).toNat
      · rw [w, rd_s]
      · rw [rdx (by omega), a2, if_pos ⟨rfl, rfl, p, by omega⟩]
    · rw [rdx (by omega), a2, if_neg (by omega), if_pos ⟨rfl, rfl, p, by omega⟩]
  | succ d ih =>
    intro f k μ hk hf y hb Y
    obtain ⟨f, rfl⟩ : ∃ q, f = q + 1 := ⟨f - 1, by omega⟩
    have hkn : k < n := by omega
    obtain ⟨g1, g2⟩ := G.2 k hkn
    obtain ⟨y1, y2⟩ := y.2.2 k hkn
    have hle := (hrL_lt hw G k (by omega) hb).1
    obtain ⟨⟨k1, k2⟩, ⟨k3, k4⟩, -, ⟨k5, k6⟩, ⟨k7, k8⟩, -, k9, -⟩ := hw.2.2.2.1 (lk k) g1
    obtain ⟨o1, o2, o3, o4, o5, o6, o7, o8⟩ := y.1.1.2.2.2.1 (lk k) g1
    have htk : 0 ≤ twL c lk k ∧ twL c lk k < 8 := by
      cases k with
      | zero => show 0 ≤ c 2 0 ∧ c 2 0 < 8; omega
      | succ j =>
        obtain ⟨-, ⟨q3, q4⟩, -⟩ := hw.2.2.2.1 (lk j) (G.2 j (by omega)).1
        show 0 ≤ c 14 (lk j) ∧ c 14 (lk j) < 8
        omega
    have ol : ∀ (m : Mi) (w : Nat), w ≤ 5 → D_X7_ofLink (lk k : Int) (w : Int) m = some (rd m 52 false (6 * lk k + w)) := fun m w hw5 => ofLink_M (lk k) w (by omega) hw5
    have l0 := ol μ 0 (by omega)
    have l2 := ol μ 2 (by omega)
    have l3 := ol μ 3 (by omega)
    have l5 := ol μ 5 (by omega)
    rw [Nat.add_zero, o1] at l0
    rw [o3] at l2
    rw [o4] at l3
    rw [o6] at l5
    rw [show ((0 : Nat) : Int) = 0 from rfl] at l0
    rw [show ((2 : Nat) : Int) = 2 from rfl] at l2
    rw [show ((3 : Nat) : Int) = 3 from rfl] at l3
    rw [show ((5 : Nat) : Int) = 5 from rfl] at l5
    have hs0 : ∀ s0 : Int, 0 ≤ s0 ∧ s0 ≤ 96 → B_X7_follows_87 (B_X7_follows_14 f) (hrL c lk la k : Int) (twL c lk k) (k : Int) (la k : Int) (lk k : Int) s0 μ = if la k < hrL c lk la k then some ((k : Int), μ) else if ¬ c 13 (lk k) = twL c lk k then some ((k : Int), μ) else if ¬ c 15 (lk k) = s0 then some ((k : Int), μ) else if (la k : Int) + c 16 (lk k) ≤ c 2 2 then B_X7_follows_142 (B_X7_follows_14 f) FU (hrL c lk la k : Int) (twL c lk k) (k : Int) (la k : Int) μ else some ((k : Int), μ) := fun s0 hs => by
      unfold B_X7_follows_87
      rw [l0, bp_k, l2, bp_k, l3, bp_k, wid (x := (la k : Int)) (by omega) (by omega), wid (x := (hrL c lk la k : Int)) (by omega) (by omega), wid (x := c 13 (lk k)) (by omega) (by omega), wid (x := twL c lk k) (by omega) (by omega), wid (x := c 15 (lk k)) (by omega) (by omega), wid (x := s0) (by omega) (by omega), y.1.2.2.2.1, wid (x := (mi i : Int)) (by omega) (by omega), if_pos hmi, ixn (mi i) (by omega), y.1.1.2.2.2.2.1.2.2.1, wid (x := (la k : Int) + c 16 (lk k)) (by omega) (by omega), wid (x := c 2 2) (by omega) (by omega)]
      by_cases z1 : la k < hrL c lk la k
      · rw [if_pos (show (la k : Int) < (hrL c lk la k : Int) by omega), if_pos z1]
      · rw [if_neg (show ¬ (la k : Int) < (hrL c lk la k : Int) by omega), if_neg z1]
    have head : B_X7_follows_14 (f + 1) (hrL c lk la k : Int) (twL c lk k) (k : Int) μ = if la k < hrL c lk la k then some ((k : Int), μ) else if ¬ c 13 (lk k) = twL c lk k then some ((k : Int), μ) else if ¬ c 15 (lk k) = (if c 18 (lk k) = 0 then (la k : Int) else ((la k % 24 : Nat) : Int)) then some ((k : Int), μ) else if (la k : Int) + c 16 (lk k) ≤ c 2 2 then B_X7_follows_142 (B_X7_follows_14 f) FU (hrL c lk la k : Int) (twL c lk k) (k : Int) (la k : Int) μ else some ((k : Int), μ) := by
      rw [B_X7_follows_14_s, F_X7_follows_14, y.2.1, wid (x := (n : Int)) (by omega) (by omega), wid (x := (k : Int)) (by omega) (by omega), if_neg (by omega), if_pos (show ¬ (k : Int) = (n : Int) by omega), if_pos (by omega), ixn k (by omega), y2]
      unfold B_X7_follows_48
      rw [y.2.1, wid (x := (n : Int)) (by omega) (by omega), wid (x := (k : Int)) (by omega) (by omega), if_neg (by omega), if_pos (by omega), ixn k (by omega), y1, l5, bp_k, wid (x := c 18 (lk k)) (by omega) (by omega), irem24 (by omega), hs0 _ (by omega), hs0 _ (by omega)]
      rcases k9 with z | z
      · rw [if_pos (by omega), if_pos z]
      · rw [if_neg (show ¬ ¬ c 18 (lk k) = 1 by omega), if_neg (show ¬ c 18 (lk k) = 0 by omega)]
    have bad : bdL c lk la k → B_X7_follows_14 (f + 1) (hrL c lk la k : Int) (twL c lk k) (k : Int) μ = some ((k : Int), μ) → ∃ r m, B_X7_follows_14 (f + 1) (hrL c lk la k : Int) (twL c lk k) (k : Int) μ = some (r, m) ∧ Fst (bdL c lk la) n r ∧ (∀ r i q, r < 73 → rd m r i q = rd μ r i q) ∧ (r = -1 → Lay c lk la (rd m 73 false) (rd m 74 false) n ∧ Fin c lk la (rd m 73 false) (rd m 74 false) n) := fun z e => ⟨(k : Int), μ, e, Or.inl ⟨k, hkn, rfl, z, hb⟩, fun r i q _ => rfl, fun w => by omega⟩
    by_cases z1 : la k < hrL c lk la k
    · rw [if_pos z1] at head; exact bad (Or.inl z1) head
    rw [if_neg z1] at head
    by_cases z2 : c 13 (lk k) = twL c lk k
    rotate_left
    · rw [if_pos z2] at head; exact bad (Or.inr (Or.inl z2)) head
    rw [if_neg (fun w => w z2)] at head
    by_cases z3 : c 15 (lk k) = (if c 18 (lk k) = 0 then (la k : Int) else ((la k % 24 : Nat) : Int))
    rotate_left
    · rw [if_pos z3] at head; exact bad (Or.inr (Or.inr (Or.inl z3))) head
    rw [if_neg (fun w => w z3)] at head
    by_cases z4 : (la k : Int) + c 16 (lk k) ≤ c 2 2
    rotate_left
    · rw [if_neg z4] at head; exact bad (Or.inr (Or.inr (Or.inr (by omega)))) head
    rw [if_pos z4] at head
    have nb : ∀ j, j < k + 1 → ¬ bdL c lk la j := fun j hj => by
      by_cases q : j = k
      · rw [q]
        intro w
        rcases w with w | w | w | w
        · exact z1 w
        · exact w z2
        · exact w z3
        · omega
      · exact hb j (by omega)
    have e1 : hrL c lk la (k + 1) = la k + (c 16 (lk k)).toNat := rfl
    obtain ⟨m1, a1, a2⟩ := fol_142 (k14 := B_X7_follows_14 f) (t := twL c lk k) (k := (k : Int)) (b := la k) g2 (la k - hrL c lk la k) FU (hrL c lk la k) μ (by omega) (FU_gt (by omega))
    have e2 : ∀ r i q, r < 73 → rd m1 r i q = rd μ r i q := fun r i q h => by rw [a2, if_neg (by omega), if_neg (by omega)]
    obtain ⟨m2, hm2⟩ : ∃ m2, m2 = wr (wr m1 73 false (la k) (twL c lk k)) 74 false (la k) 0 := ⟨_, rfl⟩
    have e3 : ∀ r i q, r < 73 → rd m2 r i q = rd μ r i q := fun r i q h => by rw [hm2, rdx (by omega), rdx (by omega)]; exact e2 r i q h
    have ym1 := y.eq e2
    have ym2 := y.eq e3
    obtain ⟨m3, b1, b2⟩ := fol_211 (i := i) (S := S) (L := L) (pm := pm) (k14 := B_X7_follows_14 f) (k := k) G hkn (g := hrL c lk la (k + 1)) (by omega) (hrL c lk la (k + 1) - (la k + 1)) FU (la k + 1) m2 (by omega) (FU_gt (by omega)) ym2
    have l3' := ol m2 3 (by omega)
    rw [(ym2.1.1.2.2.2.1 (lk k) g1).2.2.2.1, show ((3 : Nat) : Int) = 3 from rfl] at l3'
    have hex : ex142 (B_X7_follows_14 f) (la k : Int) (twL c lk k) (k : Int) m1 = B_X7_follows_14 f (hrL c lk la (k + 1) : Int) (c 14 (lk k)) ((k + 1 : Nat) : Int) m3 := by
      unfold ex142
      rw [ym1.2.1, wid (x := (n : Int)) (by omega) (by omega), wid (x := (k : Int)) (by omega) (by omega), if_pos (show ¬ (k : Int) = (n : Int) by omega), wid (x := (la k : Int)) (by omega) (by omega), if_pos (by omega), if_pos (by omega), if_pos (by omega), ixn k (by omega), ixn (la k) (by omega), (ym1.2.2 k hkn).1, ← hm2, l3', bp_k, ← b1, show ((hrL c lk la (k + 1) : Nat) : Int) = (la k : Int) + c 16 (lk k) by omega, show ((la k + 1 : Nat) : Int) = (la k : Int) + 1 by omega]
    have e4 : ∀ r i q, r < 73 → rd m3 r i q = rd μ r i q := fun r i q h => by
      rw [b2, if_neg (by omega), if_neg (by omega)]
      exact e3 r i q h
    have Y2 : Lay c lk la (rd m3 73 false) (rd m3 74 false) (k + 1) := fun j hj => by
      by_cases q : j = k
      · subst q
        refine ⟨fun h p q => ?_, fun h p q => ?_, ?_, fun h p q => ?_⟩
        · rw [b2, if_neg (by omega), if_neg (by omega), hm2, rdx (by omega)]
          by_cases w : h = la j
          · rw [w, rd_s]
          · rw [rdx (by omega), a2, if_pos ⟨rfl, rfl, p, by omega⟩]
        · rw [b2, if_neg (by omega), if_neg (by omega), hm2, rdx (by omega), rdx (by omega), a2, if_neg (by omega), if_pos ⟨rfl, rfl, p, by omega⟩]
        · rw [b2, if_neg (by omega), if_neg (by omega), hm2, rd_s]
        · rw [b2, if_pos ⟨rfl, rfl, by omega, q⟩, b2, if_neg (by omega), if_pos ⟨rfl, rfl, by omega, q⟩]
          exact ⟨rfl, rfl⟩
      · exact (Y.eq hw G (k := k) (by omega) hb (fun h hh => by
          rw [b2, if_neg (by omega), if_neg (by omega), hm2, rdx (by omega), rdx (by omega), a2, if_neg (by omega), if_neg (by omega), b2, if_neg (by omega), if_neg (by omega), hm2, rdx (by omega), rdx (by omega), a2, if_neg (by omega), if_neg (by omega)]
          exact ⟨rfl, rfl⟩)) j (by omega)
    obtain ⟨r, m, p1, p2, p3, p4⟩ := ih f (k + 1) m3 (by omega) (by omega) (y.eq e4) nb Y2
    refine ⟨r, m, ?_, p2, fun r i q h => (p3 r i q h).trans (e4 r i q h), p4⟩
    rw [head, a1, hex, ← p1]
    rfl
/-! the sleepless days -/
def slp (b : Nat → Int) (d : Nat) : Nat → Nat := cn (fun j => decide (¬ w32 (b (24 * d + j)) = 0))
def sdP (c : Co) (b : Nat → Int) (d : Nat) : Prop := ((24 * d + 8 : Nat) : Int) ≤ c 2 2 ∧ ((slp b d 8 : Nat) : Int) < c 2 1
theorem slX_21 {i : Bool} {c : Co} {k2 : Bool → Int → Mi → Option Int} {μ : Mi} (hw : WF c) (hc : cr μ i = c) {x : Nat} (hx : x ≤ 3) : ∀ (d n j : Nat), j + d = 8 → d < n → B_X5_sleeplessDay_21 k2 n i (x : Int) ((slp (rd μ 40 false) x j : Nat) : Int) (j : Int) μ = if c 2 1 ≤ ((slp (rd μ 40 false) x 8 : Nat) : Int) then k2 i ((x + 1 : Nat) : Int) μ else some (x : Int) := by
  have hslp := hw.2.2.2.2.2.2.1
  intro d
  induction d with
  | zero =>
    intro n j hj hn
    obtain ⟨n, rfl⟩ : ∃ q, n = q + 1 := ⟨n - 1, by omega⟩
    have e : j = 8 := by omega
    subst e
    have h8 := cn_le (fun j => decide (¬ w32 (rd μ 40 false (24 * x + j)) = 0)) 8
    have h8' : slp (rd μ 40 false) x 8 ≤ 8 := h8
    rw [B_X5_sleeplessDay_21_s, F_X5_sleeplessDay_21, if_pos (by decide), cm hc (r := 2) (k := 1) (by omega), wid (x := c 2 1) (by omega) (by omega), wid (x := ((slp (rd μ 40 false) x 8 : Nat) : Int)) (by omega) (by omega), show (x : Int) + 1 = ((x + 1 : Nat) : Int) by omega]
  | succ d ih =>
    intro n j hj hn
    obtain ⟨n, rfl⟩ : ∃ q, n = q + 1 := ⟨n - 1, by omega⟩
    have go := ih n (j + 1) (by omega) (by omega)
    have hs : slp (rd μ 40 false) x (j + 1) = slp (rd μ 40 false) x j + (if w32 (rd μ 40 false (24 * x + j)) = 0 then 0 else 1) := by
      unfold slp
      rw [cn]
      by_cases z : w32 (rd μ 40 false (24 * x + j)) = 0
      · rw [if_pos z, if_neg (by simpa using z)]
      · rw [if_neg z, if_pos (by simpa using z)]
    rw [B_X5_sleeplessDay_21_s, F_X5_sleeplessDay_21, wid (x := (j : Int)) (by omega) (by omega), if_neg (by omega), show (x : Int) * 24 + (j : Int) = ((24 * x + j : Nat) : Int) by omega, wid (x := ((24 * x + j : Nat) : Int)) (by omega) (by omega), if_pos (by omega), ixn _ (by omega)]
    unfold B_X5_sleeplessDay_46
    rw [show (j : Int) + 1 = ((j + 1 : Nat) : Int) by omega]
    by_cases z : w32 (rd μ 40 false (24 * x + j)) = 0
    · rw [if_pos z] at hs ⊢
      rw [hs, Nat.add_zero] at go
      exact go
    · rw [if_neg z] at hs ⊢
      rw [hs] at go
      rw [show ((slp (rd μ 40 false) x j : Nat) : Int) + 1 = ((slp (rd μ 40 false) x j + 1 : Nat) : Int) by omega]
      exact go
theorem slX {i : Bool} {c : Co} {μ : Mi} (hw : WF c) (hc : cr μ i = c) : ∀ (d n x : Nat), x + d = 4 → d < n → (∀ j, j < x → ¬ sdP c (rd μ 40 false) j) → ∃ r, B_X5_sleeplessDay_2 n i (x : Int) μ = some r ∧ Fst (sdP c (rd μ 40 false)) 4 r := by
  have hslp := hw.2.2.2.2.2.2.1
  have hen := hw.2.2.2.2.2.2.2.1
  intro d
  induction d with
  | zero =>
    intro n x hx hn hb
    obtain ⟨n, rfl⟩ : ∃ q, n = q + 1 := ⟨n - 1, by omega⟩
    refine ⟨-1, ?_, Or.inr ⟨rfl, fun k hk => hb k (by omega)⟩⟩
    rw [B_X5_sleeplessDay_2_s, F_X5_sleeplessDay_2, cm hc (r := 2) (k := 2) (by omega), wid (x := c 2 2) (by omega) (by omega), wid (x := (x : Int) * 24 + 8) (by omega) (by omega), if_pos (by omega)]
  | succ d ih =>
    intro n x hx hn hb
    obtain ⟨n, rfl⟩ : ∃ q, n = q + 1 := ⟨n - 1, by omega⟩
    rw [B_X5_sleeplessDay_2_s, F_X5_sleeplessDay_2, cm hc (r := 2) (k := 2) (by omega), wid (x := c 2 2) (by omega) (by omega), wid (x := (x : Int) * 24 + 8) (by omega) (by omega)]
    by_cases z : c 2 2 < (x : Int) * 24 + 8
    · rw [if_pos z]
      refine ⟨-1, rfl, Or.inr ⟨rfl, fun k hk w => ?_⟩⟩
      by_cases q : k < x
      · exact hb k q w
      · have := w.1; omega
    · rw [if_neg z]
      have e := slX_21 (k2 := B_X5_sleeplessDay_2 n) hw hc (x := x) (by omega) 8 FU 0 (by omega) (FU_gt (by omega))
      rw [show slp (rd μ 40 false) x 0 = 0 from rfl, show ((0 : Nat) : Int) = 0 from rfl] at e
      rw [e]
      by_cases y : c 2 1 ≤ ((slp (rd μ 40 false) x 8 : Nat) : Int)
      · rw [if_pos y]
        exact ih n (x + 1) (by omega) (by omega) (fun j hj w => by
          by_cases q : j = x
          · subst q; have := w.2; omega
          · exact hb j (by omega) w)
      · rw [if_neg y]
        exact ⟨(x : Int), rfl, Or.inl ⟨x, by omega, rfl, ⟨by omega, by omega⟩, hb⟩⟩
theorem slM_28 {i : Bool} {c : Co} {S L : List Nat} {pm : Nat} {k2 : Int → Mi → Option Int} {μ : Mi} (P : Pm μ i c S L pm) {x : Nat} (hx : x ≤ 3) : ∀ (d n j : Nat), j + d = 8 → d < n → B_X7_sleepless_28 k2 n (x : Int) ((slp (rd μ 74 false) x j : Nat) : Int) ((24 * x + j : Nat) : Int) μ = if c 2 1 ≤ ((slp (rd μ 74 false) x 8 : Nat) : Int) then k2 ((x + 1 : Nat) : Int) μ else some (x : Int) := by
  have hw := P.2.1
  have hslp := hw.2.2.2.2.2.2.1
  have hm := mi_le i
  intro d
  induction d with
  | zero =>
    intro n j hj hn
    obtain ⟨n, rfl⟩ : ∃ q, n = q + 1 := ⟨n - 1, by omega⟩
    have e : j = 8 := by omega
    subst e
    have h8 := cn_le (fun j => decide (¬ w32 (rd μ 74 false (24 * x + j)) = 0)) 8
    have h8' : slp (rd μ 74 false) x 8 ≤ 8 := h8
    rw [B_X7_sleepless_28_s, F_X7_sleepless_28, wid (x := 24 * (x : Int) + 8) (by omega) (by omega), wid (x := ((24 * x + 8 : Nat) : Int)) (by omega) (by omega), if_pos (by omega), P.2.2.2.1, wid (x := (mi i : Int)) (by omega) (by omega), if_pos (by omega), ixn (mi i) (by omega), P.1.2.2.2.2.1.2.1, wid (x := c 2 1) (by omega) (by omega), wid (x := ((slp (rd μ 74 false) x 8 : Nat) : Int)) (by omega) (by omega), show (x : Int) + 1 = ((x + 1 : Nat) : Int) by omega]
  | succ d ih =>
    intro n j hj hn
    obtain ⟨n, rfl⟩ : ∃ q, n = q + 1 := ⟨n - 1, by omega⟩
    have go := ih n (j + 1) (by omega) (by omega)
    have hs : slp (rd μ 74 false) x (j + 1) = slp (rd μ 74 false) x j + (if w32 (rd μ 74 false (24 * x + j)) = 0 then 0 else 1) := by
      unfold slp
      rw [cn]
      by_cases z : w32 (rd μ 74 false (24 * x + j)) = 0
      · rw [if_pos z, if_neg (by simpa using z)]
      · rw [if_neg z, if_pos (by simpa using z)]
    rw [B_X7_sleepless_28_s, F_X7_sleepless_28, wid (x := 24 * (x : Int) + 8) (by omega) (by omega), wid (x := ((24 * x + j : Nat) : Int)) (by omega) (by omega), if_neg (by omega), if_pos (by omega), ixn _ (by omega)]
    unfold B_X7_sleepless_54
    rw [show ((24 * x + j : Nat) : Int) + 1 = ((24 * x + (j + 1) : Nat) : Int) by omega]
    by_cases z : w32 (rd μ 74 false (24 * x + j)) = 0
    · rw [if_pos z] at hs ⊢
      rw [hs, Nat.add_zero] at go
      rw [Int.add_zero]
      exact go
    · rw [if_neg z] at hs ⊢
      rw [hs] at go
      rw [show ((slp (rd μ 74 false) x j : Nat) : Int) + 1 = ((slp (rd μ 74 false) x j + 1 : Nat) : Int) by omega]
      exact go
theorem slM {i : Bool} {c : Co} {S L : List Nat} {pm : Nat} {μ : Mi} (P : Pm μ i c S L pm) : ∀ (d n x : Nat), x + d = 4 → d < n → (∀ j, j < x → ¬ sdP c (rd μ 74 false) j) → ∃ r, B_X7_sleepless_2 n (x : Int) μ = some r ∧ Fst (sdP c (rd μ 74 false)) 4 r := by
  have hw := P.2.1
  have hslp := hw.2.2.2.2.2.2.1
  have hen := hw.2.2.2.2.2.2.2.1
  have hm := mi_le i
  intro d
  induction d with
  | zero =>
    intro n x hx hn hb
    obtain ⟨n, rfl⟩ : ∃ q, n = q + 1 := ⟨n - 1, by omega⟩
    refine ⟨-1, ?_, Or.inr ⟨rfl, fun k hk => hb k (by omega)⟩⟩
    rw [B_X7_sleepless_2_s, F_X7_sleepless_2, P.2.2.2.1, wid (x := (mi i : Int)) (by omega) (by omega), if_pos (by omega), ixn (mi i) (by omega), P.1.2.2.2.2.1.2.2.1, wid (x := c 2 2) (by omega) (by omega), wid (x := 24 * (x : Int) + 8) (by omega) (by omega), if_pos (by omega)]
  | succ d ih =>
    intro n x hx hn hb
    obtain ⟨n, rfl⟩ : ∃ q, n = q + 1 := ⟨n - 1, by omega⟩
    rw [B_X7_sleepless_2_s, F_X7_sleepless_2, P.2.2.2.1, wid (x := (mi i : Int)) (by omega) (by omega), if_pos (by omega), ixn (mi i) (by omega), P.1.2.2.2.2.1.2.2.1, wid (x := c 2 2) (by omega) (by omega), wid (x := 24 * (x : Int) + 8) (by omega) (by omega)]
    by_cases z : c 2 2 < 24 * (x : Int) + 8
    · rw [if_pos z]
      refine ⟨-1, rfl, Or.inr ⟨rfl, fun k hk w => ?_⟩⟩
      by_cases q : k < x
      · exact hb k q w
      · have := w.1; omega
    · rw [if_neg z]
      have e := slM_28 (k2 := B_X7_sleepless_2 n) P (x := x) (by omega) 8 FU 0 (by omega) (FU_gt (by omega))
      rw [show slp (rd μ 74 false) x 0 = 0 from rfl, show ((0 : Nat) : Int) = 0 from rfl, show ((24 * x + 0 : Nat) : Int) = 24 * (x : Int) by omega] at e
      rw [e]
      by_cases y : c 2 1 ≤ ((slp (rd μ 74 false) x 8 : Nat) : Int)
      · rw [if_pos y]
        exact ih n (x + 1) (by omega) (by omega) (fun j hj w => by
          by_cases q : j = x
          · subst q; have := w.2; omega
          · exact hb j (by omega) w)
      · rw [if_neg y]
        exact ⟨(x : Int), rfl, Or.inl ⟨x, by omega, rfl, ⟨by omega, by omega⟩, hb⟩⟩
theorem sdP_cong {c : Co} {a b : Nat → Int} (h : ∀ q : Nat, (q : Int) < c 2 2 → a q = b q) (d : Nat) : sdP c a d ↔ sdP c b d := by
  unfold sdP
  by_cases z : ((24 * d + 8 : Nat) : Int) ≤ c 2 2
  · have : slp a d 8 = slp b d 8 := cn_cong 8 (fun k hk => by rw [h (24 * d + k) (by omega)])
    rw [this]
  · exact ⟨fun w => absurd w.1 z, fun w => absurd w.1 z⟩
