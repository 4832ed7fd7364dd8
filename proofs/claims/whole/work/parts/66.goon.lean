/-! PURE: the class goes forward: from one cell -/
def WD (μ : Mi) (c : Co) (S L : List Nat) (pm : Nat) (T : Tb) (De : Nat → Nat → Nat → Prop) : Prop := ∀ h k j g k' : Nat, (h : Int) < c 2 2 → VM c S L h k → (j : Int) ≤ c 0 2 → De h k j → Mk μ c h k → mG c S L pm h k j = some (g, k') → 0 ≤ Tm c T g k' → Mk μ c g k'
/-- some done move passes over the hour h -/
def Ov (μ : Mi) (c : Co) (S L : List Nat) (pm : Nat) (T : Tb) (De : Nat → Nat → Nat → Prop) (h : Nat) : Prop := ∃ h' k j g k' : Nat, h' < h ∧ h < g ∧ (h' : Int) < c 2 2 ∧ (j : Int) ≤ c 0 2 ∧ VM c S L h' k ∧ De h' k j ∧ Mk μ c h' k ∧ mG c S L pm h' k j = some (g, k') ∧ 0 ≤ Tm c T g k'
def WX (μ : Mi) (i : Bool) (c : Co) (S L : List Nat) (pm : Nat) (T : Tb) (Ds : Nat → Nat → Prop) (De : Nat → Nat → Nat → Prop) (Ex : Nat → Prop) : Prop := ∀ h : Nat, (h : Int) ≤ c 2 2 → ∃ x : Nat, x < 512 ∧ rd μ 21 i h = (x : Int) ∧ (∀ t, t < 8 → (x.testBit t = true ↔ ∃ k, VM c S L h k ∧ Ds h k ∧ Mk μ c h k ∧ k / 140 = t)) ∧ (x.testBit 8 = true ↔ Ex h ∨ Ov μ c S L pm T De h)
def GI (μ : Mi) (i : Bool) (c : Co) (S L : List Nat) (pm N : Nat) (ce : Nat → Nat) (T : Tb) (Ds : Nat → Nat → Prop) (De : Nat → Nat → Nat → Prop) (Ex : Nat → Prop) : Prop := WA μ i c S L pm N ce T ∧ WD μ c S L pm T De ∧ WX μ i c S L pm T Ds De Ex
theorem GI.mark {μ : Mi} {i : Bool} {c : Co} {S L : List Nat} {pm N : Nat} {ce : Nat → Nat} {T : Tb} {Ds : Nat → Nat → Prop} {De : Nat → Nat → Nat → Prop} {Ex : Nat → Prop} (G : GI μ i c S L pm N ce T Ds De Ex) {g k' : Nat} (hg : (g : Int) ≤ c 2 2) (v : VM c S L g k') (h0 : 0 ≤ Tm c T g k') (hr : ∃ k2, Rch c S L pm g k2 ∧ sc c k2 k') (hs1 : ∀ h k, Ds h k → h < g) (hs2 : ∀ h k j, De h k j → h < g) : GI (mkS μ c g k') i c S L pm N ce T Ds De Ex ∧ ∀ h k : Nat, (h : Int) ≤ c 2 2 → VM c S L h k → (Mk (mkS μ c g k') c h k ↔ Mk μ c h k ∨ (h = g ∧ sc c k k')) := by
  obtain ⟨W, wd, wx⟩ := G
  obtain ⟨W', hM⟩ := W.mark hg v h0 hr
  have hw := W.1.1.2.1
  have hs := W.1.1.2.2.1
  have same : ∀ h k : Nat, (h : Int) ≤ c 2 2 → VM c S L h k → h < g → (Mk (mkS μ c g k') c h k ↔ Mk μ c h k) := fun h k hh vk hl => (hM h k hh vk).trans ⟨fun w => w.elim id (fun w => by omega), Or.inl⟩
  have ov : ∀ h, Ov (mkS μ c g k') c S L pm T De h ↔ Ov μ c S L pm T De h := fun h => by
    unfold Ov
    constructor
    · rintro ⟨h', k, j, g2, k2, a1, a2, a3, a4, a5, a6, a7, a8, a9⟩
      exact ⟨h', k, j, g2, k2, a1, a2, a3, a4, a5, a6, (same h' k (by omega) a5 (hs2 _ _ _ a6)).mp a7, a8, a9⟩
    · rintro ⟨h', k, j, g2, k2, a1, a2, a3, a4, a5, a6, a7, a8, a9⟩
      exact ⟨h', k, j, g2, k2, a1, a2, a3, a4, a5, a6, (same h' k (by omega) a5 (hs2 _ _ _ a6)).mpr a7, a8, a9⟩
  refine ⟨⟨W', fun h k j g2 k2 a1 a2 a3 a4 a5 a6 a7 => ?_, fun h hh => ?_⟩, hM⟩
  · obtain ⟨o1, o2, o3, o4⟩ := mG_ok hw hs a1 a2 a3 a6
    exact (hM g2 k2 o2 o3).mpr (Or.inl (wd h k j g2 k2 a1 a2 a3 a4 ((same h k (by omega) a2 (hs2 _ _ _ a4)).mp a5) a6 a7))
  · obtain ⟨x, x1, x2, x3, x4⟩ := wx h hh
    refine ⟨x, x1, ?_, fun t ht => (x3 t ht).trans ⟨?_, ?_⟩, ?_⟩
    · unfold mkS; rw [rdx (by omega)]; exact x2
    · rintro ⟨k, b1, b2, b3, b4⟩
      exact ⟨k, b1, b2, (same h k hh b1 (hs1 _ _ b2)).mpr b3, b4⟩
    · rintro ⟨k, b1, b2, b3, b4⟩
      exact ⟨k, b1, b2, (same h k hh b1 (hs1 _ _ b2)).mp b3, b4⟩
    · rw [ov]; exact x4
theorem Fb_21 {μ : Mi} {i : Bool} {c : Co} {S L : List Nat} {pm aim N : Nat} {ce : Nat → Nat} {p : Nat} {v : Int} (F : Fb μ i c S L pm aim N ce) : Fb (wr μ 21 i p v) i c S L pm aim N ce := by
  obtain ⟨⟨hc, hw, hs, p1, p2, p3, p4, p5, p6⟩, hA, ha, hP, hC⟩ := F
  refine ⟨⟨(cr_s (by omega)).trans hc, hw, hs, ?_, ?_, ?_, ?_, ?_, ?_⟩, by rw [rdx (by omega)]; exact hA, ha, ⟨by rw [rdx (by omega)]; exact hP.1, fun j hj => by rw [rdx (by omega)]; exact hP.2 j hj⟩, hC⟩
  · rw [rdx (by omega)]; exact p1
  · intro q hq; rw [rdx (by omega)]; exact p2 q hq
  · rw [rdx (by omega)]; exact p3
  · intro q hq; rw [rdx (by omega)]; exact p4 q hq
  · rw [rdx (by omega)]; exact p5
  · intro h hh; rw [rdx (by omega)]; exact p6 h hh
theorem tb_21 {μ : Mi} {i : Bool} {p : Nat} {v : Int} : tb (wr μ 21 i p v) = tb μ := by
  funext h l t s e
  unfold tb
  rw [rdx (by omega)]
theorem WA.w21 {μ : Mi} {i : Bool} {c : Co} {S L : List Nat} {pm N : Nat} {ce : Nat → Nat} {T : Tb} {p : Nat} {v : Int} (W : WA μ i c S L pm N ce T) : WA (wr μ 21 i p v) i c S L pm N ce T := by
  obtain ⟨F, wb, wc⟩ := W
  refine ⟨Fb_21 F, ?_, ?_⟩
  · rw [tb_21]; exact wb
  · unfold Mk; rw [tb_21]; exact wc
theorem Mk_21 {μ : Mi} {i : Bool} {c : Co} {p : Nat} {v : Int} {h k : Nat} : Mk (wr μ 21 i p v) c h k ↔ Mk μ c h k := by
  unfold Mk
  rw [tb_21]
theorem bit_ne {x t q : Nat} (h : ¬ q = t) : (x ||| 2 ^ t).testBit q = x.testBit q := by
  rw [Nat.testBit_or, Nat.testBit_two_pow]
  have : decide (t = q) = false := by simp; omega
  rw [this, Bool.or_false]
/-- the hour h1 is marked as on the way -/
theorem GI.way {μ : Mi} {i : Bool} {c : Co} {S L : List Nat} {pm N : Nat} {ce : Nat → Nat} {T : Tb} {Ds : Nat → Nat → Prop} {De : Nat → Nat → Nat → Prop} {Ex : Nat → Prop} (G : GI μ i c S L pm N ce T Ds De Ex) {h1 : Nat} (hh : (h1 : Int) ≤ c 2 2) : ∃ x : Nat, x < 512 ∧ rd μ 21 i h1 = (x : Int) ∧ GI (wr μ 21 i h1 ((x ||| 2 ^ 8 : Nat) : Int)) i c S L pm N ce T Ds De (fun h => Ex h ∨ h = h1) := by
  obtain ⟨W, wd, wx⟩ := G
  obtain ⟨x, x1, x2, x3, x4⟩ := wx h1 hh
  refine ⟨x, x1, x2, W.w21, ?_, fun h hle => ?_⟩
  · unfold WD; simp only [Mk_21]; exact wd
  · have ov : Ov (wr μ 21 i h1 ((x ||| 2 ^ 8 : Nat) : Int)) c S L pm T De h ↔ Ov μ c S L pm T De h := by
      unfold Ov; simp only [Mk_21]
    by_cases e : h = h1
    · refine ⟨x ||| 2 ^ 8, Nat.or_lt_two_pow (n := 9) x1 (by decide), by rw [e, rd_s], fun t ht => ?_, ?_⟩
      · rw [bit_ne (by omega), e]
        simp only [Mk_21]
        exact x3 t ht
      · exact ⟨fun _ => Or.inl (Or.inr e), fun _ => bit_one x 8⟩
    · obtain ⟨y, y1, y2, y3, y4⟩ := wx h hle
      refine ⟨y, y1, by rw [rdx (by omega)]; exact y2, fun t ht => ?_, ?_⟩
      · simp only [Mk_21]; exact y3 t ht
      · rw [ov, y4]
        exact ⟨fun w => w.elim (fun w => Or.inl (Or.inl w)) Or.inr, fun w => w.elim (fun w => w.elim Or.inl (fun w => absurd w e)) Or.inr⟩
/-- the town of the cell of k0 is marked at h0 -/
theorem GI.town {μ : Mi} {i : Bool} {c : Co} {S L : List Nat} {pm N : Nat} {ce : Nat → Nat} {T : Tb} {Ds : Nat → Nat → Prop} {De : Nat → Nat → Nat → Prop} {Ex : Nat → Prop} (G : GI μ i c S L pm N ce T Ds De Ex) {h0 k0 : Nat} (hh : (h0 : Int) ≤ c 2 2) (v : VM c S L h0 k0) (mk : Mk μ c h0 k0) : ∃ x : Nat, x < 512 ∧ rd μ 21 i h0 = (x : Int) ∧ GI (wr μ 21 i h0 ((x ||| 2 ^ (k0 / 140) : Nat) : Int)) i c S L pm N ce T (fun h k => Ds h k ∨ (h = h0 ∧ sc c k k0)) De Ex := by
  obtain ⟨W, wd, wx⟩ := G
  have htw := W.1.1.2.1.1
  have hk8 : k0 / 140 < 8 := by have := v.2.1; omega
  obtain ⟨x, x1, x2, x3, x4⟩ := wx h0 hh
  have h512 : 2 ^ (k0 / 140) < 512 := Nat.lt_of_lt_of_le (Nat.pow_lt_pow_right (by omega) hk8) (by decide)
  refine ⟨x, x1, x2, W.w21, ?_, fun h hle => ?_⟩
  · unfold WD; simp only [Mk_21]; exact wd
  · have ov : Ov (wr μ 21 i h0 ((x ||| 2 ^ (k0 / 140) : Nat) : Int)) c S L pm T De h ↔ Ov μ c S L pm T De h := by
      unfold Ov; simp only [Mk_21]
    by_cases e : h = h0
    · refine ⟨x ||| 2 ^ (k0 / 140), Nat.or_lt_two_pow (n := 9) x1 h512, by rw [e, rd_s], fun t ht => ?_, ?_⟩
      · simp only [Mk_21]
        rw [e]
        by_cases z : t = k0 / 140
        · rw [z]
          exact ⟨fun _ => ⟨k0, v, Or.inr ⟨rfl, rfl, rfl, rfl, rfl⟩, mk, rfl⟩, fun _ => bit_one x _⟩
        · rw [bit_ne z, x3 t ht]
          constructor
          · rintro ⟨k, b1, b2, b3, b4⟩
            exact ⟨k, b1, Or.inl b2, b3, b4⟩
          · rintro ⟨k, b1, b2 | b2, b3, b4⟩
            · exact ⟨k, b1, b2, b3, b4⟩
            · exact absurd (b4.symm.trans b2.2.2.1) z
      · rw [bit_ne (by omega), ov, e]
        exact x4
    · obtain ⟨y, y1, y2, y3, y4⟩ := wx h hle
      refine ⟨y, y1, by rw [rdx (by omega)]; exact y2, fun t ht => ?_, by rw [ov]; exact y4⟩
      simp only [Mk_21]
      rw [y3 t ht]
      constructor
      · rintro ⟨k, b1, b2, b3, b4⟩
        exact ⟨k, b1, Or.inl b2, b3, b4⟩
      · rintro ⟨k, b1, b2 | b2, b3, b4⟩
        · exact ⟨k, b1, b2, b3, b4⟩
        · exact absurd b2.1 e
/-- the move j of the cell of k0 at h0 is done -/
theorem GI.mv {μ : Mi} {i : Bool} {c : Co} {S L : List Nat} {pm N : Nat} {ce : Nat → Nat} {T : Tb} {Ds : Nat → Nat → Prop} {De : Nat → Nat → Nat → Prop} {Ex : Nat → Prop} (G : GI μ i c S L pm N ce T Ds De Ex) {h0 k0 j : Nat} (hh : (h0 : Int) < c 2 2) (v : VM c S L h0 k0) (mk : Mk μ c h0 k0) (hj : (j : Int) ≤ c 0 2) (hm : ∀ g k', mG c S L pm h0 k0 j = some (g, k') → 0 ≤ Tm c T g k' → Mk μ c g k') (he : ∀ h, Ex h ↔ ∃ g k', h0 < h ∧ h < g ∧ mG c S L pm h0 k0 j = some (g, k') ∧ 0 ≤ Tm c T g k') : GI μ i c S L pm N ce T Ds (fun h k q => De h k q ∨ (h = h0 ∧ sc c k k0 ∧ q = j)) (fun _ => False) := by
  obtain ⟨W, wd, wx⟩ := G
  have hw := W.1.1.2.1
  have hs := W.1.1.2.2.1
  refine ⟨W, fun h k q g k' a1 a2 a3 a4 a5 a6 a7 => ?_, fun h hle => ?_⟩
  · rcases a4 with a4 | ⟨rfl, s, rfl⟩
    · exact wd h k q g k' a1 a2 a3 a4 a5 a6 a7
    · obtain ⟨k3, b1, b2⟩ := mG_sc hw hs a2 v s a6
      have := hm g k3 b1 (by rw [← b2.tm]; exact a7)
      unfold Mk at this ⊢
      rw [b2.tm]
      exact this
  · obtain ⟨x, x1, x2, x3, x4⟩ := wx h hle
    refine ⟨x, x1, x2, x3, x4.trans ⟨?_, ?_⟩⟩
    · rintro (w | ⟨h', k, q, g, k', a⟩)
      · obtain ⟨g, k', b1, b2, b3, b4⟩ := (he h).mp w
        exact Or.inr ⟨h0, k0, j, g, k', b1, b2, hh, hj, v, Or.inr ⟨rfl, ⟨rfl, rfl, rfl, rfl⟩, rfl⟩, mk, b3, b4⟩
      · exact Or.inr ⟨h', k, q, g, k', a.1, a.2.1, a.2.2.1, a.2.2.2.1, a.2.2.2.2.1, Or.inl a.2.2.2.2.2.1, a.2.2.2.2.2.2⟩
    · rintro (w | ⟨h', k, q, g, k', a1, a2, a3, a4, a5, a6 | ⟨rfl, s, rfl⟩, a7, a8, a9⟩)
      · exact absurd w id
      · exact Or.inr ⟨h', k, q, g, k', a1, a2, a3, a4, a5, a6, a7, a8, a9⟩
      · obtain ⟨k3, b1, b2⟩ := mG_sc hw hs a5 v s a8
        exact Or.inl ((he h).mpr ⟨g, k3, a1, a2, b1, by rw [← b2.tm]; exact a9⟩)
