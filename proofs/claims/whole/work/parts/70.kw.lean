/-! PURE: learnWhere, whole -/
theorem Fb_f {μ : Mi} {i : Bool} {c : Co} {S L : List Nat} {pm aim N : Nat} {ce : Nat → Nat} {r p : Nat} {v : Int} (hr : r = 1 ∨ r = 21) (F : Fb μ i c S L pm aim N ce) : Fb (wr μ r i p v) i c S L pm aim N ce := by
  obtain ⟨⟨hc, hw, hs, p1, p2, p3, p4, p5, p6⟩, hA, ha, hP, hC⟩ := F
  refine ⟨⟨(cr_s (by omega)).trans hc, hw, hs, ?_, ?_, ?_, ?_, ?_, ?_⟩, by rw [rdx (by omega)]; exact hA, ha, ⟨by rw [rdx (by omega)]; exact hP.1, fun j hj => by rw [rdx (by omega)]; exact hP.2 j hj⟩, hC⟩
  · rw [rdx (by omega)]; exact p1
  · intro q hq; rw [rdx (by omega)]; exact p2 q hq
  · rw [rdx (by omega)]; exact p3
  · intro q hq; rw [rdx (by omega)]; exact p4 q hq
  · rw [rdx (by omega)]; exact p5
  · intro h hh; rw [rdx (by omega)]; exact p6 h hh
theorem tb_f {μ : Mi} {i : Bool} {r p : Nat} {v : Int} (hr : r = 1 ∨ r = 21) : tb (wr μ r i p v) = tb μ := by
  funext h l t s e
  unfold tb
  rw [rdx (by omega)]
theorem lw_36 {i : Bool} {c : Co} {S L : List Nat} {pm N : Nat} {ce : Nat → Nat} {T : Tb} (D : DP 4 c S L pm T) : ∀ (d n x : Nat) (μ : Mi), x + d = 97 → d < n → Fb μ i c S L pm 4 N ce → tb μ = T → (∀ q, q < x → rd μ 21 i q = 0) → ∃ m, B_X4_learnWhere_36 n i (x : Int) μ = some m ∧ GD m i c S L pm N ce T ((c 2 2).toNat + 1) 0 0 ∧ Nc μ m ∧ (0 ≤ Tm c T 0 (sK c L) → Mk m c 0 (sK c L)) := by
  intro d
  induction d with
  | zero =>
    intro n x μ hx hn F hT hz
    obtain ⟨n, rfl⟩ : ∃ q, n = q + 1 := ⟨n - 1, by omega⟩
    have P := F.1
    have hw := P.2.1
    have hs := P.2.2.1
    have hen := hw.2.2.2.2.2.2.2.1
    have vd := st_Vd hw hs
    obtain ⟨vs, s1, s2, s3, s4⟩ := sK_VM (S := S) (pm := pm) hw hs
    have noMk : ∀ g k : Nat, (g : Int) ≤ c 2 2 → VM c S L g k → ¬ Mk μ c g k := fun g k hg vk z => by
      have := Tm_4 hw hs D hg vk
      unfold Mk at z
      rw [hT] at z
      omega
    have nods : ∀ h' k, ¬ Dsx c ce 0 0 0 h' k := fun h' k z => by
      unfold Dsx at z
      rcases z with z | ⟨_, z | ⟨_, q, z, _⟩⟩ <;> omega
    have W : WA μ i c S L pm N ce T := ⟨F, fun g l t s e hg v => by
      have := (D g l t s e hg v).2
      unfold bdT at this
      rw [if_pos rfl] at this
      rw [hT]
      exact ⟨by omega, Iff.rfl⟩, fun g k hg vk z => absurd z (noMk g k hg vk)⟩
    have G : GD μ i c S L pm N ce T 0 0 0 := by
      refine ⟨W, fun h k j g k' _ _ _ a => absurd a (nods h k), fun h hh => ⟨0, by omega, hz h (by omega), fun t _ => ?_, ?_⟩⟩
      · rw [Nat.zero_testBit]
        exact ⟨fun z => (by cases z), fun ⟨k, _, a, _⟩ => absurd a (nods h k)⟩
      · rw [Nat.zero_testBit]
        refine ⟨fun z => (by cases z), fun z => ?_⟩
        rcases z with z | ⟨h', k, j, g, k', _, _, _, _, _, a, _⟩
        · exact absurd z id
        · exact absurd a (nods h' k)
    obtain ⟨w1, w2⟩ := W.reach (g := 0) (by omega) vd
    rw [show ((0 : Nat) : Int) = 0 from rfl] at w1 w2
    have eT := Tm_s hw hs T
    have fin : ∀ m1 r, D_X4_reach i 0 ((mk4 0 (c 2 0).toNat 0 (sa c L 0 (c 2 0).toNat) : Nat) : Int) μ = some (r, m1) → GD m1 i c S L pm N ce T 0 0 0 → (0 ≤ Tm c T 0 (sK c L) → Mk m1 c 0 (sK c L)) → ∃ m, B_X4_learnWhere_36 (n + 1) i (x : Int) μ = some m ∧ GD m i c S L pm N ce T ((c 2 2).toNat + 1) 0 0 ∧ Nc μ m ∧ (0 ≤ Tm c T 0 (sK c L) → Mk m c 0 (sK c L)) := fun m1 r hre G1 hmk => by
      obtain ⟨m, b1, b2, b3, b4⟩ := lw_70 D ((c 2 2).toNat + 1) FU 0 m1 (by omega) (FU_gt (by omega)) G1
      refine ⟨m, ?_, b2, (reach_Nc hre).tr b3, fun z => (b4 _ vs).mpr (hmk z)⟩
      rw [B_X4_learnWhere_36_s, F_X4_learnWhere_36, wid (x := (x : Int)) (by omega) (by omega), if_pos (by omega), startCell_X P, bp_k, hre, bd_k]
      exact b1
    by_cases z : T 0 0 (c 2 0).toNat 0 (sa c L 0 (c 2 0).toNat) < 0
    · exact fin μ 0 (w1 z) G (fun y => by omega)
    · have hp : pMs c pm 0 (c 2 0).toNat = 0 := Decidable.byContradiction fun y => by
        have := T_miss (by omega) D (by omega) vd y
        omega
      obtain ⟨G2, hM⟩ := G.mark (g := 0) (k' := sK c L) (by omega) vs (by omega) ⟨sK c L, Rch.st hp, rfl, rfl, rfl, rfl⟩ (fun h k a => absurd a (nods h k)) (fun h k _ a => absurd a (nods h k))
      exact fin _ 1 (w2 (sK c L) vs (by rw [s4, cp_0 hw]) s1.symm s2.symm s3.symm (by omega)) G2 (fun _ => (hM 0 _ (by omega) vs).mpr (Or.inr ⟨rfl, rfl, rfl, rfl, rfl⟩))
  | succ d ih =>
    intro n x μ hx hn F hT hz
    obtain ⟨n, rfl⟩ : ∃ q, n = q + 1 := ⟨n - 1, by omega⟩
    obtain ⟨m, a1, a2, a3, a4⟩ := ih n (x + 1) (wr μ 21 i x 0) (by omega) (by omega) (Fb_f (Or.inr rfl) F) ((tb_f (Or.inr rfl)).trans hT) (fun q hq => by
      rw [rd_wr]
      split
      · rfl
      · rename_i w
        exact hz q (by
          have : q ≠ x := fun z => w ⟨rfl, rfl, z⟩
          omega))
    refine ⟨m, ?_, a2, fun r j q e1 e2 => (a3 r j q e1 e2).trans (rdx (by omega)), a4⟩
    rw [B_X4_learnWhere_36_s, F_X4_learnWhere_36, wid (x := (x : Int)) (by omega) (by omega), if_neg (by omega), if_pos (by omega), ixn x (by omega), show (x : Int) + 1 = ((x + 1 : Nat) : Int) by omega]
    exact a1
/-- what goes on is marked -/
theorem mk_all {μ : Mi} {c : Co} {S L : List Nat} {pm : Nat} {T : Tb} (hw : WF c) (hs : Sk c S L pm) (D : DP 4 c S L pm T) (wd : WD μ c S L pm T (fun _ _ _ => True)) (h0 : 0 ≤ Tm c T 0 (sK c L) → Mk μ c 0 (sK c L)) : ∀ (n g k' : Nat), Rcn c S L pm n g k' → 0 ≤ Tm c T g k' → Mk μ c g k' := by
  have hnl := hw.2.1
  intro n
  induction n with
  | zero =>
    rintro g k' ⟨rfl, rfl, hp⟩ z
    exact h0 z
  | succ n ih =>
    rintro g k' ⟨h, k, j, r, a, b, d⟩ z
    obtain ⟨-, v, vp⟩ := Rch.vm hw hs n h k r
    refine wd h k j g k' a v b trivial (ih h k r ?_) d z
    rw [Tm_fold (by omega) hw hs D a v vp]
    exact ((fj_pos hw _ (by omega)).2).mpr ⟨j, by omega, (vj_nn hw b).mpr ⟨g, k', d, z⟩⟩
theorem KW_of {μ : Mi} {i : Bool} {c : Co} {S L : List Nat} {pm N : Nat} {ce : Nat → Nat} {T : Tb} (D : DP 4 c S L pm T) (G : GD μ i c S L pm N ce T ((c 2 2).toNat + 1) 0 0) (h0 : 0 ≤ Tm c T 0 (sK c L) → Mk μ c 0 (sK c L)) : ∀ h : Nat, (h : Int) ≤ c 2 2 → ∃ x : Nat, x < 512 ∧ rd μ 21 i h = (x : Int) ∧ (∀ t, t < 8 → (x.testBit t = true ↔ ∃ k, Rch c S L pm h k ∧ 0 ≤ Tm c T h k ∧ k / 140 = t)) ∧ (x.testBit 8 = true ↔ ∃ h' k j g k' : Nat, h' < h ∧ h < g ∧ (j : Int) ≤ c 0 2 ∧ Rch c S L pm h' k ∧ mG c S L pm h' k j = some (g, k') ∧ 0 ≤ Tm c T g k') := by
  have all : ∀ h k : Nat, (h : Int) ≤ c 2 2 → Dsx c ce ((c 2 2).toNat + 1) 0 0 h k := fun h k hh => by unfold Dsx; left; omega
  have G2 := GI.cong G (Ds' := fun _ _ => True) (De' := fun _ _ _ => True) (fun h k hh _ _ => ⟨fun _ => trivial, fun _ => all h k hh⟩) (fun h k q hh _ _ _ => ⟨fun _ => trivial, fun _ => all h k (by omega)⟩) (fun _ _ => Iff.rfl)
  obtain ⟨W, wd, wx⟩ := G2
  have hw := W.1.1.2.1
  have hs := W.1.1.2.2.1
  have hM := mk_all hw hs D wd h0
  have pos : ∀ h k : Nat, (h : Int) ≤ c 2 2 → VM c S L h k → Mk μ c h k → 0 ≤ Tm c T h k := fun h k hh v mk => by
    have := (W.2.1 h _ _ _ _ hh (v.vd hw hs)).2.mp (by unfold Mk Tm at mk; omega)
    exact this
  intro h hh
  obtain ⟨x, x1, x2, x3, x4⟩ := wx h hh
  refine ⟨x, x1, x2, fun t ht => (x3 t ht).trans ⟨?_, ?_⟩, x4.trans ⟨?_, ?_⟩⟩
  · rintro ⟨k, v, -, mk, e⟩
    obtain ⟨k2, r, s⟩ := W.2.2 h k hh v mk
    exact ⟨k2, r, by rw [s.tm]; exact pos h k hh v mk, s.2.1.trans e⟩
  · rintro ⟨k, ⟨n, r⟩, z, e⟩
    exact ⟨k, (Rch.vm hw hs n h k r).2.1, trivial, hM n h k r z, e⟩
  · rintro (z | ⟨h', k, j, g, k', a1, a2, a3, a4, a5, -, a7, a8, a9⟩)
    · exact absurd z id
    · obtain ⟨k2, ⟨n, r⟩, s⟩ := W.2.2 h' k (by omega) a5 a7
      obtain ⟨k3, b1, b2⟩ := mG_sc hw hs a5 (Rch.vm hw hs n h' k2 r).2.1 (sc_sy s) a8
      exact ⟨h', k2, j, g, k3, a1, a2, a4, ⟨n, r⟩, b1, by rw [← b2.tm]; exact a9⟩
  · rintro ⟨h', k, j, g, k', a1, a2, a3, ⟨n, r⟩, a5, a6⟩
    obtain ⟨-, v, vp⟩ := Rch.vm hw hs n h' k r
    have hnl := hw.2.1
    refine Or.inr ⟨h', k, j, g, k', a1, a2, by omega, a3, v, trivial, hM n h' k r ?_, a5, a6⟩
    rw [Tm_fold (by omega) hw hs D (by omega) v vp]
    exact ((fj_pos hw _ (by omega)).2).mpr ⟨j, by omega, (vj_nn hw a3).mpr ⟨g, k', a5, a6⟩⟩
