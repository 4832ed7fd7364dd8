/-! PURE: learnWhere -/
def Nc (μ m : Mi) : Prop := ∀ r j q, r ≠ 21 → r ≠ 32 → rd m r j q = rd μ r j q
theorem Nc.tr {a b d : Mi} (h1 : Nc a b) (h2 : Nc b d) : Nc a d := fun r j q e1 e2 => (h2 r j q e1 e2).trans (h1 r j q e1 e2)
theorem goOn_Nc {i : Bool} {a b : Int} {μ m : Mi} (h : D_X4_goOnFrom i a b μ = some m) : Nc μ m := fun r j q e1 e2 => frR (fr_X4_goOnFrom h) (inW_no (p := fun q => q.1 == 21 || q.1 == 32) (by decide) (fun x y hp => by
  simp only [Bool.or_eq_true, beq_iff_eq] at hp
  omega))
theorem reach_Nc {i : Bool} {a b r : Int} {μ m : Mi} (h : D_X4_reach i a b μ = some (r, m)) : Nc μ m := fun r j q e1 e2 => frR (fr_X4_reach h) (inW_no (p := fun q => q.1 == 21 || q.1 == 32) (by decide) (fun x y hp => by
  simp only [Bool.or_eq_true, beq_iff_eq] at hp
  omega))
/-- done ahead of the j-th cell with l hours slept at h -/
def Dsx (c : Co) (ce : Nat → Nat) (h l j h' k : Nat) : Prop := h' < h ∨ (h' = h ∧ (cp c (k % 5) < l ∨ (cp c (k % 5) = l ∧ ∃ q, q < j ∧ ce q = mk4 0 (k / 140) (k / 20 % 7) (k / 5 % 4))))
abbrev GD (μ : Mi) (i : Bool) (c : Co) (S L : List Nat) (pm N : Nat) (ce : Nat → Nat) (T : Tb) (h l j : Nat) : Prop := GI μ i c S L pm N ce T (Dsx c ce h l j) (fun h' k _ => Dsx c ce h l j h' k) (fun _ => False)
theorem GD.cong {μ : Mi} {i : Bool} {c : Co} {S L : List Nat} {pm N : Nat} {ce : Nat → Nat} {T : Tb} {h l j h2 l2 j2 : Nat} (G : GD μ i c S L pm N ce T h l j) (e : ∀ h' k : Nat, (h' : Int) ≤ c 2 2 → VM c S L h' k → Mk μ c h' k → (Dsx c ce h l j h' k ↔ Dsx c ce h2 l2 j2 h' k)) : GD μ i c S L pm N ce T h2 l2 j2 :=
  GI.cong G e (fun h' k _ a b _ d => e h' k (by omega) b d) (fun _ _ => Iff.rfl)
theorem lw_97 {i : Bool} {c : Co} {S L : List Nat} {pm N : Nat} {ce : Nat → Nat} {T : Tb} {h l : Nat} {most : Int} {k70 : Bool → Int → Mi → Option Mi} {k89 : Bool → Int → Int → Int → Mi → Option Mi} (D : DP 4 c S L pm T) (hh : (h : Int) ≤ c 2 2) (hl : l ≤ mS c h) : ∀ (d n j : Nat) (μ : Mi), j + d = N → d < n → GD μ i c S L pm N ce T h l j → ∃ m, B_X4_learnWhere_97 k70 k89 n i (h : Int) most (l : Int) (j : Int) μ = k89 i (h : Int) most ((l + 1 : Nat) : Int) m ∧ GD m i c S L pm N ce T h l N ∧ Nc μ m ∧ ∀ k : Nat, VM c S L 0 k → (Mk m c 0 k ↔ Mk μ c 0 k) := by
  intro d
  induction d with
  | zero =>
    intro n j μ hj hn G
    obtain ⟨n, rfl⟩ : ∃ q, n = q + 1 := ⟨n - 1, by omega⟩
    obtain ⟨P, -, -, hP, hC⟩ := G.1.1
    have hN := hC.1
    refine ⟨μ, ?_, by rw [show j = N by omega] at G; exact G, fun _ _ _ _ _ => rfl, fun _ _ => Iff.rfl⟩
    rw [B_X4_learnWhere_97_s, F_X4_learnWhere_97, hP.1, wid (x := (N : Int)) (by omega) (by omega), wid (x := (j : Int)) (by omega) (by omega), if_pos (by omega), show (l : Int) + 1 = ((l + 1 : Nat) : Int) by omega]
  | succ d ih =>
    intro n j μ hj hn G
    obtain ⟨n, rfl⟩ : ∃ q, n = q + 1 := ⟨n - 1, by omega⟩
    obtain ⟨P, -, -, hP, hC⟩ := G.1.1
    have hw := P.2.1
    have hs := P.2.2.1
    have hN := hC.1
    have hen := hw.2.2.2.2.2.2.2.1
    have hslp := hw.2.2.2.2.2.2.1
    have htw := hw.1
    have hL2 := pow_L hs.2.1
    have hS6 := hs.1
    obtain ⟨t, s, e, t1, s1, e1, c1, -⟩ := hC.2.1 j (by omega)
    have hl4 : l ≤ 4 ∧ l ≤ (c 2 1).toNat ∧ l ≤ (if h % 24 < 8 then min 4 (h % 24) else 0) := by
      unfold mS at hl
      split at hl
      · rename_i z; rw [if_pos z]; omega
      · rename_i z; rw [if_neg z]; omega
    obtain ⟨k0, hk0⟩ : ∃ x, x = ms t s e l := ⟨_, rfl⟩
    obtain ⟨p1, p2, p3, p4⟩ := ms_parts (t := t) (s := s) (e := e) (l := l) (by omega) (by omega) hl4.1
    rw [← hk0] at p1 p2 p3 p4
    have ecp : cp c (k0 % 5) = l := by rw [p4]; unfold cp; omega
    have v : VM c S L h k0 := ⟨by rw [hk0]; exact ms_lt (by omega) (by omega) (by omega) hl4.1, by rw [p1]; exact t1, by rw [p2]; exact s1, by rw [p3]; exact e1, by rw [p4]; exact hl4.2.2⟩
    have ecl : cl c k0 = mk4 l t s e := by unfold cl; rw [ecp, p1, p2, p3]
    have vd : Vd c S L h l t s e := ⟨hl, t1, s1, e1⟩
    obtain ⟨b1, b2, b3⟩ := tab_X (μ := μ) hw hs (by omega) vd
    have hb := (G.1.2.1 h l t s e hh vd).1
    have eTm : Tm c (tb μ) h k0 = tb μ h l t s e := by unfold Tm; rw [ecp, p1, p2, p3]
    have e144 : ∀ m, B_X4_learnWhere_144 k70 k89 (B_X4_learnWhere_97 k70 k89 n) i (h : Int) most (l : Int) (j : Int) m = B_X4_learnWhere_97 k70 k89 n i (h : Int) most (l : Int) ((j + 1 : Nat) : Int) m := fun m => by
      unfold B_X4_learnWhere_144
      rw [show (j : Int) + 1 = ((j + 1 : Nat) : Int) by omega]
    have ece : (l : Int) * 256 + ((ce j : Nat) : Int) = ((mk4 l t s e : Nat) : Int) := by
      rw [c1]; unfold mk4; omega
    have grow : ∀ h' k, (Dsx c ce h l j h' k ∨ (h' = h ∧ sc c k k0)) ↔ Dsx c ce h l (j + 1) h' k := fun h' k => by
      unfold Dsx
      constructor
      · rintro ((w | ⟨w1, w2 | ⟨w2, q, w3, w4⟩⟩) | ⟨w1, w2, w3, w4, w5⟩)
        · exact Or.inl w
        · exact Or.inr ⟨w1, Or.inl w2⟩
        · exact Or.inr ⟨w1, Or.inr ⟨w2, q, by omega, w4⟩⟩
        · refine Or.inr ⟨w1, Or.inr ⟨w2.trans ecp, j, by omega, ?_⟩⟩
          rw [c1, w3, w4, w5, p1, p2, p3]
      · rintro (w | ⟨w1, w2 | ⟨w2, q, w3, w4⟩⟩)
        · exact Or.inl (Or.inl w)
        · exact Or.inl (Or.inr ⟨w1, Or.inl w2⟩)
        · by_cases eq : q = j
          · rw [eq, c1] at w4
            obtain ⟨z1, z2, z3⟩ := mk0_inj ⟨by omega, by omega⟩ ⟨by omega, by omega⟩ w4
            exact Or.inr ⟨w1, w2.trans ecp.symm, z1.symm.trans p1.symm, z2.symm.trans p2.symm, z3.symm.trans p3.symm⟩
          · exact Or.inl (Or.inr ⟨w1, Or.inr ⟨w2, q, by omega, w4⟩⟩)
    have hds : ∀ h' k, Dsx c ce h l j h' k → h' ≤ h := fun h' k a => by
      unfold Dsx at a
      omega
    have head : B_X4_learnWhere_97 k70 k89 (n + 1) i (h : Int) most (l : Int) (j : Int) μ = if tb μ h l t s e < 1073741824 then B_X4_learnWhere_97 k70 k89 n i (h : Int) most (l : Int) ((j + 1 : Nat) : Int) μ else bm (D_X4_goOnFrom i (h : Int) ((mk4 l t s e : Nat) : Int) μ) fun m2 => B_X4_learnWhere_97 k70 k89 n i (h : Int) most (l : Int) ((j + 1 : Nat) : Int) m2 := by
      rw [B_X4_learnWhere_97_s, F_X4_learnWhere_97, hP.1, wid (x := (N : Int)) (by omega) (by omega), wid (x := (j : Int)) (by omega) (by omega), if_neg (by omega), if_pos (by omega), ixn j (by omega), hP.2 j (by omega), ece, b1, if_pos b2, b3, show rd μ 32 false (pT h l t s e) = tb μ h l t s e from rfl, wid (x := tb μ h l t s e) (by omega) (by omega)]
      simp only [e144]
    rw [head]
    by_cases z : tb μ h l t s e < 1073741824
    · rw [if_pos z]
      refine ih n (j + 1) μ (by omega) (by omega) (G.cong (fun h' k _ _ mk => ?_))
      rw [← grow]
      refine ⟨Or.inl, fun w => w.elim id (fun w => ?_)⟩
      unfold Mk at mk
      rw [w.2.tm, w.1, eTm] at mk
      omega
    · rw [if_neg z]
      have mk : Mk μ c h k0 := by unfold Mk; rw [eTm]; omega
      obtain ⟨m1, a1, a2, a3⟩ := goOnFrom_X D hh v mk hds (fun h' k _ a => hds h' k a) G
      rw [ecl] at a1
      have G2 : GD m1 i c S L pm N ce T h l (j + 1) := a2.cong (fun h' k _ _ _ => grow h' k) (fun h' k _ _ _ _ _ => grow h' k) (fun _ _ => Iff.rfl)
      obtain ⟨m, d1, d2, d3, d4⟩ := ih n (j + 1) m1 (by omega) (by omega) G2
      refine ⟨m, ?_, d2, (goOn_Nc a1).tr d3, fun k vk => (d4 k vk).trans (a3 0 k (by omega) vk)⟩
      rw [a1, bm_k]
      exact d1
theorem lw_89 {i : Bool} {c : Co} {S L : List Nat} {pm N : Nat} {ce : Nat → Nat} {T : Tb} {h : Nat} {k70 : Bool → Int → Mi → Option Mi} (D : DP 4 c S L pm T) (hh : (h : Int) ≤ c 2 2) : ∀ (d n l : Nat) (μ : Mi), l + d = mS c h + 1 → d < n → GD μ i c S L pm N ce T h l 0 → ∃ m, B_X4_learnWhere_89 k70 n i (h : Int) ((mS c h : Nat) : Int) (l : Int) μ = k70 i ((h + 1 : Nat) : Int) m ∧ GD m i c S L pm N ce T (h + 1) 0 0 ∧ Nc μ m ∧ ∀ k : Nat, VM c S L 0 k → (Mk m c 0 k ↔ Mk μ c 0 k) := by
  intro d
  induction d with
  | zero =>
    intro n l μ hl hn G
    obtain ⟨n, rfl⟩ : ∃ q, n = q + 1 := ⟨n - 1, by omega⟩
    have hw := G.1.1.1.2.1
    have hs := G.1.1.1.2.2.1
    have hslp := hw.2.2.2.2.2.2.1
    have hm4 : mS c h ≤ 4 := by unfold mS; split <;> omega
    refine ⟨μ, ?_, G.cong (fun h' k _ vk _ => ?_), fun _ _ _ _ _ => rfl, fun _ _ => Iff.rfl⟩
    · rw [B_X4_learnWhere_89_s, F_X4_learnWhere_89, wid (x := ((mS c h : Nat) : Int)) (by omega) (by omega), wid (x := (l : Int)) (by omega) (by omega), if_pos (by omega), show (h : Int) + 1 = ((h + 1 : Nat) : Int) by omega]
    · have := (vk.vd hw hs).1
      unfold Dsx
      constructor
      · intro w; left; omega
      · intro w
        by_cases e : h' = h
        · refine Or.inr ⟨e, Or.inl ?_⟩
          rw [e] at this
          omega
        · left
          rcases w with w | ⟨w1, w2 | ⟨w2, q, w3, w4⟩⟩ <;> omega
  | succ d ih =>
    intro n l μ hl hn G
    obtain ⟨n, rfl⟩ : ∃ q, n = q + 1 := ⟨n - 1, by omega⟩
    have hw := G.1.1.1.2.1
    have hs := G.1.1.1.2.2.1
    have hC := G.1.1.2.2.2.2
    have hslp := hw.2.2.2.2.2.2.1
    have hN := hC.1
    have hm4 : mS c h ≤ 4 := by unfold mS; split <;> omega
    obtain ⟨m1, a1, a2, a3, a4⟩ := lw_97 (most := ((mS c h : Nat) : Int)) (k70 := k70) (k89 := B_X4_learnWhere_89 k70 n) D hh (l := l) (by omega) N FU 0 μ (by omega) (FU_gt (by omega)) G
    obtain ⟨m, b1, b2, b3, b4⟩ := ih n (l + 1) m1 (by omega) (by omega) (a2.cong (fun h' k _ vk _ => by
      obtain ⟨q, q1, q2⟩ := hC.2.2.1 (k / 140) (k / 20 % 7) (k / 5 % 4) vk.2.1 vk.2.2.1 vk.2.2.2.1
      unfold Dsx
      constructor
      · rintro (w | ⟨w1, w2 | ⟨w2, -⟩⟩)
        · exact Or.inl w
        · exact Or.inr ⟨w1, Or.inl (by omega)⟩
        · exact Or.inr ⟨w1, Or.inl (by omega)⟩
      · rintro (w | ⟨w1, w2 | ⟨w2, q', w3, w4⟩⟩)
        · exact Or.inl w
        · by_cases e : cp c (k % 5) = l
          · exact Or.inr ⟨w1, Or.inr ⟨e, q, q1, q2⟩⟩
          · exact Or.inr ⟨w1, Or.inl (by omega)⟩
        · omega))
    refine ⟨m, ?_, b2, a3.tr b3, fun k vk => (b4 k vk).trans (a4 k vk)⟩
    rw [B_X4_learnWhere_89_s, F_X4_learnWhere_89, wid (x := ((mS c h : Nat) : Int)) (by omega) (by omega), wid (x := (l : Int)) (by omega) (by omega), if_neg (by omega)]
    rw [show ((0 : Nat) : Int) = 0 from rfl] at a1
    exact a1.trans b1
theorem lw_70 {i : Bool} {c : Co} {S L : List Nat} {pm N : Nat} {ce : Nat → Nat} {T : Tb} (D : DP 4 c S L pm T) : ∀ (d n h : Nat) (μ : Mi), h + d = (c 2 2).toNat + 1 → d < n → GD μ i c S L pm N ce T h 0 0 → ∃ m, B_X4_learnWhere_70 n i (h : Int) μ = some m ∧ GD m i c S L pm N ce T ((c 2 2).toNat + 1) 0 0 ∧ Nc μ m ∧ ∀ k : Nat, VM c S L 0 k → (Mk m c 0 k ↔ Mk μ c 0 k) := by
  intro d
  induction d with
  | zero =>
    intro n h μ hl hn G
    obtain ⟨n, rfl⟩ : ∃ q, n = q + 1 := ⟨n - 1, by omega⟩
    have P := G.1.1.1
    have hen := P.2.1.2.2.2.2.2.2.2.1
    refine ⟨μ, ?_, by rw [show h = (c 2 2).toNat + 1 by omega] at G; exact G, fun _ _ _ _ _ => rfl, fun _ _ => Iff.rfl⟩
    rw [B_X4_learnWhere_70_s, F_X4_learnWhere_70, cm P.1 (by omega), wid (x := c 2 2) (by omega) (by omega), wid (x := (h : Int)) (by omega) (by omega), if_pos (by omega)]
  | succ d ih =>
    intro n h μ hl hn G
    obtain ⟨n, rfl⟩ : ∃ q, n = q + 1 := ⟨n - 1, by omega⟩
    have P := G.1.1.1
    have hw := P.2.1
    have hen := hw.2.2.2.2.2.2.2.1
    have hslp := hw.2.2.2.2.2.2.1
    have hm4 : mS c h ≤ 4 := by unfold mS; split <;> omega
    obtain ⟨m1, a1, a2, a3, a4⟩ := lw_89 (k70 := B_X4_learnWhere_70 n) D (h := h) (by omega) (mS c h + 1) FU 0 μ (by omega) (FU_gt (by omega)) G
    obtain ⟨m, b1, b2, b3, b4⟩ := ih n (h + 1) m1 (by omega) (by omega) a2
    refine ⟨m, ?_, b2, a3.tr b3, fun k vk => (b4 k vk).trans (a4 k vk)⟩
    rw [B_X4_learnWhere_70_s, F_X4_learnWhere_70, cm P.1 (by omega), wid (x := c 2 2) (by omega) (by omega), wid (x := (h : Int)) (by omega) (by omega), if_neg (by omega), mostSlept_X P.1 hw (by omega)]
    rw [show ((0 : Nat) : Int) = 0 from rfl] at a1
    exact a1.trans b1
