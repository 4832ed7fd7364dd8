/-! PURE: the table is filled -/
/-- the list of cells: all, each once, more stamps ahead -/
def CL (c : Co) (S L : List Nat) (N : Nat) (ce : Nat → Nat) : Prop := N ≤ 256 ∧ (∀ j, j < N → ∃ t s e : Nat, (t : Int) < c 0 1 ∧ s ≤ S.length ∧ e < 2 ^ L.length ∧ ce j = mk4 0 t s e ∧ (s < S.length → ∃ q, q < j ∧ ce q = mk4 0 t (s + 1) e)) ∧ (∀ t s e : Nat, (t : Int) < c 0 1 → s ≤ S.length → e < 2 ^ L.length → ∃ j, j < N ∧ ce j = mk4 0 t s e) ∧ ∀ j q, j < N → q < N → ce j = ce q → j = q
def Pc (μ : Mi) (i : Bool) (N : Nat) (ce : Nat → Nat) : Prop := rd μ 4 i 8 = (N : Int) ∧ ∀ j, j < N → rd μ 33 i j = ((ce j : Nat) : Int)
theorem cr_w {μ : Mi} {i : Bool} {p : Nat} {v : Int} : cr (wr μ 32 false p v) i = cr μ i := by
  funext r k
  unfold cr
  split
  · rw [rdx (by omega)]
  · split
    · rw [rdx (by omega)]
    · rfl
theorem Pr_w {μ : Mi} {i : Bool} {c : Co} {S L : List Nat} {pm p : Nat} {v : Int} (P : Pr μ i c S L pm) : Pr (wr μ 32 false p v) i c S L pm := by
  obtain ⟨hc, hw, hs, p1, p2, p3, p4, p5, p6⟩ := P
  refine ⟨cr_w.trans hc, hw, hs, ?_, ?_, ?_, ?_, ?_, ?_⟩
  · rw [rdx (by omega)]; exact p1
  · intro q hq; rw [rdx (by omega)]; exact p2 q hq
  · rw [rdx (by omega)]; exact p3
  · intro q hq; rw [rdx (by omega)]; exact p4 q hq
  · rw [rdx (by omega)]; exact p5
  · intro h hh; rw [rdx (by omega)]; exact p6 h hh
def Dn (aim : Nat) (c : Co) (S L : List Nat) (pm : Nat) (T : Tb) (g l t s e : Nat) : Prop := T g l t s e = rh aim c S L pm T g l t s e ∧ -1 ≤ T g l t s e ∧ T g l t s e ≤ bdT aim g s
/-- the search's own state while it fills -/
def Fb (μ : Mi) (i : Bool) (c : Co) (S L : List Nat) (pm aim N : Nat) (ce : Nat → Nat) : Prop := Pr μ i c S L pm ∧ rd μ 4 i 12 = (aim : Int) ∧ aim ≤ 5 ∧ Pc μ i N ce ∧ CL c S L N ce
theorem Fb_w {μ : Mi} {i : Bool} {c : Co} {S L : List Nat} {pm aim N : Nat} {ce : Nat → Nat} {p : Nat} {v : Int} (F : Fb μ i c S L pm aim N ce) : Fb (wr μ 32 false p v) i c S L pm aim N ce := by
  obtain ⟨P, hA, ha, hP, hC⟩ := F
  exact ⟨Pr_w P, by rw [rdx (by omega)]; exact hA, ha, ⟨by rw [rdx (by omega)]; exact hP.1, fun j hj => by rw [rdx (by omega)]; exact hP.2 j hj⟩, hC⟩
/-- what is done ahead of the j-th cell with l hours slept at the hour h -/
def FdN (μ : Mi) (c : Co) (S L : List Nat) (pm aim : Nat) (ce : Nat → Nat) (h l j : Nat) : Prop := ∀ g l' t s e : Nat, (g : Int) ≤ c 2 2 → Vd c S L g l' t s e → (h < g ∨ (g = h ∧ l' < l) ∨ (g = h ∧ l' = l ∧ ∃ q, q < j ∧ ce q = mk4 0 t s e)) → Dn aim c S L pm (tb μ) g l' t s e
theorem mk0_inj {t s e t' s' e' : Nat} (h1 : s ≤ 6 ∧ e < 4) (h2 : s' ≤ 6 ∧ e' < 4) (q : mk4 0 t s e = mk4 0 t' s' e') : t = t' ∧ s = s' ∧ e = e' := by
  unfold mk4 at q
  omega
theorem fill_step {μ : Mi} {i : Bool} {c : Co} {S L : List Nat} {pm aim N : Nat} {ce : Nat → Nat} (F : Fb μ i c S L pm aim N ce) {h l j t s e : Nat} (hh : (h : Int) ≤ c 2 2) (hj : j < N) (he : ce j = mk4 0 t s e) (v : Vd c S L h l t s e) (D : FdN μ c S L pm aim ce h l j) : FdN (wr μ 32 false (pT h l t s e) (rh aim c S L pm (tb μ) h l t s e)) c S L pm aim ce h l (j + 1) := by
  obtain ⟨P, hA, ha, hP, hC⟩ := F
  have hw := P.2.1
  have hs := P.2.2.1
  have hen := hw.2.2.2.2.2.2.2.1
  have ve := v.vs hw hs
  obtain ⟨-, C1, C2, C3⟩ := hC
  -- other cells stay
  have hoff : ∀ g l' t' s' e' : Nat, (g : Int) ≤ c 2 2 → Vd c S L g l' t' s' e' → ¬ (g = h ∧ l' = l ∧ t' = t ∧ s' = s ∧ e' = e) → tb (wr μ 32 false (pT h l t s e) (rh aim c S L pm (tb μ) h l t s e)) g l' t' s' e' = tb μ g l' t' s' e' := by
    intro g l' t' s' e' hg hv hne
    unfold tb
    rw [rd_wr, if_neg]
    intro z
    exact hne (pT_inj hw hs (by omega) (by omega) hv v z.2.2)
  have hself : tb (wr μ 32 false (pT h l t s e) (rh aim c S L pm (tb μ) h l t s e)) h l t s e = rh aim c S L pm (tb μ) h l t s e := by
    unfold tb
    rw [rd_s]
  obtain ⟨t0, s0, e0, a1, a2, a3, a4, a5⟩ := C1 j hj
  have hlim : s0 ≤ 6 ∧ e0 < 4 := by
    have h1 := hs.1
    have h2 : 2 ^ L.length ≤ 2 ^ 2 := Nat.pow_le_pow_right (by omega) hs.2.1
    omega
  obtain ⟨rfl, rfl, rfl⟩ := mk0_inj hlim ⟨ve.2.2.1, ve.2.2.2⟩ (a4.symm.trans he)
  have hlater : ∀ g : Nat, h < g → (g : Int) ≤ c 2 2 → ∀ l' t' s' e', Vd c S L g l' t' s' e' → tb (wr μ 32 false (pT h l t0 s0 e0) (rh aim c S L pm (tb μ) h l t0 s0 e0)) g l' t' s' e' = tb μ g l' t' s' e' := fun g h1 h2 l' t' s' e' hv => hoff g l' t' s' e' h2 hv (fun z => by omega)
  intro g l' t' s' e' hg hv hcase
  by_cases hnew : g = h ∧ l' = l ∧ t' = t0 ∧ s' = s0 ∧ e' = e0
  · obtain ⟨rfl, rfl, rfl, rfl, rfl⟩ := hnew
    have hT2 : s' < S.length → tb (wr μ 32 false (pT g l' t' s' e') (rh aim c S L pm (tb μ) g l' t' s' e')) g l' t' (s' + 1) e' = tb μ g l' t' (s' + 1) e' := fun q => hoff g l' t' (s' + 1) e' hg ⟨hv.1, hv.2.1, by omega, hv.2.2.2⟩ (fun z => by omega)
    have hdone : s' < S.length → Dn aim c S L pm (tb μ) g l' t' (s' + 1) e' := fun q => by
      obtain ⟨q2, h1, h2⟩ := a5 q
      exact D g l' t' (s' + 1) e' hg ⟨hv.1, hv.2.1, by omega, hv.2.2.2⟩ (Or.inr (Or.inr ⟨rfl, rfl, q2, h1, h2⟩))
    have hB := rh_B (pm := pm) ha hw hs hv hg (T := tb μ) (fun g' h1 h2 l'' t'' s'' e'' hv' => (D g' l'' t'' s'' e'' h2 hv' (Or.inl h1)).2) (fun q => (hdone q).2)
    refine ⟨?_, ?_, ?_⟩
    · rw [hself]
      exact (rh_cong hw hv hg hlater hT2).symm
    · rw [hself]; exact hB.1
    · rw [hself]; exact hB.2
  · have hold : Dn aim c S L pm (tb μ) g l' t' s' e' := by
      refine D g l' t' s' e' hg hv ?_
      rcases hcase with z | z | ⟨z1, z2, q, z3, z4⟩
      · exact Or.inl z
      · exact Or.inr (Or.inl z)
      · refine Or.inr (Or.inr ⟨z1, z2, q, ?_, z4⟩)
        by_cases hqj : q = j
        · subst hqj
          have vv := hv.vs hw hs
          obtain ⟨y1, y2, y3⟩ := mk0_inj ⟨vv.2.2.1, vv.2.2.2⟩ hlim (z4.symm.trans a4)
          exact absurd ⟨z1, z2, y1, y2, y3⟩ hnew
        · omega
    have e1 := hoff g l' t' s' e' hg hv hnew
    have hgh : h ≤ g := by
      rcases hcase with z | z | z <;> omega
    have hT2 : s' < S.length → tb (wr μ 32 false (pT h l t0 s0 e0) (rh aim c S L pm (tb μ) h l t0 s0 e0)) g l' t' (s' + 1) e' = tb μ g l' t' (s' + 1) e' := fun q => by
      refine hoff g l' t' (s' + 1) e' hg ⟨hv.1, hv.2.1, by omega, hv.2.2.2⟩ ?_
      rintro ⟨y1, y2, y3, y4, y5⟩
      rcases hcase with z | z | ⟨z1, z2, q', z3, z4⟩
      · omega
      · omega
      · by_cases hqj : q' = j
        · subst hqj
          have vv := hv.vs hw hs
          obtain ⟨w1, w2, w3⟩ := mk0_inj ⟨vv.2.2.1, vv.2.2.2⟩ hlim (z4.symm.trans a4)
          omega
        · obtain ⟨t2, s2, e2, b1, b2, b3, b4, b5⟩ := C1 q' (by omega)
          have hlim2 : s2 ≤ 6 ∧ e2 < 4 := by
            have h1 := hs.1
            have h2 : 2 ^ L.length ≤ 2 ^ 2 := Nat.pow_le_pow_right (by omega) hs.2.1
            omega
          have vv := hv.vs hw hs
          obtain ⟨w1, w2, w3⟩ := mk0_inj hlim2 ⟨vv.2.2.1, vv.2.2.2⟩ (b4.symm.trans z4)
          obtain ⟨q3, c1, c2⟩ := b5 (by omega)
          have : q3 = j := C3 q3 j (by omega) hj (by rw [c2, a4, w1, w2, w3, y3, y4, y5])
          omega
    refine ⟨?_, ?_, ?_⟩
    · rw [e1, rh_cong hw hv hg (fun g' h1 h2 => hlater g' (by omega) h2) hT2]
      exact hold.1
    · rw [e1]; exact hold.2.1
    · rw [e1]; exact hold.2.2
theorem fill_35 {i : Bool} {c : Co} {S L : List Nat} {pm aim N : Nat} {ce : Nat → Nat} {k13 : Bool → Int → Mi → Option Mi} {k26 : Bool → Int → Int → Int → Mi → Option Mi} {h l : Nat} {most : Int} (hh : (h : Int) ≤ c 2 2) (hl : l ≤ mS c h) : ∀ (d n j : Nat) (μ : Mi), j + d = N → d < n → Fb μ i c S L pm aim N ce → FdN μ c S L pm aim ce h l j → ∃ m, B_X4_fill_35 k13 k26 n i (h : Int) most (l : Int) (j : Int) μ = k26 i (h : Int) most ((l + 1 : Nat) : Int) m ∧ Fb m i c S L pm aim N ce ∧ FdN m c S L pm aim ce h l N := by
  intro d
  induction d with
  | zero =>
    intro n j μ hj hn F D
    obtain ⟨n, rfl⟩ : ∃ q, n = q + 1 := ⟨n - 1, by omega⟩
    have hN := F.2.2.2.2.1
    refine ⟨μ, ?_, F, ?_⟩
    · rw [B_X4_fill_35_s, F_X4_fill_35, F.2.2.2.1.1, wid (x := (N : Int)) (by omega) (by omega), wid (x := (j : Int)) (by omega) (by omega), if_pos (by omega)]
      rfl
    · rw [show N = j by omega]; exact D
  | succ d ih =>
    intro n j μ hj hn F D
    obtain ⟨n, rfl⟩ : ∃ q, n = q + 1 := ⟨n - 1, by omega⟩
    have F' := F
    obtain ⟨P, hA, ha, hP, hC⟩ := F
    have hw := P.2.1
    have hs := P.2.2.1
    have hen := hw.2.2.2.2.2.2.2.1
    have hN := hC.1
    obtain ⟨t, s, e, a1, a2, a3, a4, a5⟩ := hC.2.1 j (by omega)
    have v : Vd c S L h l t s e := ⟨hl, a1, a2, a3⟩
    have ve := v.vs hw hs
    have hlt := mk4_lt ve
    obtain ⟨t1, t2, t3⟩ := tab_X (μ := μ) hw hs (by omega) v
    have ecell : (l : Int) * 256 + ((ce j : Nat) : Int) = ((mk4 l t s e : Nat) : Int) := by rw [a4]; unfold mk4; omega
    have hT : ∀ g : Nat, h < g → (g : Int) ≤ c 2 2 → Tok aim c S L (tb μ) g := fun g h1 h2 l' t' s' e' hv => by
      have := (D g l' t' s' e' h2 hv (Or.inl h1)).2
      exact ⟨this.1, Int.le_trans this.2 bdT_Bd⟩
    have hT2 : s < S.length → -1 ≤ tb μ h l t (s + 1) e ∧ tb μ h l t (s + 1) e ≤ Bd aim := fun q => by
      obtain ⟨q2, h1, h2⟩ := a5 q
      have := (D h l t (s + 1) e hh ⟨v.1, v.2.1, by omega, v.2.2.2⟩ (Or.inr (Or.inr ⟨rfl, rfl, q2, h1, h2⟩))).2
      exact ⟨this.1, Int.le_trans this.2 bdT_Bd⟩
    obtain ⟨m, hm1, hm2, hm3⟩ := ih n (j + 1) (wr μ 32 false (pT h l t s e) (rh aim c S L pm (tb μ) h l t s e)) (by omega) (by omega) (Fb_w F') (fill_step F' hh (by omega) a4 v D)
    refine ⟨m, ?_, hm2, hm3⟩
    rw [B_X4_fill_35_s, F_X4_fill_35, hP.1, wid (x := (N : Int)) (by omega) (by omega), wid (x := (j : Int)) (by omega) (by omega), if_neg (by omega), if_pos (by omega), ixn j (by omega), hP.2 j (by omega), ecell, valueOf_X P hA ha hh v hT hT2, bp_k, t1, if_pos t2, t3, show (j : Int) + 1 = ((j + 1 : Nat) : Int) by omega]
    exact hm1
theorem fill_26 {i : Bool} {c : Co} {S L : List Nat} {pm aim N : Nat} {ce : Nat → Nat} {k13 : Bool → Int → Mi → Option Mi} {h : Nat} (hh : (h : Int) ≤ c 2 2) : ∀ (d n l : Nat) (μ : Mi), l + d = mS c h + 1 → d < n → Fb μ i c S L pm aim N ce → FdN μ c S L pm aim ce h l 0 → ∃ m, B_X4_fill_26 k13 n i (h : Int) ((mS c h : Nat) : Int) (l : Int) μ = k13 i ((h : Int) + (-1)) m ∧ Fb m i c S L pm aim N ce ∧ FdN m c S L pm aim ce h (mS c h + 1) 0 := by
  intro d
  induction d with
  | zero =>
    intro n l μ hl hn F D
    obtain ⟨n, rfl⟩ : ∃ q, n = q + 1 := ⟨n - 1, by omega⟩
    have hm := mS_le F.1.2.1 h
    have hm4 : mS c h ≤ 4 := by split at hm <;> omega
    refine ⟨μ, ?_, F, ?_⟩
    · rw [B_X4_fill_26_s, F_X4_fill_26, wid (x := ((mS c h : Nat) : Int)) (by omega) (by omega), wid (x := (l : Int)) (by omega) (by omega), if_pos (by omega)]
    · rw [show mS c h + 1 = l by omega]; exact D
  | succ d ih =>
    intro n l μ hl hn F D
    obtain ⟨n, rfl⟩ : ∃ q, n = q + 1 := ⟨n - 1, by omega⟩
    have hm := mS_le F.1.2.1 h
    have hm4 : mS c h ≤ 4 := by split at hm <;> omega
    have hN := F.2.2.2.2.1
    obtain ⟨m1, h1, h2, h3⟩ := fill_35 (k13 := k13) (k26 := B_X4_fill_26 k13 n) (most := ((mS c h : Nat) : Int)) (l := l) hh (by omega) N FU 0 μ (by omega) (FU_gt (by omega)) F D
    have D2 : FdN m1 c S L pm aim ce h (l + 1) 0 := by
      intro g l' t s e hg hv hcase
      refine h3 g l' t s e hg hv ?_
      rcases hcase with z | ⟨z1, z2⟩ | ⟨z1, z2, q, z3, z4⟩
      · exact Or.inl z
      · by_cases e1 : l' = l
        · obtain ⟨q, hq1, hq2⟩ := F.2.2.2.2.2.2.1 t s e hv.2.1 hv.2.2.1 hv.2.2.2
          exact Or.inr (Or.inr ⟨z1, e1, q, hq1, hq2⟩)
        · exact Or.inr (Or.inl ⟨z1, by omega⟩)
      · omega
    obtain ⟨m, q1, q2, q3⟩ := ih n (l + 1) m1 (by omega) (by omega) h2 D2
    refine ⟨m, ?_, q2, q3⟩
    rw [B_X4_fill_26_s, F_X4_fill_26, wid (x := ((mS c h : Nat) : Int)) (by omega) (by omega), wid (x := (l : Int)) (by omega) (by omega), if_neg (by omega)]
    exact h1.trans q1
theorem fill_13 {i : Bool} {c : Co} {S L : List Nat} {pm aim N : Nat} {ce : Nat → Nat} : ∀ (d n : Nat) (h : Nat) (μ : Mi), h = d → (h : Int) ≤ c 2 2 + 1 → d < n → Fb μ i c S L pm aim N ce → (∀ g l t s e : Nat, (g : Int) ≤ c 2 2 → Vd c S L g l t s e → h ≤ g → Dn aim c S L pm (tb μ) g l t s e) → ∃ m, B_X4_fill_13 n i ((h : Int) - 1) μ = some m ∧ Fb m i c S L pm aim N ce ∧ DP aim c S L pm (tb m) := by
  intro d
  induction d with
  | zero =>
    intro n h μ hd hh hn F D
    obtain ⟨n, rfl⟩ : ∃ q, n = q + 1 := ⟨n - 1, by omega⟩
    refine ⟨μ, ?_, F, fun g l t s e hg hv => D g l t s e hg hv (by omega)⟩
    rw [B_X4_fill_13_s, F_X4_fill_13, wid (x := (h : Int) - 1) (by omega) (by omega), if_pos (by omega)]
  | succ d ih =>
    intro n h μ hd hh hn F D
    obtain ⟨n, rfl⟩ : ∃ q, n = q + 1 := ⟨n - 1, by omega⟩
    have hw := F.1.2.1
    have hen := hw.2.2.2.2.2.2.2.1
    have hm := mS_le hw d
    have hm4 : mS c d ≤ 4 := by split at hm <;> omega
    have D1 : FdN μ c S L pm aim ce d 0 0 := by
      intro g l' t s e hg hv hcase
      rcases hcase with z | ⟨z1, z2⟩ | ⟨z1, z2, q, z3, z4⟩
      · exact D g l' t s e hg hv (by omega)
      · omega
      · omega
    obtain ⟨m1, h1, h2, h3⟩ := fill_26 (k13 := B_X4_fill_13 n) (h := d) (by omega) (mS c d + 1) FU 0 μ (by omega) (FU_gt (by omega)) F D1
    obtain ⟨m, q1, q2, q3⟩ := ih n d m1 rfl (by omega) (by omega) h2 (fun g l t s e hg hv hle => by
      refine h3 g l t s e hg hv ?_
      by_cases e1 : g = d
      · exact Or.inr (Or.inl ⟨e1, by have := hv.1; rw [e1] at this; omega⟩)
      · exact Or.inl (by omega))
    refine ⟨m, ?_, q2, q3⟩
    rw [B_X4_fill_13_s, F_X4_fill_13, show (h : Int) - 1 = (d : Int) by omega, wid (x := (d : Int)) (by omega) (by omega), if_neg (by omega), mostSlept_X F.1.1 hw (by omega)]
    rw [show (d : Int) + (-1) = (d : Int) - 1 by omega] at h1
    exact h1.trans q1
/-- fill: the table solves the search -/
theorem fill_X {μ : Mi} {i : Bool} {c : Co} {S L : List Nat} {pm aim N : Nat} {ce : Nat → Nat} (P : Pr μ i c S L pm) (ha : aim ≤ 5) (hP : Pc μ i N ce) (hC : CL c S L N ce) : ∃ m, D_X4_fill i (aim : Int) μ = some m ∧ Fb m i c S L pm aim N ce ∧ DP aim c S L pm (tb m) := by
  have hw := P.2.1
  have hen := hw.2.2.2.2.2.2.2.1
  have hcr : cr (wr μ 4 i 12 (aim : Int)) i = c := by
    rw [← P.1]
    funext r k
    unfold cr
    split
    · rw [rdx (by omega)]
    · split
      · rw [rdx (by omega)]
      · rfl
  have F : Fb (wr μ 4 i 12 (aim : Int)) i c S L pm aim N ce := by
    obtain ⟨-, -, hs, p1, p2, p3, p4, p5, p6⟩ := P
    refine ⟨⟨hcr, hw, hs, ?_, ?_, ?_, ?_, ?_, ?_⟩, rd_s, ha, ⟨?_, ?_⟩, hC⟩
    · rw [rdx (by omega)]; exact p1
    · intro q hq; rw [rdx (by omega)]; exact p2 q hq
    · rw [rdx (by omega)]; exact p3
    · intro q hq; rw [rdx (by omega)]; exact p4 q hq
    · rw [rdx (by omega)]; exact p5
    · intro h hh; rw [rdx (by omega)]; exact p6 h hh
    · rw [rdx (by omega)]; exact hP.1
    · intro j hj; rw [rdx (by omega)]; exact hP.2 j hj
  obtain ⟨m, h1, h2, h3⟩ := fill_13 ((c 2 2).toNat + 1) FU ((c 2 2).toNat + 1) (wr μ 4 i 12 (aim : Int)) rfl (by omega) (FU_gt (by omega)) F (fun g l t s e hg hv hle => by omega)
  refine ⟨m, ?_, h2, h3⟩
  unfold D_X4_fill
  rw [cm P.1 (r := 2) (by omega)]
  rw [show (((c 2 2).toNat + 1 : Nat) : Int) - 1 = c 2 2 by omega] at h1
  exact h1
