/-! PURE: goOnFrom, whole -/
theorem goOn_46 {i : Bool} {c : Co} {S L : List Nat} {pm N : Nat} {ce : Nat → Nat} {T : Tb} {Ds : Nat → Nat → Prop} {De : Nat → Nat → Nat → Prop} {h0 k0 : Nat} (D : DP 4 c S L pm T) (hh : (h0 : Int) < c 2 2) (v : VM c S L h0 k0) (hr : ∃ k2, Rch c S L pm h0 k2 ∧ sc c k2 k0) (hs1 : ∀ h k, Ds h k → h ≤ h0) (hs2 : ∀ h k j, De h k j → h ≤ h0) : ∀ (d n x : Nat) (μ : Mi), x + d = (c 0 2).toNat → d < n → Mk μ c h0 k0 → GI μ i c S L pm N ce T Ds (fun h k q => De h k q ∨ (h = h0 ∧ sc c k k0 ∧ q ≤ x)) (fun _ => False) → ∃ m, B_X4_goOnFrom_46 n i (h0 : Int) ((cl c k0 : Nat) : Int) (x : Int) μ = some m ∧ GI m i c S L pm N ce T Ds (fun h k q => De h k q ∨ (h = h0 ∧ sc c k k0 ∧ q ≤ (c 0 2).toNat)) (fun _ => False) ∧ ∀ h k : Nat, h ≤ h0 → VM c S L h k → (Mk m c h k ↔ Mk μ c h k) := by
  intro d
  induction d with
  | zero =>
    intro n x μ hx hn mk G
    obtain ⟨n, rfl⟩ : ∃ q, n = q + 1 := ⟨n - 1, by omega⟩
    have hnl := G.1.1.1.2.1.2.1
    refine ⟨μ, ?_, by rw [show (c 0 2).toNat = x by omega]; exact G, fun _ _ _ _ => Iff.rfl⟩
    rw [B_X4_goOnFrom_46_s, F_X4_goOnFrom_46, ca G.1.1.1.1 (by omega), wid (x := c 0 2) (by omega) (by omega), wid (x := (x : Int)) (by omega) (by omega), if_pos (by omega)]
  | succ d ih =>
    intro n x μ hx hn mk G
    obtain ⟨n, rfl⟩ : ∃ q, n = q + 1 := ⟨n - 1, by omega⟩
    have hnl := G.1.1.1.2.1.2.1
    obtain ⟨m1, a1, a2, a3⟩ := goOn_one (k46 := B_X4_goOnFrom_46 n) (n := x) D hh v mk hr hs1 (fun h k j a => a.elim (hs2 h k j) (fun a => by omega)) (by omega) G
    obtain ⟨m, b1, b2, b3⟩ := ih n (x + 1) m1 (by omega) (by omega) ((a3 h0 k0 (by omega) v).mpr mk) (a2.cong (fun _ _ _ _ _ => Iff.rfl) (fun h k q _ _ _ _ => ⟨fun w => by
        rcases w with (w | ⟨w1, w2, w3⟩) | ⟨w1, w2, w3⟩
        · exact Or.inl w
        · exact Or.inr ⟨w1, w2, by omega⟩
        · exact Or.inr ⟨w1, w2, by omega⟩, fun w => by
        rcases w with w | ⟨w1, w2, w3⟩
        · exact Or.inl (Or.inl w)
        · by_cases e : q = x + 1
          · exact Or.inr ⟨w1, w2, e⟩
          · exact Or.inl (Or.inr ⟨w1, w2, by omega⟩)⟩) (fun _ _ => Iff.rfl))
    refine ⟨m, ?_, b2, fun h k hl vk => (b3 h k hl vk).trans (a3 h k hl vk)⟩
    rw [B_X4_goOnFrom_46_s, a1]
    exact b1
theorem goOn_stay {i : Bool} {c : Co} {S L : List Nat} {pm N : Nat} {ce : Nat → Nat} {T : Tb} {Ds : Nat → Nat → Prop} {De : Nat → Nat → Nat → Prop} {h0 k0 : Nat} {μ : Mi} (D : DP 4 c S L pm T) (hh : (h0 : Int) < c 2 2) (v : VM c S L h0 k0) (mk : Mk μ c h0 k0) (hr : ∃ k2, Rch c S L pm h0 k2 ∧ sc c k2 k0) (hs1 : ∀ h k, Ds h k → h ≤ h0) (hs2 : ∀ h k j, De h k j → h ≤ h0) (G : GI μ i c S L pm N ce T Ds De (fun _ => False)) : ∃ q r m, D_X4_afterStay i (h0 : Int) ((cl c k0 : Nat) : Int) μ = some q ∧ D_X4_reach i ((h0 : Int) + 1) q μ = some (r, m) ∧ GI m i c S L pm N ce T Ds (fun h k q => De h k q ∨ (h = h0 ∧ sc c k k0 ∧ q = 0)) (fun _ => False) ∧ ∀ h k : Nat, h ≤ h0 → VM c S L h k → (Mk m c h k ↔ Mk μ c h k) := by
  have W := G.1
  have P := W.1.1
  have hw := P.2.1
  have hs := P.2.2.1
  have hen := hw.2.2.2.2.2.2.2.1
  have hnl := hw.2.1
  have vd := v.vd hw hs
  have vs := vd.vs hw hs
  have as := afterStay_X P (h := h0) (by omega) vs
  have idle : (∀ g k', mG c S L pm h0 k0 0 = some (g, k') → ¬ 0 ≤ Tm c T g k') → GI μ i c S L pm N ce T Ds (fun h k q => De h k q ∨ (h = h0 ∧ sc c k k0 ∧ q = 0)) (fun _ => False) := fun hno =>
    G.mv hh v mk (by omega) (fun g k' a b => absurd b (hno g k' a)) (fun h => ⟨fun w => absurd w id, fun ⟨g, k', _, _, a, b⟩ => absurd b (hno g k' a)⟩)
  by_cases q1 : nS c h0 (cp c (k0 % 5)) < 0
  · rw [if_pos q1] at as
    refine ⟨_, 0, μ, as, ?_, idle (fun g k' a => ?_), fun _ _ _ _ => Iff.rfl⟩
    · unfold D_X4_reach
      rw [if_pos (by decide)]
    · rw [mG, if_pos (Or.inl q1)] at a
      cases a
  rw [if_neg q1] at as
  have vd' := nS_Vd (pm := pm) hw vd (by omega)
  obtain ⟨w1, w2⟩ := W.reach (g := h0 + 1) (by omega) vd'
  rw [show ((h0 + 1 : Nat) : Int) = (h0 : Int) + 1 by omega] at w1 w2
  obtain ⟨k', hk'⟩ : ∃ x, x = ms (k0 / 140) (k0 / 20 % 7) (k0 / 5 % 4 ||| sa c L (h0 + 1) (k0 / 140)) (if h0 % 24 < 7 then min 4 (k0 % 5 + 1) else 0) := ⟨_, rfl⟩
  have lc := stay_cell hw hs v q1 hk'
  have eT : Tm c T (h0 + 1) k' = T (h0 + 1) (nS c h0 (cp c (k0 % 5))).toNat (k0 / 140) (k0 / 20 % 7) (k0 / 5 % 4 ||| sa c L (h0 + 1) (k0 / 140)) := by
    unfold Tm
    rw [lc.1, lc.2.1, lc.2.2.1, lc.2.2.2]
  have hGv : ∀ g k2, mG c S L pm h0 k0 0 = some (g, k2) → g = h0 + 1 ∧ k2 = k' := fun g k2 a => by
    rw [mG] at a
    by_cases z : nS c h0 (cp c (k0 % 5)) < 0 ∨ ¬ pMs c pm (h0 + 1) (k0 / 140) = 0
    · rw [if_pos z] at a; cases a
    · rw [if_neg z] at a
      cases a
      exact ⟨rfl, hk'.symm⟩
  by_cases q4 : T (h0 + 1) (nS c h0 (cp c (k0 % 5))).toNat (k0 / 140) (k0 / 20 % 7) (k0 / 5 % 4 ||| sa c L (h0 + 1) (k0 / 140)) < 0
  · refine ⟨_, 0, μ, as, w1 q4, idle (fun g k2 a => ?_), fun _ _ _ _ => Iff.rfl⟩
    obtain ⟨rfl, rfl⟩ := hGv g k2 a
    omega
  · have hp : pMs c pm (h0 + 1) (k0 / 140) = 0 := Decidable.byContradiction fun z => by
      have := T_miss (by omega) D (by omega) vd' z
      omega
    have hG : mG c S L pm h0 k0 0 = some (h0 + 1, k') := by
      rw [mG, if_neg (fun z => z.elim q1 (fun z => z hp)), hk']
    obtain ⟨o1, o2, o3, o4⟩ := mG_ok hw hs hh v (by omega) hG
    have hT0 : 0 ≤ Tm c T (h0 + 1) k' := by omega
    obtain ⟨k2, r1, r2⟩ := hr
    obtain ⟨nn, r3⟩ := r1
    have v2 := (Rch.vm hw hs nn h0 k2 r3).2.1
    obtain ⟨k3, b1, b2⟩ := mG_sc hw hs v v2 (sc_sy r2) hG
    obtain ⟨G2, hM⟩ := G.mark o2 o3 hT0 ⟨k3, Rch.mv ⟨nn, r3⟩ hh (by omega) b1, sc_sy b2⟩ (fun h k a => by have := hs1 h k a; omega) (fun h k j a => by have := hs2 h k j a; omega)
    have hsame : ∀ h k : Nat, h ≤ h0 → VM c S L h k → (Mk (mkS μ c (h0 + 1) k') c h k ↔ Mk μ c h k) := fun h k hl vk => (hM h k (by omega) vk).trans ⟨fun w => w.elim id (fun w => by omega), Or.inl⟩
    refine ⟨_, 1, _, as, w2 k' o3 lc.1.symm lc.2.1.symm lc.2.2.1.symm lc.2.2.2.symm (by omega), G2.mv hh v ((hsame h0 k0 (by omega) v).mpr mk) (by omega) (fun g k4 a _ => ?_) (fun h => ⟨fun w => absurd w id, fun ⟨g, k4, a1, a2, a3, a4⟩ => ?_⟩), hsame⟩
    · obtain ⟨rfl, rfl⟩ := hGv g k4 a
      exact (hM _ _ o2 o3).mpr (Or.inr ⟨rfl, rfl, rfl, rfl, rfl⟩)
    · obtain ⟨rfl, rfl⟩ := hGv g k4 a3
      omega
theorem goOnFrom_X {i : Bool} {c : Co} {S L : List Nat} {pm N : Nat} {ce : Nat → Nat} {T : Tb} {Ds : Nat → Nat → Prop} {De : Nat → Nat → Nat → Prop} {h0 k0 : Nat} {μ : Mi} (D : DP 4 c S L pm T) (hh : (h0 : Int) ≤ c 2 2) (v : VM c S L h0 k0) (mk : Mk μ c h0 k0) (hs1 : ∀ h k, Ds h k → h ≤ h0) (hs2 : ∀ h k j, De h k j → h ≤ h0) (G : GI μ i c S L pm N ce T Ds De (fun _ => False)) : ∃ m, D_X4_goOnFrom i (h0 : Int) ((cl c k0 : Nat) : Int) μ = some m ∧ GI m i c S L pm N ce T (fun h k => Ds h k ∨ (h = h0 ∧ sc c k k0)) (fun h k q => De h k q ∨ (h = h0 ∧ sc c k k0)) (fun _ => False) ∧ ∀ h k : Nat, h ≤ h0 → VM c S L h k → (Mk m c h k ↔ Mk μ c h k) := by
  have W := G.1
  have P := W.1.1
  have hw := P.2.1
  have hs := P.2.2.1
  have hen := hw.2.2.2.2.2.2.2.1
  have hnl := hw.2.1
  have htw := hw.1
  have vd := v.vd hw hs
  have vs := vd.vs hw hs
  have hr := W.2.2 h0 k0 hh v mk
  have hk8 : k0 / 140 < 8 := vs.2.1
  obtain ⟨x, x1, x2, G1⟩ := G.town hh v mk
  have hx : 0 ≤ (h0 : Int) ∧ (h0 : Int) < 97 := by omega
  have mk1 : Mk (wr μ 21 i h0 ((x ||| 2 ^ (k0 / 140) : Nat) : Int)) c h0 k0 := Mk_21.mpr mk
  unfold D_X4_goOnFrom
  rw [townOf_X vs, wid (x := (h0 : Int)) (by omega) (by omega), if_pos hx, if_pos hx, ixn h0 (by omega), x2, or_bit x (k0 / 140) (by omega) (by omega), cm P.1 (r := 2) (k := 2) (by omega), wid (x := c 2 2) (by omega) (by omega)]
  by_cases q : (h0 : Int) < c 2 2
  · rw [if_pos q]
    obtain ⟨y, r, m1, a1, a2, a3, a4⟩ := goOn_stay D q v mk1 hr (fun h k a => a.elim (hs1 h k) (fun a => by omega)) hs2 G1
    obtain ⟨m, b1, b2, b3⟩ := goOn_46 D q v hr (fun h k a => a.elim (hs1 h k) (fun a => by omega)) hs2 (c 0 2).toNat FU 0 m1 (by omega) (FU_gt (by omega)) ((a4 h0 k0 (by omega) v).mpr mk1) (a3.cong (fun _ _ _ _ _ => Iff.rfl) (fun h k q _ _ _ _ => ⟨fun w => w.elim Or.inl (fun w => Or.inr ⟨w.1, w.2.1, by omega⟩), fun w => w.elim Or.inl (fun w => Or.inr ⟨w.1, w.2.1, by omega⟩)⟩) (fun _ _ => Iff.rfl))
    rw [a1, bp_k, a2, bd_k]
    refine ⟨m, b1, b2.cong (fun _ _ _ _ _ => Iff.rfl) (fun h k q _ _ hq _ => ⟨fun w => w.elim Or.inl (fun w => Or.inr ⟨w.1, w.2.1⟩), fun w => w.elim Or.inl (fun w => Or.inr ⟨w.1, w.2, by omega⟩)⟩) (fun _ _ => Iff.rfl), fun h k hl vk => (b3 h k hl vk).trans ((a4 h k hl vk).trans Mk_21)⟩
  · rw [if_neg q]
    exact ⟨_, rfl, G1.cong (fun _ _ _ _ _ => Iff.rfl) (fun h k q' hlt _ _ _ => ⟨Or.inl, fun w => w.elim id (fun w => by omega)⟩) (fun _ _ => Iff.rfl), fun h k _ _ => Mk_21⟩
