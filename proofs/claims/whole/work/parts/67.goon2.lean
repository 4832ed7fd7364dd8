/-! PURE: goOnFrom -/
theorem GI.cong {μ : Mi} {i : Bool} {c : Co} {S L : List Nat} {pm N : Nat} {ce : Nat → Nat} {T : Tb} {Ds Ds' : Nat → Nat → Prop} {De De' : Nat → Nat → Nat → Prop} {Ex Ex' : Nat → Prop} (G : GI μ i c S L pm N ce T Ds De Ex) (h1 : ∀ h k : Nat, (h : Int) ≤ c 2 2 → VM c S L h k → Mk μ c h k → (Ds h k ↔ Ds' h k)) (h2 : ∀ h k q : Nat, (h : Int) < c 2 2 → VM c S L h k → (q : Int) ≤ c 0 2 → Mk μ c h k → (De h k q ↔ De' h k q)) (h3 : ∀ h : Nat, (h : Int) ≤ c 2 2 → (Ex h ↔ Ex' h)) : GI μ i c S L pm N ce T Ds' De' Ex' := by
  obtain ⟨W, wd, wx⟩ := G
  refine ⟨W, fun h k j g k' a1 a2 a3 a4 a5 a6 a7 => wd h k j g k' a1 a2 a3 ((h2 h k j a1 a2 a3 a5).mpr a4) a5 a6 a7, fun h hh => ?_⟩
  obtain ⟨x, x1, x2, x3, x4⟩ := wx h hh
  refine ⟨x, x1, x2, fun t ht => (x3 t ht).trans ⟨?_, ?_⟩, x4.trans ⟨?_, ?_⟩⟩
  · rintro ⟨k, b1, b2, b3, b4⟩
    exact ⟨k, b1, (h1 h k hh b1 b3).mp b2, b3, b4⟩
  · rintro ⟨k, b1, b2, b3, b4⟩
    exact ⟨k, b1, (h1 h k hh b1 b3).mpr b2, b3, b4⟩
  · rintro (w | ⟨h', k, q, g, k', a1, a2, a3, a4, a5, a6, a7, a8⟩)
    · exact Or.inl ((h3 h hh).mp w)
    · exact Or.inr ⟨h', k, q, g, k', a1, a2, a3, a4, a5, (h2 h' k q a3 a5 a4 a7).mp a6, a7, a8⟩
  · rintro (w | ⟨h', k, q, g, k', a1, a2, a3, a4, a5, a6, a7, a8⟩)
    · exact Or.inl ((h3 h hh).mpr w)
    · exact Or.inr ⟨h', k, q, g, k', a1, a2, a3, a4, a5, (h2 h' k q a3 a5 a4 a7).mpr a6, a7, a8⟩
theorem goOn_111 {i : Bool} {c : Co} {S L : List Nat} {pm N : Nat} {ce : Nat → Nat} {T : Tb} {Ds : Nat → Nat → Prop} {De : Nat → Nat → Nat → Prop} {h0 g : Nat} {cell n3 : Int} {k46 : Bool → Int → Int → Int → Mi → Option Mi} (hg : (g : Int) ≤ c 2 2) (h96 : c 2 2 ≤ 96) : ∀ (d n x : Nat) (μ : Mi), x + d = g → d < n → h0 < x → GI μ i c S L pm N ce T Ds De (fun h => h0 < h ∧ h < x) → ∃ m, B_X4_goOnFrom_111 k46 n i (h0 : Int) cell n3 (g : Int) (x : Int) μ = k46 i (h0 : Int) cell (n3 + 1) m ∧ GI m i c S L pm N ce T Ds De (fun h => h0 < h ∧ h < g) ∧ ∀ h k, Mk m c h k ↔ Mk μ c h k := by
  intro d
  induction d with
  | zero =>
    intro n x μ hx hn hlt G
    obtain ⟨n, rfl⟩ : ∃ q, n = q + 1 := ⟨n - 1, by omega⟩
    refine ⟨μ, ?_, by rw [show g = x by omega]; exact G, fun _ _ => Iff.rfl⟩
    rw [B_X4_goOnFrom_111_s, F_X4_goOnFrom_111, wid (x := (g : Int)) (by omega) (by omega), wid (x := (x : Int)) (by omega) (by omega), if_pos (by omega)]
    rfl
  | succ d ih =>
    intro n x μ hx hn hlt G
    obtain ⟨n, rfl⟩ : ∃ q, n = q + 1 := ⟨n - 1, by omega⟩
    obtain ⟨y, y1, y2, y3⟩ := G.way (h1 := x) (by omega)
    obtain ⟨m, a1, a2, a3⟩ := ih n (x + 1) _ (by omega) (by omega) (by omega) (y3.cong (fun _ _ _ _ _ => Iff.rfl) (fun _ _ _ _ _ _ _ => Iff.rfl) (fun h _ => show ((h0 < h ∧ h < x) ∨ h = x) ↔ (h0 < h ∧ h < x + 1) by omega))
    refine ⟨m, ?_, a2, fun h k => (a3 h k).trans Mk_21⟩
    have hxr : 0 ≤ (x : Int) ∧ (x : Int) < 97 := by omega
    rw [B_X4_goOnFrom_111_s, F_X4_goOnFrom_111, wid (x := (g : Int)) (by omega) (by omega), wid (x := (x : Int)) (by omega) (by omega), if_neg (by omega), if_pos hxr, if_pos hxr, ixn x (by omega), y2, show (256 : Int) = ((2 ^ 8 : Nat) : Int) from rfl, ior_n y (2 ^ 8) (by omega) (by decide), show (x : Int) + 1 = ((x + 1 : Nat) : Int) by omega]
    exact a1
theorem pBt_256 {c : Co} (hw : WF c) {pm n h : Nat} : pBt c pm n h < 256 := by
  have hsz := hw.2.2.2.2.2.2.2.2.1
  have h1 := mb_lt (pbp c pm n h) (c 2 3).toNat
  have h2 : 2 ^ (c 2 3).toNat ≤ 2 ^ 8 := Nat.pow_le_pow_right (by omega) (by omega)
  unfold pBt
  omega
/-- the cell of a state -/
abbrev cl (c : Co) (k : Nat) : Nat := mk4 (cp c (k % 5)) (k / 140) (k / 20 % 7) (k / 5 % 4)
theorem goOn_one {i : Bool} {c : Co} {S L : List Nat} {pm N : Nat} {ce : Nat → Nat} {T : Tb} {Ds : Nat → Nat → Prop} {De : Nat → Nat → Nat → Prop} {h0 k0 n : Nat} {k46 : Bool → Int → Int → Int → Mi → Option Mi} {μ : Mi} (D : DP 4 c S L pm T) (hh : (h0 : Int) < c 2 2) (v : VM c S L h0 k0) (mk : Mk μ c h0 k0) (hr : ∃ k2, Rch c S L pm h0 k2 ∧ sc c k2 k0) (hs1 : ∀ h k, Ds h k → h ≤ h0) (hs2 : ∀ h k j, De h k j → h ≤ h0) (hn : (n : Int) < c 0 2) (G : GI μ i c S L pm N ce T Ds De (fun _ => False)) : ∃ m, F_X4_goOnFrom_46 k46 i (h0 : Int) ((cl c k0 : Nat) : Int) (n : Int) μ = k46 i (h0 : Int) ((cl c k0 : Nat) : Int) ((n + 1 : Nat) : Int) m ∧ GI m i c S L pm N ce T Ds (fun h k q => De h k q ∨ (h = h0 ∧ sc c k k0 ∧ q = n + 1)) (fun _ => False) ∧ ∀ h k : Nat, h ≤ h0 → VM c S L h k → (Mk m c h k ↔ Mk μ c h k) := by
  have W := G.1
  have P := W.1.1
  have hw := P.2.1
  have hs := P.2.2.1
  have hen := hw.2.2.2.2.2.2.2.1
  have hnl := hw.2.1
  have vd := v.vd hw hs
  have vs := vd.vs hw hs
  have h140 : ∀ m, B_X4_goOnFrom_140 k46 i (h0 : Int) ((cl c k0 : Nat) : Int) (n : Int) m = k46 i (h0 : Int) ((cl c k0 : Nat) : Int) ((n + 1 : Nat) : Int) m := fun m => by
    unfold B_X4_goOnFrom_140
    rw [show (n : Int) + 1 = ((n + 1 : Nat) : Int) by omega]
  obtain ⟨r, c1, c2⟩ := canTake_X P hn (h := h0) (by omega) vs
  have pb := papersBetween_X P n h0 hn (by omega)
  have al := afterLink_X P (k := n) (h := h0) (p := 0) hn (by omega) vs (by omega)
  rw [show ((0 : Nat) : Int) = 0 from rfl] at al
  have pl := pBt_256 (pm := pm) (n := n) (h := h0) hw
  obtain ⟨-, -, -, -, k8, -⟩ := hw.2.2.2.1 n hn
  have e16 : (h0 : Int) + rd μ 16 false n = ((h0 + (c 16 n).toNat : Nat) : Int) := by rw [ca P.1 (by omega)]; omega
  -- nothing is come to
  have idle : (∀ g k', mG c S L pm h0 k0 (n + 1) = some (g, k') → ¬ 0 ≤ Tm c T g k') → GI μ i c S L pm N ce T Ds (fun h k q => De h k q ∨ (h = h0 ∧ sc c k k0 ∧ q = n + 1)) (fun _ => False) := fun hno =>
    G.mv hh v mk (by omega) (fun g k' a b => absurd b (hno g k' a)) (fun h => ⟨fun w => absurd w id, fun ⟨g, k', _, _, a, b⟩ => absurd b (hno g k' a)⟩)
  rw [F_X4_goOnFrom_46, ca P.1 (by omega), wid (x := c 0 2) (by omega) (by omega), wid (x := (n : Int)) (by omega) (by omega), if_neg (by omega), c1, bp_k]
  rcases c2 with ⟨rfl, q1⟩ | ⟨rfl, q1⟩
  rotate_left
  · rw [if_pos (by decide), h140]
    refine ⟨μ, rfl, idle (fun g k' a => ?_), fun _ _ _ _ => Iff.rfl⟩
    rw [mG, if_neg (fun z => q1 ⟨z.1, z.2.1⟩)] at a
    cases a
  rw [if_neg (by decide), pb, bp_k, wid (x := ((pBt c pm n h0 : Nat) : Int)) (by omega) (by omega)]
  by_cases q2 : pBt c pm n h0 = 0
  rotate_left
  · rw [if_pos (by omega), h140]
    refine ⟨μ, rfl, idle (fun g k' a => ?_), fun _ _ _ _ => Iff.rfl⟩
    rw [mG, if_neg (fun z => q2 z.2.2.1)] at a
    cases a
  rw [if_neg (by omega), if_pos (by omega), ixn n (by omega), e16, al, bp_k]
  by_cases q3 : nK c h0 (h0 + (c 16 n).toNat) (cp c (k0 % 5)) < 0 ∨ nT c S n h0 (k0 / 20 % 7) 0 < 0
  · rw [if_pos q3]
    have : D_X4_reach i ((h0 + (c 16 n).toNat : Nat) : Int) (-1) μ = some (0, μ) := by
      unfold D_X4_reach
      rw [if_pos (by decide)]
    rw [this, bd_k, if_pos (by decide), h140]
    refine ⟨μ, rfl, idle (fun g k' a => ?_), fun _ _ _ _ => Iff.rfl⟩
    rw [mG, if_neg (fun z => q3.elim z.2.2.2.1 z.2.2.2.2.1)] at a
    cases a
  rw [if_neg q3]
  have vd' := arr_Vd (pm := pm) hw hn vd q3 (Or.inl rfl)
  have hca := can_h (t := k0 / 140) hw hn q1.1
  obtain ⟨w1, w2⟩ := W.reach (g := h0 + (c 16 n).toNat) (by omega) vd'
  obtain ⟨k', hk'⟩ : ∃ x, x = ms (c 14 n).toNat (nT c S n h0 (k0 / 20 % 7) 0).toNat (k0 / 5 % 4 ||| sa c L (h0 + (c 16 n).toNat) (c 14 n).toNat) (if smN h0 (h0 + (c 16 n).toNat) then k0 % 5 else 0) := ⟨_, rfl⟩
  have lc := link_cell hw hs v q3 hk'
  have eT : Tm c T (h0 + (c 16 n).toNat) k' = T (h0 + (c 16 n).toNat) (nK c h0 (h0 + (c 16 n).toNat) (cp c (k0 % 5))).toNat (c 14 n).toNat (nT c S n h0 (k0 / 20 % 7) 0).toNat (k0 / 5 % 4 ||| sa c L (h0 + (c 16 n).toNat) (c 14 n).toNat) := by
    unfold Tm
    rw [lc.1, lc.2.1, lc.2.2.1, lc.2.2.2]
  have hGv : ∀ g k2, mG c S L pm h0 k0 (n + 1) = some (g, k2) → g = h0 + (c 16 n).toNat ∧ k2 = k' := fun g k2 a => by
    rw [mG] at a
    by_cases z : GL c S L pm n h0 (cp c (k0 % 5)) (k0 / 140) (k0 / 20 % 7)
    · rw [if_pos z] at a
      cases a
      exact ⟨rfl, hk'.symm⟩
    · rw [if_neg z] at a; cases a
  by_cases q4 : T (h0 + (c 16 n).toNat) (nK c h0 (h0 + (c 16 n).toNat) (cp c (k0 % 5))).toNat (c 14 n).toNat (nT c S n h0 (k0 / 20 % 7) 0).toNat (k0 / 5 % 4 ||| sa c L (h0 + (c 16 n).toNat) (c 14 n).toNat) < 0
  · rw [w1 q4, bd_k, if_pos (by decide), h140]
    refine ⟨μ, rfl, idle (fun g k2 a => ?_), fun _ _ _ _ => Iff.rfl⟩
    obtain ⟨rfl, rfl⟩ := hGv g k2 a
    omega
  · have hp : pMs c pm (h0 + (c 16 n).toNat) (c 14 n).toNat = 0 := Decidable.byContradiction fun z => by
      have := T_miss (by omega) D (by omega) vd' z
      omega
    have hG : mG c S L pm h0 k0 (n + 1) = some (h0 + (c 16 n).toNat, k') := by
      rw [mG, if_pos (⟨q1.1, q1.2, q2, fun z => q3 (Or.inl z), fun z => q3 (Or.inr z), hp⟩ : GL c S L pm n h0 (cp c (k0 % 5)) (k0 / 140) (k0 / 20 % 7)), hk']
    obtain ⟨o1, o2, o3, o4⟩ := mG_ok hw hs hh v (by omega) hG
    have hT0 : 0 ≤ Tm c T (h0 + (c 16 n).toNat) k' := by omega
    obtain ⟨k2, r1, r2⟩ := hr
    obtain ⟨nn, r3⟩ := r1
    have v2 := (Rch.vm hw hs nn h0 k2 r3).2.1
    obtain ⟨k3, b1, b2⟩ := mG_sc hw hs v v2 (sc_sy r2) hG
    obtain ⟨G2, hM⟩ := G.mark o2 o3 hT0 ⟨k3, Rch.mv ⟨nn, r3⟩ hh (by omega) b1, sc_sy b2⟩ (fun h k a => by have := hs1 h k a; omega) (fun h k j a => by have := hs2 h k j a; omega)
    have hsame : ∀ h k : Nat, h ≤ h0 → VM c S L h k → (Mk (mkS μ c (h0 + (c 16 n).toNat) k') c h k ↔ Mk μ c h k) := fun h k hl vk => (hM h k (by omega) vk).trans ⟨fun w => w.elim id (fun w => by omega), Or.inl⟩
    obtain ⟨m, d1, d2, d3⟩ := goOn_111 (k46 := k46) (cell := ((cl c k0 : Nat) : Int)) (n3 := (n : Int)) (h0 := h0) o2 (by omega) ((c 16 n).toNat - 1) FU (h0 + 1) _ (by omega) (FU_gt (by omega)) (by omega) (G2.cong (fun _ _ _ _ _ => Iff.rfl) (fun _ _ _ _ _ _ _ => Iff.rfl) (Ex' := fun h => h0 < h ∧ h < h0 + 1) (fun h _ => ⟨fun w => absurd w id, fun w => by omega⟩))
    refine ⟨m, ?_, d2.mv hh v ((d3 h0 k0).mpr ((hsame h0 k0 (by omega) v).mpr mk)) (by omega) (fun g k4 a _ => ?_) (fun h => ⟨fun w => ⟨_, k', w.1, w.2, hG, hT0⟩, fun ⟨g, k4, a1, a2, a3, a4⟩ => ?_⟩), fun h k hl vk => (d3 h k).trans (hsame h k hl vk)⟩
    · rw [w2 k' o3 lc.1.symm lc.2.1.symm lc.2.2.1.symm lc.2.2.2.symm (by omega), bd_k, if_neg (by decide)]
      rw [show ((h0 + 1 : Nat) : Int) = (h0 : Int) + 1 by omega, show (n : Int) + 1 = ((n + 1 : Nat) : Int) by omega] at d1
      exact d1
    · obtain ⟨rfl, rfl⟩ := hGv g k4 a
      exact (d3 _ _).mpr ((hM _ _ o2 o3).mpr (Or.inr ⟨rfl, rfl, rfl, rfl, rfl⟩))
    · obtain ⟨rfl, rfl⟩ := hGv g k4 a3
      exact ⟨a1, a2⟩
