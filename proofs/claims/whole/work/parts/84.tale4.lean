/-! PURE: the reference's tale -/
theorem tale_77 {i : Bool} {c : Co} {U T : Tb} {k48 : Int → Int → Int → Int → Mi → Option (Int × Mi)} (D : DB 0 c 0 T) {h k : Nat} (hh : (h : Int) < c 2 2) (hk : k < 1120) (hT : 0 ≤ Tm c T h k) {x2 : Int} {z : Nat} (hx : -1 ≤ x2 ∧ x2 ≤ 2147483647) (hz : z ≤ 96) {j' g' k2 : Nat} (hj' : mG c (SL c 0) (LL c 0) (PM c 0) h k j' = some (g', k2)) : ∀ (d n j : Nat) (r : Int) (μ : Mi), LI μ i c (SL c 0) (LL c 0) (PM c 0) U 0 T 0 1120 → ic μ h k = 1 → d ≤ n → ((j + d : Nat) : Int) ≤ c 0 2 + 1 → (mG c (SL c 0) (LL c 0) (PM c 0) h k j = none → r = -1) → (∀ g k', mG c (SL c 0) (LL c 0) (PM c 0) h k j = some (g, k') → r = (k' : Int) ∧ rd μ 7 false 44 = (g : Int)) → fm c T h k d j = some j' → ∃ m, B_X7_tale_77 k48 n x2 (z : Int) (h : Int) (k : Int) ((j : Int) - 1) r μ = (if j' = 0 then k48 x2 (z : Int) (g' : Int) (k2 : Int) m else if ¬ (z : Int) = x2 then k48 x2 ((z + 1 : Nat) : Int) (g' : Int) (k2 : Int) m else some (((j' : Int) - 1) * 100 + (h : Int), m)) ∧ LI m i c (SL c 0) (LL c 0) (PM c 0) U 0 T 0 1120 ∧ (∀ g k', ic m g k' = ic μ g k') := by
  intro d
  induction d with
  | zero => intro n j r μ _ _ _ _ _ _ q; cases q
  | succ d ih =>
    intro n j r μ C h1 hn hjd g3 g4 hf
    obtain ⟨n, rfl⟩ : ∃ q, n = q + 1 := ⟨n - 1, by omega⟩
    have hw := C.1.1.1.2.1
    have hs := C.1.1.1.2.2.1
    have hnl := hw.2.1
    have hen := hw.2.2.2.2.2.2.2.1
    obtain ⟨v, vp⟩ := C.1.1.2.2.1 h k (by omega) hk h1
    have hjl : (j : Int) ≤ c 0 2 := by omega
    have hTu := Tm_ub (by omega : 0 ≤ 3) hw hs D (c 2 2).toNat h k (by omega) (by omega) v vp
    have next : ¬ vj 0 c (SL c 0) (LL c 0) (PM c 0) T h k j = Tm c T h k → ∃ m, B_X7_tale_146 k48 (B_X7_tale_77 k48 n) x2 (z : Int) (h : Int) (k : Int) ((j : Int) - 1) μ = (if j' = 0 then k48 x2 (z : Int) (g' : Int) (k2 : Int) m else if ¬ (z : Int) = x2 then k48 x2 ((z + 1 : Nat) : Int) (g' : Int) (k2 : Int) m else some (((j' : Int) - 1) * 100 + (h : Int), m)) ∧ LI m i c (SL c 0) (LL c 0) (PM c 0) U 0 T 0 1120 ∧ (∀ g k', ic m g k' = ic μ g k') := fun ne => by
      rw [fm, if_neg ne] at hf
      have hd := fm_some _ _ hf
      obtain ⟨r', m1, a1, a2, a3, a4⟩ := goes_G C.1.1.1 (j := j + 1) hh v (by omega)
      obtain ⟨m, b1, b2, b3⟩ := ih n (j + 1) r' m1 (C.eq a2) (by rw [show ic m1 h k = ic μ h k from a2 72 false _ (by omega)]; exact h1) (by omega) (by omega) a3 a4 hf
      refine ⟨m, ?_, b2, fun g k' => (b3 g k').trans (a2 72 false _ (by omega))⟩
      unfold B_X7_tale_146
      rw [show (j : Int) - 1 + 1 = ((j + 1 : Nat) : Int) - 1 by omega, a1, bd_k]
      exact b1
    rw [B_X7_tale_77_s, F_X7_tale_77]
    cases hG : mG c (SL c 0) (LL c 0) (PM c 0) h k j with
    | none =>
      rw [g3 hG, if_pos (by decide)]
      refine next (fun w => ?_)
      unfold vj at w
      rw [hG] at w
      have w' : (-1 : Int) = Tm c T h k := w
      omega
    | some q =>
      obtain ⟨g, k'⟩ := q
      obtain ⟨hr, h44⟩ := g4 g k' hG
      obtain ⟨o1, o2, o3, o4⟩ := mG_ok hw hs hh v hjl hG
      have hk' := o3.1
      have hT1 := (Tm_rng hw hs D o2 o3).1
      have hT2 := Tm_ub (by omega : 0 ≤ 3) hw hs D (c 2 2).toNat g k' (by omega) o2 o3 o4
      have hwj := wj_le (aim := 0) hw hjl
      have hwj0 := wj_pos (aim := 0) hw hjl
      have hicg : ic μ g k' = 1 := C.1.1.2.2.2.2.1 h k j g k' (Or.inl (by omega)) hh hk hjl h1 hG
      have hon : rd μ 71 false (g * 1120 + k') = lf 0 (Tm c T g k') := by
        rw [C.2 g k' o2 hk' (by omega)]
        unfold lv
        rw [if_pos hicg]
      have hon2 : rd μ 71 false (h * 1120 + k) = lf 0 (Tm c T h k) := by
        rw [C.2 h k (by omega) hk (by omega)]
        unfold lv
        rw [if_pos h1]
      have l0 : ∀ x : Int, 0 ≤ x → lf 0 x = x := fun x w => by
        unfold lf
        rw [if_neg (by omega), if_neg (by omega)]
      rw [l0 _ hT] at hon2
      have hvv : vj 0 c (SL c 0) (LL c 0) (PM c 0) T h k j = if Tm c T g k' < 0 then -1 else Tm c T g k' + wj 0 c j := by
        unfold vj
        rw [hG]
      obtain ⟨X, hX⟩ : ∃ X, X = h * 1120 + k := ⟨_, rfl⟩
      obtain ⟨Y, hY⟩ : ∃ Y, Y = g * 1120 + k' := ⟨_, rfl⟩
      rw [← hX] at hon2
      rw [← hY] at hon
      have hx3 : 0 ≤ (X : Int) ∧ (X : Int) < 108640 := by omega
      have hy3 : 0 ≤ (Y : Int) ∧ (Y : Int) < 108640 := by omega
      have hpr := price_M (aim := 0) (by omega) C.1.1.1 hjl
      rw [show kdA 0 = 1 from rfl] at hpr
      rw [hr, wid (x := (k' : Int)) (by omega) (by omega), if_neg (by omega), h44, show (g : Int) * 1120 + (k' : Int) = (Y : Int) by omega, wid (x := (Y : Int)) (by omega) (by omega), if_pos hy3, if_pos hy3, ixn Y (by omega), hon]
      by_cases y : Tm c T g k' < 0
      · rw [show lf 0 (Tm c T g k') = 1000000 by unfold lf; rw [if_pos y], if_pos (by decide)]
        rw [if_pos y] at hvv
        exact next (by omega)
      · rw [if_neg y] at hvv
        rw [l0 _ (by omega), wid (x := Tm c T g k') (by omega) (by omega), if_neg (by omega), hpr, bp_k, show (h : Int) * 1120 + (k : Int) = (X : Int) by omega, wid (x := (X : Int)) (by omega) (by omega), if_pos hx3, ixn X (by omega), hon2, wid (x := Tm c T g k' + wj 0 c j) (by omega) (by omega), wid (x := Tm c T h k) (by omega) (by omega)]
        by_cases u : Tm c T g k' + wj 0 c j = Tm c T h k
        · rw [if_pos u]
          rw [fm, if_pos (hvv.trans u)] at hf
          have ej : j = j' := Option.some.inj hf
          subst ej
          rw [hG] at hj'
          have eg : g = g' ∧ k' = k2 := by cases hj'; exact ⟨rfl, rfl⟩
          obtain ⟨rfl, rfl⟩ := eg
          refine ⟨μ, ?_, C, fun _ _ => rfl⟩
          rw [wid (x := (j : Int) - 1) (by omega) (by omega), wid (x := (z : Int)) (by omega) (by omega), wid (x := x2) (by omega) (by omega)]
          unfold B_X7_tale_187
          rw [h44]
          by_cases e : j = 0
          · rw [if_pos (by omega), if_pos e]
          · rw [if_neg (by omega), if_neg e]
            by_cases f : (z : Int) = x2
            · rw [if_neg (fun w => w f), if_neg (fun w => w f), show 100 * ((j : Int) - 1) + (h : Int) = ((j : Int) - 1) * 100 + (h : Int) by omega]
            · rw [if_pos f, if_pos f, show (z : Int) + 1 = ((z + 1 : Nat) : Int) by omega]
        · rw [if_neg u]
          exact next (by rw [hvv]; exact u)
theorem tv_nil {x : Int} {z : Nat} (h : x = -1 ∨ (z : Int) ≤ x) : tv x z [] = if x = -1 then (z : Int) else -1 := by
  unfold tv
  show (if x = -1 then ((z + 0 : Nat) : Int) else if x < ((z + 0 : Nat) : Int) then _ else -1) = _
  rw [Nat.add_zero]
  by_cases e : x = -1
  · rw [if_pos e, if_pos e]
  · rw [if_neg e, if_neg e, if_neg (by omega)]
theorem tv_cons {x a : Int} {z : Nat} {l : List Int} (h : x = -1 ∨ ((z + 1 : Nat) : Int) ≤ x) : tv x z (a :: l) = tv x (z + 1) l := by
  unfold tv
  rw [List.length_cons, show z + (l.length + 1) = z + 1 + l.length by omega]
  by_cases e : x = -1
  · rw [if_pos e, if_pos e]
  · rw [if_neg e, if_neg e, show x.toNat - z = (x.toNat - (z + 1)) + 1 by omega]
    rfl
theorem tv_here {a : Int} {z : Nat} {l : List Int} : tv (z : Int) z (a :: l) = a := by
  unfold tv
  rw [List.length_cons, if_neg (by omega), if_pos (by omega), show (z : Int).toNat - z = 0 by omega]
  rfl
theorem tale_48 {i : Bool} {c : Co} {U T : Tb} (h2 : WF2 c) (D : DB 0 c 0 T) {x2 : Int} (hx : -1 ≤ x2 ∧ x2 ≤ 2147483647) : ∀ (d n f h k z : Nat) (μ : Mi), (c 2 2).toNat ≤ h + d → d < n → d < f → (h : Int) ≤ c 2 2 → z ≤ h → (x2 = -1 ∨ (z : Int) ≤ x2) → LI μ i c (SL c 0) (LL c 0) (PM c 0) U 0 T 0 1120 → ic μ h k = 1 → k < 1120 → 0 ≤ Tm c T h k → ∃ m, B_X7_tale_48 n x2 (z : Int) (h : Int) (k : Int) μ = some (tv x2 z (tl c T f h k), m) := by
  have fin : ∀ (n f h k z : Nat) (μ : Mi), 0 < n → (h : Int) = c 2 2 → z ≤ h → (x2 = -1 ∨ (z : Int) ≤ x2) → LI μ i c (SL c 0) (LL c 0) (PM c 0) U 0 T 0 1120 → ∃ m, B_X7_tale_48 n x2 (z : Int) (h : Int) (k : Int) μ = some (tv x2 z (tl c T f h k), m) := by
    intro n f h k z μ hn hh hz hzx C
    obtain ⟨n, rfl⟩ : ∃ q, n = q + 1 := ⟨n - 1, by omega⟩
    have hen := C.1.1.1.2.1.2.2.2.2.2.2.2.1
    have hm := mi_le i
    refine ⟨μ, ?_⟩
    rw [tl_end (by omega), tv_nil hzx, B_X7_tale_48_s, F_X7_tale_48, C.1.1.1.2.2.2.1, wid (x := (mi i : Int)) (by omega) (by omega), if_pos (by omega), ixn (mi i) (by omega), C.1.1.1.1.2.2.2.2.1.2.2.1, wid (x := c 2 2) (by omega) (by omega), wid (x := (h : Int)) (by omega) (by omega), if_pos (by omega), wid (x := x2) (by omega) (by omega)]
    by_cases e : x2 = -1
    · rw [if_neg (fun w => w e), if_pos e]
    · rw [if_pos e, if_neg e]
  intro d
  induction d with
  | zero =>
    intro n f h k z μ hd hn hf hh hz hzx C h1 hk ht
    exact fin n f h k z μ (by omega) (by omega) hz hzx C
  | succ d ih =>
    intro n f h k z μ hd hn hf hh hz hzx C h1 hk ht
    by_cases y : (h : Int) = c 2 2
    · exact fin n f h k z μ (by omega) y hz hzx C
    have hh' : (h : Int) < c 2 2 := by omega
    obtain ⟨n, rfl⟩ : ∃ q, n = q + 1 := ⟨n - 1, by omega⟩
    obtain ⟨f, rfl⟩ : ∃ q, f = q + 1 := ⟨f - 1, by omega⟩
    have hw := C.1.1.1.2.1
    have hs := C.1.1.1.2.2.1
    have hnl := hw.2.1
    have hen := hw.2.2.2.2.2.2.2.1
    have hm := mi_le i
    obtain ⟨v, vp⟩ := C.1.1.2.2.1 h k (by omega) hk h1
    obtain ⟨j, g, k', f1, f2, f3, f4, f5⟩ := fm_ex hw h2 D hh' v vp ht
    obtain ⟨o1, o2, o3, o4⟩ := mG_ok hw hs hh' v f2 f3
    obtain ⟨r, m1, a1, a2, a3, a4⟩ := goes_G C.1.1.1 (j := 0) hh' v (by omega)
    obtain ⟨m2, b1, b2, b3⟩ := tale_77 (k48 := B_X7_tale_48 n) D hh' hk ht hx (z := z) (by omega) f3 ((c 0 2).toNat + 1) FU 0 r m1 (C.eq a2) (by rw [show ic m1 h k = ic μ h k from a2 72 false _ (by omega)]; exact h1) (by have := FU_gt (n := (c 0 2).toNat + 1) (by omega); omega) (by omega) a3 a4 f1
    have hicg : ic μ g k' = 1 := C.1.1.2.2.2.2.1 h k j g k' (Or.inl (by omega)) hh' hk f2 h1 f3
    have hic2 : ic m2 g k' = 1 := by
      rw [b3, show ic m1 g k' = ic μ g k' from a2 72 false _ (by omega)]
      exact hicg
    rw [tl_step hh' f1 f3, B_X7_tale_48_s, F_X7_tale_48, C.1.1.1.2.2.2.1, wid (x := (mi i : Int)) (by omega) (by omega), if_pos (by omega), ixn (mi i) (by omega), C.1.1.1.1.2.2.2.2.1.2.2.1, wid (x := c 2 2) (by omega) (by omega), wid (x := (h : Int)) (by omega) (by omega), if_neg (by omega)]
    rw [show ((0 : Nat) : Int) - 1 = -1 from rfl] at a1 b1
    rw [a1, bd_k, b1]
    by_cases e : j = 0
    · rw [if_pos e, if_pos e]
      exact ih n f g k' z m2 (by omega) (by omega) (by omega) o2 (by omega) hzx b2 hic2 o3.1 f4
    · rw [if_neg e, if_neg e]
      show ∃ m, _ = some (tv x2 z ((((j : Int) - 1) * 100 + (h : Int)) :: tl c T f g k'), m)
      by_cases u : (z : Int) = x2
      · rw [if_neg (fun w => w u)]
        refine ⟨m2, ?_⟩
        rw [← u, tv_here]
      · rw [if_pos u, tv_cons (by omega)]
        exact ih n f g k' (z + 1) m2 (by omega) (by omega) (by omega) o2 (by omega) (by omega) b2 hic2 o3.1 f4
theorem op_tale {μ : Mi} (I : Inv μ) {x1 x2 : Int} (r1 : R32 x1) (r2 : R32 x2) : OpI (D_X6_tale x1 x2) (D_X7_tale x1 x2) μ := by
  have hA := I.1.2.1
  by_cases c1 : 0 < rd μ 0 false 1 ∧ (x1 = 0 ∨ x1 = 1)
  rotate_left
  · refine OpI.same I (-1) ?_ ?_
    · unfold D_X6_tale; rw [isMan_X hA r1, if_pos (yb10 c1)]
    · unfold D_X7_tale; rw [man_M hA rfl rfl r1, if_pos (yb10 c1)]
  by_cases c2 : -1 ≤ x2
  rotate_left
  · refine OpI.same I (-1) ?_ ?_
    · unfold D_X6_tale; rw [isMan_X hA r1, if_neg (nb10 c1), wid r2.1 r2.2, if_pos (by omega)]
    · unfold D_X7_tale; rw [man_M hA rfl rfl r1, if_neg (nb10 c1), wid r2.1 r2.2, if_neg c2]
  obtain ⟨i, e1, e2, e3, e4, e5, e6⟩ := man_of c1
  have hw := WF_of I.1 c1.1 i
  have h2 := WF2_of I.1 i
  have hs := Sk_of hw h2 0
  have hen := hw.2.2.2.2.2.2.2.1
  obtain ⟨T, m1, a1, a2, a5, a6⟩ := taleAt_X I c1.1 (i := i) c2 r2.2
  have F := fr_X4_taleAt a1
  have eF : ∀ r i j, ¬ (r = 1 ∨ r = 4 ∨ (r = 2 ∧ j = 4) ∨ (21 ≤ r ∧ r ≤ 23) ∨ (32 ≤ r ∧ r ≤ 36)) → rd m1 r i j = rd μ r i j := fun r i j h => frQ F (by decide) h
  have M1 : MC m1 i (cr μ i) := (MC_of I.1 c1.1 i).eq (fun r i j h => eF r i j (by omega))
  obtain ⟨U, hU⟩ := DB_ex (rfl : cr μ i = cr μ i) hw h2 (B := 0) (aim := 4) (by omega) (by omega)
  obtain ⟨m2, b1, b2⟩ := sets_M M1 hw h2 (B := 0) (by omega)
  obtain ⟨m3, d1, d2, d3⟩ := counts_M b2 hU
  rw [show ((0 : Nat) : Int) = 0 from rfl] at b1
  have s1 := sv_sgn hw h2 (by omega) (by omega) a2 hU
  have s2 := sv_4p hw h2 hU
  have s3 := sv_m1 hw h2 a2
  have s4 := sv_ub hw h2 hU
  have ed : Tm (cr μ i) U 0 (sK (cr μ i) (LL (cr μ i) 0)) = sv (cr μ i) 0 U := rfl
  rw [ed] at d1 d3
  have hX : D_X6_tale x1 x2 μ = some (if sv (cr μ i) 0 T < 0 then -1 else tv x2 0 (tl (cr μ i) T 97 0 (sK (cr μ i) (LL (cr μ i) 0))), m1) := by
    unfold D_X6_tale
    rw [isMan_X hA r1, if_neg (nb10 c1), wid r2.1 r2.2, if_neg (by omega), e2, a1, bd_k]
  have head : D_X7_tale x1 x2 m1 = if ¬ max 0 (sv (cr μ i) 0 U) = 0 then (bd (D_X7_leasts 1 1 m3) fun r4 m4 => bp (D_X7_start m4) fun r5 => B_X7_tale_48 FU x2 0 0 r5 m4) else some (-1, m3) := by
    unfold D_X7_tale
    rw [man_M hA (eF 7 false 17 (by omega)) (eF 0 false 1 (by omega)) r1, if_neg (nb10 c1), wid r2.1 r2.2, if_pos c2, e1, b1, bm_k, d1, bd_k, wid (x := max 0 (sv (cr μ i) 0 U)) (by omega) (by omega)]
  by_cases z : sv (cr μ i) 0 T < 0
  · rw [if_pos z] at hX
    rw [if_neg (by omega)] at head
    exact OpI.q I hX head F (by decide) (fr_X7_tale head) (by decide) a5 a6
  · rw [if_neg z] at hX
    rw [if_pos (by omega)] at head
    have C3 := d3 (by omega)
    obtain ⟨-, m4, g1, g2⟩ := leasts_M (aim := 0) (by omega) hU a2 C3 (by rw [ed]; omega)
    obtain ⟨vs, q1, -⟩ := sK_VM (S := SL (cr μ i) 0) (pm := PM (cr μ i) 0) hw hs
    have ic0 := g2.1.1.2.2.2.2.2
    have hp := (g2.1.1.2.2.1 0 (sK (cr μ i) (LL (cr μ i) 0)) (by omega) vs.1 ic0).2
    rw [q1] at hp
    obtain ⟨m5, t1⟩ := tale_48 h2 a2 ⟨c2, r2.2⟩ (cr μ i 2 2).toNat FU 97 0 (sK (cr μ i) (LL (cr μ i) 0)) 0 m4 (by omega) (FU_gt (by omega)) (by omega) (by omega) (by omega) (by omega) g2 ic0 vs.1 (by
      have : Tm (cr μ i) T 0 (sK (cr μ i) (LL (cr μ i) 0)) = sv (cr μ i) 0 T := rfl
      omega)
    have hM : D_X7_tale x1 x2 m1 = some (tv x2 0 (tl (cr μ i) T 97 0 (sK (cr μ i) (LL (cr μ i) 0))), m5) := by
      rw [head]
      rw [show kdA 0 = 1 from rfl, show sg 0 = 1 from rfl] at g1
      rw [g1, bd_k, start_M g2.1.1.1, bp_k, if_pos hp]
      exact t1
    exact OpI.q I hX hM F (by decide) (fr_X7_tale hM) (by decide) a5 a6
