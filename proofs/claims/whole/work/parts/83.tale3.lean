/-! PURE: the class follows the tale -/
theorem Fb_g {μ : Mi} {i : Bool} {c : Co} {S L : List Nat} {pm aim N : Nat} {ce : Nat → Nat} {r p : Nat} {v : Int} (hr : r = 1 ∨ r = 23) (F : Fb μ i c S L pm aim N ce) : Fb (wr μ r i p v) i c S L pm aim N ce := by
  obtain ⟨⟨hc, hw, hs, p1, p2, p3, p4, p5, p6⟩, hA, ha, hP, hC⟩ := F
  refine ⟨⟨(cr_s (by omega)).trans hc, hw, hs, ?_, ?_, ?_, ?_, ?_, ?_⟩, by rw [rdx (by omega)]; exact hA, ha, ⟨by rw [rdx (by omega)]; exact hP.1, fun j hj => by rw [rdx (by omega)]; exact hP.2 j hj⟩, hC⟩
  · rw [rdx (by omega)]; exact p1
  · intro q hq; rw [rdx (by omega)]; exact p2 q hq
  · rw [rdx (by omega)]; exact p3
  · intro q hq; rw [rdx (by omega)]; exact p4 q hq
  · rw [rdx (by omega)]; exact p5
  · intro h hh; rw [rdx (by omega)]; exact p6 h hh
theorem tb_g {μ : Mi} {i : Bool} {r p : Nat} {v : Int} (hr : r = 1 ∨ r = 23) : tb (wr μ r i p v) = tb μ := by
  funext h l t s e
  unfold tb
  rw [rdx (by omega)]
theorem tl_step {c : Co} {T : Tb} {f h k j g k' : Nat} (hh : (h : Int) < c 2 2) (h1 : fm c T h k ((c 0 2).toNat + 1) 0 = some j) (h2 : mG c (SL c 0) (LL c 0) (PM c 0) h k j = some (g, k')) : tl c T (f + 1) h k = (if j = 0 then [] else [((j : Int) - 1) * 100 + (h : Int)]) ++ tl c T f g k' := by
  rw [tl, if_neg (by omega)]
  simp only [h1, h2]
theorem tl_end {c : Co} {T : Tb} {f h k : Nat} (hh : c 2 2 ≤ (h : Int)) : tl c T f h k = [] := by
  cases f with
  | zero => rfl
  | succ f => rw [tl, if_pos hh]
theorem tl_le {c : Co} {T : Tb} (hw : WF c) (h2 : WF2 c) : ∀ (f h k : Nat), VM c (SL c 0) (LL c 0) h k → (h : Int) ≤ c 2 2 → h + (tl c T f h k).length ≤ (c 2 2).toNat
  | 0, h, k, _, hh => by show h + 0 ≤ _; omega
  | f + 1, h, k, v, hh => by
    rw [tl]
    split
    · show h + 0 ≤ _; omega
    · rename_i y
      split
      · show h + 0 ≤ _; omega
      · rename_i j hj
        have hb := fm_some _ _ hj
        split
        · show h + 0 ≤ _; omega
        · rename_i q hq
          obtain ⟨g, k'⟩ := q
          have hnl := hw.2.1
          obtain ⟨o1, o2, o3, o4⟩ := mG_ok hw (Sk_of hw h2 0) (by omega) v (by omega) hq
          have ih := tl_le (T := T) hw h2 f g k' o3 o2
          rw [List.length_append]
          have : (if j = 0 then [] else [((j : Int) - 1) * 100 + (h : Int)]).length ≤ 1 := by
            split
            · show 0 ≤ 1; omega
            · show 1 ≤ 1; omega
          show h + (_ + (tl c T f g k').length) ≤ _
          omega
theorem tl_len {c : Co} {T : Tb} (hw : WF c) (h2 : WF2 c) (_ : DB 0 c 0 T) : (tl c T 97 0 (sK c (LL c 0))).length ≤ 96 := by
  have hen := hw.2.2.2.2.2.2.2.1
  have := tl_le (T := T) hw h2 97 0 _ (sK_VM (S := SL c 0) (pm := PM c 0) hw (Sk_of hw h2 0)).1 (by omega)
  omega
theorem follow_28 {i : Bool} {c : Co} {T : Tb} {N : Nat} {ce : Nat → Nat} (h2 : WF2 c) (D : DB 0 c 0 T) : ∀ (d n f h k st z : Nat) (μ : Mi), (c 2 2).toNat ≤ h + d → d < n → d < f → st ≤ h → z ≤ h → (h : Int) ≤ c 2 2 → VM c (SL c 0) (LL c 0) h k → pMs c (PM c 0) h (k / 140) = 0 → 0 ≤ Tm c T h k → Fb μ i c (SL c 0) (LL c 0) (PM c 0) 0 N ce → tb μ = T → rd μ 1 i 2 = (z : Int) → ∃ m, B_X4_followTale_28 n i ((mk4 (cp c (k % 5)) (k / 140) (k / 20 % 7) (k / 5 % 4) : Nat) : Int) (h : Int) (st : Int) μ = some m ∧ rd m 1 i 2 = ((z + (tl c T f h k).length : Nat) : Int) ∧ z + (tl c T f h k).length ≤ 96 ∧ (∀ q, q < z → rd m 23 i q = rd μ 23 i q) ∧ (∀ q, q < (tl c T f h k).length → rd m 23 i (z + q) = (tl c T f h k).getD q 0) ∧ ∀ r j q, ¬ r = 23 → ¬ (r = 1 ∧ q = 2) → rd m r j q = rd μ r j q := by
  have fin : ∀ (n f h k st z : Nat) (μ : Mi), 0 < n → st ≤ h → z ≤ h → (h : Int) = c 2 2 → Fb μ i c (SL c 0) (LL c 0) (PM c 0) 0 N ce → rd μ 1 i 2 = (z : Int) → ∃ m, B_X4_followTale_28 n i ((mk4 (cp c (k % 5)) (k / 140) (k / 20 % 7) (k / 5 % 4) : Nat) : Int) (h : Int) (st : Int) μ = some m ∧ rd m 1 i 2 = ((z + (tl c T f h k).length : Nat) : Int) ∧ z + (tl c T f h k).length ≤ 96 ∧ (∀ q, q < z → rd m 23 i q = rd μ 23 i q) ∧ (∀ q, q < (tl c T f h k).length → rd m 23 i (z + q) = (tl c T f h k).getD q 0) ∧ ∀ r j q, ¬ r = 23 → ¬ (r = 1 ∧ q = 2) → rd m r j q = rd μ r j q := by
    intro n f h k st z μ hn hst hz hh F hr
    obtain ⟨n, rfl⟩ : ∃ q, n = q + 1 := ⟨n - 1, by omega⟩
    have hen := F.1.2.1.2.2.2.2.2.2.2.1
    rw [tl_end (by omega)]
    refine ⟨μ, ?_, hr, by show z + 0 ≤ 96; omega, fun q _ => rfl, fun q hq => (by cases hq), fun r j q _ _ => rfl⟩
    rw [B_X4_followTale_28_s, F_X4_followTale_28, wid (x := (st : Int)) (by omega) (by omega), cm F.1.1 (r := 2) (k := 2) (by omega), wid (x := c 2 2) (by omega) (by omega), wid (x := (h : Int)) (by omega) (by omega)]
    by_cases y : 96 ≤ (st : Int)
    · rw [if_pos y]
    · rw [if_neg y, if_pos (by omega)]
  intro d
  induction d with
  | zero =>
    intro n f h k st z μ hd hn hf hst hz hh v hp ht F hT hr
    exact fin n f h k st z μ (by omega) hst hz (by omega) F hr
  | succ d ih =>
    intro n f h k st z μ hd hn hf hst hz hh v hp ht F hT hr
    by_cases y : (h : Int) = c 2 2
    · exact fin n f h k st z μ (by omega) hst hz y F hr
    have hh' : (h : Int) < c 2 2 := by omega
    have P := F.1
    have hw := P.2.1
    have hs := P.2.2.1
    have hnl := hw.2.1
    have hen := hw.2.2.2.2.2.2.2.1
    have vd := v.vd hw hs
    have vs := vd.vs hw hs
    have h4 := mk4_lt vs
    obtain ⟨n, rfl⟩ : ∃ q, n = q + 1 := ⟨n - 1, by omega⟩
    obtain ⟨f, rfl⟩ : ∃ q, f = q + 1 := ⟨f - 1, by omega⟩
    obtain ⟨j, g, k', f1, f2, f3, f4, f5⟩ := fm_ex hw h2 D hh' v hp ht
    obtain ⟨o1, o2, o3, o4⟩ := mG_ok hw hs hh' v f2 f3
    have hfm := firstMove_X P F.2.1 hT D hh' v ht
    rw [f1] at hfm
    have e143 : ∀ a b m, B_X4_followTale_143 (B_X4_followTale_28 n) i a b (st : Int) m = B_X4_followTale_28 n i a b ((st + 1 : Nat) : Int) m := fun a b m => by
      unfold B_X4_followTale_143
      rw [show (st : Int) + 1 = ((st + 1 : Nat) : Int) by omega]
    rw [tl_step hh' f1 f3, B_X4_followTale_28_s, F_X4_followTale_28, wid (x := (st : Int)) (by omega) (by omega), if_neg (by omega), cm P.1 (r := 2) (k := 2) (by omega), wid (x := c 2 2) (by omega) (by omega), wid (x := (h : Int)) (by omega) (by omega), if_neg (by omega), hr, wid (x := (z : Int)) (by omega) (by omega), if_neg (by omega), wid (x := ((mk4 (cp c (k % 5)) (k / 140) (k / 20 % 7) (k / 5 % 4) : Nat) : Int)) (by omega) (by omega), if_neg (by omega), hfm, bp_k]
    cases j with
    | zero =>
      have f3' := f3
      rw [mG] at f3'
      by_cases q1 : nS c h (cp c (k % 5)) < 0 ∨ ¬ pMs c (PM c 0) (h + 1) (k / 140) = 0
      · rw [if_pos q1] at f3'; cases f3'
      rw [if_neg q1] at f3'
      have hg : g = h + 1 ∧ k' = ms (k / 140) (k / 20 % 7) (k / 5 % 4 ||| sa c (LL c 0) (h + 1) (k / 140)) (if h % 24 < 7 then min 4 (k % 5 + 1) else 0) := by
        cases f3'; exact ⟨rfl, rfl⟩
      have q2 : ¬ nS c h (cp c (k % 5)) < 0 := fun w => q1 (Or.inl w)
      obtain ⟨s1, s2, s3, s4⟩ := stay_cell hw hs v q2 hg.2
      have ec : (if nS c h (cp c (k % 5)) < 0 then -1 else ((mk4 (nS c h (cp c (k % 5))).toNat (k / 140) (k / 20 % 7) (k / 5 % 4 ||| sa c (LL c 0) (h + 1) (k / 140)) : Nat) : Int)) = ((mk4 (cp c (k' % 5)) (k' / 140) (k' / 20 % 7) (k' / 5 % 4) : Nat) : Int) := by
        rw [if_neg q2, s1, s2, s3, s4]
      obtain ⟨m, g1, g2, g3, g4, g5, g6⟩ := ih n f g k' (st + 1) z μ (by omega) (by omega) (by omega) (by omega) (by omega) o2 o3 o4 f4 F hT hr
      refine ⟨m, ?_, g2, g3, g4, g5, g6⟩
      rw [show fmI (some 0) = -1 from rfl, if_neg (by decide), afterStay_X P (by omega) vs, bp_k, ec, e143, show (h : Int) + 1 = (g : Int) by omega]
      exact g1
    | succ q =>
      have f3' := f3
      rw [mG] at f3'
      by_cases q1 : GL c (SL c 0) (LL c 0) (PM c 0) q h (cp c (k % 5)) (k / 140) (k / 20 % 7)
      rotate_left
      · rw [if_neg q1] at f3'; cases f3'
      rw [if_pos q1] at f3'
      have hql : (q : Int) < c 0 2 := by omega
      have hg : g = h + (c 16 q).toNat ∧ k' = ms (c 14 q).toNat (nT c (SL c 0) q h (k / 20 % 7) 0).toNat (k / 5 % 4 ||| sa c (LL c 0) (h + (c 16 q).toNat) (c 14 q).toNat) (if smN h (h + (c 16 q).toNat) then k % 5 else 0) := by
        cases f3'; exact ⟨rfl, rfl⟩
      have q2 : ¬ (nK c h (h + (c 16 q).toNat) (cp c (k % 5)) < 0 ∨ nT c (SL c 0) q h (k / 20 % 7) 0 < 0) := fun w => w.elim q1.2.2.2.1 q1.2.2.2.2.1
      obtain ⟨s1, s2, s3, s4⟩ := link_cell hw hs v q2 hg.2
      obtain ⟨-, -, -, -, la, -⟩ := hw.2.2.2.1 q hql
      have F2 : Fb (wr (wr μ 23 i z ((q : Int) * 100 + (h : Int))) 1 i 2 ((z : Int) + 1)) i c (SL c 0) (LL c 0) (PM c 0) 0 N ce := Fb_g (Or.inl rfl) (Fb_g (Or.inr rfl) F)
      obtain ⟨m2, hm2⟩ : ∃ m2, m2 = wr (wr μ 23 i z ((q : Int) * 100 + (h : Int))) 1 i 2 ((z : Int) + 1) := ⟨_, rfl⟩
      rw [← hm2] at F2
      have T2 : tb m2 = T := by
        rw [hm2]
        exact ((tb_g (Or.inl rfl)).trans (tb_g (Or.inr rfl))).trans hT
      have R2 : rd m2 1 i 2 = ((z + 1 : Nat) : Int) := by
        rw [hm2, rd_s]
        omega
      have ec := afterLink_X F2.1 (k := q) (h := h) (p := 0) hql (by omega) vs (by omega)
      rw [if_neg q2, ← s1, ← s2, ← s3, ← hg.1] at ec
      rw [← hg.1, ← s2] at s4
      rw [← s4, show ((0 : Nat) : Int) = 0 from rfl] at ec
      obtain ⟨m, g1, g2, g3, g4, g5, g6⟩ := ih n f g k' (st + 1) (z + 1) m2 (by omega) (by omega) (by omega) (by omega) (by omega) o2 o3 o4 f4 F2 T2 R2
      have hlen : ((if q + 1 = 0 then [] else [(((q + 1 : Nat) : Int) - 1) * 100 + (h : Int)]) ++ tl c T f g k') = ((q : Int) * 100 + (h : Int)) :: tl c T f g k' := by
        rw [if_neg (by omega), show ((q + 1 : Nat) : Int) - 1 = (q : Int) by omega]
        rfl
      rw [hlen, List.length_cons]
      refine ⟨m, ?_, by rw [g2]; congr 1; omega, by omega, fun x hx => ?_, fun x hx => ?_, fun r j x p1 p2 => ?_⟩
      · rw [show fmI (some (q + 1)) = (q : Int) by show ((q + 1 : Nat) : Int) - 1 = (q : Int); omega, wid (x := (q : Int)) (by omega) (by omega), if_pos (by omega), if_pos (by omega), ixn z (by omega), ← hm2, ec, bp_k, if_pos (by omega), ixn q (by omega), ca P.1 (r := 16) (k := q) (by omega), e143, show (h : Int) + c 16 q = (g : Int) by omega]
        exact g1
      · rw [g4 x (by omega), hm2, rdx (by omega), rdx (by omega)]
      · cases x with
        | zero =>
          rw [show z + 0 = z from rfl, g4 z (by omega), hm2, rdx (by omega), rd_s]
          rfl
        | succ x =>
          rw [show z + (x + 1) = z + 1 + x by omega, g5 x (by omega)]
          rfl
      · rw [g6 r j x p1 p2, hm2, rdx (by omega), rdx (by omega)]
/-- the class's tale -/
def tv (x : Int) (z : Nat) (l : List Int) : Int := if x = -1 then ((z + l.length : Nat) : Int) else if x < ((z + l.length : Nat) : Int) then l.getD (x.toNat - z) 0 else -1
theorem taleAt_X {μ : Mi} {i : Bool} (I : Inv μ) (h0 : 0 < rd μ 0 false 1) {x : Int} (hx : -1 ≤ x) (hx2 : x ≤ 2147483647) : ∃ T m, D_X4_taleAt i x μ = some (if sv (cr μ i) 0 T < 0 then -1 else tv x 0 (tl (cr μ i) T 97 0 (sK (cr μ i) (LL (cr μ i) 0))), m) ∧ DB 0 (cr μ i) 0 T ∧ Ch m i ∧ rd m 2 i 4 = 0 := by
  have hw := WF_of I.1 h0 i
  have h2 := WF2_of I.1 i
  have hs := Sk_of hw h2 0
  have hen := hw.2.2.2.2.2.2.2.1
  obtain ⟨b, m1, n, a1, a2, a3, a4, a5, a6, a7, a8⟩ := mustLearn_X I.1 (I.2 i) h0 (k := 6) (by omega)
  have hc1 : cr m1 i = cr μ i := cr_eq (fun r j q h => a3 r j q (by omega))
  rw [show ((6 : Nat) : Int) = 6 from rfl] at a1
  have rdv : ∀ (T : Tb) (m : Mi), (tl (cr μ i) T 97 0 (sK (cr μ i) (LL (cr μ i) 0))).length ≤ 96 → (sv (cr μ i) 0 T < 0 → fd m i 1 2 = -1) → (0 ≤ sv (cr μ i) 0 T → fd m i 1 2 = (((tl (cr μ i) T 97 0 (sK (cr μ i) (LL (cr μ i) 0))).length : Nat) : Int) ∧ ∀ q, q < (tl (cr μ i) T 97 0 (sK (cr μ i) (LL (cr μ i) 0))).length → fd m i 23 q = (tl (cr μ i) T 97 0 (sK (cr μ i) (LL (cr μ i) 0))).getD q 0) → B_X4_taleAt_23 i x m = some (if sv (cr μ i) 0 T < 0 then -1 else tv x 0 (tl (cr μ i) T 97 0 (sK (cr μ i) (LL (cr μ i) 0))), m) := fun T m hl k1 k2 => by
    unfold B_X4_taleAt_23
    rw [fdx (by omega)] at k1 k2
    rw [wid (x := x) (by omega) (by omega)]
    by_cases y : sv (cr μ i) 0 T < 0
    · rw [if_pos y, k1 y]
      by_cases e : x = -1
      · rw [if_neg (fun w => w e)]
      · rw [if_pos e, if_neg (by omega), if_pos (by rw [show w32 (-1) = -1 by decide]; omega)]
    · rw [if_neg y]
      obtain ⟨k3, k4⟩ := k2 (by omega)
      rw [k3]
      unfold tv
      by_cases e : x = -1
      · rw [if_neg (fun w => w e), if_pos e, Nat.zero_add]
      · rw [if_pos e, if_neg e, if_neg (by omega), wid (x := (((tl (cr μ i) T 97 0 (sK (cr μ i) (LL (cr μ i) 0))).length : Nat) : Int)) (by omega) (by omega), Nat.zero_add]
        by_cases u : x < (((tl (cr μ i) T 97 0 (sK (cr μ i) (LL (cr μ i) 0))).length : Nat) : Int)
        · rw [if_neg (by omega), if_pos (by omega), if_pos u, ixd (by omega) (by omega), ← fdx (by omega), k4 x.toNat (by omega)]
          rfl
        · rw [if_pos (by omega), if_neg u]
  unfold D_X4_taleAt
  rw [a1, bd_k]
  rcases a2 with rfl | rfl
  · rw [if_pos (by decide)]
    have K := a8 6 (by omega) (a7 rfl)
    have K2 : KN 6 (cr μ i) (fd m1 i) := KN_cong (fun r j hr => by
      have hr2 : r = 1 ∨ (21 ≤ r ∧ r ≤ 23) := by unfold rdK at hr; omega
      rw [fdx hr2, fdx hr2]
      exact a3 r i j (by unfold rdK at hr; omega)) K
    have K3 := K2
    unfold KN at K3
    rw [if_neg (by omega), if_neg (by omega), if_neg (by omega), if_pos rfl] at K3
    obtain ⟨T, u1, u2, u3⟩ := K3
    refine ⟨T, m1, rdv T m1 (tl_len hw h2 u1) u2 u3, u1, Ch.put (k := 6) (by omega) a5 hc1 a6 K2 a8 (fun q r j hq hne hr => a3 r i j (by unfold rdK at hr; omega)), a4⟩
  · rw [if_neg (by decide)]
    obtain ⟨m2, m3, N, ce, b1, b2, b3, b4, b5, b6⟩ := learn_X hc1 hw h2 (B := 0) (aim := 0) (by omega) (by omega)
    rw [show ((0 : Nat) : Int) = 0 from rfl] at b1 b2
    obtain ⟨vs, s1, s2, s3, s4⟩ := sK_VM (S := SL (cr μ i) 0) (pm := PM (cr μ i) 0) hw hs
    have hsc : D_X4_startCell i m3 = some ((mk4 (cp (cr μ i) (sK (cr μ i) (LL (cr μ i) 0) % 5)) (sK (cr μ i) (LL (cr μ i) 0) / 140) (sK (cr μ i) (LL (cr μ i) 0) / 20 % 7) (sK (cr μ i) (LL (cr μ i) 0) / 5 % 4) : Nat) : Int) := by
      rw [startCell_X b3.1, s1, s2, s3, s4, cp_0 hw]
    have hv := sv_m1 hw h2 b4
    have hv2 := (Tm_rng hw hs b4 (by omega) vs).2
    have hv3 := @bdT_Bd 0 0 (sK (cr μ i) (LL (cr μ i) 0) / 20 % 7)
    unfold Bd at hv3
    rw [if_neg (by omega)] at hv3
    have ed : Tm (cr μ i) (tb m3) 0 (sK (cr μ i) (LL (cr μ i) 0)) = sv (cr μ i) 0 (tb m3) := rfl
    rw [ed] at b5 hv2
    have fin : ∀ m, D_X4_followTale i m3 = some m → (∀ r j q, ¬ r = 23 → ¬ (r = 1 ∧ q = 2) → rd m r j q = rd m3 r j q) → (sv (cr μ i) 0 (tb m3) < 0 → fd m i 1 2 = -1) → (0 ≤ sv (cr μ i) 0 (tb m3) → fd m i 1 2 = (((tl (cr μ i) (tb m3) 97 0 (sK (cr μ i) (LL (cr μ i) 0))).length : Nat) : Int) ∧ ∀ q, q < (tl (cr μ i) (tb m3) 97 0 (sK (cr μ i) (LL (cr μ i) 0))).length → fd m i 23 q = (tl (cr μ i) (tb m3) 97 0 (sK (cr μ i) (LL (cr μ i) 0))).getD q 0) → ∃ T m, (bm (D_X4_prepare i 0 m1) fun m2 => bm (D_X4_fill i 0 m2) fun m3 => bm (D_X4_followTale i m3) fun m4 => B_X4_taleAt_23 i x m4) = some (if sv (cr μ i) 0 T < 0 then -1 else tv x 0 (tl (cr μ i) T 97 0 (sK (cr μ i) (LL (cr μ i) 0))), m) ∧ DB 0 (cr μ i) 0 T ∧ Ch m i ∧ rd m 2 i 4 = 0 := fun m g1 g2 g3 g4 => by
      have hcm : cr m i = cr μ i := by
        rw [← hc1]
        exact cr_eq (fun r j q h => (g2 r j q (by omega) (by omega)).trans (b6 r j q (by omega) (by omega)))
      refine ⟨tb m3, m, ?_, b4, Ch.put (k := 6) (by omega) a5 hcm ?_ ?_ a8 (fun q r j hq hne hr => ?_), ?_⟩
      · rw [b1, bm_k, b2, bm_k, g1, bm_k]
        exact rdv (tb m3) m (tl_len hw h2 b4) g3 g4
      · rw [g2 1 i 0 (by omega) (by omega), b6 1 i 0 (by omega) (by omega), a6]
      · unfold KN
        rw [if_neg (by omega), if_neg (by omega), if_neg (by omega), if_pos rfl]
        exact ⟨tb m3, b4, g3, g4⟩
      · unfold rdK at hr
        rw [g2 r i j (by omega) (by omega), b6 r i j (by omega) (by omega), a3 r i j (by omega)]
      · rw [g2 2 i 4 (by omega) (by omega), b6 2 i 4 (by omega) (by omega), a4]
    by_cases y : sv (cr μ i) 0 (tb m3) < 0
    · refine fin (wr m3 1 i 2 (-1)) ?_ (fun r j q p1 p2 => rdx (by omega)) (fun _ => by rw [fdx (by omega), rd_s]) (fun w => by omega)
      unfold D_X4_followTale
      rw [hsc, bp_k, b5, bp_k, wid (x := sv (cr μ i) 0 (tb m3)) (by omega) (by omega), if_neg (by omega)]
      unfold B_X4_followTale_23
      show B_X4_followTale_28 (999999 + 1) i _ 0 0 _ = _
      rw [B_X4_followTale_28_s, F_X4_followTale_28, if_neg (by decide), rdx (by omega), rd_s, b6 2 i 2 (by omega) (by omega), a3 2 i 2 (by omega), ← cr_m (i := i) (r := 2) (k := 2) (by omega), wid (x := cr μ i 2 2) (by omega) (by omega), if_neg (by rw [show w32 0 = 0 by decide]; omega), if_pos (by decide)]
    · have hp : pMs (cr μ i) (PM (cr μ i) 0) 0 (cr μ i 2 0).toNat = 0 := Decidable.byContradiction fun w => by
        have := T_miss (by omega) b4 (by omega) (vs.vd hw hs) (by rw [s1]; exact w)
        exact y (by
          have e : sv (cr μ i) 0 (tb m3) = -1 := this
          omega)
      obtain ⟨m, g1, g2, g3, g4, g5, g6⟩ := follow_28 (i := i) (N := N) (ce := ce) h2 b4 (cr μ i 2 2).toNat FU 97 0 (sK (cr μ i) (LL (cr μ i) 0)) 0 0 (wr m3 1 i 2 0) (by omega) (FU_gt (by omega)) (by omega) (by omega) (by omega) (by omega) vs (by rw [s1]; exact hp) (by rw [ed]; omega) (Fb_g (Or.inl rfl) b3) (tb_g (Or.inl rfl)) rd_s
      refine fin m ?_ (fun r j q p1 p2 => (g6 r j q p1 p2).trans (rdx (by omega))) (fun w => absurd w y) (fun _ => ⟨by rw [fdx (by omega), g2, Nat.zero_add], fun q hq => by rw [fdx (by omega), ← g5 q hq, Nat.zero_add]⟩)
      unfold D_X4_followTale
      rw [hsc, bp_k, b5, bp_k, wid (x := sv (cr μ i) 0 (tb m3)) (by omega) (by omega), if_pos (by omega)]
      exact g1
