/-! PURE: the value of a cell out of later ones -/
def s0A (c : Co) (k s : Nat) : Nat := s + (if c 19 k = -1 then 0 else 1)
def mT (c : Co) (S : List Nat) (pm k h s : Nat) : Nat → Nat
  | 0 => pBt c pm k h
  | j + 1 => if s0A c k s + j < S.length then mT c S pm k h s j ||| 2 ^ (S.getD (s0A c k s + j) 0) else mT c S pm k h s j
def bsT (aim : Nat) (c : Co) (S L : List Nat) (pm : Nat) (T : Tb) (k h l s e : Nat) : Nat → Int
  | 0 => -1
  | j + 1 => if nK c h (h + (c 16 k).toNat) l < 0 ∨ nT c S k h s j < 0 then bsT aim c S L pm T k h l s e j else jn aim (bsT aim c S L pm T k h l s e j) (chg aim (T (h + (c 16 k).toNat) (nK c h (h + (c 16 k).toNat) l).toNat (c 14 k).toNat (nT c S k h s j).toNat (e ||| sa c L (h + (c 16 k).toNat) (c 14 k).toNat)) (mT c S pm k h s j))
def nP (aim : Nat) (c : Co) (S : List Nat) (k s : Nat) : Nat := if aim = 5 ∧ ¬ c 20 k = -1 then S.length + 1 - s0A c k s else 1
/-- the best onward by the link k -/
def bL (aim : Nat) (c : Co) (S L : List Nat) (pm : Nat) (T : Tb) (k h l s e : Nat) : Int := if bsT aim c S L pm T k h l s e (nP aim c S k s) < 0 then -1 else bsT aim c S L pm T k h l s e (nP aim c S k s) + wtA aim c k
def Bd (aim : Nat) : Int := if aim = 4 then 1000000000 else 900000000
def B1 (aim : Nat) : Int := if aim = 4 then 1000000000 else 900010000
/-- what is asked of a table at the hour g -/
def Tok (aim : Nat) (c : Co) (S L : List Nat) (T : Tb) (g : Nat) : Prop := ∀ l t s e, Vd c S L g l t s e → -1 ≤ T g l t s e ∧ T g l t s e ≤ Bd aim
theorem pBt_lt {c : Co} {pm k h : Nat} (hw : WF c) : pBt c pm k h < 256 := by
  have h1 := mb_lt (pbp c pm k h) (c 2 3).toNat
  have h2 := hw.2.2.2.2.2.2.2.2.1
  have h3 : 2 ^ (c 2 3).toNat ≤ 2 ^ 8 := Nat.pow_le_pow_right (by omega) (by omega)
  unfold pBt
  omega
theorem pMs_lt {c : Co} {pm h t : Nat} (hw : WF c) : pMs c pm h t < 256 := by
  have h1 := mb_lt (pmp c pm h t) (c 2 3).toNat
  have h2 := hw.2.2.2.2.2.2.2.2.1
  have h3 : 2 ^ (c 2 3).toNat ≤ 2 ^ 8 := Nat.pow_le_pow_right (by omega) (by omega)
  unfold pMs
  omega
theorem mT_lt {c : Co} {S L : List Nat} {pm k h s : Nat} (hw : WF c) (hs : Sk c S L pm) : ∀ j, mT c S pm k h s j < 256
  | 0 => pBt_lt hw
  | j + 1 => by
    have h1 := mT_lt hw hs (k := k) (h := h) (s := s) j
    have h2 := hw.2.2.2.2.2.2.2.2.1
    rw [mT]
    split
    · rename_i q
      have := hs.2.2.1 _ q
      exact or_lt8 h1 (by omega)
    · exact h1
theorem arr_Vd {c : Co} {S L : List Nat} {pm k h l t s e j : Nat} (hw : WF c) (hk : (k : Int) < c 0 2) (v : Vd c S L h l t s e) (h0 : ¬ (nK c h (h + (c 16 k).toNat) l < 0 ∨ nT c S k h s j < 0)) (hj : j = 0 ∨ ¬ c 20 k = -1) : Vd c S L (h + (c 16 k).toNat) (nK c h (h + (c 16 k).toNat) l).toNat (c 14 k).toNat (nT c S k h s j).toNat (e ||| sa c L (h + (c 16 k).toNat) (c 14 k).toNat) := by
  obtain ⟨-, ⟨k3, k4⟩, -, -, ⟨k7, k8⟩, -⟩ := hw.2.2.2.1 k hk
  obtain ⟨v1, v2, v3, v4⟩ := v
  exact ⟨nK_Vl hw v1 (by omega) (by omega), by omega, nT_le v3 (by omega) hj, Nat.or_lt_two_pow v4 (mb_lt _ _)⟩
theorem Bd_B1 (aim : Nat) : 0 ≤ Bd aim ∧ Bd aim + (if aim = 5 then 2303 else 0) ≤ B1 aim ∧ B1 aim ≤ 1000000000 ∧ (aim = 4 → B1 aim = 1000000000) ∧ (aim ≠ 4 → Bd aim + 2303 + 99 ≤ B1 aim) := by
  unfold Bd B1
  repeat' split
  all_goals omega
theorem bsT_rng {aim : Nat} {c : Co} {S L : List Nat} {pm : Nat} {T : Tb} {k h l t s e : Nat} (hw : WF c) (hs : Sk c S L pm) (hk : (k : Int) < c 0 2) (v : Vd c S L h l t s e) (hT : Tok aim c S L T (h + (c 16 k).toNat)) : ∀ j, (j ≤ 1 ∨ ¬ c 20 k = -1) → -1 ≤ bsT aim c S L pm T k h l s e j ∧ bsT aim c S L pm T k h l s e j ≤ Bd aim + (if aim = 5 then 2303 else 0)
  | 0, _ => by
    have := Bd_B1 aim
    rw [bsT]
    split <;> omega
  | j + 1, hj => by
    have hb := Bd_B1 aim
    have h1 := bsT_rng hw hs hk v hT j (by omega)
    rw [bsT]
    split
    · exact h1
    · rename_i q
      have hv := hT _ _ _ _ (arr_Vd (pm := pm) hw hk v q (by omega))
      have h2 := chg_rng (aim := aim) (m := mT c S pm k h s j) hv (mT_lt hw hs j) hb.1
      refine jn_rng h1 h2 ?_
      intro q4
      subst q4
      rfl
theorem valueByLink_X {μ : Mi} {i : Bool} {c : Co} {S L : List Nat} {pm aim : Nat} (P : Pr μ i c S L pm) (hA : rd μ 4 i 12 = (aim : Int)) (ha : aim ≤ 5) {k h l t s e : Nat} (hk : (k : Int) < c 0 2) (hh : h + (c 16 k).toNat ≤ 96) (v : Vd c S L h l t s e) (hT : Tok aim c S L (tb μ) (h + (c 16 k).toNat)) : D_X4_valueByLink i (k : Int) (h : Int) ((mk4 l t s e : Nat) : Int) μ = some (bL aim c S L pm (tb μ) k h l s e) := by
  have hc := P.1
  have hw := P.2.1
  have hs := P.2.2.1
  have hvs := v.vs hw hs
  have hlt := mk4_lt hvs
  have hnl := hw.2.1
  have hS6 := hs.1
  have hbb := Bd_B1 aim
  have hsz := hw.2.2.2.2.2.2.2.2.1
  obtain ⟨⟨k1, k2⟩, ⟨k3, k4⟩, k5, k6, ⟨k7, k8⟩, k9, k10, k11, k12⟩ := hw.2.2.2.1 k hk
  obtain ⟨g, hg⟩ : ∃ g : Nat, c 16 k = (g : Int) := ⟨(c 16 k).toNat, by omega⟩
  have hgg : (c 16 k).toNat = g := by omega
  have hkb : 0 ≤ (k : Int) ∧ (k : Int) < 16 := by omega
  have hs3 : s ≤ 6 := hvs.2.2.1
  have hs0 : s0A c k s ≤ 7 := by unfold s0A; split <;> omega
  -- the loop over what is passed
  have key : ∀ d n j : Nat, j + d = nP aim c S k s → d < n → (nP aim c S k s ≤ 1 ∨ ¬ c 20 k = -1) → B_X4_valueByLink_72 n i (k : Int) (h : Int) ((mk4 l t s e : Nat) : Int) ((mT c S pm k h s j : Nat) : Int) ((s0A c k s : Nat) : Int) (((s0A c k s : Nat) : Int) + (nP aim c S k s : Int) - 1) (bsT aim c S L pm (tb μ) k h l s e j) ((s0A c k s + j : Nat) : Int) μ = some (bL aim c S L pm (tb μ) k h l s e) := by
    have hnP : nP aim c S k s ≤ 8 := by unfold nP; split <;> omega
    intro d
    induction d with
    | zero =>
      intro n j hj hn hp
      obtain ⟨n, rfl⟩ : ∃ q, n = q + 1 := ⟨n - 1, by omega⟩
      have hr := bsT_rng hw hs hk v hT (pm := pm) j (by omega)
      have hje : j = nP aim c S k s := by omega
      rw [B_X4_valueByLink_72_s, F_X4_valueByLink_72, wid (x := ((s0A c k s : Nat) : Int) + (nP aim c S k s : Int) - 1) (by omega) (by omega), wid (x := ((s0A c k s + j : Nat) : Int)) (by omega) (by omega), if_pos (by omega), wid (x := bsT aim c S L pm (tb μ) k h l s e j) (by omega) (by omega), weightOf_X hc hA ha (by omega), bp_k, hje]
      unfold bL
      by_cases q : bsT aim c S L pm (tb μ) k h l s e (nP aim c S k s) < 0
      · rw [if_neg (by omega), if_pos q]
      · rw [if_pos (by omega), if_neg q]
    | succ d ih =>
      intro n j hj hn hp
      obtain ⟨n, rfl⟩ : ∃ q, n = q + 1 := ⟨n - 1, by omega⟩
      have hr := bsT_rng hw hs hk v hT (pm := pm) j (by omega)
      have hm := mT_lt hw hs (k := k) (h := h) (s := s) j
      have h133 : ∀ x : Int, x = bsT aim c S L pm (tb μ) k h l s e (j + 1) → B_X4_valueByLink_133 (B_X4_valueByLink_72 n) i (k : Int) (h : Int) ((mk4 l t s e : Nat) : Int) ((mT c S pm k h s j : Nat) : Int) ((s0A c k s : Nat) : Int) (((s0A c k s : Nat) : Int) + (nP aim c S k s : Int) - 1) x ((s0A c k s + j : Nat) : Int) μ = some (bL aim c S L pm (tb μ) k h l s e) := by
        intro x hx
        subst hx
        have h156 : ∀ m : Nat, m = mT c S pm k h s (j + 1) → B_X4_valueByLink_156 (B_X4_valueByLink_72 n) i (k : Int) (h : Int) ((mk4 l t s e : Nat) : Int) (m : Int) ((s0A c k s : Nat) : Int) (((s0A c k s : Nat) : Int) + (nP aim c S k s : Int) - 1) (bsT aim c S L pm (tb μ) k h l s e (j + 1)) ((s0A c k s + j : Nat) : Int) μ = some (bL aim c S L pm (tb μ) k h l s e) := by
          intro m hm2
          unfold B_X4_valueByLink_156
          rw [hm2, show ((s0A c k s + j : Nat) : Int) + 1 = ((s0A c k s + (j + 1) : Nat) : Int) by omega]
          exact ih n (j + 1) (by omega) (by omega) hp
        unfold B_X4_valueByLink_133
        rw [P.2.2.2.1, wid (x := ((S.length : Nat) : Int)) (by omega) (by omega), wid (x := ((s0A c k s + j : Nat) : Int)) (by omega) (by omega)]
        by_cases q : s0A c k s + j < S.length
        · have hq2 := hs.2.2.1 _ q
          rw [if_neg (by omega), if_pos (by omega), ixn _ (by omega), P.2.2.2.2.1 _ q, or_bit _ _ (by omega) (by omega)]
          exact h156 _ (by rw [mT, if_pos q])
        · rw [if_pos (by omega)]
          exact h156 _ (by rw [mT, if_neg q])
      rw [B_X4_valueByLink_72_s, F_X4_valueByLink_72, wid (x := ((s0A c k s : Nat) : Int) + (nP aim c S k s : Int) - 1) (by omega) (by omega), wid (x := ((s0A c k s + j : Nat) : Int)) (by omega) (by omega), if_neg (by omega), show ((s0A c k s + j : Nat) : Int) - ((s0A c k s : Nat) : Int) = (j : Int) by omega, afterLink_X P hk (by omega) hvs (by omega), bp_k, wid (x := (k : Int)) (by omega) (by omega), if_pos hkb, ixn k (by omega), ca hc (r := 16) (by omega), hgg, hg]
      by_cases q : nK c h (h + g) l < 0 ∨ nT c S k h s j < 0
      · rw [if_pos q, if_pos (by decide)]
        exact h133 _ (by rw [bsT, hgg, if_pos q])
      · have v' := arr_Vd (pm := pm) hw hk v (by rw [hgg]; exact q) (by omega : j = 0 ∨ ¬ c 20 k = -1)
        have hv2 := hT _ _ _ _ v'
        rw [hgg] at v' hv2
        obtain ⟨t1, t2, t3⟩ := tab_X (μ := μ) hw hs (by omega) v'
        have h2 := mk4_lt (v'.vs hw hs)
        have hch := chg_rng (aim := aim) (m := mT c S pm k h s j) hv2 (mT_lt hw hs j) hbb.1
        rw [if_neg q, wid (x := ((mk4 (nK c h (h + g) l).toNat (c 14 k).toNat (nT c S k h s j).toNat (e ||| sa c L (h + g) (c 14 k).toNat) : Nat) : Int)) (by omega) (by omega), if_neg (by omega), show (h : Int) + (g : Int) = ((h + g : Nat) : Int) by omega, t1, if_pos t2, t3]
        have etb : rd μ 32 false (pT (h + g) (nK c h (h + g) l).toNat (c 14 k).toNat (nT c S k h s j).toNat (e ||| sa c L (h + g) (c 14 k).toNat)) = tb μ (h + g) (nK c h (h + g) l).toNat (c 14 k).toNat (nT c S k h s j).toNat (e ||| sa c L (h + g) (c 14 k).toNat) := rfl
        have hB1 : Bd aim ≤ 1000000000 := by unfold Bd; split <;> omega
        rw [etb, charge_X hA ha ⟨hv2.1, by omega⟩ (by omega), join_X hA ha ⟨hr.1, by omega⟩ ⟨hch.1, by omega⟩]
        exact h133 _ (by rw [bsT, hgg, if_neg q])
  have h63 : ∀ m : Int, m = ((s0A c k s : Nat) : Int) + (nP aim c S k s : Int) - 1 → (nP aim c S k s ≤ 1 ∨ ¬ c 20 k = -1) → B_X4_valueByLink_63 i (k : Int) (h : Int) ((mk4 l t s e : Nat) : Int) ((pBt c pm k h : Nat) : Int) ((s0A c k s : Nat) : Int) m μ = some (bL aim c S L pm (tb μ) k h l s e) := by
    intro m hm hp
    have hnP : nP aim c S k s ≤ 8 := by unfold nP; split <;> omega
    subst hm
    exact key (nP aim c S k s) FU 0 (by omega) (FU_gt (by omega)) hp
  have h30 : ∀ x y : Int, y + x = ((s0A c k s : Nat) : Int) → B_X4_valueByLink_30 i (k : Int) (h : Int) ((mk4 l t s e : Nat) : Int) ((pBt c pm k h : Nat) : Int) x y μ = some (bL aim c S L pm (tb μ) k h l s e) := by
    intro x y hxy
    unfold B_X4_valueByLink_30 B_X4_valueByLink_61
    rw [hA, wid (x := (aim : Int)) (by omega) (by omega), wid (x := (k : Int)) (by omega) (by omega), if_pos hkb, ixn k (by omega), ca hc (r := 20) (by omega), wid (x := c 20 k) (by omega) (by omega), hxy, P.2.2.2.1]
    by_cases q : aim = 5
    · rw [if_neg (by omega)]
      by_cases q2 : c 20 k = -1
      · rw [if_pos q2]
        exact h63 _ (by unfold nP; rw [if_neg (fun z => z.2 q2)]; omega) (by unfold nP; rw [if_neg (fun z => z.2 q2)]; omega)
      · rw [if_neg q2]
        refine h63 _ ?_ (Or.inr q2)
        have hs03 : s0A c k s ≤ S.length + 1 := by
          have := v.2.2.1
          unfold s0A
          split <;> omega
        unfold nP
        rw [if_pos ⟨q, q2⟩]
        omega
    · rw [if_pos (by omega)]
      exact h63 _ (by unfold nP; rw [if_neg (fun z => q z.1)]; omega) (by unfold nP; rw [if_neg (fun z => q z.1)]; omega)
  unfold D_X4_valueByLink
  rw [papersBetween_X P k h hk (by omega), bp_k, wid (x := (k : Int)) (by omega) (by omega), if_pos hkb, ixn k (by omega), ca hc (r := 19) (by omega), wid (x := c 19 k) (by omega) (by omega), stampsOf_X hvs]
  by_cases q : c 19 k = -1
  · rw [if_neg (by omega)]
    exact h30 0 (s : Int) (by unfold s0A; rw [if_pos q]; omega)
  · rw [if_pos q]
    exact h30 1 (s : Int) (by unfold s0A; rw [if_neg q]; omega)
