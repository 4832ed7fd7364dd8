/-! PURE: the reference's moves as one function, and the class's values as folds over them -/
/-- a state k of the reference that can be at h -/
def VM (c : Co) (S L : List Nat) (h k : Nat) : Prop := k < 1120 ∧ ((k / 140 : Nat) : Int) < c 0 1 ∧ k / 20 % 7 ≤ S.length ∧ k / 5 % 4 < 2 ^ L.length ∧ k % 5 ≤ (if h % 24 < 8 then min 4 (h % 24) else 0)
theorem ms_parts {t s e l : Nat} (hs : s ≤ 6) (he : e < 4) (hl : l ≤ 4) : ms t s e l / 140 = t ∧ ms t s e l / 20 % 7 = s ∧ ms t s e l / 5 % 4 = e ∧ ms t s e l % 5 = l := by
  unfold ms
  refine ⟨?_, ?_, ?_, ?_⟩ <;> omega
theorem ms_of (k : Nat) : ms (k / 140) (k / 20 % 7) (k / 5 % 4) (k % 5) = k := by
  unfold ms
  omega
/-- move 0: he stays; move k + 1: he takes the link k. Where he is then, and in which state -/
def mG (c : Co) (S L : List Nat) (pm h k : Nat) : Nat → Option (Nat × Nat)
  | 0 => if nS c h (cp c (k % 5)) < 0 ∨ ¬ pMs c pm (h + 1) (k / 140) = 0 then none else some (h + 1, ms (k / 140) (k / 20 % 7) (k / 5 % 4 ||| sa c L (h + 1) (k / 140)) (if h % 24 < 7 then min 4 (k % 5 + 1) else 0))
  | j + 1 => if GL c S L pm j h (cp c (k % 5)) (k / 140) (k / 20 % 7) then some (h + (c 16 j).toNat, ms (c 14 j).toNat (nT c S j h (k / 20 % 7) 0).toNat (k / 5 % 4 ||| sa c L (h + (c 16 j).toNat) (c 14 j).toNat) (if smN h (h + (c 16 j).toNat) then k % 5 else 0)) else none
theorem pow_L {L : List Nat} (h : L.length ≤ 2) : 2 ^ L.length ≤ 4 := Nat.pow_le_pow_right (n := 2) (by omega) h
theorem mG_ok {c : Co} {S L : List Nat} {pm h k j g k' : Nat} (hw : WF c) (hs : Sk c S L pm) (hh : (h : Int) < c 2 2) (v : VM c S L h k) (hj : (j : Int) ≤ c 0 2) (q : mG c S L pm h k j = some (g, k')) : h < g ∧ (g : Int) ≤ c 2 2 ∧ VM c S L g k' ∧ pMs c pm g (k' / 140) = 0 := by
  obtain ⟨v0, v1, v2, v3, v4⟩ := v
  have hS6 := hs.1
  have hL2 := pow_L hs.2.1
  have htw := hw.1
  have hslp := hw.2.2.2.2.2.2.1
  have hl4 : k % 5 ≤ 4 := by omega
  cases j with
  | zero =>
    rw [mG] at q
    split at q
    · cases q
    · rename_i z
      cases q
      have he : k / 5 % 4 ||| sa c L (h + 1) (k / 140) < 2 ^ L.length := Nat.or_lt_two_pow v3 (mb_lt _ _)
      have hl : (if h % 24 < 7 then min 4 (k % 5 + 1) else 0) ≤ 4 := by split <;> omega
      obtain ⟨p1, p2, p3, p4⟩ := ms_parts (t := k / 140) (s := k / 20 % 7) (e := k / 5 % 4 ||| sa c L (h + 1) (k / 140)) (l := if h % 24 < 7 then min 4 (k % 5 + 1) else 0) (by omega) (by omega) hl
      refine ⟨by omega, by omega, ⟨ms_lt (by omega) (by omega) (by omega) hl, by rw [p1]; exact v1, by rw [p2]; exact v2, by rw [p3]; exact he, ?_⟩, ?_⟩
      · rw [p4]
        by_cases q7 : h % 24 < 7
        · have e2 : (h + 1) % 24 = h % 24 + 1 := by omega
          rw [if_pos q7, e2, if_pos (by omega)]
          rw [if_pos (by omega)] at v4
          omega
        · rw [if_neg q7]; exact Nat.zero_le _
      · rw [p1]
        exact Decidable.byContradiction fun w => z (Or.inr w)
  | succ j =>
    rw [mG] at q
    split at q
    · rename_i z
      cases q
      obtain ⟨z1, z2, z3, z4, z5, z6⟩ := z
      have hk : (j : Int) < c 0 2 := by omega
      have hc := can_h (t := k / 140) hw hk z1
      have hen := hw.2.2.2.2.2.2.2.1
      obtain ⟨-, ⟨k3, k4⟩, -⟩ := hw.2.2.2.1 j hk
      have he : k / 5 % 4 ||| sa c L (h + (c 16 j).toNat) (c 14 j).toNat < 2 ^ L.length := Nat.or_lt_two_pow v3 (mb_lt _ _)
      have hn := nT_le (c := c) (k := j) (h := h) v2 (by omega : 0 ≤ nT c S j h (k / 20 % 7) 0) (Or.inl rfl)
      have hl : (if smN h (h + (c 16 j).toNat) then k % 5 else 0) ≤ 4 := by split <;> omega
      obtain ⟨p1, p2, p3, p4⟩ := ms_parts (t := (c 14 j).toNat) (s := (nT c S j h (k / 20 % 7) 0).toNat) (e := k / 5 % 4 ||| sa c L (h + (c 16 j).toNat) (c 14 j).toNat) (l := if smN h (h + (c 16 j).toNat) then k % 5 else 0) (by omega) (by omega) hl
      refine ⟨hc.2, by omega, ⟨ms_lt (by omega) (by omega) (by omega) hl, by rw [p1]; omega, by rw [p2]; exact hn, by rw [p3]; exact he, ?_⟩, by rw [p1]; exact z6⟩
      rw [p4]
      by_cases q7 : smN h (h + (c 16 j).toNat)
      · rw [if_pos q7]
        rw [if_pos q7.1] at v4
        have e2 : (h + (c 16 j).toNat) % 24 = h + (c 16 j).toNat - (h - h % 24) := by
          have := q7.2
          omega
        rw [e2, if_pos (by have := q7.2; omega)]
        omega
      · rw [if_neg q7]; exact Nat.zero_le _
    · cases q
/-- goes, by mG -/
theorem goes_G {μ : Mi} {i : Bool} {c : Co} {S L : List Nat} {pm : Nat} (P : Pm μ i c S L pm) {h k j : Nat} (hh : (h : Int) < c 2 2) (v : VM c S L h k) (hj : (j : Int) ≤ c 0 2) : ∃ r m, D_X7_goes (h : Int) (k : Int) ((j : Int) - 1) μ = some (r, m) ∧ (∀ r i q, ¬ (r = 7 ∧ q = 44) → rd m r i q = rd μ r i q) ∧ (mG c S L pm h k j = none → r = -1) ∧ ∀ g k', mG c S L pm h k j = some (g, k') → r = (k' : Int) ∧ rd m 7 false 44 = (g : Int) := by
  have hw := P.2.1
  have hs := P.2.2.1
  obtain ⟨v0, v1, v2, v3, v4⟩ := v
  have hL2 := pow_L hs.2.1
  cases j with
  | zero =>
    have := goS_M P (h := h) (t := k / 140) (s := k / 20 % 7) (e := k / 5 % 4) (l := k % 5) hh v1 v2 (by omega) v4
    rw [ms_of] at this
    refine ⟨_, _, this, fun r i q hne => rdx hne, fun q => ?_, fun g k' q => ?_⟩
    · rw [mG] at q
      split at q
      · rename_i z; rw [if_pos z]
      · cases q
    · rw [mG] at q
      split at q
      · cases q
      · rename_i z
        cases q
        rw [if_neg z]
        exact ⟨rfl, rd_s⟩
  | succ j =>
    obtain ⟨m, h1, h2, h3⟩ := goL_M P (k := j) (h := h) (t := k / 140) (s := k / 20 % 7) (e := k / 5 % 4) (l := k % 5) rfl rfl (by omega) hh v1 v2 (by omega) (by omega)
    rw [ms_of] at h1
    rw [show ((j + 1 : Nat) : Int) - 1 = (j : Int) by omega]
    refine ⟨_, m, h1, fun r i q hne => ?_, fun q => ?_, fun g k' q => ?_⟩
    · rcases h2 with h2 | h2
      · rw [h2]
      · rw [h2]; exact rdx hne
    · rw [mG] at q
      split at q
      · cases q
      · rename_i z; rw [if_neg z]
    · rw [mG] at q
      split at q
      · rename_i z
        cases q
        rw [if_pos z]
        refine ⟨rfl, ?_⟩
        rw [h3 z]
        exact rd_s
      · cases q
/-- the class's value of a state of the reference -/
def Tm (c : Co) (T : Tb) (h k : Nat) : Int := T h (cp c (k % 5)) (k / 140) (k / 20 % 7) (k / 5 % 4)
theorem VM.vd {c : Co} {S L : List Nat} {pm h k : Nat} (hw : WF c) (hs : Sk c S L pm) (v : VM c S L h k) : Vd c S L h (cp c (k % 5)) (k / 140) (k / 20 % 7) (k / 5 % 4) := by
  have hslp := hw.2.2.2.2.2.2.1
  obtain ⟨v0, v1, v2, v3, v4⟩ := v
  refine ⟨?_, v1, v2, v3⟩
  unfold cp mS
  split at v4
  · rename_i q; rw [if_pos q]; omega
  · rename_i q; rw [if_neg q]; omega
/-- what a move costs -/
def wj (aim : Nat) (c : Co) : Nat → Int
  | 0 => 0
  | n + 1 => wtA aim c n
/-- what the move j brings -/
def vj (aim : Nat) (c : Co) (S L : List Nat) (pm : Nat) (T : Tb) (h k j : Nat) : Int := match mG c S L pm h k j with
  | none => -1
  | some q => if Tm c T q.1 q.2 < 0 then -1 else Tm c T q.1 q.2 + wj aim c j
def fj (aim : Nat) (c : Co) (S L : List Nat) (pm : Nat) (T : Tb) (h k : Nat) : Nat → Int
  | 0 => -1
  | j + 1 => jn aim (fj aim c S L pm T h k j) (vj aim c S L pm T h k j)
theorem jn_m1 {aim : Nat} {x : Int} (h : -1 ≤ x) : jn aim (-1) x = x := by
  unfold jn
  rw [if_pos (Or.inl (by decide))]
  omega
theorem jn_m2 {aim : Nat} {x : Int} (h : -1 ≤ x) : jn aim x (-1) = x := by
  unfold jn
  rw [if_pos (Or.inr (by decide))]
  omega
/-- where a paper is missed, nothing goes on -/
theorem T_miss {aim : Nat} {c : Co} {S L : List Nat} {pm : Nat} {T : Tb} (ha : aim ≤ 4) (D : DP aim c S L pm T) {h l t s e : Nat} (hh : (h : Int) ≤ c 2 2) (v : Vd c S L h l t s e) (q : ¬ pMs c pm h t = 0) : T h l t s e = -1 := by
  obtain ⟨d1, d2, d3⟩ := D h l t s e hh v
  rw [d1] at d2 ⊢
  unfold rh at d2 ⊢
  rw [if_neg (by omega)] at d2 ⊢
  unfold chg at d2 ⊢
  by_cases z : fL aim c S L pm T h l t s e (c 0 2).toNat < 0
  · rw [if_pos (Or.inl z)] at d2 ⊢
    omega
  · rw [if_neg (by intro w; rcases w with w | w; exact z w; exact q w), if_neg (by omega)]
theorem Tm_fold {aim : Nat} {c : Co} {S L : List Nat} {pm : Nat} {T : Tb} (ha : aim ≤ 4) (hw : WF c) (hs : Sk c S L pm) (D : DP aim c S L pm T) {h k : Nat} (hh : (h : Int) < c 2 2) (v : VM c S L h k) (hp : pMs c pm h (k / 140) = 0) : Tm c T h k = fj aim c S L pm T h k ((c 0 2).toNat + 1) := by
  have vd := v.vd hw hs
  have hnl := hw.2.1
  have hslp := hw.2.2.2.2.2.2.1
  have hen := hw.2.2.2.2.2.2.2.1
  obtain ⟨v0, v1, v2, v3, v4⟩ := v
  have hL2 := pow_L hs.2.1
  have hS6 := hs.1
  have htw := hw.1
  have hT : ∀ g : Nat, h < g → (g : Int) ≤ c 2 2 → Tok aim c S L T g := fun g h1 h2 l t s e hv => by
    have := (D g l t s e h2 hv).2
    exact ⟨this.1, Int.le_trans this.2 bdT_Bd⟩
  have hfr := fL_rng (pm := pm) (by omega) hw hs vd (by omega) hT
  -- the fold of the class
  have key : ∀ n : Nat, (n : Int) ≤ c 0 2 → fL aim c S L pm T h (cp c (k % 5)) (k / 140) (k / 20 % 7) (k / 5 % 4) n = fj aim c S L pm T h k (n + 1) := by
    intro n
    induction n with
    | zero =>
      intro _
      have h0 := hfr 0 (by omega)
      rw [fj, fj, fL] at *
      rw [jn_m1]
      · unfold v0A vj
        rw [if_neg (by omega), mG]
        by_cases q1 : nS c h (cp c (k % 5)) < 0
        · rw [if_pos q1, if_pos (Or.inl q1)]
        · have vd' := nS_Vd (pm := pm) hw vd (by omega)
          rw [if_neg q1]
          by_cases q2 : pMs c pm (h + 1) (k / 140) = 0
          · rw [if_neg (show ¬ (nS c h (cp c (k % 5)) < 0 ∨ ¬ pMs c pm (h + 1) (k / 140) = 0) from fun z => z.elim q1 (fun z => z q2))]
            have hl : (if h % 24 < 7 then min 4 (k % 5 + 1) else 0) ≤ 4 := by split <;> omega
            have he : k / 5 % 4 ||| sa c L (h + 1) (k / 140) < 4 := or_lt4 (by omega) (sa_lt hs)
            obtain ⟨p1, p2, p3, p4⟩ := ms_parts (t := k / 140) (s := k / 20 % 7) (e := k / 5 % 4 ||| sa c L (h + 1) (k / 140)) (l := if h % 24 < 7 then min 4 (k % 5 + 1) else 0) (by omega) he hl
            have ecp : cp c (if h % 24 < 7 then min 4 (k % 5 + 1) else 0) = (nS c h (cp c (k % 5))).toNat := by
              unfold cp nS at *
              split at v4
              · rename_i z8
                rw [if_pos z8] at q1 ⊢
                by_cases q7 : h % 24 = 7
                · rw [if_pos q7] at q1 ⊢
                  rw [if_neg (by omega)]
                  split at q1
                  · rename_i w; rw [if_pos w]; omega
                  · omega
                · rw [if_neg q7] at q1 ⊢
                  rw [if_pos (by omega)]
                  omega
              · rename_i z8
                rw [if_neg z8] at q1 ⊢
                rw [if_neg (by omega)]
                omega
            have eT : Tm c T (h + 1) (ms (k / 140) (k / 20 % 7) (k / 5 % 4 ||| sa c L (h + 1) (k / 140)) (if h % 24 < 7 then min 4 (k % 5 + 1) else 0)) = T (h + 1) (nS c h (cp c (k % 5))).toNat (k / 140) (k / 20 % 7) (k / 5 % 4 ||| sa c L (h + 1) (k / 140)) := by
              unfold Tm
              rw [p1, p2, p3, p4, ecp]
            have hb := (D (h + 1) _ _ _ _ (by omega) vd').2
            have hw0 : wj aim c 0 = 0 := rfl
            simp only [eT, hw0]
            split
            · omega
            · omega
          · rw [if_pos (Or.inr q2)]
            exact T_miss ha D (by omega) vd' q2
      · have hw0 : wj aim c 0 = 0 := rfl
        unfold vj
        rw [hw0]
        split
        · omega
        · split <;> omega
    | succ n ih =>
      intro hn
      have ih' := ih (by omega)
      have hk : (n : Int) < c 0 2 := by omega
      have hfn := hfr n (by omega)
      rw [fj, ← ih', fL]
      have evj : vj aim c S L pm T h k (n + 1) = if lvp c h n = true ∧ c 13 n = ((k / 140 : Nat) : Int) then bL aim c S L pm T n h (cp c (k % 5)) (k / 20 % 7) (k / 5 % 4) else -1 := by
        unfold vj
        rw [mG]
        have hnP : nP aim c S n (k / 20 % 7) = 1 := by unfold nP; rw [if_neg (by omega)]
        have ebs : bsT aim c S L pm T n h (cp c (k % 5)) (k / 20 % 7) (k / 5 % 4) 1 = if nK c h (h + (c 16 n).toNat) (cp c (k % 5)) < 0 ∨ nT c S n h (k / 20 % 7) 0 < 0 then -1 else jn aim (-1) (chg aim (T (h + (c 16 n).toNat) (nK c h (h + (c 16 n).toNat) (cp c (k % 5))).toNat (c 14 n).toNat (nT c S n h (k / 20 % 7) 0).toNat (k / 5 % 4 ||| sa c L (h + (c 16 n).toNat) (c 14 n).toNat)) (pBt c pm n h)) := rfl
        by_cases q1 : lvp c h n = true ∧ c 13 n = ((k / 140 : Nat) : Int)
        · rw [if_pos q1]
          have hc := can_h (t := k / 140) hw hk q1.1
          unfold bL
          rw [hnP, ebs]
          by_cases q2 : nK c h (h + (c 16 n).toNat) (cp c (k % 5)) < 0 ∨ nT c S n h (k / 20 % 7) 0 < 0
          · have hng : ¬ GL c S L pm n h (cp c (k % 5)) (k / 140) (k / 20 % 7) := fun z => q2.elim z.2.2.2.1 z.2.2.2.2.1
            simp only [if_neg hng]
            rw [if_pos q2, if_pos (by decide)]
          · have vd' := arr_Vd (pm := pm) hw hk vd q2 (Or.inl rfl)
            have hb := (D (h + (c 16 n).toNat) _ _ _ _ (by omega) vd').2
            obtain ⟨-, ⟨k3, k4⟩, -, -, -, k9, -⟩ := hw.2.2.2.1 n hk
            have hwt : 0 ≤ wtA aim c n := by unfold wtA; repeat' split <;> omega
            rw [if_neg q2]
            by_cases q3 : pBt c pm n h = 0
            · have ech : ∀ x : Int, chg aim x (pBt c pm n h) = x := fun x => by unfold chg; rw [if_pos (Or.inr q3)]
              rw [ech, jn_m1 hb.1]
              by_cases q4 : pMs c pm (h + (c 16 n).toNat) (c 14 n).toNat = 0
              · rw [if_pos (⟨q1.1, q1.2, q3, fun z => q2 (Or.inl z), fun z => q2 (Or.inr z), q4⟩ : GL c S L pm n h (cp c (k % 5)) (k / 140) (k / 20 % 7))]
                have hl : (if smN h (h + (c 16 n).toNat) then k % 5 else 0) ≤ 4 := by split <;> omega
                have he : k / 5 % 4 ||| sa c L (h + (c 16 n).toNat) (c 14 n).toNat < 4 := or_lt4 (by omega) (sa_lt hs)
                have hn6 := nT_le (c := c) (k := n) (h := h) v2 (by omega : 0 ≤ nT c S n h (k / 20 % 7) 0) (Or.inl rfl)
                obtain ⟨p1, p2, p3, p4⟩ := ms_parts (t := (c 14 n).toNat) (s := (nT c S n h (k / 20 % 7) 0).toNat) (e := k / 5 % 4 ||| sa c L (h + (c 16 n).toNat) (c 14 n).toNat) (l := if smN h (h + (c 16 n).toNat) then k % 5 else 0) (by omega) he hl
                have ecp : cp c (if smN h (h + (c 16 n).toNat) then k % 5 else 0) = (nK c h (h + (c 16 n).toNat) (cp c (k % 5))).toNat := by
                  have q2' := q2
                  unfold nK at q2' ⊢
                  by_cases q5 : smN h (h + (c 16 n).toNat)
                  · rw [if_pos q5, if_pos q5]; rfl
                  · rw [if_neg q5, if_neg q5]
                    rw [if_neg q5] at q2'
                    split at q2'
                    · exact absurd (Or.inl (by decide)) q2'
                    · rename_i w; rw [if_neg w]; unfold cp; omega
                have eT : Tm c T (h + (c 16 n).toNat) (ms (c 14 n).toNat (nT c S n h (k / 20 % 7) 0).toNat (k / 5 % 4 ||| sa c L (h + (c 16 n).toNat) (c 14 n).toNat) (if smN h (h + (c 16 n).toNat) then k % 5 else 0)) = T (h + (c 16 n).toNat) (nK c h (h + (c 16 n).toNat) (cp c (k % 5))).toNat (c 14 n).toNat (nT c S n h (k / 20 % 7) 0).toNat (k / 5 % 4 ||| sa c L (h + (c 16 n).toNat) (c 14 n).toNat) := by
                  unfold Tm
                  rw [p1, p2, p3, p4, ecp]
                have hw1 : wj aim c (n + 1) = wtA aim c n := rfl
                simp only [eT, hw1]
              · have hng : ¬ GL c S L pm n h (cp c (k % 5)) (k / 140) (k / 20 % 7) := fun z => q4 z.2.2.2.2.2
                simp only [if_neg hng]
                rw [T_miss ha D (by omega) vd' q4, if_pos (by decide)]
            · have ech : ∀ x : Int, -1 ≤ x → chg aim x (pBt c pm n h) = -1 := fun x hx => by
                unfold chg
                by_cases z : x < 0
                · rw [if_pos (Or.inl z)]; omega
                · rw [if_neg (fun w => w.elim z q3), if_neg (by omega)]
              have hng : ¬ GL c S L pm n h (cp c (k % 5)) (k / 140) (k / 20 % 7) := fun z => q3 z.2.2.1
              simp only [if_neg hng]
              rw [ech _ hb.1, jn_m1 (by omega), if_pos (by decide)]
        · have hng : ¬ GL c S L pm n h (cp c (k % 5)) (k / 140) (k / 20 % 7) := fun z => q1 ⟨z.1, z.2.1⟩
          simp only [if_neg hng]
          rw [if_neg q1]
      rw [evj]
      by_cases q1 : lvp c h n = true ∧ c 13 n = ((k / 140 : Nat) : Int)
      · rw [if_pos q1, if_pos q1]
      · rw [if_neg q1, if_neg q1, jn_m2 hfn.1]
  have d1 := (D h (cp c (k % 5)) (k / 140) (k / 20 % 7) (k / 5 % 4) (by omega) vd).1
  unfold Tm
  rw [d1]
  unfold rh
  rw [if_neg (by omega), hp]
  unfold chg
  rw [if_pos (Or.inr rfl)]
  exact key (c 0 2).toNat (by omega)
