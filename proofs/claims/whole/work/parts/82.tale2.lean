/-! PURE: the first move that keeps the value -/
theorem fm_some {c : Co} {T : Tb} {h k : Nat} : ∀ (n j : Nat) {x : Nat}, fm c T h k n j = some x → j ≤ x ∧ x < j + n ∧ vj 0 c (SL c 0) (LL c 0) (PM c 0) T h k x = Tm c T h k
  | 0, _, _, q => by cases q
  | n + 1, j, x, q => by
    rw [fm] at q
    split at q
    · rename_i z
      cases q
      exact ⟨by omega, by omega, z⟩
    · obtain ⟨a, b, d⟩ := fm_some n (j + 1) q
      exact ⟨by omega, by omega, d⟩
theorem fm_none {c : Co} {T : Tb} {h k : Nat} : ∀ (n j : Nat), fm c T h k n j = none → ∀ x, j ≤ x → x < j + n → ¬ vj 0 c (SL c 0) (LL c 0) (PM c 0) T h k x = Tm c T h k
  | 0, _, _ => fun x h1 h2 => by omega
  | n + 1, j, q => fun x h1 h2 => by
    rw [fm] at q
    split at q
    · cases q
    · rename_i z
      by_cases e : x = j
      · rw [e]; exact z
      · exact fm_none n (j + 1) q x (by omega) (by omega)
theorem jn_0 {a b : Int} (h1 : -1 ≤ a) (z : 0 ≤ jn 0 a b) : jn 0 a b = b ∨ (jn 0 a b = a ∧ 0 ≤ a) := by
  unfold jn at z ⊢
  rw [if_neg (by omega : ¬ (0 : Nat) = 4), if_neg (by omega : ¬ ((0 : Nat) = 1 ∨ (0 : Nat) = 3))] at z ⊢
  split at z
  · rename_i w
    rw [if_pos w]
    omega
  · rename_i w
    rw [if_neg w]
    omega
theorem fj_att {c : Co} {S L : List Nat} {pm : Nat} {T : Tb} {h k : Nat} (hw : WF c) : ∀ n : Nat, (n : Int) ≤ c 0 2 + 1 → 0 ≤ fj 0 c S L pm T h k n → ∃ j, j < n ∧ vj 0 c S L pm T h k j = fj 0 c S L pm T h k n
  | 0, _, z => by rw [fj] at z; omega
  | n + 1, hn, z => by
    have ih := fj_att (S := S) (L := L) (pm := pm) (T := T) (h := h) (k := k) hw n (by omega)
    have hp := (fj_pos (aim := 0) (S := S) (L := L) (pm := pm) (T := T) hw (h := h) (k := k) n (by omega)).1
    rw [fj] at z ⊢
    have hj : jn 0 (fj 0 c S L pm T h k n) (vj 0 c S L pm T h k n) = vj 0 c S L pm T h k n ∨ (jn 0 (fj 0 c S L pm T h k n) (vj 0 c S L pm T h k n) = fj 0 c S L pm T h k n ∧ 0 ≤ fj 0 c S L pm T h k n) := by
      exact jn_0 hp z
    rcases hj with e | ⟨e, e2⟩
    · exact ⟨n, by omega, e.symm⟩
    · obtain ⟨j, j1, j2⟩ := ih e2
      exact ⟨j, by omega, by rw [e]; exact j2⟩
/-- where it goes on there is a first move -/
theorem fm_ex {c : Co} {T : Tb} {h k : Nat} (hw : WF c) (h2 : WF2 c) (D : DB 0 c 0 T) (hh : (h : Int) < c 2 2) (v : VM c (SL c 0) (LL c 0) h k) (hp : pMs c (PM c 0) h (k / 140) = 0) (z : 0 ≤ Tm c T h k) : ∃ j g k', fm c T h k ((c 0 2).toNat + 1) 0 = some j ∧ (j : Int) ≤ c 0 2 ∧ mG c (SL c 0) (LL c 0) (PM c 0) h k j = some (g, k') ∧ 0 ≤ Tm c T g k' ∧ Tm c T h k = Tm c T g k' + wj 0 c j := by
  have hs := Sk_of hw h2 0
  have hnl := hw.2.1
  have hf := Tm_fold (by omega) hw hs D hh v hp
  rw [hf] at z
  obtain ⟨j, j1, j2⟩ := fj_att hw _ (by omega) z
  rw [← hf] at j2 z
  cases hfm : fm c T h k ((c 0 2).toNat + 1) 0 with
  | none => exact absurd j2 (fm_none _ _ hfm j (by omega) (by omega))
  | some x =>
    obtain ⟨x1, x2, x3⟩ := fm_some _ _ hfm
    have hx : (x : Int) ≤ c 0 2 := by omega
    obtain ⟨g, k', g1, g2⟩ := (vj_nn (aim := 0) hw hx).mp (by rw [x3]; exact z)
    refine ⟨x, g, k', rfl, hx, g1, g2, ?_⟩
    rw [← x3]
    unfold vj
    rw [g1]
    show (if Tm c T g k' < 0 then -1 else Tm c T g k' + wj 0 c x) = _
    rw [if_neg (by omega)]
def fmI (o : Option Nat) : Int := match o with
  | none => -1
  | some j => (j : Int) - 1
theorem first_46 {μ : Mi} {i : Bool} {c : Co} {T : Tb} (P : Pr μ i c (SL c 0) (LL c 0) (PM c 0)) (hA : rd μ 4 i 12 = 0) (hT : tb μ = T) (D : DB 0 c 0 T) {h k : Nat} (hh : (h : Int) < c 2 2) (v : VM c (SL c 0) (LL c 0) h k) (z : 0 ≤ Tm c T h k) (zu : Tm c T h k ≤ 900000000) : ∀ (d n q : Nat), q + d = (c 0 2).toNat → d < n → B_X4_firstMove_46 n i (h : Int) ((mk4 (cp c (k % 5)) (k / 140) (k / 20 % 7) (k / 5 % 4) : Nat) : Int) (Tm c T h k) (q : Int) μ = some (fmI (fm c T h k d (q + 1))) := by
  have hw := P.2.1
  have hs := P.2.2.1
  have hnl := hw.2.1
  have hen := hw.2.2.2.2.2.2.2.1
  have vd := v.vd hw hs
  have vs := vd.vs hw hs
  intro d
  induction d with
  | zero =>
    intro n q hq hn
    obtain ⟨n, rfl⟩ : ∃ x, n = x + 1 := ⟨n - 1, by omega⟩
    rw [B_X4_firstMove_46_s, F_X4_firstMove_46, ca P.1 (r := 0) (k := 2) (by omega), wid (x := c 0 2) (by omega) (by omega), wid (x := (q : Int)) (by omega) (by omega), if_pos (by omega)]
    rfl
  | succ d ih =>
    intro n q hq hn
    obtain ⟨n, rfl⟩ : ∃ x, n = x + 1 := ⟨n - 1, by omega⟩
    have hql : (q : Int) < c 0 2 := by omega
    have e84 : B_X4_firstMove_84 (B_X4_firstMove_46 n) i (h : Int) ((mk4 (cp c (k % 5)) (k / 140) (k / 20 % 7) (k / 5 % 4) : Nat) : Int) (Tm c T h k) (q : Int) μ = some (fmI (fm c T h k d (q + 1 + 1))) := by
      unfold B_X4_firstMove_84
      rw [show (q : Int) + 1 = ((q + 1 : Nat) : Int) by omega]
      exact ih n (q + 1) (by omega) (by omega)
    obtain ⟨r, r1, r2⟩ := canTake_X P hql (h := h) (by omega) vs
    have hvj := vj_link (by omega : 0 ≤ 4) hw hs D hh v hql
    rw [B_X4_firstMove_46_s, F_X4_firstMove_46, ca P.1 (r := 0) (k := 2) (by omega), wid (x := c 0 2) (by omega) (by omega), wid (x := (q : Int)) (by omega) (by omega), if_neg (by omega), r1, bp_k, fm]
    rcases r2 with ⟨rfl, r2⟩ | ⟨rfl, r2⟩
    · rw [if_pos r2] at hvj
      have hch := can_h (t := k / 140) hw hql r2.1
      have hTok : Tok 0 c (SL c 0) (LL c 0) (tb μ) (h + (c 16 q).toNat) := fun l t s e hv => by
        have := (D (h + (c 16 q).toNat) l t s e (by omega) hv).2
        rw [hT]
        exact ⟨this.1, Int.le_trans this.2 bdT_Bd⟩
      have hb := bL_rng (pm := PM c 0) (by omega : 0 ≤ 5) hw hs hql vd hTok
      rw [hT, ← hvj] at hb
      have hB := (Bd_B1 0).2.2.1
      rw [if_neg (by decide), valueByLink_X (aim := 0) P hA (by omega) hql (by omega) vd hTok, bp_k, hT, ← hvj, wid (x := vj 0 c (SL c 0) (LL c 0) (PM c 0) T h k (q + 1)) (by omega) (by omega), wid (x := Tm c T h k) (by omega) (by omega), e84]
      by_cases y : vj 0 c (SL c 0) (LL c 0) (PM c 0) T h k (q + 1) = Tm c T h k
      · rw [if_neg (fun w => w y), if_pos y]
        show some (q : Int) = some (((q + 1 : Nat) : Int) - 1)
        congr 1
        omega
      · rw [if_pos y, if_neg y]
    · rw [if_neg r2] at hvj
      rw [if_pos (by decide), e84, if_neg (by omega)]
theorem firstMove_X {μ : Mi} {i : Bool} {c : Co} {T : Tb} (P : Pr μ i c (SL c 0) (LL c 0) (PM c 0)) (hA : rd μ 4 i 12 = 0) (hT : tb μ = T) (D : DB 0 c 0 T) {h k : Nat} (hh : (h : Int) < c 2 2) (v : VM c (SL c 0) (LL c 0) h k) (z : 0 ≤ Tm c T h k) : D_X4_firstMove i (h : Int) ((mk4 (cp c (k % 5)) (k / 140) (k / 20 % 7) (k / 5 % 4) : Nat) : Int) μ = some (fmI (fm c T h k ((c 0 2).toNat + 1) 0)) := by
  have hw := P.2.1
  have hs := P.2.2.1
  have hnl := hw.2.1
  have hen := hw.2.2.2.2.2.2.2.1
  have vd := v.vd hw hs
  have vs := vd.vs hw hs
  obtain ⟨a1, a2, a3⟩ := tab_X (μ := μ) hw hs (by omega) vd
  have eT : rd μ 32 false (pT h (cp c (k % 5)) (k / 140) (k / 20 % 7) (k / 5 % 4)) = Tm c T h k := by
    rw [← hT]; rfl
  have zu : Tm c T h k ≤ 900000000 := by
    have := (D h _ _ _ _ (by omega) vd).2.2
    have h2 := @bdT_Bd 0 h (k / 20 % 7)
    unfold Bd at h2
    rw [if_neg (by omega)] at h2
    unfold Tm
    omega
  have hvj := vj_stay (by omega : 0 ≤ 4) hw hs D hh v
  have e43 : B_X4_firstMove_43 i (h : Int) ((mk4 (cp c (k % 5)) (k / 140) (k / 20 % 7) (k / 5 % 4) : Nat) : Int) (Tm c T h k) μ = some (fmI (fm c T h k (c 0 2).toNat (0 + 1))) := by
    unfold B_X4_firstMove_43
    exact first_46 P hA hT D hh v z zu (c 0 2).toNat FU 0 (by omega) (FU_gt (by omega))
  unfold D_X4_firstMove
  rw [a1, if_pos a2, a3, eT, afterStay_X P (by omega) vs, bp_k, fm]
  by_cases q1 : nS c h (cp c (k % 5)) < 0
  · rw [if_pos q1] at hvj ⊢
    rw [if_pos (by decide), e43, if_neg (by omega)]
  · have vd' := nS_Vd (pm := PM c 0) hw vd (by omega)
    have h4 := mk4_lt (vd'.vs hw hs)
    obtain ⟨b1, b2, b3⟩ := tab_X (μ := μ) hw hs (h := h + 1) (by omega) vd'
    have hb := (D (h + 1) _ _ _ _ (by omega) vd').2
    have h2 := @bdT_Bd 0 (h + 1) (k / 20 % 7)
    unfold Bd at h2
    rw [if_neg (by omega)] at h2
    rw [if_neg q1] at hvj ⊢
    rw [wid (x := ((mk4 (nS c h (cp c (k % 5))).toNat (k / 140) (k / 20 % 7) (k / 5 % 4 ||| sa c (LL c 0) (h + 1) (k / 140)) : Nat) : Int)) (by omega) (by omega), if_neg (by omega), show (h : Int) + 1 = ((h + 1 : Nat) : Int) by omega, b1, if_pos b2, b3, show rd μ 32 false (pT (h + 1) (nS c h (cp c (k % 5))).toNat (k / 140) (k / 20 % 7) (k / 5 % 4 ||| sa c (LL c 0) (h + 1) (k / 140))) = T (h + 1) (nS c h (cp c (k % 5))).toNat (k / 140) (k / 20 % 7) (k / 5 % 4 ||| sa c (LL c 0) (h + 1) (k / 140)) by rw [← hT]; rfl, wid (x := T (h + 1) (nS c h (cp c (k % 5))).toNat (k / 140) (k / 20 % 7) (k / 5 % 4 ||| sa c (LL c 0) (h + 1) (k / 140))) (by omega) (by omega), wid (x := Tm c T h k) (by omega) (by omega), hvj, e43]
    by_cases y : vj 0 c (SL c 0) (LL c 0) (PM c 0) T h k 0 = Tm c T h k
    · rw [if_neg (fun w => w y), if_pos y]
      rfl
    · rw [if_pos y, if_neg y]
