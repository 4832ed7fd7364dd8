/-! PURE: the reference's least and most -/
theorem wj_le {aim : Nat} {c : Co} (hw : WF c) {j : Nat} (hj : (j : Int) ≤ c 0 2) : wj aim c j ≤ 99 := by
  cases j with
  | zero => show (0 : Int) ≤ 99; omega
  | succ j =>
    obtain ⟨-, -, -, -, -, k9, -⟩ := hw.2.2.2.1 j (by omega)
    show wtA aim c j ≤ 99
    unfold wtA
    repeat' split
    all_goals omega
theorem vj_nn {aim : Nat} {c : Co} {S L : List Nat} {pm : Nat} {T : Tb} (hw : WF c) {h k j : Nat} (hj : (j : Int) ≤ c 0 2) : 0 ≤ vj aim c S L pm T h k j ↔ ∃ g k', mG c S L pm h k j = some (g, k') ∧ 0 ≤ Tm c T g k' := by
  have hwj := wj_pos (aim := aim) hw hj
  unfold vj
  cases hG : mG c S L pm h k j with
  | none =>
    simp only
    exact ⟨fun z => by omega, fun ⟨g, k', z, _⟩ => by cases z⟩
  | some q =>
    obtain ⟨g, k'⟩ := q
    simp only
    constructor
    · intro z
      refine ⟨g, k', rfl, ?_⟩
      split at z <;> omega
    · rintro ⟨g2, k2, z, y⟩
      cases z
      rw [if_neg (by omega)]
      omega
/-- whether it goes on is one and the same for all aims -/
theorem Tm_sgn {a b : Nat} {c : Co} {S L : List Nat} {pm : Nat} {T U : Tb} (ha : a ≤ 4) (hb : b ≤ 4) (hw : WF c) (hs : Sk c S L pm) (D : DP a c S L pm T) (E : DP b c S L pm U) : ∀ (n h k : Nat), (c 2 2).toNat ≤ h + n → (h : Int) ≤ c 2 2 → VM c S L h k → pMs c pm h (k / 140) = 0 → (0 ≤ Tm c T h k ↔ 0 ≤ Tm c U h k) := by
  intro n
  have hnl := hw.2.1
  have fin : ∀ h k : Nat, (h : Int) = c 2 2 → VM c S L h k → pMs c pm h (k / 140) = 0 → (0 ≤ Tm c T h k ↔ 0 ≤ Tm c U h k) := fun h k e v vp => by
    rw [Tm_end ha hw hs D e v vp, Tm_end hb hw hs E e v vp]
    repeat' split
    all_goals omega
  induction n with
  | zero =>
    intro h k h1 h2 v vp
    exact fin h k (by omega) v vp
  | succ n ih =>
    intro h k h1 h2 v vp
    by_cases e : (h : Int) = c 2 2
    · exact fin h k e v vp
    · rw [Tm_fold ha hw hs D (by omega) v vp, Tm_fold hb hw hs E (by omega) v vp, (fj_pos hw _ (by omega)).2, (fj_pos hw _ (by omega)).2]
      constructor
      · rintro ⟨j, z1, z2⟩
        obtain ⟨g, k', q1, q2⟩ := (vj_nn hw (by omega)).mp z2
        obtain ⟨o1, o2, o3, o4⟩ := mG_ok hw hs (by omega) v (by omega) q1
        exact ⟨j, z1, (vj_nn hw (by omega)).mpr ⟨g, k', q1, (ih g k' (by omega) o2 o3 o4).mp q2⟩⟩
      · rintro ⟨j, z1, z2⟩
        obtain ⟨g, k', q1, q2⟩ := (vj_nn hw (by omega)).mp z2
        obtain ⟨o1, o2, o3, o4⟩ := mG_ok hw hs (by omega) v (by omega) q1
        exact ⟨j, z1, (vj_nn hw (by omega)).mpr ⟨g, k', q1, (ih g k' (by omega) o2 o3 o4).mpr q2⟩⟩
theorem jn_4p {a b : Int} (ha : a = -1 ∨ 1 ≤ a) (hb : b = -1 ∨ 1 ≤ b) : jn 4 a b = -1 ∨ 1 ≤ jn 4 a b := by
  unfold jn
  repeat' split
  all_goals omega
/-- a count is at least 1 where it goes on -/
theorem Tm_4p {c : Co} {S L : List Nat} {pm : Nat} {T : Tb} (hw : WF c) (hs : Sk c S L pm) (D : DP 4 c S L pm T) : ∀ (n h k : Nat), (c 2 2).toNat ≤ h + n → (h : Int) ≤ c 2 2 → VM c S L h k → pMs c pm h (k / 140) = 0 → (Tm c T h k = -1 ∨ 1 ≤ Tm c T h k) := by
  intro n
  have hnl := hw.2.1
  have fin : ∀ h k : Nat, (h : Int) = c 2 2 → VM c S L h k → pMs c pm h (k / 140) = 0 → (Tm c T h k = -1 ∨ 1 ≤ Tm c T h k) := fun h k e v vp => by
    rw [Tm_end (by omega) hw hs D e v vp]
    repeat' split
    all_goals omega
  induction n with
  | zero =>
    intro h k h1 h2 v vp
    exact fin h k (by omega) v vp
  | succ n ih =>
    intro h k h1 h2 v vp
    by_cases e : (h : Int) = c 2 2
    · exact fin h k e v vp
    · rw [Tm_fold (by omega) hw hs D (by omega) v vp]
      have key : ∀ q : Nat, (q : Int) ≤ c 0 2 + 1 → (fj 4 c S L pm T h k q = -1 ∨ 1 ≤ fj 4 c S L pm T h k q) := by
        intro q
        induction q with
        | zero => intro _; left; rfl
        | succ q ihq =>
          intro hq
          rw [fj]
          refine jn_4p (ihq (by omega)) ?_
          unfold vj
          rw [wj_4]
          cases hG : mG c S L pm h k q with
          | none => left; rfl
          | some p =>
            obtain ⟨g, k'⟩ := p
            obtain ⟨o1, o2, o3, o4⟩ := mG_ok hw hs (by omega) v (by omega) hG
            have := ih g k' (by omega) o2 o3 o4
            simp only
            split <;> omega
      exact key _ (by omega)
theorem jn_3 {aim : Nat} (ha : aim ≤ 3) {a b B : Int} (h1 : a ≤ B) (h2 : b ≤ B) : jn aim a b ≤ B := by
  unfold jn
  repeat' split
  all_goals omega
/-- what is least or most is small -/
theorem Tm_ub {aim : Nat} {c : Co} {S L : List Nat} {pm : Nat} {T : Tb} (ha : aim ≤ 3) (hw : WF c) (hs : Sk c S L pm) (D : DP aim c S L pm T) : ∀ (n h k : Nat), (c 2 2).toNat ≤ h + n → (h : Int) ≤ c 2 2 → VM c S L h k → pMs c pm h (k / 140) = 0 → Tm c T h k ≤ (c 2 2 - (h : Int)) * 99 := by
  intro n
  have hnl := hw.2.1
  have fin : ∀ h k : Nat, (h : Int) = c 2 2 → VM c S L h k → pMs c pm h (k / 140) = 0 → Tm c T h k ≤ (c 2 2 - (h : Int)) * 99 := fun h k e v vp => by
    rw [Tm_end (by omega) hw hs D e v vp]
    repeat' split
    all_goals omega
  induction n with
  | zero =>
    intro h k h1 h2 v vp
    exact fin h k (by omega) v vp
  | succ n ih =>
    intro h k h1 h2 v vp
    by_cases e : (h : Int) = c 2 2
    · exact fin h k e v vp
    · rw [Tm_fold (by omega) hw hs D (by omega) v vp]
      have key : ∀ q : Nat, (q : Int) ≤ c 0 2 + 1 → fj aim c S L pm T h k q ≤ (c 2 2 - (h : Int)) * 99 := by
        intro q
        induction q with
        | zero => intro _; rw [fj]; omega
        | succ q ihq =>
          intro hq
          rw [fj]
          refine jn_3 ha (ihq (by omega)) ?_
          have hwj := wj_le (aim := aim) hw (j := q) (by omega)
          unfold vj
          cases hG : mG c S L pm h k q with
          | none => simp only; omega
          | some p =>
            obtain ⟨g, k'⟩ := p
            obtain ⟨o1, o2, o3, o4⟩ := mG_ok hw hs (by omega) v (by omega) hG
            have := ih g k' (by omega) o2 o3 o4
            simp only
            split <;> omega
      exact key _ (by omega)
theorem fj_ub {aim : Nat} {c : Co} {S L : List Nat} {pm : Nat} {T : Tb} (ha : aim ≤ 3) (hw : WF c) (hs : Sk c S L pm) (D : DP aim c S L pm T) {h k : Nat} (hh : (h : Int) < c 2 2) (v : VM c S L h k) : ∀ q : Nat, (q : Int) ≤ c 0 2 + 1 → fj aim c S L pm T h k q ≤ 10000 := by
  have hen := hw.2.2.2.2.2.2.2.1
  intro q
  induction q with
  | zero => intro _; rw [fj]; omega
  | succ q ihq =>
    intro hq
    rw [fj]
    refine jn_3 ha (ihq (by omega)) ?_
    have hwj := wj_le (aim := aim) hw (j := q) (by omega)
    unfold vj
    cases hG : mG c S L pm h k q with
    | none => simp only; omega
    | some p =>
      obtain ⟨g, k'⟩ := p
      obtain ⟨o1, o2, o3, o4⟩ := mG_ok hw hs hh v (by omega) hG
      have := Tm_ub ha hw hs D (c 2 2).toNat g k' (by omega) o2 o3 o4
      simp only
      split <;> omega
abbrev mst (aim : Nat) : Prop := aim = 1 ∨ aim = 3
def sg (aim : Nat) : Int := if mst aim then -1 else 1
def kdA (aim : Nat) : Int := if aim ≤ 1 then 1 else 0
def lf (aim : Nat) (x : Int) : Int := if x < 0 then 1000000 else if mst aim then -x else x
theorem sg_m (aim : Nat) (w : Int) : sg aim * w = if mst aim then -w else w := by
  unfold sg
  split <;> omega
theorem lf_jn {aim : Nat} (ha : aim ≤ 3) {a b : Int} (h1 : -1 ≤ a) (h2 : a ≤ 10000) (h3 : -1 ≤ b) (h4 : b ≤ 10000) : lf aim (jn aim a b) = min (lf aim a) (lf aim b) := by
  unfold lf jn
  repeat' split
  all_goals omega
theorem price_M {μ : Mi} {i : Bool} {c : Co} {S L : List Nat} {pm : Nat} {aim : Nat} (ha : aim ≤ 3) (P : Pm μ i c S L pm) {j : Nat} (hj : (j : Int) ≤ c 0 2) : D_X7_price ((j : Int) - 1) (kdA aim) μ = some (wj aim c j) := by
  have hnl := P.2.1.2.1
  unfold D_X7_price
  rw [wid (x := (j : Int) - 1) (by omega) (by omega)]
  cases j with
  | zero => rw [if_neg (by omega)]; rfl
  | succ j =>
    rw [if_pos (by omega)]
    show _ = some (wtA aim c j)
    unfold kdA wtA
    by_cases z : aim ≤ 1
    · rw [if_pos z, if_neg (by decide), show ((j + 1 : Nat) : Int) - 1 = (j : Int) by omega, show (4 : Int) = ((4 : Nat) : Int) from rfl, ofLink_M j 4 (by omega) (by omega), bp_k, if_pos (by omega), (P.1.2.2.2.1 j (by omega)).2.2.2.2.1]
    · rw [if_neg z, if_pos (by decide), if_neg (by omega), if_pos (by omega)]
def lv (aim : Nat) (c : Co) (T : Tb) (μ : Mi) (g k : Nat) : Int := if ic μ g k = 1 then lf aim (Tm c T g k) else 1000000
def LI (μ : Mi) (i : Bool) (c : Co) (S L : List Nat) (pm : Nat) (U : Tb) (aim : Nat) (T : Tb) (h k : Nat) : Prop := CI μ i c S L pm U 0 1120 ∧ ∀ g k' : Nat, (g : Int) ≤ c 2 2 → k' < 1120 → (h < g ∨ (g = h ∧ k' < k)) → rd μ 71 false (g * 1120 + k') = lv aim c T μ g k'
theorem LI.eq {μ m : Mi} {i : Bool} {c : Co} {S L : List Nat} {pm : Nat} {U : Tb} {aim : Nat} {T : Tb} {h k : Nat} (C : LI μ i c S L pm U aim T h k) (e : ∀ r i q, ¬ (r = 7 ∧ q = 44) → rd m r i q = rd μ r i q) : LI m i c S L pm U aim T h k := by
  refine ⟨C.1.eq e, fun g k' h1 h2 h3 => ?_⟩
  have := C.2 g k' h1 h2 h3
  unfold lv ic at this ⊢
  rw [e 71 false _ (by omega), e 72 false _ (by omega)]
  exact this
theorem LI.put {μ : Mi} {i : Bool} {c : Co} {S L : List Nat} {pm : Nat} {U : Tb} {aim : Nat} {T : Tb} {h k : Nat} (C : LI μ i c S L pm U aim T h k) (hk : k < 1120) (x : Int) : LI (wr μ 71 false (h * 1120 + k) x) i c S L pm U aim T h k := by
  refine ⟨⟨C.1.1.eq2 (fun r i q h1 h2 h3 => rdx (by omega)), fun g k' h1 h2 h3 => ?_⟩, fun g k' h1 h2 h3 => ?_⟩
  · have := C.1.2 g k' h1 h2 h3
    unfold cv ic at this ⊢
    rw [rdx (by omega), rdx (by omega)]
    exact this
  · have := C.2 g k' h1 h2 h3
    unfold lv ic at this ⊢
    rw [rdx (by omega), rdx (by omega)]
    exact this
theorem LI.next {μ : Mi} {i : Bool} {c : Co} {S L : List Nat} {pm : Nat} {U : Tb} {aim : Nat} {T : Tb} {h k : Nat} (C : LI μ i c S L pm U aim T h k) (q : rd μ 71 false (h * 1120 + k) = lv aim c T μ h k) : LI μ i c S L pm U aim T h (k + 1) := by
  refine ⟨C.1, fun g k' h1 h2 h3 => ?_⟩
  by_cases z : g = h ∧ k' = k
  · rw [z.1, z.2]; exact q
  · exact C.2 g k' h1 h2 (by omega)
theorem lf_rng {aim : Nat} {x : Int} (h2 : x ≤ 10000) : -10000 ≤ lf aim x ∧ lf aim x ≤ 1000000 ∧ (lf aim x = 1000000 ↔ x < 0) := by
  unfold lf
  repeat' split
  all_goals omega
theorem leasts_95 {i : Bool} {c : Co} {S L : List Nat} {pm h k : Nat} {U : Tb} {aim : Nat} {T : Tb} {k10 : Int → Int → Int → Mi → Option (Int × Mi)} {k17 : Int → Int → Int → Int → Mi → Option (Int × Mi)} (ha : aim ≤ 3) (D : DP aim c S L pm T) (hh : (h : Int) < c 2 2) (hk : k < 1120) : ∀ (d n j : Nat) (μ : Mi), j + d = (c 0 2).toNat + 1 → d < n → LI μ i c S L pm U aim T h k → ic μ h k = 1 → rd μ 71 false (h * 1120 + k) = lf aim (fj aim c S L pm T h k j) → ∃ m, B_X7_leasts_95 k10 k17 n (kdA aim) (sg aim) (h : Int) (k : Int) ((h * 1120 + k : Nat) : Int) ((j : Int) - 1) μ = k17 (kdA aim) (sg aim) (h : Int) ((k + 1 : Nat) : Int) m ∧ LI m i c S L pm U aim T h (k + 1) := by
  intro d
  induction d with
  | zero =>
    intro n j μ hj hn C h1 hv
    obtain ⟨n, rfl⟩ : ∃ q, n = q + 1 := ⟨n - 1, by omega⟩
    have hw := C.1.1.1.2.1
    have hnl := hw.2.1
    obtain ⟨v, vp⟩ := C.1.1.2.2.1 h k (by omega) hk h1
    refine ⟨μ, ?_, C.next ?_⟩
    · rw [B_X7_leasts_95_s, F_X7_leasts_95, C.1.1.1.1.1, wid (x := c 0 2) (by omega) (by omega), wid (x := (j : Int) - 1) (by omega) (by omega), if_pos (by omega)]
      rfl
    · rw [hv, show j = (c 0 2).toNat + 1 by omega, ← Tm_fold (by omega) hw C.1.1.1.2.2.1 D hh v vp]
      unfold lv
      rw [if_pos h1]
  | succ d ih =>
    intro n j μ hj hn C h1 hv
    obtain ⟨n, rfl⟩ : ∃ q, n = q + 1 := ⟨n - 1, by omega⟩
    have hw := C.1.1.1.2.1
    have hs := C.1.1.1.2.2.1
    have hnl := hw.2.1
    have hen := hw.2.2.2.2.2.2.2.1
    obtain ⟨v, vp⟩ := C.1.1.2.2.1 h k (by omega) hk h1
    have hjl : (j : Int) ≤ c 0 2 := by omega
    obtain ⟨r, m1, g1, g2, g3, g4⟩ := goes_G C.1.1.1 hh v hjl
    have C1 := C.eq g2
    have h1m : ic m1 h k = 1 := by rw [show ic m1 h k = ic μ h k from g2 72 false _ (by omega)]; exact h1
    have hvm : rd m1 71 false (h * 1120 + k) = lf aim (fj aim c S L pm T h k j) := by rw [g2 71 false _ (by omega)]; exact hv
    have hf1 := (fj_pos (aim := aim) (S := S) (L := L) (pm := pm) (T := T) hw (h := h) (k := k) j (by omega)).1
    have hf2 := fj_ub ha hw hs D hh v j (by omega)
    have hwj := wj_le (aim := aim) hw hjl
    have hwj0 := wj_pos (aim := aim) hw hjl
    have e205 : ∀ m, B_X7_leasts_205 k10 k17 (B_X7_leasts_95 k10 k17 n) (kdA aim) (sg aim) (h : Int) (k : Int) ((h * 1120 + k : Nat) : Int) ((j : Int) - 1) m = B_X7_leasts_95 k10 k17 n (kdA aim) (sg aim) (h : Int) (k : Int) ((h * 1120 + k : Nat) : Int) (((j + 1 : Nat) : Int) - 1) m := fun m => by
      unfold B_X7_leasts_205
      rw [show (j : Int) - 1 + 1 = ((j + 1 : Nat) : Int) - 1 by omega]
    cases hG : mG c S L pm h k j with
    | none =>
      have hr := g3 hG
      have hvv : vj aim c S L pm T h k j = -1 := by unfold vj; rw [hG]
      obtain ⟨m, a, b⟩ := ih n (j + 1) m1 (by omega) (by omega) C1 h1m (by rw [hvm, fj, hvv, jn_m2 hf1])
      refine ⟨m, ?_, b⟩
      rw [B_X7_leasts_95_s, F_X7_leasts_95, C.1.1.1.1.1, wid (x := c 0 2) (by omega) (by omega), wid (x := (j : Int) - 1) (by omega) (by omega), if_neg (by omega), g1, bd_k, hr, if_pos (by decide), e205]
      exact a
    | some q =>
      obtain ⟨g, k'⟩ := q
      obtain ⟨hr, h44⟩ := g4 g k' hG
      obtain ⟨o1, o2, o3, o4⟩ := mG_ok hw hs hh v hjl hG
      have hk' := o3.1
      have hT1 := (Tm_rng hw hs D o2 o3).1
      have hT2 := Tm_ub ha hw hs D (c 2 2).toNat g k' (by omega) o2 o3 o4
      have hicg : ic m1 g k' = 1 := C1.1.1.2.2.2.2.1 h k j g k' (Or.inl (by omega)) hh hk hjl h1m hG
      have hon : rd m1 71 false (g * 1120 + k') = lf aim (Tm c T g k') := by
        rw [C1.2 g k' o2 hk' (Or.inl o1)]
        unfold lv
        rw [if_pos hicg]
      have hvv : vj aim c S L pm T h k j = if Tm c T g k' < 0 then -1 else Tm c T g k' + wj aim c j := by
        unfold vj
        rw [hG]
      have hf : fj aim c S L pm T h k (j + 1) = jn aim (fj aim c S L pm T h k j) (vj aim c S L pm T h k j) := rfl
      have hlf := lf_rng (aim := aim) (x := Tm c T g k') (by omega)
      have hlf2 := lf_rng (aim := aim) hf2
      have step : ∀ x : Int, x = lf aim (fj aim c S L pm T h k (j + 1)) → ∃ m, B_X7_leasts_204 k10 k17 (B_X7_leasts_95 k10 k17 n) (kdA aim) (sg aim) (h : Int) (k : Int) ((h * 1120 + k : Nat) : Int) ((j : Int) - 1) x ((h * 1120 + k : Nat) : Int) m1 = k17 (kdA aim) (sg aim) (h : Int) ((k + 1 : Nat) : Int) m ∧ LI m i c S L pm U aim T h (k + 1) := fun x hx => by
        have C2 := C1.put hk x
        have h1w : ic (wr m1 71 false (h * 1120 + k) x) h k = 1 := by
          unfold ic at h1m ⊢
          rw [rdx (by omega)]
          exact h1m
        obtain ⟨m, a, b⟩ := ih n (j + 1) _ (by omega) (by omega) C2 h1w (by rw [rd_wr, if_pos ⟨rfl, rfl, rfl⟩]; exact hx)
        refine ⟨m, ?_, b⟩
        unfold B_X7_leasts_204
        rw [wid (x := ((h * 1120 + k : Nat) : Int)) (by omega) (by omega), if_pos (by omega), ixn _ (by omega), e205]
        exact a
      have hwid : -10200 ≤ lf aim (Tm c T g k') + sg aim * wj aim c j ∧ lf aim (Tm c T g k') + sg aim * wj aim c j ≤ 1000200 := by
        rw [sg_m]
        split <;> omega
      have head : B_X7_leasts_95 k10 k17 (n + 1) (kdA aim) (sg aim) (h : Int) (k : Int) ((h * 1120 + k : Nat) : Int) ((j : Int) - 1) μ = if ¬ lf aim (Tm c T g k') = 1000000 then (if lf aim (fj aim c S L pm T h k j) ≤ lf aim (Tm c T g k') + sg aim * wj aim c j then B_X7_leasts_204 k10 k17 (B_X7_leasts_95 k10 k17 n) (kdA aim) (sg aim) (h : Int) (k : Int) ((h * 1120 + k : Nat) : Int) ((j : Int) - 1) (lf aim (fj aim c S L pm T h k j)) ((h * 1120 + k : Nat) : Int) m1 else B_X7_leasts_204 k10 k17 (B_X7_leasts_95 k10 k17 n) (kdA aim) (sg aim) (h : Int) (k : Int) ((h * 1120 + k : Nat) : Int) ((j : Int) - 1) (lf aim (Tm c T g k') + sg aim * wj aim c j) ((h * 1120 + k : Nat) : Int) m1) else B_X7_leasts_205 k10 k17 (B_X7_leasts_95 k10 k17 n) (kdA aim) (sg aim) (h : Int) (k : Int) ((h * 1120 + k : Nat) : Int) ((j : Int) - 1) m1 := by
        obtain ⟨X, hX⟩ : ∃ X, X = h * 1120 + k := ⟨_, rfl⟩
        obtain ⟨Y, hY⟩ : ∃ Y, Y = g * 1120 + k' := ⟨_, rfl⟩
        rw [← hX] at hvm ⊢
        rw [← hY] at hon
        have hx3 : 0 ≤ (X : Int) ∧ (X : Int) < 108640 := by omega
        have hy3 : 0 ≤ (Y : Int) ∧ (Y : Int) < 108640 := by omega
        rw [B_X7_leasts_95_s, F_X7_leasts_95, C.1.1.1.1.1, wid (x := c 0 2) (by omega) (by omega), wid (x := (j : Int) - 1) (by omega) (by omega), if_neg (by omega), g1, bd_k, hr, wid (x := (k' : Int)) (by omega) (by omega), if_neg (by omega), h44, show (g : Int) * 1120 + (k' : Int) = (Y : Int) by omega, wid (x := (Y : Int)) (by omega) (by omega), if_pos hy3, if_pos hy3, ixn Y (by omega), price_M ha C1.1.1.1 hjl, bp_k, wid (x := (X : Int)) (by omega) (by omega), if_pos hx3, if_pos hx3, ixn X (by omega), hvm, hon, wid (x := lf aim (fj aim c S L pm T h k j)) (by omega) (by omega), wid (x := lf aim (Tm c T g k')) (by omega) (by omega), wid (x := lf aim (Tm c T g k') + sg aim * wj aim c j) (by omega) (by omega)]
      rw [head]
      by_cases z : Tm c T g k' < 0
      · rw [if_neg (fun w => w (hlf.2.2.mpr z)), e205]
        rw [if_pos z] at hvv
        exact ih n (j + 1) m1 (by omega) (by omega) C1 h1m (by rw [hvm, fj, hvv, jn_m2 hf1])
      · rw [if_pos (fun w => z (hlf.2.2.mp w))]
        rw [if_neg z] at hvv
        have hl : lf aim (fj aim c S L pm T h k (j + 1)) = min (lf aim (fj aim c S L pm T h k j)) (lf aim (Tm c T g k') + sg aim * wj aim c j) := by
          rw [hf, lf_jn ha hf1 hf2 (by omega) (by omega), hvv, sg_m]
          unfold lf
          rw [if_neg (show ¬ Tm c T g k' + wj aim c j < 0 by omega), if_neg z]
          repeat' split
          all_goals omega
        split
        · exact step _ (by rw [hl]; omega)
        · exact step _ (by rw [hl]; omega)
theorem leasts_17 {i : Bool} {c : Co} {S L : List Nat} {pm h : Nat} {U : Tb} {aim : Nat} {T : Tb} {k10 : Int → Int → Int → Mi → Option (Int × Mi)} (ha : aim ≤ 3) (E : DP 4 c S L pm U) (D : DP aim c S L pm T) (hh : (h : Int) ≤ c 2 2) : ∀ (d n k : Nat) (μ : Mi), k + d = 1120 → d < n → LI μ i c S L pm U aim T h k → ∃ m, B_X7_leasts_17 k10 n (kdA aim) (sg aim) (h : Int) (k : Int) μ = k10 (kdA aim) (sg aim) ((h : Int) - 1) m ∧ LI m i c S L pm U aim T h 1120 := by
  intro d
  induction d with
  | zero =>
    intro n k μ hk hn C
    obtain ⟨n, rfl⟩ : ∃ q, n = q + 1 := ⟨n - 1, by omega⟩
    refine ⟨μ, ?_, by rw [show 1120 = k by omega]; exact C⟩
    rw [B_X7_leasts_17_s, F_X7_leasts_17, wid (x := (k : Int)) (by omega) (by omega), if_pos (by omega)]
    rfl
  | succ d ih =>
    intro n k μ hk hn C
    obtain ⟨n, rfl⟩ : ∃ q, n = q + 1 := ⟨n - 1, by omega⟩
    have hw := C.1.1.1.2.1
    have hs := C.1.1.1.2.2.1
    have hen := hw.2.2.2.2.2.2.2.1
    have hnl := hw.2.1
    have hm := mi_le i
    have hk1 : k < 1120 := by omega
    have hic := C.1.1.2.1 h k (by omega) hk1
    have hx3 : 0 ≤ ((h * 1120 + k : Nat) : Int) ∧ ((h * 1120 + k : Nat) : Int) < 108640 := by omega
    have hmi : 0 ≤ (mi i : Int) ∧ (mi i : Int) < 2 := by omega
    have C1 := C.put hk1 1000000
    have hon := C.1.2 h k (by omega) hk1 (by omega)
    have honr : 0 ≤ rd μ 70 false (h * 1120 + k) ∧ rd μ 70 false (h * 1120 + k) ≤ 1000000000 := by
      rw [hon]
      unfold cv
      split
      · rename_i z
        have := Tm_4 hw hs E (by omega) (C.1.1.2.2.1 h k (by omega) hk1 z).1
        omega
      · omega
    have hicw : ∀ x y, ic (wr (wr μ 71 false (h * 1120 + k) x) 71 false (h * 1120 + k) y) h k = ic μ h k := fun x y => by
      unfold ic
      rw [rdx (by omega), rdx (by omega)]
    have hicw1 : ∀ x, ic (wr μ 71 false (h * 1120 + k) x) h k = ic μ h k := fun x => by
      unfold ic
      rw [rdx (by omega)]
    have e211 : ∀ m, B_X7_leasts_211 k10 (B_X7_leasts_17 k10 n) (kdA aim) (sg aim) (h : Int) (k : Int) m = B_X7_leasts_17 k10 n (kdA aim) (sg aim) (h : Int) ((k + 1 : Nat) : Int) m := fun m => by
      unfold B_X7_leasts_211
      rw [show (k : Int) + 1 = ((k + 1 : Nat) : Int) by omega]
    have head : B_X7_leasts_17 k10 (n + 1) (kdA aim) (sg aim) (h : Int) (k : Int) μ = if ic μ h k = 0 then B_X7_leasts_17 k10 n (kdA aim) (sg aim) (h : Int) ((k + 1 : Nat) : Int) (wr μ 71 false (h * 1120 + k) 1000000) else if ¬ rd μ 70 false (h * 1120 + k) = 0 then (if ¬ (h : Int) = c 2 2 then B_X7_leasts_95 k10 (B_X7_leasts_17 k10 n) FU (kdA aim) (sg aim) (h : Int) (k : Int) ((h * 1120 + k : Nat) : Int) (-1) (wr μ 71 false (h * 1120 + k) 1000000) else B_X7_leasts_17 k10 n (kdA aim) (sg aim) (h : Int) ((k + 1 : Nat) : Int) (wr (wr μ 71 false (h * 1120 + k) 1000000) 71 false (h * 1120 + k) 0)) else B_X7_leasts_17 k10 n (kdA aim) (sg aim) (h : Int) ((k + 1 : Nat) : Int) (wr μ 71 false (h * 1120 + k) 1000000) := by
      rw [B_X7_leasts_17_s, F_X7_leasts_17, wid (x := (k : Int)) (by omega) (by omega), if_neg (by omega), show (h : Int) * 1120 + (k : Int) = ((h * 1120 + k : Nat) : Int) by omega, wid (x := ((h * 1120 + k : Nat) : Int)) (by omega) (by omega)]
      simp only [if_pos hx3]
      rw [ixn _ (by omega), wid (x := rd μ 72 false (h * 1120 + k)) (by unfold ic at hic; omega) (by unfold ic at hic; omega), wid (x := rd μ 70 false (h * 1120 + k)) (by omega) (by omega), C.1.1.1.2.2.2.1, wid (x := (mi i : Int)) (by omega) (by omega), if_pos hmi, ixn (mi i) (by omega), C.1.1.1.1.2.2.2.2.1.2.2.1, wid (x := c 2 2) (by omega) (by omega), wid (x := (h : Int)) (by omega) (by omega), e211, e211]
      rfl
    by_cases z : ic μ h k = 1
    · obtain ⟨v, vp⟩ := C.1.1.2.2.1 h k (by omega) hk1 z
      unfold cv at hon
      rw [if_pos z] at hon
      have sn := Tm_sgn (by omega) (by omega) hw hs E D (c 2 2).toNat h k (by omega) (by omega) v vp
      have p4 := Tm_4p hw hs E (c 2 2).toNat h k (by omega) (by omega) v vp
      rw [head, if_neg (by omega)]
      by_cases x : rd μ 70 false (h * 1120 + k) = 0
      · rw [if_neg (fun w => w x)]
        refine ih n (k + 1) _ (by omega) (by omega) (C1.next ?_)
        rw [rd_wr, if_pos ⟨rfl, rfl, rfl⟩]
        unfold lv
        rw [hicw1, if_pos z]
        unfold lf
        rw [if_pos (by omega)]
      · rw [if_pos x]
        by_cases y : (h : Int) = c 2 2
        · have hT := Tm_end (by omega) hw hs D y v vp
          rw [if_neg (fun w => w y)]
          refine ih n (k + 1) _ (by omega) (by omega) ((C1.put hk1 0).next ?_)
          rw [rd_wr, if_pos ⟨rfl, rfl, rfl⟩]
          unfold lv
          rw [hicw, if_pos z]
          have h0 : Tm c T h k = 0 := by
            rw [hT]
            split
            · rw [if_neg (by omega)]
            · rename_i w
              rw [if_neg w] at hT
              omega
          rw [h0]
          unfold lf
          repeat' split
          all_goals omega
        · obtain ⟨m1, a1, a2⟩ := leasts_95 (k10 := k10) (k17 := B_X7_leasts_17 k10 n) ha D (by omega) hk1 ((c 0 2).toNat + 1) FU 0 _ (by omega) (FU_gt (by omega)) C1 (by rw [hicw1]; exact z) (by rw [rd_wr, if_pos ⟨rfl, rfl, rfl⟩, fj]; rfl)
          obtain ⟨m, b1, b2⟩ := ih n (k + 1) m1 (by omega) (by omega) a2
          refine ⟨m, ?_, b2⟩
          rw [if_pos y]
          rw [show ((0 : Nat) : Int) - 1 = -1 from rfl] at a1
          exact a1.trans b1
    · rw [head, if_pos (by omega)]
      refine ih n (k + 1) _ (by omega) (by omega) (C1.next ?_)
      rw [rd_wr, if_pos ⟨rfl, rfl, rfl⟩]
      unfold lv
      rw [hicw1, if_neg z]
theorem leasts_10 {i : Bool} {c : Co} {S L : List Nat} {pm : Nat} {U : Tb} {aim : Nat} {T : Tb} (ha : aim ≤ 3) (E : DP 4 c S L pm U) (D : DP aim c S L pm T) : ∀ (d n : Nat) (μ : Mi), (d : Int) ≤ c 2 2 + 1 → d < n → CI μ i c S L pm U 0 1120 → pMs c pm 0 (c 2 0).toNat = 0 → (∀ g k' : Nat, (g : Int) ≤ c 2 2 → k' < 1120 → d ≤ g → rd μ 71 false (g * 1120 + k') = lv aim c T μ g k') → ∃ m, B_X7_leasts_10 n (kdA aim) (sg aim) ((d : Int) - 1) μ = some (sg aim * lf aim (Tm c T 0 (sK c L)), m) ∧ LI m i c S L pm U aim T 0 1120 := by
  intro d
  induction d with
  | zero =>
    intro n μ hd hn C hp hall
    obtain ⟨n, rfl⟩ : ∃ q, n = q + 1 := ⟨n - 1, by omega⟩
    have hw := C.1.1.2.1
    have hen := hw.2.2.2.2.2.2.2.1
    have hsk := (sK_VM hw C.1.1.2.2.1).1.1
    refine ⟨μ, ?_, C, fun g k' h1 h2 h3 => hall g k' h1 h2 (by omega)⟩
    have h0 := hall 0 (sK c L) (by omega) hsk (by omega)
    unfold lv at h0
    rw [if_pos C.1.2.2.2.2.2, show 0 * 1120 + sK c L = sK c L by omega] at h0
    rw [B_X7_leasts_10_s, F_X7_leasts_10, wid (x := ((0 : Nat) : Int) - 1) (by omega) (by omega), if_pos (by omega), start_M C.1.1, bp_k, if_pos hp, wid (x := ((sK c L : Nat) : Int)) (by omega) (by omega), if_pos (by omega), ixn _ (by omega), h0]
  | succ d ih =>
    intro n μ hd hn C hp hall
    obtain ⟨n, rfl⟩ : ∃ q, n = q + 1 := ⟨n - 1, by omega⟩
    have hw := C.1.1.2.1
    have hen := hw.2.2.2.2.2.2.2.1
    obtain ⟨m1, a1, a2⟩ := leasts_17 (k10 := B_X7_leasts_10 n) ha E D (h := d) (by omega) 1120 FU 0 μ (by omega) (FU_gt (by omega)) ⟨C, fun g k' h1 h2 h3 => hall g k' h1 h2 (by omega)⟩
    obtain ⟨m, b1, b2⟩ := ih n m1 (by omega) (by omega) a2.1 hp (fun g k' h1 h2 h3 => a2.2 g k' h1 h2 (by omega))
    refine ⟨m, ?_, b2⟩
    rw [B_X7_leasts_10_s, F_X7_leasts_10, wid (x := ((d + 1 : Nat) : Int) - 1) (by omega) (by omega), if_neg (by omega), show ((d + 1 : Nat) : Int) - 1 = (d : Int) by omega]
    exact a1.trans b1
/-- leasts: what the class's table of the aim says of the start, where it goes on -/
theorem leasts_M {μ : Mi} {i : Bool} {c : Co} {S L : List Nat} {pm : Nat} {U : Tb} {aim : Nat} {T : Tb} (ha : aim ≤ 3) (E : DP 4 c S L pm U) (D : DP aim c S L pm T) (C : CI μ i c S L pm U 0 1120) (h0 : 0 < Tm c U 0 (sK c L)) : 0 ≤ Tm c T 0 (sK c L) ∧ ∃ m, D_X7_leasts (kdA aim) (sg aim) μ = some (Tm c T 0 (sK c L), m) ∧ LI m i c S L pm U aim T 0 1120 := by
  have F := C.1
  have hw := F.1.2.1
  have hs := F.1.2.2.1
  have hen := hw.2.2.2.2.2.2.2.1
  have hm := mi_le i
  obtain ⟨vs, s1, -⟩ := sK_VM (S := S) (pm := pm) hw hs
  have hp := (F.2.2.1 0 (sK c L) (by omega) vs.1 F.2.2.2.2.2).2
  have hT := (Tm_sgn (by omega) (by omega) hw hs E D (c 2 2).toNat 0 (sK c L) (by omega) (by omega) vs hp).mp (by omega)
  rw [s1] at hp
  refine ⟨hT, ?_⟩
  obtain ⟨m, b1, b2⟩ := leasts_10 ha E D ((c 2 2).toNat + 1) FU μ (by omega) (FU_gt (by omega)) C hp (fun g k' h1 h2 h3 => by omega)
  refine ⟨m, ?_, b2⟩
  unfold D_X7_leasts
  rw [F.1.2.2.2.1, wid (x := (mi i : Int)) (by omega) (by omega), if_pos (by omega), ixn (mi i) (by omega), F.1.1.2.2.2.2.1.2.2.1]
  rw [show (((c 2 2).toNat + 1 : Nat) : Int) - 1 = c 2 2 by omega] at b1
  rw [b1]
  have : sg aim * lf aim (Tm c T 0 (sK c L)) = Tm c T 0 (sK c L) := by
    rw [sg_m]
    unfold lf
    rw [if_neg (show ¬ Tm c T 0 (sK c L) < 0 by omega)]
    by_cases z : mst aim
    · rw [if_pos z, if_pos z]; omega
    · rw [if_neg z, if_neg z]
  rw [this]
