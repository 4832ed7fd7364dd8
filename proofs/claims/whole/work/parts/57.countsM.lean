/-! PURE: the reference counts: what is on, of every state come to -/
theorem FI.eq2 {μ m : Mi} {i : Bool} {c : Co} {S L : List Nat} {pm h k j : Nat} (F : FI μ i c S L pm h k j) (e : ∀ r i q, ¬ (r = 7 ∧ q = 44) → r ≠ 70 → r ≠ 71 → rd m r i q = rd μ r i q) : FI m i c S L pm h k j := by
  obtain ⟨P, f1, f2, f3, f4, f5⟩ := F
  have ei : ∀ g k', ic m g k' = ic μ g k' := fun g k' => e 72 false _ (by omega) (by omega) (by omega)
  refine ⟨P.eq (fun r i q h1 h2 => e r i q h1 (by omega) (by omega)), ?_, ?_, ?_, ?_, ?_⟩
  · intro g k' h1 h2; rw [ei]; exact f1 g k' h1 h2
  · intro g k' h1 h2 h3; rw [ei] at h3; exact f2 g k' h1 h2 h3
  · intro g k' h1 h2 h3
    rw [ei] at h3
    rcases f3 g k' h1 h2 h3 with z | ⟨h', k2, j', a, b, c', d, e'⟩
    · exact Or.inl z
    · exact Or.inr ⟨h', k2, j', a, b, c', by rw [ei]; exact d, e'⟩
  · intro h' k2 j' g k' d h1 h2 h3 h4 h5
    rw [ei] at h4 ⊢
    exact f4 h' k2 j' g k' d h1 h2 h3 h4 h5
  · rw [ei]; exact f5
theorem jn4 {a b : Int} (ha : -1 ≤ a) (ha2 : a ≤ 1000000000) (hb : -1 ≤ b) (hb2 : b ≤ 1000000000) : max 0 (jn 4 a b) = min 1000000000 (max 0 a + max 0 b) ∧ jn 4 a b ≤ 1000000000 := by
  unfold jn
  repeat' split
  all_goals omega
theorem Tm_rng {aim : Nat} {c : Co} {S L : List Nat} {pm : Nat} {T : Tb} (hw : WF c) (hs : Sk c S L pm) (D : DP aim c S L pm T) {h k : Nat} (hh : (h : Int) ≤ c 2 2) (v : VM c S L h k) : -1 ≤ Tm c T h k ∧ Tm c T h k ≤ bdT aim h (k / 20 % 7) := (D h (cp c (k % 5)) (k / 140) (k / 20 % 7) (k / 5 % 4) hh (v.vd hw hs)).2
theorem Tm_4 {c : Co} {S L : List Nat} {pm : Nat} {T : Tb} (hw : WF c) (hs : Sk c S L pm) (D : DP 4 c S L pm T) {h k : Nat} (hh : (h : Int) ≤ c 2 2) (v : VM c S L h k) : -1 ≤ Tm c T h k ∧ Tm c T h k ≤ 1000000000 := by
  have := Tm_rng hw hs D hh v
  unfold bdT at this
  rw [if_pos rfl] at this
  exact this
theorem wj_4 {c : Co} (j : Nat) : wj 4 c j = 0 := by
  cases j with
  | zero => rfl
  | succ j =>
    show wtA 4 c j = 0
    unfold wtA
    rw [if_neg (by omega), if_neg (by omega)]
theorem vj_4 {c : Co} {S L : List Nat} {pm : Nat} {T : Tb} (hw : WF c) (hs : Sk c S L pm) (D : DP 4 c S L pm T) {h k j : Nat} (hh : (h : Int) < c 2 2) (v : VM c S L h k) (hj : (j : Int) ≤ c 0 2) : -1 ≤ vj 4 c S L pm T h k j ∧ vj 4 c S L pm T h k j ≤ 1000000000 := by
  unfold vj
  rw [wj_4]
  cases hG : mG c S L pm h k j with
  | none => simp only; omega
  | some q =>
    obtain ⟨g, k'⟩ := q
    obtain ⟨o1, o2, o3, o4⟩ := mG_ok hw hs hh v hj hG
    have := Tm_4 hw hs D o2 o3
    simp only
    split <;> omega
theorem fj_4 {c : Co} {S L : List Nat} {pm : Nat} {T : Tb} (hw : WF c) (hs : Sk c S L pm) (D : DP 4 c S L pm T) {h k : Nat} (hh : (h : Int) < c 2 2) (v : VM c S L h k) : ∀ n : Nat, (n : Int) ≤ c 0 2 + 1 → -1 ≤ fj 4 c S L pm T h k n ∧ fj 4 c S L pm T h k n ≤ 1000000000
  | 0, _ => by rw [fj]; omega
  | n + 1, hn => by
    have a := fj_4 hw hs D hh v n (by omega)
    have b := vj_4 hw hs D hh v (j := n) (by omega)
    rw [fj]
    exact ⟨(jn_pos a.1 b.1).1, (jn4 a.1 a.2 b.1 b.2).2⟩
def cv (c : Co) (T : Tb) (μ : Mi) (g k : Nat) : Int := if ic μ g k = 1 then max 0 (Tm c T g k) else 0
def CI (μ : Mi) (i : Bool) (c : Co) (S L : List Nat) (pm : Nat) (T : Tb) (h k : Nat) : Prop := FI μ i c S L pm (c 2 2).toNat 0 0 ∧ ∀ g k' : Nat, (g : Int) ≤ c 2 2 → k' < 1120 → (h < g ∨ (g = h ∧ k' < k)) → rd μ 70 false (g * 1120 + k') = cv c T μ g k'
theorem CI.eq {μ m : Mi} {i : Bool} {c : Co} {S L : List Nat} {pm : Nat} {T : Tb} {h k : Nat} (C : CI μ i c S L pm T h k) (e : ∀ r i q, ¬ (r = 7 ∧ q = 44) → rd m r i q = rd μ r i q) : CI m i c S L pm T h k := by
  refine ⟨C.1.eq e, fun g k' h1 h2 h3 => ?_⟩
  have := C.2 g k' h1 h2 h3
  unfold cv ic at this ⊢
  rw [e 70 false _ (by omega), e 72 false _ (by omega)]
  exact this
/-- what is on is set down -/
theorem CI.put {μ : Mi} {i : Bool} {c : Co} {S L : List Nat} {pm : Nat} {T : Tb} {h k : Nat} (C : CI μ i c S L pm T h k) (hk : k < 1120) (x : Int) : CI (wr μ 70 false (h * 1120 + k) x) i c S L pm T h k := by
  refine ⟨C.1.eq2 (fun r i q h1 h2 h3 => rdx (by omega)), fun g k' h1 h2 h3 => ?_⟩
  have := C.2 g k' h1 h2 h3
  unfold cv ic at this ⊢
  rw [rdx (by omega), rdx (by omega)]
  exact this
theorem CI.next {μ : Mi} {i : Bool} {c : Co} {S L : List Nat} {pm : Nat} {T : Tb} {h k : Nat} (C : CI μ i c S L pm T h k) (q : rd μ 70 false (h * 1120 + k) = cv c T μ h k) : CI μ i c S L pm T h (k + 1) := by
  refine ⟨C.1, fun g k' h1 h2 h3 => ?_⟩
  by_cases z : g = h ∧ k' = k
  · rw [z.1, z.2]; exact q
  · exact C.2 g k' h1 h2 (by omega)
theorem counts_97 {i : Bool} {c : Co} {S L : List Nat} {pm h k : Nat} {T : Tb} {k19 : Int → Mi → Option (Int × Mi)} {k25 : Int → Int → Mi → Option (Int × Mi)} (D : DP 4 c S L pm T) (hh : (h : Int) < c 2 2) (hk : k < 1120) : ∀ (d n j : Nat) (μ : Mi), j + d = (c 0 2).toNat + 1 → d < n → CI μ i c S L pm T h k → ic μ h k = 1 → rd μ 70 false (h * 1120 + k) = max 0 (fj 4 c S L pm T h k j) → ∃ m, B_X7_counts_97 k19 k25 n (h : Int) (k : Int) ((h * 1120 + k : Nat) : Int) ((j : Int) - 1) μ = k25 (h : Int) ((k + 1 : Nat) : Int) m ∧ CI m i c S L pm T h (k + 1) := by
  intro d
  induction d with
  | zero =>
    intro n j μ hj hn C h1 hv
    obtain ⟨n, rfl⟩ : ∃ q, n = q + 1 := ⟨n - 1, by omega⟩
    have hw := C.1.1.2.1
    have hnl := hw.2.1
    obtain ⟨v, vp⟩ := C.1.2.2.1 h k (by omega) hk h1
    refine ⟨μ, ?_, C.next ?_⟩
    · rw [B_X7_counts_97_s, F_X7_counts_97, C.1.1.1.1, wid (x := c 0 2) (by omega) (by omega), wid (x := (j : Int) - 1) (by omega) (by omega), if_pos (by omega)]
      rfl
    · rw [hv, show j = (c 0 2).toNat + 1 by omega, ← Tm_fold (by omega) hw C.1.1.2.2.1 D hh v vp]
      unfold cv
      rw [if_pos h1]
  | succ d ih =>
    intro n j μ hj hn C h1 hv
    obtain ⟨n, rfl⟩ : ∃ q, n = q + 1 := ⟨n - 1, by omega⟩
    have hw := C.1.1.2.1
    have hs := C.1.1.2.2.1
    have hnl := hw.2.1
    have hen := hw.2.2.2.2.2.2.2.1
    obtain ⟨v, vp⟩ := C.1.2.2.1 h k (by omega) hk h1
    have hjl : (j : Int) ≤ c 0 2 := by omega
    obtain ⟨r, m1, g1, g2, g3, g4⟩ := goes_G C.1.1 hh v hjl
    have C1 := C.eq g2
    have h1m : ic m1 h k = 1 := by rw [show ic m1 h k = ic μ h k from g2 72 false _ (by omega)]; exact h1
    have hvm : rd m1 70 false (h * 1120 + k) = max 0 (fj 4 c S L pm T h k j) := by rw [g2 70 false _ (by omega)]; exact hv
    have hfj := fj_4 hw hs D hh v j (by omega)
    have hvj := vj_4 hw hs D hh v hjl
    have e179 : ∀ m, B_X7_counts_179 k19 k25 (B_X7_counts_97 k19 k25 n) (h : Int) (k : Int) ((h * 1120 + k : Nat) : Int) ((j : Int) - 1) m = B_X7_counts_97 k19 k25 n (h : Int) (k : Int) ((h * 1120 + k : Nat) : Int) (((j + 1 : Nat) : Int) - 1) m := fun m => by
      unfold B_X7_counts_179
      rw [show (j : Int) - 1 + 1 = ((j + 1 : Nat) : Int) - 1 by omega]
    have hj4 := jn4 hfj.1 hfj.2 hvj.1 hvj.2
    cases hG : mG c S L pm h k j with
    | none =>
      have hr := g3 hG
      have hvv : vj 4 c S L pm T h k j = -1 := by unfold vj; rw [hG]
      obtain ⟨m, a, b⟩ := ih n (j + 1) m1 (by omega) (by omega) C1 h1m (by rw [hvm, fj, hvv, jn_m2 hfj.1])
      refine ⟨m, ?_, b⟩
      rw [B_X7_counts_97_s, F_X7_counts_97, C.1.1.1.1, wid (x := c 0 2) (by omega) (by omega), wid (x := (j : Int) - 1) (by omega) (by omega), if_neg (by omega), g1, bd_k, hr, if_neg (by decide), e179]
      exact a
    | some q =>
      obtain ⟨g, k'⟩ := q
      obtain ⟨hr, h44⟩ := g4 g k' hG
      obtain ⟨o1, o2, o3, o4⟩ := mG_ok hw hs hh v hjl hG
      have hk' := o3.1
      have hTm := Tm_4 hw hs D o2 o3
      have hicg : ic m1 g k' = 1 := C1.1.2.2.2.2.1 h k j g k' (Or.inl (by omega)) hh hk hjl h1m hG
      have hon : rd m1 70 false (g * 1120 + k') = max 0 (Tm c T g k') := by
        rw [C1.2 g k' o2 hk' (Or.inl o1)]
        unfold cv
        rw [if_pos hicg]
      have hvv : max 0 (vj 4 c S L pm T h k j) = max 0 (Tm c T g k') := by
        unfold vj
        rw [hG, wj_4]
        simp only
        split <;> omega
      rw [hvv] at hj4
      have step : ∀ x : Int, x = max 0 (fj 4 c S L pm T h k (j + 1)) → ∃ m, B_X7_counts_178 k19 k25 (B_X7_counts_97 k19 k25 n) (h : Int) (k : Int) ((h * 1120 + k : Nat) : Int) ((j : Int) - 1) x ((h * 1120 + k : Nat) : Int) m1 = k25 (h : Int) ((k + 1 : Nat) : Int) m ∧ CI m i c S L pm T h (k + 1) := fun x hx => by
        have C2 := C1.put hk x
        have h1w : ic (wr m1 70 false (h * 1120 + k) x) h k = 1 := by
          unfold ic at h1m ⊢
          rw [rdx (by omega)]
          exact h1m
        obtain ⟨m, a, b⟩ := ih n (j + 1) _ (by omega) (by omega) C2 h1w (by rw [rd_wr, if_pos ⟨rfl, rfl, rfl⟩]; exact hx)
        refine ⟨m, ?_, b⟩
        unfold B_X7_counts_178
        rw [wid (x := ((h * 1120 + k : Nat) : Int)) (by omega) (by omega), if_pos (by omega), ixn _ (by omega), e179]
        exact a
      have hf : fj 4 c S L pm T h k (j + 1) = jn 4 (fj 4 c S L pm T h k j) (vj 4 c S L pm T h k j) := rfl
      have head : B_X7_counts_97 k19 k25 (n + 1) (h : Int) (k : Int) ((h * 1120 + k : Nat) : Int) ((j : Int) - 1) μ = if max 0 (fj 4 c S L pm T h k j) ≤ 1000000000 - max 0 (Tm c T g k') then B_X7_counts_178 k19 k25 (B_X7_counts_97 k19 k25 n) (h : Int) (k : Int) ((h * 1120 + k : Nat) : Int) ((j : Int) - 1) (max 0 (fj 4 c S L pm T h k j) + max 0 (Tm c T g k')) ((h * 1120 + k : Nat) : Int) m1 else B_X7_counts_178 k19 k25 (B_X7_counts_97 k19 k25 n) (h : Int) (k : Int) ((h * 1120 + k : Nat) : Int) ((j : Int) - 1) 1000000000 ((h * 1120 + k : Nat) : Int) m1 := by
        obtain ⟨X, hX⟩ : ∃ X, X = h * 1120 + k := ⟨_, rfl⟩
        obtain ⟨Y, hY⟩ : ∃ Y, Y = g * 1120 + k' := ⟨_, rfl⟩
        rw [← hX] at hvm ⊢
        rw [← hY] at hon
        have hx3 : 0 ≤ (X : Int) ∧ (X : Int) < 108640 := by omega
        rw [B_X7_counts_97_s, F_X7_counts_97, C.1.1.1.1, wid (x := c 0 2) (by omega) (by omega), wid (x := (j : Int) - 1) (by omega) (by omega), if_neg (by omega), g1, bd_k, hr, wid (x := (k' : Int)) (by omega) (by omega), if_pos (by omega), h44, show (g : Int) * 1120 + (k' : Int) = (Y : Int) by omega, wid (x := (Y : Int)) (by omega) (by omega), if_pos (by omega), ixn Y (by omega), wid (x := (X : Int)) (by omega) (by omega), if_pos hx3, ixn X (by omega), if_pos hx3, hvm, hon, wid (x := max 0 (fj 4 c S L pm T h k j)) (by omega) (by omega), wid (x := 1000000000 - max 0 (Tm c T g k')) (by omega) (by omega)]
      rw [head]
      split
      · exact step _ (by rw [hf, hj4.1]; omega)
      · exact step _ (by rw [hf, hj4.1]; omega)
theorem counts_25 {i : Bool} {c : Co} {S L : List Nat} {pm h : Nat} {T : Tb} {k19 : Int → Mi → Option (Int × Mi)} (D : DP 4 c S L pm T) (hh : (h : Int) ≤ c 2 2) : ∀ (d n k : Nat) (μ : Mi), k + d = 1120 → d < n → CI μ i c S L pm T h k → ∃ m, B_X7_counts_25 k19 n (h : Int) (k : Int) μ = k19 ((h : Int) - 1) m ∧ CI m i c S L pm T h 1120 := by
  intro d
  induction d with
  | zero =>
    intro n k μ hk hn C
    obtain ⟨n, rfl⟩ : ∃ q, n = q + 1 := ⟨n - 1, by omega⟩
    refine ⟨μ, ?_, by rw [show 1120 = k by omega]; exact C⟩
    rw [B_X7_counts_25_s, F_X7_counts_25, wid (x := (k : Int)) (by omega) (by omega), if_pos (by omega)]
    rfl
  | succ d ih =>
    intro n k μ hk hn C
    obtain ⟨n, rfl⟩ : ∃ q, n = q + 1 := ⟨n - 1, by omega⟩
    have hw := C.1.1.2.1
    have hs := C.1.1.2.2.1
    have hen := hw.2.2.2.2.2.2.2.1
    have hnl := hw.2.1
    have hm := mi_le i
    have hk1 : k < 1120 := by omega
    have hic := C.1.2.1 h k (by omega) hk1
    have hx3 : 0 ≤ ((h * 1120 + k : Nat) : Int) ∧ ((h * 1120 + k : Nat) : Int) < 108640 := by omega
    have hmi : 0 ≤ (mi i : Int) ∧ (mi i : Int) < 2 := by omega
    have C1 := C.put hk1 0
    have P1 := C1.1.1
    have hicw : ∀ x y, ic (wr (wr μ 70 false (h * 1120 + k) x) 70 false (h * 1120 + k) y) h k = ic μ h k := fun x y => by
      unfold ic
      rw [rdx (by omega), rdx (by omega)]
    have hicw1 : ∀ x, ic (wr μ 70 false (h * 1120 + k) x) h k = ic μ h k := fun x => by
      unfold ic
      rw [rdx (by omega)]
    have e185 : ∀ m, B_X7_counts_185 k19 (B_X7_counts_25 k19 n) (h : Int) (k : Int) m = B_X7_counts_25 k19 n (h : Int) ((k + 1 : Nat) : Int) m := fun m => by
      unfold B_X7_counts_185
      rw [show (k : Int) + 1 = ((k + 1 : Nat) : Int) by omega]
    have e90 : ∀ x m, B_X7_counts_90 k19 (B_X7_counts_25 k19 n) (h : Int) (k : Int) x ((h * 1120 + k : Nat) : Int) m = B_X7_counts_25 k19 n (h : Int) ((k + 1 : Nat) : Int) (wr m 70 false (h * 1120 + k) x) := fun x m => by
      unfold B_X7_counts_90
      rw [wid (x := ((h * 1120 + k : Nat) : Int)) (by omega) (by omega), if_pos hx3, ixn _ (by omega), e185]
    have head : B_X7_counts_25 k19 (n + 1) (h : Int) (k : Int) μ = if ¬ ic μ h k = 0 then (if ¬ (h : Int) = c 2 2 then B_X7_counts_97 k19 (B_X7_counts_25 k19 n) FU (h : Int) (k : Int) ((h * 1120 + k : Nat) : Int) (-1) (wr μ 70 false (h * 1120 + k) 0) else (if enK S L k then B_X7_counts_25 k19 n (h : Int) ((k + 1 : Nat) : Int) (wr (wr μ 70 false (h * 1120 + k) 0) 70 false (h * 1120 + k) 1) else B_X7_counts_25 k19 n (h : Int) ((k + 1 : Nat) : Int) (wr (wr μ 70 false (h * 1120 + k) 0) 70 false (h * 1120 + k) 0))) else B_X7_counts_25 k19 n (h : Int) ((k + 1 : Nat) : Int) (wr μ 70 false (h * 1120 + k) 0) := by
      rw [B_X7_counts_25_s, F_X7_counts_25, wid (x := (k : Int)) (by omega) (by omega), if_neg (by omega), show (h : Int) * 1120 + (k : Int) = ((h * 1120 + k : Nat) : Int) by omega, wid (x := ((h * 1120 + k : Nat) : Int)) (by omega) (by omega), if_pos hx3, if_pos hx3, ixn _ (by omega), wid (x := rd μ 72 false (h * 1120 + k)) (by unfold ic at hic; omega) (by unfold ic at hic; omega), C.1.1.2.2.2.1, wid (x := (mi i : Int)) (by omega) (by omega), if_pos hmi, ixn (mi i) (by omega), C.1.1.1.2.2.2.2.1.2.2.1, wid (x := c 2 2) (by omega) (by omega), wid (x := (h : Int)) (by omega) (by omega), ends_M P1 hk1, e185, e90, e90]
      by_cases q : enK S L k
      · rw [if_neg (nb10 q), if_pos q]; rfl
      · rw [if_pos (yb10 q), if_neg q]; rfl
    by_cases z : ic μ h k = 1
    · obtain ⟨v, vp⟩ := C.1.2.2.1 h k (by omega) hk1 z
      by_cases y : (h : Int) = c 2 2
      · have key : ∀ x : Int, x = max 0 (Tm c T h k) → ∃ m, B_X7_counts_25 k19 n (h : Int) ((k + 1 : Nat) : Int) (wr (wr μ 70 false (h * 1120 + k) 0) 70 false (h * 1120 + k) x) = k19 ((h : Int) - 1) m ∧ CI m i c S L pm T h 1120 := fun x hx => by
          refine ih n (k + 1) _ (by omega) (by omega) ((C1.put hk1 x).next ?_)
          rw [rd_wr, if_pos ⟨rfl, rfl, rfl⟩]
          unfold cv
          rw [hicw, if_pos z]
          exact hx
        have hT := Tm_end (by omega) hw hs D y v vp
        rw [head, if_pos (by omega), if_neg (fun w => w y)]
        by_cases w : enK S L k
        · rw [if_pos w] at hT ⊢
          exact key 1 (by rw [hT, if_pos rfl]; rfl)
        · rw [if_neg w] at hT ⊢
          exact key 0 (by rw [hT]; rfl)
      · obtain ⟨m1, a1, a2⟩ := counts_97 (k19 := k19) (k25 := B_X7_counts_25 k19 n) D (by omega) hk1 ((c 0 2).toNat + 1) FU 0 _ (by omega) (FU_gt (by omega)) C1 (by rw [hicw1]; exact z) (by rw [rd_wr, if_pos ⟨rfl, rfl, rfl⟩, fj]; rfl)
        obtain ⟨m, b1, b2⟩ := ih n (k + 1) m1 (by omega) (by omega) a2
        refine ⟨m, ?_, b2⟩
        rw [head, if_pos (by omega), if_pos y]
        rw [show ((0 : Nat) : Int) - 1 = -1 from rfl] at a1
        exact a1.trans b1
    · rw [head, if_neg (by omega)]
      refine ih n (k + 1) _ (by omega) (by omega) (C1.next ?_)
      rw [rd_wr, if_pos ⟨rfl, rfl, rfl⟩]
      unfold cv
      rw [hicw1, if_neg z]
theorem counts_19 {i : Bool} {c : Co} {S L : List Nat} {pm : Nat} {T : Tb} (D : DP 4 c S L pm T) : ∀ (d n : Nat) (μ : Mi), (d : Int) ≤ c 2 2 + 1 → d < n → CI μ i c S L pm T d 0 → pMs c pm 0 (c 2 0).toNat = 0 → (∀ g k' : Nat, (g : Int) ≤ c 2 2 → k' < 1120 → d ≤ g → rd μ 70 false (g * 1120 + k') = cv c T μ g k') → ∃ m, B_X7_counts_19 n ((d : Int) - 1) μ = some (max 0 (Tm c T 0 (sK c L)), m) ∧ CI m i c S L pm T 0 1120 := by
  intro d
  induction d with
  | zero =>
    intro n μ hd hn C hp hall
    obtain ⟨n, rfl⟩ : ∃ q, n = q + 1 := ⟨n - 1, by omega⟩
    have hw := C.1.1.2.1
    have hen := hw.2.2.2.2.2.2.2.1
    have hsk := (sK_VM hw C.1.1.2.2.1).1.1
    refine ⟨μ, ?_, C.1, fun g k' h1 h2 h3 => hall g k' h1 h2 (by omega)⟩
    have h0 := hall 0 (sK c L) (by omega) hsk (by omega)
    unfold cv at h0
    rw [if_pos C.1.2.2.2.2.2, show 0 * 1120 + sK c L = sK c L by omega] at h0
    rw [B_X7_counts_19_s, F_X7_counts_19, wid (x := ((0 : Nat) : Int) - 1) (by omega) (by omega), if_pos (by omega), start_M C.1.1, bp_k, if_pos hp, wid (x := ((sK c L : Nat) : Int)) (by omega) (by omega), if_pos (by omega), ixn _ (by omega), h0]
  | succ d ih =>
    intro n μ hd hn C hp hall
    obtain ⟨n, rfl⟩ : ∃ q, n = q + 1 := ⟨n - 1, by omega⟩
    have hw := C.1.1.2.1
    have hen := hw.2.2.2.2.2.2.2.1
    obtain ⟨m1, a1, a2⟩ := counts_25 (k19 := B_X7_counts_19 n) D (h := d) (by omega) 1120 FU 0 μ (by omega) (FU_gt (by omega)) ⟨C.1, fun g k' h1 h2 h3 => hall g k' h1 h2 (by omega)⟩
    obtain ⟨m, b1, b2⟩ := ih n m1 (by omega) (by omega) ⟨a2.1, fun g k' h1 h2 h3 => a2.2 g k' h1 h2 (by omega)⟩ hp (fun g k' h1 h2 h3 => a2.2 g k' h1 h2 (by omega))
    refine ⟨m, ?_, b2⟩
    rw [B_X7_counts_19_s, F_X7_counts_19, wid (x := ((d + 1 : Nat) : Int) - 1) (by omega) (by omega), if_neg (by omega), show ((d + 1 : Nat) : Int) - 1 = (d : Int) by omega]
    exact a1.trans b1
/-- counts: what the class's table of ways says of the start -/
theorem counts_M {μ : Mi} {i : Bool} {c : Co} {S L : List Nat} {pm : Nat} {T : Tb} (P : Pm μ i c S L pm) (D : DP 4 c S L pm T) : ∃ m, D_X7_counts μ = some (max 0 (Tm c T 0 (sK c L)), m) ∧ Pm m i c S L pm ∧ (0 < Tm c T 0 (sK c L) → CI m i c S L pm T 0 1120) := by
  obtain ⟨r, m1, h1, h2, h3, h4, h5⟩ := finds_T (by omega) P D
  have hw := h2.2.1
  have hen := hw.2.2.2.2.2.2.2.1
  have hm := mi_le i
  unfold D_X7_counts
  rw [h1, bd_k]
  rcases h3 with rfl | rfl
  · rw [if_neg (by decide)]
    have hT : ¬ 0 ≤ Tm c T 0 (sK c L) := fun z => by have := h4.mpr z; omega
    exact ⟨m1, by rw [show max 0 (Tm c T 0 (sK c L)) = 0 by omega], h2, fun z => by omega⟩
  · have F := h5 rfl
    have hp : pMs c pm 0 (c 2 0).toNat = 0 := by
      have := (F.2.2.1 0 (sK c L) (by omega) (sK_VM hw F.1.2.2.1).1.1 F.2.2.2.2.2).2
      rw [(sK_VM (S := S) (pm := pm) hw F.1.2.2.1).2.1] at this
      exact this
    obtain ⟨m, b1, b2⟩ := counts_19 D ((c 2 2).toNat + 1) FU m1 (by omega) (FU_gt (by omega)) ⟨F, fun g k' h1 h2 h3 => by omega⟩ hp (fun g k' h1 h2 h3 => by omega)
    refine ⟨m, ?_, b2.1.1, fun _ => b2⟩
    rw [if_pos (by decide), F.1.2.2.2.1, wid (x := (mi i : Int)) (by omega) (by omega), if_pos (by omega), ixn (mi i) (by omega), F.1.1.2.2.2.2.1.2.2.1]
    rw [show (((c 2 2).toNat + 1 : Nat) : Int) - 1 = c 2 2 by omega] at b1
    exact b1
