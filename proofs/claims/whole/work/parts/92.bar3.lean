/-! PURE: barred: stamps -/
theorem sLn_mem (c : Co) (B : Nat) (w : Int) : ∀ (n t : Nat), t < n → kp c B t = true → c 24 t = w → ∃ q, q < (sLn c B w n).length ∧ (sLn c B w n).getD q 0 = t
  | 0, t, h, _, _ => by omega
  | n + 1, t, h, h1, h2 => by
    rw [sLn]
    by_cases e : t = n
    · subst e
      rw [if_pos ⟨h1, h2⟩]
      refine ⟨(sLn c B w t).length, ?_, getD_r⟩
      rw [List.length_append]
      show _ < _ + 1
      omega
    · obtain ⟨q, q1, q2⟩ := sLn_mem c B w n t (by omega) h1 h2
      split
      · exact ⟨q, by rw [List.length_append]; omega, by rw [getD_l q1]; exact q2⟩
      · exact ⟨q, q1, q2⟩
def trS (S : List Nat) (s : Nat) : Int := if s < S.length then ((S.getD s 0 : Nat) : Int) else -1
theorem beh_4 {i : Bool} {c : Co} {μ : Mi} (hw : WF c) (hc : cr μ i = c) {j : Nat} (_ : j ≤ (SL c 0).length) : ∀ (d n x : Nat), x + d = (c 2 3).toNat → d < n → (∀ q, q < j → (SL c 0).getD q 0 < x) → (∀ q, j ≤ q → q < (SL c 0).length → x ≤ (SL c 0).getD q 0) → B_X5_stampBehind_4 n i (x : Int) μ = some (trS (SL c 0) j) := by
  have hsz := hw.2.2.2.2.2.2.2.2.1
  have hlt : ∀ q, q < (SL c 0).length → (SL c 0).getD q 0 < (c 2 3).toNat := fun q hq => (sLn_at c 0 0 _ q hq).1
  intro d
  induction d with
  | zero =>
    intro n x hx hn h1 h2
    obtain ⟨n, rfl⟩ : ∃ q, n = q + 1 := ⟨n - 1, by omega⟩
    rw [B_X5_stampBehind_4_s, F_X5_stampBehind_4, cm hc (r := 2) (k := 3) (by omega), wid (x := c 2 3) (by omega) (by omega), wid (x := (x : Int)) (by omega) (by omega), if_pos (by omega)]
    unfold trS
    rw [if_neg (fun w => by
      have a := h2 j (Nat.le_refl _) w
      have b := hlt j w
      omega)]
  | succ d ih =>
    intro n x hx hn h1 h2
    obtain ⟨n, rfl⟩ : ∃ q, n = q + 1 := ⟨n - 1, by omega⟩
    rw [B_X5_stampBehind_4_s, F_X5_stampBehind_4, cm hc (r := 2) (k := 3) (by omega), wid (x := c 2 3) (by omega) (by omega), wid (x := (x : Int)) (by omega) (by omega), if_neg (by omega), counts_X hc hw (by omega) (by omega), bp_k]
    by_cases z : c 24 x = 0 ∧ c 29 x = 0
    · rw [if_neg (nb10 z)]
      have k0 : kp c 0 x = true := by unfold kp; rw [Nat.zero_testBit]; simpa using z.2
      obtain ⟨q, q1, q2⟩ := sLn_mem c 0 0 (c 2 3).toNat x (by omega) k0 z.1
      have q1' : q < (SL c 0).length := q1
      have q2' : (SL c 0).getD q 0 = x := q2
      have hqj : q = j := by
        rcases Nat.lt_trichotomy q j with w | w | w
        · have := h1 q w; omega
        · exact w
        · have a := h2 j (Nat.le_refl _) (by omega)
          have b : (SL c 0).getD j 0 < (SL c 0).getD q 0 := sLn_inc c 0 0 _ j q w q1
          omega
      unfold trS
      rw [← hqj, if_pos q1', q2']
    · rw [if_pos (yb10 z), show (x : Int) + 1 = ((x + 1 : Nat) : Int) by omega]
      refine ih n (x + 1) (by omega) (by omega) (fun q hq => by have := h1 q hq; omega) (fun q hq hl => ?_)
      have a := h2 q hq hl
      have b : (SL c 0).getD q 0 ≠ x := fun w => z (by
        have k := (sLn_at c 0 0 _ q hl).2
        have w' : (sLn c 0 0 (c 2 3).toNat).getD q 0 = x := w
        rw [w'] at k
        refine ⟨k.1, ?_⟩
        have k2 := k.2
        unfold kp at k2
        simp only [Bool.and_eq_true, decide_eq_true_eq] at k2
        exact k2.1)
      omega
theorem beh_0 {i : Bool} {c : Co} {μ : Mi} (hw : WF c) (hc : cr μ i = c) : D_X5_stampBehind i (-1) μ = some (trS (SL c 0) 0) := by
  have hsz := hw.2.2.2.2.2.2.2.2.1
  exact beh_4 hw hc (j := 0) (by omega) (c 2 3).toNat FU 0 (by omega) (FU_gt (by omega)) (fun q hq => by omega) (fun q _ _ => by omega)
theorem beh_s {i : Bool} {c : Co} {μ : Mi} (hw : WF c) (hc : cr μ i = c) {s : Nat} (hs : s < (SL c 0).length) : D_X5_stampBehind i (trS (SL c 0) s) μ = some (trS (SL c 0) (s + 1)) := by
  have hsz := hw.2.2.2.2.2.2.2.2.1
  have hlt : (SL c 0).getD s 0 < (c 2 3).toNat := (sLn_at c 0 0 _ s hs).1
  have inc : ∀ q x, q < x → x < (SL c 0).length → (SL c 0).getD q 0 < (SL c 0).getD x 0 := fun q x => sLn_inc c 0 0 _ q x
  have := beh_4 (i := i) hw hc (j := s + 1) (by omega) ((c 2 3).toNat - ((SL c 0).getD s 0 + 1)) FU ((SL c 0).getD s 0 + 1) (by omega) (FU_gt (by omega)) (fun q hq => by
    by_cases e : q = s
    · rw [e]; omega
    · have := inc q s (by omega) hs; omega) (fun q hq hl => by have := inc s q (by omega) hl; omega)
  unfold D_X5_stampBehind
  rw [show trS (SL c 0) s + 1 = (((SL c 0).getD s 0 + 1 : Nat) : Int) by unfold trS; rw [if_pos hs]; omega]
  exact this
theorem fitsT {i : Bool} {c : Co} {S : List Nat} {μ : Mi} (hw : WF c) (hc : cr μ i = c) (hS : ∀ q, q < S.length → ((S.getD q 0 : Nat) : Int) < c 2 3) {s : Nat} {land o day : Int} (h1 : -1 ≤ land ∧ land ≤ 100) (h2 : o = 0 ∨ o = 1) (h3 : -100 ≤ day ∧ day ≤ 100) : D_X2_stampFits i (trS S s) land o day μ = some (if sF c S s land o day then 1 else 0) := by
  unfold trS
  by_cases z : s < S.length
  · rw [if_pos z, fits_X hc hw (hS s z) h1 h2 h3]
    by_cases y : c 25 (S.getD s 0) = land ∧ c 28 (S.getD s 0) = o ∧ c 26 (S.getD s 0) ≤ day ∧ day ≤ c 27 (S.getD s 0)
    · rw [if_pos y, if_pos ⟨z, y⟩]
    · rw [if_neg y, if_neg (fun w => y w.2)]
  · rw [if_neg z, fits_N, if_neg (fun w => z w.1)]
def stO (c : Co) (S : List Nat) (k h s : Nat) : Int := if c 19 k = -1 then (s : Int) else if fO c S k h s then ((s + 1 : Nat) : Int) else -1
def stI (c : Co) (S : List Nat) (k h s : Nat) : Int := if c 20 k = -1 then (s : Int) else if fI c S k h s then ((s + 1 : Nat) : Int) else -1
def wSp (c : Co) (S : List Nat) (lk la : Nat → Nat) : Nat → Nat → Nat → Int
  | 0, _, s => if s = S.length then -1 else (s : Int)
  | d + 1, k, s => if stO c S (lk k) (la k) s < 0 then (s : Int) else if stI c S (lk k) (la k) (stO c S (lk k) (la k) s).toNat < 0 then stO c S (lk k) (la k) s else wSp c S lk la d (k + 1) (stI c S (lk k) (la k) (stO c S (lk k) (la k) s).toNat).toNat
theorem stO_r {c : Co} {S : List Nat} {k h s : Nat} (hs : s ≤ S.length) : -1 ≤ stO c S k h s ∧ stO c S k h s ≤ (S.length : Int) := by
  unfold stO
  split
  · omega
  · split
    · rename_i w; have := w.1; omega
    · omega
theorem stI_r {c : Co} {S : List Nat} {k h s : Nat} (hs : s ≤ S.length) : -1 ≤ stI c S k h s ∧ stI c S k h s ≤ (S.length : Int) := by
  unfold stI
  split
  · omega
  · split
    · rename_i w; have := w.1; omega
    · omega
theorem wsX {i : Bool} {c : Co} {lk la : Nat → Nat} {n : Nat} {μ : Mi} (hw : WF c) (h2 : WF2 c) (G : LG c lk la n) (y : SyX μ i c lk la n) : ∀ (d f k s : Nat), k + d = n → d < f → s ≤ (SL c 0).length → B_X5_wrongStamp_11 f i (s : Int) (trS (SL c 0) s) (k : Int) μ = some (wSp c (SL c 0) lk la d k s) := by
  have hs := Sk_of hw h2 0
  have hS6 := hs.1
  have hsz := hw.2.2.2.2.2.2.2.2.1
  have hnl := hw.2.1
  have htw := hw.1
  have hn20 := G.1
  have hS := hs.2.2.1
  have htr : ∀ q, -1 ≤ trS (SL c 0) q ∧ trS (SL c 0) q ≤ 8 ∧ (trS (SL c 0) q = -1 ↔ (SL c 0).length ≤ q) := fun q => by
    unfold trS
    by_cases z : q < (SL c 0).length
    · have := hS q z
      rw [if_pos z]
      exact ⟨by omega, by omega, by omega⟩
    · rw [if_neg z]
      exact ⟨by omega, by omega, by omega⟩
  intro d
  induction d with
  | zero =>
    intro f k s hk hf hsl
    obtain ⟨f, rfl⟩ : ∃ q, f = q + 1 := ⟨f - 1, by omega⟩
    have t := htr s
    rw [B_X5_wrongStamp_11_s, F_X5_wrongStamp_11, y.2.1, wid (x := (n : Int)) (by omega) (by omega), wid (x := (k : Int)) (by omega) (by omega), if_pos (by omega), wid (x := trS (SL c 0) s) (by omega) (by omega), wSp]
    by_cases z : s = (SL c 0).length
    · rw [if_neg (show ¬ ¬ trS (SL c 0) s = -1 by omega), if_pos z]
    · rw [if_pos (show ¬ trS (SL c 0) s = -1 by omega), if_neg z]
  | succ d ih =>
    intro f k s hk hf hsl
    obtain ⟨f, rfl⟩ : ∃ q, f = q + 1 := ⟨f - 1, by omega⟩
    have hkn : k < n := by omega
    obtain ⟨g1, g2⟩ := G.2 k hkn
    obtain ⟨y1, y2⟩ := y.2.2 k hkn
    obtain ⟨⟨k1, k2⟩, ⟨k3, k4⟩, -, -, ⟨k7, k8⟩, -, k9, k10, k11⟩ := hw.2.2.2.1 (lk k) g1
    have hlb : 0 ≤ (lk k : Int) ∧ (lk k : Int) < 16 := by omega
    have hkb : 0 ≤ (k : Int) ∧ (k : Int) < 20 := by omega
    have d1 := dayAt_X (i := i) y.1 hw (h := la k) (t := (c 13 (lk k)).toNat) (by omega) (by omega)
    have d1r := dayC_rng hw (h := la k) (t := (c 13 (lk k)).toNat) (by omega) (by omega)
    have d2 := dayAt_X (i := i) y.1 hw (h := la k + (c 16 (lk k)).toNat) (t := (c 14 (lk k)).toNat) (by omega) (by omega)
    have d2r := dayC_rng hw (h := la k + (c 16 (lk k)).toNat) (t := (c 14 (lk k)).toNat) (by omega) (by omega)
    rw [show (((c 13 (lk k)).toNat : Nat) : Int) = c 13 (lk k) by omega] at d1
    rw [show (((c 14 (lk k)).toNat : Nat) : Int) = c 14 (lk k) by omega, show ((la k + (c 16 (lk k)).toNat : Nat) : Int) = (la k : Int) + c 16 (lk k) by omega] at d2
    have h116 : ∀ s1 : Nat, s1 ≤ (SL c 0).length → B_X5_wrongStamp_116 (B_X5_wrongStamp_11 f) i (s1 : Int) (trS (SL c 0) s1) (k : Int) (lk k : Int) ((la k : Int) + c 16 (lk k)) μ = some (if stI c (SL c 0) (lk k) (la k) s1 < 0 then (s1 : Int) else wSp c (SL c 0) lk la d (k + 1) (stI c (SL c 0) (lk k) (la k) s1).toNat) := fun s1 hs1 => by
      have e179 : ∀ q : Nat, q ≤ (SL c 0).length → B_X5_wrongStamp_179 (B_X5_wrongStamp_11 f) i (q : Int) (trS (SL c 0) q) (k : Int) μ = some (wSp c (SL c 0) lk la d (k + 1) q) := fun q hq => by
        unfold B_X5_wrongStamp_179
        rw [show (k : Int) + 1 = ((k + 1 : Nat) : Int) by omega]
        exact ih f (k + 1) q (by omega) (by omega) hq
      unfold B_X5_wrongStamp_116
      rw [wid (x := (lk k : Int)) (by omega) (by omega), if_pos hlb, if_pos hlb, if_pos hlb, ixn (lk k) (by omega), ca y.1 (r := 20) (by omega), ca y.1 (r := 14) (by omega), wid (x := c 20 (lk k)) (by omega) (by omega), d2, bp_k, fitsT hw y.1 hS (by omega) (Or.inl rfl) (by omega), bp_k]
      unfold stI
      by_cases z : c 20 (lk k) = -1
      · rw [if_pos z, if_pos z, if_neg (by omega), e179 s1 hs1]
        rfl
      · rw [if_neg z, if_neg z]
        by_cases w : fI c (SL c 0) (lk k) (la k) s1
        · have hw1 := w.1
          rw [if_pos (fun q => nb10 w q), if_pos w, if_neg (by omega), beh_s hw y.1 w.1, bp_k, show (s1 : Int) + 1 = ((s1 + 1 : Nat) : Int) by omega, e179 (s1 + 1) (by omega)]
          rfl
        · rw [if_neg (fun q => q (yb10 w)), if_neg w, if_pos (by decide)]
    rw [B_X5_wrongStamp_11_s, F_X5_wrongStamp_11, y.2.1, wid (x := (n : Int)) (by omega) (by omega), wid (x := (k : Int)) (by omega) (by omega), if_neg (by omega), if_pos hkb, if_pos hkb, ixn k (by omega), y1, y2, wid (x := (lk k : Int)) (by omega) (by omega), if_pos hlb, if_pos hlb, if_pos hlb, if_pos hlb, ixn (lk k) (by omega), ca y.1 (r := 19) (by omega), ca y.1 (r := 13) (by omega), ca y.1 (r := 16) (by omega), wid (x := c 19 (lk k)) (by omega) (by omega), d1, bp_k, fitsT hw y.1 hS (by omega) (Or.inr rfl) (by omega), bp_k, wSp]
    unfold stO
    by_cases z : c 19 (lk k) = -1
    · rw [if_pos z, if_pos z, if_neg (by omega), h116 s hsl]
      rfl
    · rw [if_neg z, if_neg z]
      by_cases w : fO c (SL c 0) (lk k) (la k) s
      · have hw1 := w.1
        rw [if_pos (fun q => nb10 w q), if_pos w, if_neg (by omega), beh_s hw y.1 w.1, bp_k, show (s : Int) + 1 = ((s + 1 : Nat) : Int) by omega, h116 (s + 1) (by omega)]
        rfl
      · rw [if_neg (fun q => q (yb10 w)), if_neg w, if_pos (by decide)]
theorem wsM {i : Bool} {c : Co} {S L : List Nat} {pm : Nat} {lk la : Nat → Nat} {n : Nat} {μ : Mi} (G : LG c lk la n) (y : SyM μ i c S L pm lk la n) : ∀ (d f k s : Nat), k + d = n → d < f → s ≤ S.length → B_X7_wrongStamp_4 f (s : Int) (k : Int) μ = some (wSp c S lk la d k s) := by
  have P := y.1
  have hw := P.2.1
  have hS6 := P.2.2.1.1
  have hnl := hw.2.1
  have htw := hw.1
  have hn20 := G.1
  have hla0 := hw.2.2.1
  intro d
  induction d with
  | zero =>
    intro f k s hk hf hsl
    obtain ⟨f, rfl⟩ : ∃ q, f = q + 1 := ⟨f - 1, by omega⟩
    rw [B_X7_wrongStamp_4_s, F_X7_wrongStamp_4, y.2.1, wid (x := (n : Int)) (by omega) (by omega), wid (x := (k : Int)) (by omega) (by omega), if_pos (by omega), P.2.2.2.2.1, wid (x := (s : Int)) (by omega) (by omega), wid (x := ((S.length : Nat) : Int)) (by omega) (by omega), wSp]
    by_cases z : s = S.length
    · rw [if_neg (show ¬ ¬ (s : Int) = ((S.length : Nat) : Int) by omega), if_pos z]
    · rw [if_pos (show ¬ (s : Int) = ((S.length : Nat) : Int) by omega), if_neg z]
  | succ d ih =>
    intro f k s hk hf hsl
    obtain ⟨f, rfl⟩ : ∃ q, f = q + 1 := ⟨f - 1, by omega⟩
    have hkn : k < n := by omega
    obtain ⟨g1, g2⟩ := G.2 k hkn
    obtain ⟨y1, y2⟩ := y.2.2 k hkn
    obtain ⟨⟨k1, k2⟩, ⟨k3, k4⟩, -, -, ⟨k7, k8⟩, -, k9, k10, k11⟩ := hw.2.2.2.1 (lk k) g1
    obtain ⟨o1, o2, o3, o4, o5, o6, o7, o8⟩ := P.1.2.2.2.1 (lk k) g1
    obtain ⟨a, ha⟩ : ∃ a : Nat, c 13 (lk k) = (a : Int) := ⟨(c 13 (lk k)).toNat, by omega⟩
    obtain ⟨b, hb⟩ : ∃ b : Nat, c 14 (lk k) = (b : Int) := ⟨(c 14 (lk k)).toNat, by omega⟩
    have ea : (c 13 (lk k)).toNat = a := by omega
    have eb : (c 14 (lk k)).toNat = b := by omega
    rw [ea, eb] at o7 o8
    obtain ⟨a1, a2⟩ := P.1.2.2.1 a (by omega)
    obtain ⟨b1, b2⟩ := P.1.2.2.1 b (by omega)
    obtain ⟨-, la1, la2⟩ := hw.2.2.2.2.1 a (by omega)
    obtain ⟨-, lb1, lb2⟩ := hw.2.2.2.2.1 b (by omega)
    obtain ⟨La, hLa⟩ : ∃ x : Nat, c 11 a = (x : Int) := ⟨(c 11 a).toNat, by omega⟩
    obtain ⟨Lb, hLb⟩ : ∃ x : Nat, c 11 b = (x : Int) := ⟨(c 11 b).toNat, by omega⟩
    have hkb : 0 ≤ (k : Int) ∧ (k : Int) < 20 := by omega
    have l0 := ofLink_M (μ := μ) (lk k) 0 (by omega) (by omega)
    have l1 := ofLink_M (μ := μ) (lk k) 1 (by omega) (by omega)
    have l3 := ofLink_M (μ := μ) (lk k) 3 (by omega) (by omega)
    rw [Nat.add_zero, o1, ha, show ((0 : Nat) : Int) = 0 from rfl] at l0
    rw [o2, hb, show ((1 : Nat) : Int) = 1 from rfl] at l1
    rw [o4, show ((3 : Nat) : Int) = 3 from rfl] at l3
    have e141 : ∀ q : Nat, q ≤ S.length → B_X7_wrongStamp_141 (B_X7_wrongStamp_4 f) (q : Int) (k : Int) μ = some (wSp c S lk la d (k + 1) q) := fun q hq => by
      unfold B_X7_wrongStamp_141
      rw [show (k : Int) + 1 = ((k + 1 : Nat) : Int) by omega]
      exact ih f (k + 1) q (by omega) (by omega) hq
    have hab : 0 ≤ (a : Int) ∧ (a : Int) < 8 := by omega
    have hbb : 0 ≤ (b : Int) ∧ (b : Int) < 8 := by omega
    have pre : B_X7_wrongStamp_4 (f + 1) (s : Int) (k : Int) μ = B_X7_wrongStamp_40 (B_X7_wrongStamp_4 f) (999999 + 1) (s : Int) (k : Int) (a : Int) (b : Int) 0 μ := by
      rw [B_X7_wrongStamp_4_s, F_X7_wrongStamp_4, y.2.1, wid (x := (n : Int)) (by omega) (by omega), wid (x := (k : Int)) (by omega) (by omega), if_neg (by omega), if_pos hkb, ixn k (by omega), y1, l0, bp_k, if_pos hkb, l1, bp_k]
      rfl
    rw [pre, wSp, B_X7_wrongStamp_40_s, F_X7_wrongStamp_40, if_neg (by decide), wid (x := (a : Int)) (by omega) (by omega), wid (x := (b : Int)) (by omega) (by omega), if_pos hab, if_pos hbb, if_pos hab, ixn a (by omega), ixn b (by omega), a1, b1, hLa, hLb, wid (x := (La : Int)) (by omega) (by omega), wid (x := (Lb : Int)) (by omega) (by omega)]
    unfold stLc at o7 o8
    rw [hLa, hLb] at o7
    rw [hLa, hLb] at o8
    by_cases z : (La : Int) = (Lb : Int)
    · rw [if_pos z] at o7 ⊢
      rw [if_pos z.symm] at o8
      unfold stO stI
      rw [if_pos o7, if_neg (by omega), if_pos o8, if_neg (by omega), e141 s hsl]
      rfl
    · rw [if_neg z] at o7 ⊢
      rw [if_neg (fun w => z w.symm)] at o8
      have sO := stamped_M P (s := s) (land := La) (h := la k) (t := a) (o := 1) hsl (by omega) (by omega) (by omega) (by omega)
      have eO : (if c 10 La / ((2 ^ 1 : Nat) : Int) % 2 = 1 then (if sF c S s (La : Int) ((1 : Nat) : Int) (dayC c (la k) a) then (s : Int) + 1 else -1) else (s : Int)) = stO c S (lk k) (la k) s := by
        unfold stO fO
        rw [show ((La : Int)).toNat = La by omega] at o7
        rw [ea]
        by_cases u : c 10 La / 2 % 2 = 1
        · rw [if_pos u] at o7
          rw [if_pos (by exact u), o7, if_neg (show ¬ (La : Int) = -1 by omega)]
          rw [show (s : Int) + 1 = ((s + 1 : Nat) : Int) by omega]
          rfl
        · rw [if_neg u] at o7
          rw [if_neg (by exact u), o7, if_pos rfl]
      rw [eO, show ((1 : Nat) : Int) = 1 from rfl] at sO
      have rO := stO_r (c := c) (k := lk k) (h := la k) hsl
      rw [if_neg (by decide), wid (x := (k : Int)) (by omega) (by omega), if_pos hkb, ixn k (by omega), y2, sO, bp_k]
      unfold B_X7_wrongStamp_122
      rw [wid (x := stO c S (lk k) (la k) s) (by omega) (by omega)]
      by_cases u : stO c S (lk k) (la k) s < 0
      · rw [if_neg (by omega), if_pos u]
      · rw [if_pos (by omega), if_neg u]
        obtain ⟨s1, hs1⟩ : ∃ s1 : Nat, stO c S (lk k) (la k) s = (s1 : Int) := ⟨(stO c S (lk k) (la k) s).toNat, by omega⟩
        rw [hs1]
        rw [hs1] at rO
        show B_X7_wrongStamp_40 (B_X7_wrongStamp_4 f) (999998 + 1) (s1 : Int) (k : Int) (a : Int) (b : Int) (0 + 1) μ = _
        rw [B_X7_wrongStamp_40_s, F_X7_wrongStamp_40, if_neg (by decide), wid (x := (a : Int)) (by omega) (by omega), wid (x := (b : Int)) (by omega) (by omega), if_pos hab, if_pos hbb, if_pos hbb, ixn a (by omega), ixn b (by omega), a1, b1, hLa, hLb, wid (x := (La : Int)) (by omega) (by omega), wid (x := (Lb : Int)) (by omega) (by omega), if_neg z, if_pos (by decide), wid (x := (k : Int)) (by omega) (by omega), if_pos hkb, if_pos hkb, ixn k (by omega), y1, l3, bp_k, y2]
        have sI := stamped_M P (s := s1) (land := Lb) (h := la k + (c 16 (lk k)).toNat) (t := b) (o := 0) (by omega) (by omega) (by omega) (by omega) (by omega)
        have eI : (if c 10 Lb / ((2 ^ 0 : Nat) : Int) % 2 = 1 then (if sF c S s1 (Lb : Int) ((0 : Nat) : Int) (dayC c (la k + (c 16 (lk k)).toNat) b) then (s1 : Int) + 1 else -1) else (s1 : Int)) = stI c S (lk k) (la k) s1 := by
          unfold stI fI
          rw [show ((Lb : Int)).toNat = Lb by omega] at o8
          rw [eb]
          by_cases u : c 10 Lb / 1 % 2 = 1
          · rw [if_pos u] at o8
            rw [if_pos (by exact u), o8, if_neg (show ¬ (Lb : Int) = -1 by omega)]
            rw [show (s1 : Int) + 1 = ((s1 + 1 : Nat) : Int) by omega]
            rfl
          · rw [if_neg u] at o8
            rw [if_neg (by exact u), o8, if_pos rfl]
        rw [eI, show ((0 : Nat) : Int) = 0 from rfl, show ((la k + (c 16 (lk k)).toNat : Nat) : Int) = (la k : Int) + c 16 (lk k) by omega] at sI
        have rI := stI_r (c := c) (S := S) (k := lk k) (h := la k) (s := s1) (by omega)
        rw [sI, bp_k]
        unfold B_X7_wrongStamp_122
        rw [wid (x := stI c S (lk k) (la k) s1) (by omega) (by omega), show ((s1 : Int)).toNat = s1 by omega]
        by_cases v : stI c S (lk k) (la k) s1 < 0
        · rw [if_neg (by omega), if_pos v]
        · rw [if_pos (by omega), if_neg v]
          obtain ⟨s2, hs2⟩ : ∃ s2 : Nat, stI c S (lk k) (la k) s1 = (s2 : Int) := ⟨(stI c S (lk k) (la k) s1).toNat, by omega⟩
          rw [hs2]
          show B_X7_wrongStamp_40 (B_X7_wrongStamp_4 f) (999997 + 1) (s2 : Int) (k : Int) (a : Int) (b : Int) (0 + 1 + 1) μ = _
          rw [B_X7_wrongStamp_40_s, F_X7_wrongStamp_40, if_pos (by decide), e141 s2 (by omega)]
          rfl
