/-! PURE: doubts: what the sets are -/
def stU (c : Co) (s q : Nat) : Prop := ∃ x, s ≤ x ∧ x < (SL c 0).length ∧ (SL c 0).getD x 0 = q
def paU (c : Co) (h q : Nat) : Prop := (PM c 0).testBit q = true ∧ (h : Int) ≤ c 26 q
def lkU (c : Co) (e q : Nat) : Prop := ∃ x, x < (LL c 0).length ∧ (LL c 0).getD x 0 = q ∧ e.testBit x = false
/-- the traces that lie ahead -/
def rsU (c : Co) (h s e q : Nat) : Prop := stU c s q ∨ paU c h q ∨ lkU c e q
def rsB (B : Nat) (c : Co) (h s e q : Nat) : Prop := B.testBit q = true ∧ rsU c h s e q
theorem SL_k {c : Co} {x : Nat} (h : x < (SL c 0).length) : c 24 ((SL c 0).getD x 0) = 0 := (sLn_at c 0 0 _ x h).2.1
theorem LL_k {c : Co} {x : Nat} (h : x < (LL c 0).length) : c 24 ((LL c 0).getD x 0) = 2 := (sLn_at c 0 2 _ x h).2.1
theorem PM_k {c : Co} {q : Nat} (h : (PM c 0).testBit q = true) : c 24 q = 1 := by
  unfold PM at h
  rw [mb_bit] at h
  unfold pmk at h
  simp only [Bool.and_eq_true, decide_eq_true_eq] at h
  exact h.2.2.1
theorem stU.k {c : Co} {s q : Nat} (h : stU c s q) : c 24 q = 0 := by
  obtain ⟨x, h1, h2, rfl⟩ := h
  exact SL_k h2
theorem paU.k {c : Co} {s q : Nat} (h : paU c s q) : c 24 q = 1 := PM_k h.1
theorem lkU.k {c : Co} {s q : Nat} (h : lkU c s q) : c 24 q = 2 := by
  obtain ⟨x, h1, rfl, h2⟩ := h
  exact LL_k h1
theorem stU.up {c : Co} {s s' q : Nat} (h : stU c s' q) (hs : s ≤ s') : stU c s q := by
  obtain ⟨x, h1, h2⟩ := h
  exact ⟨x, by omega, h2⟩
theorem paU.up {c : Co} {h h' q : Nat} (p : paU c h' q) (hh : h ≤ h') : paU c h q := ⟨p.1, by have := p.2; omega⟩
theorem lkU.up {c : Co} {e m q : Nat} (p : lkU c (e ||| m) q) : lkU c e q := by
  obtain ⟨x, h1, h2, h3⟩ := p
  rw [Nat.testBit_or, Bool.or_eq_false_iff] at h3
  exact ⟨x, h1, h2, h3.1⟩
theorem SL_ne {c : Co} {x s : Nat} (h1 : s < x) (h2 : x < (SL c 0).length) : ¬ (SL c 0).getD x 0 = (SL c 0).getD s 0 := by
  have := sLn_inc c 0 0 _ s x h1 h2
  unfold SL
  omega
def erB (B : Nat) (c : Co) (e e' : Nat) : Prop := ∀ q, q < (LL c 0).length → B.testBit ((LL c 0).getD q 0) = false → e'.testBit (psB B (LL c 0) q) = e.testBit q
theorem erB.or {B : Nat} {c : Co} {e e' m m' : Nat} (h1 : erB B c e e') (h2 : erB B c m m') : erB B c (e ||| m) (e' ||| m') := fun q hq hb => by
  rw [Nat.testBit_or, Nat.testBit_or, h1 q hq hb, h2 q hq hb]
theorem erB_sa {B : Nat} {c : Co} {h t : Nat} : erB B c (sa c (LL c 0) h t) (sa c (LL c B) h t) := fun q hq hb => by
  obtain ⟨a, b⟩ := psB_get B (LL c 0) q hq hb
  unfold sa
  rw [LL_fl, mb_bit, mb_bit, decide_eq_true hq, decide_eq_true a]
  unfold lkp
  rw [b]
theorem pMs_bit {c : Co} {pm h t q : Nat} : (pMs c pm h t).testBit q = true ↔ (q : Int) < c 2 3 ∧ pm.testBit q = true ∧ c 26 q = (h : Int) ∧ ¬ c 25 q = (t : Int) := by
  unfold pMs
  rw [mb_bit]
  unfold pmp
  simp only [Bool.and_eq_true, decide_eq_true_eq]
  constructor
  · rintro ⟨a, b, d⟩; exact ⟨by omega, b, d⟩
  · rintro ⟨a, b, d⟩; exact ⟨by omega, b, d⟩
theorem pBt_bit {c : Co} {pm k h q : Nat} : (pBt c pm k h).testBit q = true ↔ (q : Int) < c 2 3 ∧ pm.testBit q = true ∧ (h : Int) < c 26 q ∧ c 26 q < (h : Int) + c 16 k := by
  unfold pBt
  rw [mb_bit]
  unfold pbp
  simp only [Bool.and_eq_true, decide_eq_true_eq]
  constructor
  · rintro ⟨a, b, d⟩; exact ⟨by omega, b, d⟩
  · rintro ⟨a, b, d⟩; exact ⟨by omega, b, d⟩
theorem zbit {m : Nat} : m = 0 ↔ ∀ q, ¬ m.testBit q = true := by
  constructor
  · intro h q
    rw [h, Nat.zero_testBit]
    decide
  · intro h
    exact Nat.eq_of_testBit_eq (fun q => by
      rw [Nat.zero_testBit]
      have := h q
      simpa using this)
/-- the papers missed without B are those missed of B -/
theorem pMs_B {c : Co} {B h t : Nat} : pMs c (PM c B) h t = 0 ↔ ∀ q, (pMs c (PM c 0) h t).testBit q = true → B.testBit q = true := by
  rw [zbit]
  constructor
  · intro h1 q h2
    have h3 := h1 q
    rw [pMs_bit, PM_bit] at h3
    rw [pMs_bit] at h2
    refine Decidable.byContradiction fun w => h3 ⟨h2.1, ⟨h2.2.1, by simpa using w⟩, h2.2.2⟩
  · intro h1 q h2
    rw [pMs_bit, PM_bit] at h2
    have := h1 q (pMs_bit.mpr ⟨h2.1, h2.2.1.1, h2.2.2⟩)
    rw [h2.2.1.2] at this
    cases this
theorem pBt_B {c : Co} {B k h : Nat} : pBt c (PM c B) k h = 0 ↔ ∀ q, (pBt c (PM c 0) k h).testBit q = true → B.testBit q = true := by
  rw [zbit]
  constructor
  · intro h1 q h2
    have h3 := h1 q
    rw [pBt_bit, PM_bit] at h3
    rw [pBt_bit] at h2
    refine Decidable.byContradiction fun w => h3 ⟨h2.1, ⟨h2.2.1, by simpa using w⟩, h2.2.2⟩
  · intro h1 q h2
    rw [pBt_bit, PM_bit] at h2
    have := h1 q (pBt_bit.mpr ⟨h2.1, h2.2.1.1, h2.2.2⟩)
    rw [h2.2.1.2] at this
    cases this
theorem mT_bit {c : Co} {S : List Nat} {pm k h s q : Nat} : ∀ j, (mT c S pm k h s j).testBit q = true ↔ (pBt c pm k h).testBit q = true ∨ ∃ y, y < j ∧ s0A c k s + y < S.length ∧ S.getD (s0A c k s + y) 0 = q
  | 0 => ⟨fun h => Or.inl h, fun h => h.elim id (fun ⟨y, hy, _⟩ => by omega)⟩
  | j + 1 => by
    have ih := mT_bit (c := c) (S := S) (pm := pm) (k := k) (h := h) (s := s) (q := q) j
    rw [mT]
    split
    · rename_i z
      rw [Nat.testBit_or, Bool.or_eq_true, ih, two_bit]
      constructor
      · rintro ((w | ⟨y, w1, w2⟩) | w)
        · exact Or.inl w
        · exact Or.inr ⟨y, by omega, w2⟩
        · exact Or.inr ⟨j, by omega, z, w.symm⟩
      · rintro (w | ⟨y, w1, w2, w3⟩)
        · exact Or.inl (Or.inl w)
        · by_cases e : y = j
          · subst e; exact Or.inr w3.symm
          · exact Or.inl (Or.inr ⟨y, by omega, w2, w3⟩)
    · rename_i z
      rw [ih]
      constructor
      · rintro (w | ⟨y, w1, w2⟩)
        · exact Or.inl w
        · exact Or.inr ⟨y, by omega, w2⟩
      · rintro (w | ⟨y, w1, w2, w3⟩)
        · exact Or.inl w
        · have : y ≠ j := fun e => by subst e; exact z w2
          exact Or.inr ⟨y, by omega, w2, w3⟩
theorem ml_bit {L : List Nat} {e q : Nat} : ∀ n, (ml L e n).testBit q = true ↔ ∃ x, x < n ∧ e.testBit x = false ∧ L.getD x 0 = q
  | 0 => ⟨fun h => (by rw [ml, Nat.zero_testBit] at h; cases h), fun ⟨x, hx, _⟩ => (by omega)⟩
  | n + 1 => by
    have ih := ml_bit (L := L) (e := e) (q := q) n
    rw [ml]
    split
    · rename_i z
      rw [ih]
      constructor
      · rintro ⟨x, w1, w2⟩; exact ⟨x, by omega, w2⟩
      · rintro ⟨x, w1, w2, w3⟩
        have : x ≠ n := fun e => by subst e; rw [z] at w2; cases w2
        exact ⟨x, by omega, w2, w3⟩
    · rename_i z
      rw [Nat.testBit_or, Bool.or_eq_true, ih, two_bit]
      constructor
      · rintro (⟨x, w1, w2⟩ | w)
        · exact ⟨x, by omega, w2⟩
        · exact ⟨n, by omega, by simpa using z, w.symm⟩
      · rintro ⟨x, w1, w2, w3⟩
        by_cases e1 : x = n
        · subst e1; exact Or.inr w3.symm
        · exact Or.inl ⟨x, by omega, w2, w3⟩
/-- the looks missed without B are those missed of B -/
theorem ml_B {c : Co} {B e e' : Nat} (er : erB B c e e') : ml (LL c B) e' (LL c B).length = 0 ↔ ∀ q, (ml (LL c 0) e (LL c 0).length).testBit q = true → B.testBit q = true := by
  rw [zbit, LL_fl]
  constructor
  · intro h1 q h2
    obtain ⟨x, x1, x2, rfl⟩ := (ml_bit _).mp h2
    refine Decidable.byContradiction fun w => ?_
    have w' : B.testBit ((LL c 0).getD x 0) = false := by simpa using w
    obtain ⟨a, b⟩ := psB_get B (LL c 0) x x1 w'
    exact h1 _ ((ml_bit _).mpr ⟨psB B (LL c 0) x, a, by rw [er x x1 w']; exact x2, rfl⟩)
  · intro h1 q h2
    obtain ⟨y, y1, y2, y3⟩ := (ml_bit _).mp h2
    obtain ⟨x, x1, x2, x3⟩ := psB_surj B (LL c 0) y y1
    have := h1 ((LL c 0).getD x 0) ((ml_bit _).mpr ⟨x, x1, by rw [← er x x1 x2, x3]; exact y2, rfl⟩)
    rw [x2] at this
    cases this
abbrev fO (c : Co) (S : List Nat) (k h s : Nat) : Prop := sF c S s (c 19 k) 1 (dayC c h (c 13 k).toNat)
abbrev fI (c : Co) (S : List Nat) (k h s : Nat) : Prop := sF c S s (c 20 k) 0 (dayC c (h + (c 16 k).toNat) (c 14 k).toNat)
theorem nT_iff {c : Co} {S : List Nat} {k h s p : Nat} : (0 ≤ nT c S k h s p ↔ (¬ c 19 k = -1 → fO c S k h s) ∧ (¬ c 20 k = -1 → fI c S k h (s0A c k s + p))) ∧ (0 ≤ nT c S k h s p → (nT c S k h s p).toNat = s0A c k s + p + (if c 20 k = -1 then 0 else 1)) := by
  unfold nT s0A
  by_cases w : (¬ c 19 k = -1 ∧ ¬ sF c S s (c 19 k) 1 (dayC c h (c 13 k).toNat)) ∨ (¬ c 20 k = -1 ∧ ¬ sF c S ((s + if c 19 k = -1 then 0 else 1) + p) (c 20 k) 0 (dayC c (h + (c 16 k).toNat) (c 14 k).toNat))
  · rw [if_pos w]
    refine ⟨⟨fun z => by omega, fun z => ?_⟩, fun z => by omega⟩
    rcases w with ⟨w1, w2⟩ | ⟨w1, w2⟩
    · exact absurd (z.1 w1) w2
    · exact absurd (z.2 w1) w2
  · rw [if_neg w]
    refine ⟨⟨fun _ => ⟨fun z => Decidable.byContradiction fun y => w (Or.inl ⟨z, y⟩), fun z => Decidable.byContradiction fun y => w (Or.inr ⟨z, y⟩)⟩, fun _ => by omega⟩, fun _ => by omega⟩
theorem sF_fl {B : Nat} {c : Co} {S : List Nat} {s : Nat} {land o day : Int} (h1 : s < S.length) (h2 : B.testBit (S.getD s 0) = false) : sF c (flB B S) (psB B S s) land o day ↔ sF c S s land o day := by
  obtain ⟨a, b⟩ := psB_get B S s h1 h2
  unfold sF
  rw [b]
  exact ⟨fun w => ⟨h1, w.2⟩, fun w => ⟨a, w.2⟩⟩
theorem s0_ps {B : Nat} {c : Co} {S : List Nat} {k s : Nat} (h : ¬ c 19 k = -1 → s < S.length ∧ B.testBit (S.getD s 0) = false) (hs : s ≤ S.length) : psB B S (s0A c k s) = s0A c k (psB B S s) ∧ s0A c k s ≤ S.length := by
  unfold s0A
  by_cases z : c 19 k = -1
  · rw [if_pos z]
    exact ⟨rfl, hs⟩
  · obtain ⟨a, b⟩ := h z
    rw [if_neg z, psB_step B S s a, b]
    exact ⟨rfl, by omega⟩
/-- a link without B is one that passes over those of B -/
theorem nT_B {B : Nat} {c : Co} {S : List Nat} {k h s : Nat} (hs : s ≤ S.length) (hB : s < S.length → B.testBit (S.getD s 0) = false) (h0 : 0 ≤ nT c (flB B S) k h (psB B S s) 0) : ∃ p, p < nP 5 c S k s ∧ 0 ≤ nT c S k h s p ∧ psB B S (nT c S k h s p).toNat = (nT c (flB B S) k h (psB B S s) 0).toNat ∧ (∀ y, y < p → s0A c k s + y < S.length ∧ B.testBit (S.getD (s0A c k s + y) 0) = true) ∧ s0A c k s + p ≤ (nT c S k h s p).toNat := by
  obtain ⟨n1, n2⟩ := nT_iff.1.mp h0
  have n3 := nT_iff.2 h0
  have hout : ¬ c 19 k = -1 → s < S.length ∧ B.testBit (S.getD s 0) = false := fun z => by
    have h1 := (n1 z).1
    have : s < S.length := Decidable.byContradiction fun w => by
      rw [psB_end B S s (by omega)] at h1
      omega
    exact ⟨this, hB this⟩
  obtain ⟨e1, e2⟩ := s0_ps (k := k) (c := c) hout hs
  rw [← e1] at n2 n3
  have f1 : ¬ c 19 k = -1 → fO c S k h s := fun z => (sF_fl (hout z).1 (hout z).2).mp (n1 z)
  by_cases z : c 20 k = -1
  · have hn := (nT_iff (c := c) (S := S) (k := k) (h := h) (s := s) (p := 0)).1.mpr ⟨f1, fun w => absurd z w⟩
    have hv := nT_iff.2 hn
    rw [if_pos z] at hv n3
    refine ⟨0, ?_, hn, ?_, fun y hy => by omega, by omega⟩
    · unfold nP
      rw [if_neg (fun w => w.2 z)]
      omega
    · rw [hv, n3]
      rfl
  · have f2 := n2 z
    obtain ⟨x, x1, x2, x3⟩ := psB_surj B S _ f2.1
    rw [Nat.add_zero] at x3
    have hx : s0A c k s ≤ x := Decidable.byContradiction fun w => by
      have h1 := psB_step B S x x1
      rw [x2] at h1
      have h2 := psB_mono B S (s0A c k s - (x + 1)) (x + 1)
      rw [show x + 1 + (s0A c k s - (x + 1)) = s0A c k s by omega] at h2
      simp at h1
      omega
    obtain ⟨p, rfl⟩ : ∃ p, x = s0A c k s + p := ⟨x - s0A c k s, by omega⟩
    have hfI : fI c S k h (s0A c k s + p) := (sF_fl x1 x2).mp (by rw [x3]; exact f2)
    have hn := (nT_iff (c := c) (S := S) (k := k) (h := h) (s := s) (p := p)).1.mpr ⟨f1, fun _ => hfI⟩
    have hv := nT_iff.2 hn
    rw [if_neg z] at hv n3
    refine ⟨p, ?_, hn, ?_, fun y hy => ⟨by omega, ?_⟩, by omega⟩
    · unfold nP
      rw [if_pos ⟨rfl, z⟩]
      omega
    · rw [hv, n3, psB_step B S _ x1, x2, x3]
      rfl
    · refine Decidable.byContradiction fun w => ?_
      have w' : B.testBit (S.getD (s0A c k s + y) 0) = false := by simpa using w
      have h1 := psB_step B S (s0A c k s + y) (by omega)
      rw [w'] at h1
      have h2 := psB_mono B S y (s0A c k s)
      have h3 := psB_mono B S (p - (y + 1)) (s0A c k s + y + 1)
      rw [show s0A c k s + y + 1 + (p - (y + 1)) = s0A c k s + p by omega] at h3
      simp at h1
      omega
theorem nT_A {B : Nat} {c : Co} {S : List Nat} {k h s j : Nat} (hs : s ≤ S.length) (hj : j = 0 ∨ ¬ c 20 k = -1) (h0 : 0 ≤ nT c S k h s j) (h1 : ¬ c 19 k = -1 → B.testBit (S.getD s 0) = false) (h2 : ∀ y, y < j → s0A c k s + y < S.length → B.testBit (S.getD (s0A c k s + y) 0) = true) (h3 : ¬ c 20 k = -1 → B.testBit (S.getD (s0A c k s + j) 0) = false) : 0 ≤ nT c (flB B S) k h (psB B S s) 0 ∧ psB B S (nT c S k h s j).toNat = (nT c (flB B S) k h (psB B S s) 0).toNat := by
  obtain ⟨n1, n2⟩ := nT_iff.1.mp h0
  have n3 := nT_iff.2 h0
  have hout : ¬ c 19 k = -1 → s < S.length ∧ B.testBit (S.getD s 0) = false := fun z => ⟨(n1 z).1, h1 z⟩
  obtain ⟨e1, e2⟩ := s0_ps (k := k) (c := c) hout hs
  have f1 : ¬ c 19 k = -1 → fO c (flB B S) k h (psB B S s) := fun z => (sF_fl (hout z).1 (hout z).2).mpr (n1 z)
  by_cases z : c 20 k = -1
  · have hn := (nT_iff (c := c) (S := flB B S) (k := k) (h := h) (s := psB B S s) (p := 0)).1.mpr ⟨f1, fun w => absurd z w⟩
    have hv := nT_iff.2 hn
    have hj0 : j = 0 := by omega
    subst hj0
    rw [if_pos z] at hv n3
    exact ⟨hn, by rw [n3, hv]; exact e1⟩
  · have hf := n2 z
    have hx : s0A c k s + j < S.length := hf.1
    have hps : psB B S (s0A c k s + j) = psB B S (s0A c k s) := psB_same B S _ j (by omega) (fun y y1 y2 => by
      have := h2 (y - s0A c k s) (by omega) (by omega)
      rw [show s0A c k s + (y - s0A c k s) = y by omega] at this
      exact this)
    have f2 : fI c (flB B S) k h (s0A c k (psB B S s) + 0) := by
      rw [Nat.add_zero, ← e1, ← hps]
      exact (sF_fl hx (h3 z)).mpr hf
    have hn := (nT_iff (c := c) (S := flB B S) (k := k) (h := h) (s := psB B S s) (p := 0)).1.mpr ⟨f1, fun _ => f2⟩
    have hv := nT_iff.2 hn
    rw [if_neg z] at hv n3
    refine ⟨hn, ?_⟩
    rw [n3, hv, psB_step B S _ hx, h3 z, hps, e1]
    rfl
