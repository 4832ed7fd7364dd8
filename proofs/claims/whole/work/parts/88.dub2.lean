/-! PURE: doubts: the value is the least weight of a set without which it goes on -/
theorem psB_le (B : Nat) (l : List Nat) (s : Nat) : psB B l s ≤ (flB B l).length := by
  by_cases h : l.length ≤ s
  · rw [psB_end B l s h]; exact Nat.le_refl _
  · have := psB_mono B l (l.length - s) s
    rw [show s + (l.length - s) = l.length by omega, psB_end B l l.length (Nat.le_refl _)] at this
    exact this
theorem Vd_B {c : Co} {B h l t s e e' : Nat} (v : Vd c (SL c 0) (LL c 0) h l t s e) (he : e' < 2 ^ (LL c B).length) : Vd c (SL c B) (LL c B) h l t (psB B (SL c 0) s) e' := ⟨v.1, v.2.1, by rw [SL_fl c B]; exact psB_le _ _ _, he⟩
theorem s0_ge (c : Co) (k s : Nat) : s ≤ s0A c k s ∧ s0A c k s ≤ s + 1 ∧ (¬ c 19 k = -1 → s0A c k s = s + 1) := by
  unfold s0A
  by_cases z : c 19 k = -1
  · rw [if_pos z]; exact ⟨by omega, by omega, fun w => absurd z w⟩
  · rw [if_neg z]; exact ⟨by omega, by omega, fun _ => rfl⟩
theorem vE4 {S L : List Nat} {s e : Nat} : 0 ≤ vE 4 S L s e ↔ ¬ s < S.length ∧ ml L e L.length = 0 := by
  unfold vE
  by_cases z : s < S.length
  · rw [if_pos z]; exact ⟨fun w => by omega, fun w => absurd z w.1⟩
  · rw [if_neg z, if_pos rfl, chg4s (by omega)]
    exact ⟨fun w => ⟨z, w.2⟩, fun w => ⟨by omega, w.2⟩⟩
theorem dB_ub {c : Co} {B : Nat} {T U : Tb} (hw : WF c) (h2 : WF2 c) (D : DB 5 c 0 T) (E : DB 4 c B U) : ∀ (n h l t s e e' : Nat), ((c 2 2).toNat - h) * 8 + ((SL c 0).length - s) < n → (h : Int) ≤ c 2 2 → Vd c (SL c 0) (LL c 0) h l t s e → e' < 2 ^ (LL c B).length → erB B c e e' → 0 ≤ U h l t (psB B (SL c 0) s) e' → 0 ≤ T h l t s e ∧ T h l t s e ≤ cs (rsB B c h s e) 8 := by
  have hs := Sk_of hw h2 0
  have hsB := Sk_of hw h2 B
  have hS6 := hs.1
  have hnl := hw.2.1
  have hen := hw.2.2.2.2.2.2.2.1
  intro n
  induction n with
  | zero => intro h l t s e e' hm; omega
  | succ n ih =>
    intro h l t s e e' hm hh v he er hu
    obtain ⟨t1, t2, -⟩ := T5_all hw hs D v hh
    by_cases z : s < (SL c 0).length ∧ B.testBit ((SL c 0).getD s 0) = true
    · obtain ⟨i1, i2⟩ := ih h l t (s + 1) e e' (by omega) hh ⟨v.1, v.2.1, by omega, v.2.2.2⟩ he er (by rw [psB_step B _ s z.1, if_pos z.2]; exact hu)
      obtain ⟨p1, p2⟩ := t1 z.1 i1
      refine ⟨p1, ?_⟩
      have := cs_le2 (p := rsB B c h (s + 1) e) (q := fun q => (2 ^ (SL c 0).getD s 0).testBit q = true) (r := rsB B c h s e) 8 (fun x _ w => by
        obtain ⟨⟨w0, u⟩, w⟩ := w
        rw [two_bit] at w
        subst w
        have hk := SL_k z.1
        rcases u with u | u | u
        · obtain ⟨y, y1, y2, y3⟩ := u
          exact SL_ne (by omega) y2 y3
        · have := u.k; omega
        · have := u.k; omega) (fun x _ w => by
        rcases w with w | w
        · exact ⟨w.1, w.2.elim (fun u => Or.inl (u.up (by omega))) Or.inr⟩
        · rw [two_bit] at w
          subst w
          exact ⟨z.2, Or.inl ⟨s, Nat.le_refl _, z.1, rfl⟩⟩)
      have e3 : csm (2 ^ (SL c 0).getD s 0) = cs (fun q => (2 ^ (SL c 0).getD s 0).testBit q = true) 8 := rfl
      omega
    · have hB : s < (SL c 0).length → B.testBit ((SL c 0).getD s 0) = false := fun w => by
        have : ¬ B.testBit ((SL c 0).getD s 0) = true := fun y => z ⟨w, y⟩
        simpa using this
      obtain ⟨u1, u2⟩ := (T4_iff hw hsB E (Vd_B v he) hh).mp hu
      have hpm := pMs_B.mp u1
      obtain ⟨f1, f2, -⟩ := fL5 (pm := PM c 0) hw hs v hh (fun g _ hg => D.tok g hg) (c 0 2).toNat (by omega)
      have fin : ∀ r : Nat → Prop, (∀ q, r q → B.testBit q = true ∧ rsU c (h + 1) s e q) → 0 ≤ fL 5 c (SL c 0) (LL c 0) (PM c 0) T h l t s e (c 0 2).toNat → fL 5 c (SL c 0) (LL c 0) (PM c 0) T h l t s e (c 0 2).toNat ≤ cs r 8 → 0 ≤ T h l t s e ∧ T h l t s e ≤ cs (rsB B c h s e) 8 := fun r hr y1 y2 => by
        obtain ⟨p1, p2⟩ := t2 y1
        refine ⟨p1, ?_⟩
        have := cs_le2 (p := r) (q := fun q => (pMs c (PM c 0) h t).testBit q = true) (r := rsB B c h s e) 8 (fun x _ w => by
          obtain ⟨w, w3⟩ := w
          have w2 := (hr x w).2
          have w4 := pMs_bit.mp w3
          have hk := PM_k w4.2.1
          rcases w2 with u | u | u
          · have := u.k; omega
          · have := u.2; omega
          · have := u.k; omega) (fun x _ w => by
          rcases w with w | w
          · have := hr x w
            refine ⟨this.1, ?_⟩
            rcases this.2 with u | u | u
            · exact Or.inl u
            · exact Or.inr (Or.inl (u.up (by omega)))
            · exact Or.inr (Or.inr u)
          · have w4 := pMs_bit.mp w
            exact ⟨hpm x w, Or.inr (Or.inl ⟨w4.2.1, by omega⟩)⟩)
        have e3 : csm (pMs c (PM c 0) h t) = cs (fun q => (pMs c (PM c 0) h t).testBit q = true) 8 := rfl
        omega
      rcases u2 with u2 | ⟨k, k1, k2, k3, k4, k5⟩
      · by_cases y : (h : Int) = c 2 2
        · unfold v0A at u2
          rw [if_pos y, vE4] at u2
          obtain ⟨a1, a2⟩ := u2
          have hsl : ¬ s < (SL c 0).length := fun w => a1 (by
            rw [SL_fl c B]
            exact (psB_get B _ s w (hB w)).1)
          have hml := (ml_B er).mp a2
          have hm8 := ml_lt hw hs (e := e) (LL c 0).length (Nat.le_refl _)
          have ev : v0A 5 c (SL c 0) (LL c 0) T h l t s e = csm (ml (LL c 0) e (LL c 0).length) := by
            unfold v0A vE
            rw [if_pos y, if_neg hsl, if_neg (by omega), chg5 (by omega) hm8]
            omega
          rw [ev] at f1
          obtain ⟨g1, g2⟩ := f1 (csm_nn _)
          exact fin (fun q => (ml (LL c 0) e (LL c 0).length).testBit q = true) (fun q w => ⟨hml q w, Or.inr (Or.inr (by
            obtain ⟨x, x1, x2, x3⟩ := (ml_bit _).mp w
            exact ⟨x, x1, x3, x2⟩))⟩) g1 g2
        · unfold v0A at u2
          rw [if_neg y] at u2
          by_cases x : nS c h l < 0
          · rw [if_pos x] at u2; omega
          · rw [if_neg x] at u2
            have v' := nS_Vd (pm := PM c 0) hw v (by omega)
            obtain ⟨i1, i2⟩ := ih (h + 1) (nS c h l).toNat t s (e ||| sa c (LL c 0) (h + 1) t) (e' ||| sa c (LL c B) (h + 1) t) (by omega) (by omega) v' (Nat.or_lt_two_pow he (mb_lt _ _)) (er.or erB_sa) u2
            have ev : v0A 5 c (SL c 0) (LL c 0) T h l t s e = T (h + 1) (nS c h l).toNat t s (e ||| sa c (LL c 0) (h + 1) t) := by
              unfold v0A
              rw [if_neg y, if_neg x]
            rw [ev] at f1
            obtain ⟨g1, g2⟩ := f1 i1
            refine fin (rsB B c (h + 1) s (e ||| sa c (LL c 0) (h + 1) t)) (fun q w => ⟨w.1, ?_⟩) g1 (by omega)
            rcases w.2 with u | u | u
            · exact Or.inl u
            · exact Or.inr (Or.inl u)
            · exact Or.inr (Or.inr u.up)
      · have hch := can_h (t := t) hw k1 k2.1
        obtain ⟨-, -, -, -, la, -⟩ := hw.2.2.2.1 k k1
        have hk3 : ¬ nK c h (h + (c 16 k).toNat) l < 0 ∧ ¬ nT c (SL c B) k h (psB B (SL c 0) s) 0 < 0 := ⟨fun w => k3 (Or.inl w), fun w => k3 (Or.inr w)⟩
        have hn0 : 0 ≤ nT c (flB B (SL c 0)) k h (psB B (SL c 0) s) 0 := by rw [← SL_fl c B]; omega
        obtain ⟨p, p1, p2, p3, p4, p5⟩ := nT_B v.2.2.1 hB hn0
        have ok : okA c (SL c 0) k h l s p := fun w => w.elim hk3.1 (fun w => by omega)
        have v' := arr_Vd (pm := PM c 0) hw k1 v ok (by
          rcases Nat.eq_zero_or_pos p with q | q
          · exact Or.inl q
          · refine Or.inr (fun w => ?_)
            unfold nP at p1
            rw [if_neg (fun u => u.2 w)] at p1
            omega)
        have hsg := s0_ge c k s
        unfold aR at k5
        rw [SL_fl c B, ← p3] at k5
        obtain ⟨i1, i2⟩ := ih (h + (c 16 k).toNat) (nK c h (h + (c 16 k).toNat) l).toNat (c 14 k).toNat (nT c (SL c 0) k h s p).toNat (e ||| sa c (LL c 0) (h + (c 16 k).toNat) (c 14 k).toNat) (e' ||| sa c (LL c B) (h + (c 16 k).toNat) (c 14 k).toNat) (by omega) (by omega) v' (Nat.or_lt_two_pow he (mb_lt _ _)) (er.or erB_sa) k5
        obtain ⟨g1, g2⟩ := f2 k (by omega) k2 p p1 ok i1
        have hpb := pBt_B.mp k4
        have key := cs_le2 (p := rsB B c (h + (c 16 k).toNat) (nT c (SL c 0) k h s p).toNat (e ||| sa c (LL c 0) (h + (c 16 k).toNat) (c 14 k).toNat)) (q := fun q => (mT c (SL c 0) (PM c 0) k h s p).testBit q = true) (r := fun q => rsB B c (h + (c 16 k).toNat) (nT c (SL c 0) k h s p).toNat (e ||| sa c (LL c 0) (h + (c 16 k).toNat) (c 14 k).toNat) q ∨ (mT c (SL c 0) (PM c 0) k h s p).testBit q = true) 8 (fun x _ w => by
          obtain ⟨⟨w1, w2⟩, w3⟩ := w
          rcases (mT_bit p).mp w3 with w4 | ⟨y, y1, y2, y3⟩
          · have w5 := pBt_bit.mp w4
            have hk := PM_k w5.2.1
            rcases w2 with u | u | u
            · have := u.k; omega
            · have := u.2; omega
            · have := u.k; omega
          · have hk := SL_k y2
            rw [y3] at hk
            rcases w2 with u | u | u
            · obtain ⟨x', x1, x2, x3⟩ := u
              exact SL_ne (s := s0A c k s + y) (by omega) x2 (by rw [x3, y3])
            · have := u.k; omega
            · have := u.k; omega) (fun x _ w => w)
        have e3 : csm (mT c (SL c 0) (PM c 0) k h s p) = cs (fun q => (mT c (SL c 0) (PM c 0) k h s p).testBit q = true) 8 := rfl
        have e4 : aR c (SL c 0) (LL c 0) T k h l s e p = T (h + (c 16 k).toNat) (nK c h (h + (c 16 k).toNat) l).toNat (c 14 k).toNat (nT c (SL c 0) k h s p).toNat (e ||| sa c (LL c 0) (h + (c 16 k).toNat) (c 14 k).toNat) := rfl
        refine fin _ (fun q w => ?_) g1 (Int.le_trans g2 (by rw [e4, e3]; exact Int.le_trans (Int.add_le_add_right i2 _) key))
        rcases w with w | w
        · refine ⟨w.1, ?_⟩
          rcases w.2 with u | u | u
          · exact Or.inl (u.up (by omega))
          · exact Or.inr (Or.inl (u.up (by omega)))
          · exact Or.inr (Or.inr u.up)
        · rcases (mT_bit p).mp w with w4 | ⟨y, y1, y2, y3⟩
          · have w5 := pBt_bit.mp w4
            exact ⟨hpb q w4, Or.inr (Or.inl ⟨w5.2.1, by omega⟩)⟩
          · exact ⟨by rw [← y3]; exact (p4 y y1).2, Or.inl ⟨s0A c k s + y, by omega, y2, y3⟩⟩
theorem dB_at {c : Co} {T : Tb} (hw : WF c) (h2 : WF2 c) (D : DB 5 c 0 T) : ∀ (n h l t s e : Nat), ((c 2 2).toNat - h) * 8 + ((SL c 0).length - s) < n → (h : Int) ≤ c 2 2 → Vd c (SL c 0) (LL c 0) h l t s e → 0 ≤ T h l t s e → ∃ b0 : Nat → Prop, cs b0 8 = T h l t s e ∧ (∀ q, b0 q → rsU c h s e q) ∧ ∀ (B e' : Nat) (U : Tb), DB 4 c B U → e' < 2 ^ (LL c B).length → erB B c e e' → (∀ q, stU c s q ∨ paU c h q → (B.testBit q = true ↔ b0 q)) → (∀ q, b0 q → B.testBit q = true) → 0 ≤ U h l t (psB B (SL c 0) s) e' := by
  have hs := Sk_of hw h2 0
  have hS6 := hs.1
  have hnl := hw.2.1
  have hen := hw.2.2.2.2.2.2.2.1
  intro n
  induction n with
  | zero => intro h l t s e hm; omega
  | succ n ih =>
    intro h l t s e hm hh v h0
    obtain ⟨-, -, t3⟩ := T5_all hw hs D v hh
    rcases t3 h0 with ⟨z1, z2, z3⟩ | ⟨z1, z2⟩
    · obtain ⟨b1, i1, i2, i3⟩ := ih h l t (s + 1) e (by omega) hh ⟨v.1, v.2.1, by omega, v.2.2.2⟩ z2
      have hk := SL_k z1
      have nin : ∀ q, stU c (s + 1) q ∨ paU c h q ∨ lkU c e q → ¬ q = (SL c 0).getD s 0 := fun q w y => by
        subst y
        rcases w with u | u | u
        · obtain ⟨y, y1, y2, y3⟩ := u
          exact SL_ne (by omega) y2 y3
        · have := u.k; omega
        · have := u.k; omega
      refine ⟨fun q => b1 q ∨ (2 ^ (SL c 0).getD s 0).testBit q = true, ?_, fun q w => ?_, fun B e' U E he er ag sb => ?_⟩
      · rw [z3, ← i1]
        exact cs_eq2 8 (fun x _ w => nin x (i2 x w.1) (two_bit.mp w.2)) (fun x _ => Iff.rfl)
      · rcases w with w | w
        · rcases i2 q w with u | u
          · exact Or.inl (u.up (by omega))
          · exact Or.inr u
        · rw [two_bit] at w
          subst w
          exact Or.inl ⟨s, Nat.le_refl _, z1, rfl⟩
      · have hb : B.testBit ((SL c 0).getD s 0) = true := sb _ (Or.inr (two_bit.mpr rfl))
        have := i3 B e' U E he er (fun q w => by
          have h1 := ag q (w.elim (fun u => Or.inl (u.up (by omega))) Or.inr)
          rw [h1]
          exact ⟨fun y => y.elim id (fun y => absurd (two_bit.mp y) (nin q (w.elim Or.inl (fun u => Or.inr (Or.inl u))))), Or.inl⟩) (fun q w => sb q (Or.inl w))
        rw [psB_step B _ s z1, if_pos hb] at this
        exact this
    · obtain ⟨-, -, f3⟩ := fL5 (pm := PM c 0) hw hs v hh (fun g _ hg => D.tok g hg) (c 0 2).toNat (by omega)
      have fin : ∀ b2 : Nat → Prop, cs b2 8 = fL 5 c (SL c 0) (LL c 0) (PM c 0) T h l t s e (c 0 2).toNat → (∀ q, b2 q → rsU c (h + 1) s e q) → (∀ (B e' : Nat) (U : Tb), DB 4 c B U → e' < 2 ^ (LL c B).length → erB B c e e' → (∀ q, stU c s q ∨ paU c (h + 1) q → (B.testBit q = true ↔ b2 q)) → (∀ q, b2 q → B.testBit q = true) → 0 ≤ v0A 4 c (SL c B) (LL c B) U h l t (psB B (SL c 0) s) e' ∨ ∃ k : Nat, (k : Int) < c 0 2 ∧ can c h t k ∧ okA c (SL c B) k h l (psB B (SL c 0) s) 0 ∧ pBt c (PM c B) k h = 0 ∧ 0 ≤ aR c (SL c B) (LL c B) U k h l (psB B (SL c 0) s) e' 0) → ∃ b0 : Nat → Prop, cs b0 8 = T h l t s e ∧ (∀ q, b0 q → rsU c h s e q) ∧ ∀ (B e' : Nat) (U : Tb), DB 4 c B U → e' < 2 ^ (LL c B).length → erB B c e e' → (∀ q, stU c s q ∨ paU c h q → (B.testBit q = true ↔ b0 q)) → (∀ q, b0 q → B.testBit q = true) → 0 ≤ U h l t (psB B (SL c 0) s) e' := fun b2 g1 g2 g3 => by
        have nin : ∀ q, stU c s q ∨ paU c (h + 1) q ∨ lkU c e q → ¬ (pMs c (PM c 0) h t).testBit q = true := fun q w y => by
          have w4 := pMs_bit.mp y
          have hk := PM_k w4.2.1
          rcases w with u | u | u
          · have := u.k; omega
          · have := u.2; omega
          · have := u.k; omega
        refine ⟨fun q => b2 q ∨ (pMs c (PM c 0) h t).testBit q = true, ?_, fun q w => ?_, fun B e' U E he er ag sb => ?_⟩
        · rw [z2, ← g1]
          exact cs_eq2 8 (fun x _ w => nin x (g2 x w.1) w.2) (fun x _ => Iff.rfl)
        · rcases w with w | w
          · rcases g2 q w with u | u | u
            · exact Or.inl u
            · exact Or.inr (Or.inl (u.up (by omega)))
            · exact Or.inr (Or.inr u)
          · have w4 := pMs_bit.mp w
            exact Or.inr (Or.inl ⟨w4.2.1, by omega⟩)
        · refine (T4_iff hw (Sk_of hw h2 B) E (Vd_B v he) hh).mpr ⟨pMs_B.mpr (fun q w => sb q (Or.inr w)), g3 B e' U E he er (fun q w => ?_) (fun q w => sb q (Or.inl w))⟩
          have h1 := ag q (w.elim Or.inl (fun u => Or.inr (u.up (by omega))))
          rw [h1]
          exact ⟨fun y => y.elim id (fun y => absurd y (nin q (w.elim Or.inl (fun u => Or.inr (Or.inl u))))), Or.inl⟩
      rcases f3 z1 with ⟨y1, y2⟩ | ⟨k, j, k1, k2, j1, ok, k5, k6⟩
      · by_cases y : (h : Int) = c 2 2
        · unfold v0A at y1 y2
          rw [if_pos y] at y1 y2
          have hsl : ¬ s < (SL c 0).length := fun w => by
            unfold vE at y1
            rw [if_pos w] at y1
            omega
          have hm8 := ml_lt hw hs (e := e) (LL c 0).length (Nat.le_refl _)
          have ev : vE 5 (SL c 0) (LL c 0) s e = csm (ml (LL c 0) e (LL c 0).length) := by
            unfold vE
            rw [if_neg hsl, if_neg (by omega), chg5 (by omega) hm8]
            omega
          refine fin (fun q => (ml (LL c 0) e (LL c 0).length).testBit q = true) (by rw [y2, ev]) (fun q w => Or.inr (Or.inr (by
            obtain ⟨x, x1, x2, x3⟩ := (ml_bit _).mp w
            exact ⟨x, x1, x3, x2⟩))) (fun B e' U E he er ag sb => Or.inl ?_)
          unfold v0A
          rw [if_pos y, vE4]
          exact ⟨by rw [SL_fl c B, psB_end B _ s (by omega)]; omega, (ml_B er).mpr sb⟩
        · unfold v0A at y1 y2
          rw [if_neg y] at y1 y2
          by_cases x : nS c h l < 0
          · rw [if_pos x] at y1; omega
          · rw [if_neg x] at y1 y2
            have v' := nS_Vd (pm := PM c 0) hw v (by omega)
            obtain ⟨b1, i1, i2, i3⟩ := ih (h + 1) (nS c h l).toNat t s (e ||| sa c (LL c 0) (h + 1) t) (by omega) (by omega) v' y1
            refine fin b1 (by rw [y2]; exact i1) (fun q w => ?_) (fun B e' U E he er ag sb => Or.inl ?_)
            · rcases i2 q w with u | u | u
              · exact Or.inl u
              · exact Or.inr (Or.inl u)
              · exact Or.inr (Or.inr u.up)
            · unfold v0A
              rw [if_neg y, if_neg x]
              exact i3 B _ U E (Nat.or_lt_two_pow he (mb_lt _ _)) (er.or erB_sa) ag sb
      · have hch := can_h (t := t) hw (show (k : Int) < c 0 2 by omega) k2.1
        obtain ⟨-, -, -, -, la, -⟩ := hw.2.2.2.1 k (by omega)
        have hj : j = 0 ∨ ¬ c 20 k = -1 := by
          rcases Nat.eq_zero_or_pos j with q | q
          · exact Or.inl q
          · refine Or.inr (fun w => ?_)
            unfold nP at j1
            rw [if_neg (fun u => u.2 w)] at j1
            omega
        have hn0 : 0 ≤ nT c (SL c 0) k h s j := Decidable.byContradiction fun w => ok (Or.inr (by omega))
        have hnv := nT_iff.2 hn0
        have hsg := s0_ge c k s
        have v' := arr_Vd (pm := PM c 0) hw (show (k : Int) < c 0 2 by omega) v ok hj
        have hnl2 : s0A c k s + j ≤ (nT c (SL c 0) k h s j).toNat ∧ (nT c (SL c 0) k h s j).toNat ≤ s0A c k s + j + 1 ∧ (¬ c 20 k = -1 → (nT c (SL c 0) k h s j).toNat = s0A c k s + j + 1) := by
          rw [hnv]
          by_cases w : c 20 k = -1
          · rw [if_pos w]; exact ⟨by omega, by omega, fun u => absurd w u⟩
          · rw [if_neg w]; exact ⟨by omega, by omega, fun _ => rfl⟩
        have hmm : ((c 2 2).toNat - (h + (c 16 k).toNat)) * 8 + ((SL c 0).length - (nT c (SL c 0) k h s j).toNat) < n := by
          clear f3 t3 fin ih k6 k5 z2 hnv z1 h0
          omega
        obtain ⟨b1, i1, i2, i3⟩ := ih (h + (c 16 k).toNat) (nK c h (h + (c 16 k).toNat) l).toNat (c 14 k).toNat (nT c (SL c 0) k h s j).toNat (e ||| sa c (LL c 0) (h + (c 16 k).toNat) (c 14 k).toNat) hmm (by omega) v' k5
        have nin : ∀ q, stU c (nT c (SL c 0) k h s j).toNat q ∨ paU c (h + (c 16 k).toNat) q ∨ lkU c (e ||| sa c (LL c 0) (h + (c 16 k).toNat) (c 14 k).toNat) q → ¬ (mT c (SL c 0) (PM c 0) k h s j).testBit q = true := fun q w2 w3 => by
          rcases (mT_bit j).mp w3 with w4 | ⟨y, y1, y2, y3⟩
          · have w5 := pBt_bit.mp w4
            have hk := PM_k w5.2.1
            rcases w2 with u | u | u
            · have := u.k; omega
            · have := u.2; omega
            · have := u.k; omega
          · have hk := SL_k y2
            rw [y3] at hk
            rcases w2 with u | u | u
            · obtain ⟨x', x1, x2, x3⟩ := u
              exact SL_ne (s := s0A c k s + y) (by omega) x2 (by rw [x3, y3])
            · have := u.k; omega
            · have := u.k; omega
        -- a stamp of the first ones is not passed over
        have nst : ∀ y, y < (SL c 0).length → (y < s0A c k s ∨ s0A c k s + j ≤ y) → y < (nT c (SL c 0) k h s j).toNat → ¬ (b1 ((SL c 0).getD y 0) ∨ (mT c (SL c 0) (PM c 0) k h s j).testBit ((SL c 0).getD y 0) = true) := fun y y1 y2 y3 w => by
          have hk := SL_k y1
          rcases w with w | w
          · rcases i2 _ w with u | u | u
            · obtain ⟨x, x1, x2, x3⟩ := u
              exact SL_ne (s := y) (by omega) x2 x3
            · have := u.k; omega
            · have := u.k; omega
          · rcases (mT_bit j).mp w with w4 | ⟨x, x1, x2, x3⟩
            · have hk2 := PM_k (pBt_bit.mp w4).2.1
              omega
            · have hne : ¬ s0A c k s + x = y := by omega
              rcases Nat.lt_or_gt_of_ne hne with q | q
              · exact SL_ne (s := s0A c k s + x) q y1 x3.symm
              · exact SL_ne (s := y) q x2 x3
        refine fin (fun q => b1 q ∨ (mT c (SL c 0) (PM c 0) k h s j).testBit q = true) ?_ (fun q w => ?_) (fun B e' U E he er ag sb => Or.inr ⟨k, by omega, k2, ?_⟩)
        · rw [k6, show aR c (SL c 0) (LL c 0) T k h l s e j = T (h + (c 16 k).toNat) (nK c h (h + (c 16 k).toNat) l).toNat (c 14 k).toNat (nT c (SL c 0) k h s j).toNat (e ||| sa c (LL c 0) (h + (c 16 k).toNat) (c 14 k).toNat) from rfl, ← i1]
          exact cs_eq2 8 (fun x _ w => nin x (i2 x w.1) w.2) (fun x _ => Iff.rfl)
        · rcases w with w | w
          · rcases i2 q w with u | u | u
            · exact Or.inl (u.up (by omega))
            · exact Or.inr (Or.inl (u.up (by omega)))
            · exact Or.inr (Or.inr u.up)
          · rcases (mT_bit j).mp w with w4 | ⟨y, y1, y2, y3⟩
            · have w5 := pBt_bit.mp w4
              exact Or.inr (Or.inl ⟨w5.2.1, by omega⟩)
            · exact Or.inl ⟨s0A c k s + y, by omega, y2, y3⟩
        · have hst : ∀ y, s ≤ y → y < (SL c 0).length → (y < s0A c k s ∨ s0A c k s + j ≤ y) → y < (nT c (SL c 0) k h s j).toNat → B.testBit ((SL c 0).getD y 0) = false := fun y y0 y1 y2 y3 => by
            have h1 := ag _ (Or.inl ⟨y, y0, y1, rfl⟩)
            have h3 := nst y y1 y2 y3
            have : ¬ B.testBit ((SL c 0).getD y 0) = true := fun w => h3 (h1.mp w)
            simpa using this
          obtain ⟨c1, c2⟩ := nT_iff.1.mp hn0
          obtain ⟨n1, n2⟩ := nT_A (B := B) v.2.2.1 hj hn0 (fun w => hst s (Nat.le_refl _) (c1 w).1 (Or.inl (by have := hsg.2.2 w; omega)) (by have := hsg.2.2 w; omega)) (fun y y1 y2 => sb _ (Or.inr ((mT_bit j).mpr (Or.inr ⟨y, y1, y2, rfl⟩)))) (fun w => hst (s0A c k s + j) (by omega) (c2 w).1 (Or.inr (Nat.le_refl _)) (by have := hnl2.2.2 w; omega))
          rw [← SL_fl c B] at n1 n2
          refine ⟨fun w => w.elim (fun w => ok (Or.inl w)) (fun w => by omega), pBt_B.mpr (fun q w => sb q (Or.inr ((mT_bit j).mpr (Or.inl w)))), ?_⟩
          have := i3 B (e' ||| sa c (LL c B) (h + (c 16 k).toNat) (c 14 k).toNat) U E (Nat.or_lt_two_pow he (mb_lt _ _)) (er.or erB_sa) (fun q w => by
            have h1 := ag q (w.elim (fun u => Or.inl (u.up (by omega))) (fun u => Or.inr (u.up (by omega))))
            rw [h1]
            exact ⟨fun y => y.elim id (fun y => absurd y (nin q (w.elim Or.inl (fun u => Or.inr (Or.inl u))))), Or.inl⟩) (fun q w => sb q (Or.inl w))
          unfold aR
          rw [← n2]
          exact this
