/-! PURE: words and names, by the class and by the reference (made by wip/gen/words.py) -/
def lK (k : Nat) : Nat := (stT.getD k []).length
theorem lK_b : ∀ k, k < 14 → 2 ≤ lK k ∧ lK k ≤ 5 := by decide
theorem sC_b : ∀ k, k < 14 → ∀ j, j < lK k → 97 ≤ sC k j ∧ sC k j ≤ 122 := by decide
theorem sN_l (k : Nat) : sN k = (lK k : Int) := rfl
def iW (tx : Nat → Int) (p q K k : Nat) : Prop := K = 1 ∧ smW (tkn tx p) (q - p) (sC k) (lK k)
noncomputable def rW (tx : Nat → Int) (p q K k : Nat) : Int := @ite Int (iW tx p q K k) (Classical.propDecidable _) 1 0
theorem rW_c (tx : Nat → Int) (p q K k : Nat) : (rW tx p q K k = 1 ∧ iW tx p q K k) ∨ (rW tx p q K k = 0 ∧ ¬ iW tx p q K k) := by
  unfold rW
  by_cases z : iW tx p q K k
  · rw [if_pos z]; exact Or.inl ⟨rfl, z⟩
  · rw [if_neg z]; exact Or.inr ⟨rfl, z⟩
theorem rW_1 {tx : Nat → Int} {p q K k : Nat} (h : iW tx p q K k) : rW tx p q K k = 1 := (rW_c tx p q K k).elim (fun z => z.1) (fun z => absurd h z.2)
theorem rW_0 {tx : Nat → Int} {p q K k : Nat} (h : ¬ iW tx p q K k) : rW tx p q K k = 0 := (rW_c tx p q K k).elim (fun z => absurd z.2 h) (fun z => z.1)
/-- class and reference at one token -/
def SRa (tx : Nat → Int) (N p q K : Nat) (a : Mi) : Prop := TB tx N ∧ TXa tx N a ∧ TkX tx p q K a ∧ TkP tx N p q K
def SRb (tx : Nat → Int) (N p q K : Nat) (b : Mi) : Prop := TB tx N ∧ TXb tx N b ∧ TkM tx p q K b ∧ TkP tx N p q K
theorem isWord_X {tx : Nat → Int} {N p q K : Nat} {a : Mi} (h : SRa tx N p q K a) {k : Nat} (hk : k < 14) : D_X3_isWord k a = some (rW tx p q K k) := by
  obtain ⟨B, X, ⟨t1, t2, t3, t4, t5⟩, ⟨u1, u2, u3, u4, u5, u6, u7⟩⟩ := h
  have hN := B.1
  obtain ⟨l1, l2⟩ := lK_b k hk
  unfold D_X3_isWord
  rw [t3, t1, t2, sN_l, wid (x := (K : Int)) (by omega) (by omega), wid (x := (q : Int) - (p : Int)) (by omega) (by omega), wid (x := (lK k : Int)) (by omega) (by omega)]
  by_cases z : K = 1
  rotate_left
  · rw [if_pos (by omega), rW_0 (fun w => z w.1)]
  rw [if_neg (by omega)]
  by_cases y : q - p = lK k
  rotate_left
  · rw [if_neg (by omega), rW_0 (fun w => y w.2.1)]
  rw [if_pos (by omega)]
  have key : ∀ (d n x : Nat), x + d = lK k → d < n → (∀ j, j < x → tkn tx p j = sC k j) → B_X3_isWord_28 n k (x : Int) a = some (rW tx p q K k) := by
    intro d
    induction d with
    | zero =>
      intro n x hx hn hj
      obtain ⟨n, rfl⟩ : ∃ q, n = q + 1 := ⟨n - 1, by omega⟩
      rw [B_X3_isWord_28_s, F_X3_isWord_28, sN_l, wid (x := (lK k : Int)) (by omega) (by omega), wid (x := (x : Int)) (by omega) (by omega), if_pos (by omega), rW_1 ⟨z, y, fun j h => hj j (by omega)⟩]
    | succ d ih =>
      intro n x hx hn hj
      obtain ⟨n, rfl⟩ : ∃ q, n = q + 1 := ⟨n - 1, by omega⟩
      have hb := B.2 (p + x) (by omega)
      have hc := sC_b k hk x (by omega)
      rw [B_X3_isWord_28_s, F_X3_isWord_28, sN_l, wid (x := (lK k : Int)) (by omega) (by omega), wid (x := (x : Int)) (by omega) (by omega), if_neg (by omega), t1, show (p : Int) + (x : Int) = ((p + x : Nat) : Int) by omega, wid (x := ((p + x : Nat) : Int)) (by omega) (by omega), if_pos (by omega), if_pos (by omega), ixn _ (by omega), ixn x (by omega), X.2 (p + x) (by omega), wid (x := tx (p + x)) (by omega) (by omega), wid (x := sC k x) (by omega) (by omega)]
      by_cases v : tx (p + x) = sC k x
      · rw [if_pos v, show (x : Int) + 1 = ((x + 1 : Nat) : Int) by omega]
        exact ih n (x + 1) (by omega) (by omega) (fun j h => by
          by_cases e : j = x
          · rw [e]; exact v
          · exact hj j (by omega))
      · rw [if_neg v, rW_0 (fun w => v (w.2.2 x (by omega)))]
  exact key (lK k) FU 0 (by omega) (FU_gt (by omega)) (fun j h => by omega)
theorem sC_lts {k : Nat} (hk : k < 14) {d : Nat} (h : d ≤ lK k) : lts (sC k) d := fun j hj => sC_b k hk j (by omega)
theorem packed_M {k : Nat} (hk : k < 14) : D_X7_packed k = some (k256 (sC k) (lK k)) := by
  obtain ⟨l1, l2⟩ := lK_b k hk
  have key : ∀ (d n x : Nat), x + d = lK k → d < n → B_X7_packed_4 n k (k256 (sC k) x) (x : Int) = some (k256 (sC k) (lK k)) := by
    intro d
    induction d with
    | zero =>
      intro n x hx hn
      obtain ⟨n, rfl⟩ : ∃ q, n = q + 1 := ⟨n - 1, by omega⟩
      rw [B_X7_packed_4_s, F_X7_packed_4, sN_l, wid (x := (lK k : Int)) (by omega) (by omega), wid (x := (x : Int)) (by omega) (by omega), if_pos (by omega), show x = lK k by omega]
    | succ d ih =>
      intro n x hx hn
      obtain ⟨n, rfl⟩ : ∃ q, n = q + 1 := ⟨n - 1, by omega⟩
      have hc := sC_b k hk x (by omega)
      have b1 := (k256_b x (sC_lts hk (by omega))).1
      have b2 := k256_lt x (sC_lts hk (by omega))
      have b3 := p256_7 x (by omega)
      rw [B_X7_packed_4_s, F_X7_packed_4, sN_l, wid (x := (lK k : Int)) (by omega) (by omega), wid (x := (x : Int)) (by omega) (by omega), if_neg (by omega), if_pos (by omega), ixn x (by omega), wid (x := sC k x) (by omega) (by omega), lor8 b1 (by omega) (by omega) (by omega), show (x : Int) + 1 = ((x + 1 : Nat) : Int) by omega]
      exact ih n (x + 1) (by omega) (by omega)
  exact key (lK k) FU 0 (by omega) (FU_gt (by omega))
theorem lcmp_e {x y : Int} (h1 : -9223372036854775808 ≤ x ∧ x ≤ 9223372036854775807) (h2 : -9223372036854775808 ≤ y ∧ y ≤ 9223372036854775807) : (w32 (lcmp x y) = 0 ↔ x = y) := by
  rw [lcmp_lt (w64id h1.1 h1.2) (w64id h2.1 h2.2)]
  by_cases z : y < x
  · rw [if_pos z]
    exact ⟨fun w => absurd w (by decide), fun w => by omega⟩
  · rw [if_neg z]
    by_cases u : x = y
    · rw [if_pos u]
      exact ⟨fun _ => u, fun _ => by decide⟩
    · rw [if_neg u]
      exact ⟨fun w => absurd w (by decide), fun w => absurd w u⟩
theorem k256_8 {f : Nat → Int} {d : Nat} (h : lts f d) (hd : d ≤ 8) : 0 ≤ k256 f d ∧ k256 f d ≤ 9223372036854775807 := by
  have b1 := (k256_b d h).1
  have b2 := k256_lt d h
  have b3 := p256_8 d hd
  omega
theorem k32_8 {f : Nat → Int} {d : Nat} (h : lts f d) (hd : d ≤ 8) : 0 ≤ k32 f d ∧ k32 f d ≤ 9223372036854775807 := by
  have b1 := (k32_b d h).1
  have b2 := k32_lt d h
  have b3 := p32_8 d hd
  omega
theorem isWord_M {tx : Nat → Int} {N p q K : Nat} {b : Mi} (h : SRb tx N p q K b) {k : Nat} (hk : k < 14) : D_X7_isWord k b = some (rW tx p q K k) := by
  obtain ⟨B, X, ⟨t1, t2, t3, t4, t5⟩, ⟨u1, u2, u3, u4, u5, u6, u7⟩⟩ := h
  obtain ⟨l1, l2⟩ := lK_b k hk
  unfold D_X7_isWord
  rw [t3, wid (x := (K : Int)) (by omega) (by omega)]
  by_cases z : K = 1
  rotate_left
  · rw [if_pos (by omega), rW_0 (fun w => z w.1)]
  have hl := u5 z
  have hkl := sC_lts hk (Nat.le_refl (lK k))
  have kb := k256_8 hkl (by omega)
  have kp := (k256_b (lK k) hkl).2 (by omega)
  rw [if_neg (by omega), packed_M hk, bp_k, t4 z]
  by_cases y : q - p ≤ 8
  · have tb := k256_8 hl y
    rw [if_pos y]
    by_cases x : iW tx p q K k
    · rw [rW_1 x, if_neg (fun w => w ((lcmp_e ⟨by omega, by omega⟩ ⟨by omega, by omega⟩).mpr (by rw [x.2.1]; exact k256_c _ (fun j hj => x.2.2 j (by rw [x.2.1]; exact hj)))))]
    · rw [rW_0 x, if_pos (fun w => x ⟨z, k256_inj _ _ hl hkl ((lcmp_e ⟨by omega, by omega⟩ ⟨by omega, by omega⟩).mp w)⟩)]
  · rw [if_neg y, rW_0 (fun w => by have := w.2.1; omega), if_pos (fun w => by
      have := (lcmp_e (x := 0) ⟨by omega, by omega⟩ ⟨by omega, by omega⟩).mp w
      omega)]
def noK (tx : Nat → Int) (p q K : Nat) : Prop := ∀ k, k < 14 → ¬ iW tx p q K k
def iNm (tx : Nat → Int) (p q K : Nat) : Prop := K = 1 ∧ q - p ≤ 8 ∧ noK tx p q K
theorem isKept_X {tx : Nat → Int} {N p q K : Nat} {a : Mi} (h : SRa tx N p q K a) : ∃ r, D_X3_isKept a = some r ∧ ((r = 1 ∧ ¬ noK tx p q K) ∨ (r = 0 ∧ noK tx p q K)) := by
  unfold D_X3_isKept
  rw [isWord_X h (k := 0) (by omega), bp_k]
  rcases rW_c tx p q K 0 with ⟨e0, w0⟩ | ⟨e0, w0⟩
  · rw [e0, if_pos (by decide)]; exact ⟨1, rfl, Or.inl ⟨rfl, fun w => w 0 (by omega) w0⟩⟩
  rw [e0, if_neg (by decide)]
  rw [isWord_X h (k := 2) (by omega), bp_k]
  rcases rW_c tx p q K 2 with ⟨e2, w2⟩ | ⟨e2, w2⟩
  · rw [e2, if_pos (by decide)]; exact ⟨1, rfl, Or.inl ⟨rfl, fun w => w 2 (by omega) w2⟩⟩
  rw [e2, if_neg (by decide)]
  rw [isWord_X h (k := 3) (by omega), bp_k]
  rcases rW_c tx p q K 3 with ⟨e3, w3⟩ | ⟨e3, w3⟩
  · rw [e3, if_pos (by decide)]; exact ⟨1, rfl, Or.inl ⟨rfl, fun w => w 3 (by omega) w3⟩⟩
  rw [e3, if_neg (by decide)]
  rw [isWord_X h (k := 4) (by omega), bp_k]
  rcases rW_c tx p q K 4 with ⟨e4, w4⟩ | ⟨e4, w4⟩
  · rw [e4, if_pos (by decide)]; exact ⟨1, rfl, Or.inl ⟨rfl, fun w => w 4 (by omega) w4⟩⟩
  rw [e4, if_neg (by decide)]
  rw [isWord_X h (k := 5) (by omega), bp_k]
  rcases rW_c tx p q K 5 with ⟨e5, w5⟩ | ⟨e5, w5⟩
  · rw [e5, if_pos (by decide)]; exact ⟨1, rfl, Or.inl ⟨rfl, fun w => w 5 (by omega) w5⟩⟩
  rw [e5, if_neg (by decide)]
  rw [isWord_X h (k := 1) (by omega), bp_k]
  rcases rW_c tx p q K 1 with ⟨e1, w1⟩ | ⟨e1, w1⟩
  · rw [e1, if_pos (by decide)]; exact ⟨1, rfl, Or.inl ⟨rfl, fun w => w 1 (by omega) w1⟩⟩
  rw [e1, if_neg (by decide)]
  rw [isWord_X h (k := 6) (by omega), bp_k]
  rcases rW_c tx p q K 6 with ⟨e6, w6⟩ | ⟨e6, w6⟩
  · rw [e6, if_pos (by decide)]; exact ⟨1, rfl, Or.inl ⟨rfl, fun w => w 6 (by omega) w6⟩⟩
  rw [e6, if_neg (by decide)]
  rw [isWord_X h (k := 7) (by omega), bp_k]
  rcases rW_c tx p q K 7 with ⟨e7, w7⟩ | ⟨e7, w7⟩
  · rw [e7, if_pos (by decide)]; exact ⟨1, rfl, Or.inl ⟨rfl, fun w => w 7 (by omega) w7⟩⟩
  rw [e7, if_neg (by decide)]
  rw [isWord_X h (k := 8) (by omega), bp_k]
  rcases rW_c tx p q K 8 with ⟨e8, w8⟩ | ⟨e8, w8⟩
  · rw [e8, if_pos (by decide)]; exact ⟨1, rfl, Or.inl ⟨rfl, fun w => w 8 (by omega) w8⟩⟩
  rw [e8, if_neg (by decide)]
  rw [isWord_X h (k := 9) (by omega), bp_k]
  rcases rW_c tx p q K 9 with ⟨e9, w9⟩ | ⟨e9, w9⟩
  · rw [e9, if_pos (by decide)]; exact ⟨1, rfl, Or.inl ⟨rfl, fun w => w 9 (by omega) w9⟩⟩
  rw [e9, if_neg (by decide)]
  rw [isWord_X h (k := 10) (by omega), bp_k]
  rcases rW_c tx p q K 10 with ⟨e10, w10⟩ | ⟨e10, w10⟩
  · rw [e10, if_pos (by decide)]; exact ⟨1, rfl, Or.inl ⟨rfl, fun w => w 10 (by omega) w10⟩⟩
  rw [e10, if_neg (by decide)]
  rw [isWord_X h (k := 11) (by omega), bp_k]
  rcases rW_c tx p q K 11 with ⟨e11, w11⟩ | ⟨e11, w11⟩
  · rw [e11, if_pos (by decide)]; exact ⟨1, rfl, Or.inl ⟨rfl, fun w => w 11 (by omega) w11⟩⟩
  rw [e11, if_neg (by decide)]
  rw [isWord_X h (k := 12) (by omega), bp_k]
  rcases rW_c tx p q K 12 with ⟨e12, w12⟩ | ⟨e12, w12⟩
  · rw [e12, if_pos (by decide)]; exact ⟨1, rfl, Or.inl ⟨rfl, fun w => w 12 (by omega) w12⟩⟩
  rw [e12, if_neg (by decide)]
  rw [isWord_X h (k := 13) (by omega), bp_k]
  rcases rW_c tx p q K 13 with ⟨e13, w13⟩ | ⟨e13, w13⟩
  · rw [e13, if_neg (by decide)]; exact ⟨1, rfl, Or.inl ⟨rfl, fun w => w 13 (by omega) w13⟩⟩
  rw [e13, if_pos (by decide)]
  refine ⟨0, rfl, Or.inr ⟨rfl, fun k hk => ?_⟩⟩
  rcases (by omega : k = 0 ∨ k = 1 ∨ k = 2 ∨ k = 3 ∨ k = 4 ∨ k = 5 ∨ k = 6 ∨ k = 7 ∨ k = 8 ∨ k = 9 ∨ k = 10 ∨ k = 11 ∨ k = 12 ∨ k = 13) with rfl | rfl | rfl | rfl | rfl | rfl | rfl | rfl | rfl | rfl | rfl | rfl | rfl | rfl
  · exact w0
  · exact w1
  · exact w2
  · exact w3
  · exact w4
  · exact w5
  · exact w6
  · exact w7
  · exact w8
  · exact w9
  · exact w10
  · exact w11
  · exact w12
  · exact w13
theorem isName_M {tx : Nat → Int} {N p q K : Nat} {b : Mi} (h : SRb tx N p q K b) : ∃ r, D_X7_isName b = some r ∧ ((r = 1 ∧ iNm tx p q K) ∨ (r = 0 ∧ ¬ iNm tx p q K)) := by
  have h' := h
  obtain ⟨B, X, ⟨t1, t2, t3, t4, t5⟩, ⟨u1, u2, u3, u4, u5, u6, u7⟩⟩ := h'
  unfold D_X7_isName
  rw [t3, wid (x := (K : Int)) (by omega) (by omega)]
  by_cases z : K = 1
  rotate_left
  · rw [if_pos (by omega)]; exact ⟨0, rfl, Or.inr ⟨rfl, fun w => z w.1⟩⟩
  have hl := u5 z
  rw [if_neg (by omega), t4 z]
  by_cases y : q - p ≤ 8
  rotate_left
  · rw [if_neg y, if_pos (by decide)]; exact ⟨0, rfl, Or.inr ⟨rfl, fun w => y w.2.1⟩⟩
  have tb := k256_8 hl y
  have tp := (k256_b _ hl).2 (by have := u4 (by omega); omega)
  rw [if_pos y, if_neg (fun w => by
    have := (lcmp_e (y := 0) ⟨by omega, by omega⟩ ⟨by omega, by omega⟩).mp w
    omega)]
  rw [isWord_M h (k := 0) (by omega), bp_k]
  rcases rW_c tx p q K 0 with ⟨e0, w0⟩ | ⟨e0, w0⟩
  · rw [e0, if_pos (by decide)]; exact ⟨0, rfl, Or.inr ⟨rfl, fun w => w.2.2 0 (by omega) w0⟩⟩
  rw [e0, if_neg (by decide)]
  rw [isWord_M h (k := 1) (by omega), bp_k]
  rcases rW_c tx p q K 1 with ⟨e1, w1⟩ | ⟨e1, w1⟩
  · rw [e1, if_pos (by decide)]; exact ⟨0, rfl, Or.inr ⟨rfl, fun w => w.2.2 1 (by omega) w1⟩⟩
  rw [e1, if_neg (by decide)]
  rw [isWord_M h (k := 2) (by omega), bp_k]
  rcases rW_c tx p q K 2 with ⟨e2, w2⟩ | ⟨e2, w2⟩
  · rw [e2, if_pos (by decide)]; exact ⟨0, rfl, Or.inr ⟨rfl, fun w => w.2.2 2 (by omega) w2⟩⟩
  rw [e2, if_neg (by decide)]
  rw [isWord_M h (k := 3) (by omega), bp_k]
  rcases rW_c tx p q K 3 with ⟨e3, w3⟩ | ⟨e3, w3⟩
  · rw [e3, if_pos (by decide)]; exact ⟨0, rfl, Or.inr ⟨rfl, fun w => w.2.2 3 (by omega) w3⟩⟩
  rw [e3, if_neg (by decide)]
  rw [isWord_M h (k := 4) (by omega), bp_k]
  rcases rW_c tx p q K 4 with ⟨e4, w4⟩ | ⟨e4, w4⟩
  · rw [e4, if_pos (by decide)]; exact ⟨0, rfl, Or.inr ⟨rfl, fun w => w.2.2 4 (by omega) w4⟩⟩
  rw [e4, if_neg (by decide)]
  rw [isWord_M h (k := 5) (by omega), bp_k]
  rcases rW_c tx p q K 5 with ⟨e5, w5⟩ | ⟨e5, w5⟩
  · rw [e5, if_pos (by decide)]; exact ⟨0, rfl, Or.inr ⟨rfl, fun w => w.2.2 5 (by omega) w5⟩⟩
  rw [e5, if_neg (by decide)]
  rw [isWord_M h (k := 6) (by omega), bp_k]
  rcases rW_c tx p q K 6 with ⟨e6, w6⟩ | ⟨e6, w6⟩
  · rw [e6, if_neg (by decide)]; exact ⟨0, rfl, Or.inr ⟨rfl, fun w => w.2.2 6 (by omega) w6⟩⟩
  rw [e6, if_pos (by decide)]
  rw [isWord_M h (k := 7) (by omega), bp_k]
  rcases rW_c tx p q K 7 with ⟨e7, w7⟩ | ⟨e7, w7⟩
  · rw [e7, if_pos (by decide)]; exact ⟨0, rfl, Or.inr ⟨rfl, fun w => w.2.2 7 (by omega) w7⟩⟩
  rw [e7, if_neg (by decide)]
  rw [isWord_M h (k := 8) (by omega), bp_k]
  rcases rW_c tx p q K 8 with ⟨e8, w8⟩ | ⟨e8, w8⟩
  · rw [e8, if_pos (by decide)]; exact ⟨0, rfl, Or.inr ⟨rfl, fun w => w.2.2 8 (by omega) w8⟩⟩
  rw [e8, if_neg (by decide)]
  rw [isWord_M h (k := 9) (by omega), bp_k]
  rcases rW_c tx p q K 9 with ⟨e9, w9⟩ | ⟨e9, w9⟩
  · rw [e9, if_pos (by decide)]; exact ⟨0, rfl, Or.inr ⟨rfl, fun w => w.2.2 9 (by omega) w9⟩⟩
  rw [e9, if_neg (by decide)]
  rw [isWord_M h (k := 10) (by omega), bp_k]
  rcases rW_c tx p q K 10 with ⟨e10, w10⟩ | ⟨e10, w10⟩
  · rw [e10, if_pos (by decide)]; exact ⟨0, rfl, Or.inr ⟨rfl, fun w => w.2.2 10 (by omega) w10⟩⟩
  rw [e10, if_neg (by decide)]
  rw [isWord_M h (k := 11) (by omega), bp_k]
  rcases rW_c tx p q K 11 with ⟨e11, w11⟩ | ⟨e11, w11⟩
  · rw [e11, if_pos (by decide)]; exact ⟨0, rfl, Or.inr ⟨rfl, fun w => w.2.2 11 (by omega) w11⟩⟩
  rw [e11, if_neg (by decide)]
  rw [isWord_M h (k := 12) (by omega), bp_k]
  rcases rW_c tx p q K 12 with ⟨e12, w12⟩ | ⟨e12, w12⟩
  · rw [e12, if_pos (by decide)]; exact ⟨0, rfl, Or.inr ⟨rfl, fun w => w.2.2 12 (by omega) w12⟩⟩
  rw [e12, if_neg (by decide)]
  rw [isWord_M h (k := 13) (by omega), bp_k]
  rcases rW_c tx p q K 13 with ⟨e13, w13⟩ | ⟨e13, w13⟩
  · rw [e13, if_pos (by decide)]; exact ⟨0, rfl, Or.inr ⟨rfl, fun w => w.2.2 13 (by omega) w13⟩⟩
  rw [e13, if_neg (by decide)]
  refine ⟨1, rfl, Or.inl ⟨rfl, z, y, fun k hk => ?_⟩⟩
  rcases (by omega : k = 0 ∨ k = 1 ∨ k = 2 ∨ k = 3 ∨ k = 4 ∨ k = 5 ∨ k = 6 ∨ k = 7 ∨ k = 8 ∨ k = 9 ∨ k = 10 ∨ k = 11 ∨ k = 12 ∨ k = 13) with rfl | rfl | rfl | rfl | rfl | rfl | rfl | rfl | rfl | rfl | rfl | rfl | rfl | rfl
  · exact w0
  · exact w1
  · exact w2
  · exact w3
  · exact w4
  · exact w5
  · exact w6
  · exact w7
  · exact w8
  · exact w9
  · exact w10
  · exact w11
  · exact w12
  · exact w13
/-- a name, as both hold it -/
def nmR (A C : Int) : Prop := ∃ f d, 1 ≤ d ∧ d ≤ 8 ∧ lts f d ∧ (∀ w, w < 14 → ¬ smW f d (sC w) (lK w)) ∧ A = k32 f d ∧ C = k256 f d
theorem smW.symm {f g : Nat → Int} {d e : Nat} (h : smW f d g e) : smW g e f d := ⟨h.1.symm, fun j hj => (h.2 j (by have := h.1; omega)).symm⟩
theorem smW.trans {f g k : Nat → Int} {d e m : Nat} (h : smW f d g e) (h2 : smW g e k m) : smW f d k m := ⟨h.1.trans h2.1, fun j hj => (h.2 j hj).trans (h2.2 j (by have := h.1; omega))⟩
theorem nm_iff {A C : Int} {g : Nat → Int} {e : Nat} (h : nmR A C) (hl : lts g e) (_ : e ≤ 8) : (A = k32 g e ↔ C = k256 g e) ∧ (A = k32 g e → ∀ w, w < 14 → ¬ smW g e (sC w) (lK w)) ∧ (-9223372036854775808 ≤ A ∧ A ≤ 9223372036854775807) ∧ (-9223372036854775808 ≤ C ∧ C ≤ 9223372036854775807) := by
  obtain ⟨f, d, d1, d2, d3, d4, d5, d6⟩ := h
  have a := k32_8 d3 d2
  have b := k256_8 d3 d2
  refine ⟨⟨fun q => ?_, fun q => ?_⟩, fun q w hw s => ?_, by omega, by omega⟩
  · have s := k32_inj _ _ d3 hl (d5.symm.trans q)
    rw [d6, s.1]
    exact k256_c _ (fun j hj => s.2 j (by have := s.1; omega))
  · have s := k256_inj _ _ d3 hl (d6.symm.trans q)
    rw [d5, s.1]
    exact k32_c _ (fun j hj => s.2 j (by have := s.1; omega))
  · exact d4 w hw ((k32_inj _ _ d3 hl (d5.symm.trans q)).trans s)
theorem land_at {tx : Nat → Int} {N p q K n : Nat} {a b : Mi} (h : SRa tx N p q K a) (g : SRb tx N p q K b) (hn : n ≤ 4) (ea : rd a 0 true 0 = (n : Int)) (eb : rd b 7 false 6 = (n : Int)) (R : ∀ k, k < n → nmR (rl a 30 false k) (rl b 43 false k)) : ∃ r, D_X3_landOfWord a = some r ∧ D_X7_landHere b = some r ∧ -1 ≤ r ∧ r < (n : Int) := by
  obtain ⟨B, X, ⟨t1, t2, t3, t4, t5⟩, ⟨u1, u2, u3, u4, u5, u6, u7⟩⟩ := h
  have g' := g
  obtain ⟨-, Y, ⟨v1, v2, v3, v4, v5⟩, -⟩ := g'
  have hN := B.1
  have keyX : ∀ (d m x : Nat), x + d = n → d < m → (∀ j, j < x → ¬ (K = 1 ∧ q - p ≤ 8 ∧ rl a 30 false j = k32 (tkn tx p) (q - p))) → ∃ r, B_X3_placeOfName_r30_2 m (n : Int) (x : Int) a = some r ∧ Fst (fun j => K = 1 ∧ q - p ≤ 8 ∧ rl a 30 false j = k32 (tkn tx p) (q - p)) n r := by
    intro d
    induction d with
    | zero =>
      intro m x hx hm hb
      obtain ⟨m, rfl⟩ : ∃ q, m = q + 1 := ⟨m - 1, by omega⟩
      refine ⟨-1, ?_, Or.inr ⟨rfl, fun k hk => hb k (by omega)⟩⟩
      rw [B_X3_placeOfName_r30_2_s, F_X3_placeOfName_r30_2, wid (x := (n : Int)) (by omega) (by omega), wid (x := (x : Int)) (by omega) (by omega), if_pos (by omega)]
    | succ d ih =>
      intro m x hx hm hb
      obtain ⟨m, rfl⟩ : ∃ q, m = q + 1 := ⟨m - 1, by omega⟩
      have e48 : ¬ (K = 1 ∧ q - p ≤ 8 ∧ rl a 30 false x = k32 (tkn tx p) (q - p)) → ∃ r, B_X3_placeOfName_r30_48 (B_X3_placeOfName_r30_2 m) (n : Int) (x : Int) a = some r ∧ Fst (fun j => K = 1 ∧ q - p ≤ 8 ∧ rl a 30 false j = k32 (tkn tx p) (q - p)) n r := fun ng => by
        unfold B_X3_placeOfName_r30_48
        rw [show (x : Int) + 1 = ((x + 1 : Nat) : Int) by omega]
        exact ih m (x + 1) (by omega) (by omega) (fun j hj w => by
          by_cases e : j = x
          · subst e; exact ng w
          · exact hb j (by omega) w)
      rw [B_X3_placeOfName_r30_2_s, F_X3_placeOfName_r30_2, wid (x := (n : Int)) (by omega) (by omega), wid (x := (x : Int)) (by omega) (by omega), if_neg (by omega), if_neg (by omega), t3, t1, t2, wid (x := (K : Int)) (by omega) (by omega), wid (x := (q : Int) - (p : Int)) (by omega) (by omega), if_pos (show 0 ≤ (x : Int) ∧ (x : Int) < 4 by omega), ixn x (by omega)]
      by_cases z : K = 1
      rotate_left
      · rw [if_pos (by omega)]; exact e48 (fun w => z w.1)
      rw [if_neg (show ¬ ¬ (K : Int) = 1 by omega)]
      by_cases y : q - p ≤ 8
      rotate_left
      · rw [if_pos (by omega)]; exact e48 (fun w => y w.2.1)
      have hl := u5 z
      have kb := k32_8 hl y
      obtain ⟨i1, i2, i3, i4⟩ := nm_iff (R x (by omega)) hl y
      rw [if_neg (by omega), t4 z]
      by_cases u : rl a 30 false x = k32 (tkn tx p) (q - p)
      · rw [if_neg (fun w => w ((lcmp_e i3 ⟨by omega, by omega⟩).mpr u))]
        exact ⟨(x : Int), rfl, Or.inl ⟨x, by omega, rfl, ⟨z, y, u⟩, hb⟩⟩
      · rw [if_pos (fun w => u ((lcmp_e i3 ⟨by omega, by omega⟩).mp w))]
        exact e48 (fun w => u w.2.2)
  obtain ⟨rn, hnm, hnc⟩ := isName_M g
  have keyM : ∀ (d m x : Nat), x + d = n → d < m → iNm tx p q K → (∀ j, j < x → ¬ rl b 43 false j = k256 (tkn tx p) (q - p)) → ∃ r, B_X7_landHere_2 m (x : Int) b = some r ∧ Fst (fun j => rl b 43 false j = k256 (tkn tx p) (q - p)) n r := by
    intro d
    induction d with
    | zero =>
      intro m x hx hm _ hb
      obtain ⟨m, rfl⟩ : ∃ q, m = q + 1 := ⟨m - 1, by omega⟩
      refine ⟨-1, ?_, Or.inr ⟨rfl, fun k hk => hb k (by omega)⟩⟩
      rw [B_X7_landHere_2_s, F_X7_landHere_2, eb, wid (x := (n : Int)) (by omega) (by omega), wid (x := (x : Int)) (by omega) (by omega), if_pos (by omega)]
    | succ d ih =>
      intro m x hx hm hi hb
      obtain ⟨m, rfl⟩ : ∃ q, m = q + 1 := ⟨m - 1, by omega⟩
      have hl := u5 hi.1
      have kb := k256_8 hl hi.2.1
      obtain ⟨i1, i2, i3, i4⟩ := nm_iff (R x (by omega)) hl hi.2.1
      have hr1 : rn = 1 := hnc.elim (fun w => w.1) (fun w => absurd hi w.2)
      rw [B_X7_landHere_2_s, F_X7_landHere_2, eb, wid (x := (n : Int)) (by omega) (by omega), wid (x := (x : Int)) (by omega) (by omega), if_neg (by omega), hnm, bp_k, hr1, if_neg (by decide), if_pos (by omega), ixn x (by omega), v4 hi.1, if_pos hi.2.1]
      by_cases u : rl b 43 false x = k256 (tkn tx p) (q - p)
      · rw [if_neg (fun w => w ((lcmp_e i4 ⟨by omega, by omega⟩).mpr u))]
        exact ⟨(x : Int), rfl, Or.inl ⟨x, by omega, rfl, u, hb⟩⟩
      · rw [if_pos (fun w => u ((lcmp_e i4 ⟨by omega, by omega⟩).mp w)), show (x : Int) + 1 = ((x + 1 : Nat) : Int) by omega]
        exact ih m (x + 1) (by omega) (by omega) hi (fun j hj w => by
          by_cases e : j = x
          · subst e; exact u w
          · exact hb j (by omega) w)
  obtain ⟨r, r1, r2⟩ := keyX n FU 0 (by omega) (FU_gt (by omega)) (fun j hj => by omega)
  have hX : D_X3_landOfWord a = some r := by
    unfold D_X3_landOfWord D_X3_placeOfName_r30
    rw [ea, show (0 : Int) = ((0 : Nat) : Int) from rfl, r1, bp_k]
  have hr : -1 ≤ r ∧ r < (n : Int) := by
    rcases r2 with ⟨k, k1, k2, -⟩ | ⟨k1, -⟩
    · omega
    · omega
  refine ⟨r, hX, ?_, hr⟩
  by_cases hi : iNm tx p q K
  · obtain ⟨r', s1, s2⟩ := keyM n FU 0 (by omega) (FU_gt (by omega)) hi (fun j hj => by omega)
    have : r' = r := s2.uniq r2 (fun k hk => by
      obtain ⟨i1, -⟩ := nm_iff (R k hk) (u5 hi.1) hi.2.1
      exact ⟨fun w => ⟨hi.1, hi.2.1, i1.mpr w⟩, fun w => i1.mp w.2.2⟩)
    subst this
    exact s1
  · have hr1 : r = -1 := by
      rcases r2 with ⟨k, k1, k2, ⟨w1, w2, w3⟩, -⟩ | ⟨k1, -⟩
      · obtain ⟨-, i2, -⟩ := nm_iff (R k k1) (u5 w1) w2
        exact absurd ⟨w1, w2, fun j hj w => i2 w3 j hj w.2⟩ hi
      · exact k1
    have hr0 : rn = 0 := hnc.elim (fun w => absurd w.2 hi) (fun w => w.1)
    show B_X7_landHere_2 (999999 + 1) 0 b = some r
    rw [B_X7_landHere_2_s, F_X7_landHere_2, eb, hnm, bp_k, hr0, hr1, wid (x := (n : Int)) (by omega) (by omega)]
    by_cases z : (n : Int) ≤ w32 0
    · rw [if_pos z]
    · rw [if_neg z, if_pos (by decide)]
theorem town_at {tx : Nat → Int} {N p q K n : Nat} {a b : Mi} (h : SRa tx N p q K a) (g : SRb tx N p q K b) (hn : n ≤ 8) (ea : rd a 0 true 1 = (n : Int)) (eb : rd b 7 false 9 = (n : Int)) (R : ∀ k, k < n → nmR (rl a 31 false k) (rl b 45 false k)) : ∃ r, D_X3_townOfWord a = some r ∧ D_X7_townHere b = some r ∧ -1 ≤ r ∧ r < (n : Int) := by
  obtain ⟨B, X, ⟨t1, t2, t3, t4, t5⟩, ⟨u1, u2, u3, u4, u5, u6, u7⟩⟩ := h
  have g' := g
  obtain ⟨-, Y, ⟨v1, v2, v3, v4, v5⟩, -⟩ := g'
  have hN := B.1
  have keyX : ∀ (d m x : Nat), x + d = n → d < m → (∀ j, j < x → ¬ (K = 1 ∧ q - p ≤ 8 ∧ rl a 31 false j = k32 (tkn tx p) (q - p))) → ∃ r, B_X3_placeOfName_r31_2 m (n : Int) (x : Int) a = some r ∧ Fst (fun j => K = 1 ∧ q - p ≤ 8 ∧ rl a 31 false j = k32 (tkn tx p) (q - p)) n r := by
    intro d
    induction d with
    | zero =>
      intro m x hx hm hb
      obtain ⟨m, rfl⟩ : ∃ q, m = q + 1 := ⟨m - 1, by omega⟩
      refine ⟨-1, ?_, Or.inr ⟨rfl, fun k hk => hb k (by omega)⟩⟩
      rw [B_X3_placeOfName_r31_2_s, F_X3_placeOfName_r31_2, wid (x := (n : Int)) (by omega) (by omega), wid (x := (x : Int)) (by omega) (by omega), if_pos (by omega)]
    | succ d ih =>
      intro m x hx hm hb
      obtain ⟨m, rfl⟩ : ∃ q, m = q + 1 := ⟨m - 1, by omega⟩
      have e48 : ¬ (K = 1 ∧ q - p ≤ 8 ∧ rl a 31 false x = k32 (tkn tx p) (q - p)) → ∃ r, B_X3_placeOfName_r31_48 (B_X3_placeOfName_r31_2 m) (n : Int) (x : Int) a = some r ∧ Fst (fun j => K = 1 ∧ q - p ≤ 8 ∧ rl a 31 false j = k32 (tkn tx p) (q - p)) n r := fun ng => by
        unfold B_X3_placeOfName_r31_48
        rw [show (x : Int) + 1 = ((x + 1 : Nat) : Int) by omega]
        exact ih m (x + 1) (by omega) (by omega) (fun j hj w => by
          by_cases e : j = x
          · subst e; exact ng w
          · exact hb j (by omega) w)
      rw [B_X3_placeOfName_r31_2_s, F_X3_placeOfName_r31_2, wid (x := (n : Int)) (by omega) (by omega), wid (x := (x : Int)) (by omega) (by omega), if_neg (by omega), if_neg (by omega), t3, t1, t2, wid (x := (K : Int)) (by omega) (by omega), wid (x := (q : Int) - (p : Int)) (by omega) (by omega), if_pos (show 0 ≤ (x : Int) ∧ (x : Int) < 8 by omega), ixn x (by omega)]
      by_cases z : K = 1
      rotate_left
      · rw [if_pos (by omega)]; exact e48 (fun w => z w.1)
      rw [if_neg (show ¬ ¬ (K : Int) = 1 by omega)]
      by_cases y : q - p ≤ 8
      rotate_left
      · rw [if_pos (by omega)]; exact e48 (fun w => y w.2.1)
      have hl := u5 z
      have kb := k32_8 hl y
      obtain ⟨i1, i2, i3, i4⟩ := nm_iff (R x (by omega)) hl y
      rw [if_neg (by omega), t4 z]
      by_cases u : rl a 31 false x = k32 (tkn tx p) (q - p)
      · rw [if_neg (fun w => w ((lcmp_e i3 ⟨by omega, by omega⟩).mpr u))]
        exact ⟨(x : Int), rfl, Or.inl ⟨x, by omega, rfl, ⟨z, y, u⟩, hb⟩⟩
      · rw [if_pos (fun w => u ((lcmp_e i3 ⟨by omega, by omega⟩).mp w))]
        exact e48 (fun w => u w.2.2)
  obtain ⟨rn, hnm, hnc⟩ := isName_M g
  have keyM : ∀ (d m x : Nat), x + d = n → d < m → iNm tx p q K → (∀ j, j < x → ¬ rl b 45 false j = k256 (tkn tx p) (q - p)) → ∃ r, B_X7_townHere_2 m (x : Int) b = some r ∧ Fst (fun j => rl b 45 false j = k256 (tkn tx p) (q - p)) n r := by
    intro d
    induction d with
    | zero =>
      intro m x hx hm _ hb
      obtain ⟨m, rfl⟩ : ∃ q, m = q + 1 := ⟨m - 1, by omega⟩
      refine ⟨-1, ?_, Or.inr ⟨rfl, fun k hk => hb k (by omega)⟩⟩
      rw [B_X7_townHere_2_s, F_X7_townHere_2, eb, wid (x := (n : Int)) (by omega) (by omega), wid (x := (x : Int)) (by omega) (by omega), if_pos (by omega)]
    | succ d ih =>
      intro m x hx hm hi hb
      obtain ⟨m, rfl⟩ : ∃ q, m = q + 1 := ⟨m - 1, by omega⟩
      have hl := u5 hi.1
      have kb := k256_8 hl hi.2.1
      obtain ⟨i1, i2, i3, i4⟩ := nm_iff (R x (by omega)) hl hi.2.1
      have hr1 : rn = 1 := hnc.elim (fun w => w.1) (fun w => absurd hi w.2)
      rw [B_X7_townHere_2_s, F_X7_townHere_2, eb, wid (x := (n : Int)) (by omega) (by omega), wid (x := (x : Int)) (by omega) (by omega), if_neg (by omega), hnm, bp_k, hr1, if_neg (by decide), if_pos (by omega), ixn x (by omega), v4 hi.1, if_pos hi.2.1]
      by_cases u : rl b 45 false x = k256 (tkn tx p) (q - p)
      · rw [if_neg (fun w => w ((lcmp_e i4 ⟨by omega, by omega⟩).mpr u))]
        exact ⟨(x : Int), rfl, Or.inl ⟨x, by omega, rfl, u, hb⟩⟩
      · rw [if_pos (fun w => u ((lcmp_e i4 ⟨by omega, by omega⟩).mp w)), show (x : Int) + 1 = ((x + 1 : Nat) : Int) by omega]
        exact ih m (x + 1) (by omega) (by omega) hi (fun j hj w => by
          by_cases e : j = x
          · subst e; exact u w
          · exact hb j (by omega) w)
  obtain ⟨r, r1, r2⟩ := keyX n FU 0 (by omega) (FU_gt (by omega)) (fun j hj => by omega)
  have hX : D_X3_townOfWord a = some r := by
    unfold D_X3_townOfWord D_X3_placeOfName_r31
    rw [ea, show (0 : Int) = ((0 : Nat) : Int) from rfl, r1, bp_k]
  have hr : -1 ≤ r ∧ r < (n : Int) := by
    rcases r2 with ⟨k, k1, k2, -⟩ | ⟨k1, -⟩
    · omega
    · omega
  refine ⟨r, hX, ?_, hr⟩
  by_cases hi : iNm tx p q K
  · obtain ⟨r', s1, s2⟩ := keyM n FU 0 (by omega) (FU_gt (by omega)) hi (fun j hj => by omega)
    have : r' = r := s2.uniq r2 (fun k hk => by
      obtain ⟨i1, -⟩ := nm_iff (R k hk) (u5 hi.1) hi.2.1
      exact ⟨fun w => ⟨hi.1, hi.2.1, i1.mpr w⟩, fun w => i1.mp w.2.2⟩)
    subst this
    exact s1
  · have hr1 : r = -1 := by
      rcases r2 with ⟨k, k1, k2, ⟨w1, w2, w3⟩, -⟩ | ⟨k1, -⟩
      · obtain ⟨-, i2, -⟩ := nm_iff (R k k1) (u5 w1) w2
        exact absurd ⟨w1, w2, fun j hj w => i2 w3 j hj w.2⟩ hi
      · exact k1
    have hr0 : rn = 0 := hnc.elim (fun w => absurd w.2 hi) (fun w => w.1)
    show B_X7_townHere_2 (999999 + 1) 0 b = some r
    rw [B_X7_townHere_2_s, F_X7_townHere_2, eb, hnm, bp_k, hr0, hr1, wid (x := (n : Int)) (by omega) (by omega)]
    by_cases z : (n : Int) ≤ w32 0
    · rw [if_pos z]
    · rw [if_neg z, if_pos (by decide)]
/-- what both have drafted of names -/
def DNm (a b : Mi) (nl nt : Nat) : Prop := (nl ≤ 4 ∧ rd a 0 true 0 = (nl : Int) ∧ rd b 7 false 6 = (nl : Int) ∧ ∀ k, k < nl → nmR (rl a 30 false k) (rl b 43 false k)) ∧ (nt ≤ 8 ∧ rd a 0 true 1 = (nt : Int) ∧ rd b 7 false 9 = (nt : Int) ∧ ∀ k, k < nt → nmR (rl a 31 false k) (rl b 45 false k))
theorem new_at {tx : Nat → Int} {N p q K nl nt : Nat} {a b : Mi} (h : SRa tx N p q K a) (g : SRb tx N p q K b) (D : DNm a b nl nt) : ∃ r, D_X3_isNewName a = some r ∧ D_X7_isNew b = some r ∧ ((r = 1 ∧ iNm tx p q K) ∨ r = 0) := by
  obtain ⟨l, l1, l2, l3, l4⟩ := land_at h g D.1.1 D.1.2.1 D.1.2.2.1 D.1.2.2.2
  obtain ⟨t, s1, s2, s3, s4⟩ := town_at h g D.2.1 D.2.2.1 D.2.2.2.1 D.2.2.2.2
  obtain ⟨k, k1, k2⟩ := isKept_X h
  obtain ⟨n, n1, n2⟩ := isName_M g
  have hl4 := D.1.1
  have ht8 := D.2.1
  have h' := h
  obtain ⟨B, X, ⟨t1, t2, t3, t4, t5⟩, ⟨u1, u2, u3, u4, u5, u6, u7⟩⟩ := h'
  have hN := B.1
  have tail : ∀ (c : iNm tx p q K), ∃ r : Int, (if 0 ≤ w32 l then some 0 else bp (D_X3_townOfWord a) fun r3 => if 0 ≤ w32 r3 then some 0 else some 1) = some r ∧ (bp (D_X7_landHere b) fun r2 => if ¬ w32 r2 = -1 then some 0 else bp (D_X7_townHere b) fun r3 => if ¬ w32 r3 = -1 then some 0 else some 1) = some r ∧ ((r = 1 ∧ iNm tx p q K) ∨ r = 0) := fun c => by
    rw [l2, bp_k, s1, bp_k, s2, bp_k, wid (x := l) (by omega) (by omega), wid (x := t) (by omega) (by omega)]
    by_cases z : 0 ≤ l
    · rw [if_pos z, if_pos (show ¬ l = -1 by omega)]; exact ⟨0, rfl, rfl, Or.inr rfl⟩
    · rw [if_neg z, if_neg (show ¬ ¬ l = -1 by omega)]
      by_cases y : 0 ≤ t
      · rw [if_pos y, if_pos (show ¬ t = -1 by omega)]; exact ⟨0, rfl, rfl, Or.inr rfl⟩
      · rw [if_neg y, if_neg (show ¬ ¬ t = -1 by omega)]; exact ⟨1, rfl, rfl, Or.inl ⟨rfl, c⟩⟩
  unfold D_X3_isNewName D_X7_isNew
  rw [t3, t1, t2, wid (x := (K : Int)) (by omega) (by omega), wid (x := (q : Int) - (p : Int)) (by omega) (by omega), n1, bp_k, k1, bp_k, l1, bp_k]
  rcases n2 with ⟨rfl, c⟩ | ⟨rfl, c⟩
  · have hk0 : k = 0 := k2.elim (fun w => absurd c.2.2 w.2) (fun w => w.1)
    obtain ⟨r, r1, r2, r3⟩ := tail c
    refine ⟨r, ?_, ?_, r3⟩
    · rw [if_neg (show ¬ ¬ (K : Int) = 1 by have := c.1; omega), if_neg (show ¬ 8 < (q : Int) - (p : Int) by have := c.2.1; omega), hk0, if_neg (by decide)]
      exact r1
    · rw [if_neg (by decide)]
      exact r2
  · rw [if_pos (show w32 0 = 0 by decide)]
    refine ⟨0, ?_, rfl, Or.inr rfl⟩
    by_cases z : K = 1
    · rw [if_neg (show ¬ ¬ (K : Int) = 1 by omega)]
      by_cases y : q - p ≤ 8
      · have hk1 : k = 1 := k2.elim (fun w => w.1) (fun w => absurd ⟨z, y, w.2⟩ c)
        rw [if_neg (show ¬ 8 < (q : Int) - (p : Int) by omega), hk1, if_pos (by decide)]
      · rw [if_pos (show 8 < (q : Int) - (p : Int) by omega)]
    · rw [if_pos (show ¬ (K : Int) = 1 by omega)]
/-- a new name's codes -/
theorem new_nm {tx : Nat → Int} {N p q K : Nat} {a b : Mi} (h : SRa tx N p q K a) (g : SRb tx N p q K b) (c : iNm tx p q K) : nmR (rl a 3 false 9) (rl b 7 false 5) := by
  obtain ⟨B, X, ⟨t1, t2, t3, t4, t5⟩, ⟨u1, u2, u3, u4, u5, u6, u7⟩⟩ := h
  obtain ⟨-, Y, ⟨v1, v2, v3, v4, v5⟩, -⟩ := g
  have hp := u4 (by have := c.1; omega)
  exact ⟨tkn tx p, q - p, by omega, c.2.1, u5 c.1, fun w hw s => c.2.2 w hw ⟨c.1, s⟩, t4 c.1, by rw [v4 c.1, if_pos c.2.1]⟩
/-- numbers -/
def nOK (tx : Nat → Int) (p q K : Nat) (lo hi : Int) : Prop := K = 2 ∧ lo ≤ nvM (tkn tx p) (q - p) ∧ nvM (tkn tx p) (q - p) ≤ hi
theorem num_X {tx : Nat → Int} {N p q K : Nat} {a : Mi} (h : SRa tx N p q K a) {lo hi : Int} (h0 : 0 ≤ lo ∧ lo ≤ 1) (h1 : 0 ≤ hi ∧ hi ≤ 99) : (D_X3_isNumber lo hi a = 1 ∧ nOK tx p q K lo hi ∧ rd a 3 false 8 = nvM (tkn tx p) (q - p)) ∨ (D_X3_isNumber lo hi a = 0 ∧ ¬ nOK tx p q K lo hi) := by
  obtain ⟨B, X, ⟨t1, t2, t3, t4, t5⟩, ⟨u1, u2, u3, u4, u5, u6, u7⟩⟩ := h
  unfold D_X3_isNumber
  rw [t3, wid (x := (K : Int)) (by omega) (by omega), wid (x := lo) (by omega) (by omega), wid (x := hi) (by omega) (by omega)]
  by_cases z : K = 2
  rotate_left
  · rw [if_pos (by omega)]; exact Or.inr ⟨rfl, fun w => z w.1⟩
  have hv := nvM_b _ (u6 z)
  have e8 := t5 z
  rw [if_neg (by omega), e8, wid (x := min 1000 (nvM (tkn tx p) (q - p))) (by omega) (by omega)]
  by_cases y : min 1000 (nvM (tkn tx p) (q - p)) < lo
  · rw [if_pos y]; exact Or.inr ⟨rfl, fun w => by have := w.2; omega⟩
  · rw [if_neg y]
    by_cases x : hi < min 1000 (nvM (tkn tx p) (q - p))
    · rw [if_pos x]; exact Or.inr ⟨rfl, fun w => by have := w.2; omega⟩
    · rw [if_neg x]; exact Or.inl ⟨rfl, ⟨z, by omega, by omega⟩, by omega⟩
theorem num_M {tx : Nat → Int} {N p q K : Nat} {b : Mi} (h : SRb tx N p q K b) {lo hi : Int} (h0 : 0 ≤ lo ∧ lo ≤ 1) (h1 : 0 ≤ hi ∧ hi ≤ 99) : (nOK tx p q K lo hi → D_X7_number lo hi b = bm (D_X7_next (wr b 7 false 35 (nvM (tkn tx p) (q - p)))) fun m1 => some (1, m1)) ∧ (¬ nOK tx p q K lo hi → D_X7_number lo hi b = some (0, b)) := by
  obtain ⟨B, X, ⟨t1, t2, t3, t4, t5⟩, ⟨u1, u2, u3, u4, u5, u6, u7⟩⟩ := h
  unfold D_X7_number
  rw [t3, wid (x := (K : Int)) (by omega) (by omega), wid (x := lo) (by omega) (by omega), wid (x := hi) (by omega) (by omega)]
  by_cases z : K = 2
  rotate_left
  · rw [if_pos (by omega)]; exact ⟨fun w => absurd w.1 z, fun _ => rfl⟩
  have hv := nvM_b _ (u6 z)
  rw [if_neg (by omega), t5 z, lcmp_lt (w64id (by omega) (by omega)) (w64id (x := lo) (by omega) (by omega)), lcmp_lt (w64id (by omega) (by omega)) (w64id (x := hi) (by omega) (by omega))]
  by_cases y : nvM (tkn tx p) (q - p) < lo
  · refine ⟨fun w => by have := w.2; omega, fun _ => ?_⟩
    rw [if_neg (show ¬ lo < nvM (tkn tx p) (q - p) by omega), if_neg (show ¬ nvM (tkn tx p) (q - p) = lo by omega), if_pos (by decide)]
  · have e1 : ¬ w32 (if lo < nvM (tkn tx p) (q - p) then 1 else if nvM (tkn tx p) (q - p) = lo then 0 else -1) < 0 := by
      by_cases x : lo < nvM (tkn tx p) (q - p)
      · rw [if_pos x]; decide
      · rw [if_neg x, if_pos (by omega)]; decide
    rw [if_neg e1]
    by_cases x : hi < nvM (tkn tx p) (q - p)
    · refine ⟨fun w => by have := w.2; omega, fun _ => ?_⟩
      rw [if_pos x, if_neg (by decide)]
    · refine ⟨fun _ => ?_, fun w => absurd ⟨z, by omega, by omega⟩ w⟩
      rw [if_neg x]
      by_cases v : nvM (tkn tx p) (q - p) = hi
      · rw [if_pos v, if_pos (by decide)]
      · rw [if_neg v, if_pos (by decide)]
