/-! PURE: the class goes forward: marks -/
def Mk (μ : Mi) (c : Co) (h k : Nat) : Prop := 1073741824 ≤ Tm c (tb μ) h k
/-- what holds of the marks at all times: T is the table of ways as it was filled -/
def WA (μ : Mi) (i : Bool) (c : Co) (S L : List Nat) (pm N : Nat) (ce : Nat → Nat) (T : Tb) : Prop := Fb μ i c S L pm 4 N ce ∧ (∀ g l t s e : Nat, (g : Int) ≤ c 2 2 → Vd c S L g l t s e → (-1 ≤ tb μ g l t s e ∧ tb μ g l t s e ≤ 2147483647) ∧ (0 ≤ tb μ g l t s e ↔ 0 ≤ T g l t s e)) ∧ ∀ g k : Nat, (g : Int) ≤ c 2 2 → VM c S L g k → Mk μ c g k → ∃ k2, Rch c S L pm g k2 ∧ sc c k2 k
/-- the mark of the cell of k' at g is set -/
def mkS (μ : Mi) (c : Co) (g k' : Nat) : Mi := wr μ 32 false (pT g (cp c (k' % 5)) (k' / 140) (k' / 20 % 7) (k' / 5 % 4)) (((Tm c (tb μ) g k').toNat ||| 1073741824 : Nat) : Int)
theorem sc_sy {c : Co} {k k' : Nat} (s : sc c k k') : sc c k' k := ⟨s.1.symm, s.2.1.symm, s.2.2.1.symm, s.2.2.2.symm⟩
theorem sc_tr {c : Co} {a b d : Nat} (s : sc c a b) (t : sc c b d) : sc c a d := ⟨s.1.trans t.1, s.2.1.trans t.2.1, s.2.2.1.trans t.2.2.1, s.2.2.2.trans t.2.2.2⟩
theorem mkS_tb {μ : Mi} {c : Co} {S L : List Nat} {pm g k' : Nat} (hw : WF c) (hs : Sk c S L pm) (hg : (g : Int) ≤ c 2 2) (v : VM c S L g k') {g2 l t s e : Nat} (hg2 : (g2 : Int) ≤ c 2 2) (v2 : Vd c S L g2 l t s e) : tb (mkS μ c g k') g2 l t s e = if g2 = g ∧ l = cp c (k' % 5) ∧ t = k' / 140 ∧ s = k' / 20 % 7 ∧ e = k' / 5 % 4 then (((Tm c (tb μ) g k').toNat ||| 1073741824 : Nat) : Int) else tb μ g2 l t s e := by
  have hen := hw.2.2.2.2.2.2.2.1
  unfold mkS
  by_cases z : g2 = g ∧ l = cp c (k' % 5) ∧ t = k' / 140 ∧ s = k' / 20 % 7 ∧ e = k' / 5 % 4
  · rw [if_pos z]
    obtain ⟨z1, z2, z3, z4, z5⟩ := z
    unfold tb
    rw [z1, z2, z3, z4, z5, rd_s]
  · rw [if_neg z]
    unfold tb
    rw [rd_wr, if_neg (fun w => z (pT_inj hw hs (by omega) (by omega) v2 (v.vd hw hs) w.2.2))]
theorem mkS_Tm {μ : Mi} {c : Co} {S L : List Nat} {pm g k' : Nat} (hw : WF c) (hs : Sk c S L pm) (hg : (g : Int) ≤ c 2 2) (v : VM c S L g k') {g2 k : Nat} (hg2 : (g2 : Int) ≤ c 2 2) (v2 : VM c S L g2 k) : Tm c (tb (mkS μ c g k')) g2 k = if g2 = g ∧ sc c k k' then (((Tm c (tb μ) g k').toNat ||| 1073741824 : Nat) : Int) else Tm c (tb μ) g2 k := by
  have := mkS_tb (μ := μ) hw hs hg v hg2 (v2.vd hw hs)
  unfold Tm at this ⊢
  rw [this]
/-- marking -/
theorem WA.mark {μ : Mi} {i : Bool} {c : Co} {S L : List Nat} {pm N : Nat} {ce : Nat → Nat} {T : Tb} (W : WA μ i c S L pm N ce T) {g k' : Nat} (hg : (g : Int) ≤ c 2 2) (v : VM c S L g k') (h0 : 0 ≤ Tm c T g k') (hr : ∃ k2, Rch c S L pm g k2 ∧ sc c k2 k') : WA (mkS μ c g k') i c S L pm N ce T ∧ (∀ h k : Nat, (h : Int) ≤ c 2 2 → VM c S L h k → (Mk (mkS μ c g k') c h k ↔ Mk μ c h k ∨ (h = g ∧ sc c k k'))) := by
  obtain ⟨F, wb, wc⟩ := W
  have hw := F.1.2.1
  have hs := F.1.2.2.1
  have hb := wb g _ _ _ _ hg (v.vd hw hs)
  have hY : 0 ≤ Tm c (tb μ) g k' ∧ Tm c (tb μ) g k' ≤ 2147483647 := ⟨hb.2.mpr h0, hb.1.2⟩
  have ho := or30 (y := (Tm c (tb μ) g k').toNat) (by omega)
  have hM : ∀ h k : Nat, (h : Int) ≤ c 2 2 → VM c S L h k → (Mk (mkS μ c g k') c h k ↔ Mk μ c h k ∨ (h = g ∧ sc c k k')) := fun h k hh vk => by
    unfold Mk
    rw [mkS_Tm hw hs hg v hh vk]
    by_cases z : h = g ∧ sc c k k'
    · rw [if_pos z]
      exact ⟨fun _ => Or.inr z, fun _ => by omega⟩
    · rw [if_neg z]
      exact ⟨fun w => Or.inl w, fun w => w.elim id (fun w => absurd w z)⟩
  refine ⟨⟨Fb_w F, fun g2 l t s e hg2 v2 => ?_, fun g2 k hg2 vk mk => ?_⟩, hM⟩
  · have b2 := wb g2 l t s e hg2 v2
    rw [mkS_tb hw hs hg v hg2 v2]
    by_cases z : g2 = g ∧ l = cp c (k' % 5) ∧ t = k' / 140 ∧ s = k' / 20 % 7 ∧ e = k' / 5 % 4
    · rw [if_pos z]
      refine ⟨by omega, fun _ => ?_, fun _ => by omega⟩
      rw [z.1, z.2.1, z.2.2.1, z.2.2.2.1, z.2.2.2.2]
      exact h0
    · rw [if_neg z]; exact b2
  · rcases (hM g2 k hg2 vk).mp mk with w | ⟨w1, w2⟩
    · exact wc g2 k hg2 vk w
    · obtain ⟨k2, r1, r2⟩ := hr
      rw [w1]
      exact ⟨k2, r1, sc_tr r2 (sc_sy w2)⟩
/-- reach at the cell of a state -/
theorem WA.reach {μ : Mi} {i : Bool} {c : Co} {S L : List Nat} {pm N : Nat} {ce : Nat → Nat} {T : Tb} (W : WA μ i c S L pm N ce T) {g l t s e : Nat} (hg : (g : Int) ≤ c 2 2) (v : Vd c S L g l t s e) : (T g l t s e < 0 → D_X4_reach i (g : Int) ((mk4 l t s e : Nat) : Int) μ = some (0, μ)) ∧ ∀ k' : Nat, VM c S L g k' → l = cp c (k' % 5) → t = k' / 140 → s = k' / 20 % 7 → e = k' / 5 % 4 → 0 ≤ T g l t s e → D_X4_reach i (g : Int) ((mk4 l t s e : Nat) : Int) μ = some (1, mkS μ c g k') := by
  obtain ⟨F, wb, wc⟩ := W
  have hen := F.1.2.1.2.2.2.2.2.2.2.1
  obtain ⟨b1, b2⟩ := wb g l t s e hg v
  have hr := reach_X F.1 (by omega) v b1
  refine ⟨fun z => ?_, fun k' vk e1 e2 e3 e4 z => ?_⟩
  · rw [hr, if_neg (by omega)]
  · rw [hr, if_pos (b2.mpr z)]
    subst e1 e2 e3 e4
    rfl
