section Ends
variable {y : Yd} {G : Cx} {b : Ab} {pc : Nat} {ls : List (Option Value)} {st : List Value} {σ τ : Mm} {r : Option Value}
theorem lv_args1 : ∀ (av : List Value) (i : Nat), (∀ v ∈ av, v.category = 1) → ∀ (k : Nat) (v : Value), av[k]? = some v → (i + k, v) ∈ lv_args i av
  | [], _, _, k, v, h => by simp at h
  | w :: t, i, hc, k, v, h => by
    have hw : ¬ w.category = 2 := by rw [hc w List.mem_cons_self]; decide
    rw [lv_args, if_neg hw]
    cases k with
    | zero =>
      simp at h
      rw [h]
      exact List.mem_cons_self
    | succ k =>
      have := lv_args1 t (i + 1) (fun v hv => hc v (List.mem_cons_of_mem _ hv)) k v (by simpa using h)
      rw [show i + (k + 1) = i + 1 + k by omega]
      exact List.mem_cons_of_mem _ this
theorem lg_sl1 : ∀ (av : List Value), (∀ v ∈ av, v.category = 1) → (lg_sl av).length = av.length
  | [], _ => rfl
  | w :: t, hc => by
    have hw : ¬ w.category = 2 := by rw [hc w List.mem_cons_self]; decide
    have := lg_sl1 t (fun v hv => hc v (List.mem_cons_of_mem _ hv))
    simp only [lg_sl] at this
    simp [lg_sl, hw, this]
theorem Lc_entry {av : List Value} {n : Nat} {ls0 : List (Option Value)} (hc : ∀ v ∈ av, v.category = 1) (hn : av.length ≤ n) (hls : av.map some ++ List.replicate (n - av.length) none = ls0) : Lc ((lg_sl av ++ List.replicate (n - (lg_sl av).length) Slot.unset).toArray) n ls0 := by
  have h := lv_entry av (n := n) (by rw [lg_sl1 av hc]; exact hn)
  refine ⟨h.1, h.2.1, fun k v hk => h.2.2 (k, v) ?_⟩
  subst hls
  by_cases hk2 : k < av.length
  · rw [List.getElem?_append_left (by simpa using hk2), List.getElem?_map] at hk
    cases hq : av[k]? with
    | none => rw [hq] at hk; cases hk
    | some w =>
      rw [hq] at hk
      cases hk
      have := lv_args1 av 0 hc k v hq
      rwa [Nat.zero_add] at this
  · rw [List.getElem?_append_right (by simpa using Nat.not_lt.mp hk2)] at hk
    have := List.eq_of_mem_replicate (List.mem_of_getElem? hk)
    cases this
theorem Spec.of {av : List Value} {ls0 : List (Option Value)} (hpl : plainName (yN y).cls = true) (hown : yO y = (yN y).cls) (hc : ∀ v ∈ av, v.category = 1) (hn : av.length ≤ yL y) (hls : av.map some ++ List.replicate (yL y - av.length) none = ls0) (h : ∀ b : Ab, Fi y G b r τ → At y G b 0 ls0 [] σ) : Spec y G av σ r τ := by
  intro l
  refine Met.ofW (cc := yC y) (maxL := yL y) (ret := yT y) hpl rfl ?_
  intro p e s m args below meth c s₁ B hml hv
  obtain ⟨rfl, hP, hK, hJ, hSg⟩ := hv
  have hts := atoms_spec (ws := yWs y) B.pre
  have ho : s.vm.findClass (yO y) = some m.cls := by rw [hown]; exact findClass_of_methodNamed B.named
  rw [lg_entry_eq]
  exact h (p, l, e, yR y, s, m, av.toArray, below, meth, c, (0, 0), MQ below (Qc G r τ) av.toArray s 0 0 (wA G), wA G) ⟨rfl, rfl, rfl, B.returns⟩ ⟨B.exec, B.bytes, hml, ho, fun w hw => hts w (List.mem_cons_of_mem _ hw), hK, hJ, fun _ q => q, hSg, B.notSynchronized, Nat.le_refl _, Nat.le_refl _, Nat.le_refl _, Nat.le_refl _⟩ s.heap [] _ hP va_S.rf (Lc_entry hc hn hls)
theorem Fi.go (hF : Fi y G b r τ) (hS : ∀ {H : Heap} {locs : List Loc}, va_P G.2.1 vwCl (wW G τ) H → va_S (wA G) (bS b).heap H locs → ∀ la : Array Slot, Gd y G b → W b.1 b.2.1 b.2.2.1 (bR b) (bS b) (bM b) (bX b) (bW b) (bT b) (bC b) H locs 0 0 (MQ (bW b) (Qc G r τ) (bX b) (bS b) 0 0 (wA G)) (F0 (bM b) pc la st)) : At y G b pc ls st τ := by
  intro g H locs la hP hV hL
  obtain ⟨hQ, hA, hN, hR⟩ := hF
  rw [hA] at hV
  have hw := hS hP hV la g
  show W _ _ _ _ _ _ _ _ _ _ H locs (bN b).1 (bN b).2 (bQ b) _
  rw [hQ, hN]
  exact hw
theorem rt_i {v : Int32} (hF : Fi y G b r τ) (hT : yT y = some .int) (hd : decode (yC y) pc = .ok (.ireturn, 1)) (e : r = some (.int v)) (e2 : τ = σ) : At y G b pc ls [.int v] σ := by
  subst e; subst e2
  exact hF.go (fun hP hV la g => W.iret g.1 g.2.1 (hF.2.2.2.trans hT) (fun t ht _ => ⟨rfl, by rw [ht]; exact hP, hV.F ht⟩) hV.2.2 hd g.2.2.2.2.2.2.2.2.2.1)
theorem rt_z {v : Int32} {ty : FieldType} (hF : Fi y G b r τ) (hT : yT y = some ty) (hn : narrow ty (.int v) = .int v) (hd : decode (yC y) pc = .ok (.ireturn, 1)) (e : r = some (.int v)) (e2 : τ = σ) : At y G b pc ls [.int v] σ := by
  subst e; subst e2
  exact hF.go (fun hP hV la g => W.zret g.1 g.2.1 (hF.2.2.2.trans hT) hn (fun t ht _ => ⟨rfl, by rw [ht]; exact hP, hV.F ht⟩) hV.2.2 hd g.2.2.2.2.2.2.2.2.2.1)
theorem rt_l {v : Int64} (hF : Fi y G b r τ) (hT : yT y = some .long) (hd : decode (yC y) pc = .ok (.lreturn, 1)) (e : r = some (.long v)) (e2 : τ = σ) : At y G b pc ls [.long v] σ := by
  subst e; subst e2
  exact hF.go (fun hP hV la g => W.lret g.1 g.2.1 (hF.2.2.2.trans hT) (fun t ht _ => ⟨rfl, by rw [ht]; exact hP, hV.F ht⟩) hV.2.2 hd g.2.2.2.2.2.2.2.2.2.1)
theorem rt_v (hF : Fi y G b r τ) (hT : yT y = none) (hd : decode (yC y) pc = .ok (.return_, 1)) (e : r = none) (e2 : τ = σ) : At y G b pc ls [] σ := by
  subst e; subst e2
  exact hF.go (fun hP hV la g => W.vret g.1 g.2.1 (hF.2.2.2.trans hT) (fun t ht _ => ⟨rfl, by rw [ht]; exact hP, hV.F ht⟩) hV.2.2 hd g.2.2.2.2.2.2.2.2.2.1)
theorem rt_a {v : Value} {rt : FieldType} (hF : Fi y G b r τ) (hT : yT y = some rt) (hrt : (∃ n, rt = .object n) ∨ ∃ t, rt = .array t) (hv : isR v = true) (hd : decode (yC y) pc = .ok (.areturn, 1)) (e : r = some v) (e2 : τ = σ) : At y G b pc ls [v] σ := by
  subst e; subst e2
  exact hF.go (fun hP hV la g => W.aret g.1 g.2.1 (hF.2.2.2.trans hT) hrt (Or.inr (isR_of hv)) (fun t ht _ => ⟨rfl, by rw [ht]; exact hP, hV.F ht⟩) hV.2.2 hd g.2.2.2.2.2.2.2.2.2.1)
theorem at_call {av rest : List Value} {rv : Option Value} (hrun : Gd y G b → ∀ (H : Heap) (locs : List Loc) (la : Array Slot), va_P G.2.1 vwCl (wW G σ) H → va_S (bA b) (bS b).heap H locs → Lc la (yL y) ls → va_Run b.1 b.2.1 b.2.2.1 (bR b) (bS b) (bM b) (bX b) (bW b) (bT b) (bC b) H locs (bN b).1 (bN b).2 0 0 (F0 (bM b) pc la st) rest (Qc G rv τ av.toArray) (wA G)) (k : At y G b (pc + 3) ls (rv.toList ++ rest) τ) : At y G b pc ls st σ := by
  intro g H locs la hP hS hL T hT X
  obtain ⟨v, st₀, t, T', L, h0, X', hLf, e1, e2, ⟨hv, hP1, hz, hk⟩, stp⟩ := hrun g H locs la hP hS hL T hT X
  have hv : v = rv := Outcome.returned.inj hv
  subst hv
  rw [h0] at hz hk
  have hA := g.2.2.2.2.2.2.2.1
  obtain ⟨t2, a1, b1⟩ := k g T'.heap (locs ++ L) la (by rw [e1]; exact hP1)
    ⟨Nat.le_trans hS.1 (by rw [e1]; exact hz), fun q h1 h2 => by rw [e1, hk q (Nat.lt_of_lt_of_le h1 hS.1) (fun z => h2 (hA q z))]; exact hS.2.1 q h1 h2, fun q hq => by
      rcases List.mem_append.mp hq with h | h
      · exact hS.2.2 q h
      · exact hA _ (hLf q h)⟩ hL T' rfl X'
  exact ⟨t2, stp t2 a1, b1⟩
def dsc (z : MethodName) (n : Nat) : Prop := z.cls ≠ "java/lang/invoke/MethodHandle" ∧ z.cls ≠ "java/lang/invoke/VarHandle" ∧ (parseMethodDescriptor z.desc).map (fun d => d.parameters.length) = some n
def CvW (own : String) (ix : Nat) (z : Yd) (n : Nat) : Prop := Cond.methodLink own ix (yN z) ∈ WT ∧ Cond.instanceMethod (yN z) ∈ WT ∧ Cond.selects (yN z).cls (yN z) (yN z) ∈ WT ∧ Cond.initialized (yN z).cls ∈ WT ∧ Cond.code (yN z) (yC z) (yL z) (yT z) ∈ WT ∧ dsc (yN z) n
def CsW (own : String) (ix : Nat) (z : Yd) (n : Nat) : Prop := Cond.methodLink own ix (yN z) ∈ WT ∧ Cond.static (yN z) ∈ WT ∧ Cond.initialized (yN z).cls ∈ WT ∧ Cond.code (yN z) (yC z) (yL z) (yT z) ∈ WT ∧ dsc (yN z) n
theorem ws_good {z : Yd} (h : Cond.code (yN z) (yC z) (yL z) (yT z) ∈ WT) : GoodIn WT (yWs z) := fun w hw => by
  rcases List.mem_cons.mp hw with rfl | hw
  · exact wt_good _ h
  · exact wt_good _ hw
theorem Wd.blind {av : List Value} : FrameBlind (va_Pc av (Wd G σ)) := fun a U g mk q => ⟨q.1, q.2.1, va_K.moved (u := U) (U := U.calling g mk a) (Vm.Alike.refl U.vm) q.2.2.1, q.2.2.2.1, Sg.same (s := U) rfl q.2.2.2.2⟩
theorem Wd.to {H : Heap} {locs : List Loc} (g : Gd y G b) (hP : va_P G.2.1 vwCl (wW G σ) H) (hS : va_S (bA b) (bS b).heap H locs) : ∀ U : State, U.heap = H → (bS b).WarmedH U.vm → Wd G σ U := fun U hU hW =>
  ⟨by rw [hU]; exact hP, va_K.moved hW.alike g.2.2.2.2.2.1, g.2.2.2.2.2.2.1, by rw [hU]; exact Sg.warm hW hS.2.1 g.2.2.2.2.2.2.2.1 g.2.2.2.2.2.2.2.2.1⟩
def rv_ok (y : Yd) (G : Cx) (b : Ab) (σ : Mm) (a : Nat) (C : String) : Prop := Gd y G b → ∀ (H : Heap) (locs : List Loc), va_P G.2.1 vwCl (wW G σ) H → va_S (bA b) (bS b).heap H locs → ∃ cell : Cell, H[a]? = some cell ∧ cell.vm.isStatics = false ∧ (bS b).vm.findClass C = some cell.cls
theorem rv_obj {ci q N : Nat} {i : Bool} {C : String} {T : u_T} {fs : List Value} (ho : okC q i = true) (h0 : arK q = 0) (hf : enO G (gI σ q i) (gL σ q i) q i = (ci, fs)) (hc : vwCl[ci]? = some (C, T, N)) : rv_ok y G b σ (G.1 q i) C := by
  intro g H locs hP hS
  obtain ⟨q0, hq⟩ := okC_at ho
  have he : (wW G σ)[q0]? = some (G.1 q i, .inr (ci, fs)) := by rw [wW_at hq, en, if_pos h0, hf]
  exact va_recv g.2.2.2.2.2.1 hP hc he
theorem rv_str {k : Nat} (hk : k < 14) : rv_ok y G b σ (G.2.2.2.1 k) "java/lang/String" := fun g H locs hP hS => va_Orecv (g.2.2.2.2.2.2.2.2.1.1 k hk).1 hS
theorem at_callV {z : Yd} {own : String} {ix a n' : Nat} {As rest : List Value} {rv : Option Value} (ho : yO y = own) (cw : CvW own ix z As.length) (hR : yF z + 1 ≤ yF y ∧ 8 + (yL z + 11) + yW z ≤ yW y) (hrv : rv_ok y G b σ a (yN z).cls) (hz : Spec z G (.ref a :: As) σ rv τ) (hroom : (rest.map fun v => v.category).sum ≤ 8) (hd : decode (yC y) pc = .ok (.invokevirtual ix, 3)) (hp : pc + 3 = n') (k : At y G b n' ls (rv.toList ++ rest) τ) : At y G b pc ls (As.reverse ++ .ref a :: rest) σ := by
  subst hp; subst ho
  refine at_call (av := .ref a :: As) (rest := rest) (rv := rv) (fun g H locs la hP hS hL => ?_) k
  have hts := g.2.2.2.2.1
  have hlo := g.2.2.2.2.2.2.2.2.2.2
  exact va_runV (C := (yN z).cls) (Ts := WT) ⟨g.1, g.2.1, g.2.2.1, g.2.2.2.1, hts⟩ (hz b.2.1) ⟨callB_of As.length hts (ws_good cw.2.2.2.2.1) rfl rfl rfl (hts _ cw.2.2.2.1) (hts _ cw.1) cw.2.2.2.2.2 ⟨Nat.le_trans hR.1 hlo.1, Nat.le_trans hR.2 hlo.2.1⟩, hts _ cw.2.1, hts _ cw.2.2.1⟩ ⟨Wd.blind, hrv g H locs hP hS, fun U hU hW => ⟨rfl, Wd.to g hP hS U hU hW⟩⟩ rfl rfl hL.1 rfl (lv_room hroom) hd ⟨hlo.2.2.1, hlo.2.2.2⟩
theorem at_callS {z : Yd} {own : String} {ix n' : Nat} {As rest : List Value} {rv : Option Value} (ho : yO y = own) (cw : CsW own ix z As.length) (hR : yF z + 1 ≤ yF y ∧ 8 + (yL z + 11) + yW z ≤ yW y) (hz : Spec z G As σ rv τ) (hroom : (rest.map fun v => v.category).sum ≤ 8) (hd : decode (yC y) pc = .ok (.invokestatic ix, 3)) (hp : pc + 3 = n') (k : At y G b n' ls (rv.toList ++ rest) τ) : At y G b pc ls (As.reverse ++ rest) σ := by
  subst hp; subst ho
  refine at_call (av := As) (rest := rest) (rv := rv) (fun g H locs la hP hS hL => ?_) k
  have hts := g.2.2.2.2.1
  have hlo := g.2.2.2.2.2.2.2.2.2.2
  exact va_runS (Ts := WT) ⟨g.1, g.2.1, g.2.2.1, g.2.2.2.1, hts⟩ (hz b.2.1) ⟨callB_of As.length hts (ws_good cw.2.2.2.1) rfl rfl rfl (hts _ cw.2.2.1) (hts _ cw.1) cw.2.2.2.2 ⟨Nat.le_trans hR.1 hlo.1, Nat.le_trans hR.2 hlo.2.1⟩, hts _ cw.2.1⟩ ⟨Wd.blind, fun U hU hW => ⟨rfl, Wd.to g hP hS U hU hW⟩⟩ rfl rfl hL.1 rfl (lv_room hroom) hd ⟨hlo.2.2.1, hlo.2.2.2⟩
theorem cv_0 {z : Yd} {own : String} {ix q : Nat} {i : Bool} {rest : List Value} {rv : Option Value} (n' : Nat) (cw : CvW own ix z 0) (hz : Spec z G [rf G q i] σ rv τ) (ho : yO y = own) (hR : yF z + 1 ≤ yF y ∧ 8 + (yL z + 11) + yW z ≤ yW y) {ci N : Nat} {C : String} {T : u_T} {fs : List Value} (hok : okC q i = true) (h0 : arK q = 0) (hf : enO G (gI σ q i) (gL σ q i) q i = (ci, fs)) (hc : vwCl[ci]? = some (C, T, N)) (hC : C = (yN z).cls) (hroom : (rest.map fun v => v.category).sum ≤ 8) (hd : decode (yC y) pc = .ok (.invokevirtual ix, 3)) (hp : pc + 3 = n') (k : At y G b n' ls (rv.toList ++ rest) τ) : At y G b pc ls (rf G q i :: rest) σ := at_callV (As := []) ho cw hR (hC ▸ rv_obj hok h0 hf hc) hz hroom hd hp k
theorem cs_0 {z : Yd} {own : String} {ix : Nat} {rest : List Value} {rv : Option Value} (n' : Nat) (cw : CsW own ix z 0) (hz : Spec z G [] σ rv τ) (ho : yO y = own) (hR : yF z + 1 ≤ yF y ∧ 8 + (yL z + 11) + yW z ≤ yW y) (hroom : (rest.map fun v => v.category).sum ≤ 8) (hd : decode (yC y) pc = .ok (.invokestatic ix, 3)) (hp : pc + 3 = n') (k : At y G b n' ls (rv.toList ++ rest) τ) : At y G b pc ls (rest) σ := at_callS (As := []) ho cw hR hz hroom hd hp k
theorem cv_1 {z : Yd} {own : String} {ix q : Nat} {i : Bool} {v1 : Value} {rest : List Value} {rv : Option Value} (n' : Nat) (cw : CvW own ix z 1) (hz : Spec z G [rf G q i, v1] σ rv τ) (ho : yO y = own) (hR : yF z + 1 ≤ yF y ∧ 8 + (yL z + 11) + yW z ≤ yW y) {ci N : Nat} {C : String} {T : u_T} {fs : List Value} (hok : okC q i = true) (h0 : arK q = 0) (hf : enO G (gI σ q i) (gL σ q i) q i = (ci, fs)) (hc : vwCl[ci]? = some (C, T, N)) (hC : C = (yN z).cls) (hroom : (rest.map fun v => v.category).sum ≤ 8) (hd : decode (yC y) pc = .ok (.invokevirtual ix, 3)) (hp : pc + 3 = n') (k : At y G b n' ls (rv.toList ++ rest) τ) : At y G b pc ls (v1 :: rf G q i :: rest) σ := at_callV (As := [v1]) ho cw hR (hC ▸ rv_obj hok h0 hf hc) hz hroom hd hp k
theorem cs_1 {z : Yd} {own : String} {ix : Nat} {v1 : Value} {rest : List Value} {rv : Option Value} (n' : Nat) (cw : CsW own ix z 1) (hz : Spec z G [v1] σ rv τ) (ho : yO y = own) (hR : yF z + 1 ≤ yF y ∧ 8 + (yL z + 11) + yW z ≤ yW y) (hroom : (rest.map fun v => v.category).sum ≤ 8) (hd : decode (yC y) pc = .ok (.invokestatic ix, 3)) (hp : pc + 3 = n') (k : At y G b n' ls (rv.toList ++ rest) τ) : At y G b pc ls (v1 :: rest) σ := at_callS (As := [v1]) ho cw hR hz hroom hd hp k
theorem cv_2 {z : Yd} {own : String} {ix q : Nat} {i : Bool} {v1 v2 : Value} {rest : List Value} {rv : Option Value} (n' : Nat) (cw : CvW own ix z 2) (hz : Spec z G [rf G q i, v1, v2] σ rv τ) (ho : yO y = own) (hR : yF z + 1 ≤ yF y ∧ 8 + (yL z + 11) + yW z ≤ yW y) {ci N : Nat} {C : String} {T : u_T} {fs : List Value} (hok : okC q i = true) (h0 : arK q = 0) (hf : enO G (gI σ q i) (gL σ q i) q i = (ci, fs)) (hc : vwCl[ci]? = some (C, T, N)) (hC : C = (yN z).cls) (hroom : (rest.map fun v => v.category).sum ≤ 8) (hd : decode (yC y) pc = .ok (.invokevirtual ix, 3)) (hp : pc + 3 = n') (k : At y G b n' ls (rv.toList ++ rest) τ) : At y G b pc ls (v2 :: v1 :: rf G q i :: rest) σ := at_callV (As := [v1, v2]) ho cw hR (hC ▸ rv_obj hok h0 hf hc) hz hroom hd hp k
theorem cs_2 {z : Yd} {own : String} {ix : Nat} {v1 v2 : Value} {rest : List Value} {rv : Option Value} (n' : Nat) (cw : CsW own ix z 2) (hz : Spec z G [v1, v2] σ rv τ) (ho : yO y = own) (hR : yF z + 1 ≤ yF y ∧ 8 + (yL z + 11) + yW z ≤ yW y) (hroom : (rest.map fun v => v.category).sum ≤ 8) (hd : decode (yC y) pc = .ok (.invokestatic ix, 3)) (hp : pc + 3 = n') (k : At y G b n' ls (rv.toList ++ rest) τ) : At y G b pc ls (v2 :: v1 :: rest) σ := at_callS (As := [v1, v2]) ho cw hR hz hroom hd hp k
theorem cv_3 {z : Yd} {own : String} {ix q : Nat} {i : Bool} {v1 v2 v3 : Value} {rest : List Value} {rv : Option Value} (n' : Nat) (cw : CvW own ix z 3) (hz : Spec z G [rf G q i, v1, v2, v3] σ rv τ) (ho : yO y = own) (hR : yF z + 1 ≤ yF y ∧ 8 + (yL z + 11) + yW z ≤ yW y) {ci N : Nat} {C : String} {T : u_T} {fs : List Value} (hok : okC q i = true) (h0 : arK q = 0) (hf : enO G (gI σ q i) (gL σ q i) q i = (ci, fs)) (hc : vwCl[ci]? = some (C, T, N)) (hC : C = (yN z).cls) (hroom : (rest.map fun v => v.category).sum ≤ 8) (hd : decode (yC y) pc = .ok (.invokevirtual ix, 3)) (hp : pc + 3 = n') (k : At y G b n' ls (rv.toList ++ rest) τ) : At y G b pc ls (v3 :: v2 :: v1 :: rf G q i :: rest) σ := at_callV (As := [v1, v2, v3]) ho cw hR (hC ▸ rv_obj hok h0 hf hc) hz hroom hd hp k
theorem cs_3 {z : Yd} {own : String} {ix : Nat} {v1 v2 v3 : Value} {rest : List Value} {rv : Option Value} (n' : Nat) (cw : CsW own ix z 3) (hz : Spec z G [v1, v2, v3] σ rv τ) (ho : yO y = own) (hR : yF z + 1 ≤ yF y ∧ 8 + (yL z + 11) + yW z ≤ yW y) (hroom : (rest.map fun v => v.category).sum ≤ 8) (hd : decode (yC y) pc = .ok (.invokestatic ix, 3)) (hp : pc + 3 = n') (k : At y G b n' ls (rv.toList ++ rest) τ) : At y G b pc ls (v3 :: v2 :: v1 :: rest) σ := at_callS (As := [v1, v2, v3]) ho cw hR hz hroom hd hp k
theorem cv_4 {z : Yd} {own : String} {ix q : Nat} {i : Bool} {v1 v2 v3 v4 : Value} {rest : List Value} {rv : Option Value} (n' : Nat) (cw : CvW own ix z 4) (hz : Spec z G [rf G q i, v1, v2, v3, v4] σ rv τ) (ho : yO y = own) (hR : yF z + 1 ≤ yF y ∧ 8 + (yL z + 11) + yW z ≤ yW y) {ci N : Nat} {C : String} {T : u_T} {fs : List Value} (hok : okC q i = true) (h0 : arK q = 0) (hf : enO G (gI σ q i) (gL σ q i) q i = (ci, fs)) (hc : vwCl[ci]? = some (C, T, N)) (hC : C = (yN z).cls) (hroom : (rest.map fun v => v.category).sum ≤ 8) (hd : decode (yC y) pc = .ok (.invokevirtual ix, 3)) (hp : pc + 3 = n') (k : At y G b n' ls (rv.toList ++ rest) τ) : At y G b pc ls (v4 :: v3 :: v2 :: v1 :: rf G q i :: rest) σ := at_callV (As := [v1, v2, v3, v4]) ho cw hR (hC ▸ rv_obj hok h0 hf hc) hz hroom hd hp k
theorem cs_4 {z : Yd} {own : String} {ix : Nat} {v1 v2 v3 v4 : Value} {rest : List Value} {rv : Option Value} (n' : Nat) (cw : CsW own ix z 4) (hz : Spec z G [v1, v2, v3, v4] σ rv τ) (ho : yO y = own) (hR : yF z + 1 ≤ yF y ∧ 8 + (yL z + 11) + yW z ≤ yW y) (hroom : (rest.map fun v => v.category).sum ≤ 8) (hd : decode (yC y) pc = .ok (.invokestatic ix, 3)) (hp : pc + 3 = n') (k : At y G b n' ls (rv.toList ++ rest) τ) : At y G b pc ls (v4 :: v3 :: v2 :: v1 :: rest) σ := at_callS (As := [v1, v2, v3, v4]) ho cw hR hz hroom hd hp k
theorem cv_5 {z : Yd} {own : String} {ix q : Nat} {i : Bool} {v1 v2 v3 v4 v5 : Value} {rest : List Value} {rv : Option Value} (n' : Nat) (cw : CvW own ix z 5) (hz : Spec z G [rf G q i, v1, v2, v3, v4, v5] σ rv τ) (ho : yO y = own) (hR : yF z + 1 ≤ yF y ∧ 8 + (yL z + 11) + yW z ≤ yW y) {ci N : Nat} {C : String} {T : u_T} {fs : List Value} (hok : okC q i = true) (h0 : arK q = 0) (hf : enO G (gI σ q i) (gL σ q i) q i = (ci, fs)) (hc : vwCl[ci]? = some (C, T, N)) (hC : C = (yN z).cls) (hroom : (rest.map fun v => v.category).sum ≤ 8) (hd : decode (yC y) pc = .ok (.invokevirtual ix, 3)) (hp : pc + 3 = n') (k : At y G b n' ls (rv.toList ++ rest) τ) : At y G b pc ls (v5 :: v4 :: v3 :: v2 :: v1 :: rf G q i :: rest) σ := at_callV (As := [v1, v2, v3, v4, v5]) ho cw hR (hC ▸ rv_obj hok h0 hf hc) hz hroom hd hp k
theorem cs_5 {z : Yd} {own : String} {ix : Nat} {v1 v2 v3 v4 v5 : Value} {rest : List Value} {rv : Option Value} (n' : Nat) (cw : CsW own ix z 5) (hz : Spec z G [v1, v2, v3, v4, v5] σ rv τ) (ho : yO y = own) (hR : yF z + 1 ≤ yF y ∧ 8 + (yL z + 11) + yW z ≤ yW y) (hroom : (rest.map fun v => v.category).sum ≤ 8) (hd : decode (yC y) pc = .ok (.invokestatic ix, 3)) (hp : pc + 3 = n') (k : At y G b n' ls (rv.toList ++ rest) τ) : At y G b pc ls (v5 :: v4 :: v3 :: v2 :: v1 :: rest) σ := at_callS (As := [v1, v2, v3, v4, v5]) ho cw hR hz hroom hd hp k
theorem cv_6 {z : Yd} {own : String} {ix q : Nat} {i : Bool} {v1 v2 v3 v4 v5 v6 : Value} {rest : List Value} {rv : Option Value} (n' : Nat) (cw : CvW own ix z 6) (hz : Spec z G [rf G q i, v1, v2, v3, v4, v5, v6] σ rv τ) (ho : yO y = own) (hR : yF z + 1 ≤ yF y ∧ 8 + (yL z + 11) + yW z ≤ yW y) {ci N : Nat} {C : String} {T : u_T} {fs : List Value} (hok : okC q i = true) (h0 : arK q = 0) (hf : enO G (gI σ q i) (gL σ q i) q i = (ci, fs)) (hc : vwCl[ci]? = some (C, T, N)) (hC : C = (yN z).cls) (hroom : (rest.map fun v => v.category).sum ≤ 8) (hd : decode (yC y) pc = .ok (.invokevirtual ix, 3)) (hp : pc + 3 = n') (k : At y G b n' ls (rv.toList ++ rest) τ) : At y G b pc ls (v6 :: v5 :: v4 :: v3 :: v2 :: v1 :: rf G q i :: rest) σ := at_callV (As := [v1, v2, v3, v4, v5, v6]) ho cw hR (hC ▸ rv_obj hok h0 hf hc) hz hroom hd hp k
theorem cs_6 {z : Yd} {own : String} {ix : Nat} {v1 v2 v3 v4 v5 v6 : Value} {rest : List Value} {rv : Option Value} (n' : Nat) (cw : CsW own ix z 6) (hz : Spec z G [v1, v2, v3, v4, v5, v6] σ rv τ) (ho : yO y = own) (hR : yF z + 1 ≤ yF y ∧ 8 + (yL z + 11) + yW z ≤ yW y) (hroom : (rest.map fun v => v.category).sum ≤ 8) (hd : decode (yC y) pc = .ok (.invokestatic ix, 3)) (hp : pc + 3 = n') (k : At y G b n' ls (rv.toList ++ rest) τ) : At y G b pc ls (v6 :: v5 :: v4 :: v3 :: v2 :: v1 :: rest) σ := at_callS (As := [v1, v2, v3, v4, v5, v6]) ho cw hR hz hroom hd hp k
theorem cv_7 {z : Yd} {own : String} {ix q : Nat} {i : Bool} {v1 v2 v3 v4 v5 v6 v7 : Value} {rest : List Value} {rv : Option Value} (n' : Nat) (cw : CvW own ix z 7) (hz : Spec z G [rf G q i, v1, v2, v3, v4, v5, v6, v7] σ rv τ) (ho : yO y = own) (hR : yF z + 1 ≤ yF y ∧ 8 + (yL z + 11) + yW z ≤ yW y) {ci N : Nat} {C : String} {T : u_T} {fs : List Value} (hok : okC q i = true) (h0 : arK q = 0) (hf : enO G (gI σ q i) (gL σ q i) q i = (ci, fs)) (hc : vwCl[ci]? = some (C, T, N)) (hC : C = (yN z).cls) (hroom : (rest.map fun v => v.category).sum ≤ 8) (hd : decode (yC y) pc = .ok (.invokevirtual ix, 3)) (hp : pc + 3 = n') (k : At y G b n' ls (rv.toList ++ rest) τ) : At y G b pc ls (v7 :: v6 :: v5 :: v4 :: v3 :: v2 :: v1 :: rf G q i :: rest) σ := at_callV (As := [v1, v2, v3, v4, v5, v6, v7]) ho cw hR (hC ▸ rv_obj hok h0 hf hc) hz hroom hd hp k
theorem cs_7 {z : Yd} {own : String} {ix : Nat} {v1 v2 v3 v4 v5 v6 v7 : Value} {rest : List Value} {rv : Option Value} (n' : Nat) (cw : CsW own ix z 7) (hz : Spec z G [v1, v2, v3, v4, v5, v6, v7] σ rv τ) (ho : yO y = own) (hR : yF z + 1 ≤ yF y ∧ 8 + (yL z + 11) + yW z ≤ yW y) (hroom : (rest.map fun v => v.category).sum ≤ 8) (hd : decode (yC y) pc = .ok (.invokestatic ix, 3)) (hp : pc + 3 = n') (k : At y G b n' ls (rv.toList ++ rest) τ) : At y G b pc ls (v7 :: v6 :: v5 :: v4 :: v3 :: v2 :: v1 :: rest) σ := at_callS (As := [v1, v2, v3, v4, v5, v6, v7]) ho cw hR hz hroom hd hp k
theorem ct_0 {z : Yd} {own : String} {ix q : Nat} {rest : List Value} {rv : Option Value} (n' : Nat) (cw : CvW own ix z 0) (hz : Spec z G [sf G q] σ rv τ) (hq : q < 14) (ho : yO y = own) (hR : yF z + 1 ≤ yF y ∧ 8 + (yL z + 11) + yW z ≤ yW y) (hC : "java/lang/String" = (yN z).cls) (hroom : (rest.map fun v => v.category).sum ≤ 8) (hd : decode (yC y) pc = .ok (.invokevirtual ix, 3)) (hp : pc + 3 = n') (k : At y G b n' ls (rv.toList ++ rest) τ) : At y G b pc ls (sf G q :: rest) σ := at_callV (As := []) ho cw hR (hC ▸ rv_str hq) hz hroom hd hp k
theorem ct_1 {z : Yd} {own : String} {ix q : Nat} {v1 : Value} {rest : List Value} {rv : Option Value} (n' : Nat) (cw : CvW own ix z 1) (hz : Spec z G [sf G q, v1] σ rv τ) (hq : q < 14) (ho : yO y = own) (hR : yF z + 1 ≤ yF y ∧ 8 + (yL z + 11) + yW z ≤ yW y) (hC : "java/lang/String" = (yN z).cls) (hroom : (rest.map fun v => v.category).sum ≤ 8) (hd : decode (yC y) pc = .ok (.invokevirtual ix, 3)) (hp : pc + 3 = n') (k : At y G b n' ls (rv.toList ++ rest) τ) : At y G b pc ls (v1 :: sf G q :: rest) σ := at_callV (As := [v1]) ho cw hR (hC ▸ rv_str hq) hz hroom hd hp k
end Ends
abbrev yd_J0_charAt_5068e : Yd := (RJ0, yJ0_charAt_5068e, cJ0_charAt_5068e, 2, (some .char), 4, 85)
abbrev yd_J0_checkIndex_df160 : Yd := (RJ0, yJ0_checkIndex_df160, cJ0_checkIndex_df160, 2, none, 1, 22)
abbrev yd_J0_coder_7d493 : Yd := (RJ0, yJ0_coder_7d493, cJ0_coder_7d493, 1, (some .byte), 0, 0)
abbrev yd_J0_isLatin1_aae02 : Yd := (RJ0, yJ0_isLatin1_aae02, cJ0_isLatin1_aae02, 1, (some .boolean), 0, 0)
abbrev yd_J0_length_8abf5 : Yd := (RJ0, yJ0_length_8abf5, cJ0_length_8abf5, 1, (some .int), 1, 20)
abbrev yd_J1_charAt_3b067 : Yd := (RJ1, yJ1_charAt_3b067, cJ1_charAt_3b067, 2, (some .char), 2, 43)
abbrev yd_J2_charAt_3b067 : Yd := (RJ2, yJ2_charAt_3b067, cJ2_charAt_3b067, 2, (some .char), 3, 64)
abbrev yd_J2_checkIndex_2214a : Yd := (RJ2, yJ2_checkIndex_2214a, cJ2_checkIndex_2214a, 2, none, 2, 43)
abbrev yd_J2_getChar_3b067 : Yd := (RJ2, yJ2_getChar_3b067, cJ2_getChar_3b067, 2, (some .char), 1, 20)
abbrev yd_J2_length_9d52b : Yd := (RJ2, yJ2_length_9d52b, cJ2_length_9d52b, 1, (some .int), 0, 0)
abbrev yd_J3_checkIndex_8e157 : Yd := (RJ3, yJ3_checkIndex_8e157, cJ3_checkIndex_8e157, 3, (some .int), 0, 0)
abbrev yd_J6_bitCount_0f7a4 : Yd := (RJ6, yJ6_bitCount_0f7a4, cJ6_bitCount_0f7a4, 1, (some .int), 0, 0)
abbrev yd_J6_numberOfTrailingZeros_0f7a4 : Yd := (RJ6, yJ6_numberOfTrailingZeros_0f7a4, cJ6_numberOfTrailingZeros_0f7a4, 2, (some .int), 0, 0)
abbrev yd_J9_floorDiv_7cf53 : Yd := (RJ9, yJ9_floorDiv_7cf53, cJ9_floorDiv_7cf53, 3, (some .int), 0, 0)
abbrev yd_J9_max_7cf53 : Yd := (RJ9, yJ9_max_7cf53, cJ9_max_7cf53, 2, (some .int), 0, 0)
abbrev yd_J9_min_7cf53 : Yd := (RJ9, yJ9_min_7cf53, cJ9_min_7cf53, 2, (some .int), 0, 0)
abbrev yd_X0_addLand : Yd := (RX0, yX0_addLand, cX0_addLand, 2, none, 0, 0)
abbrev yd_X0_addLink : Yd := (RX0, yX0_addLink, cX0_addLink, 7, none, 1, 24)
abbrev yd_X0_addTown : Yd := (RX0, yX0_addTown, cX0_addTown, 3, none, 0, 0)
abbrev yd_X0_clear : Yd := (RX0, yX0_clear, cX0_clear, 1, none, 0, 0)
abbrev yd_X0_dayAt : Yd := (RX0, yX0_dayAt, cX0_dayAt, 3, (some .int), 0, 0)
abbrev yd_X0_hasLand : Yd := (RX0, yX0_hasLand, cX0_hasLand, 2, (some .boolean), 0, 0)
abbrev yd_X0_hasLink : Yd := (RX0, yX0_hasLink, cX0_hasLink, 2, (some .boolean), 0, 0)
abbrev yd_X0_hasTown : Yd := (RX0, yX0_hasTown, cX0_hasTown, 2, (some .boolean), 0, 0)
abbrev yd_X0_init : Yd := (RX0, yX0_init, cX0_init, 1, none, 1, 40)
abbrev yd_X0_leavesAt : Yd := (RX0, yX0_leavesAt, cX0_leavesAt, 3, (some .boolean), 0, 0)
abbrev yd_X0_stampingLand : Yd := (RX0, yX0_stampingLand, cX0_stampingLand, 5, (some .int), 0, 0)
abbrev yd_X0_takeOver : Yd := (RX0, yX0_takeOver, cX0_takeOver, 3, none, 1, 60)
abbrev yd_X1_init : Yd := (RX1, yX1_init, cX1_init, 1, none, 1, 40)
abbrev yd_X2_add : Yd := (RX2, yX2_add, cX2_add, 5, (some .int), 1, 23)
abbrev yd_X2_counts : Yd := (RX2, yX2_counts, cX2_counts, 3, (some .boolean), 1, 21)
abbrev yd_X2_dropLast : Yd := (RX2, yX2_dropLast, cX2_dropLast, 1, (some .int), 0, 0)
abbrev yd_X2_has : Yd := (RX2, yX2_has, cX2_has, 2, (some .boolean), 0, 0)
abbrev yd_X2_howMany : Yd := (RX2, yX2_howMany, cX2_howMany, 4, (some .int), 0, 0)
abbrev yd_X2_init : Yd := (RX2, yX2_init, cX2_init, 1, none, 1, 40)
abbrev yd_X2_mostOf : Yd := (RX2, yX2_mostOf, cX2_mostOf, 1, (some .int), 0, 0)
abbrev yd_X2_setDoubted : Yd := (RX2, yX2_setDoubted, cX2_setDoubted, 3, (some .boolean), 1, 21)
abbrev yd_X2_settle : Yd := (RX2, yX2_settle, cX2_settle, 4, none, 0, 0)
abbrev yd_X2_stampFits : Yd := (RX2, yX2_stampFits, cX2_stampFits, 5, (some .boolean), 0, 0)
abbrev yd_X2_startAnew : Yd := (RX2, yX2_startAnew, cX2_startAnew, 1, none, 1, 23)
abbrev yd_X3_faultOf : Yd := (RX3, yX3_faultOf, cX3_faultOf, 3, (some .int), 10, 213)
abbrev yd_X3_howOfWord : Yd := (RX3, yX3_howOfWord, cX3_howOfWord, 1, (some .int), 6, 128)
abbrev yd_X3_init : Yd := (RX3, yX3_init, cX3_init, 3, none, 1, 40)
abbrev yd_X3_isDigit : Yd := (RX3, yX3_isDigit, cX3_isDigit, 2, (some .boolean), 0, 0)
abbrev yd_X3_isKept : Yd := (RX3, yX3_isKept, cX3_isKept, 1, (some .boolean), 6, 128)
abbrev yd_X3_isLetter : Yd := (RX3, yX3_isLetter, cX3_isLetter, 2, (some .boolean), 0, 0)
abbrev yd_X3_isNewName : Yd := (RX3, yX3_isNewName, cX3_isNewName, 1, (some .boolean), 7, 148)
abbrev yd_X3_isNumber : Yd := (RX3, yX3_isNumber, cX3_isNumber, 3, (some .boolean), 0, 0)
abbrev yd_X3_isWord : Yd := (RX3, yX3_isWord, cX3_isWord, 3, (some .boolean), 5, 106)
abbrev yd_X3_landOfWord : Yd := (RX3, yX3_landOfWord, cX3_landOfWord, 1, (some .int), 1, 23)
abbrev yd_X3_next : Yd := (RX3, yX3_next, cX3_next, 1, none, 2, 41)
abbrev yd_X3_passWord : Yd := (RX3, yX3_passWord, cX3_passWord, 2, (some .boolean), 6, 128)
abbrev yd_X3_placeOfName : Yd := (RX3, yX3_placeOfName, cX3_placeOfName, 4, (some .int), 0, 0)
abbrev yd_X3_readLand : Yd := (RX3, yX3_readLand, cX3_readLand, 4, (some .boolean), 8, 168)
abbrev yd_X3_readLine : Yd := (RX3, yX3_readLine, cX3_readLine, 1, (some .boolean), 9, 193)
abbrev yd_X3_readLink : Yd := (RX3, yX3_readLink, cX3_readLink, 7, (some .boolean), 7, 149)
abbrev yd_X3_readTown : Yd := (RX3, yX3_readTown, cX3_readTown, 6, (some .boolean), 8, 168)
abbrev yd_X3_takeNumber : Yd := (RX3, yX3_takeNumber, cX3_takeNumber, 1, none, 1, 21)
abbrev yd_X3_takeWord : Yd := (RX3, yX3_takeWord, cX3_takeWord, 1, none, 1, 21)
abbrev yd_X3_townOfWord : Yd := (RX3, yX3_townOfWord, cX3_townOfWord, 1, (some .int), 1, 23)
abbrev yd_X4_afterLink : Yd := (RX4, yX4_afterLink, cX4_afterLink, 9, (some .int), 1, 27)
abbrev yd_X4_afterStay : Yd := (RX4, yX4_afterStay, cX4_afterStay, 5, (some .int), 1, 25)
abbrev yd_X4_canTake : Yd := (RX4, yX4_canTake, cX4_canTake, 4, (some .boolean), 1, 20)
abbrev yd_X4_cellOf : Yd := (RX4, yX4_cellOf, cX4_cellOf, 4, (some .int), 0, 0)
abbrev yd_X4_charge : Yd := (RX4, yX4_charge, cX4_charge, 3, (some .int), 1, 20)
abbrev yd_X4_extremeOf : Yd := (RX4, yX4_extremeOf, cX4_extremeOf, 2, (some .int), 5, 135)
abbrev yd_X4_fewestToDoubt : Yd := (RX4, yX4_fewestToDoubt, cX4_fewestToDoubt, 2, (some .int), 5, 135)
abbrev yd_X4_fill : Yd := (RX4, yX4_fill, cX4_fill, 7, none, 4, 109)
abbrev yd_X4_firstMove : Yd := (RX4, yX4_firstMove, cX4_firstMove, 6, (some .int), 3, 84)
abbrev yd_X4_followTale : Yd := (RX4, yX4_followTale, cX4_followTale, 5, none, 4, 109)
abbrev yd_X4_freestWithout : Yd := (RX4, yX4_freestWithout, cX4_freestWithout, 3, (some .int), 6, 160)
abbrev yd_X4_goOnFrom : Yd := (RX4, yX4_goOnFrom, cX4_goOnFrom, 6, none, 3, 66)
abbrev yd_X4_howManyWays : Yd := (RX4, yX4_howManyWays, cX4_howManyWays, 1, (some .int), 6, 160)
abbrev yd_X4_index : Yd := (RX4, yX4_index, cX4_index, 4, (some .int), 1, 21)
abbrev yd_X4_init : Yd := (RX4, yX4_init, cX4_init, 4, none, 1, 40)
abbrev yd_X4_join : Yd := (RX4, yX4_join, cX4_join, 3, (some .int), 1, 21)
abbrev yd_X4_learnWhere : Yd := (RX4, yX4_learnWhere, cX4_learnWhere, 6, none, 5, 135)
abbrev yd_X4_linksLeaving : Yd := (RX4, yX4_linksLeaving, cX4_linksLeaving, 4, (some .int), 1, 22)
abbrev yd_X4_listCells : Yd := (RX4, yX4_listCells, cX4_listCells, 4, none, 1, 23)
abbrev yd_X4_mostSlept : Yd := (RX4, yX4_mostSlept, cX4_mostSlept, 3, (some .int), 1, 21)
abbrev yd_X4_mustLearn : Yd := (RX4, yX4_mustLearn, cX4_mustLearn, 3, (some .boolean), 0, 0)
abbrev yd_X4_papersBetween : Yd := (RX4, yX4_papersBetween, cX4_papersBetween, 5, (some .int), 0, 0)
abbrev yd_X4_papersMissed : Yd := (RX4, yX4_papersMissed, cX4_papersMissed, 5, (some .int), 0, 0)
abbrev yd_X4_prepare : Yd := (RX4, yX4_prepare, cX4_prepare, 4, none, 2, 46)
abbrev yd_X4_reach : Yd := (RX4, yX4_reach, cX4_reach, 3, (some .boolean), 2, 44)
abbrev yd_X4_seenAt : Yd := (RX4, yX4_seenAt, cX4_seenAt, 6, (some .int), 0, 0)
abbrev yd_X4_sleptAfter : Yd := (RX4, yX4_sleptAfter, cX4_sleptAfter, 8, (some .int), 0, 0)
abbrev yd_X4_stampsOf : Yd := (RX4, yX4_stampsOf, cX4_stampsOf, 1, (some .int), 0, 0)
abbrev yd_X4_startCell : Yd := (RX4, yX4_startCell, cX4_startCell, 1, (some .int), 1, 25)
abbrev yd_X4_taleAt : Yd := (RX4, yX4_taleAt, cX4_taleAt, 2, (some .int), 5, 135)
abbrev yd_X4_townOf : Yd := (RX4, yX4_townOf, cX4_townOf, 1, (some .int), 0, 0)
abbrev yd_X4_valueAtEnd : Yd := (RX4, yX4_valueAtEnd, cX4_valueAtEnd, 4, (some .int), 2, 42)
abbrev yd_X4_valueAtStart : Yd := (RX4, yX4_valueAtStart, cX4_valueAtStart, 1, (some .int), 2, 45)
abbrev yd_X4_valueByLink : Yd := (RX4, yX4_valueByLink, cX4_valueByLink, 10, (some .int), 2, 55)
abbrev yd_X4_valueByStay : Yd := (RX4, yX4_valueByStay, cX4_valueByStay, 4, (some .int), 2, 49)
abbrev yd_X4_valueOf : Yd := (RX4, yX4_valueOf, cX4_valueOf, 6, (some .int), 3, 84)
abbrev yd_X4_weightOf : Yd := (RX4, yX4_weightOf, cX4_weightOf, 2, (some .int), 0, 0)
abbrev yd_X4_whereAt : Yd := (RX4, yX4_whereAt, cX4_whereAt, 2, (some .int), 6, 160)
abbrev yd_X5_add : Yd := (RX5, yX5_add, cX5_add, 3, (some .int), 0, 0)
abbrev yd_X5_barOf : Yd := (RX5, yX5_barOf, cX5_barOf, 3, (some .int), 4, 92)
abbrev yd_X5_init : Yd := (RX5, yX5_init, cX5_init, 2, none, 1, 40)
abbrev yd_X5_isSeen : Yd := (RX5, yX5_isSeen, cX5_isSeen, 5, (some .boolean), 1, 21)
abbrev yd_X5_missedLook : Yd := (RX5, yX5_missedLook, cX5_missedLook, 3, (some .int), 2, 45)
abbrev yd_X5_missedPaper : Yd := (RX5, yX5_missedPaper, cX5_missedPaper, 3, (some .int), 2, 43)
abbrev yd_X5_sleeplessDay : Yd := (RX5, yX5_sleeplessDay, cX5_sleeplessDay, 5, (some .int), 0, 0)
abbrev yd_X5_stampBehind : Yd := (RX5, yX5_stampBehind, cX5_stampBehind, 3, (some .int), 2, 43)
abbrev yd_X5_stay : Yd := (RX5, yX5_stay, cX5_stay, 5, none, 0, 0)
abbrev yd_X5_wrongLeg : Yd := (RX5, yX5_wrongLeg, cX5_wrongLeg, 9, (some .int), 1, 24)
abbrev yd_X5_wrongStamp : Yd := (RX5, yX5_wrongStamp, cX5_wrongStamp, 8, (some .int), 3, 65)
abbrev yd_X6_append : Yd := (RX6, yX6_append, cX6_append, 3, none, 0, 0)
abbrev yd_X6_away : Yd := (RX6, yX6_away, cX6_away, 2, (some .int), 7, 182)
abbrev yd_X6_barred : Yd := (RX6, yX6_barred, cX6_barred, 2, (some .int), 5, 114)
abbrev yd_X6_count : Yd := (RX6, yX6_count, cX6_count, 2, (some .int), 0, 0)
abbrev yd_X6_doubt : Yd := (RX6, yX6_doubt, cX6_doubt, 4, (some .boolean), 2, 43)
abbrev yd_X6_end : Yd := (RX6, yX6_end, cX6_end, 2, (some .boolean), 0, 0)
abbrev yd_X6_extreme : Yd := (RX6, yX6_extreme, cX6_extreme, 3, (some .int), 6, 156)
abbrev yd_X6_fault : Yd := (RX6, yX6_fault, cX6_fault, 1, (some .int), 11, 235)
abbrev yd_X6_feed : Yd := (RX6, yX6_feed, cX6_feed, 6, (some .int), 1, 22)
abbrev yd_X6_forget : Yd := (RX6, yX6_forget, cX6_forget, 2, (some .int), 0, 0)
abbrev yd_X6_init : Yd := (RX6, yX6_init, cX6_init, 2, none, 1, 40)
abbrev yd_X6_isHour : Yd := (RX6, yX6_isHour, cX6_isHour, 1, (some .boolean), 0, 0)
abbrev yd_X6_isMan : Yd := (RX6, yX6_isMan, cX6_isMan, 2, (some .boolean), 0, 0)
abbrev yd_X6_isOneTown : Yd := (RX6, yX6_isOneTown, cX6_isOneTown, 1, (some .boolean), 1, 20)
abbrev yd_X6_isTimeOf : Yd := (RX6, yX6_isTimeOf, cX6_isTimeOf, 3, (some .boolean), 1, 21)
abbrev yd_X6_leg : Yd := (RX6, yX6_leg, cX6_leg, 3, (some .int), 1, 22)
abbrev yd_X6_link : Yd := (RX6, yX6_link, cX6_link, 3, (some .int), 1, 21)
abbrev yd_X6_look : Yd := (RX6, yX6_look, cX6_look, 5, (some .int), 2, 47)
abbrev yd_X6_man : Yd := (RX6, yX6_man, cX6_man, 5, (some .boolean), 1, 23)
abbrev yd_X6_map : Yd := (RX6, yX6_map, cX6_map, 1, (some .int), 11, 235)
abbrev yd_X6_may : Yd := (RX6, yX6_may, cX6_may, 3, (some .int), 7, 181)
abbrev yd_X6_met : Yd := (RX6, yX6_met, cX6_met, 5, (some .int), 7, 181)
abbrev yd_X6_paper : Yd := (RX6, yX6_paper, cX6_paper, 4, (some .int), 2, 47)
abbrev yd_X6_searchOf : Yd := (RX6, yX6_searchOf, cX6_searchOf, 2, (some (.object "StampTales$Search")), 0, 0)
abbrev yd_X6_stamp : Yd := (RX6, yX6_stamp, cX6_stamp, 8, (some .int), 2, 47)
abbrev yd_X6_surely : Yd := (RX6, yX6_surely, cX6_surely, 4, (some .int), 7, 181)
abbrev yd_X6_tale : Yd := (RX6, yX6_tale, cX6_tale, 3, (some .int), 6, 156)
abbrev yd_X6_toDoubt : Yd := (RX6, yX6_toDoubt, cX6_toDoubt, 2, (some .int), 6, 156)
abbrev yd_X6_town : Yd := (RX6, yX6_town, cX6_town, 3, (some .int), 1, 21)
abbrev yd_X6_trace : Yd := (RX6, yX6_trace, cX6_trace, 5, (some .int), 1, 21)
abbrev yd_X6_undo : Yd := (RX6, yX6_undo, cX6_undo, 2, (some .int), 1, 21)
abbrev yd_X6_ways : Yd := (RX6, yX6_ways, cX6_ways, 2, (some .int), 7, 180)
abbrev yd_X7_away : Yd := (RX7, yX7_away, cX7_away, 6, (some .int), 5, 131)
abbrev yd_X7_barred : Yd := (RX7, yX7_barred, cX7_barred, 8, (some .int), 3, 75)
abbrev yd_X7_closes : Yd := (RX7, yX7_closes, cX7_closes, 1, (some .boolean), 2, 41)
abbrev yd_X7_comesTo : Yd := (RX7, yX7_comesTo, cX7_comesTo, 8, (some .int), 1, 23)
abbrev yd_X7_count : Yd := (RX7, yX7_count, cX7_count, 2, (some .int), 0, 0)
abbrev yd_X7_counts : Yd := (RX7, yX7_counts, cX7_counts, 7, (some .int), 4, 105)
abbrev yd_X7_doubt : Yd := (RX7, yX7_doubt, cX7_doubt, 4, (some .boolean), 3, 65)
abbrev yd_X7_end : Yd := (RX7, yX7_end, cX7_end, 2, (some .boolean), 1, 22)
abbrev yd_X7_ends : Yd := (RX7, yX7_ends, cX7_ends, 2, (some .boolean), 0, 0)
abbrev yd_X7_extreme : Yd := (RX7, yX7_extreme, cX7_extreme, 3, (some .int), 5, 131)
abbrev yd_X7_fault : Yd := (RX7, yX7_fault, cX7_fault, 1, (some .int), 12, 254)
abbrev yd_X7_feed : Yd := (RX7, yX7_feed, cX7_feed, 8, (some .int), 0, 0)
abbrev yd_X7_finds : Yd := (RX7, yX7_finds, cX7_finds, 6, (some .boolean), 3, 80)
abbrev yd_X7_follows : Yd := (RX7, yX7_follows, cX7_follows, 7, (some .int), 1, 22)
abbrev yd_X7_forget : Yd := (RX7, yX7_forget, cX7_forget, 2, (some .int), 0, 0)
abbrev yd_X7_goes : Yd := (RX7, yX7_goes, cX7_goes, 11, (some .int), 2, 50)
abbrev yd_X7_in : Yd := (RX7, yX7_in, cX7_in, 3, (some .boolean), 0, 0)
abbrev yd_X7_init : Yd := (RX7, yX7_init, cX7_init, 1, none, 1, 40)
abbrev yd_X7_isDigit : Yd := (RX7, yX7_isDigit, cX7_isDigit, 1, (some .boolean), 0, 0)
abbrev yd_X7_isLetter : Yd := (RX7, yX7_isLetter, cX7_isLetter, 1, (some .boolean), 0, 0)
abbrev yd_X7_isLink : Yd := (RX7, yX7_isLink, cX7_isLink, 2, (some .boolean), 1, 22)
abbrev yd_X7_isMan : Yd := (RX7, yX7_isMan, cX7_isMan, 2, (some .boolean), 1, 22)
abbrev yd_X7_isName : Yd := (RX7, yX7_isName, cX7_isName, 1, (some .boolean), 7, 150)
abbrev yd_X7_isNew : Yd := (RX7, yX7_isNew, cX7_isNew, 1, (some .boolean), 9, 191)
abbrev yd_X7_isTown : Yd := (RX7, yX7_isTown, cX7_isTown, 2, (some .boolean), 1, 22)
abbrev yd_X7_isTrace : Yd := (RX7, yX7_isTrace, cX7_isTrace, 3, (some .boolean), 2, 43)
abbrev yd_X7_isWord : Yd := (RX7, yX7_isWord, cX7_isWord, 2, (some .boolean), 6, 129)
abbrev yd_X7_landHere : Yd := (RX7, yX7_landHere, cX7_landHere, 2, (some .int), 8, 170)
abbrev yd_X7_landLine : Yd := (RX7, yX7_landLine, cX7_landLine, 2, (some .boolean), 10, 211)
abbrev yd_X7_leasts : Yd := (RX7, yX7_leasts, cX7_leasts, 9, (some .int), 3, 80)
abbrev yd_X7_left : Yd := (RX7, yX7_left, cX7_left, 8, (some .int), 0, 0)
abbrev yd_X7_leg : Yd := (RX7, yX7_leg, cX7_leg, 3, (some .int), 2, 43)
abbrev yd_X7_line : Yd := (RX7, yX7_line, cX7_line, 1, (some .boolean), 11, 234)
abbrev yd_X7_link : Yd := (RX7, yX7_link, cX7_link, 3, (some .int), 2, 43)
abbrev yd_X7_linkLine : Yd := (RX7, yX7_linkLine, cX7_linkLine, 3, (some .boolean), 9, 191)
abbrev yd_X7_look : Yd := (RX7, yX7_look, cX7_look, 5, (some .int), 2, 43)
abbrev yd_X7_man : Yd := (RX7, yX7_man, cX7_man, 5, (some .boolean), 2, 43)
abbrev yd_X7_many : Yd := (RX7, yX7_many, cX7_many, 5, (some .int), 0, 0)
abbrev yd_X7_map : Yd := (RX7, yX7_map, cX7_map, 2, (some .int), 13, 274)
abbrev yd_X7_may : Yd := (RX7, yX7_may, cX7_may, 3, (some .int), 6, 158)
abbrev yd_X7_mayBits : Yd := (RX7, yX7_mayBits, cX7_mayBits, 8, (some .int), 5, 131)
abbrev yd_X7_met : Yd := (RX7, yX7_met, cX7_met, 4, (some .int), 7, 182)
abbrev yd_X7_next : Yd := (RX7, yX7_next, cX7_next, 2, none, 1, 20)
abbrev yd_X7_number : Yd := (RX7, yX7_number, cX7_number, 3, (some .boolean), 2, 41)
abbrev yd_X7_ofLink : Yd := (RX7, yX7_ofLink, cX7_ofLink, 3, (some .int), 0, 0)
abbrev yd_X7_ones : Yd := (RX7, yX7_ones, cX7_ones, 3, (some .int), 0, 0)
abbrev yd_X7_packed : Yd := (RX7, yX7_packed, cX7_packed, 4, (some .long), 5, 106)
abbrev yd_X7_paper : Yd := (RX7, yX7_paper, cX7_paper, 4, (some .int), 2, 43)
abbrev yd_X7_price : Yd := (RX7, yX7_price, cX7_price, 3, (some .int), 1, 22)
abbrev yd_X7_sets : Yd := (RX7, yX7_sets, cX7_sets, 5, none, 0, 0)
abbrev yd_X7_sleepless : Yd := (RX7, yX7_sleepless, cX7_sleepless, 4, (some .int), 0, 0)
abbrev yd_X7_stamp : Yd := (RX7, yX7_stamp, cX7_stamp, 6, (some .int), 2, 43)
abbrev yd_X7_stamped : Yd := (RX7, yX7_stamped, cX7_stamped, 8, (some .int), 1, 22)
abbrev yd_X7_start : Yd := (RX7, yX7_start, cX7_start, 1, (some .int), 2, 50)
abbrev yd_X7_stateOf : Yd := (RX7, yX7_stateOf, cX7_stateOf, 4, (some .int), 0, 0)
abbrev yd_X7_surely : Yd := (RX7, yX7_surely, cX7_surely, 5, (some .int), 6, 158)
abbrev yd_X7_tale : Yd := (RX7, yX7_tale, cX7_tale, 8, (some .int), 5, 131)
abbrev yd_X7_toDoubt : Yd := (RX7, yX7_toDoubt, cX7_toDoubt, 5, (some .int), 4, 105)
abbrev yd_X7_town : Yd := (RX7, yX7_town, cX7_town, 3, (some .int), 2, 43)
abbrev yd_X7_townHere : Yd := (RX7, yX7_townHere, cX7_townHere, 2, (some .int), 8, 170)
abbrev yd_X7_townLine : Yd := (RX7, yX7_townLine, cX7_townLine, 4, (some .boolean), 10, 211)
abbrev yd_X7_trace : Yd := (RX7, yX7_trace, cX7_trace, 5, (some .int), 3, 65)
abbrev yd_X7_undo : Yd := (RX7, yX7_undo, cX7_undo, 2, (some .int), 2, 43)
abbrev yd_X7_ways : Yd := (RX7, yX7_ways, cX7_ways, 2, (some .int), 5, 131)
abbrev yd_X7_word : Yd := (RX7, yX7_word, cX7_word, 2, (some .boolean), 7, 150)
abbrev yd_X7_wrongStamp : Yd := (RX7, yX7_wrongStamp, cX7_wrongStamp, 7, (some .int), 2, 49)
abbrev yd_L_law : Yd := (RL, yL_law, cL_law, 4, (some .boolean), 14, 295)
