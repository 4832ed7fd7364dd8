theorem Met.ofWF {l : Launch} {y : MethodName} {ws ws' : List Cond} {rm : Room} {Pc : Array Value → State → Prop} {Qc : Array Value → State → Outcome → State → Prop} {mc ms : Nat} {free : Addr → Prop} {cc : ByteArray} {maxL : Nat} {ret : Option FieldType}
    (hy : plainFor y = true) (hw : ws = Cond.code y cc maxL ret :: ws')
    (body : ∀ p e s m args below meth c s₁, BodyLoose p l y (headSpec ws rm) cc maxL ret e s m args below meth c s₁ → c.maxLocals = maxL → Pc args s →
      W p l e (headSpec ws rm).room s m args below meth c s.heap [] 0 0 (MQ below Qc args s mc ms free) (entryFrame m args maxL)) : Met l y ws rm Pc Qc mc ms free := by
  refine MetFree.of_bodySF (code := cc) (maxLocals := maxL) (ret := ret) hy ?_ ?_
  · intro args s m h hn
    obtain ⟨meth, c, h1, h2, h3, h4, h5, h6, -, -⟩ := Cond.code_spec hn (atoms_spec (ws := ws) h _ (by rw [hw]; exact List.mem_cons_self))
    exact ⟨meth, c, h1, h2, h3, h4, h5, h6⟩
  · intro p e s m args below meth c s₁ B hml hP _
    have hh0 : s₁.heap = s.heap := by rw [B.state]; rfl
    obtain ⟨t, a1, o, b1, b2, b3⟩ := body p e s m args below meth c s₁ B hml hP s₁ hh0 (Stand.of_body B)
    exact ⟨t, o, a1, b1, b2, ⟨b3.1, b3.2⟩⟩
theorem Spec.ofF {y : Yd} {G : Cx} {r : Option Value} {σ τ : Mm} {av : List Value} {ls0 : List (Option Value)} (hpl : plainFor (yN y) = true) (hown : yO y = (yN y).cls) (hc : ∀ v ∈ av, v.category = 1) (hn : av.length ≤ yL y) (hls : av.map some ++ List.replicate (yL y - av.length) none = ls0) (h : ∀ b : Ab, Fi y G b r τ → At y G b 0 ls0 [] σ) : Spec y G av σ r τ := by
  intro l
  refine Met.ofWF (cc := yC y) (maxL := yL y) (ret := yT y) hpl rfl ?_
  intro p e s m args below meth c s₁ B hml hv
  obtain ⟨rfl, hP, hK, hJ, hSg⟩ := hv
  have hts := atoms_spec (ws := yWs y) B.pre
  have ho : s.vm.findClass (yO y) = some m.cls := by rw [hown]; exact findClass_of_methodNamed B.named
  rw [lg_entry_eq]
  exact h (p, l, e, yR y, s, m, av.toArray, below, meth, c, (0, 0), MQ below (Qc G r τ) av.toArray s 0 0 (wA G), wA G) ⟨rfl, rfl, rfl, B.returns⟩ ⟨B.exec, B.bytes, hml, ho, fun w hw => hts w (List.mem_cons_of_mem _ hw), hK, hJ, fun _ q => q, hSg, B.notSynchronized, Nat.le_refl _, Nat.le_refl _, Nat.le_refl _, Nat.le_refl _⟩ s.heap [] _ hP va_S.rf (Lc_entry hc hn hls)
theorem pl_floorDiv : plainFor yJ9_floorDiv_7cf53 = true := by decide +kernel
theorem S_J9_fdiv {G : Cx} {μ : Mi} {x0 x1 r : Int} (h : D_J9_floorDiv_7cf53 x0 x1 = some r) : Spec yd_J9_floorDiv_7cf53 G [iv x0, iv x1] (Em μ) (some (iv r)) (Em μ) := by
  refine Spec.ofF pl_floorDiv rfl (catL_ok rfl) (Nat.le_of_ble_eq_true rfl) rfl (fun b hF => ?_)
  unfold D_J9_floorDiv_7cf53 at h
  by_cases h0 : w32 x1 = 0
  · rw [if_pos h0] at h; cases h
  rw [if_neg h0] at h
  refine dild_3_0 1 dJ9_floorDiv_7cf53_0 rfl ?_
  refine dild_3_1 2 dJ9_floorDiv_7cf53_1 rfl ?_
  refine dt_idiv 3 dJ9_floorDiv_7cf53_2 h0 rfl ?_
  refine dist_3_2 4 dJ9_floorDiv_7cf53_3 rfl rfl rfl ?_
  refine dild_3_0 5 dJ9_floorDiv_7cf53_4 rfl ?_
  refine dild_3_1 6 dJ9_floorDiv_7cf53_5 rfl ?_
  refine dt_ixor 7 dJ9_floorDiv_7cf53_6 rfl ?_
  refine dt_if_ge 10 21 dJ9_floorDiv_7cf53_7 rfl (by decide) rfl (fun c => ?_) (fun c => ?_)
  · rw [if_pos c] at h
    refine dild_3_2 22 dJ9_floorDiv_7cf53_21 rfl ?_
    exact dr_ip hF rfl dJ9_floorDiv_7cf53_22 h
  · rw [if_neg c] at h
    refine dild_3_2 11 dJ9_floorDiv_7cf53_10 rfl ?_
    refine dild_3_1 12 dJ9_floorDiv_7cf53_11 rfl ?_
    refine dt_imul 13 dJ9_floorDiv_7cf53_12 rfl ?_
    refine dild_3_0 14 dJ9_floorDiv_7cf53_13 rfl ?_
    refine dt_icmp_eq 17 21 dJ9_floorDiv_7cf53_14 rfl (by decide) rfl rfl (fun c2 => ?_) (fun c2 => ?_)
    · rw [if_pos c2] at h
      refine dild_3_2 22 dJ9_floorDiv_7cf53_21 rfl ?_
      exact dr_ip hF rfl dJ9_floorDiv_7cf53_22 h
    · rw [if_neg c2] at h
      refine dild_3_2 18 dJ9_floorDiv_7cf53_17 rfl ?_
      refine dt_iconst 19 dJ9_floorDiv_7cf53_18 rfl ?_
      refine dt_isub 20 dJ9_floorDiv_7cf53_19 rfl ?_
      exact dr_ip hF rfl dJ9_floorDiv_7cf53_20 h
