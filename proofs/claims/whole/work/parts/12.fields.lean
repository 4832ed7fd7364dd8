theorem wt_ps (ws : List Cond) (ps : List Nat) (hp : ws = ps.filterMap (fun i => tables_1[i]?)) (h : ws.all goodWord = true) : ∀ w ∈ ws, w ∈ WT := by
  intro w hw
  have h1 := List.all_eq_true.mp h w hw
  rw [hp] at hw
  obtain ⟨i, -, hi⟩ := List.mem_filterMap.mp hw
  exact wt_at i hi h1
set_option maxRecDepth 100000 in
theorem inW0 : ∀ w ∈ u_ws RX0 TX0 14, w ∈ WT := wt_ps _ [71, 73, 75, 77, 79, 81, 83, 85, 87, 89, 91, 93, 95, 97] (by decide +kernel) (by decide +kernel)
set_option maxRecDepth 100000 in
theorem inW1 : ∀ w ∈ u_ws RX1 TX1 8, w ∈ WT := wt_ps _ [229, 231, 233, 235, 237, 239, 241, 243] (by decide +kernel) (by decide +kernel)
set_option maxRecDepth 100000 in
theorem inW2 : ∀ w ∈ u_ws RX2 TX2 11, w ∈ WT := wt_ps _ [185, 187, 189, 191, 193, 195, 197, 199, 201, 203, 205] (by decide +kernel) (by decide +kernel)
set_option maxRecDepth 100000 in
theorem inW3 : ∀ w ∈ u_ws RX3 TX3 10, w ∈ WT := wt_ps _ [119, 121, 123, 125, 127, 129, 131, 133, 135, 137] (by decide +kernel) (by decide +kernel)
set_option maxRecDepth 100000 in
theorem inW4 : ∀ w ∈ u_ws RX4 TX4 13, w ∈ WT := wt_ps _ [260, 262, 264, 266, 268, 270, 272, 274, 276, 278, 280, 282, 284] (by decide +kernel) (by decide +kernel)
set_option maxRecDepth 100000 in
theorem inW5 : ∀ w ∈ u_ws RX5 TX5 6, w ∈ WT := wt_ps _ [300, 302, 304, 306, 308, 310] (by decide +kernel) (by decide +kernel)
set_option maxRecDepth 100000 in
theorem inW6 : ∀ w ∈ u_ws RX6 TX6 8, w ∈ WT := wt_ps _ [321, 323, 325, 327, 329, 331, 333, 335] (by decide +kernel) (by decide +kernel)
set_option maxRecDepth 100000 in
theorem inW7 : ∀ w ∈ u_ws RX7 TX7 50, w ∈ WT := wt_ps _ [952, 954, 956, 958, 960, 962, 964, 966, 968, 970, 972, 974, 976, 978, 980, 982, 984, 986, 988, 990, 992, 994, 996, 998, 1000, 1002, 1004, 1006, 1008, 1010, 1012, 1014, 1016, 1018, 1020, 1022, 1024, 1026, 1028, 1030, 1032, 1034, 1036, 1038, 1040, 1042, 1044, 1046, 1048, 1050] (by decide +kernel) (by decide +kernel)
section Cells
variable {y : Yd} {G : Cx} {b : Ab} {pc : Nat} {ls : List (Option Value)} {st : List Value} {σ : Mm}
theorem at_get {own C : String} {T : u_T} {N ix ci r k : Nat} {i : Bool} {v : Value} {fs : List Value} (n : Nat) (ho : yO y = own) (hok : okC r i = true) (hk0 : arK r = 0) (hfs : enO G (gI σ r i) (gL σ r i) r i = (ci, fs)) (hc : vwCl[ci]? = some (C, T, N)) (hin : ∀ w ∈ u_ws C T N, w ∈ WT) (hk : k < N) (hl : Cond.fieldLink own ix (T k).1 (T k).2.1 (T k).2.2.1 ∈ WT) (hv : fs[k]? = some v) (hd : decode (yC y) pc = .ok (.getfield ix, 3)) (hp : pc + 3 = n) (kk : At y G b n ls (v :: st) σ) : At y G b pc ls (rf G r i :: st) σ := by
  subst hp; subst ho
  intro g H locs la hP hS hL
  obtain ⟨q0, hq⟩ := okC_at hok
  have he : (wW G σ)[q0]? = some (G.1 r i, .inr (ci, fs)) := by
    rw [wW_at hq, en, if_pos hk0, hfs]
  exact va_get g.1 g.2.1 g.2.2.2.2.1 hin g.2.2.2.1 g.2.2.2.2.2.1 hP q0 he hc k hk (g.2.2.2.2.1 _ hl) (fun _ h9 => h9) hv hd (kk g H locs la hP hS hL)
theorem at_put {own C : String} {T : u_T} {N ix ci r k : Nat} {i : Bool} {v : Value} {fs : List Value} {τ : Mm} (n : Nat) (ho : yO y = own) (hok : okC r i = true) (hk0 : arK r = 0) (hfs : enO G (gI σ r i) (gL σ r i) r i = (ci, fs)) (hτ : enO G (gI τ r i) (gL τ r i) r i = (ci, fs.set k v)) (hI : ∀ r' i', ¬ (r' = r ∧ i' = i) → gI τ r' i' = gI σ r' i') (hJ : ∀ r' i', ¬ (r' = r ∧ i' = i) → gL τ r' i' = gL σ r' i') (hc : vwCl[ci]? = some (C, T, N)) (hin : ∀ w ∈ u_ws C T N, w ∈ WT) (ty0 : Nat → FieldType) (hty : ∀ k, k < N → parseFieldDescriptor (T k).2.2.1 = some (ty0 k)) (hnm : ∀ a, a < N → ∀ b, b < N → a ≠ b → (T a).2.1 ≠ (T b).2.1) (hk : k < N) (hl : Cond.fieldLink own ix (T k).1 (T k).2.1 (T k).2.2.1 ∈ WT) (hfin : (T k).2.2.2 = false) {ty : FieldType} (hpd : parseFieldDescriptor (T k).2.2.1 = some ty) (hn : narrow ty v = v) (hfit : fits ty v = true) (hlen : k < fs.length) (hd : decode (yC y) pc = .ok (.putfield ix, 3)) (hp : pc + 3 = n) (kk : At y G b n ls st τ) : At y G b pc ls (v :: rf G r i :: st) σ := by
  subst hp; subst ho
  intro g H locs la hP hS hL
  obtain ⟨q0, hq⟩ := okC_at hok
  have he : (wW G σ)[q0]? = some (G.1 r i, .inr (ci, fs)) := by
    rw [wW_at hq, en, if_pos hk0, hfs]
  have hs : (wW G σ).set q0 (G.1 r i, .inr (ci, fs.set k v)) = wW G τ := by
    rw [← wW_set hq hI hJ, en, if_pos hk0, hτ]
  exact va_put g.1 g.2.1 g.2.2.2.2.1 hin ty0 hty hnm g.2.2.2.1 g.2.2.2.2.2.1 hP (wW_D (σ := σ) g.2.2.2.2.2.2.1 g.2.2.2.2.2.2.2.1) hS q0 he hc k hk (g.2.2.2.2.1 _ hl) (fun _ h9 => h9) hfin hpd hn hfit hlen hd (fun H1 locs1 hP1 hD1 hS1 => kk g H1 locs1 la (by rw [hs] at hP1; exact hP1) hS1 hL)
theorem sI_off (σ : Mm) (r : Nat) (i : Bool) (j : Nat) (v : Int32) : ∀ r' i', ¬ (r' = r ∧ i' = i) → gI (sI σ r i j v) r' i' = gI σ r' i' := fun r' i' h => funext fun q => by
  rw [gI_sI, if_neg (fun z => h ⟨z.1, z.2.1⟩)]
theorem sL_off (σ : Mm) (r : Nat) (i : Bool) (j : Nat) (v : Int64) : ∀ r' i', ¬ (r' = r ∧ i' = i) → gL (sL σ r i j v) r' i' = gL σ r' i' := fun r' i' h => funext fun q => by
  rw [gL_sL, if_neg (fun z => h ⟨z.1, z.2.1⟩)]
theorem sI_self (σ : Mm) (r : Nat) (i : Bool) (j : Nat) (v : Int32) : gI (sI σ r i j v) r i = upd (gI σ r i) j v := funext fun q => by
  rw [gI_sI, upd]
  by_cases h : q = j <;> simp [h]
theorem sL_self (σ : Mm) (r : Nat) (i : Bool) (j : Nat) (v : Int64) : gL (sL σ r i j v) r i = vp_updL (gL σ r i) j v := funext fun q => by
  rw [gL_sL, vp_updL]
  by_cases h : q = j <;> simp [h]
theorem en_arr {f : Nat → Int32} {g : Nat → Int64} {r : Nat} {i : Bool} (h0 : ¬ arK r = 0) (h4 : ¬ arK r = 4) : en G f g r i = .inl (G.2.2.1 (arK r), (arN r, .inl f)) := by rw [en, if_neg h0, if_neg h4]
theorem en_lng {f : Nat → Int32} {g : Nat → Int64} {r : Nat} {i : Bool} (h4 : arK r = 4) : en G f g r i = .inl (G.2.2.1 4, (arN r, .inr (.inl g))) := by rw [en, if_neg (by rw [h4]; decide), if_pos h4]
theorem arr_at {r : Nat} {i : Bool} (ho : okC r i = true) (h0 : ¬ arK r = 0) (h4 : ¬ arK r = 4) : ∃ q0 : Nat, cls0[q0]? = some (r, i) ∧ (wW G σ)[q0]? = some (G.1 r i, .inl (G.2.2.1 (arK r), (arN r, .inl (gI σ r i)))) := by
  obtain ⟨q0, hq⟩ := okC_at ho
  exact ⟨q0, hq, by rw [wW_at hq, en_arr h0 h4]⟩
theorem st_iald (n : Nat) {r N : Nat} {i : Bool} {x : Int32} (hK : arK r = 1) (hN : arN r = N) (ho : okC r i = true) (hin : vp_in x N) (hd : decode (yC y) pc = .ok (.iaload, 1)) (hp : pc + 1 = n) (k : At y G b n ls (.int (gI σ r i x.toNatClampNeg) :: st) σ) : At y G b pc ls (.int x :: rf G r i :: st) σ := by
  subst hp; subst hN
  intro g H locs la hP hS hL
  obtain ⟨q0, hq, he⟩ := arr_at (G := G) (σ := σ) ho (by rw [hK]; decide) (by rw [hK]; decide)
  rw [hK] at he
  exact va_iald g.1 g.2.1 g.2.2.2.2.2.1 hP q0 1 he rfl hin hd (k g H locs la hP hS hL)
theorem st_zald (n : Nat) {r N : Nat} {i : Bool} {x : Int32} (hK : arK r = 2) (hN : arN r = N) (ho : okC r i = true) (hin : vp_in x N) (hd : decode (yC y) pc = .ok (.baload, 1)) (hp : pc + 1 = n) (k : At y G b n ls (.int (gI σ r i x.toNatClampNeg) :: st) σ) : At y G b pc ls (.int x :: rf G r i :: st) σ := by
  subst hp; subst hN
  intro g H locs la hP hS hL
  obtain ⟨q0, hq, he⟩ := arr_at (G := G) (σ := σ) ho (by rw [hK]; decide) (by rw [hK]; decide)
  rw [hK] at he
  exact va_zald g.1 g.2.1 g.2.2.2.2.2.1 hP q0 2 he rfl hin hd (k g H locs la hP hS hL)
theorem st_bald (n : Nat) {r N : Nat} {i : Bool} {x : Int32} (hK : arK r = 3) (hN : arN r = N) (ho : okC r i = true) (hin : vp_in x N) (hd : decode (yC y) pc = .ok (.baload, 1)) (hp : pc + 1 = n) (k : At y G b n ls (.int (gI σ r i x.toNatClampNeg) :: st) σ) : At y G b pc ls (.int x :: rf G r i :: st) σ := by
  subst hp; subst hN
  intro g H locs la hP hS hL
  obtain ⟨q0, hq, he⟩ := arr_at (G := G) (σ := σ) ho (by rw [hK]; decide) (by rw [hK]; decide)
  rw [hK] at he
  exact va_bald g.1 g.2.1 g.2.2.2.2.2.1 hP q0 3 he rfl hin hd (k g H locs la hP hS hL)
theorem st_lald (n : Nat) {r N : Nat} {i : Bool} {x : Int32} (hK : arK r = 4) (hN : arN r = N) (ho : okC r i = true) (hin : vp_in x N) (hd : decode (yC y) pc = .ok (.laload, 1)) (hp : pc + 1 = n) (k : At y G b n ls (.long (gL σ r i x.toNatClampNeg) :: st) σ) : At y G b pc ls (.int x :: rf G r i :: st) σ := by
  subst hp; subst hN
  intro g H locs la hP hS hL
  obtain ⟨q0, hq⟩ := okC_at ho
  have he : (wW G σ)[q0]? = some (G.1 r i, .inl (G.2.2.1 4, (arN r, .inr (.inl (gL σ r i))))) := by rw [wW_at hq, en_lng hK]
  exact va_lald g.1 g.2.1 g.2.2.2.2.2.1 hP q0 4 he rfl hin hd (k g H locs la hP hS hL)
theorem st_iast (n : Nat) {r N : Nat} {i : Bool} {x v : Int32} (hK : arK r = 1) (hN : arN r = N) (ho : okC r i = true) (hin : vp_in x N) (hd : decode (yC y) pc = .ok (.iastore, 1)) (hp : pc + 1 = n) (k : At y G b n ls st (sI σ r i x.toNatClampNeg v)) : At y G b pc ls (.int v :: .int x :: rf G r i :: st) σ := by
  subst hp; subst hN
  intro g H locs la hP hS hL
  obtain ⟨q0, hq, he⟩ := arr_at (G := G) (σ := σ) ho (by rw [hK]; decide) (by rw [hK]; decide)
  have hs : (wW G σ).set q0 (G.1 r i, .inl (G.2.2.1 (arK r), (arN r, .inl (upd (gI σ r i) x.toNatClampNeg v)))) = wW G (sI σ r i x.toNatClampNeg v) := by
    rw [← wW_set hq (sI_off σ r i x.toNatClampNeg v) (fun _ _ _ => rfl), en_arr (by rw [hK]; decide) (by rw [hK]; decide), sI_self]
  rw [hK] at he hs
  exact va_iast g.1 g.2.1 g.2.2.2.2.2.1 hP (wW_D (σ := σ) g.2.2.2.2.2.2.1 g.2.2.2.2.2.2.2.1) hS q0 1 he rfl hin hd (fun H1 locs1 hP1 hD1 hS1 => k g H1 locs1 la (by rw [hs] at hP1; exact hP1) hS1 hL)
theorem st_zast (n : Nat) {r N : Nat} {i : Bool} {x v : Int32} (hK : arK r = 2) (hN : arN r = N) (ho : okC r i = true) (hin : vp_in x N) (hd : decode (yC y) pc = .ok (.bastore, 1)) (hp : pc + 1 = n) (k : At y G b n ls st (sI σ r i x.toNatClampNeg (vp_nar .boolean v))) : At y G b pc ls (.int v :: .int x :: rf G r i :: st) σ := by
  subst hp; subst hN
  intro g H locs la hP hS hL
  obtain ⟨q0, hq, he⟩ := arr_at (G := G) (σ := σ) ho (by rw [hK]; decide) (by rw [hK]; decide)
  have hs : (wW G σ).set q0 (G.1 r i, .inl (G.2.2.1 (arK r), (arN r, .inl (upd (gI σ r i) x.toNatClampNeg (vp_nar .boolean v))))) = wW G (sI σ r i x.toNatClampNeg (vp_nar .boolean v)) := by
    rw [← wW_set hq (sI_off σ r i x.toNatClampNeg (vp_nar .boolean v)) (fun _ _ _ => rfl), en_arr (by rw [hK]; decide) (by rw [hK]; decide), sI_self]
  rw [hK] at he hs
  exact va_zast g.1 g.2.1 g.2.2.2.2.2.1 hP (wW_D (σ := σ) g.2.2.2.2.2.2.1 g.2.2.2.2.2.2.2.1) hS q0 2 he rfl hin hd (fun H1 locs1 hP1 hD1 hS1 => k g H1 locs1 la (by rw [hs] at hP1; exact hP1) hS1 hL)
theorem st_bast (n : Nat) {r N : Nat} {i : Bool} {x v : Int32} (hK : arK r = 3) (hN : arN r = N) (ho : okC r i = true) (hin : vp_in x N) (hd : decode (yC y) pc = .ok (.bastore, 1)) (hp : pc + 1 = n) (k : At y G b n ls st (sI σ r i x.toNatClampNeg (vp_nar .byte v))) : At y G b pc ls (.int v :: .int x :: rf G r i :: st) σ := by
  subst hp; subst hN
  intro g H locs la hP hS hL
  obtain ⟨q0, hq, he⟩ := arr_at (G := G) (σ := σ) ho (by rw [hK]; decide) (by rw [hK]; decide)
  have hs : (wW G σ).set q0 (G.1 r i, .inl (G.2.2.1 (arK r), (arN r, .inl (upd (gI σ r i) x.toNatClampNeg (vp_nar .byte v))))) = wW G (sI σ r i x.toNatClampNeg (vp_nar .byte v)) := by
    rw [← wW_set hq (sI_off σ r i x.toNatClampNeg (vp_nar .byte v)) (fun _ _ _ => rfl), en_arr (by rw [hK]; decide) (by rw [hK]; decide), sI_self]
  rw [hK] at he hs
  exact va_bast g.1 g.2.1 g.2.2.2.2.2.1 hP (wW_D (σ := σ) g.2.2.2.2.2.2.1 g.2.2.2.2.2.2.2.1) hS q0 3 he rfl hin hd (fun H1 locs1 hP1 hD1 hS1 => k g H1 locs1 la (by rw [hs] at hP1; exact hP1) hS1 hL)
theorem st_last (n : Nat) {r N : Nat} {i : Bool} {x : Int32} {v : Int64} (hK : arK r = 4) (hN : arN r = N) (ho : okC r i = true) (hin : vp_in x N) (hd : decode (yC y) pc = .ok (.lastore, 1)) (hp : pc + 1 = n) (k : At y G b n ls st (sL σ r i x.toNatClampNeg v)) : At y G b pc ls (.long v :: .int x :: rf G r i :: st) σ := by
  subst hp; subst hN
  intro g H locs la hP hS hL
  obtain ⟨q0, hq⟩ := okC_at ho
  have he : (wW G σ)[q0]? = some (G.1 r i, .inl (G.2.2.1 4, (arN r, .inr (.inl (gL σ r i))))) := by rw [wW_at hq, en_lng hK]
  have hs : (wW G σ).set q0 (G.1 r i, .inl (G.2.2.1 4, (arN r, .inr (.inl (vp_updL (gL σ r i) x.toNatClampNeg v))))) = wW G (sL σ r i x.toNatClampNeg v) := by
    rw [← wW_set (σ := σ) (τ := sL σ r i x.toNatClampNeg v) hq (fun _ _ _ => rfl) (sL_off σ r i x.toNatClampNeg v), en_lng hK, sL_self]
  exact va_last g.1 g.2.1 g.2.2.2.2.2.1 hP (wW_D (σ := σ) g.2.2.2.2.2.2.1 g.2.2.2.2.2.2.2.1) hS q0 4 he rfl hin hd (fun H1 locs1 hP1 hD1 hS1 => k g H1 locs1 la (by rw [hs] at hP1; exact hP1) hS1 hL)
theorem st_alen (n : Nat) {r : Nat} {i : Bool} {v : Int32} (h0 : ¬ arK r = 0) (hq : arK r < 5) (ho : okC r i = true) (hv : Int32.ofNat (arN r) = v) (hd : decode (yC y) pc = .ok (.arraylength, 1)) (hp : pc + 1 = n) (k : At y G b n ls (.int v :: st) σ) : At y G b pc ls (rf G r i :: st) σ := by
  subst hp
  intro g H locs la hP hS hL
  by_cases h4 : arK r = 4
  · obtain ⟨q0, hq⟩ := okC_at ho
    have he : (wW G σ)[q0]? = some (G.1 r i, .inl (G.2.2.1 4, (arN r, .inr (.inl (gL σ r i))))) := by rw [wW_at hq, en_lng h4]
    exact va_alen g.1 g.2.1 g.2.2.2.2.2.1 hP q0 4 he (ty := .long) rfl hv hd (k g H locs la hP hS hL)
  · obtain ⟨q0, hq1, he⟩ := arr_at (G := G) (σ := σ) ho h0 h4
    rcases (show arK r = 1 ∨ arK r = 2 ∨ arK r = 3 by omega) with e | e | e <;> rw [e] at he
    · exact va_alen g.1 g.2.1 g.2.2.2.2.2.1 hP q0 1 he (ty := .int) rfl hv hd (k g H locs la hP hS hL)
    · exact va_alen g.1 g.2.1 g.2.2.2.2.2.1 hP q0 2 he (ty := .boolean) rfl hv hd (k g H locs la hP hS hL)
    · exact va_alen g.1 g.2.1 g.2.2.2.2.2.1 hP q0 3 he (ty := .byte) rfl hv hd (k g H locs la hP hS hL)
theorem fl_X0_11 : Cond.fieldLink RX0 11 (TX0 3).1 (TX0 3).2.1 (TX0 3).2.2.1 ∈ WT := wt_at 41 (by decide +kernel) (by decide +kernel)
theorem fl_X0_15 : Cond.fieldLink RX0 15 (TX0 4).1 (TX0 4).2.1 (TX0 4).2.2.1 ∈ WT := wt_at 42 (by decide +kernel) (by decide +kernel)
theorem fl_X0_18 : Cond.fieldLink RX0 18 (TX0 5).1 (TX0 5).2.1 (TX0 5).2.2.1 ∈ WT := wt_at 44 (by decide +kernel) (by decide +kernel)
theorem fl_X0_21 : Cond.fieldLink RX0 21 (TX0 6).1 (TX0 6).2.1 (TX0 6).2.2.1 ∈ WT := wt_at 46 (by decide +kernel) (by decide +kernel)
theorem fl_X0_24 : Cond.fieldLink RX0 24 (TX0 7).1 (TX0 7).2.1 (TX0 7).2.2.1 ∈ WT := wt_at 50 (by decide +kernel) (by decide +kernel)
theorem fl_X0_27 : Cond.fieldLink RX0 27 (TX0 8).1 (TX0 8).2.1 (TX0 8).2.2.1 ∈ WT := wt_at 54 (by decide +kernel) (by decide +kernel)
theorem fl_X0_30 : Cond.fieldLink RX0 30 (TX0 9).1 (TX0 9).2.1 (TX0 9).2.2.1 ∈ WT := wt_at 56 (by decide +kernel) (by decide +kernel)
theorem fl_X0_33 : Cond.fieldLink RX0 33 (TX0 10).1 (TX0 10).2.1 (TX0 10).2.2.1 ∈ WT := wt_at 60 (by decide +kernel) (by decide +kernel)
theorem fl_X0_36 : Cond.fieldLink RX0 36 (TX0 11).1 (TX0 11).2.1 (TX0 11).2.2.1 ∈ WT := wt_at 63 (by decide +kernel) (by decide +kernel)
theorem fl_X0_40 : Cond.fieldLink RX0 40 (TX0 12).1 (TX0 12).2.1 (TX0 12).2.2.1 ∈ WT := wt_at 65 (by decide +kernel) (by decide +kernel)
theorem fl_X0_43 : Cond.fieldLink RX0 43 (TX0 13).1 (TX0 13).2.1 (TX0 13).2.2.1 ∈ WT := wt_at 68 (by decide +kernel) (by decide +kernel)
theorem fl_X0_46 : Cond.fieldLink RX0 46 (TX0 0).1 (TX0 0).2.1 (TX0 0).2.2.1 ∈ WT := wt_at 30 (by decide +kernel) (by decide +kernel)
theorem fl_X0_50 : Cond.fieldLink RX0 50 (TX0 1).1 (TX0 1).2.1 (TX0 1).2.2.1 ∈ WT := wt_at 33 (by decide +kernel) (by decide +kernel)
theorem fl_X0_53 : Cond.fieldLink RX0 53 (TX0 2).1 (TX0 2).2.1 (TX0 2).2.2.1 ∈ WT := wt_at 37 (by decide +kernel) (by decide +kernel)
theorem fl_X2_9 : Cond.fieldLink RX2 9 (TX2 2).1 (TX2 2).2.1 (TX2 2).2.2.1 ∈ WT := wt_at 156 (by decide +kernel) (by decide +kernel)
theorem fl_X2_15 : Cond.fieldLink RX2 15 (TX2 4).1 (TX2 4).2.1 (TX2 4).2.2.1 ∈ WT := wt_at 164 (by decide +kernel) (by decide +kernel)
theorem fl_X2_19 : Cond.fieldLink RX2 19 (TX2 5).1 (TX2 5).2.1 (TX2 5).2.2.1 ∈ WT := wt_at 166 (by decide +kernel) (by decide +kernel)
theorem fl_X2_23 : Cond.fieldLink RX2 23 (TX2 6).1 (TX2 6).2.1 (TX2 6).2.2.1 ∈ WT := wt_at 168 (by decide +kernel) (by decide +kernel)
theorem fl_X2_26 : Cond.fieldLink RX2 26 (TX2 7).1 (TX2 7).2.1 (TX2 7).2.2.1 ∈ WT := wt_at 172 (by decide +kernel) (by decide +kernel)
theorem fl_X2_29 : Cond.fieldLink RX2 29 (TX2 8).1 (TX2 8).2.1 (TX2 8).2.2.1 ∈ WT := wt_at 176 (by decide +kernel) (by decide +kernel)
theorem fl_X2_32 : Cond.fieldLink RX2 32 (TX2 9).1 (TX2 9).2.1 (TX2 9).2.2.1 ∈ WT := wt_at 180 (by decide +kernel) (by decide +kernel)
theorem fl_X2_36 : Cond.fieldLink RX2 36 (TX2 10).1 (TX2 10).2.1 (TX2 10).2.2.1 ∈ WT := wt_at 182 (by decide +kernel) (by decide +kernel)
theorem fl_X2_39 : Cond.fieldLink RX2 39 (TX2 3).1 (TX2 3).2.1 (TX2 3).2.2.1 ∈ WT := wt_at 160 (by decide +kernel) (by decide +kernel)
theorem fl_X2_46 : Cond.fieldLink RX2 46 (TX2 0).1 (TX2 0).2.1 (TX2 0).2.2.1 ∈ WT := wt_at 150 (by decide +kernel) (by decide +kernel)
theorem fl_X2_49 : Cond.fieldLink RX2 49 (TX2 1).1 (TX2 1).2.1 (TX2 1).2.2.1 ∈ WT := wt_at 153 (by decide +kernel) (by decide +kernel)
theorem fl_X3_11 : Cond.fieldLink RX3 11 (TX3 2).1 (TX3 2).2.1 (TX3 2).2.2.1 ∈ WT := wt_at 111 (by decide +kernel) (by decide +kernel)
theorem fl_X3_17 : Cond.fieldLink RX3 17 (TX3 3).1 (TX3 3).2.1 (TX3 3).2.2.1 ∈ WT := wt_at 112 (by decide +kernel) (by decide +kernel)
theorem fl_X3_20 : Cond.fieldLink RX3 20 (TX3 0).1 (TX3 0).2.1 (TX3 0).2.2.1 ∈ WT := wt_at 109 (by decide +kernel) (by decide +kernel)
theorem fl_X3_24 : Cond.fieldLink RX3 24 (TX3 1).1 (TX3 1).2.1 (TX3 1).2.2.1 ∈ WT := wt_at 110 (by decide +kernel) (by decide +kernel)
theorem fl_X3_34 : Cond.fieldLink RX3 34 (TX3 4).1 (TX3 4).2.1 (TX3 4).2.2.1 ∈ WT := wt_at 113 (by decide +kernel) (by decide +kernel)
theorem fl_X3_38 : Cond.fieldLink RX3 38 (TX3 6).1 (TX3 6).2.1 (TX3 6).2.2.1 ∈ WT := wt_at 115 (by decide +kernel) (by decide +kernel)
theorem fl_X3_47 : Cond.fieldLink RX3 47 (TX3 7).1 (TX3 7).2.1 (TX3 7).2.2.1 ∈ WT := wt_at 116 (by decide +kernel) (by decide +kernel)
theorem fl_X3_54 : Cond.fieldLink RX3 54 (TX3 5).1 (TX3 5).2.1 (TX3 5).2.2.1 ∈ WT := wt_at 114 (by decide +kernel) (by decide +kernel)
theorem fl_X3_57 : Cond.fieldLink RX3 57 (TX0 1).1 (TX0 1).2.1 (TX0 1).2.2.1 ∈ WT := wt_at 34 (by decide +kernel) (by decide +kernel)
theorem fl_X3_82 : Cond.fieldLink RX3 82 (TX0 0).1 (TX0 0).2.1 (TX0 0).2.2.1 ∈ WT := wt_at 31 (by decide +kernel) (by decide +kernel)
theorem fl_X3_88 : Cond.fieldLink RX3 88 (TX3 9).1 (TX3 9).2.1 (TX3 9).2.2.1 ∈ WT := wt_at 118 (by decide +kernel) (by decide +kernel)
theorem fl_X3_116 : Cond.fieldLink RX3 116 (TX3 8).1 (TX3 8).2.1 (TX3 8).2.2.1 ∈ WT := wt_at 117 (by decide +kernel) (by decide +kernel)
theorem fl_X3_123 : Cond.fieldLink RX3 123 (TX0 2).1 (TX0 2).2.1 (TX0 2).2.2.1 ∈ WT := wt_at 38 (by decide +kernel) (by decide +kernel)
theorem fl_X4_14 : Cond.fieldLink RX4 14 (TX4 3).1 (TX4 3).2.1 (TX4 3).2.2.1 ∈ WT := wt_at 250 (by decide +kernel) (by decide +kernel)
theorem fl_X4_18 : Cond.fieldLink RX4 18 (TX4 4).1 (TX4 4).2.1 (TX4 4).2.2.1 ∈ WT := wt_at 251 (by decide +kernel) (by decide +kernel)
theorem fl_X4_22 : Cond.fieldLink RX4 22 (TX4 5).1 (TX4 5).2.1 (TX4 5).2.2.1 ∈ WT := wt_at 252 (by decide +kernel) (by decide +kernel)
theorem fl_X4_27 : Cond.fieldLink RX4 27 (TX4 6).1 (TX4 6).2.1 (TX4 6).2.2.1 ∈ WT := wt_at 253 (by decide +kernel) (by decide +kernel)
theorem fl_X4_30 : Cond.fieldLink RX4 30 (TX4 7).1 (TX4 7).2.1 (TX4 7).2.2.1 ∈ WT := wt_at 254 (by decide +kernel) (by decide +kernel)
theorem fl_X4_33 : Cond.fieldLink RX4 33 (TX4 1).1 (TX4 1).2.1 (TX4 1).2.2.1 ∈ WT := wt_at 248 (by decide +kernel) (by decide +kernel)
theorem fl_X4_37 : Cond.fieldLink RX4 37 (TX4 0).1 (TX4 0).2.1 (TX4 0).2.2.1 ∈ WT := wt_at 246 (by decide +kernel) (by decide +kernel)
theorem fl_X4_41 : Cond.fieldLink RX4 41 (TX4 2).1 (TX4 2).2.1 (TX4 2).2.2.1 ∈ WT := wt_at 249 (by decide +kernel) (by decide +kernel)
theorem fl_X4_47 : Cond.fieldLink RX4 47 (TX1 1).1 (TX1 1).2.1 (TX1 1).2.2.1 ∈ WT := wt_at 219 (by decide +kernel) (by decide +kernel)
theorem fl_X4_51 : Cond.fieldLink RX4 51 (TX1 5).1 (TX1 5).2.1 (TX1 5).2.2.1 ∈ WT := wt_at 224 (by decide +kernel) (by decide +kernel)
theorem fl_X4_65 : Cond.fieldLink RX4 65 (TX1 6).1 (TX1 6).2.1 (TX1 6).2.2.1 ∈ WT := wt_at 226 (by decide +kernel) (by decide +kernel)
theorem fl_X4_75 : Cond.fieldLink RX4 75 (TX1 2).1 (TX1 2).2.1 (TX1 2).2.2.1 ∈ WT := wt_at 220 (by decide +kernel) (by decide +kernel)
theorem fl_X4_78 : Cond.fieldLink RX4 78 (TX1 7).1 (TX1 7).2.1 (TX1 7).2.2.1 ∈ WT := wt_at 228 (by decide +kernel) (by decide +kernel)
theorem fl_X4_81 : Cond.fieldLink RX4 81 (TX1 3).1 (TX1 3).2.1 (TX1 3).2.2.1 ∈ WT := wt_at 221 (by decide +kernel) (by decide +kernel)
theorem fl_X4_84 : Cond.fieldLink RX4 84 (TX1 4).1 (TX1 4).2.1 (TX1 4).2.2.1 ∈ WT := wt_at 222 (by decide +kernel) (by decide +kernel)
theorem fl_X4_87 : Cond.fieldLink RX4 87 (TX2 3).1 (TX2 3).2.1 (TX2 3).2.2.1 ∈ WT := wt_at 161 (by decide +kernel) (by decide +kernel)
theorem fl_X4_90 : Cond.fieldLink RX4 90 (TX2 10).1 (TX2 10).2.1 (TX2 10).2.2.1 ∈ WT := wt_at 183 (by decide +kernel) (by decide +kernel)
theorem fl_X4_94 : Cond.fieldLink RX4 94 (TX2 4).1 (TX2 4).2.1 (TX2 4).2.2.1 ∈ WT := wt_at 165 (by decide +kernel) (by decide +kernel)
theorem fl_X4_98 : Cond.fieldLink RX4 98 (TX1 0).1 (TX1 0).2.1 (TX1 0).2.2.1 ∈ WT := wt_at 218 (by decide +kernel) (by decide +kernel)
theorem fl_X4_114 : Cond.fieldLink RX4 114 (TX2 2).1 (TX2 2).2.1 (TX2 2).2.2.1 ∈ WT := wt_at 158 (by decide +kernel) (by decide +kernel)
theorem fl_X4_121 : Cond.fieldLink RX4 121 (TX4 8).1 (TX4 8).2.1 (TX4 8).2.2.1 ∈ WT := wt_at 255 (by decide +kernel) (by decide +kernel)
theorem fl_X4_138 : Cond.fieldLink RX4 138 (TX0 2).1 (TX0 2).2.1 (TX0 2).2.2.1 ∈ WT := wt_at 39 (by decide +kernel) (by decide +kernel)
theorem fl_X4_150 : Cond.fieldLink RX4 150 (TX0 9).1 (TX0 9).2.1 (TX0 9).2.2.1 ∈ WT := wt_at 58 (by decide +kernel) (by decide +kernel)
theorem fl_X4_164 : Cond.fieldLink RX4 164 (TX4 9).1 (TX4 9).2.1 (TX4 9).2.2.1 ∈ WT := wt_at 256 (by decide +kernel) (by decide +kernel)
theorem fl_X4_167 : Cond.fieldLink RX4 167 (TX4 10).1 (TX4 10).2.1 (TX4 10).2.2.1 ∈ WT := wt_at 257 (by decide +kernel) (by decide +kernel)
theorem fl_X4_170 : Cond.fieldLink RX4 170 (TX4 11).1 (TX4 11).2.1 (TX4 11).2.2.1 ∈ WT := wt_at 258 (by decide +kernel) (by decide +kernel)
theorem fl_X4_176 : Cond.fieldLink RX4 176 (TX2 7).1 (TX2 7).2.1 (TX2 7).2.2.1 ∈ WT := wt_at 174 (by decide +kernel) (by decide +kernel)
theorem fl_X4_188 : Cond.fieldLink RX4 188 (TX0 1).1 (TX0 1).2.1 (TX0 1).2.2.1 ∈ WT := wt_at 36 (by decide +kernel) (by decide +kernel)
theorem fl_X4_194 : Cond.fieldLink RX4 194 (TX4 12).1 (TX4 12).2.1 (TX4 12).2.2.1 ∈ WT := wt_at 259 (by decide +kernel) (by decide +kernel)
theorem fl_X4_218 : Cond.fieldLink RX4 218 (TX0 12).1 (TX0 12).2.1 (TX0 12).2.2.1 ∈ WT := wt_at 67 (by decide +kernel) (by decide +kernel)
theorem fl_X4_221 : Cond.fieldLink RX4 221 (TX0 13).1 (TX0 13).2.1 (TX0 13).2.2.1 ∈ WT := wt_at 70 (by decide +kernel) (by decide +kernel)
theorem fl_X4_227 : Cond.fieldLink RX4 227 (TX0 10).1 (TX0 10).2.1 (TX0 10).2.2.1 ∈ WT := wt_at 62 (by decide +kernel) (by decide +kernel)
theorem fl_X4_239 : Cond.fieldLink RX4 239 (TX0 6).1 (TX0 6).2.1 (TX0 6).2.2.1 ∈ WT := wt_at 49 (by decide +kernel) (by decide +kernel)
theorem fl_X4_240 : Cond.fieldLink RX4 240 (TX2 1).1 (TX2 1).2.1 (TX2 1).2.2.1 ∈ WT := wt_at 155 (by decide +kernel) (by decide +kernel)
theorem fl_X4_256 : Cond.fieldLink RX4 256 (TX0 7).1 (TX0 7).2.1 (TX0 7).2.2.1 ∈ WT := wt_at 53 (by decide +kernel) (by decide +kernel)
theorem fl_X4_259 : Cond.fieldLink RX4 259 (TX2 6).1 (TX2 6).2.1 (TX2 6).2.2.1 ∈ WT := wt_at 171 (by decide +kernel) (by decide +kernel)
theorem fl_X4_262 : Cond.fieldLink RX4 262 (TX2 8).1 (TX2 8).2.1 (TX2 8).2.2.1 ∈ WT := wt_at 179 (by decide +kernel) (by decide +kernel)
theorem fl_X4_263 : Cond.fieldLink RX4 263 (TX2 0).1 (TX2 0).2.1 (TX2 0).2.2.1 ∈ WT := wt_at 152 (by decide +kernel) (by decide +kernel)
theorem fl_X5_11 : Cond.fieldLink RX5 11 (TX5 2).1 (TX5 2).2.1 (TX5 2).2.2.1 ∈ WT := wt_at 296 (by decide +kernel) (by decide +kernel)
theorem fl_X5_15 : Cond.fieldLink RX5 15 (TX5 3).1 (TX5 3).2.1 (TX5 3).2.2.1 ∈ WT := wt_at 297 (by decide +kernel) (by decide +kernel)
theorem fl_X5_18 : Cond.fieldLink RX5 18 (TX5 4).1 (TX5 4).2.1 (TX5 4).2.2.1 ∈ WT := wt_at 298 (by decide +kernel) (by decide +kernel)
theorem fl_X5_21 : Cond.fieldLink RX5 21 (TX5 5).1 (TX5 5).2.1 (TX5 5).2.2.1 ∈ WT := wt_at 299 (by decide +kernel) (by decide +kernel)
theorem fl_X5_25 : Cond.fieldLink RX5 25 (TX5 1).1 (TX5 1).2.1 (TX5 1).2.2.1 ∈ WT := wt_at 295 (by decide +kernel) (by decide +kernel)
theorem fl_X5_29 : Cond.fieldLink RX5 29 (TX5 0).1 (TX5 0).2.1 (TX5 0).2.2.1 ∈ WT := wt_at 293 (by decide +kernel) (by decide +kernel)
theorem fl_X5_49 : Cond.fieldLink RX5 49 (TX2 0).1 (TX2 0).2.1 (TX2 0).2.2.1 ∈ WT := wt_at 151 (by decide +kernel) (by decide +kernel)
theorem fl_X5_54 : Cond.fieldLink RX5 54 (TX0 9).1 (TX0 9).2.1 (TX0 9).2.2.1 ∈ WT := wt_at 57 (by decide +kernel) (by decide +kernel)
theorem fl_X5_59 : Cond.fieldLink RX5 59 (TX0 6).1 (TX0 6).2.1 (TX0 6).2.2.1 ∈ WT := wt_at 47 (by decide +kernel) (by decide +kernel)
theorem fl_X5_66 : Cond.fieldLink RX5 66 (TX2 2).1 (TX2 2).2.1 (TX2 2).2.2.1 ∈ WT := wt_at 157 (by decide +kernel) (by decide +kernel)
theorem fl_X5_73 : Cond.fieldLink RX5 73 (TX0 7).1 (TX0 7).2.1 (TX0 7).2.2.1 ∈ WT := wt_at 51 (by decide +kernel) (by decide +kernel)
theorem fl_X5_76 : Cond.fieldLink RX5 76 (TX2 1).1 (TX2 1).2.1 (TX2 1).2.2.1 ∈ WT := wt_at 154 (by decide +kernel) (by decide +kernel)
theorem fl_X5_83 : Cond.fieldLink RX5 83 (TX0 12).1 (TX0 12).2.1 (TX0 12).2.2.1 ∈ WT := wt_at 66 (by decide +kernel) (by decide +kernel)
theorem fl_X5_94 : Cond.fieldLink RX5 94 (TX0 13).1 (TX0 13).2.1 (TX0 13).2.2.1 ∈ WT := wt_at 69 (by decide +kernel) (by decide +kernel)
theorem fl_X5_97 : Cond.fieldLink RX5 97 (TX2 3).1 (TX2 3).2.1 (TX2 3).2.2.1 ∈ WT := wt_at 162 (by decide +kernel) (by decide +kernel)
theorem fl_X5_101 : Cond.fieldLink RX5 101 (TX2 7).1 (TX2 7).2.1 (TX2 7).2.2.1 ∈ WT := wt_at 173 (by decide +kernel) (by decide +kernel)
theorem fl_X5_102 : Cond.fieldLink RX5 102 (TX2 6).1 (TX2 6).2.1 (TX2 6).2.2.1 ∈ WT := wt_at 169 (by decide +kernel) (by decide +kernel)
theorem fl_X5_109 : Cond.fieldLink RX5 109 (TX2 8).1 (TX2 8).2.1 (TX2 8).2.2.1 ∈ WT := wt_at 177 (by decide +kernel) (by decide +kernel)
theorem fl_X6_9 : Cond.fieldLink RX6 9 (TX6 0).1 (TX6 0).2.1 (TX6 0).2.2.1 ∈ WT := wt_at 313 (by decide +kernel) (by decide +kernel)
theorem fl_X6_16 : Cond.fieldLink RX6 16 (TX6 2).1 (TX6 2).2.1 (TX6 2).2.2.1 ∈ WT := wt_at 315 (by decide +kernel) (by decide +kernel)
theorem fl_X6_20 : Cond.fieldLink RX6 20 (TX6 3).1 (TX6 3).2.1 (TX6 3).2.2.1 ∈ WT := wt_at 316 (by decide +kernel) (by decide +kernel)
theorem fl_X6_28 : Cond.fieldLink RX6 28 (TX6 4).1 (TX6 4).2.1 (TX6 4).2.2.1 ∈ WT := wt_at 317 (by decide +kernel) (by decide +kernel)
theorem fl_X6_41 : Cond.fieldLink RX6 41 (TX6 5).1 (TX6 5).2.1 (TX6 5).2.2.1 ∈ WT := wt_at 318 (by decide +kernel) (by decide +kernel)
theorem fl_X6_45 : Cond.fieldLink RX6 45 (TX6 6).1 (TX6 6).2.1 (TX6 6).2.2.1 ∈ WT := wt_at 319 (by decide +kernel) (by decide +kernel)
theorem fl_X6_53 : Cond.fieldLink RX6 53 (TX6 7).1 (TX6 7).2.1 (TX6 7).2.2.1 ∈ WT := wt_at 320 (by decide +kernel) (by decide +kernel)
theorem fl_X6_57 : Cond.fieldLink RX6 57 (TX6 1).1 (TX6 1).2.1 (TX6 1).2.2.1 ∈ WT := wt_at 314 (by decide +kernel) (by decide +kernel)
theorem fl_X6_72 : Cond.fieldLink RX6 72 (TX4 0).1 (TX4 0).2.1 (TX4 0).2.2.1 ∈ WT := wt_at 247 (by decide +kernel) (by decide +kernel)
theorem fl_X6_79 : Cond.fieldLink RX6 79 (TX5 0).1 (TX5 0).2.1 (TX5 0).2.2.1 ∈ WT := wt_at 294 (by decide +kernel) (by decide +kernel)
theorem fl_X6_82 : Cond.fieldLink RX6 82 (TX0 1).1 (TX0 1).2.1 (TX0 1).2.2.1 ∈ WT := wt_at 35 (by decide +kernel) (by decide +kernel)
theorem fl_X6_107 : Cond.fieldLink RX6 107 (TX2 9).1 (TX2 9).2.1 (TX2 9).2.2.1 ∈ WT := wt_at 181 (by decide +kernel) (by decide +kernel)
theorem fl_X6_125 : Cond.fieldLink RX6 125 (TX0 6).1 (TX0 6).2.1 (TX0 6).2.2.1 ∈ WT := wt_at 48 (by decide +kernel) (by decide +kernel)
theorem fl_X6_129 : Cond.fieldLink RX6 129 (TX0 7).1 (TX0 7).2.1 (TX0 7).2.2.1 ∈ WT := wt_at 52 (by decide +kernel) (by decide +kernel)
theorem fl_X6_132 : Cond.fieldLink RX6 132 (TX0 8).1 (TX0 8).2.1 (TX0 8).2.2.1 ∈ WT := wt_at 55 (by decide +kernel) (by decide +kernel)
theorem fl_X6_135 : Cond.fieldLink RX6 135 (TX0 9).1 (TX0 9).2.1 (TX0 9).2.2.1 ∈ WT := wt_at 59 (by decide +kernel) (by decide +kernel)
theorem fl_X6_138 : Cond.fieldLink RX6 138 (TX0 10).1 (TX0 10).2.1 (TX0 10).2.2.1 ∈ WT := wt_at 61 (by decide +kernel) (by decide +kernel)
theorem fl_X6_141 : Cond.fieldLink RX6 141 (TX0 11).1 (TX0 11).2.1 (TX0 11).2.2.1 ∈ WT := wt_at 64 (by decide +kernel) (by decide +kernel)
theorem fl_X6_144 : Cond.fieldLink RX6 144 (TX0 4).1 (TX0 4).2.1 (TX0 4).2.2.1 ∈ WT := wt_at 43 (by decide +kernel) (by decide +kernel)
theorem fl_X6_147 : Cond.fieldLink RX6 147 (TX0 5).1 (TX0 5).2.1 (TX0 5).2.2.1 ∈ WT := wt_at 45 (by decide +kernel) (by decide +kernel)
theorem fl_X6_153 : Cond.fieldLink RX6 153 (TX2 5).1 (TX2 5).2.1 (TX2 5).2.2.1 ∈ WT := wt_at 167 (by decide +kernel) (by decide +kernel)
theorem fl_X6_156 : Cond.fieldLink RX6 156 (TX2 6).1 (TX2 6).2.1 (TX2 6).2.2.1 ∈ WT := wt_at 170 (by decide +kernel) (by decide +kernel)
theorem fl_X6_159 : Cond.fieldLink RX6 159 (TX2 7).1 (TX2 7).2.1 (TX2 7).2.2.1 ∈ WT := wt_at 175 (by decide +kernel) (by decide +kernel)
theorem fl_X6_160 : Cond.fieldLink RX6 160 (TX2 8).1 (TX2 8).2.1 (TX2 8).2.2.1 ∈ WT := wt_at 178 (by decide +kernel) (by decide +kernel)
theorem fl_X6_161 : Cond.fieldLink RX6 161 (TX2 10).1 (TX2 10).2.1 (TX2 10).2.2.1 ∈ WT := wt_at 184 (by decide +kernel) (by decide +kernel)
theorem fl_X6_201 : Cond.fieldLink RX6 201 (TX0 0).1 (TX0 0).2.1 (TX0 0).2.2.1 ∈ WT := wt_at 32 (by decide +kernel) (by decide +kernel)
theorem fl_X6_204 : Cond.fieldLink RX6 204 (TX0 2).1 (TX0 2).2.1 (TX0 2).2.2.1 ∈ WT := wt_at 40 (by decide +kernel) (by decide +kernel)
theorem fl_X6_207 : Cond.fieldLink RX6 207 (TX2 3).1 (TX2 3).2.1 (TX2 3).2.2.1 ∈ WT := wt_at 163 (by decide +kernel) (by decide +kernel)
theorem fl_X6_208 : Cond.fieldLink RX6 208 (TX2 2).1 (TX2 2).2.1 (TX2 2).2.2.1 ∈ WT := wt_at 159 (by decide +kernel) (by decide +kernel)
theorem fl_X7_9 : Cond.fieldLink RX7 9 (TX7 0).1 (TX7 0).2.1 (TX7 0).2.2.1 ∈ WT := wt_at 902 (by decide +kernel) (by decide +kernel)
theorem fl_X7_13 : Cond.fieldLink RX7 13 (TX7 7).1 (TX7 7).2.1 (TX7 7).2.2.1 ∈ WT := wt_at 909 (by decide +kernel) (by decide +kernel)
theorem fl_X7_17 : Cond.fieldLink RX7 17 (TX7 8).1 (TX7 8).2.1 (TX7 8).2.2.1 ∈ WT := wt_at 910 (by decide +kernel) (by decide +kernel)
theorem fl_X7_21 : Cond.fieldLink RX7 21 (TX7 10).1 (TX7 10).2.1 (TX7 10).2.2.1 ∈ WT := wt_at 912 (by decide +kernel) (by decide +kernel)
theorem fl_X7_24 : Cond.fieldLink RX7 24 (TX7 11).1 (TX7 11).2.1 (TX7 11).2.2.1 ∈ WT := wt_at 913 (by decide +kernel) (by decide +kernel)
theorem fl_X7_27 : Cond.fieldLink RX7 27 (TX7 12).1 (TX7 12).2.1 (TX7 12).2.2.1 ∈ WT := wt_at 914 (by decide +kernel) (by decide +kernel)
theorem fl_X7_30 : Cond.fieldLink RX7 30 (TX7 14).1 (TX7 14).2.1 (TX7 14).2.2.1 ∈ WT := wt_at 916 (by decide +kernel) (by decide +kernel)
theorem fl_X7_33 : Cond.fieldLink RX7 33 (TX7 16).1 (TX7 16).2.1 (TX7 16).2.2.1 ∈ WT := wt_at 918 (by decide +kernel) (by decide +kernel)
theorem fl_X7_36 : Cond.fieldLink RX7 36 (TX7 18).1 (TX7 18).2.1 (TX7 18).2.2.1 ∈ WT := wt_at 920 (by decide +kernel) (by decide +kernel)
theorem fl_X7_39 : Cond.fieldLink RX7 39 (TX7 19).1 (TX7 19).2.1 (TX7 19).2.2.1 ∈ WT := wt_at 921 (by decide +kernel) (by decide +kernel)
theorem fl_X7_42 : Cond.fieldLink RX7 42 (TX7 21).1 (TX7 21).2.1 (TX7 21).2.2.1 ∈ WT := wt_at 923 (by decide +kernel) (by decide +kernel)
theorem fl_X7_45 : Cond.fieldLink RX7 45 (TX7 22).1 (TX7 22).2.1 (TX7 22).2.2.1 ∈ WT := wt_at 924 (by decide +kernel) (by decide +kernel)
theorem fl_X7_48 : Cond.fieldLink RX7 48 (TX7 23).1 (TX7 23).2.1 (TX7 23).2.2.1 ∈ WT := wt_at 925 (by decide +kernel) (by decide +kernel)
theorem fl_X7_51 : Cond.fieldLink RX7 51 (TX7 24).1 (TX7 24).2.1 (TX7 24).2.2.1 ∈ WT := wt_at 926 (by decide +kernel) (by decide +kernel)
theorem fl_X7_54 : Cond.fieldLink RX7 54 (TX7 25).1 (TX7 25).2.1 (TX7 25).2.2.1 ∈ WT := wt_at 927 (by decide +kernel) (by decide +kernel)
theorem fl_X7_57 : Cond.fieldLink RX7 57 (TX7 26).1 (TX7 26).2.1 (TX7 26).2.2.1 ∈ WT := wt_at 928 (by decide +kernel) (by decide +kernel)
theorem fl_X7_60 : Cond.fieldLink RX7 60 (TX7 27).1 (TX7 27).2.1 (TX7 27).2.2.1 ∈ WT := wt_at 929 (by decide +kernel) (by decide +kernel)
theorem fl_X7_63 : Cond.fieldLink RX7 63 (TX7 28).1 (TX7 28).2.1 (TX7 28).2.2.1 ∈ WT := wt_at 930 (by decide +kernel) (by decide +kernel)
theorem fl_X7_66 : Cond.fieldLink RX7 66 (TX7 29).1 (TX7 29).2.1 (TX7 29).2.2.1 ∈ WT := wt_at 931 (by decide +kernel) (by decide +kernel)
theorem fl_X7_69 : Cond.fieldLink RX7 69 (TX7 30).1 (TX7 30).2.1 (TX7 30).2.2.1 ∈ WT := wt_at 932 (by decide +kernel) (by decide +kernel)
theorem fl_X7_72 : Cond.fieldLink RX7 72 (TX7 31).1 (TX7 31).2.1 (TX7 31).2.2.1 ∈ WT := wt_at 933 (by decide +kernel) (by decide +kernel)
theorem fl_X7_76 : Cond.fieldLink RX7 76 (TX7 33).1 (TX7 33).2.1 (TX7 33).2.2.1 ∈ WT := wt_at 935 (by decide +kernel) (by decide +kernel)
theorem fl_X7_79 : Cond.fieldLink RX7 79 (TX7 34).1 (TX7 34).2.1 (TX7 34).2.2.1 ∈ WT := wt_at 936 (by decide +kernel) (by decide +kernel)
theorem fl_X7_82 : Cond.fieldLink RX7 82 (TX7 38).1 (TX7 38).2.1 (TX7 38).2.2.1 ∈ WT := wt_at 940 (by decide +kernel) (by decide +kernel)
theorem fl_X7_85 : Cond.fieldLink RX7 85 (TX7 39).1 (TX7 39).2.1 (TX7 39).2.2.1 ∈ WT := wt_at 941 (by decide +kernel) (by decide +kernel)
theorem fl_X7_88 : Cond.fieldLink RX7 88 (TX7 41).1 (TX7 41).2.1 (TX7 41).2.2.1 ∈ WT := wt_at 943 (by decide +kernel) (by decide +kernel)
theorem fl_X7_91 : Cond.fieldLink RX7 91 (TX7 42).1 (TX7 42).2.1 (TX7 42).2.2.1 ∈ WT := wt_at 944 (by decide +kernel) (by decide +kernel)
theorem fl_X7_94 : Cond.fieldLink RX7 94 (TX7 43).1 (TX7 43).2.1 (TX7 43).2.2.1 ∈ WT := wt_at 945 (by decide +kernel) (by decide +kernel)
theorem fl_X7_98 : Cond.fieldLink RX7 98 (TX7 45).1 (TX7 45).2.1 (TX7 45).2.2.1 ∈ WT := wt_at 947 (by decide +kernel) (by decide +kernel)
theorem fl_X7_101 : Cond.fieldLink RX7 101 (TX7 46).1 (TX7 46).2.1 (TX7 46).2.2.1 ∈ WT := wt_at 948 (by decide +kernel) (by decide +kernel)
theorem fl_X7_104 : Cond.fieldLink RX7 104 (TX7 47).1 (TX7 47).2.1 (TX7 47).2.2.1 ∈ WT := wt_at 949 (by decide +kernel) (by decide +kernel)
theorem fl_X7_107 : Cond.fieldLink RX7 107 (TX7 48).1 (TX7 48).2.1 (TX7 48).2.2.1 ∈ WT := wt_at 950 (by decide +kernel) (by decide +kernel)
theorem fl_X7_110 : Cond.fieldLink RX7 110 (TX7 49).1 (TX7 49).2.1 (TX7 49).2.2.1 ∈ WT := wt_at 951 (by decide +kernel) (by decide +kernel)
theorem fl_X7_113 : Cond.fieldLink RX7 113 (TX7 1).1 (TX7 1).2.1 (TX7 1).2.2.1 ∈ WT := wt_at 903 (by decide +kernel) (by decide +kernel)
theorem fl_X7_121 : Cond.fieldLink RX7 121 (TX7 2).1 (TX7 2).2.1 (TX7 2).2.2.1 ∈ WT := wt_at 904 (by decide +kernel) (by decide +kernel)
theorem fl_X7_124 : Cond.fieldLink RX7 124 (TX7 4).1 (TX7 4).2.1 (TX7 4).2.2.1 ∈ WT := wt_at 906 (by decide +kernel) (by decide +kernel)
theorem fl_X7_127 : Cond.fieldLink RX7 127 (TX7 5).1 (TX7 5).2.1 (TX7 5).2.2.1 ∈ WT := wt_at 907 (by decide +kernel) (by decide +kernel)
theorem fl_X7_131 : Cond.fieldLink RX7 131 (TX7 3).1 (TX7 3).2.1 (TX7 3).2.2.1 ∈ WT := wt_at 905 (by decide +kernel) (by decide +kernel)
theorem fl_X7_194 : Cond.fieldLink RX7 194 (TX7 35).1 (TX7 35).2.1 (TX7 35).2.2.1 ∈ WT := wt_at 937 (by decide +kernel) (by decide +kernel)
theorem fl_X7_197 : Cond.fieldLink RX7 197 (TX7 6).1 (TX7 6).2.1 (TX7 6).2.2.1 ∈ WT := wt_at 908 (by decide +kernel) (by decide +kernel)
theorem fl_X7_204 : Cond.fieldLink RX7 204 (TX7 9).1 (TX7 9).2.1 (TX7 9).2.2.1 ∈ WT := wt_at 911 (by decide +kernel) (by decide +kernel)
theorem fl_X7_225 : Cond.fieldLink RX7 225 (TX7 13).1 (TX7 13).2.1 (TX7 13).2.2.1 ∈ WT := wt_at 915 (by decide +kernel) (by decide +kernel)
theorem fl_X7_244 : Cond.fieldLink RX7 244 (TX7 15).1 (TX7 15).2.1 (TX7 15).2.2.1 ∈ WT := wt_at 917 (by decide +kernel) (by decide +kernel)
theorem fl_X7_247 : Cond.fieldLink RX7 247 (TX7 17).1 (TX7 17).2.1 (TX7 17).2.2.1 ∈ WT := wt_at 919 (by decide +kernel) (by decide +kernel)
theorem fl_X7_250 : Cond.fieldLink RX7 250 (TX7 20).1 (TX7 20).2.1 (TX7 20).2.2.1 ∈ WT := wt_at 922 (by decide +kernel) (by decide +kernel)
theorem fl_X7_253 : Cond.fieldLink RX7 253 (TX7 32).1 (TX7 32).2.1 (TX7 32).2.2.1 ∈ WT := wt_at 934 (by decide +kernel) (by decide +kernel)
theorem fl_X7_279 : Cond.fieldLink RX7 279 (TX7 36).1 (TX7 36).2.1 (TX7 36).2.2.1 ∈ WT := wt_at 938 (by decide +kernel) (by decide +kernel)
theorem fl_X7_282 : Cond.fieldLink RX7 282 (TX7 37).1 (TX7 37).2.1 (TX7 37).2.2.1 ∈ WT := wt_at 939 (by decide +kernel) (by decide +kernel)
theorem fl_X7_285 : Cond.fieldLink RX7 285 (TX7 40).1 (TX7 40).2.1 (TX7 40).2.2.1 ∈ WT := wt_at 942 (by decide +kernel) (by decide +kernel)
theorem fl_X7_297 : Cond.fieldLink RX7 297 (TX7 44).1 (TX7 44).2.1 (TX7 44).2.2.1 ∈ WT := wt_at 946 (by decide +kernel) (by decide +kernel)
/-- StampTales$Atlas.stamping -/
theorem gf_X0_11 (n : Nat) {i : Bool} (ho : yO y = RX0) (hd : decode (yC y) pc = .ok (.getfield 11, 3)) (hp : pc + 3 = n) (kk : At y G b n ls (rf G 10 i :: st) σ) : At y G b pc ls (rf G 0 i :: st) σ := at_get n ho rfl rfl rfl rfl inW0 (k := 3) (by decide) fl_X0_11 rfl hd hp kk
/-- StampTales$Atlas.landOf -/
theorem gf_X0_15 (n : Nat) {i : Bool} (ho : yO y = RX0) (hd : decode (yC y) pc = .ok (.getfield 15, 3)) (hp : pc + 3 = n) (kk : At y G b n ls (rf G 11 i :: st) σ) : At y G b pc ls (rf G 0 i :: st) σ := at_get n ho rfl rfl rfl rfl inW0 (k := 4) (by decide) fl_X0_15 rfl hd hp kk
/-- StampTales$Atlas.clock -/
theorem gf_X0_18 (n : Nat) {i : Bool} (ho : yO y = RX0) (hd : decode (yC y) pc = .ok (.getfield 18, 3)) (hp : pc + 3 = n) (kk : At y G b n ls (rf G 12 i :: st) σ) : At y G b pc ls (rf G 0 i :: st) σ := at_get n ho rfl rfl rfl rfl inW0 (k := 5) (by decide) fl_X0_18 rfl hd hp kk
/-- StampTales$Atlas.from -/
theorem gf_X0_21 (n : Nat) {i : Bool} (ho : yO y = RX0) (hd : decode (yC y) pc = .ok (.getfield 21, 3)) (hp : pc + 3 = n) (kk : At y G b n ls (rf G 13 i :: st) σ) : At y G b pc ls (rf G 0 i :: st) σ := at_get n ho rfl rfl rfl rfl inW0 (k := 6) (by decide) fl_X0_21 rfl hd hp kk
/-- StampTales$Atlas.to -/
theorem gf_X0_24 (n : Nat) {i : Bool} (ho : yO y = RX0) (hd : decode (yC y) pc = .ok (.getfield 24, 3)) (hp : pc + 3 = n) (kk : At y G b n ls (rf G 14 i :: st) σ) : At y G b pc ls (rf G 0 i :: st) σ := at_get n ho rfl rfl rfl rfl inW0 (k := 7) (by decide) fl_X0_24 rfl hd hp kk
/-- StampTales$Atlas.hour -/
theorem gf_X0_27 (n : Nat) {i : Bool} (ho : yO y = RX0) (hd : decode (yC y) pc = .ok (.getfield 27, 3)) (hp : pc + 3 = n) (kk : At y G b n ls (rf G 15 i :: st) σ) : At y G b pc ls (rf G 0 i :: st) σ := at_get n ho rfl rfl rfl rfl inW0 (k := 8) (by decide) fl_X0_27 rfl hd hp kk
/-- StampTales$Atlas.lasts -/
theorem gf_X0_30 (n : Nat) {i : Bool} (ho : yO y = RX0) (hd : decode (yC y) pc = .ok (.getfield 30, 3)) (hp : pc + 3 = n) (kk : At y G b n ls (rf G 16 i :: st) σ) : At y G b pc ls (rf G 0 i :: st) σ := at_get n ho rfl rfl rfl rfl inW0 (k := 9) (by decide) fl_X0_30 rfl hd hp kk
/-- StampTales$Atlas.price -/
theorem gf_X0_33 (n : Nat) {i : Bool} (ho : yO y = RX0) (hd : decode (yC y) pc = .ok (.getfield 33, 3)) (hp : pc + 3 = n) (kk : At y G b n ls (rf G 17 i :: st) σ) : At y G b pc ls (rf G 0 i :: st) σ := at_get n ho rfl rfl rfl rfl inW0 (k := 10) (by decide) fl_X0_33 rfl hd hp kk
/-- StampTales$Atlas.daily -/
theorem gf_X0_36 (n : Nat) {i : Bool} (ho : yO y = RX0) (hd : decode (yC y) pc = .ok (.getfield 36, 3)) (hp : pc + 3 = n) (kk : At y G b n ls (rf G 18 i :: st) σ) : At y G b pc ls (rf G 0 i :: st) σ := at_get n ho rfl rfl rfl rfl inW0 (k := 11) (by decide) fl_X0_36 rfl hd hp kk
/-- StampTales$Atlas.outLand -/
theorem gf_X0_40 (n : Nat) {i : Bool} (ho : yO y = RX0) (hd : decode (yC y) pc = .ok (.getfield 40, 3)) (hp : pc + 3 = n) (kk : At y G b n ls (rf G 19 i :: st) σ) : At y G b pc ls (rf G 0 i :: st) σ := at_get n ho rfl rfl rfl rfl inW0 (k := 12) (by decide) fl_X0_40 rfl hd hp kk
/-- StampTales$Atlas.inLand -/
theorem gf_X0_43 (n : Nat) {i : Bool} (ho : yO y = RX0) (hd : decode (yC y) pc = .ok (.getfield 43, 3)) (hp : pc + 3 = n) (kk : At y G b n ls (rf G 20 i :: st) σ) : At y G b pc ls (rf G 0 i :: st) σ := at_get n ho rfl rfl rfl rfl inW0 (k := 13) (by decide) fl_X0_43 rfl hd hp kk
/-- StampTales$Atlas.lands -/
theorem gf_X0_46 (n : Nat) {i : Bool} (ho : yO y = RX0) (hd : decode (yC y) pc = .ok (.getfield 46, 3)) (hp : pc + 3 = n) (kk : At y G b n ls (.int (gI σ 0 i 0) :: st) σ) : At y G b pc ls (rf G 0 i :: st) σ := at_get n ho rfl rfl rfl rfl inW0 (k := 0) (by decide) fl_X0_46 rfl hd hp kk
/-- StampTales$Atlas.towns -/
theorem gf_X0_50 (n : Nat) {i : Bool} (ho : yO y = RX0) (hd : decode (yC y) pc = .ok (.getfield 50, 3)) (hp : pc + 3 = n) (kk : At y G b n ls (.int (gI σ 0 i 1) :: st) σ) : At y G b pc ls (rf G 0 i :: st) σ := at_get n ho rfl rfl rfl rfl inW0 (k := 1) (by decide) fl_X0_50 rfl hd hp kk
/-- StampTales$Atlas.links -/
theorem gf_X0_53 (n : Nat) {i : Bool} (ho : yO y = RX0) (hd : decode (yC y) pc = .ok (.getfield 53, 3)) (hp : pc + 3 = n) (kk : At y G b n ls (.int (gI σ 0 i 2) :: st) σ) : At y G b pc ls (rf G 0 i :: st) σ := at_get n ho rfl rfl rfl rfl inW0 (k := 2) (by decide) fl_X0_53 rfl hd hp kk
/-- StampTales$Man.kind -/
theorem gf_X2_19 (n : Nat) {i : Bool} (ho : yO y = RX2) (hd : decode (yC y) pc = .ok (.getfield 19, 3)) (hp : pc + 3 = n) (kk : At y G b n ls (rf G 24 i :: st) σ) : At y G b pc ls (rf G 2 i :: st) σ := at_get n ho rfl rfl rfl rfl inW2 (k := 5) (by decide) fl_X2_19 rfl hd hp kk
/-- StampTales$Man.place -/
theorem gf_X2_23 (n : Nat) {i : Bool} (ho : yO y = RX2) (hd : decode (yC y) pc = .ok (.getfield 23, 3)) (hp : pc + 3 = n) (kk : At y G b n ls (rf G 25 i :: st) σ) : At y G b pc ls (rf G 2 i :: st) σ := at_get n ho rfl rfl rfl rfl inW2 (k := 6) (by decide) fl_X2_23 rfl hd hp kk
/-- StampTales$Man.from -/
theorem gf_X2_26 (n : Nat) {i : Bool} (ho : yO y = RX2) (hd : decode (yC y) pc = .ok (.getfield 26, 3)) (hp : pc + 3 = n) (kk : At y G b n ls (rf G 26 i :: st) σ) : At y G b pc ls (rf G 2 i :: st) σ := at_get n ho rfl rfl rfl rfl inW2 (k := 7) (by decide) fl_X2_26 rfl hd hp kk
/-- StampTales$Man.to -/
theorem gf_X2_29 (n : Nat) {i : Bool} (ho : yO y = RX2) (hd : decode (yC y) pc = .ok (.getfield 29, 3)) (hp : pc + 3 = n) (kk : At y G b n ls (rf G 27 i :: st) σ) : At y G b pc ls (rf G 2 i :: st) σ := at_get n ho rfl rfl rfl rfl inW2 (k := 8) (by decide) fl_X2_29 rfl hd hp kk
/-- StampTales$Man.out -/
theorem gf_X2_32 (n : Nat) {i : Bool} (ho : yO y = RX2) (hd : decode (yC y) pc = .ok (.getfield 32, 3)) (hp : pc + 3 = n) (kk : At y G b n ls (rf G 28 i :: st) σ) : At y G b pc ls (rf G 2 i :: st) σ := at_get n ho rfl rfl rfl rfl inW2 (k := 9) (by decide) fl_X2_32 rfl hd hp kk
/-- StampTales$Man.doubted -/
theorem gf_X2_36 (n : Nat) {i : Bool} (ho : yO y = RX2) (hd : decode (yC y) pc = .ok (.getfield 36, 3)) (hp : pc + 3 = n) (kk : At y G b n ls (rf G 29 i :: st) σ) : At y G b pc ls (rf G 2 i :: st) σ := at_get n ho rfl rfl rfl rfl inW2 (k := 10) (by decide) fl_X2_36 rfl hd hp kk
/-- StampTales$Man.size -/
theorem gf_X2_39 (n : Nat) {i : Bool} (ho : yO y = RX2) (hd : decode (yC y) pc = .ok (.getfield 39, 3)) (hp : pc + 3 = n) (kk : At y G b n ls (.int (gI σ 2 i 3) :: st) σ) : At y G b pc ls (rf G 2 i :: st) σ := at_get n ho rfl rfl rfl rfl inW2 (k := 3) (by decide) fl_X2_39 rfl hd hp kk
/-- StampTales$Reader.landNames -/
theorem gf_X3_11 (n : Nat) (ho : yO y = RX3) (hd : decode (yC y) pc = .ok (.getfield 11, 3)) (hp : pc + 3 = n) (kk : At y G b n ls (rf G 30 false :: st) σ) : At y G b pc ls (rf G 3 false :: st) σ := at_get n ho rfl rfl rfl rfl inW3 (k := 2) (by decide) fl_X3_11 rfl hd hp kk
/-- StampTales$Reader.townNames -/
theorem gf_X3_17 (n : Nat) (ho : yO y = RX3) (hd : decode (yC y) pc = .ok (.getfield 17, 3)) (hp : pc + 3 = n) (kk : At y G b n ls (rf G 31 false :: st) σ) : At y G b pc ls (rf G 3 false :: st) σ := at_get n ho rfl rfl rfl rfl inW3 (k := 3) (by decide) fl_X3_17 rfl hd hp kk
/-- StampTales$Reader.text -/
theorem gf_X3_20 (n : Nat) (ho : yO y = RX3) (hd : decode (yC y) pc = .ok (.getfield 20, 3)) (hp : pc + 3 = n) (kk : At y G b n ls (rf G 41 false :: st) σ) : At y G b pc ls (rf G 3 false :: st) σ := at_get n ho rfl rfl rfl rfl inW3 (k := 0) (by decide) fl_X3_20 rfl hd hp kk
/-- StampTales$Reader.draft -/
theorem gf_X3_24 (n : Nat) (ho : yO y = RX3) (hd : decode (yC y) pc = .ok (.getfield 24, 3)) (hp : pc + 3 = n) (kk : At y G b n ls (rf G 0 true :: st) σ) : At y G b pc ls (rf G 3 false :: st) σ := at_get n ho rfl rfl rfl rfl inW3 (k := 1) (by decide) fl_X3_24 rfl hd hp kk
/-- StampTales$Reader.length -/
theorem gf_X3_34 (n : Nat) (ho : yO y = RX3) (hd : decode (yC y) pc = .ok (.getfield 34, 3)) (hp : pc + 3 = n) (kk : At y G b n ls (.int (gI σ 3 false 4) :: st) σ) : At y G b pc ls (rf G 3 false :: st) σ := at_get n ho rfl rfl rfl rfl inW3 (k := 4) (by decide) fl_X3_34 rfl hd hp kk
/-- StampTales$Reader.behind -/
theorem gf_X3_38 (n : Nat) (ho : yO y = RX3) (hd : decode (yC y) pc = .ok (.getfield 38, 3)) (hp : pc + 3 = n) (kk : At y G b n ls (.int (gI σ 3 false 6) :: st) σ) : At y G b pc ls (rf G 3 false :: st) σ := at_get n ho rfl rfl rfl rfl inW3 (k := 6) (by decide) fl_X3_38 rfl hd hp kk
/-- StampTales$Reader.kind -/
theorem gf_X3_47 (n : Nat) (ho : yO y = RX3) (hd : decode (yC y) pc = .ok (.getfield 47, 3)) (hp : pc + 3 = n) (kk : At y G b n ls (.int (gI σ 3 false 7) :: st) σ) : At y G b pc ls (rf G 3 false :: st) σ := at_get n ho rfl rfl rfl rfl inW3 (k := 7) (by decide) fl_X3_47 rfl hd hp kk
/-- StampTales$Reader.start -/
theorem gf_X3_54 (n : Nat) (ho : yO y = RX3) (hd : decode (yC y) pc = .ok (.getfield 54, 3)) (hp : pc + 3 = n) (kk : At y G b n ls (.int (gI σ 3 false 5) :: st) σ) : At y G b pc ls (rf G 3 false :: st) σ := at_get n ho rfl rfl rfl rfl inW3 (k := 5) (by decide) fl_X3_54 rfl hd hp kk
/-- StampTales$Atlas.towns -/
theorem gf_X3_57 (n : Nat) {i : Bool} (ho : yO y = RX3) (hd : decode (yC y) pc = .ok (.getfield 57, 3)) (hp : pc + 3 = n) (kk : At y G b n ls (.int (gI σ 0 i 1) :: st) σ) : At y G b pc ls (rf G 0 i :: st) σ := at_get n ho rfl rfl rfl rfl inW0 (k := 1) (by decide) fl_X3_57 rfl hd hp kk
/-- StampTales$Atlas.lands -/
theorem gf_X3_82 (n : Nat) {i : Bool} (ho : yO y = RX3) (hd : decode (yC y) pc = .ok (.getfield 82, 3)) (hp : pc + 3 = n) (kk : At y G b n ls (.int (gI σ 0 i 0) :: st) σ) : At y G b pc ls (rf G 0 i :: st) σ := at_get n ho rfl rfl rfl rfl inW0 (k := 0) (by decide) fl_X3_82 rfl hd hp kk
/-- StampTales$Reader.code -/
theorem gf_X3_88 (n : Nat) (ho : yO y = RX3) (hd : decode (yC y) pc = .ok (.getfield 88, 3)) (hp : pc + 3 = n) (kk : At y G b n ls (.long (gL σ 3 false 9) :: st) σ) : At y G b pc ls (rf G 3 false :: st) σ := at_get n ho rfl rfl rfl rfl inW3 (k := 9) (by decide) fl_X3_88 rfl hd hp kk
/-- StampTales$Reader.value -/
theorem gf_X3_116 (n : Nat) (ho : yO y = RX3) (hd : decode (yC y) pc = .ok (.getfield 116, 3)) (hp : pc + 3 = n) (kk : At y G b n ls (.int (gI σ 3 false 8) :: st) σ) : At y G b pc ls (rf G 3 false :: st) σ := at_get n ho rfl rfl rfl rfl inW3 (k := 8) (by decide) fl_X3_116 rfl hd hp kk
/-- StampTales$Atlas.links -/
theorem gf_X3_123 (n : Nat) {i : Bool} (ho : yO y = RX3) (hd : decode (yC y) pc = .ok (.getfield 123, 3)) (hp : pc + 3 = n) (kk : At y G b n ls (.int (gI σ 0 i 2) :: st) σ) : At y G b pc ls (rf G 0 i :: st) σ := at_get n ho rfl rfl rfl rfl inW0 (k := 2) (by decide) fl_X3_123 rfl hd hp kk
/-- StampTales$Search.found -/
theorem gf_X4_14 (n : Nat) {i : Bool} (ho : yO y = RX4) (hd : decode (yC y) pc = .ok (.getfield 14, 3)) (hp : pc + 3 = n) (kk : At y G b n ls (rf G 1 i :: st) σ) : At y G b pc ls (rf G 4 i :: st) σ := at_get n ho rfl rfl rfl rfl inW4 (k := 3) (by decide) fl_X4_14 rfl hd hp kk
/-- StampTales$Search.cells -/
theorem gf_X4_18 (n : Nat) {i : Bool} (ho : yO y = RX4) (hd : decode (yC y) pc = .ok (.getfield 18, 3)) (hp : pc + 3 = n) (kk : At y G b n ls (rf G 33 i :: st) σ) : At y G b pc ls (rf G 4 i :: st) σ := at_get n ho rfl rfl rfl rfl inW4 (k := 4) (by decide) fl_X4_18 rfl hd hp kk
/-- StampTales$Search.leaving -/
theorem gf_X4_22 (n : Nat) {i : Bool} (ho : yO y = RX4) (hd : decode (yC y) pc = .ok (.getfield 22, 3)) (hp : pc + 3 = n) (kk : At y G b n ls (rf G 34 i :: st) σ) : At y G b pc ls (rf G 4 i :: st) σ := at_get n ho rfl rfl rfl rfl inW4 (k := 5) (by decide) fl_X4_22 rfl hd hp kk
/-- StampTales$Search.stampTrace -/
theorem gf_X4_27 (n : Nat) {i : Bool} (ho : yO y = RX4) (hd : decode (yC y) pc = .ok (.getfield 27, 3)) (hp : pc + 3 = n) (kk : At y G b n ls (rf G 35 i :: st) σ) : At y G b pc ls (rf G 4 i :: st) σ := at_get n ho rfl rfl rfl rfl inW4 (k := 6) (by decide) fl_X4_27 rfl hd hp kk
/-- StampTales$Search.lookTrace -/
theorem gf_X4_30 (n : Nat) {i : Bool} (ho : yO y = RX4) (hd : decode (yC y) pc = .ok (.getfield 30, 3)) (hp : pc + 3 = n) (kk : At y G b n ls (rf G 36 i :: st) σ) : At y G b pc ls (rf G 4 i :: st) σ := at_get n ho rfl rfl rfl rfl inW4 (k := 7) (by decide) fl_X4_30 rfl hd hp kk
/-- StampTales$Search.atlas -/
theorem gf_X4_33 (n : Nat) {i : Bool} (ho : yO y = RX4) (hd : decode (yC y) pc = .ok (.getfield 33, 3)) (hp : pc + 3 = n) (kk : At y G b n ls (rf G 0 false :: st) σ) : At y G b pc ls (rf G 4 i :: st) σ := at_get n ho rfl rfl rfl rfl inW4 (k := 1) (by decide) fl_X4_33 rfl hd hp kk
/-- StampTales$Search.man -/
theorem gf_X4_37 (n : Nat) {i : Bool} (ho : yO y = RX4) (hd : decode (yC y) pc = .ok (.getfield 37, 3)) (hp : pc + 3 = n) (kk : At y G b n ls (rf G 2 i :: st) σ) : At y G b pc ls (rf G 4 i :: st) σ := at_get n ho rfl rfl rfl rfl inW4 (k := 0) (by decide) fl_X4_37 rfl hd hp kk
/-- StampTales$Search.table -/
theorem gf_X4_41 (n : Nat) {i : Bool} (ho : yO y = RX4) (hd : decode (yC y) pc = .ok (.getfield 41, 3)) (hp : pc + 3 = n) (kk : At y G b n ls (rf G 32 false :: st) σ) : At y G b pc ls (rf G 4 i :: st) σ := at_get n ho rfl rfl rfl rfl inW4 (k := 2) (by decide) fl_X4_41 rfl hd hp kk
/-- StampTales$Findings.ways -/
theorem gf_X4_47 (n : Nat) {i : Bool} (ho : yO y = RX4) (hd : decode (yC y) pc = .ok (.getfield 47, 3)) (hp : pc + 3 = n) (kk : At y G b n ls (.int (gI σ 1 i 1) :: st) σ) : At y G b pc ls (rf G 1 i :: st) σ := at_get n ho rfl rfl rfl rfl inW1 (k := 1) (by decide) fl_X4_47 rfl hd hp kk
/-- StampTales$Findings.where -/
theorem gf_X4_51 (n : Nat) {i : Bool} (ho : yO y = RX4) (hd : decode (yC y) pc = .ok (.getfield 51, 3)) (hp : pc + 3 = n) (kk : At y G b n ls (rf G 21 i :: st) σ) : At y G b pc ls (rf G 1 i :: st) σ := at_get n ho rfl rfl rfl rfl inW1 (k := 5) (by decide) fl_X4_51 rfl hd hp kk
/-- StampTales$Findings.extreme -/
theorem gf_X4_65 (n : Nat) {i : Bool} (ho : yO y = RX4) (hd : decode (yC y) pc = .ok (.getfield 65, 3)) (hp : pc + 3 = n) (kk : At y G b n ls (rf G 22 i :: st) σ) : At y G b pc ls (rf G 1 i :: st) σ := at_get n ho rfl rfl rfl rfl inW1 (k := 6) (by decide) fl_X4_65 rfl hd hp kk
/-- StampTales$Findings.taleSize -/
theorem gf_X4_75 (n : Nat) {i : Bool} (ho : yO y = RX4) (hd : decode (yC y) pc = .ok (.getfield 75, 3)) (hp : pc + 3 = n) (kk : At y G b n ls (.int (gI σ 1 i 2) :: st) σ) : At y G b pc ls (rf G 1 i :: st) σ := at_get n ho rfl rfl rfl rfl inW1 (k := 2) (by decide) fl_X4_75 rfl hd hp kk
/-- StampTales$Findings.tale -/
theorem gf_X4_78 (n : Nat) {i : Bool} (ho : yO y = RX4) (hd : decode (yC y) pc = .ok (.getfield 78, 3)) (hp : pc + 3 = n) (kk : At y G b n ls (rf G 23 i :: st) σ) : At y G b pc ls (rf G 1 i :: st) σ := at_get n ho rfl rfl rfl rfl inW1 (k := 7) (by decide) fl_X4_78 rfl hd hp kk
/-- StampTales$Findings.toDoubt -/
theorem gf_X4_81 (n : Nat) {i : Bool} (ho : yO y = RX4) (hd : decode (yC y) pc = .ok (.getfield 81, 3)) (hp : pc + 3 = n) (kk : At y G b n ls (.int (gI σ 1 i 3) :: st) σ) : At y G b pc ls (rf G 1 i :: st) σ := at_get n ho rfl rfl rfl rfl inW1 (k := 3) (by decide) fl_X4_81 rfl hd hp kk
/-- StampTales$Findings.away -/
theorem gf_X4_84 (n : Nat) {i : Bool} (ho : yO y = RX4) (hd : decode (yC y) pc = .ok (.getfield 84, 3)) (hp : pc + 3 = n) (kk : At y G b n ls (.int (gI σ 1 i 4) :: st) σ) : At y G b pc ls (rf G 1 i :: st) σ := at_get n ho rfl rfl rfl rfl inW1 (k := 4) (by decide) fl_X4_84 rfl hd hp kk
/-- StampTales$Man.size -/
theorem gf_X4_87 (n : Nat) {i : Bool} (ho : yO y = RX4) (hd : decode (yC y) pc = .ok (.getfield 87, 3)) (hp : pc + 3 = n) (kk : At y G b n ls (.int (gI σ 2 i 3) :: st) σ) : At y G b pc ls (rf G 2 i :: st) σ := at_get n ho rfl rfl rfl rfl inW2 (k := 3) (by decide) fl_X4_87 rfl hd hp kk
/-- StampTales$Man.doubted -/
theorem gf_X4_90 (n : Nat) {i : Bool} (ho : yO y = RX4) (hd : decode (yC y) pc = .ok (.getfield 90, 3)) (hp : pc + 3 = n) (kk : At y G b n ls (rf G 29 i :: st) σ) : At y G b pc ls (rf G 2 i :: st) σ := at_get n ho rfl rfl rfl rfl inW2 (k := 10) (by decide) fl_X4_90 rfl hd hp kk
/-- StampTales$Man.changed -/
theorem gf_X4_94 (n : Nat) {i : Bool} (ho : yO y = RX4) (hd : decode (yC y) pc = .ok (.getfield 94, 3)) (hp : pc + 3 = n) (kk : At y G b n ls (.int (gI σ 2 i 4) :: st) σ) : At y G b pc ls (rf G 2 i :: st) σ := at_get n ho rfl rfl rfl rfl inW2 (k := 4) (by decide) fl_X4_94 rfl hd hp kk
/-- StampTales$Findings.known -/
theorem gf_X4_98 (n : Nat) {i : Bool} (ho : yO y = RX4) (hd : decode (yC y) pc = .ok (.getfield 98, 3)) (hp : pc + 3 = n) (kk : At y G b n ls (.int (gI σ 1 i 0) :: st) σ) : At y G b pc ls (rf G 1 i :: st) σ := at_get n ho rfl rfl rfl rfl inW1 (k := 0) (by decide) fl_X4_98 rfl hd hp kk
/-- StampTales$Man.end -/
theorem gf_X4_114 (n : Nat) {i : Bool} (ho : yO y = RX4) (hd : decode (yC y) pc = .ok (.getfield 114, 3)) (hp : pc + 3 = n) (kk : At y G b n ls (.int (gI σ 2 i 2) :: st) σ) : At y G b pc ls (rf G 2 i :: st) σ := at_get n ho rfl rfl rfl rfl inW2 (k := 2) (by decide) fl_X4_114 rfl hd hp kk
/-- StampTales$Search.cellCount -/
theorem gf_X4_121 (n : Nat) {i : Bool} (ho : yO y = RX4) (hd : decode (yC y) pc = .ok (.getfield 121, 3)) (hp : pc + 3 = n) (kk : At y G b n ls (.int (gI σ 4 i 8) :: st) σ) : At y G b pc ls (rf G 4 i :: st) σ := at_get n ho rfl rfl rfl rfl inW4 (k := 8) (by decide) fl_X4_121 rfl hd hp kk
/-- StampTales$Atlas.links -/
theorem gf_X4_138 (n : Nat) {i : Bool} (ho : yO y = RX4) (hd : decode (yC y) pc = .ok (.getfield 138, 3)) (hp : pc + 3 = n) (kk : At y G b n ls (.int (gI σ 0 i 2) :: st) σ) : At y G b pc ls (rf G 0 i :: st) σ := at_get n ho rfl rfl rfl rfl inW0 (k := 2) (by decide) fl_X4_138 rfl hd hp kk
/-- StampTales$Atlas.lasts -/
theorem gf_X4_150 (n : Nat) {i : Bool} (ho : yO y = RX4) (hd : decode (yC y) pc = .ok (.getfield 150, 3)) (hp : pc + 3 = n) (kk : At y G b n ls (rf G 16 i :: st) σ) : At y G b pc ls (rf G 0 i :: st) σ := at_get n ho rfl rfl rfl rfl inW0 (k := 9) (by decide) fl_X4_150 rfl hd hp kk
/-- StampTales$Search.stamps -/
theorem gf_X4_164 (n : Nat) {i : Bool} (ho : yO y = RX4) (hd : decode (yC y) pc = .ok (.getfield 164, 3)) (hp : pc + 3 = n) (kk : At y G b n ls (.int (gI σ 4 i 9) :: st) σ) : At y G b pc ls (rf G 4 i :: st) σ := at_get n ho rfl rfl rfl rfl inW4 (k := 9) (by decide) fl_X4_164 rfl hd hp kk
/-- StampTales$Search.looks -/
theorem gf_X4_167 (n : Nat) {i : Bool} (ho : yO y = RX4) (hd : decode (yC y) pc = .ok (.getfield 167, 3)) (hp : pc + 3 = n) (kk : At y G b n ls (.int (gI σ 4 i 10) :: st) σ) : At y G b pc ls (rf G 4 i :: st) σ := at_get n ho rfl rfl rfl rfl inW4 (k := 10) (by decide) fl_X4_167 rfl hd hp kk
/-- StampTales$Search.papers -/
theorem gf_X4_170 (n : Nat) {i : Bool} (ho : yO y = RX4) (hd : decode (yC y) pc = .ok (.getfield 170, 3)) (hp : pc + 3 = n) (kk : At y G b n ls (.int (gI σ 4 i 11) :: st) σ) : At y G b pc ls (rf G 4 i :: st) σ := at_get n ho rfl rfl rfl rfl inW4 (k := 11) (by decide) fl_X4_170 rfl hd hp kk
/-- StampTales$Man.from -/
theorem gf_X4_176 (n : Nat) {i : Bool} (ho : yO y = RX4) (hd : decode (yC y) pc = .ok (.getfield 176, 3)) (hp : pc + 3 = n) (kk : At y G b n ls (rf G 26 i :: st) σ) : At y G b pc ls (rf G 2 i :: st) σ := at_get n ho rfl rfl rfl rfl inW2 (k := 7) (by decide) fl_X4_176 rfl hd hp kk
/-- StampTales$Atlas.towns -/
theorem gf_X4_188 (n : Nat) {i : Bool} (ho : yO y = RX4) (hd : decode (yC y) pc = .ok (.getfield 188, 3)) (hp : pc + 3 = n) (kk : At y G b n ls (.int (gI σ 0 i 1) :: st) σ) : At y G b pc ls (rf G 0 i :: st) σ := at_get n ho rfl rfl rfl rfl inW0 (k := 1) (by decide) fl_X4_188 rfl hd hp kk
/-- StampTales$Search.aim -/
theorem gf_X4_194 (n : Nat) {i : Bool} (ho : yO y = RX4) (hd : decode (yC y) pc = .ok (.getfield 194, 3)) (hp : pc + 3 = n) (kk : At y G b n ls (.int (gI σ 4 i 12) :: st) σ) : At y G b pc ls (rf G 4 i :: st) σ := at_get n ho rfl rfl rfl rfl inW4 (k := 12) (by decide) fl_X4_194 rfl hd hp kk
/-- StampTales$Atlas.outLand -/
theorem gf_X4_218 (n : Nat) {i : Bool} (ho : yO y = RX4) (hd : decode (yC y) pc = .ok (.getfield 218, 3)) (hp : pc + 3 = n) (kk : At y G b n ls (rf G 19 i :: st) σ) : At y G b pc ls (rf G 0 i :: st) σ := at_get n ho rfl rfl rfl rfl inW0 (k := 12) (by decide) fl_X4_218 rfl hd hp kk
/-- StampTales$Atlas.inLand -/
theorem gf_X4_221 (n : Nat) {i : Bool} (ho : yO y = RX4) (hd : decode (yC y) pc = .ok (.getfield 221, 3)) (hp : pc + 3 = n) (kk : At y G b n ls (rf G 20 i :: st) σ) : At y G b pc ls (rf G 0 i :: st) σ := at_get n ho rfl rfl rfl rfl inW0 (k := 13) (by decide) fl_X4_221 rfl hd hp kk
/-- StampTales$Atlas.price -/
theorem gf_X4_227 (n : Nat) {i : Bool} (ho : yO y = RX4) (hd : decode (yC y) pc = .ok (.getfield 227, 3)) (hp : pc + 3 = n) (kk : At y G b n ls (rf G 17 i :: st) σ) : At y G b pc ls (rf G 0 i :: st) σ := at_get n ho rfl rfl rfl rfl inW0 (k := 10) (by decide) fl_X4_227 rfl hd hp kk
/-- StampTales$Atlas.from -/
theorem gf_X4_239 (n : Nat) {i : Bool} (ho : yO y = RX4) (hd : decode (yC y) pc = .ok (.getfield 239, 3)) (hp : pc + 3 = n) (kk : At y G b n ls (rf G 13 i :: st) σ) : At y G b pc ls (rf G 0 i :: st) σ := at_get n ho rfl rfl rfl rfl inW0 (k := 6) (by decide) fl_X4_239 rfl hd hp kk
/-- StampTales$Man.sleep -/
theorem gf_X4_240 (n : Nat) {i : Bool} (ho : yO y = RX4) (hd : decode (yC y) pc = .ok (.getfield 240, 3)) (hp : pc + 3 = n) (kk : At y G b n ls (.int (gI σ 2 i 1) :: st) σ) : At y G b pc ls (rf G 2 i :: st) σ := at_get n ho rfl rfl rfl rfl inW2 (k := 1) (by decide) fl_X4_240 rfl hd hp kk
/-- StampTales$Atlas.to -/
theorem gf_X4_256 (n : Nat) {i : Bool} (ho : yO y = RX4) (hd : decode (yC y) pc = .ok (.getfield 256, 3)) (hp : pc + 3 = n) (kk : At y G b n ls (rf G 14 i :: st) σ) : At y G b pc ls (rf G 0 i :: st) σ := at_get n ho rfl rfl rfl rfl inW0 (k := 7) (by decide) fl_X4_256 rfl hd hp kk
/-- StampTales$Man.place -/
theorem gf_X4_259 (n : Nat) {i : Bool} (ho : yO y = RX4) (hd : decode (yC y) pc = .ok (.getfield 259, 3)) (hp : pc + 3 = n) (kk : At y G b n ls (rf G 25 i :: st) σ) : At y G b pc ls (rf G 2 i :: st) σ := at_get n ho rfl rfl rfl rfl inW2 (k := 6) (by decide) fl_X4_259 rfl hd hp kk
/-- StampTales$Man.to -/
theorem gf_X4_262 (n : Nat) {i : Bool} (ho : yO y = RX4) (hd : decode (yC y) pc = .ok (.getfield 262, 3)) (hp : pc + 3 = n) (kk : At y G b n ls (rf G 27 i :: st) σ) : At y G b pc ls (rf G 2 i :: st) σ := at_get n ho rfl rfl rfl rfl inW2 (k := 8) (by decide) fl_X4_262 rfl hd hp kk
/-- StampTales$Man.home -/
theorem gf_X4_263 (n : Nat) {i : Bool} (ho : yO y = RX4) (hd : decode (yC y) pc = .ok (.getfield 263, 3)) (hp : pc + 3 = n) (kk : At y G b n ls (.int (gI σ 2 i 0) :: st) σ) : At y G b pc ls (rf G 2 i :: st) σ := at_get n ho rfl rfl rfl rfl inW2 (k := 0) (by decide) fl_X4_263 rfl hd hp kk
/-- StampTales$Story.links -/
theorem gf_X5_11 (n : Nat) (ho : yO y = RX5) (hd : decode (yC y) pc = .ok (.getfield 11, 3)) (hp : pc + 3 = n) (kk : At y G b n ls (rf G 37 false :: st) σ) : At y G b pc ls (rf G 5 false :: st) σ := at_get n ho rfl rfl rfl rfl inW5 (k := 2) (by decide) fl_X5_11 rfl hd hp kk
/-- StampTales$Story.hours -/
theorem gf_X5_15 (n : Nat) (ho : yO y = RX5) (hd : decode (yC y) pc = .ok (.getfield 15, 3)) (hp : pc + 3 = n) (kk : At y G b n ls (rf G 38 false :: st) σ) : At y G b pc ls (rf G 5 false :: st) σ := at_get n ho rfl rfl rfl rfl inW5 (k := 3) (by decide) fl_X5_15 rfl hd hp kk
/-- StampTales$Story.where -/
theorem gf_X5_18 (n : Nat) (ho : yO y = RX5) (hd : decode (yC y) pc = .ok (.getfield 18, 3)) (hp : pc + 3 = n) (kk : At y G b n ls (rf G 39 false :: st) σ) : At y G b pc ls (rf G 5 false :: st) σ := at_get n ho rfl rfl rfl rfl inW5 (k := 4) (by decide) fl_X5_18 rfl hd hp kk
/-- StampTales$Story.stays -/
theorem gf_X5_21 (n : Nat) (ho : yO y = RX5) (hd : decode (yC y) pc = .ok (.getfield 21, 3)) (hp : pc + 3 = n) (kk : At y G b n ls (rf G 40 false :: st) σ) : At y G b pc ls (rf G 5 false :: st) σ := at_get n ho rfl rfl rfl rfl inW5 (k := 5) (by decide) fl_X5_21 rfl hd hp kk
/-- StampTales$Story.atlas -/
theorem gf_X5_25 (n : Nat) (ho : yO y = RX5) (hd : decode (yC y) pc = .ok (.getfield 25, 3)) (hp : pc + 3 = n) (kk : At y G b n ls (rf G 0 false :: st) σ) : At y G b pc ls (rf G 5 false :: st) σ := at_get n ho rfl rfl rfl rfl inW5 (k := 1) (by decide) fl_X5_25 rfl hd hp kk
/-- StampTales$Story.size -/
theorem gf_X5_29 (n : Nat) (ho : yO y = RX5) (hd : decode (yC y) pc = .ok (.getfield 29, 3)) (hp : pc + 3 = n) (kk : At y G b n ls (.int (gI σ 5 false 0) :: st) σ) : At y G b pc ls (rf G 5 false :: st) σ := at_get n ho rfl rfl rfl rfl inW5 (k := 0) (by decide) fl_X5_29 rfl hd hp kk
/-- StampTales$Man.home -/
theorem gf_X5_49 (n : Nat) {i : Bool} (ho : yO y = RX5) (hd : decode (yC y) pc = .ok (.getfield 49, 3)) (hp : pc + 3 = n) (kk : At y G b n ls (.int (gI σ 2 i 0) :: st) σ) : At y G b pc ls (rf G 2 i :: st) σ := at_get n ho rfl rfl rfl rfl inW2 (k := 0) (by decide) fl_X5_49 rfl hd hp kk
/-- StampTales$Atlas.lasts -/
theorem gf_X5_54 (n : Nat) {i : Bool} (ho : yO y = RX5) (hd : decode (yC y) pc = .ok (.getfield 54, 3)) (hp : pc + 3 = n) (kk : At y G b n ls (rf G 16 i :: st) σ) : At y G b pc ls (rf G 0 i :: st) σ := at_get n ho rfl rfl rfl rfl inW0 (k := 9) (by decide) fl_X5_54 rfl hd hp kk
/-- StampTales$Atlas.from -/
theorem gf_X5_59 (n : Nat) {i : Bool} (ho : yO y = RX5) (hd : decode (yC y) pc = .ok (.getfield 59, 3)) (hp : pc + 3 = n) (kk : At y G b n ls (rf G 13 i :: st) σ) : At y G b pc ls (rf G 0 i :: st) σ := at_get n ho rfl rfl rfl rfl inW0 (k := 6) (by decide) fl_X5_59 rfl hd hp kk
/-- StampTales$Man.end -/
theorem gf_X5_66 (n : Nat) {i : Bool} (ho : yO y = RX5) (hd : decode (yC y) pc = .ok (.getfield 66, 3)) (hp : pc + 3 = n) (kk : At y G b n ls (.int (gI σ 2 i 2) :: st) σ) : At y G b pc ls (rf G 2 i :: st) σ := at_get n ho rfl rfl rfl rfl inW2 (k := 2) (by decide) fl_X5_66 rfl hd hp kk
/-- StampTales$Atlas.to -/
theorem gf_X5_73 (n : Nat) {i : Bool} (ho : yO y = RX5) (hd : decode (yC y) pc = .ok (.getfield 73, 3)) (hp : pc + 3 = n) (kk : At y G b n ls (rf G 14 i :: st) σ) : At y G b pc ls (rf G 0 i :: st) σ := at_get n ho rfl rfl rfl rfl inW0 (k := 7) (by decide) fl_X5_73 rfl hd hp kk
/-- StampTales$Man.sleep -/
theorem gf_X5_76 (n : Nat) {i : Bool} (ho : yO y = RX5) (hd : decode (yC y) pc = .ok (.getfield 76, 3)) (hp : pc + 3 = n) (kk : At y G b n ls (.int (gI σ 2 i 1) :: st) σ) : At y G b pc ls (rf G 2 i :: st) σ := at_get n ho rfl rfl rfl rfl inW2 (k := 1) (by decide) fl_X5_76 rfl hd hp kk
/-- StampTales$Atlas.outLand -/
theorem gf_X5_83 (n : Nat) {i : Bool} (ho : yO y = RX5) (hd : decode (yC y) pc = .ok (.getfield 83, 3)) (hp : pc + 3 = n) (kk : At y G b n ls (rf G 19 i :: st) σ) : At y G b pc ls (rf G 0 i :: st) σ := at_get n ho rfl rfl rfl rfl inW0 (k := 12) (by decide) fl_X5_83 rfl hd hp kk
/-- StampTales$Atlas.inLand -/
theorem gf_X5_94 (n : Nat) {i : Bool} (ho : yO y = RX5) (hd : decode (yC y) pc = .ok (.getfield 94, 3)) (hp : pc + 3 = n) (kk : At y G b n ls (rf G 20 i :: st) σ) : At y G b pc ls (rf G 0 i :: st) σ := at_get n ho rfl rfl rfl rfl inW0 (k := 13) (by decide) fl_X5_94 rfl hd hp kk
/-- StampTales$Man.size -/
theorem gf_X5_97 (n : Nat) {i : Bool} (ho : yO y = RX5) (hd : decode (yC y) pc = .ok (.getfield 97, 3)) (hp : pc + 3 = n) (kk : At y G b n ls (.int (gI σ 2 i 3) :: st) σ) : At y G b pc ls (rf G 2 i :: st) σ := at_get n ho rfl rfl rfl rfl inW2 (k := 3) (by decide) fl_X5_97 rfl hd hp kk
/-- StampTales$Man.from -/
theorem gf_X5_101 (n : Nat) {i : Bool} (ho : yO y = RX5) (hd : decode (yC y) pc = .ok (.getfield 101, 3)) (hp : pc + 3 = n) (kk : At y G b n ls (rf G 26 i :: st) σ) : At y G b pc ls (rf G 2 i :: st) σ := at_get n ho rfl rfl rfl rfl inW2 (k := 7) (by decide) fl_X5_101 rfl hd hp kk
/-- StampTales$Man.place -/
theorem gf_X5_102 (n : Nat) {i : Bool} (ho : yO y = RX5) (hd : decode (yC y) pc = .ok (.getfield 102, 3)) (hp : pc + 3 = n) (kk : At y G b n ls (rf G 25 i :: st) σ) : At y G b pc ls (rf G 2 i :: st) σ := at_get n ho rfl rfl rfl rfl inW2 (k := 6) (by decide) fl_X5_102 rfl hd hp kk
/-- StampTales$Man.to -/
theorem gf_X5_109 (n : Nat) {i : Bool} (ho : yO y = RX5) (hd : decode (yC y) pc = .ok (.getfield 109, 3)) (hp : pc + 3 = n) (kk : At y G b n ls (rf G 27 i :: st) σ) : At y G b pc ls (rf G 2 i :: st) σ := at_get n ho rfl rfl rfl rfl inW2 (k := 8) (by decide) fl_X5_109 rfl hd hp kk
/-- StampTales.text -/
theorem gf_X6_9 (n : Nat) (ho : yO y = RX6) (hd : decode (yC y) pc = .ok (.getfield 9, 3)) (hp : pc + 3 = n) (kk : At y G b n ls (rf G 41 false :: st) σ) : At y G b pc ls (rf G 6 false :: st) σ := at_get n ho rfl rfl rfl rfl inW6 (k := 0) (by decide) fl_X6_9 rfl hd hp kk
/-- StampTales.atlas -/
theorem gf_X6_16 (n : Nat) (ho : yO y = RX6) (hd : decode (yC y) pc = .ok (.getfield 16, 3)) (hp : pc + 3 = n) (kk : At y G b n ls (rf G 0 false :: st) σ) : At y G b pc ls (rf G 6 false :: st) σ := at_get n ho rfl rfl rfl rfl inW6 (k := 2) (by decide) fl_X6_16 rfl hd hp kk
/-- StampTales.draft -/
theorem gf_X6_20 (n : Nat) (ho : yO y = RX6) (hd : decode (yC y) pc = .ok (.getfield 20, 3)) (hp : pc + 3 = n) (kk : At y G b n ls (rf G 0 true :: st) σ) : At y G b pc ls (rf G 6 false :: st) σ := at_get n ho rfl rfl rfl rfl inW6 (k := 3) (by decide) fl_X6_20 rfl hd hp kk
/-- StampTales.reader -/
theorem gf_X6_28 (n : Nat) (ho : yO y = RX6) (hd : decode (yC y) pc = .ok (.getfield 28, 3)) (hp : pc + 3 = n) (kk : At y G b n ls (rf G 3 false :: st) σ) : At y G b pc ls (rf G 6 false :: st) σ := at_get n ho rfl rfl rfl rfl inW6 (k := 4) (by decide) fl_X6_28 rfl hd hp kk
/-- StampTales.first -/
theorem gf_X6_41 (n : Nat) (ho : yO y = RX6) (hd : decode (yC y) pc = .ok (.getfield 41, 3)) (hp : pc + 3 = n) (kk : At y G b n ls (rf G 4 false :: st) σ) : At y G b pc ls (rf G 6 false :: st) σ := at_get n ho rfl rfl rfl rfl inW6 (k := 5) (by decide) fl_X6_41 rfl hd hp kk
/-- StampTales.second -/
theorem gf_X6_45 (n : Nat) (ho : yO y = RX6) (hd : decode (yC y) pc = .ok (.getfield 45, 3)) (hp : pc + 3 = n) (kk : At y G b n ls (rf G 4 true :: st) σ) : At y G b pc ls (rf G 6 false :: st) σ := at_get n ho rfl rfl rfl rfl inW6 (k := 6) (by decide) fl_X6_45 rfl hd hp kk
/-- StampTales.story -/
theorem gf_X6_53 (n : Nat) (ho : yO y = RX6) (hd : decode (yC y) pc = .ok (.getfield 53, 3)) (hp : pc + 3 = n) (kk : At y G b n ls (rf G 5 false :: st) σ) : At y G b pc ls (rf G 6 false :: st) σ := at_get n ho rfl rfl rfl rfl inW6 (k := 7) (by decide) fl_X6_53 rfl hd hp kk
/-- StampTales.length -/
theorem gf_X6_57 (n : Nat) (ho : yO y = RX6) (hd : decode (yC y) pc = .ok (.getfield 57, 3)) (hp : pc + 3 = n) (kk : At y G b n ls (.int (gI σ 6 false 1) :: st) σ) : At y G b pc ls (rf G 6 false :: st) σ := at_get n ho rfl rfl rfl rfl inW6 (k := 1) (by decide) fl_X6_57 rfl hd hp kk
/-- StampTales$Search.man -/
theorem gf_X6_72 (n : Nat) {i : Bool} (ho : yO y = RX6) (hd : decode (yC y) pc = .ok (.getfield 72, 3)) (hp : pc + 3 = n) (kk : At y G b n ls (rf G 2 i :: st) σ) : At y G b pc ls (rf G 4 i :: st) σ := at_get n ho rfl rfl rfl rfl inW4 (k := 0) (by decide) fl_X6_72 rfl hd hp kk
/-- StampTales$Story.size -/
theorem gf_X6_79 (n : Nat) (ho : yO y = RX6) (hd : decode (yC y) pc = .ok (.getfield 79, 3)) (hp : pc + 3 = n) (kk : At y G b n ls (.int (gI σ 5 false 0) :: st) σ) : At y G b pc ls (rf G 5 false :: st) σ := at_get n ho rfl rfl rfl rfl inW5 (k := 0) (by decide) fl_X6_79 rfl hd hp kk
/-- StampTales$Atlas.towns -/
theorem gf_X6_82 (n : Nat) {i : Bool} (ho : yO y = RX6) (hd : decode (yC y) pc = .ok (.getfield 82, 3)) (hp : pc + 3 = n) (kk : At y G b n ls (.int (gI σ 0 i 1) :: st) σ) : At y G b pc ls (rf G 0 i :: st) σ := at_get n ho rfl rfl rfl rfl inW0 (k := 1) (by decide) fl_X6_82 rfl hd hp kk
/-- StampTales$Man.out -/
theorem gf_X6_107 (n : Nat) {i : Bool} (ho : yO y = RX6) (hd : decode (yC y) pc = .ok (.getfield 107, 3)) (hp : pc + 3 = n) (kk : At y G b n ls (rf G 28 i :: st) σ) : At y G b pc ls (rf G 2 i :: st) σ := at_get n ho rfl rfl rfl rfl inW2 (k := 9) (by decide) fl_X6_107 rfl hd hp kk
/-- StampTales$Atlas.from -/
theorem gf_X6_125 (n : Nat) {i : Bool} (ho : yO y = RX6) (hd : decode (yC y) pc = .ok (.getfield 125, 3)) (hp : pc + 3 = n) (kk : At y G b n ls (rf G 13 i :: st) σ) : At y G b pc ls (rf G 0 i :: st) σ := at_get n ho rfl rfl rfl rfl inW0 (k := 6) (by decide) fl_X6_125 rfl hd hp kk
/-- StampTales$Atlas.to -/
theorem gf_X6_129 (n : Nat) {i : Bool} (ho : yO y = RX6) (hd : decode (yC y) pc = .ok (.getfield 129, 3)) (hp : pc + 3 = n) (kk : At y G b n ls (rf G 14 i :: st) σ) : At y G b pc ls (rf G 0 i :: st) σ := at_get n ho rfl rfl rfl rfl inW0 (k := 7) (by decide) fl_X6_129 rfl hd hp kk
/-- StampTales$Atlas.hour -/
theorem gf_X6_132 (n : Nat) {i : Bool} (ho : yO y = RX6) (hd : decode (yC y) pc = .ok (.getfield 132, 3)) (hp : pc + 3 = n) (kk : At y G b n ls (rf G 15 i :: st) σ) : At y G b pc ls (rf G 0 i :: st) σ := at_get n ho rfl rfl rfl rfl inW0 (k := 8) (by decide) fl_X6_132 rfl hd hp kk
/-- StampTales$Atlas.lasts -/
theorem gf_X6_135 (n : Nat) {i : Bool} (ho : yO y = RX6) (hd : decode (yC y) pc = .ok (.getfield 135, 3)) (hp : pc + 3 = n) (kk : At y G b n ls (rf G 16 i :: st) σ) : At y G b pc ls (rf G 0 i :: st) σ := at_get n ho rfl rfl rfl rfl inW0 (k := 9) (by decide) fl_X6_135 rfl hd hp kk
/-- StampTales$Atlas.price -/
theorem gf_X6_138 (n : Nat) {i : Bool} (ho : yO y = RX6) (hd : decode (yC y) pc = .ok (.getfield 138, 3)) (hp : pc + 3 = n) (kk : At y G b n ls (rf G 17 i :: st) σ) : At y G b pc ls (rf G 0 i :: st) σ := at_get n ho rfl rfl rfl rfl inW0 (k := 10) (by decide) fl_X6_138 rfl hd hp kk
/-- StampTales$Atlas.daily -/
theorem gf_X6_141 (n : Nat) {i : Bool} (ho : yO y = RX6) (hd : decode (yC y) pc = .ok (.getfield 141, 3)) (hp : pc + 3 = n) (kk : At y G b n ls (rf G 18 i :: st) σ) : At y G b pc ls (rf G 0 i :: st) σ := at_get n ho rfl rfl rfl rfl inW0 (k := 11) (by decide) fl_X6_141 rfl hd hp kk
/-- StampTales$Atlas.landOf -/
theorem gf_X6_144 (n : Nat) {i : Bool} (ho : yO y = RX6) (hd : decode (yC y) pc = .ok (.getfield 144, 3)) (hp : pc + 3 = n) (kk : At y G b n ls (rf G 11 i :: st) σ) : At y G b pc ls (rf G 0 i :: st) σ := at_get n ho rfl rfl rfl rfl inW0 (k := 4) (by decide) fl_X6_144 rfl hd hp kk
/-- StampTales$Atlas.clock -/
theorem gf_X6_147 (n : Nat) {i : Bool} (ho : yO y = RX6) (hd : decode (yC y) pc = .ok (.getfield 147, 3)) (hp : pc + 3 = n) (kk : At y G b n ls (rf G 12 i :: st) σ) : At y G b pc ls (rf G 0 i :: st) σ := at_get n ho rfl rfl rfl rfl inW0 (k := 5) (by decide) fl_X6_147 rfl hd hp kk
/-- StampTales$Man.kind -/
theorem gf_X6_153 (n : Nat) {i : Bool} (ho : yO y = RX6) (hd : decode (yC y) pc = .ok (.getfield 153, 3)) (hp : pc + 3 = n) (kk : At y G b n ls (rf G 24 i :: st) σ) : At y G b pc ls (rf G 2 i :: st) σ := at_get n ho rfl rfl rfl rfl inW2 (k := 5) (by decide) fl_X6_153 rfl hd hp kk
/-- StampTales$Man.place -/
theorem gf_X6_156 (n : Nat) {i : Bool} (ho : yO y = RX6) (hd : decode (yC y) pc = .ok (.getfield 156, 3)) (hp : pc + 3 = n) (kk : At y G b n ls (rf G 25 i :: st) σ) : At y G b pc ls (rf G 2 i :: st) σ := at_get n ho rfl rfl rfl rfl inW2 (k := 6) (by decide) fl_X6_156 rfl hd hp kk
/-- StampTales$Man.from -/
theorem gf_X6_159 (n : Nat) {i : Bool} (ho : yO y = RX6) (hd : decode (yC y) pc = .ok (.getfield 159, 3)) (hp : pc + 3 = n) (kk : At y G b n ls (rf G 26 i :: st) σ) : At y G b pc ls (rf G 2 i :: st) σ := at_get n ho rfl rfl rfl rfl inW2 (k := 7) (by decide) fl_X6_159 rfl hd hp kk
/-- StampTales$Man.to -/
theorem gf_X6_160 (n : Nat) {i : Bool} (ho : yO y = RX6) (hd : decode (yC y) pc = .ok (.getfield 160, 3)) (hp : pc + 3 = n) (kk : At y G b n ls (rf G 27 i :: st) σ) : At y G b pc ls (rf G 2 i :: st) σ := at_get n ho rfl rfl rfl rfl inW2 (k := 8) (by decide) fl_X6_160 rfl hd hp kk
/-- StampTales$Man.doubted -/
theorem gf_X6_161 (n : Nat) {i : Bool} (ho : yO y = RX6) (hd : decode (yC y) pc = .ok (.getfield 161, 3)) (hp : pc + 3 = n) (kk : At y G b n ls (rf G 29 i :: st) σ) : At y G b pc ls (rf G 2 i :: st) σ := at_get n ho rfl rfl rfl rfl inW2 (k := 10) (by decide) fl_X6_161 rfl hd hp kk
/-- StampTales$Atlas.lands -/
theorem gf_X6_201 (n : Nat) {i : Bool} (ho : yO y = RX6) (hd : decode (yC y) pc = .ok (.getfield 201, 3)) (hp : pc + 3 = n) (kk : At y G b n ls (.int (gI σ 0 i 0) :: st) σ) : At y G b pc ls (rf G 0 i :: st) σ := at_get n ho rfl rfl rfl rfl inW0 (k := 0) (by decide) fl_X6_201 rfl hd hp kk
/-- StampTales$Atlas.links -/
theorem gf_X6_204 (n : Nat) {i : Bool} (ho : yO y = RX6) (hd : decode (yC y) pc = .ok (.getfield 204, 3)) (hp : pc + 3 = n) (kk : At y G b n ls (.int (gI σ 0 i 2) :: st) σ) : At y G b pc ls (rf G 0 i :: st) σ := at_get n ho rfl rfl rfl rfl inW0 (k := 2) (by decide) fl_X6_204 rfl hd hp kk
/-- StampTales$Man.size -/
theorem gf_X6_207 (n : Nat) {i : Bool} (ho : yO y = RX6) (hd : decode (yC y) pc = .ok (.getfield 207, 3)) (hp : pc + 3 = n) (kk : At y G b n ls (.int (gI σ 2 i 3) :: st) σ) : At y G b pc ls (rf G 2 i :: st) σ := at_get n ho rfl rfl rfl rfl inW2 (k := 3) (by decide) fl_X6_207 rfl hd hp kk
/-- StampTales$Man.end -/
theorem gf_X6_208 (n : Nat) {i : Bool} (ho : yO y = RX6) (hd : decode (yC y) pc = .ok (.getfield 208, 3)) (hp : pc + 3 = n) (kk : At y G b n ls (.int (gI σ 2 i 2) :: st) σ) : At y G b pc ls (rf G 2 i :: st) σ := at_get n ho rfl rfl rfl rfl inW2 (k := 2) (by decide) fl_X6_208 rfl hd hp kk
/-- StampTalesModel.text -/
theorem gf_X7_9 (n : Nat) (ho : yO y = RX7) (hd : decode (yC y) pc = .ok (.getfield 9, 3)) (hp : pc + 3 = n) (kk : At y G b n ls (rf G 42 false :: st) σ) : At y G b pc ls (rf G 7 false :: st) σ := at_get n ho rfl rfl rfl rfl inW7 (k := 0) (by decide) fl_X7_9 rfl hd hp kk
/-- StampTalesModel.newLandName -/
theorem gf_X7_13 (n : Nat) (ho : yO y = RX7) (hd : decode (yC y) pc = .ok (.getfield 13, 3)) (hp : pc + 3 = n) (kk : At y G b n ls (rf G 43 false :: st) σ) : At y G b pc ls (rf G 7 false :: st) σ := at_get n ho rfl rfl rfl rfl inW7 (k := 7) (by decide) fl_X7_13 rfl hd hp kk
/-- StampTalesModel.newHow -/
theorem gf_X7_17 (n : Nat) (ho : yO y = RX7) (hd : decode (yC y) pc = .ok (.getfield 17, 3)) (hp : pc + 3 = n) (kk : At y G b n ls (rf G 44 false :: st) σ) : At y G b pc ls (rf G 7 false :: st) σ := at_get n ho rfl rfl rfl rfl inW7 (k := 8) (by decide) fl_X7_17 rfl hd hp kk
/-- StampTalesModel.newTownName -/
theorem gf_X7_21 (n : Nat) (ho : yO y = RX7) (hd : decode (yC y) pc = .ok (.getfield 21, 3)) (hp : pc + 3 = n) (kk : At y G b n ls (rf G 45 false :: st) σ) : At y G b pc ls (rf G 7 false :: st) σ := at_get n ho rfl rfl rfl rfl inW7 (k := 10) (by decide) fl_X7_21 rfl hd hp kk
/-- StampTalesModel.newLandOf -/
theorem gf_X7_24 (n : Nat) (ho : yO y = RX7) (hd : decode (yC y) pc = .ok (.getfield 24, 3)) (hp : pc + 3 = n) (kk : At y G b n ls (rf G 46 false :: st) σ) : At y G b pc ls (rf G 7 false :: st) σ := at_get n ho rfl rfl rfl rfl inW7 (k := 11) (by decide) fl_X7_24 rfl hd hp kk
/-- StampTalesModel.newClock -/
theorem gf_X7_27 (n : Nat) (ho : yO y = RX7) (hd : decode (yC y) pc = .ok (.getfield 27, 3)) (hp : pc + 3 = n) (kk : At y G b n ls (rf G 47 false :: st) σ) : At y G b pc ls (rf G 7 false :: st) σ := at_get n ho rfl rfl rfl rfl inW7 (k := 12) (by decide) fl_X7_27 rfl hd hp kk
/-- StampTalesModel.newLink -/
theorem gf_X7_30 (n : Nat) (ho : yO y = RX7) (hd : decode (yC y) pc = .ok (.getfield 30, 3)) (hp : pc + 3 = n) (kk : At y G b n ls (rf G 48 false :: st) σ) : At y G b pc ls (rf G 7 false :: st) σ := at_get n ho rfl rfl rfl rfl inW7 (k := 14) (by decide) fl_X7_30 rfl hd hp kk
/-- StampTalesModel.how -/
theorem gf_X7_33 (n : Nat) (ho : yO y = RX7) (hd : decode (yC y) pc = .ok (.getfield 33, 3)) (hp : pc + 3 = n) (kk : At y G b n ls (rf G 49 false :: st) σ) : At y G b pc ls (rf G 7 false :: st) σ := at_get n ho rfl rfl rfl rfl inW7 (k := 16) (by decide) fl_X7_33 rfl hd hp kk
/-- StampTalesModel.landOf -/
theorem gf_X7_36 (n : Nat) (ho : yO y = RX7) (hd : decode (yC y) pc = .ok (.getfield 36, 3)) (hp : pc + 3 = n) (kk : At y G b n ls (rf G 50 false :: st) σ) : At y G b pc ls (rf G 7 false :: st) σ := at_get n ho rfl rfl rfl rfl inW7 (k := 18) (by decide) fl_X7_36 rfl hd hp kk
/-- StampTalesModel.clock -/
theorem gf_X7_39 (n : Nat) (ho : yO y = RX7) (hd : decode (yC y) pc = .ok (.getfield 39, 3)) (hp : pc + 3 = n) (kk : At y G b n ls (rf G 51 false :: st) σ) : At y G b pc ls (rf G 7 false :: st) σ := at_get n ho rfl rfl rfl rfl inW7 (k := 19) (by decide) fl_X7_39 rfl hd hp kk
/-- StampTalesModel.linkRow -/
theorem gf_X7_42 (n : Nat) (ho : yO y = RX7) (hd : decode (yC y) pc = .ok (.getfield 42, 3)) (hp : pc + 3 = n) (kk : At y G b n ls (rf G 52 false :: st) σ) : At y G b pc ls (rf G 7 false :: st) σ := at_get n ho rfl rfl rfl rfl inW7 (k := 21) (by decide) fl_X7_42 rfl hd hp kk
/-- StampTalesModel.home -/
theorem gf_X7_45 (n : Nat) (ho : yO y = RX7) (hd : decode (yC y) pc = .ok (.getfield 45, 3)) (hp : pc + 3 = n) (kk : At y G b n ls (rf G 53 false :: st) σ) : At y G b pc ls (rf G 7 false :: st) σ := at_get n ho rfl rfl rfl rfl inW7 (k := 22) (by decide) fl_X7_45 rfl hd hp kk
/-- StampTalesModel.sleep -/
theorem gf_X7_48 (n : Nat) (ho : yO y = RX7) (hd : decode (yC y) pc = .ok (.getfield 48, 3)) (hp : pc + 3 = n) (kk : At y G b n ls (rf G 54 false :: st) σ) : At y G b pc ls (rf G 7 false :: st) σ := at_get n ho rfl rfl rfl rfl inW7 (k := 23) (by decide) fl_X7_48 rfl hd hp kk
/-- StampTalesModel.last -/
theorem gf_X7_51 (n : Nat) (ho : yO y = RX7) (hd : decode (yC y) pc = .ok (.getfield 51, 3)) (hp : pc + 3 = n) (kk : At y G b n ls (rf G 55 false :: st) σ) : At y G b pc ls (rf G 7 false :: st) σ := at_get n ho rfl rfl rfl rfl inW7 (k := 24) (by decide) fl_X7_51 rfl hd hp kk
/-- StampTalesModel.traces -/
theorem gf_X7_54 (n : Nat) (ho : yO y = RX7) (hd : decode (yC y) pc = .ok (.getfield 54, 3)) (hp : pc + 3 = n) (kk : At y G b n ls (rf G 56 false :: st) σ) : At y G b pc ls (rf G 7 false :: st) σ := at_get n ho rfl rfl rfl rfl inW7 (k := 25) (by decide) fl_X7_54 rfl hd hp kk
/-- StampTalesModel.traceKind -/
theorem gf_X7_57 (n : Nat) (ho : yO y = RX7) (hd : decode (yC y) pc = .ok (.getfield 57, 3)) (hp : pc + 3 = n) (kk : At y G b n ls (rf G 57 false :: st) σ) : At y G b pc ls (rf G 7 false :: st) σ := at_get n ho rfl rfl rfl rfl inW7 (k := 26) (by decide) fl_X7_57 rfl hd hp kk
/-- StampTalesModel.traceOf -/
theorem gf_X7_60 (n : Nat) (ho : yO y = RX7) (hd : decode (yC y) pc = .ok (.getfield 60, 3)) (hp : pc + 3 = n) (kk : At y G b n ls (rf G 58 false :: st) σ) : At y G b pc ls (rf G 7 false :: st) σ := at_get n ho rfl rfl rfl rfl inW7 (k := 27) (by decide) fl_X7_60 rfl hd hp kk
/-- StampTalesModel.traceFrom -/
theorem gf_X7_63 (n : Nat) (ho : yO y = RX7) (hd : decode (yC y) pc = .ok (.getfield 63, 3)) (hp : pc + 3 = n) (kk : At y G b n ls (rf G 59 false :: st) σ) : At y G b pc ls (rf G 7 false :: st) σ := at_get n ho rfl rfl rfl rfl inW7 (k := 28) (by decide) fl_X7_63 rfl hd hp kk
/-- StampTalesModel.traceTo -/
theorem gf_X7_66 (n : Nat) (ho : yO y = RX7) (hd : decode (yC y) pc = .ok (.getfield 66, 3)) (hp : pc + 3 = n) (kk : At y G b n ls (rf G 60 false :: st) σ) : At y G b pc ls (rf G 7 false :: st) σ := at_get n ho rfl rfl rfl rfl inW7 (k := 29) (by decide) fl_X7_66 rfl hd hp kk
/-- StampTalesModel.traceOut -/
theorem gf_X7_69 (n : Nat) (ho : yO y = RX7) (hd : decode (yC y) pc = .ok (.getfield 69, 3)) (hp : pc + 3 = n) (kk : At y G b n ls (rf G 61 false :: st) σ) : At y G b pc ls (rf G 7 false :: st) σ := at_get n ho rfl rfl rfl rfl inW7 (k := 30) (by decide) fl_X7_69 rfl hd hp kk
/-- StampTalesModel.isDoubted -/
theorem gf_X7_72 (n : Nat) (ho : yO y = RX7) (hd : decode (yC y) pc = .ok (.getfield 72, 3)) (hp : pc + 3 = n) (kk : At y G b n ls (rf G 62 false :: st) σ) : At y G b pc ls (rf G 7 false :: st) σ := at_get n ho rfl rfl rfl rfl inW7 (k := 31) (by decide) fl_X7_72 rfl hd hp kk
/-- StampTalesModel.legLink -/
theorem gf_X7_76 (n : Nat) (ho : yO y = RX7) (hd : decode (yC y) pc = .ok (.getfield 76, 3)) (hp : pc + 3 = n) (kk : At y G b n ls (rf G 63 false :: st) σ) : At y G b pc ls (rf G 7 false :: st) σ := at_get n ho rfl rfl rfl rfl inW7 (k := 33) (by decide) fl_X7_76 rfl hd hp kk
/-- StampTalesModel.legAt -/
theorem gf_X7_79 (n : Nat) (ho : yO y = RX7) (hd : decode (yC y) pc = .ok (.getfield 79, 3)) (hp : pc + 3 = n) (kk : At y G b n ls (rf G 64 false :: st) σ) : At y G b pc ls (rf G 7 false :: st) σ := at_get n ho rfl rfl rfl rfl inW7 (k := 34) (by decide) fl_X7_79 rfl hd hp kk
/-- StampTalesModel.stampOf -/
theorem gf_X7_82 (n : Nat) (ho : yO y = RX7) (hd : decode (yC y) pc = .ok (.getfield 82, 3)) (hp : pc + 3 = n) (kk : At y G b n ls (rf G 65 false :: st) σ) : At y G b pc ls (rf G 7 false :: st) σ := at_get n ho rfl rfl rfl rfl inW7 (k := 38) (by decide) fl_X7_82 rfl hd hp kk
/-- StampTalesModel.paperAt -/
theorem gf_X7_85 (n : Nat) (ho : yO y = RX7) (hd : decode (yC y) pc = .ok (.getfield 85, 3)) (hp : pc + 3 = n) (kk : At y G b n ls (rf G 66 false :: st) σ) : At y G b pc ls (rf G 7 false :: st) σ := at_get n ho rfl rfl rfl rfl inW7 (k := 39) (by decide) fl_X7_85 rfl hd hp kk
/-- StampTalesModel.lookTown -/
theorem gf_X7_88 (n : Nat) (ho : yO y = RX7) (hd : decode (yC y) pc = .ok (.getfield 88, 3)) (hp : pc + 3 = n) (kk : At y G b n ls (rf G 67 false :: st) σ) : At y G b pc ls (rf G 7 false :: st) σ := at_get n ho rfl rfl rfl rfl inW7 (k := 41) (by decide) fl_X7_88 rfl hd hp kk
/-- StampTalesModel.lookFrom -/
theorem gf_X7_91 (n : Nat) (ho : yO y = RX7) (hd : decode (yC y) pc = .ok (.getfield 91, 3)) (hp : pc + 3 = n) (kk : At y G b n ls (rf G 68 false :: st) σ) : At y G b pc ls (rf G 7 false :: st) σ := at_get n ho rfl rfl rfl rfl inW7 (k := 42) (by decide) fl_X7_91 rfl hd hp kk
/-- StampTalesModel.lookTo -/
theorem gf_X7_94 (n : Nat) (ho : yO y = RX7) (hd : decode (yC y) pc = .ok (.getfield 94, 3)) (hp : pc + 3 = n) (kk : At y G b n ls (rf G 69 false :: st) σ) : At y G b pc ls (rf G 7 false :: st) σ := at_get n ho rfl rfl rfl rfl inW7 (k := 43) (by decide) fl_X7_94 rfl hd hp kk
/-- StampTalesModel.on -/
theorem gf_X7_98 (n : Nat) (ho : yO y = RX7) (hd : decode (yC y) pc = .ok (.getfield 98, 3)) (hp : pc + 3 = n) (kk : At y G b n ls (rf G 70 false :: st) σ) : At y G b pc ls (rf G 7 false :: st) σ := at_get n ho rfl rfl rfl rfl inW7 (k := 45) (by decide) fl_X7_98 rfl hd hp kk
/-- StampTalesModel.least -/
theorem gf_X7_101 (n : Nat) (ho : yO y = RX7) (hd : decode (yC y) pc = .ok (.getfield 101, 3)) (hp : pc + 3 = n) (kk : At y G b n ls (rf G 71 false :: st) σ) : At y G b pc ls (rf G 7 false :: st) σ := at_get n ho rfl rfl rfl rfl inW7 (k := 46) (by decide) fl_X7_101 rfl hd hp kk
/-- StampTalesModel.isCome -/
theorem gf_X7_104 (n : Nat) (ho : yO y = RX7) (hd : decode (yC y) pc = .ok (.getfield 104, 3)) (hp : pc + 3 = n) (kk : At y G b n ls (rf G 72 false :: st) σ) : At y G b pc ls (rf G 7 false :: st) σ := at_get n ho rfl rfl rfl rfl inW7 (k := 47) (by decide) fl_X7_104 rfl hd hp kk
/-- StampTalesModel.is -/
theorem gf_X7_107 (n : Nat) (ho : yO y = RX7) (hd : decode (yC y) pc = .ok (.getfield 107, 3)) (hp : pc + 3 = n) (kk : At y G b n ls (rf G 73 false :: st) σ) : At y G b pc ls (rf G 7 false :: st) σ := at_get n ho rfl rfl rfl rfl inW7 (k := 48) (by decide) fl_X7_107 rfl hd hp kk
/-- StampTalesModel.stays -/
theorem gf_X7_110 (n : Nat) (ho : yO y = RX7) (hd : decode (yC y) pc = .ok (.getfield 110, 3)) (hp : pc + 3 = n) (kk : At y G b n ls (rf G 74 false :: st) σ) : At y G b pc ls (rf G 7 false :: st) σ := at_get n ho rfl rfl rfl rfl inW7 (k := 49) (by decide) fl_X7_110 rfl hd hp kk
/-- StampTalesModel.size -/
theorem gf_X7_113 (n : Nat) (ho : yO y = RX7) (hd : decode (yC y) pc = .ok (.getfield 113, 3)) (hp : pc + 3 = n) (kk : At y G b n ls (.int (gI σ 7 false 1) :: st) σ) : At y G b pc ls (rf G 7 false :: st) σ := at_get n ho rfl rfl rfl rfl inW7 (k := 1) (by decide) fl_X7_113 rfl hd hp kk
/-- StampTalesModel.at -/
theorem gf_X7_121 (n : Nat) (ho : yO y = RX7) (hd : decode (yC y) pc = .ok (.getfield 121, 3)) (hp : pc + 3 = n) (kk : At y G b n ls (.int (gI σ 7 false 2) :: st) σ) : At y G b pc ls (rf G 7 false :: st) σ := at_get n ho rfl rfl rfl rfl inW7 (k := 2) (by decide) fl_X7_121 rfl hd hp kk
/-- StampTalesModel.tokenAt -/
theorem gf_X7_124 (n : Nat) (ho : yO y = RX7) (hd : decode (yC y) pc = .ok (.getfield 124, 3)) (hp : pc + 3 = n) (kk : At y G b n ls (.int (gI σ 7 false 4) :: st) σ) : At y G b pc ls (rf G 7 false :: st) σ := at_get n ho rfl rfl rfl rfl inW7 (k := 4) (by decide) fl_X7_124 rfl hd hp kk
/-- StampTalesModel.value -/
theorem gf_X7_127 (n : Nat) (ho : yO y = RX7) (hd : decode (yC y) pc = .ok (.getfield 127, 3)) (hp : pc + 3 = n) (kk : At y G b n ls (.long (gL σ 7 false 5) :: st) σ) : At y G b pc ls (rf G 7 false :: st) σ := at_get n ho rfl rfl rfl rfl inW7 (k := 5) (by decide) fl_X7_127 rfl hd hp kk
/-- StampTalesModel.kind -/
theorem gf_X7_131 (n : Nat) (ho : yO y = RX7) (hd : decode (yC y) pc = .ok (.getfield 131, 3)) (hp : pc + 3 = n) (kk : At y G b n ls (.int (gI σ 7 false 3) :: st) σ) : At y G b pc ls (rf G 7 false :: st) σ := at_get n ho rfl rfl rfl rfl inW7 (k := 3) (by decide) fl_X7_131 rfl hd hp kk
/-- StampTalesModel.number -/
theorem gf_X7_194 (n : Nat) (ho : yO y = RX7) (hd : decode (yC y) pc = .ok (.getfield 194, 3)) (hp : pc + 3 = n) (kk : At y G b n ls (.int (gI σ 7 false 35) :: st) σ) : At y G b pc ls (rf G 7 false :: st) σ := at_get n ho rfl rfl rfl rfl inW7 (k := 35) (by decide) fl_X7_194 rfl hd hp kk
/-- StampTalesModel.newLands -/
theorem gf_X7_197 (n : Nat) (ho : yO y = RX7) (hd : decode (yC y) pc = .ok (.getfield 197, 3)) (hp : pc + 3 = n) (kk : At y G b n ls (.int (gI σ 7 false 6) :: st) σ) : At y G b pc ls (rf G 7 false :: st) σ := at_get n ho rfl rfl rfl rfl inW7 (k := 6) (by decide) fl_X7_197 rfl hd hp kk
/-- StampTalesModel.newTowns -/
theorem gf_X7_204 (n : Nat) (ho : yO y = RX7) (hd : decode (yC y) pc = .ok (.getfield 204, 3)) (hp : pc + 3 = n) (kk : At y G b n ls (.int (gI σ 7 false 9) :: st) σ) : At y G b pc ls (rf G 7 false :: st) σ := at_get n ho rfl rfl rfl rfl inW7 (k := 9) (by decide) fl_X7_204 rfl hd hp kk
/-- StampTalesModel.newLinks -/
theorem gf_X7_225 (n : Nat) (ho : yO y = RX7) (hd : decode (yC y) pc = .ok (.getfield 225, 3)) (hp : pc + 3 = n) (kk : At y G b n ls (.int (gI σ 7 false 13) :: st) σ) : At y G b pc ls (rf G 7 false :: st) σ := at_get n ho rfl rfl rfl rfl inW7 (k := 13) (by decide) fl_X7_225 rfl hd hp kk
/-- StampTalesModel.lands -/
theorem gf_X7_244 (n : Nat) (ho : yO y = RX7) (hd : decode (yC y) pc = .ok (.getfield 244, 3)) (hp : pc + 3 = n) (kk : At y G b n ls (.int (gI σ 7 false 15) :: st) σ) : At y G b pc ls (rf G 7 false :: st) σ := at_get n ho rfl rfl rfl rfl inW7 (k := 15) (by decide) fl_X7_244 rfl hd hp kk
/-- StampTalesModel.towns -/
theorem gf_X7_247 (n : Nat) (ho : yO y = RX7) (hd : decode (yC y) pc = .ok (.getfield 247, 3)) (hp : pc + 3 = n) (kk : At y G b n ls (.int (gI σ 7 false 17) :: st) σ) : At y G b pc ls (rf G 7 false :: st) σ := at_get n ho rfl rfl rfl rfl inW7 (k := 17) (by decide) fl_X7_247 rfl hd hp kk
/-- StampTalesModel.links -/
theorem gf_X7_250 (n : Nat) (ho : yO y = RX7) (hd : decode (yC y) pc = .ok (.getfield 250, 3)) (hp : pc + 3 = n) (kk : At y G b n ls (.int (gI σ 7 false 20) :: st) σ) : At y G b pc ls (rf G 7 false :: st) σ := at_get n ho rfl rfl rfl rfl inW7 (k := 20) (by decide) fl_X7_250 rfl hd hp kk
/-- StampTalesModel.legs -/
theorem gf_X7_253 (n : Nat) (ho : yO y = RX7) (hd : decode (yC y) pc = .ok (.getfield 253, 3)) (hp : pc + 3 = n) (kk : At y G b n ls (.int (gI σ 7 false 32) :: st) σ) : At y G b pc ls (rf G 7 false :: st) σ := at_get n ho rfl rfl rfl rfl inW7 (k := 32) (by decide) fl_X7_253 rfl hd hp kk
/-- StampTalesModel.m -/
theorem gf_X7_279 (n : Nat) (ho : yO y = RX7) (hd : decode (yC y) pc = .ok (.getfield 279, 3)) (hp : pc + 3 = n) (kk : At y G b n ls (.int (gI σ 7 false 36) :: st) σ) : At y G b pc ls (rf G 7 false :: st) σ := at_get n ho rfl rfl rfl rfl inW7 (k := 36) (by decide) fl_X7_279 rfl hd hp kk
/-- StampTalesModel.stampMany -/
theorem gf_X7_282 (n : Nat) (ho : yO y = RX7) (hd : decode (yC y) pc = .ok (.getfield 282, 3)) (hp : pc + 3 = n) (kk : At y G b n ls (.int (gI σ 7 false 37) :: st) σ) : At y G b pc ls (rf G 7 false :: st) σ := at_get n ho rfl rfl rfl rfl inW7 (k := 37) (by decide) fl_X7_282 rfl hd hp kk
/-- StampTalesModel.lookMany -/
theorem gf_X7_285 (n : Nat) (ho : yO y = RX7) (hd : decode (yC y) pc = .ok (.getfield 285, 3)) (hp : pc + 3 = n) (kk : At y G b n ls (.int (gI σ 7 false 40) :: st) σ) : At y G b pc ls (rf G 7 false :: st) σ := at_get n ho rfl rfl rfl rfl inW7 (k := 40) (by decide) fl_X7_285 rfl hd hp kk
/-- StampTalesModel.nextHour -/
theorem gf_X7_297 (n : Nat) (ho : yO y = RX7) (hd : decode (yC y) pc = .ok (.getfield 297, 3)) (hp : pc + 3 = n) (kk : At y G b n ls (.int (gI σ 7 false 44) :: st) σ) : At y G b pc ls (rf G 7 false :: st) σ := at_get n ho rfl rfl rfl rfl inW7 (k := 44) (by decide) fl_X7_297 rfl hd hp kk
/-- StampTales$Atlas.lands := -/
theorem pf_X0_46 (n : Nat) {i : Bool} {x : Int32} (ho : yO y = RX0) (hd : decode (yC y) pc = .ok (.putfield 46, 3)) (hp : pc + 3 = n) (kk : At y G b n ls st (sI σ 0 i 0 x)) : At y G b pc ls (.int x :: rf G 0 i :: st) σ := at_put n ho rfl rfl rfl (by simp [enO, gI_sI, gL_sI]) (sI_off σ _ _ _ _) (fun _ _ _ => rfl) rfl inW0 tyX0 tyX0_ok nmX0 (k := 0) (by decide) fl_X0_46 rfl (ty := .int) (by decide +kernel) rfl rfl (Nat.le_of_ble_eq_true rfl) hd hp kk
/-- StampTales$Atlas.towns := -/
theorem pf_X0_50 (n : Nat) {i : Bool} {x : Int32} (ho : yO y = RX0) (hd : decode (yC y) pc = .ok (.putfield 50, 3)) (hp : pc + 3 = n) (kk : At y G b n ls st (sI σ 0 i 1 x)) : At y G b pc ls (.int x :: rf G 0 i :: st) σ := at_put n ho rfl rfl rfl (by simp [enO, gI_sI, gL_sI]) (sI_off σ _ _ _ _) (fun _ _ _ => rfl) rfl inW0 tyX0 tyX0_ok nmX0 (k := 1) (by decide) fl_X0_50 rfl (ty := .int) (by decide +kernel) rfl rfl (Nat.le_of_ble_eq_true rfl) hd hp kk
/-- StampTales$Atlas.links := -/
theorem pf_X0_53 (n : Nat) {i : Bool} {x : Int32} (ho : yO y = RX0) (hd : decode (yC y) pc = .ok (.putfield 53, 3)) (hp : pc + 3 = n) (kk : At y G b n ls st (sI σ 0 i 2 x)) : At y G b pc ls (.int x :: rf G 0 i :: st) σ := at_put n ho rfl rfl rfl (by simp [enO, gI_sI, gL_sI]) (sI_off σ _ _ _ _) (fun _ _ _ => rfl) rfl inW0 tyX0 tyX0_ok nmX0 (k := 2) (by decide) fl_X0_53 rfl (ty := .int) (by decide +kernel) rfl rfl (Nat.le_of_ble_eq_true rfl) hd hp kk
/-- StampTales$Man.end := -/
theorem pf_X2_9 (n : Nat) {i : Bool} {x : Int32} (ho : yO y = RX2) (hd : decode (yC y) pc = .ok (.putfield 9, 3)) (hp : pc + 3 = n) (kk : At y G b n ls st (sI σ 2 i 2 x)) : At y G b pc ls (.int x :: rf G 2 i :: st) σ := at_put n ho rfl rfl rfl (by simp [enO, gI_sI, gL_sI]) (sI_off σ _ _ _ _) (fun _ _ _ => rfl) rfl inW2 tyX2 tyX2_ok nmX2 (k := 2) (by decide) fl_X2_9 rfl (ty := .int) (by decide +kernel) rfl rfl (Nat.le_of_ble_eq_true rfl) hd hp kk
/-- StampTales$Man.changed := -/
theorem pf_X2_15 (n : Nat) {i : Bool} {x : Int32} (hb : narrow .boolean (.int x) = .int x) (hb2 : fits .boolean (.int x) = true) (ho : yO y = RX2) (hd : decode (yC y) pc = .ok (.putfield 15, 3)) (hp : pc + 3 = n) (kk : At y G b n ls st (sI σ 2 i 4 x)) : At y G b pc ls (.int x :: rf G 2 i :: st) σ := at_put n ho rfl rfl rfl (by simp [enO, gI_sI, gL_sI]) (sI_off σ _ _ _ _) (fun _ _ _ => rfl) rfl inW2 tyX2 tyX2_ok nmX2 (k := 4) (by decide) fl_X2_15 rfl (ty := .boolean) (by decide +kernel) hb hb2 (Nat.le_of_ble_eq_true rfl) hd hp kk
/-- StampTales$Man.size := -/
theorem pf_X2_39 (n : Nat) {i : Bool} {x : Int32} (ho : yO y = RX2) (hd : decode (yC y) pc = .ok (.putfield 39, 3)) (hp : pc + 3 = n) (kk : At y G b n ls st (sI σ 2 i 3 x)) : At y G b pc ls (.int x :: rf G 2 i :: st) σ := at_put n ho rfl rfl rfl (by simp [enO, gI_sI, gL_sI]) (sI_off σ _ _ _ _) (fun _ _ _ => rfl) rfl inW2 tyX2 tyX2_ok nmX2 (k := 3) (by decide) fl_X2_39 rfl (ty := .int) (by decide +kernel) rfl rfl (Nat.le_of_ble_eq_true rfl) hd hp kk
/-- StampTales$Man.home := -/
theorem pf_X2_46 (n : Nat) {i : Bool} {x : Int32} (ho : yO y = RX2) (hd : decode (yC y) pc = .ok (.putfield 46, 3)) (hp : pc + 3 = n) (kk : At y G b n ls st (sI σ 2 i 0 x)) : At y G b pc ls (.int x :: rf G 2 i :: st) σ := at_put n ho rfl rfl rfl (by simp [enO, gI_sI, gL_sI]) (sI_off σ _ _ _ _) (fun _ _ _ => rfl) rfl inW2 tyX2 tyX2_ok nmX2 (k := 0) (by decide) fl_X2_46 rfl (ty := .int) (by decide +kernel) rfl rfl (Nat.le_of_ble_eq_true rfl) hd hp kk
/-- StampTales$Man.sleep := -/
theorem pf_X2_49 (n : Nat) {i : Bool} {x : Int32} (ho : yO y = RX2) (hd : decode (yC y) pc = .ok (.putfield 49, 3)) (hp : pc + 3 = n) (kk : At y G b n ls st (sI σ 2 i 1 x)) : At y G b pc ls (.int x :: rf G 2 i :: st) σ := at_put n ho rfl rfl rfl (by simp [enO, gI_sI, gL_sI]) (sI_off σ _ _ _ _) (fun _ _ _ => rfl) rfl inW2 tyX2 tyX2_ok nmX2 (k := 1) (by decide) fl_X2_49 rfl (ty := .int) (by decide +kernel) rfl rfl (Nat.le_of_ble_eq_true rfl) hd hp kk
/-- StampTales$Reader.length := -/
theorem pf_X3_34 (n : Nat) {x : Int32} (ho : yO y = RX3) (hd : decode (yC y) pc = .ok (.putfield 34, 3)) (hp : pc + 3 = n) (kk : At y G b n ls st (sI σ 3 false 4 x)) : At y G b pc ls (.int x :: rf G 3 false :: st) σ := at_put n ho rfl rfl rfl (by simp [enO, gI_sI, gL_sI]) (sI_off σ _ _ _ _) (fun _ _ _ => rfl) rfl inW3 tyX3 tyX3_ok nmX3 (k := 4) (by decide) fl_X3_34 rfl (ty := .int) (by decide +kernel) rfl rfl (Nat.le_of_ble_eq_true rfl) hd hp kk
/-- StampTales$Reader.behind := -/
theorem pf_X3_38 (n : Nat) {x : Int32} (ho : yO y = RX3) (hd : decode (yC y) pc = .ok (.putfield 38, 3)) (hp : pc + 3 = n) (kk : At y G b n ls st (sI σ 3 false 6 x)) : At y G b pc ls (.int x :: rf G 3 false :: st) σ := at_put n ho rfl rfl rfl (by simp [enO, gI_sI, gL_sI]) (sI_off σ _ _ _ _) (fun _ _ _ => rfl) rfl inW3 tyX3 tyX3_ok nmX3 (k := 6) (by decide) fl_X3_38 rfl (ty := .int) (by decide +kernel) rfl rfl (Nat.le_of_ble_eq_true rfl) hd hp kk
/-- StampTales$Reader.kind := -/
theorem pf_X3_47 (n : Nat) {x : Int32} (ho : yO y = RX3) (hd : decode (yC y) pc = .ok (.putfield 47, 3)) (hp : pc + 3 = n) (kk : At y G b n ls st (sI σ 3 false 7 x)) : At y G b pc ls (.int x :: rf G 3 false :: st) σ := at_put n ho rfl rfl rfl (by simp [enO, gI_sI, gL_sI]) (sI_off σ _ _ _ _) (fun _ _ _ => rfl) rfl inW3 tyX3 tyX3_ok nmX3 (k := 7) (by decide) fl_X3_47 rfl (ty := .int) (by decide +kernel) rfl rfl (Nat.le_of_ble_eq_true rfl) hd hp kk
/-- StampTales$Reader.start := -/
theorem pf_X3_54 (n : Nat) {x : Int32} (ho : yO y = RX3) (hd : decode (yC y) pc = .ok (.putfield 54, 3)) (hp : pc + 3 = n) (kk : At y G b n ls st (sI σ 3 false 5 x)) : At y G b pc ls (.int x :: rf G 3 false :: st) σ := at_put n ho rfl rfl rfl (by simp [enO, gI_sI, gL_sI]) (sI_off σ _ _ _ _) (fun _ _ _ => rfl) rfl inW3 tyX3 tyX3_ok nmX3 (k := 5) (by decide) fl_X3_54 rfl (ty := .int) (by decide +kernel) rfl rfl (Nat.le_of_ble_eq_true rfl) hd hp kk
/-- StampTales$Reader.code := -/
theorem pf_X3_88 (n : Nat) {x : Int64} (ho : yO y = RX3) (hd : decode (yC y) pc = .ok (.putfield 88, 3)) (hp : pc + 3 = n) (kk : At y G b n ls st (sL σ 3 false 9 x)) : At y G b pc ls (.long x :: rf G 3 false :: st) σ := at_put (τ := sL σ 3 false 9 x) n ho rfl rfl rfl (by simp [enO, gI_sL, gL_sL]) (fun _ _ _ => rfl) (sL_off σ _ _ _ _) rfl inW3 tyX3 tyX3_ok nmX3 (k := 9) (by decide) fl_X3_88 rfl (ty := .long) (by decide +kernel) rfl rfl (Nat.le_of_ble_eq_true rfl) hd hp kk
/-- StampTales$Reader.value := -/
theorem pf_X3_116 (n : Nat) {x : Int32} (ho : yO y = RX3) (hd : decode (yC y) pc = .ok (.putfield 116, 3)) (hp : pc + 3 = n) (kk : At y G b n ls st (sI σ 3 false 8 x)) : At y G b pc ls (.int x :: rf G 3 false :: st) σ := at_put n ho rfl rfl rfl (by simp [enO, gI_sI, gL_sI]) (sI_off σ _ _ _ _) (fun _ _ _ => rfl) rfl inW3 tyX3 tyX3_ok nmX3 (k := 8) (by decide) fl_X3_116 rfl (ty := .int) (by decide +kernel) rfl rfl (Nat.le_of_ble_eq_true rfl) hd hp kk
/-- StampTales$Findings.ways := -/
theorem pf_X4_47 (n : Nat) {i : Bool} {x : Int32} (ho : yO y = RX4) (hd : decode (yC y) pc = .ok (.putfield 47, 3)) (hp : pc + 3 = n) (kk : At y G b n ls st (sI σ 1 i 1 x)) : At y G b pc ls (.int x :: rf G 1 i :: st) σ := at_put n ho rfl rfl rfl (by simp [enO, gI_sI, gL_sI]) (sI_off σ _ _ _ _) (fun _ _ _ => rfl) rfl inW1 tyX1 tyX1_ok nmX1 (k := 1) (by decide) fl_X4_47 rfl (ty := .int) (by decide +kernel) rfl rfl (Nat.le_of_ble_eq_true rfl) hd hp kk
/-- StampTales$Findings.taleSize := -/
theorem pf_X4_75 (n : Nat) {i : Bool} {x : Int32} (ho : yO y = RX4) (hd : decode (yC y) pc = .ok (.putfield 75, 3)) (hp : pc + 3 = n) (kk : At y G b n ls st (sI σ 1 i 2 x)) : At y G b pc ls (.int x :: rf G 1 i :: st) σ := at_put n ho rfl rfl rfl (by simp [enO, gI_sI, gL_sI]) (sI_off σ _ _ _ _) (fun _ _ _ => rfl) rfl inW1 tyX1 tyX1_ok nmX1 (k := 2) (by decide) fl_X4_75 rfl (ty := .int) (by decide +kernel) rfl rfl (Nat.le_of_ble_eq_true rfl) hd hp kk
/-- StampTales$Findings.toDoubt := -/
theorem pf_X4_81 (n : Nat) {i : Bool} {x : Int32} (ho : yO y = RX4) (hd : decode (yC y) pc = .ok (.putfield 81, 3)) (hp : pc + 3 = n) (kk : At y G b n ls st (sI σ 1 i 3 x)) : At y G b pc ls (.int x :: rf G 1 i :: st) σ := at_put n ho rfl rfl rfl (by simp [enO, gI_sI, gL_sI]) (sI_off σ _ _ _ _) (fun _ _ _ => rfl) rfl inW1 tyX1 tyX1_ok nmX1 (k := 3) (by decide) fl_X4_81 rfl (ty := .int) (by decide +kernel) rfl rfl (Nat.le_of_ble_eq_true rfl) hd hp kk
/-- StampTales$Findings.away := -/
theorem pf_X4_84 (n : Nat) {i : Bool} {x : Int32} (ho : yO y = RX4) (hd : decode (yC y) pc = .ok (.putfield 84, 3)) (hp : pc + 3 = n) (kk : At y G b n ls st (sI σ 1 i 4 x)) : At y G b pc ls (.int x :: rf G 1 i :: st) σ := at_put n ho rfl rfl rfl (by simp [enO, gI_sI, gL_sI]) (sI_off σ _ _ _ _) (fun _ _ _ => rfl) rfl inW1 tyX1 tyX1_ok nmX1 (k := 4) (by decide) fl_X4_84 rfl (ty := .int) (by decide +kernel) rfl rfl (Nat.le_of_ble_eq_true rfl) hd hp kk
/-- StampTales$Man.changed := -/
theorem pf_X4_94 (n : Nat) {i : Bool} {x : Int32} (hb : narrow .boolean (.int x) = .int x) (hb2 : fits .boolean (.int x) = true) (ho : yO y = RX4) (hd : decode (yC y) pc = .ok (.putfield 94, 3)) (hp : pc + 3 = n) (kk : At y G b n ls st (sI σ 2 i 4 x)) : At y G b pc ls (.int x :: rf G 2 i :: st) σ := at_put n ho rfl rfl rfl (by simp [enO, gI_sI, gL_sI]) (sI_off σ _ _ _ _) (fun _ _ _ => rfl) rfl inW2 tyX2 tyX2_ok nmX2 (k := 4) (by decide) fl_X4_94 rfl (ty := .boolean) (by decide +kernel) hb hb2 (Nat.le_of_ble_eq_true rfl) hd hp kk
/-- StampTales$Findings.known := -/
theorem pf_X4_98 (n : Nat) {i : Bool} {x : Int32} (ho : yO y = RX4) (hd : decode (yC y) pc = .ok (.putfield 98, 3)) (hp : pc + 3 = n) (kk : At y G b n ls st (sI σ 1 i 0 x)) : At y G b pc ls (.int x :: rf G 1 i :: st) σ := at_put n ho rfl rfl rfl (by simp [enO, gI_sI, gL_sI]) (sI_off σ _ _ _ _) (fun _ _ _ => rfl) rfl inW1 tyX1 tyX1_ok nmX1 (k := 0) (by decide) fl_X4_98 rfl (ty := .int) (by decide +kernel) rfl rfl (Nat.le_of_ble_eq_true rfl) hd hp kk
/-- StampTales$Search.cellCount := -/
theorem pf_X4_121 (n : Nat) {i : Bool} {x : Int32} (ho : yO y = RX4) (hd : decode (yC y) pc = .ok (.putfield 121, 3)) (hp : pc + 3 = n) (kk : At y G b n ls st (sI σ 4 i 8 x)) : At y G b pc ls (.int x :: rf G 4 i :: st) σ := at_put n ho rfl rfl rfl (by simp [enO, gI_sI, gL_sI]) (sI_off σ _ _ _ _) (fun _ _ _ => rfl) rfl inW4 tyX4 tyX4_ok nmX4 (k := 8) (by decide) fl_X4_121 rfl (ty := .int) (by decide +kernel) rfl rfl (Nat.le_of_ble_eq_true rfl) hd hp kk
/-- StampTales$Search.stamps := -/
theorem pf_X4_164 (n : Nat) {i : Bool} {x : Int32} (ho : yO y = RX4) (hd : decode (yC y) pc = .ok (.putfield 164, 3)) (hp : pc + 3 = n) (kk : At y G b n ls st (sI σ 4 i 9 x)) : At y G b pc ls (.int x :: rf G 4 i :: st) σ := at_put n ho rfl rfl rfl (by simp [enO, gI_sI, gL_sI]) (sI_off σ _ _ _ _) (fun _ _ _ => rfl) rfl inW4 tyX4 tyX4_ok nmX4 (k := 9) (by decide) fl_X4_164 rfl (ty := .int) (by decide +kernel) rfl rfl (Nat.le_of_ble_eq_true rfl) hd hp kk
/-- StampTales$Search.looks := -/
theorem pf_X4_167 (n : Nat) {i : Bool} {x : Int32} (ho : yO y = RX4) (hd : decode (yC y) pc = .ok (.putfield 167, 3)) (hp : pc + 3 = n) (kk : At y G b n ls st (sI σ 4 i 10 x)) : At y G b pc ls (.int x :: rf G 4 i :: st) σ := at_put n ho rfl rfl rfl (by simp [enO, gI_sI, gL_sI]) (sI_off σ _ _ _ _) (fun _ _ _ => rfl) rfl inW4 tyX4 tyX4_ok nmX4 (k := 10) (by decide) fl_X4_167 rfl (ty := .int) (by decide +kernel) rfl rfl (Nat.le_of_ble_eq_true rfl) hd hp kk
/-- StampTales$Search.papers := -/
theorem pf_X4_170 (n : Nat) {i : Bool} {x : Int32} (ho : yO y = RX4) (hd : decode (yC y) pc = .ok (.putfield 170, 3)) (hp : pc + 3 = n) (kk : At y G b n ls st (sI σ 4 i 11 x)) : At y G b pc ls (.int x :: rf G 4 i :: st) σ := at_put n ho rfl rfl rfl (by simp [enO, gI_sI, gL_sI]) (sI_off σ _ _ _ _) (fun _ _ _ => rfl) rfl inW4 tyX4 tyX4_ok nmX4 (k := 11) (by decide) fl_X4_170 rfl (ty := .int) (by decide +kernel) rfl rfl (Nat.le_of_ble_eq_true rfl) hd hp kk
/-- StampTales$Search.aim := -/
theorem pf_X4_194 (n : Nat) {i : Bool} {x : Int32} (ho : yO y = RX4) (hd : decode (yC y) pc = .ok (.putfield 194, 3)) (hp : pc + 3 = n) (kk : At y G b n ls st (sI σ 4 i 12 x)) : At y G b pc ls (.int x :: rf G 4 i :: st) σ := at_put n ho rfl rfl rfl (by simp [enO, gI_sI, gL_sI]) (sI_off σ _ _ _ _) (fun _ _ _ => rfl) rfl inW4 tyX4 tyX4_ok nmX4 (k := 12) (by decide) fl_X4_194 rfl (ty := .int) (by decide +kernel) rfl rfl (Nat.le_of_ble_eq_true rfl) hd hp kk
/-- StampTales$Story.size := -/
theorem pf_X5_29 (n : Nat) {x : Int32} (ho : yO y = RX5) (hd : decode (yC y) pc = .ok (.putfield 29, 3)) (hp : pc + 3 = n) (kk : At y G b n ls st (sI σ 5 false 0 x)) : At y G b pc ls (.int x :: rf G 5 false :: st) σ := at_put n ho rfl rfl rfl (by simp [enO, gI_sI, gL_sI]) (sI_off σ _ _ _ _) (fun _ _ _ => rfl) rfl inW5 tyX5 tyX5_ok nmX5 (k := 0) (by decide) fl_X5_29 rfl (ty := .int) (by decide +kernel) rfl rfl (Nat.le_of_ble_eq_true rfl) hd hp kk
/-- StampTales.length := -/
theorem pf_X6_57 (n : Nat) {x : Int32} (ho : yO y = RX6) (hd : decode (yC y) pc = .ok (.putfield 57, 3)) (hp : pc + 3 = n) (kk : At y G b n ls st (sI σ 6 false 1 x)) : At y G b pc ls (.int x :: rf G 6 false :: st) σ := at_put n ho rfl rfl rfl (by simp [enO, gI_sI, gL_sI]) (sI_off σ _ _ _ _) (fun _ _ _ => rfl) rfl inW6 tyX6 tyX6_ok nmX6 (k := 1) (by decide) fl_X6_57 rfl (ty := .int) (by decide +kernel) rfl rfl (Nat.le_of_ble_eq_true rfl) hd hp kk
/-- StampTales$Story.size := -/
theorem pf_X6_79 (n : Nat) {x : Int32} (ho : yO y = RX6) (hd : decode (yC y) pc = .ok (.putfield 79, 3)) (hp : pc + 3 = n) (kk : At y G b n ls st (sI σ 5 false 0 x)) : At y G b pc ls (.int x :: rf G 5 false :: st) σ := at_put n ho rfl rfl rfl (by simp [enO, gI_sI, gL_sI]) (sI_off σ _ _ _ _) (fun _ _ _ => rfl) rfl inW5 tyX5 tyX5_ok nmX5 (k := 0) (by decide) fl_X6_79 rfl (ty := .int) (by decide +kernel) rfl rfl (Nat.le_of_ble_eq_true rfl) hd hp kk
/-- StampTalesModel.size := -/
theorem pf_X7_113 (n : Nat) {x : Int32} (ho : yO y = RX7) (hd : decode (yC y) pc = .ok (.putfield 113, 3)) (hp : pc + 3 = n) (kk : At y G b n ls st (sI σ 7 false 1 x)) : At y G b pc ls (.int x :: rf G 7 false :: st) σ := at_put n ho rfl rfl rfl (by simp [enO, gI_sI, gL_sI]) (sI_off σ _ _ _ _) (fun _ _ _ => rfl) rfl inW7 tyX7 tyX7_ok nmX7 (k := 1) (by decide) fl_X7_113 rfl (ty := .int) (by decide +kernel) rfl rfl (Nat.le_of_ble_eq_true rfl) hd hp kk
/-- StampTalesModel.at := -/
theorem pf_X7_121 (n : Nat) {x : Int32} (ho : yO y = RX7) (hd : decode (yC y) pc = .ok (.putfield 121, 3)) (hp : pc + 3 = n) (kk : At y G b n ls st (sI σ 7 false 2 x)) : At y G b pc ls (.int x :: rf G 7 false :: st) σ := at_put n ho rfl rfl rfl (by simp [enO, gI_sI, gL_sI]) (sI_off σ _ _ _ _) (fun _ _ _ => rfl) rfl inW7 tyX7 tyX7_ok nmX7 (k := 2) (by decide) fl_X7_121 rfl (ty := .int) (by decide +kernel) rfl rfl (Nat.le_of_ble_eq_true rfl) hd hp kk
/-- StampTalesModel.tokenAt := -/
theorem pf_X7_124 (n : Nat) {x : Int32} (ho : yO y = RX7) (hd : decode (yC y) pc = .ok (.putfield 124, 3)) (hp : pc + 3 = n) (kk : At y G b n ls st (sI σ 7 false 4 x)) : At y G b pc ls (.int x :: rf G 7 false :: st) σ := at_put n ho rfl rfl rfl (by simp [enO, gI_sI, gL_sI]) (sI_off σ _ _ _ _) (fun _ _ _ => rfl) rfl inW7 tyX7 tyX7_ok nmX7 (k := 4) (by decide) fl_X7_124 rfl (ty := .int) (by decide +kernel) rfl rfl (Nat.le_of_ble_eq_true rfl) hd hp kk
/-- StampTalesModel.value := -/
theorem pf_X7_127 (n : Nat) {x : Int64} (ho : yO y = RX7) (hd : decode (yC y) pc = .ok (.putfield 127, 3)) (hp : pc + 3 = n) (kk : At y G b n ls st (sL σ 7 false 5 x)) : At y G b pc ls (.long x :: rf G 7 false :: st) σ := at_put (τ := sL σ 7 false 5 x) n ho rfl rfl rfl (by simp [enO, gI_sL, gL_sL]) (fun _ _ _ => rfl) (sL_off σ _ _ _ _) rfl inW7 tyX7 tyX7_ok nmX7 (k := 5) (by decide) fl_X7_127 rfl (ty := .long) (by decide +kernel) rfl rfl (Nat.le_of_ble_eq_true rfl) hd hp kk
/-- StampTalesModel.kind := -/
theorem pf_X7_131 (n : Nat) {x : Int32} (ho : yO y = RX7) (hd : decode (yC y) pc = .ok (.putfield 131, 3)) (hp : pc + 3 = n) (kk : At y G b n ls st (sI σ 7 false 3 x)) : At y G b pc ls (.int x :: rf G 7 false :: st) σ := at_put n ho rfl rfl rfl (by simp [enO, gI_sI, gL_sI]) (sI_off σ _ _ _ _) (fun _ _ _ => rfl) rfl inW7 tyX7 tyX7_ok nmX7 (k := 3) (by decide) fl_X7_131 rfl (ty := .int) (by decide +kernel) rfl rfl (Nat.le_of_ble_eq_true rfl) hd hp kk
/-- StampTalesModel.number := -/
theorem pf_X7_194 (n : Nat) {x : Int32} (ho : yO y = RX7) (hd : decode (yC y) pc = .ok (.putfield 194, 3)) (hp : pc + 3 = n) (kk : At y G b n ls st (sI σ 7 false 35 x)) : At y G b pc ls (.int x :: rf G 7 false :: st) σ := at_put n ho rfl rfl rfl (by simp [enO, gI_sI, gL_sI]) (sI_off σ _ _ _ _) (fun _ _ _ => rfl) rfl inW7 tyX7 tyX7_ok nmX7 (k := 35) (by decide) fl_X7_194 rfl (ty := .int) (by decide +kernel) rfl rfl (Nat.le_of_ble_eq_true rfl) hd hp kk
/-- StampTalesModel.newLands := -/
theorem pf_X7_197 (n : Nat) {x : Int32} (ho : yO y = RX7) (hd : decode (yC y) pc = .ok (.putfield 197, 3)) (hp : pc + 3 = n) (kk : At y G b n ls st (sI σ 7 false 6 x)) : At y G b pc ls (.int x :: rf G 7 false :: st) σ := at_put n ho rfl rfl rfl (by simp [enO, gI_sI, gL_sI]) (sI_off σ _ _ _ _) (fun _ _ _ => rfl) rfl inW7 tyX7 tyX7_ok nmX7 (k := 6) (by decide) fl_X7_197 rfl (ty := .int) (by decide +kernel) rfl rfl (Nat.le_of_ble_eq_true rfl) hd hp kk
/-- StampTalesModel.newTowns := -/
theorem pf_X7_204 (n : Nat) {x : Int32} (ho : yO y = RX7) (hd : decode (yC y) pc = .ok (.putfield 204, 3)) (hp : pc + 3 = n) (kk : At y G b n ls st (sI σ 7 false 9 x)) : At y G b pc ls (.int x :: rf G 7 false :: st) σ := at_put n ho rfl rfl rfl (by simp [enO, gI_sI, gL_sI]) (sI_off σ _ _ _ _) (fun _ _ _ => rfl) rfl inW7 tyX7 tyX7_ok nmX7 (k := 9) (by decide) fl_X7_204 rfl (ty := .int) (by decide +kernel) rfl rfl (Nat.le_of_ble_eq_true rfl) hd hp kk
/-- StampTalesModel.newLinks := -/
theorem pf_X7_225 (n : Nat) {x : Int32} (ho : yO y = RX7) (hd : decode (yC y) pc = .ok (.putfield 225, 3)) (hp : pc + 3 = n) (kk : At y G b n ls st (sI σ 7 false 13 x)) : At y G b pc ls (.int x :: rf G 7 false :: st) σ := at_put n ho rfl rfl rfl (by simp [enO, gI_sI, gL_sI]) (sI_off σ _ _ _ _) (fun _ _ _ => rfl) rfl inW7 tyX7 tyX7_ok nmX7 (k := 13) (by decide) fl_X7_225 rfl (ty := .int) (by decide +kernel) rfl rfl (Nat.le_of_ble_eq_true rfl) hd hp kk
/-- StampTalesModel.lands := -/
theorem pf_X7_244 (n : Nat) {x : Int32} (ho : yO y = RX7) (hd : decode (yC y) pc = .ok (.putfield 244, 3)) (hp : pc + 3 = n) (kk : At y G b n ls st (sI σ 7 false 15 x)) : At y G b pc ls (.int x :: rf G 7 false :: st) σ := at_put n ho rfl rfl rfl (by simp [enO, gI_sI, gL_sI]) (sI_off σ _ _ _ _) (fun _ _ _ => rfl) rfl inW7 tyX7 tyX7_ok nmX7 (k := 15) (by decide) fl_X7_244 rfl (ty := .int) (by decide +kernel) rfl rfl (Nat.le_of_ble_eq_true rfl) hd hp kk
/-- StampTalesModel.towns := -/
theorem pf_X7_247 (n : Nat) {x : Int32} (ho : yO y = RX7) (hd : decode (yC y) pc = .ok (.putfield 247, 3)) (hp : pc + 3 = n) (kk : At y G b n ls st (sI σ 7 false 17 x)) : At y G b pc ls (.int x :: rf G 7 false :: st) σ := at_put n ho rfl rfl rfl (by simp [enO, gI_sI, gL_sI]) (sI_off σ _ _ _ _) (fun _ _ _ => rfl) rfl inW7 tyX7 tyX7_ok nmX7 (k := 17) (by decide) fl_X7_247 rfl (ty := .int) (by decide +kernel) rfl rfl (Nat.le_of_ble_eq_true rfl) hd hp kk
/-- StampTalesModel.links := -/
theorem pf_X7_250 (n : Nat) {x : Int32} (ho : yO y = RX7) (hd : decode (yC y) pc = .ok (.putfield 250, 3)) (hp : pc + 3 = n) (kk : At y G b n ls st (sI σ 7 false 20 x)) : At y G b pc ls (.int x :: rf G 7 false :: st) σ := at_put n ho rfl rfl rfl (by simp [enO, gI_sI, gL_sI]) (sI_off σ _ _ _ _) (fun _ _ _ => rfl) rfl inW7 tyX7 tyX7_ok nmX7 (k := 20) (by decide) fl_X7_250 rfl (ty := .int) (by decide +kernel) rfl rfl (Nat.le_of_ble_eq_true rfl) hd hp kk
/-- StampTalesModel.legs := -/
theorem pf_X7_253 (n : Nat) {x : Int32} (ho : yO y = RX7) (hd : decode (yC y) pc = .ok (.putfield 253, 3)) (hp : pc + 3 = n) (kk : At y G b n ls st (sI σ 7 false 32 x)) : At y G b pc ls (.int x :: rf G 7 false :: st) σ := at_put n ho rfl rfl rfl (by simp [enO, gI_sI, gL_sI]) (sI_off σ _ _ _ _) (fun _ _ _ => rfl) rfl inW7 tyX7 tyX7_ok nmX7 (k := 32) (by decide) fl_X7_253 rfl (ty := .int) (by decide +kernel) rfl rfl (Nat.le_of_ble_eq_true rfl) hd hp kk
/-- StampTalesModel.m := -/
theorem pf_X7_279 (n : Nat) {x : Int32} (ho : yO y = RX7) (hd : decode (yC y) pc = .ok (.putfield 279, 3)) (hp : pc + 3 = n) (kk : At y G b n ls st (sI σ 7 false 36 x)) : At y G b pc ls (.int x :: rf G 7 false :: st) σ := at_put n ho rfl rfl rfl (by simp [enO, gI_sI, gL_sI]) (sI_off σ _ _ _ _) (fun _ _ _ => rfl) rfl inW7 tyX7 tyX7_ok nmX7 (k := 36) (by decide) fl_X7_279 rfl (ty := .int) (by decide +kernel) rfl rfl (Nat.le_of_ble_eq_true rfl) hd hp kk
/-- StampTalesModel.stampMany := -/
theorem pf_X7_282 (n : Nat) {x : Int32} (ho : yO y = RX7) (hd : decode (yC y) pc = .ok (.putfield 282, 3)) (hp : pc + 3 = n) (kk : At y G b n ls st (sI σ 7 false 37 x)) : At y G b pc ls (.int x :: rf G 7 false :: st) σ := at_put n ho rfl rfl rfl (by simp [enO, gI_sI, gL_sI]) (sI_off σ _ _ _ _) (fun _ _ _ => rfl) rfl inW7 tyX7 tyX7_ok nmX7 (k := 37) (by decide) fl_X7_282 rfl (ty := .int) (by decide +kernel) rfl rfl (Nat.le_of_ble_eq_true rfl) hd hp kk
/-- StampTalesModel.lookMany := -/
theorem pf_X7_285 (n : Nat) {x : Int32} (ho : yO y = RX7) (hd : decode (yC y) pc = .ok (.putfield 285, 3)) (hp : pc + 3 = n) (kk : At y G b n ls st (sI σ 7 false 40 x)) : At y G b pc ls (.int x :: rf G 7 false :: st) σ := at_put n ho rfl rfl rfl (by simp [enO, gI_sI, gL_sI]) (sI_off σ _ _ _ _) (fun _ _ _ => rfl) rfl inW7 tyX7 tyX7_ok nmX7 (k := 40) (by decide) fl_X7_285 rfl (ty := .int) (by decide +kernel) rfl rfl (Nat.le_of_ble_eq_true rfl) hd hp kk
/-- StampTalesModel.nextHour := -/
theorem pf_X7_297 (n : Nat) {x : Int32} (ho : yO y = RX7) (hd : decode (yC y) pc = .ok (.putfield 297, 3)) (hp : pc + 3 = n) (kk : At y G b n ls st (sI σ 7 false 44 x)) : At y G b pc ls (.int x :: rf G 7 false :: st) σ := at_put n ho rfl rfl rfl (by simp [enO, gI_sI, gL_sI]) (sI_off σ _ _ _ _) (fun _ _ _ => rfl) rfl inW7 tyX7 tyX7_ok nmX7 (k := 44) (by decide) fl_X7_297 rfl (ty := .int) (by decide +kernel) rfl rfl (Nat.le_of_ble_eq_true rfl) hd hp kk
end Cells
