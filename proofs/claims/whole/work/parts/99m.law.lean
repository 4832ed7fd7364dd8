def R_law : String := "StampTalesLaw"
def lw_P (b : Addr) (xs : List Int32) (args : Array Value) (s : State) : Prop := args = #[.ref b] ∧ s.IntsAt b xs ∧ xs.length ≤ 3072 ∧ (Jvm.Cond.and given_1 narrow_1).before args s = true
def lw_Q (_ : Array Value) (s : State) (o : Outcome) (t : State) : Prop := o = .returned (some (.int 1)) ∧ Framed s o t [] 600000 7302250
def lw_Z (below : List Frame) (a : Array Value) (s : State) : State → Prop := fun t => ∃ o, t.status = .running ∧ Ended t below o ∧ lw_Q a s o t
/-- the law's own end, with 1 on the stack, nothing written that was there before, its room as the claim has it -/
theorem lw_ret {p : Program} {l : Launch} {e : Env} {s : State} {m : MethodId} {below : List Frame} {meth : Method} {c : Code} {b : Nat} (hx : p.tables.exec = Jvm.exec) (hb : c.code = code) (hr : meth.sig.returnType = ret) (hlocks : meth.locks = false) {pc : Nat} {H : Heap} {ls : Array Slot} (hdg : decode code pc = .ok (.ireturn, 1)) : W p l e room_1 s m #[Value.ref b] below meth c H [] 600000 7302250 (lw_Z below #[Value.ref b] s) (F0 m pc ls [.int 1]) := by
  intro T hT X
  obtain ⟨fs, hret, hrun, hended, hW, hframe⟩ := X.leave (v := some (.int 1)) (hlocks := hlocks) (fun h => by rw [hr] at h; cases h)
  have hmeth' : T.vm.method? m = some meth := X.method'
  refine ⟨T.setFrames fs, ?_, .returned (some (.int 1)), hrun, hended, rfl, ⟨_, rfl⟩, hW, hframe⟩
  jvm_step X.here [X.here.top, hx, hb, hdg, hmeth', hr, ret, narrow_b1]
  (try refine ⟨rfl, ?_⟩); (try refine ⟨rfl, ?_⟩)
  first | (intro acts; rw [hret _ acts rfl rfl rfl]) | rw [hret _ _ rfl rfl rfl]
  exact Steps.refl _
/-- what holds at the law's entry: the machine, the code, the tables' words (any of lw_tbl by 'hts w (by decide +kernel)'), the script of L ints xs at the cell b, what the Statement gives of the start (any of its parts by flat_of_before) -/
def lw_At (p : Program) (s : State) (m : MethodId) (meth : Method) (c : Code) (b L : Nat) (xs : Nat → Int32) : Prop :=
  p.tables.exec = Jvm.exec ∧ c.code = code ∧ meth.sig.returnType = ret ∧ c.maxLocals = 4 ∧ s.vm.findClass R_law = some m.cls ∧ (∀ w ∈ lw_tbl, w.before #[Value.ref b] s = true) ∧ va_X b L xs s s.heap ∧ b < s.heap.size ∧ meth.locks = false ∧ (Jvm.Cond.and given_1 narrow_1).before #[Value.ref b] s = true
/-! the law's walk (made by wip/gen/law.py) -/
abbrev yd_L : Yd := (RL, yL_law, cL_law, 4, some .boolean, 16, 592)
def LX (b : Ab) (bb L : Nat) (X : Nat → Int) : Prop := L ≤ 3072 ∧ ∃ xs : Nat → Int32, va_X bb L xs (bS b) (bS b).heap ∧ bb < (bS b).heap.size ∧ ¬ bA b bb ∧ ∀ j, X j = (xs j).toInt
theorem LX.r {b : Ab} {bb L : Nat} {X : Nat → Int} (h : LX b bb L X) (j : Nat) : R32 (X j) := by
  obtain ⟨_, xs, _, _, _, e⟩ := h
  rw [e j]
  have h1 := Int32.le_toInt (xs j)
  have h2 := Int32.toInt_lt (xs j)
  exact ⟨by omega, by omega⟩
section LawR
variable {G : Cx} {b : Ab} {pc : Nat} {ls : List (Option Value)} {st : List Value} {σ : Mm} {bb L n : Nat} {X : Nat → Int} {a1 a2 : Option Value}
theorem la_len (n' : Nat) (h : LX b bb L X) (hd : decode cL_law pc = .ok (.arraylength, 1)) (hp : pc + 1 = n') (k : At yd_L G b n' ls (iv (L : Int) :: st) σ) : At yd_L G b pc ls (.ref bb :: st) σ := by
  subst hp
  obtain ⟨hL, xs, h1, h2, h3, e⟩ := h
  intro g H locs la hP hS hl
  refine va_slen g.1 g.2.1 h1 h2 h3 hS hd ?_
  have e2 : Value.int (Int32.ofNat L) = iv (L : Int) := by
    show Value.int _ = Value.int _
    rw [Int32.ofInt_eq_ofNat]
  rw [e2]
  exact k g H locs la hP hS hl
theorem la_sld (n' : Nat) {j : Nat} {i : Int} (h : LX b bb L X) (hi : i = (j : Int)) (hj : j < L) (hd : decode cL_law pc = .ok (.iaload, 1)) (hp : pc + 1 = n') (k : At yd_L G b n' ls (iv (X j) :: st) σ) : At yd_L G b pc ls (iv i :: .ref bb :: st) σ := by
  subst hp; subst hi
  obtain ⟨hL, xs, h1, h2, h3, e⟩ := h
  have hi : Int32.ofInt (j : Int) = nI j := Int32.ofInt_eq_ofNat
  have hc : (nI j).toNatClampNeg = j := nI_clamp (by omega)
  have ev : Value.int (xs j) = iv (X j) := by
    rw [e j]
    show _ = Value.int _
    rw [of32]
  intro g H locs la hP hS hl
  have k2 := k g H locs la hP hS hl
  show Wb b H locs (F0 (bM b) pc la (.int (Int32.ofInt (j : Int)) :: .ref bb :: st))
  rw [hi]
  refine va_sld g.1 g.2.1 h1 h2 h3 hS (nI_in hj (by omega)) hd ?_
  rw [hc, ev]
  exact k2
theorem la_el (n' : Nat) {k : Nat} {z : Int} (h : LX b bb L X) (hk : z = (k : Int)) (hn : n + k < L) (h1 : decode cL_law pc = .ok (.aload_n 0, 1)) (h2 : decode cL_law (pc + 1) = .ok (.iload_n 3, 1)) (h3 : decode cL_law (pc + 2) = .ok (.iconst z, 1)) (h4 : decode cL_law (pc + 3) = .ok (.iadd, 1)) (h5 : decode cL_law (pc + 4) = .ok (.iaload, 1)) (hp : pc + 5 = n') (kk : At yd_L G b n' [some (.ref bb), a1, a2, some (iv (n : Int))] (iv (X (n + k)) :: st) σ) : At yd_L G b pc [some (.ref bb), a1, a2, some (iv (n : Int))] st σ := by
  subst hp
  refine ald_4_0 (pc + 1) rfl h1 rfl ?_
  refine dild_4_3 (pc + 2) h2 rfl ?_
  refine dt_iconst (pc + 3) h3 rfl ?_
  refine dt_iadd (pc + 4) h4 rfl ?_
  exact la_sld (pc + 5) h (by omega) hn h5 rfl kk
theorem la_b (n1 n2 t0 pj : Nat) {x off off2 : Int} (h1 : decode cL_law pc = .ok (.ifCond .eq off, 3)) (hn1 : pc + 3 = n1) (ht : (pc : Int) + off = (t0 : Int)) (h2 : decode cL_law n1 = .ok (.iconst 1, 1)) (hn2 : n1 + 1 = n2) (h3 : decode cL_law n2 = .ok (.goto off2, 3)) (hj : (n2 : Int) + off2 = (pj : Int)) (h4 : decode cL_law t0 = .ok (.iconst 0, 1)) (h5 : t0 + 1 = pj) (k : At yd_L G b pj ls (iv (if w32 x = 0 then 0 else 1) :: st) σ) : At yd_L G b pc ls (iv x :: st) σ := by
  refine dt_if_eq n1 t0 h1 hn1 ht rfl (fun c => ?_) (fun c => ?_)
  · rw [if_pos c] at k
    exact dt_iconst pj h4 h5 k
  · rw [if_neg c] at k
    exact dt_iconst n2 h2 hn2 (st_goto pj h3 hj k)
end LawR
theorem b01 {x : Int} : (if w32 x = 0 then (0 : Int) else 1) = 0 ∨ (if w32 x = 0 then (0 : Int) else 1) = 1 := by
  by_cases c : w32 x = 0
  · rw [if_pos c]; exact Or.inl rfl
  · rw [if_neg c]; exact Or.inr rfl
abbrev LLw (G : Cx) (bb n : Nat) : List (Option Value) := [some (.ref bb), some (rf G 6 false), some (rf G 7 false), some (iv (n : Int))]
theorem lc_0 {G : Cx} {b : Ab} {bb L n : Nat} {X : Nat → Int} {μ : Mi} (h : LX b bb L X) (hn : n + 6 ≤ L) (I : Inv μ) (ib : IB μ) (k : ∀ m, Inv m → IB m → At yd_L G b 1021 (LLw G bb n) [] (Em m)) : At yd_L G b 148 (LLw G bb n) [] (Em μ) := by
  obtain ⟨r, m1, m2, s6, s7, I2, ib2⟩ := tw_feed (G := G) I ib (x1 := (X (n + 1))) (x2 := (X (n + 2))) (x3 := (X (n + 3))) (x4 := (X (n + 4))) (x5 := (X (n + 5)))
  refine ald_4_1 149 rfl dL_law_148 rfl ?_
  refine la_el 154 (k := 1) (z := 1) h rfl (by omega) dL_law_149 dL_law_150 dL_law_151 dL_law_152 dL_law_153 rfl ?_
  refine la_el 159 (k := 2) (z := 2) h rfl (by omega) dL_law_154 dL_law_155 dL_law_156 dL_law_157 dL_law_158 rfl ?_
  refine la_el 164 (k := 3) (z := 3) h rfl (by omega) dL_law_159 dL_law_160 dL_law_161 dL_law_162 dL_law_163 rfl ?_
  refine la_el 169 (k := 4) (z := 4) h rfl (by omega) dL_law_164 dL_law_165 dL_law_166 dL_law_167 dL_law_168 rfl ?_
  refine la_el 174 (k := 5) (z := 5) h rfl (by omega) dL_law_169 dL_law_170 dL_law_171 dL_law_172 dL_law_173 rfl ?_
  refine cvi_5 177 cw_L_13 s6 rfl ⟨by decide, by decide⟩ rfl rfl rfl rfl rfl (Nat.le_of_ble_eq_true rfl) dL_law_174 rfl ?_
  refine ald_4_2 178 rfl dL_law_177 rfl ?_
  refine la_el 183 (k := 1) (z := 1) h rfl (by omega) dL_law_178 dL_law_179 dL_law_180 dL_law_181 dL_law_182 rfl ?_
  refine la_el 188 (k := 2) (z := 2) h rfl (by omega) dL_law_183 dL_law_184 dL_law_185 dL_law_186 dL_law_187 rfl ?_
  refine la_el 193 (k := 3) (z := 3) h rfl (by omega) dL_law_188 dL_law_189 dL_law_190 dL_law_191 dL_law_192 rfl ?_
  refine la_el 198 (k := 4) (z := 4) h rfl (by omega) dL_law_193 dL_law_194 dL_law_195 dL_law_196 dL_law_197 rfl ?_
  refine la_el 203 (k := 5) (z := 5) h rfl (by omega) dL_law_198 dL_law_199 dL_law_200 dL_law_201 dL_law_202 rfl ?_
  refine cvi_5 206 cw_L_17 s7 rfl ⟨by decide, by decide⟩ rfl rfl rfl rfl rfl (Nat.le_of_ble_eq_true rfl) dL_law_203 rfl ?_
  exact dt_icmp_eq 209 1021 dL_law_206 rfl (by decide) rfl rfl (fun _ => k m2 I2 ib2) (fun c => absurd rfl c)
theorem lc_1 {G : Cx} {b : Ab} {bb L n : Nat} {X : Nat → Int} {μ : Mi} (h : LX b bb L X) (hn : n + 6 ≤ L) (I : Inv μ) (ib : IB μ) (k : ∀ m, Inv m → IB m → At yd_L G b 1021 (LLw G bb n) [] (Em m)) : At yd_L G b 211 (LLw G bb n) [] (Em μ) := by
  obtain ⟨r, m1, m2, s6, s7, I2, ib2⟩ := tw_end (G := G) I ib (x1 := (X (n + 1))) (h.r _)
  refine ald_4_1 212 rfl dL_law_211 rfl ?_
  refine la_el 217 (k := 1) (z := 1) h rfl (by omega) dL_law_212 dL_law_213 dL_law_214 dL_law_215 dL_law_216 rfl ?_
  refine cvi_1 220 cw_L_18 s6 rfl ⟨by decide, by decide⟩ rfl rfl rfl rfl rfl (Nat.le_of_ble_eq_true rfl) dL_law_217 rfl ?_
  refine ald_4_2 221 rfl dL_law_220 rfl ?_
  refine la_el 226 (k := 1) (z := 1) h rfl (by omega) dL_law_221 dL_law_222 dL_law_223 dL_law_224 dL_law_225 rfl ?_
  refine cvi_1 229 cw_L_22 s7 rfl ⟨by decide, by decide⟩ rfl rfl rfl rfl rfl (Nat.le_of_ble_eq_true rfl) dL_law_226 rfl ?_
  exact dt_icmp_eq 232 1021 dL_law_229 rfl (by decide) rfl rfl (fun _ => k m2 I2 ib2) (fun c => absurd rfl c)
theorem lc_2 {G : Cx} {b : Ab} {bb L n : Nat} {X : Nat → Int} {μ : Mi} (h : LX b bb L X) (hn : n + 6 ≤ L) (I : Inv μ) (ib : IB μ) (k : ∀ m, Inv m → IB m → At yd_L G b 1021 (LLw G bb n) [] (Em m)) : At yd_L G b 234 (LLw G bb n) [] (Em μ) := by
  obtain ⟨r, m1, m2, s6, s7, I2, ib2⟩ := tw_fault (G := G) I ib
  refine ald_4_1 235 rfl dL_law_234 rfl ?_
  refine cvi_0 238 cw_L_23 s6 rfl ⟨by decide, by decide⟩ rfl rfl rfl rfl rfl (Nat.le_of_ble_eq_true rfl) dL_law_235 rfl ?_
  refine ald_4_2 239 rfl dL_law_238 rfl ?_
  refine cvi_0 242 cw_L_27 s7 rfl ⟨by decide, by decide⟩ rfl rfl rfl rfl rfl (Nat.le_of_ble_eq_true rfl) dL_law_239 rfl ?_
  exact dt_icmp_eq 245 1021 dL_law_242 rfl (by decide) rfl rfl (fun _ => k m2 I2 ib2) (fun c => absurd rfl c)
theorem lc_3 {G : Cx} {b : Ab} {bb L n : Nat} {X : Nat → Int} {μ : Mi} (h : LX b bb L X) (hn : n + 6 ≤ L) (I : Inv μ) (ib : IB μ) (k : ∀ m, Inv m → IB m → At yd_L G b 1021 (LLw G bb n) [] (Em m)) : At yd_L G b 247 (LLw G bb n) [] (Em μ) := by
  obtain ⟨r, m1, m2, s6, s7, I2, ib2⟩ := tw_map (G := G) I ib
  refine ald_4_1 248 rfl dL_law_247 rfl ?_
  refine cvi_0 251 cw_L_28 s6 rfl ⟨by decide, by decide⟩ rfl rfl rfl rfl rfl (Nat.le_of_ble_eq_true rfl) dL_law_248 rfl ?_
  refine ald_4_2 252 rfl dL_law_251 rfl ?_
  refine cvi_0 255 cw_L_31 s7 rfl ⟨by decide, by decide⟩ rfl rfl rfl rfl rfl (Nat.le_of_ble_eq_true rfl) dL_law_252 rfl ?_
  exact dt_icmp_eq 258 1021 dL_law_255 rfl (by decide) rfl rfl (fun _ => k m2 I2 ib2) (fun c => absurd rfl c)
theorem lc_4 {G : Cx} {b : Ab} {bb L n : Nat} {X : Nat → Int} {μ : Mi} (h : LX b bb L X) (hn : n + 6 ≤ L) (I : Inv μ) (ib : IB μ) (k : ∀ m, Inv m → IB m → At yd_L G b 1021 (LLw G bb n) [] (Em m)) : At yd_L G b 260 (LLw G bb n) [] (Em μ) := by
  obtain ⟨r, m1, m2, s6, s7, I2, ib2⟩ := tw_man (G := G) I ib (x1 := (X (n + 1))) (x2 := (X (n + 2))) (x3 := (X (n + 3))) (x4 := (X (n + 4))) (h.r _) (h.r _) (h.r _) (h.r _)
  refine ald_4_1 261 rfl dL_law_260 rfl ?_
  refine la_el 266 (k := 1) (z := 1) h rfl (by omega) dL_law_261 dL_law_262 dL_law_263 dL_law_264 dL_law_265 rfl ?_
  refine la_el 271 (k := 2) (z := 2) h rfl (by omega) dL_law_266 dL_law_267 dL_law_268 dL_law_269 dL_law_270 rfl ?_
  refine la_el 276 (k := 3) (z := 3) h rfl (by omega) dL_law_271 dL_law_272 dL_law_273 dL_law_274 dL_law_275 rfl ?_
  refine la_el 281 (k := 4) (z := 4) h rfl (by omega) dL_law_276 dL_law_277 dL_law_278 dL_law_279 dL_law_280 rfl ?_
  refine cvi_4 284 cw_L_32 s6 rfl ⟨by decide, by decide⟩ rfl rfl rfl rfl rfl (Nat.le_of_ble_eq_true rfl) dL_law_281 rfl ?_
  refine ald_4_2 285 rfl dL_law_284 rfl ?_
  refine la_el 290 (k := 1) (z := 1) h rfl (by omega) dL_law_285 dL_law_286 dL_law_287 dL_law_288 dL_law_289 rfl ?_
  refine la_el 295 (k := 2) (z := 2) h rfl (by omega) dL_law_290 dL_law_291 dL_law_292 dL_law_293 dL_law_294 rfl ?_
  refine la_el 300 (k := 3) (z := 3) h rfl (by omega) dL_law_295 dL_law_296 dL_law_297 dL_law_298 dL_law_299 rfl ?_
  refine la_el 305 (k := 4) (z := 4) h rfl (by omega) dL_law_300 dL_law_301 dL_law_302 dL_law_303 dL_law_304 rfl ?_
  refine cvi_4 308 cw_L_36 s7 rfl ⟨by decide, by decide⟩ rfl rfl rfl rfl rfl (Nat.le_of_ble_eq_true rfl) dL_law_305 rfl ?_
  exact dt_icmp_eq 311 1021 dL_law_308 rfl (by decide) rfl rfl (fun _ => k m2 I2 ib2) (fun c => absurd rfl c)
theorem lc_5 {G : Cx} {b : Ab} {bb L n : Nat} {X : Nat → Int} {μ : Mi} (h : LX b bb L X) (hn : n + 6 ≤ L) (I : Inv μ) (ib : IB μ) (k : ∀ m, Inv m → IB m → At yd_L G b 1021 (LLw G bb n) [] (Em m)) : At yd_L G b 313 (LLw G bb n) [] (Em μ) := by
  obtain ⟨r, m1, m2, s6, s7, I2, ib2⟩ := tw_stamp (G := G) I ib (x1 := (X (n + 1))) (x2 := (X (n + 2))) (x3 := (if w32 (X (n + 3)) = 0 then 0 else 1)) (x4 := (X (n + 4))) (x5 := (X (n + 5))) (h.r _) (h.r _) b01 (h.r _) (h.r _)
  refine ald_4_1 314 rfl dL_law_313 rfl ?_
  refine la_el 319 (k := 1) (z := 1) h rfl (by omega) dL_law_314 dL_law_315 dL_law_316 dL_law_317 dL_law_318 rfl ?_
  refine la_el 324 (k := 2) (z := 2) h rfl (by omega) dL_law_319 dL_law_320 dL_law_321 dL_law_322 dL_law_323 rfl ?_
  refine la_el 329 (k := 3) (z := 3) h rfl (by omega) dL_law_324 dL_law_325 dL_law_326 dL_law_327 dL_law_328 rfl ?_
  refine la_b 332 333 336 337 dL_law_329 rfl (by decide) dL_law_332 rfl dL_law_333 (by decide) dL_law_336 rfl ?_
  refine la_el 342 (k := 4) (z := 4) h rfl (by omega) dL_law_337 dL_law_338 dL_law_339 dL_law_340 dL_law_341 rfl ?_
  refine la_el 347 (k := 5) (z := 5) h rfl (by omega) dL_law_342 dL_law_343 dL_law_344 dL_law_345 dL_law_346 rfl ?_
  refine cvi_5 350 cw_L_37 s6 rfl ⟨by decide, by decide⟩ rfl rfl rfl rfl rfl (Nat.le_of_ble_eq_true rfl) dL_law_347 rfl ?_
  refine ald_4_2 351 rfl dL_law_350 rfl ?_
  refine la_el 356 (k := 1) (z := 1) h rfl (by omega) dL_law_351 dL_law_352 dL_law_353 dL_law_354 dL_law_355 rfl ?_
  refine la_el 361 (k := 2) (z := 2) h rfl (by omega) dL_law_356 dL_law_357 dL_law_358 dL_law_359 dL_law_360 rfl ?_
  refine la_el 366 (k := 3) (z := 3) h rfl (by omega) dL_law_361 dL_law_362 dL_law_363 dL_law_364 dL_law_365 rfl ?_
  refine la_b 369 370 373 374 dL_law_366 rfl (by decide) dL_law_369 rfl dL_law_370 (by decide) dL_law_373 rfl ?_
  refine la_el 379 (k := 4) (z := 4) h rfl (by omega) dL_law_374 dL_law_375 dL_law_376 dL_law_377 dL_law_378 rfl ?_
  refine la_el 384 (k := 5) (z := 5) h rfl (by omega) dL_law_379 dL_law_380 dL_law_381 dL_law_382 dL_law_383 rfl ?_
  refine cvi_5 387 cw_L_41 s7 rfl ⟨by decide, by decide⟩ rfl rfl rfl rfl rfl (Nat.le_of_ble_eq_true rfl) dL_law_384 rfl ?_
  exact dt_icmp_eq 390 1021 dL_law_387 rfl (by decide) rfl rfl (fun _ => k m2 I2 ib2) (fun c => absurd rfl c)
theorem lc_6 {G : Cx} {b : Ab} {bb L n : Nat} {X : Nat → Int} {μ : Mi} (h : LX b bb L X) (hn : n + 6 ≤ L) (I : Inv μ) (ib : IB μ) (k : ∀ m, Inv m → IB m → At yd_L G b 1021 (LLw G bb n) [] (Em m)) : At yd_L G b 392 (LLw G bb n) [] (Em μ) := by
  obtain ⟨r, m1, m2, s6, s7, I2, ib2⟩ := tw_paper (G := G) I ib (x1 := (X (n + 1))) (x2 := (X (n + 2))) (x3 := (X (n + 3))) (h.r _) (h.r _) (h.r _)
  refine ald_4_1 393 rfl dL_law_392 rfl ?_
  refine la_el 398 (k := 1) (z := 1) h rfl (by omega) dL_law_393 dL_law_394 dL_law_395 dL_law_396 dL_law_397 rfl ?_
  refine la_el 403 (k := 2) (z := 2) h rfl (by omega) dL_law_398 dL_law_399 dL_law_400 dL_law_401 dL_law_402 rfl ?_
  refine la_el 408 (k := 3) (z := 3) h rfl (by omega) dL_law_403 dL_law_404 dL_law_405 dL_law_406 dL_law_407 rfl ?_
  refine cvi_3 411 cw_L_42 s6 rfl ⟨by decide, by decide⟩ rfl rfl rfl rfl rfl (Nat.le_of_ble_eq_true rfl) dL_law_408 rfl ?_
  refine ald_4_2 412 rfl dL_law_411 rfl ?_
  refine la_el 417 (k := 1) (z := 1) h rfl (by omega) dL_law_412 dL_law_413 dL_law_414 dL_law_415 dL_law_416 rfl ?_
  refine la_el 422 (k := 2) (z := 2) h rfl (by omega) dL_law_417 dL_law_418 dL_law_419 dL_law_420 dL_law_421 rfl ?_
  refine la_el 427 (k := 3) (z := 3) h rfl (by omega) dL_law_422 dL_law_423 dL_law_424 dL_law_425 dL_law_426 rfl ?_
  refine cvi_3 430 cw_L_46 s7 rfl ⟨by decide, by decide⟩ rfl rfl rfl rfl rfl (Nat.le_of_ble_eq_true rfl) dL_law_427 rfl ?_
  exact dt_icmp_eq 433 1021 dL_law_430 rfl (by decide) rfl rfl (fun _ => k m2 I2 ib2) (fun c => absurd rfl c)
theorem lc_7 {G : Cx} {b : Ab} {bb L n : Nat} {X : Nat → Int} {μ : Mi} (h : LX b bb L X) (hn : n + 6 ≤ L) (I : Inv μ) (ib : IB μ) (k : ∀ m, Inv m → IB m → At yd_L G b 1021 (LLw G bb n) [] (Em m)) : At yd_L G b 435 (LLw G bb n) [] (Em μ) := by
  obtain ⟨r, m1, m2, s6, s7, I2, ib2⟩ := tw_look (G := G) I ib (x1 := (X (n + 1))) (x2 := (X (n + 2))) (x3 := (X (n + 3))) (x4 := (X (n + 4))) (h.r _) (h.r _) (h.r _) (h.r _)
  refine ald_4_1 436 rfl dL_law_435 rfl ?_
  refine la_el 441 (k := 1) (z := 1) h rfl (by omega) dL_law_436 dL_law_437 dL_law_438 dL_law_439 dL_law_440 rfl ?_
  refine la_el 446 (k := 2) (z := 2) h rfl (by omega) dL_law_441 dL_law_442 dL_law_443 dL_law_444 dL_law_445 rfl ?_
  refine la_el 451 (k := 3) (z := 3) h rfl (by omega) dL_law_446 dL_law_447 dL_law_448 dL_law_449 dL_law_450 rfl ?_
  refine la_el 456 (k := 4) (z := 4) h rfl (by omega) dL_law_451 dL_law_452 dL_law_453 dL_law_454 dL_law_455 rfl ?_
  refine cvi_4 459 cw_L_47 s6 rfl ⟨by decide, by decide⟩ rfl rfl rfl rfl rfl (Nat.le_of_ble_eq_true rfl) dL_law_456 rfl ?_
  refine ald_4_2 460 rfl dL_law_459 rfl ?_
  refine la_el 465 (k := 1) (z := 1) h rfl (by omega) dL_law_460 dL_law_461 dL_law_462 dL_law_463 dL_law_464 rfl ?_
  refine la_el 470 (k := 2) (z := 2) h rfl (by omega) dL_law_465 dL_law_466 dL_law_467 dL_law_468 dL_law_469 rfl ?_
  refine la_el 475 (k := 3) (z := 3) h rfl (by omega) dL_law_470 dL_law_471 dL_law_472 dL_law_473 dL_law_474 rfl ?_
  refine la_el 480 (k := 4) (z := 4) h rfl (by omega) dL_law_475 dL_law_476 dL_law_477 dL_law_478 dL_law_479 rfl ?_
  refine cvi_4 483 cw_L_51 s7 rfl ⟨by decide, by decide⟩ rfl rfl rfl rfl rfl (Nat.le_of_ble_eq_true rfl) dL_law_480 rfl ?_
  exact dt_icmp_eq 486 1021 dL_law_483 rfl (by decide) rfl rfl (fun _ => k m2 I2 ib2) (fun c => absurd rfl c)
theorem lc_8 {G : Cx} {b : Ab} {bb L n : Nat} {X : Nat → Int} {μ : Mi} (h : LX b bb L X) (hn : n + 6 ≤ L) (I : Inv μ) (ib : IB μ) (k : ∀ m, Inv m → IB m → At yd_L G b 1021 (LLw G bb n) [] (Em m)) : At yd_L G b 488 (LLw G bb n) [] (Em μ) := by
  obtain ⟨r, m1, m2, s6, s7, I2, ib2⟩ := tw_doubt (G := G) I ib (x1 := (X (n + 1))) (x2 := (X (n + 2))) (x3 := (if w32 (X (n + 3)) = 0 then 0 else 1)) (h.r _) (h.r _) b01
  refine ald_4_1 489 rfl dL_law_488 rfl ?_
  refine la_el 494 (k := 1) (z := 1) h rfl (by omega) dL_law_489 dL_law_490 dL_law_491 dL_law_492 dL_law_493 rfl ?_
  refine la_el 499 (k := 2) (z := 2) h rfl (by omega) dL_law_494 dL_law_495 dL_law_496 dL_law_497 dL_law_498 rfl ?_
  refine la_el 504 (k := 3) (z := 3) h rfl (by omega) dL_law_499 dL_law_500 dL_law_501 dL_law_502 dL_law_503 rfl ?_
  refine la_b 507 508 511 512 dL_law_504 rfl (by decide) dL_law_507 rfl dL_law_508 (by decide) dL_law_511 rfl ?_
  refine cvi_3 515 cw_L_52 s6 rfl ⟨by decide, by decide⟩ rfl rfl rfl rfl rfl (Nat.le_of_ble_eq_true rfl) dL_law_512 rfl ?_
  refine ald_4_2 516 rfl dL_law_515 rfl ?_
  refine la_el 521 (k := 1) (z := 1) h rfl (by omega) dL_law_516 dL_law_517 dL_law_518 dL_law_519 dL_law_520 rfl ?_
  refine la_el 526 (k := 2) (z := 2) h rfl (by omega) dL_law_521 dL_law_522 dL_law_523 dL_law_524 dL_law_525 rfl ?_
  refine la_el 531 (k := 3) (z := 3) h rfl (by omega) dL_law_526 dL_law_527 dL_law_528 dL_law_529 dL_law_530 rfl ?_
  refine la_b 534 535 538 539 dL_law_531 rfl (by decide) dL_law_534 rfl dL_law_535 (by decide) dL_law_538 rfl ?_
  refine cvi_3 542 cw_L_56 s7 rfl ⟨by decide, by decide⟩ rfl rfl rfl rfl rfl (Nat.le_of_ble_eq_true rfl) dL_law_539 rfl ?_
  exact dt_icmp_eq 545 1021 dL_law_542 rfl (by decide) rfl rfl (fun _ => k m2 I2 ib2) (fun c => absurd rfl c)
theorem lc_9 {G : Cx} {b : Ab} {bb L n : Nat} {X : Nat → Int} {μ : Mi} (h : LX b bb L X) (hn : n + 6 ≤ L) (I : Inv μ) (ib : IB μ) (k : ∀ m, Inv m → IB m → At yd_L G b 1021 (LLw G bb n) [] (Em m)) : At yd_L G b 547 (LLw G bb n) [] (Em μ) := by
  obtain ⟨r, m1, m2, s6, s7, I2, ib2⟩ := tw_undo (G := G) I ib (x1 := (X (n + 1))) (h.r _)
  refine ald_4_1 548 rfl dL_law_547 rfl ?_
  refine la_el 553 (k := 1) (z := 1) h rfl (by omega) dL_law_548 dL_law_549 dL_law_550 dL_law_551 dL_law_552 rfl ?_
  refine cvi_1 556 cw_L_57 s6 rfl ⟨by decide, by decide⟩ rfl rfl rfl rfl rfl (Nat.le_of_ble_eq_true rfl) dL_law_553 rfl ?_
  refine ald_4_2 557 rfl dL_law_556 rfl ?_
  refine la_el 562 (k := 1) (z := 1) h rfl (by omega) dL_law_557 dL_law_558 dL_law_559 dL_law_560 dL_law_561 rfl ?_
  refine cvi_1 565 cw_L_61 s7 rfl ⟨by decide, by decide⟩ rfl rfl rfl rfl rfl (Nat.le_of_ble_eq_true rfl) dL_law_562 rfl ?_
  exact dt_icmp_eq 568 1021 dL_law_565 rfl (by decide) rfl rfl (fun _ => k m2 I2 ib2) (fun c => absurd rfl c)
theorem lc_10 {G : Cx} {b : Ab} {bb L n : Nat} {X : Nat → Int} {μ : Mi} (h : LX b bb L X) (hn : n + 6 ≤ L) (I : Inv μ) (ib : IB μ) (k : ∀ m, Inv m → IB m → At yd_L G b 1021 (LLw G bb n) [] (Em m)) : At yd_L G b 570 (LLw G bb n) [] (Em μ) := by
  obtain ⟨r, m1, m2, s6, s7, I2, ib2⟩ := tw_link (G := G) I ib (x1 := (X (n + 1))) (x2 := (X (n + 2))) (h.r _) (h.r _)
  refine ald_4_1 571 rfl dL_law_570 rfl ?_
  refine la_el 576 (k := 1) (z := 1) h rfl (by omega) dL_law_571 dL_law_572 dL_law_573 dL_law_574 dL_law_575 rfl ?_
  refine la_el 581 (k := 2) (z := 2) h rfl (by omega) dL_law_576 dL_law_577 dL_law_578 dL_law_579 dL_law_580 rfl ?_
  refine cvi_2 584 cw_L_62 s6 rfl ⟨by decide, by decide⟩ rfl rfl rfl rfl rfl (Nat.le_of_ble_eq_true rfl) dL_law_581 rfl ?_
  refine ald_4_2 585 rfl dL_law_584 rfl ?_
  refine la_el 590 (k := 1) (z := 1) h rfl (by omega) dL_law_585 dL_law_586 dL_law_587 dL_law_588 dL_law_589 rfl ?_
  refine la_el 595 (k := 2) (z := 2) h rfl (by omega) dL_law_590 dL_law_591 dL_law_592 dL_law_593 dL_law_594 rfl ?_
  refine cvi_2 598 cw_L_66 s7 rfl ⟨by decide, by decide⟩ rfl rfl rfl rfl rfl (Nat.le_of_ble_eq_true rfl) dL_law_595 rfl ?_
  exact dt_icmp_eq 601 1021 dL_law_598 rfl (by decide) rfl rfl (fun _ => k m2 I2 ib2) (fun c => absurd rfl c)
theorem lc_11 {G : Cx} {b : Ab} {bb L n : Nat} {X : Nat → Int} {μ : Mi} (h : LX b bb L X) (hn : n + 6 ≤ L) (I : Inv μ) (ib : IB μ) (k : ∀ m, Inv m → IB m → At yd_L G b 1021 (LLw G bb n) [] (Em m)) : At yd_L G b 603 (LLw G bb n) [] (Em μ) := by
  obtain ⟨r, m1, m2, s6, s7, I2, ib2⟩ := tw_town (G := G) I ib (x1 := (X (n + 1))) (x2 := (X (n + 2))) (h.r _) (h.r _)
  refine ald_4_1 604 rfl dL_law_603 rfl ?_
  refine la_el 609 (k := 1) (z := 1) h rfl (by omega) dL_law_604 dL_law_605 dL_law_606 dL_law_607 dL_law_608 rfl ?_
  refine la_el 614 (k := 2) (z := 2) h rfl (by omega) dL_law_609 dL_law_610 dL_law_611 dL_law_612 dL_law_613 rfl ?_
  refine cvi_2 617 cw_L_67 s6 rfl ⟨by decide, by decide⟩ rfl rfl rfl rfl rfl (Nat.le_of_ble_eq_true rfl) dL_law_614 rfl ?_
  refine ald_4_2 618 rfl dL_law_617 rfl ?_
  refine la_el 623 (k := 1) (z := 1) h rfl (by omega) dL_law_618 dL_law_619 dL_law_620 dL_law_621 dL_law_622 rfl ?_
  refine la_el 628 (k := 2) (z := 2) h rfl (by omega) dL_law_623 dL_law_624 dL_law_625 dL_law_626 dL_law_627 rfl ?_
  refine cvi_2 631 cw_L_70 s7 rfl ⟨by decide, by decide⟩ rfl rfl rfl rfl rfl (Nat.le_of_ble_eq_true rfl) dL_law_628 rfl ?_
  exact dt_icmp_eq 634 1021 dL_law_631 rfl (by decide) rfl rfl (fun _ => k m2 I2 ib2) (fun c => absurd rfl c)
theorem lc_12 {G : Cx} {b : Ab} {bb L n : Nat} {X : Nat → Int} {μ : Mi} (h : LX b bb L X) (hn : n + 6 ≤ L) (I : Inv μ) (ib : IB μ) (k : ∀ m, Inv m → IB m → At yd_L G b 1021 (LLw G bb n) [] (Em m)) : At yd_L G b 636 (LLw G bb n) [] (Em μ) := by
  obtain ⟨r, m1, m2, s6, s7, I2, ib2⟩ := tw_trace (G := G) I ib (x1 := (X (n + 1))) (x2 := (X (n + 2))) (x3 := (X (n + 3))) (h.r _) (h.r _)
  refine ald_4_1 637 rfl dL_law_636 rfl ?_
  refine la_el 642 (k := 1) (z := 1) h rfl (by omega) dL_law_637 dL_law_638 dL_law_639 dL_law_640 dL_law_641 rfl ?_
  refine la_el 647 (k := 2) (z := 2) h rfl (by omega) dL_law_642 dL_law_643 dL_law_644 dL_law_645 dL_law_646 rfl ?_
  refine la_el 652 (k := 3) (z := 3) h rfl (by omega) dL_law_647 dL_law_648 dL_law_649 dL_law_650 dL_law_651 rfl ?_
  refine cvi_3 655 cw_L_71 s6 rfl ⟨by decide, by decide⟩ rfl rfl rfl rfl rfl (Nat.le_of_ble_eq_true rfl) dL_law_652 rfl ?_
  refine ald_4_2 656 rfl dL_law_655 rfl ?_
  refine la_el 661 (k := 1) (z := 1) h rfl (by omega) dL_law_656 dL_law_657 dL_law_658 dL_law_659 dL_law_660 rfl ?_
  refine la_el 666 (k := 2) (z := 2) h rfl (by omega) dL_law_661 dL_law_662 dL_law_663 dL_law_664 dL_law_665 rfl ?_
  refine la_el 671 (k := 3) (z := 3) h rfl (by omega) dL_law_666 dL_law_667 dL_law_668 dL_law_669 dL_law_670 rfl ?_
  refine cvi_3 674 cw_L_74 s7 rfl ⟨by decide, by decide⟩ rfl rfl rfl rfl rfl (Nat.le_of_ble_eq_true rfl) dL_law_671 rfl ?_
  exact dt_icmp_eq 677 1021 dL_law_674 rfl (by decide) rfl rfl (fun _ => k m2 I2 ib2) (fun c => absurd rfl c)
theorem lc_13 {G : Cx} {b : Ab} {bb L n : Nat} {X : Nat → Int} {μ : Mi} (h : LX b bb L X) (hn : n + 6 ≤ L) (I : Inv μ) (ib : IB μ) (k : ∀ m, Inv m → IB m → At yd_L G b 1021 (LLw G bb n) [] (Em m)) : At yd_L G b 679 (LLw G bb n) [] (Em μ) := by
  obtain ⟨r, m1, m2, s6, s7, I2, ib2⟩ := tw_ways (G := G) I ib (x1 := (X (n + 1))) (h.r _)
  refine ald_4_1 680 rfl dL_law_679 rfl ?_
  refine la_el 685 (k := 1) (z := 1) h rfl (by omega) dL_law_680 dL_law_681 dL_law_682 dL_law_683 dL_law_684 rfl ?_
  refine cvi_1 688 cw_L_75 s6 rfl ⟨by decide, by decide⟩ rfl rfl rfl rfl rfl (Nat.le_of_ble_eq_true rfl) dL_law_685 rfl ?_
  refine ald_4_2 689 rfl dL_law_688 rfl ?_
  refine la_el 694 (k := 1) (z := 1) h rfl (by omega) dL_law_689 dL_law_690 dL_law_691 dL_law_692 dL_law_693 rfl ?_
  refine cvi_1 697 cw_L_78 s7 rfl ⟨by decide, by decide⟩ rfl rfl rfl rfl rfl (Nat.le_of_ble_eq_true rfl) dL_law_694 rfl ?_
  exact dt_icmp_eq 700 1021 dL_law_697 rfl (by decide) rfl rfl (fun _ => k m2 I2 ib2) (fun c => absurd rfl c)
theorem lc_14 {G : Cx} {b : Ab} {bb L n : Nat} {X : Nat → Int} {μ : Mi} (h : LX b bb L X) (hn : n + 6 ≤ L) (I : Inv μ) (ib : IB μ) (k : ∀ m, Inv m → IB m → At yd_L G b 1021 (LLw G bb n) [] (Em m)) : At yd_L G b 702 (LLw G bb n) [] (Em μ) := by
  obtain ⟨r, m1, m2, s6, s7, I2, ib2⟩ := tw_may (G := G) I ib (x1 := (X (n + 1))) (x2 := (X (n + 2))) (h.r _) (h.r _)
  refine ald_4_1 703 rfl dL_law_702 rfl ?_
  refine la_el 708 (k := 1) (z := 1) h rfl (by omega) dL_law_703 dL_law_704 dL_law_705 dL_law_706 dL_law_707 rfl ?_
  refine la_el 713 (k := 2) (z := 2) h rfl (by omega) dL_law_708 dL_law_709 dL_law_710 dL_law_711 dL_law_712 rfl ?_
  refine cvi_2 716 cw_L_79 s6 rfl ⟨by decide, by decide⟩ rfl rfl rfl rfl rfl (Nat.le_of_ble_eq_true rfl) dL_law_713 rfl ?_
  refine ald_4_2 717 rfl dL_law_716 rfl ?_
  refine la_el 722 (k := 1) (z := 1) h rfl (by omega) dL_law_717 dL_law_718 dL_law_719 dL_law_720 dL_law_721 rfl ?_
  refine la_el 727 (k := 2) (z := 2) h rfl (by omega) dL_law_722 dL_law_723 dL_law_724 dL_law_725 dL_law_726 rfl ?_
  refine cvi_2 730 cw_L_82 s7 rfl ⟨by decide, by decide⟩ rfl rfl rfl rfl rfl (Nat.le_of_ble_eq_true rfl) dL_law_727 rfl ?_
  exact dt_icmp_eq 733 1021 dL_law_730 rfl (by decide) rfl rfl (fun _ => k m2 I2 ib2) (fun c => absurd rfl c)
theorem lc_15 {G : Cx} {b : Ab} {bb L n : Nat} {X : Nat → Int} {μ : Mi} (h : LX b bb L X) (hn : n + 6 ≤ L) (I : Inv μ) (ib : IB μ) (k : ∀ m, Inv m → IB m → At yd_L G b 1021 (LLw G bb n) [] (Em m)) : At yd_L G b 735 (LLw G bb n) [] (Em μ) := by
  obtain ⟨r, m1, m2, s6, s7, I2, ib2⟩ := tw_surely (G := G) I ib (x1 := (X (n + 1))) (x2 := (X (n + 2))) (h.r _) (h.r _)
  refine ald_4_1 736 rfl dL_law_735 rfl ?_
  refine la_el 741 (k := 1) (z := 1) h rfl (by omega) dL_law_736 dL_law_737 dL_law_738 dL_law_739 dL_law_740 rfl ?_
  refine la_el 746 (k := 2) (z := 2) h rfl (by omega) dL_law_741 dL_law_742 dL_law_743 dL_law_744 dL_law_745 rfl ?_
  refine cvi_2 749 cw_L_83 s6 rfl ⟨by decide, by decide⟩ rfl rfl rfl rfl rfl (Nat.le_of_ble_eq_true rfl) dL_law_746 rfl ?_
  refine ald_4_2 750 rfl dL_law_749 rfl ?_
  refine la_el 755 (k := 1) (z := 1) h rfl (by omega) dL_law_750 dL_law_751 dL_law_752 dL_law_753 dL_law_754 rfl ?_
  refine la_el 760 (k := 2) (z := 2) h rfl (by omega) dL_law_755 dL_law_756 dL_law_757 dL_law_758 dL_law_759 rfl ?_
  refine cvi_2 763 cw_L_86 s7 rfl ⟨by decide, by decide⟩ rfl rfl rfl rfl rfl (Nat.le_of_ble_eq_true rfl) dL_law_760 rfl ?_
  exact dt_icmp_eq 766 1021 dL_law_763 rfl (by decide) rfl rfl (fun _ => k m2 I2 ib2) (fun c => absurd rfl c)
theorem lc_16 {G : Cx} {b : Ab} {bb L n : Nat} {X : Nat → Int} {μ : Mi} (h : LX b bb L X) (hn : n + 6 ≤ L) (I : Inv μ) (ib : IB μ) (k : ∀ m, Inv m → IB m → At yd_L G b 1021 (LLw G bb n) [] (Em m)) : At yd_L G b 768 (LLw G bb n) [] (Em μ) := by
  obtain ⟨r, m1, m2, s6, s7, I2, ib2⟩ := tw_extreme (G := G) I ib (x1 := (X (n + 1))) (x2 := (X (n + 2))) (h.r _) (h.r _)
  refine ald_4_1 769 rfl dL_law_768 rfl ?_
  refine la_el 774 (k := 1) (z := 1) h rfl (by omega) dL_law_769 dL_law_770 dL_law_771 dL_law_772 dL_law_773 rfl ?_
  refine la_el 779 (k := 2) (z := 2) h rfl (by omega) dL_law_774 dL_law_775 dL_law_776 dL_law_777 dL_law_778 rfl ?_
  refine cvi_2 782 cw_L_87 s6 rfl ⟨by decide, by decide⟩ rfl rfl rfl rfl rfl (Nat.le_of_ble_eq_true rfl) dL_law_779 rfl ?_
  refine ald_4_2 783 rfl dL_law_782 rfl ?_
  refine la_el 788 (k := 1) (z := 1) h rfl (by omega) dL_law_783 dL_law_784 dL_law_785 dL_law_786 dL_law_787 rfl ?_
  refine la_el 793 (k := 2) (z := 2) h rfl (by omega) dL_law_788 dL_law_789 dL_law_790 dL_law_791 dL_law_792 rfl ?_
  refine cvi_2 796 cw_L_90 s7 rfl ⟨by decide, by decide⟩ rfl rfl rfl rfl rfl (Nat.le_of_ble_eq_true rfl) dL_law_793 rfl ?_
  exact dt_icmp_eq 799 1021 dL_law_796 rfl (by decide) rfl rfl (fun _ => k m2 I2 ib2) (fun c => absurd rfl c)
theorem lc_17 {G : Cx} {b : Ab} {bb L n : Nat} {X : Nat → Int} {μ : Mi} (h : LX b bb L X) (hn : n + 6 ≤ L) (I : Inv μ) (ib : IB μ) (k : ∀ m, Inv m → IB m → At yd_L G b 1021 (LLw G bb n) [] (Em m)) : At yd_L G b 801 (LLw G bb n) [] (Em μ) := by
  obtain ⟨r, m1, m2, s6, s7, I2, ib2⟩ := tw_tale (G := G) I ib (x1 := (X (n + 1))) (x2 := (X (n + 2))) (h.r _) (h.r _)
  refine ald_4_1 802 rfl dL_law_801 rfl ?_
  refine la_el 807 (k := 1) (z := 1) h rfl (by omega) dL_law_802 dL_law_803 dL_law_804 dL_law_805 dL_law_806 rfl ?_
  refine la_el 812 (k := 2) (z := 2) h rfl (by omega) dL_law_807 dL_law_808 dL_law_809 dL_law_810 dL_law_811 rfl ?_
  refine cvi_2 815 cw_L_91 s6 rfl ⟨by decide, by decide⟩ rfl rfl rfl rfl rfl (Nat.le_of_ble_eq_true rfl) dL_law_812 rfl ?_
  refine ald_4_2 816 rfl dL_law_815 rfl ?_
  refine la_el 821 (k := 1) (z := 1) h rfl (by omega) dL_law_816 dL_law_817 dL_law_818 dL_law_819 dL_law_820 rfl ?_
  refine la_el 826 (k := 2) (z := 2) h rfl (by omega) dL_law_821 dL_law_822 dL_law_823 dL_law_824 dL_law_825 rfl ?_
  refine cvi_2 829 cw_L_94 s7 rfl ⟨by decide, by decide⟩ rfl rfl rfl rfl rfl (Nat.le_of_ble_eq_true rfl) dL_law_826 rfl ?_
  exact dt_icmp_eq 832 1021 dL_law_829 rfl (by decide) rfl rfl (fun _ => k m2 I2 ib2) (fun c => absurd rfl c)
theorem lc_18 {G : Cx} {b : Ab} {bb L n : Nat} {X : Nat → Int} {μ : Mi} (h : LX b bb L X) (hn : n + 6 ≤ L) (I : Inv μ) (ib : IB μ) (k : ∀ m, Inv m → IB m → At yd_L G b 1021 (LLw G bb n) [] (Em m)) : At yd_L G b 834 (LLw G bb n) [] (Em μ) := by
  obtain ⟨r, m1, m2, s6, s7, I2, ib2⟩ := tw_toDoubt (G := G) I ib (x1 := (X (n + 1))) (h.r _)
  refine ald_4_1 835 rfl dL_law_834 rfl ?_
  refine la_el 840 (k := 1) (z := 1) h rfl (by omega) dL_law_835 dL_law_836 dL_law_837 dL_law_838 dL_law_839 rfl ?_
  refine cvi_1 843 cw_L_95 s6 rfl ⟨by decide, by decide⟩ rfl rfl rfl rfl rfl (Nat.le_of_ble_eq_true rfl) dL_law_840 rfl ?_
  refine ald_4_2 844 rfl dL_law_843 rfl ?_
  refine la_el 849 (k := 1) (z := 1) h rfl (by omega) dL_law_844 dL_law_845 dL_law_846 dL_law_847 dL_law_848 rfl ?_
  refine cvi_1 852 cw_L_98 s7 rfl ⟨by decide, by decide⟩ rfl rfl rfl rfl rfl (Nat.le_of_ble_eq_true rfl) dL_law_849 rfl ?_
  exact dt_icmp_eq 855 1021 dL_law_852 rfl (by decide) rfl rfl (fun _ => k m2 I2 ib2) (fun c => absurd rfl c)
theorem lc_19 {G : Cx} {b : Ab} {bb L n : Nat} {X : Nat → Int} {μ : Mi} (h : LX b bb L X) (hn : n + 6 ≤ L) (I : Inv μ) (ib : IB μ) (k : ∀ m, Inv m → IB m → At yd_L G b 1021 (LLw G bb n) [] (Em m)) : At yd_L G b 857 (LLw G bb n) [] (Em μ) := by
  obtain ⟨r, m1, m2, s6, s7, I2, ib2⟩ := tw_away (G := G) I ib (x1 := (X (n + 1))) (h.r _)
  refine ald_4_1 858 rfl dL_law_857 rfl ?_
  refine la_el 863 (k := 1) (z := 1) h rfl (by omega) dL_law_858 dL_law_859 dL_law_860 dL_law_861 dL_law_862 rfl ?_
  refine cvi_1 866 cw_L_99 s6 rfl ⟨by decide, by decide⟩ rfl rfl rfl rfl rfl (Nat.le_of_ble_eq_true rfl) dL_law_863 rfl ?_
  refine ald_4_2 867 rfl dL_law_866 rfl ?_
  refine la_el 872 (k := 1) (z := 1) h rfl (by omega) dL_law_867 dL_law_868 dL_law_869 dL_law_870 dL_law_871 rfl ?_
  refine cvi_1 875 cw_L_102 s7 rfl ⟨by decide, by decide⟩ rfl rfl rfl rfl rfl (Nat.le_of_ble_eq_true rfl) dL_law_872 rfl ?_
  exact dt_icmp_eq 878 1021 dL_law_875 rfl (by decide) rfl rfl (fun _ => k m2 I2 ib2) (fun c => absurd rfl c)
theorem lc_20 {G : Cx} {b : Ab} {bb L n : Nat} {X : Nat → Int} {μ : Mi} (h : LX b bb L X) (hn : n + 6 ≤ L) (I : Inv μ) (ib : IB μ) (k : ∀ m, Inv m → IB m → At yd_L G b 1021 (LLw G bb n) [] (Em m)) : At yd_L G b 880 (LLw G bb n) [] (Em μ) := by
  obtain ⟨r, m1, m2, s6, s7, I2, ib2⟩ := tw_met (G := G) I ib (x1 := (X (n + 1))) (x2 := (if w32 (X (n + 2)) = 0 then 0 else 1)) (h.r _)
  refine ald_4_1 881 rfl dL_law_880 rfl ?_
  refine la_el 886 (k := 1) (z := 1) h rfl (by omega) dL_law_881 dL_law_882 dL_law_883 dL_law_884 dL_law_885 rfl ?_
  refine la_el 891 (k := 2) (z := 2) h rfl (by omega) dL_law_886 dL_law_887 dL_law_888 dL_law_889 dL_law_890 rfl ?_
  refine la_b 894 895 898 899 dL_law_891 rfl (by decide) dL_law_894 rfl dL_law_895 (by decide) dL_law_898 rfl ?_
  refine cvi_2 902 cw_L_103 s6 rfl ⟨by decide, by decide⟩ rfl rfl rfl rfl rfl (Nat.le_of_ble_eq_true rfl) dL_law_899 rfl ?_
  refine ald_4_2 903 rfl dL_law_902 rfl ?_
  refine la_el 908 (k := 1) (z := 1) h rfl (by omega) dL_law_903 dL_law_904 dL_law_905 dL_law_906 dL_law_907 rfl ?_
  refine la_el 913 (k := 2) (z := 2) h rfl (by omega) dL_law_908 dL_law_909 dL_law_910 dL_law_911 dL_law_912 rfl ?_
  refine la_b 916 917 920 921 dL_law_913 rfl (by decide) dL_law_916 rfl dL_law_917 (by decide) dL_law_920 rfl ?_
  refine cvi_2 924 cw_L_107 s7 rfl ⟨by decide, by decide⟩ rfl rfl rfl rfl rfl (Nat.le_of_ble_eq_true rfl) dL_law_921 rfl ?_
  exact dt_icmp_eq 927 1021 dL_law_924 rfl (by decide) rfl rfl (fun _ => k m2 I2 ib2) (fun c => absurd rfl c)
theorem lc_21 {G : Cx} {b : Ab} {bb L n : Nat} {X : Nat → Int} {μ : Mi} (h : LX b bb L X) (hn : n + 6 ≤ L) (I : Inv μ) (ib : IB μ) (k : ∀ m, Inv m → IB m → At yd_L G b 1021 (LLw G bb n) [] (Em m)) : At yd_L G b 929 (LLw G bb n) [] (Em μ) := by
  obtain ⟨r, m1, m2, s6, s7, I2, ib2⟩ := tw_leg (G := G) I ib (x1 := (X (n + 1))) (x2 := (X (n + 2))) (h.r _) (h.r _)
  refine ald_4_1 930 rfl dL_law_929 rfl ?_
  refine la_el 935 (k := 1) (z := 1) h rfl (by omega) dL_law_930 dL_law_931 dL_law_932 dL_law_933 dL_law_934 rfl ?_
  refine la_el 940 (k := 2) (z := 2) h rfl (by omega) dL_law_935 dL_law_936 dL_law_937 dL_law_938 dL_law_939 rfl ?_
  refine cvi_2 943 cw_L_108 s6 rfl ⟨by decide, by decide⟩ rfl rfl rfl rfl rfl (Nat.le_of_ble_eq_true rfl) dL_law_940 rfl ?_
  refine ald_4_2 944 rfl dL_law_943 rfl ?_
  refine la_el 949 (k := 1) (z := 1) h rfl (by omega) dL_law_944 dL_law_945 dL_law_946 dL_law_947 dL_law_948 rfl ?_
  refine la_el 954 (k := 2) (z := 2) h rfl (by omega) dL_law_949 dL_law_950 dL_law_951 dL_law_952 dL_law_953 rfl ?_
  refine cvi_2 957 cw_L_111 s7 rfl ⟨by decide, by decide⟩ rfl rfl rfl rfl rfl (Nat.le_of_ble_eq_true rfl) dL_law_954 rfl ?_
  exact dt_icmp_eq 960 1021 dL_law_957 rfl (by decide) rfl rfl (fun _ => k m2 I2 ib2) (fun c => absurd rfl c)
theorem lc_22 {G : Cx} {b : Ab} {bb L n : Nat} {X : Nat → Int} {μ : Mi} (h : LX b bb L X) (hn : n + 6 ≤ L) (I : Inv μ) (ib : IB μ) (k : ∀ m, Inv m → IB m → At yd_L G b 1021 (LLw G bb n) [] (Em m)) : At yd_L G b 962 (LLw G bb n) [] (Em μ) := by
  obtain ⟨r, m1, m2, s6, s7, I2, ib2⟩ := tw_forget (G := G) I ib
  refine ald_4_1 963 rfl dL_law_962 rfl ?_
  refine cvi_0 966 cw_L_112 s6 rfl ⟨by decide, by decide⟩ rfl rfl rfl rfl rfl (Nat.le_of_ble_eq_true rfl) dL_law_963 rfl ?_
  refine ald_4_2 967 rfl dL_law_966 rfl ?_
  refine cvi_0 970 cw_L_115 s7 rfl ⟨by decide, by decide⟩ rfl rfl rfl rfl rfl (Nat.le_of_ble_eq_true rfl) dL_law_967 rfl ?_
  exact dt_icmp_eq 973 1021 dL_law_970 rfl (by decide) rfl rfl (fun _ => k m2 I2 ib2) (fun c => absurd rfl c)
theorem lc_23 {G : Cx} {b : Ab} {bb L n : Nat} {X : Nat → Int} {μ : Mi} (h : LX b bb L X) (hn : n + 6 ≤ L) (I : Inv μ) (ib : IB μ) (k : ∀ m, Inv m → IB m → At yd_L G b 1021 (LLw G bb n) [] (Em m)) : At yd_L G b 975 (LLw G bb n) [] (Em μ) := by
  obtain ⟨r, m1, m2, s6, s7, I2, ib2⟩ := tw_barred (G := G) I ib (x1 := (X (n + 1))) (h.r _)
  refine ald_4_1 976 rfl dL_law_975 rfl ?_
  refine la_el 981 (k := 1) (z := 1) h rfl (by omega) dL_law_976 dL_law_977 dL_law_978 dL_law_979 dL_law_980 rfl ?_
  refine cvi_1 984 cw_L_116 s6 rfl ⟨by decide, by decide⟩ rfl rfl rfl rfl rfl (Nat.le_of_ble_eq_true rfl) dL_law_981 rfl ?_
  refine ald_4_2 985 rfl dL_law_984 rfl ?_
  refine la_el 990 (k := 1) (z := 1) h rfl (by omega) dL_law_985 dL_law_986 dL_law_987 dL_law_988 dL_law_989 rfl ?_
  refine cvi_1 993 cw_L_119 s7 rfl ⟨by decide, by decide⟩ rfl rfl rfl rfl rfl (Nat.le_of_ble_eq_true rfl) dL_law_990 rfl ?_
  exact dt_icmp_eq 996 1021 dL_law_993 rfl (by decide) rfl rfl (fun _ => k m2 I2 ib2) (fun c => absurd rfl c)
theorem lc_24 {G : Cx} {b : Ab} {bb L n : Nat} {X : Nat → Int} {μ : Mi} (h : LX b bb L X) (hn : n + 6 ≤ L) (I : Inv μ) (ib : IB μ) (k : ∀ m, Inv m → IB m → At yd_L G b 1021 (LLw G bb n) [] (Em m)) : At yd_L G b 998 (LLw G bb n) [] (Em μ) := by
  obtain ⟨r, m1, m2, s6, s7, I2, ib2⟩ := tw_count (G := G) I ib (x1 := (X (n + 1)))
  refine ald_4_1 999 rfl dL_law_998 rfl ?_
  refine la_el 1004 (k := 1) (z := 1) h rfl (by omega) dL_law_999 dL_law_1000 dL_law_1001 dL_law_1002 dL_law_1003 rfl ?_
  refine cvi_1 1007 cw_L_120 s6 rfl ⟨by decide, by decide⟩ rfl rfl rfl rfl rfl (Nat.le_of_ble_eq_true rfl) dL_law_1004 rfl ?_
  refine ald_4_2 1008 rfl dL_law_1007 rfl ?_
  refine la_el 1013 (k := 1) (z := 1) h rfl (by omega) dL_law_1008 dL_law_1009 dL_law_1010 dL_law_1011 dL_law_1012 rfl ?_
  refine cvi_1 1016 cw_L_123 s7 rfl ⟨by decide, by decide⟩ rfl rfl rfl rfl rfl (Nat.le_of_ble_eq_true rfl) dL_law_1013 rfl ?_
  exact dt_icmp_eq 1019 1021 dL_law_1016 rfl (by decide) rfl rfl (fun _ => k m2 I2 ib2) (fun c => absurd rfl c)
theorem l_turn {G : Cx} {b : Ab} {bb L n : Nat} {X : Nat → Int} {μ : Mi} (h : LX b bb L X) (hn : n + 6 ≤ L) (I : Inv μ) (ib : IB μ) (k : ∀ m, Inv m → IB m → At yd_L G b 1021 (LLw G bb n) [] (Em m)) : At yd_L G b 33 (LLw G bb n) [iv (iand (X n) 31)] (Em μ) := by
  by_cases l0 : w32 (iand (X n) 31) < 0
  · exact dt_tableOut 1021 dL_law_33 (Or.inl l0) (by decide) (k μ I ib)
  have l0 : 0 ≤ w32 (iand (X n) 31) := by omega
  by_cases c0 : w32 (iand (X n) 31) = 0
  · exact dt_tableIn 148 dL_law_33 c0 (by decide) rfl (by decide) (by decide) rfl (by decide) (lc_0 h hn I ib k)
  have l1 : 1 ≤ w32 (iand (X n) 31) := by omega
  by_cases c1 : w32 (iand (X n) 31) = 1
  · exact dt_tableIn 211 dL_law_33 c1 (by decide) rfl (by decide) (by decide) rfl (by decide) (lc_1 h hn I ib k)
  have l2 : 2 ≤ w32 (iand (X n) 31) := by omega
  by_cases c2 : w32 (iand (X n) 31) = 2
  · exact dt_tableIn 234 dL_law_33 c2 (by decide) rfl (by decide) (by decide) rfl (by decide) (lc_2 h hn I ib k)
  have l3 : 3 ≤ w32 (iand (X n) 31) := by omega
  by_cases c3 : w32 (iand (X n) 31) = 3
  · exact dt_tableIn 247 dL_law_33 c3 (by decide) rfl (by decide) (by decide) rfl (by decide) (lc_3 h hn I ib k)
  have l4 : 4 ≤ w32 (iand (X n) 31) := by omega
  by_cases c4 : w32 (iand (X n) 31) = 4
  · exact dt_tableIn 260 dL_law_33 c4 (by decide) rfl (by decide) (by decide) rfl (by decide) (lc_4 h hn I ib k)
  have l5 : 5 ≤ w32 (iand (X n) 31) := by omega
  by_cases c5 : w32 (iand (X n) 31) = 5
  · exact dt_tableIn 313 dL_law_33 c5 (by decide) rfl (by decide) (by decide) rfl (by decide) (lc_5 h hn I ib k)
  have l6 : 6 ≤ w32 (iand (X n) 31) := by omega
  by_cases c6 : w32 (iand (X n) 31) = 6
  · exact dt_tableIn 392 dL_law_33 c6 (by decide) rfl (by decide) (by decide) rfl (by decide) (lc_6 h hn I ib k)
  have l7 : 7 ≤ w32 (iand (X n) 31) := by omega
  by_cases c7 : w32 (iand (X n) 31) = 7
  · exact dt_tableIn 435 dL_law_33 c7 (by decide) rfl (by decide) (by decide) rfl (by decide) (lc_7 h hn I ib k)
  have l8 : 8 ≤ w32 (iand (X n) 31) := by omega
  by_cases c8 : w32 (iand (X n) 31) = 8
  · exact dt_tableIn 488 dL_law_33 c8 (by decide) rfl (by decide) (by decide) rfl (by decide) (lc_8 h hn I ib k)
  have l9 : 9 ≤ w32 (iand (X n) 31) := by omega
  by_cases c9 : w32 (iand (X n) 31) = 9
  · exact dt_tableIn 547 dL_law_33 c9 (by decide) rfl (by decide) (by decide) rfl (by decide) (lc_9 h hn I ib k)
  have l10 : 10 ≤ w32 (iand (X n) 31) := by omega
  by_cases c10 : w32 (iand (X n) 31) = 10
  · exact dt_tableIn 570 dL_law_33 c10 (by decide) rfl (by decide) (by decide) rfl (by decide) (lc_10 h hn I ib k)
  have l11 : 11 ≤ w32 (iand (X n) 31) := by omega
  by_cases c11 : w32 (iand (X n) 31) = 11
  · exact dt_tableIn 603 dL_law_33 c11 (by decide) rfl (by decide) (by decide) rfl (by decide) (lc_11 h hn I ib k)
  have l12 : 12 ≤ w32 (iand (X n) 31) := by omega
  by_cases c12 : w32 (iand (X n) 31) = 12
  · exact dt_tableIn 636 dL_law_33 c12 (by decide) rfl (by decide) (by decide) rfl (by decide) (lc_12 h hn I ib k)
  have l13 : 13 ≤ w32 (iand (X n) 31) := by omega
  by_cases c13 : w32 (iand (X n) 31) = 13
  · exact dt_tableIn 679 dL_law_33 c13 (by decide) rfl (by decide) (by decide) rfl (by decide) (lc_13 h hn I ib k)
  have l14 : 14 ≤ w32 (iand (X n) 31) := by omega
  by_cases c14 : w32 (iand (X n) 31) = 14
  · exact dt_tableIn 702 dL_law_33 c14 (by decide) rfl (by decide) (by decide) rfl (by decide) (lc_14 h hn I ib k)
  have l15 : 15 ≤ w32 (iand (X n) 31) := by omega
  by_cases c15 : w32 (iand (X n) 31) = 15
  · exact dt_tableIn 735 dL_law_33 c15 (by decide) rfl (by decide) (by decide) rfl (by decide) (lc_15 h hn I ib k)
  have l16 : 16 ≤ w32 (iand (X n) 31) := by omega
  by_cases c16 : w32 (iand (X n) 31) = 16
  · exact dt_tableIn 768 dL_law_33 c16 (by decide) rfl (by decide) (by decide) rfl (by decide) (lc_16 h hn I ib k)
  have l17 : 17 ≤ w32 (iand (X n) 31) := by omega
  by_cases c17 : w32 (iand (X n) 31) = 17
  · exact dt_tableIn 801 dL_law_33 c17 (by decide) rfl (by decide) (by decide) rfl (by decide) (lc_17 h hn I ib k)
  have l18 : 18 ≤ w32 (iand (X n) 31) := by omega
  by_cases c18 : w32 (iand (X n) 31) = 18
  · exact dt_tableIn 834 dL_law_33 c18 (by decide) rfl (by decide) (by decide) rfl (by decide) (lc_18 h hn I ib k)
  have l19 : 19 ≤ w32 (iand (X n) 31) := by omega
  by_cases c19 : w32 (iand (X n) 31) = 19
  · exact dt_tableIn 857 dL_law_33 c19 (by decide) rfl (by decide) (by decide) rfl (by decide) (lc_19 h hn I ib k)
  have l20 : 20 ≤ w32 (iand (X n) 31) := by omega
  by_cases c20 : w32 (iand (X n) 31) = 20
  · exact dt_tableIn 880 dL_law_33 c20 (by decide) rfl (by decide) (by decide) rfl (by decide) (lc_20 h hn I ib k)
  have l21 : 21 ≤ w32 (iand (X n) 31) := by omega
  by_cases c21 : w32 (iand (X n) 31) = 21
  · exact dt_tableIn 929 dL_law_33 c21 (by decide) rfl (by decide) (by decide) rfl (by decide) (lc_21 h hn I ib k)
  have l22 : 22 ≤ w32 (iand (X n) 31) := by omega
  by_cases c22 : w32 (iand (X n) 31) = 22
  · exact dt_tableIn 962 dL_law_33 c22 (by decide) rfl (by decide) (by decide) rfl (by decide) (lc_22 h hn I ib k)
  have l23 : 23 ≤ w32 (iand (X n) 31) := by omega
  by_cases c23 : w32 (iand (X n) 31) = 23
  · exact dt_tableIn 975 dL_law_33 c23 (by decide) rfl (by decide) (by decide) rfl (by decide) (lc_23 h hn I ib k)
  have l24 : 24 ≤ w32 (iand (X n) 31) := by omega
  by_cases c24 : w32 (iand (X n) 31) = 24
  · exact dt_tableIn 998 dL_law_33 c24 (by decide) rfl (by decide) (by decide) rfl (by decide) (lc_24 h hn I ib k)
  have l25 : 25 ≤ w32 (iand (X n) 31) := by omega
  exact dt_tableOut 1021 dL_law_33 (Or.inr l25) (by decide) (k μ I ib)
theorem l_loop {G : Cx} {b : Ab} {bb L : Nat} {X : Nat → Int} (h : LX b bb L X) (hfin : ∀ n μ, At yd_L G b 1027 (LLw G bb n) [] (Em μ)) : ∀ (f n : Nat), L < n + f → n ≤ L + 6 → ∀ μ, Inv μ → IB μ → At yd_L G b 18 (LLw G bb n) [] (Em μ) := by
  have hL := h.1
  intro f
  induction f with
  | zero =>
    intro n h1 h2 μ I ib
    refine dild_4_3 19 dL_law_18 rfl ?_
    refine ald_4_0 20 rfl dL_law_19 rfl ?_
    refine la_len 21 h dL_law_20 rfl ?_
    refine dt_bipush 23 dL_law_21 (by decide) rfl ?_
    refine dt_isub 24 dL_law_23 rfl ?_
    refine dt_icmp_gt 27 1027 dL_law_24 rfl (by decide) (wid (by omega) (by omega)) (wid (by omega) (by omega)) (fun c => hfin n μ) (fun c => ?_)
    exact absurd h1 (by omega)
  | succ f ih =>
    intro n h1 h2 μ I ib
    refine dild_4_3 19 dL_law_18 rfl ?_
    refine ald_4_0 20 rfl dL_law_19 rfl ?_
    refine la_len 21 h dL_law_20 rfl ?_
    refine dt_bipush 23 dL_law_21 (by decide) rfl ?_
    refine dt_isub 24 dL_law_23 rfl ?_
    refine dt_icmp_gt 27 1027 dL_law_24 rfl (by decide) (wid (by omega) (by omega)) (wid (by omega) (by omega)) (fun c => hfin n μ) (fun c => ?_)
    have hn : n + 6 ≤ L := by omega
    refine ald_4_0 28 rfl dL_law_27 rfl ?_
    refine dild_4_3 29 dL_law_28 rfl ?_
    refine la_sld 30 (j := n) h rfl (by omega) dL_law_29 rfl ?_
    refine dt_bipush 32 dL_law_30 (by decide) rfl ?_
    refine dt_iand 33 dL_law_32 rfl ?_
    refine l_turn h hn I ib (fun m Im ibm => ?_)
    refine dinc_4_3 1024 dL_law_1021 rfl rfl rfl ?_
    refine st_goto 18 dL_law_1024 (by decide) ?_
    have e : (n : Int) + 6 = ((n + 6 : Nat) : Int) := by omega
    rw [e]
    exact ih (n + 6) (by omega) (by omega) m Im ibm
abbrev bLw (p : Program) (l : Launch) (e : Env) (s : State) (m : MethodId) (below : List Frame) (meth : Method) (c : Code) (bb : Nat) : Ab := (p, l, e, room_1, s, m, #[Value.ref bb], below, meth, c, (101, 383035), lw_Z below #[Value.ref bb] s, fun q : Nat => s.heap.size ≤ q)
theorem l_end {p : Program} {l : Launch} {e : Env} {s : State} {m : MethodId} {below : List Frame} {meth : Method} {c : Code} {bb : Nat} {G : Cx} {ls : List (Option Value)} {σ : Mm} (hr : meth.sig.returnType = ret) : At yd_L G (bLw p l e s m below meth c bb) 1027 ls [] σ := by
  refine st_iconst 1028 (v := 1) dL_law_1027 (by decide) rfl ?_
  intro g H locs la hP hS hl
  refine va_forget (fun q hq => hS.2.2 q hq) ?_
  refine W.widen (k := 600000) (n := 7302250) (Nat.le_of_ble_eq_true rfl) (Nat.le_of_ble_eq_true rfl) ?_
  exact lw_ret g.1 g.2.1 hr g.2.2.2.2.2.2.2.2.2.1 dL_law_1028
