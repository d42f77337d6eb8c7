/-! THE CLAIM OUT OF ONE WALK OF THE LAW'S BODY. Your part is whole_start (and what it stands on); all else here is the same for every law, but numbers. -/
def R_law : String := "PaperPocketLaw"
def lw_P (b : Addr) (xs : List Int32) (args : Array Value) (s : State) : Prop := args = #[.ref b] ∧ s.IntsAt b xs ∧ xs.length ≤ 3072 ∧ (Jvm.Cond.and given_1 narrow_1).before args s = true
def lw_Q (_ : Array Value) (s : State) (o : Outcome) (t : State) : Prop := o = .returned (some (.int 1)) ∧ Framed s o t [] 600000 7302250
def lw_Z (below : List Frame) (a : Array Value) (s : State) : State → Prop := fun t => ∃ o, t.status = .running ∧ Ended t below o ∧ lw_Q a s o t
/-- the law's own end, with 1 on the stack, nothing written that was there before, its room as the claim has it -/
theorem lw_ret {p : Program} {l : Launch} {e : Env} {s : State} {m : MethodId} {below : List Frame} {meth : Method} {c : Code} {b : Nat} (hx : p.tables.exec = Jvm.exec) (hb : c.code = code) (hr : meth.sig.returnType = ret) (hlocks : meth.locks = false) {pc : Nat} {H : Heap} {ls : Array Slot} (hdg : decode code pc = .ok (.ireturn, 1)) : W p l e room_1 s m #[Value.ref b] below meth c H [] 600000 7302250 (lw_Z below #[Value.ref b] s) (F0 m pc ls [.int 1]) := by
  intro T hT X
  obtain ⟨fs, hret, hrun, hended, hW, hframe⟩ := X.leave (v := some (.int 1)) (hlocks := hlocks) (fun h => by rw [hr] at h; cases h)
  have hmeth' : T.vm.method? m = some meth := X.method'
  refine ⟨T.setFrames fs, ?_, .returned (some (.int 1)), hrun, hended, rfl, ⟨_, rfl⟩, hW, hframe⟩
  jvm_step X.here [X.here.top, hx, hb, hdg, hmeth', hr, ret, narrow_b1]
  (try refine ⟨rfl, ?_⟩); (try refine ⟨rfl, ?_⟩)
  first | (intro acts; rw [hret _ acts rfl rfl rfl]) | rw [hret _ _ rfl rfl rfl]
  exact Steps.refl _
/-- what holds at the law's entry: the machine, the code, the tables' words (any of lw_tbl by 'hts w (by decide +kernel)'), the script of L ints xs at the cell b, what the Statement gives of the start (any of its parts by flat_of_before) -/
def lw_At (p : Program) (s : State) (m : MethodId) (meth : Method) (c : Code) (b L : Nat) (xs : Nat → Int32) : Prop :=
  p.tables.exec = Jvm.exec ∧ c.code = code ∧ meth.sig.returnType = ret ∧ c.maxLocals = 4 ∧ s.vm.findClass R_law = some m.cls ∧ (∀ w ∈ lw_tbl, w.before #[Value.ref b] s = true) ∧ va_X b L xs s s.heap ∧ b < s.heap.size ∧ meth.locks = false ∧ (Jvm.Cond.and given_1 narrow_1).before #[Value.ref b] s = true
/-- the law's own machine: its end, its script at jB + 20 -/
def jLaw (G : jG) (L : Nat) (xs : Nat → Int32) : Prop := match G with
  | ((p, l, e, R, s, m, args, below, meth, c, Q), dC, dI, A, n0, ad0) => R = room_1 ∧ args = #[Value.ref (ad0 (jB + 20))] ∧ meth.sig.returnType = ret ∧ Q = lw_Z below args s ∧ A = (fun q : Nat => s.heap.size ≤ q) ∧ va_X (ad0 (jB + 20)) L xs s s.heap ∧ ad0 (jB + 20) < s.heap.size
section JLAW
variable {G : jG} {own : String} {cc : ByteArray} {nL u us pc L : Nat} {lv : Nat → Option Value} {st : List Value} {sh : jSh} {mem : jMem} {xs : Nat → Int32}
theorem j_sld (X : jOk G own cc nL) (hG : jLaw G L xs) {x : Int32} (hi : vp_in x L) (hd : decode cc pc = .ok (.iaload, 1)) (k : J G own cc nL u us (pc + 1) lv (.int (xs x.toNatClampNeg) :: st) sh mem) : J G own cc nL u us pc lv (.int x :: .ref (jB + 20) :: st) sh mem := by
  obtain ⟨⟨p, l, e, R, s, m, args, below, meth, c, Q⟩, dC, dI, A, n0, ad0⟩ := G
  intro H locs ls ad cy hw hl
  obtain ⟨-, -, -, -, rfl, hX, hb⟩ := hG
  have e9 : ad (jB + 20) = ad0 (jB + 20) := hw.2.2.2.2.1.1 _ (Or.inr (Nat.le_add_right _ _))
  show W _ _ _ _ _ _ _ _ _ _ _ _ _ _ _ (F0 m pc ls (.int x :: .ref (ad (jB + 20)) :: st.map (jv ad)))
  rw [e9]
  exact va_sld X.1 X.2.1 hX hb (Nat.not_le.mpr hb) hw.2.2.1 hi hd (k H locs ls ad cy hw hl)
theorem j_scl (X : jOk G own cc nL) (hG : jLaw G L xs) (hd : decode cc pc = .ok (.arraylength, 1)) (k : J G own cc nL u us (pc + 1) lv (.int (nI L) :: st) sh mem) : J G own cc nL u us pc lv (.ref (jB + 20) :: st) sh mem := by
  obtain ⟨⟨p, l, e, R, s, m, args, below, meth, c, Q⟩, dC, dI, A, n0, ad0⟩ := G
  intro H locs ls ad cy hw hl
  obtain ⟨-, -, -, -, rfl, hX, hb⟩ := hG
  have e9 : ad (jB + 20) = ad0 (jB + 20) := hw.2.2.2.2.1.1 _ (Or.inr (Nat.le_add_right _ _))
  show W _ _ _ _ _ _ _ _ _ _ _ _ _ _ _ (F0 m pc ls (.ref (ad (jB + 20)) :: st.map (jv ad)))
  rw [e9]
  exact va_slen X.1 X.2.1 hX hb (Nat.not_le.mpr hb) hw.2.2.1 hd (k H locs ls ad cy hw hl)
theorem j_lend (X : jOk G own code nL) (hG : jLaw G L xs) (hu : u ≤ 600000) (hus : us ≤ 7302250) (hd : decode code pc = .ok (.ireturn, 1)) : J G own code nL u us pc lv [.int 1] sh mem := by
  obtain ⟨⟨p, l, e, R, s, m, args, below, meth, c, Q⟩, dC, dI, A, n0, ad0⟩ := G
  intro H locs ls ad cy hw hl
  obtain ⟨rfl, rfl, hr, rfl, rfl, hX, hb⟩ := hG
  refine va_forget (fun q hq => hw.2.2.1.2.2 q hq) ?_
  refine W.widen (k := 600000) (n := 7302250) hu hus ?_
  exact lw_ret X.1 X.2.1 hr X.2.2.2.2.2.2.2.2 hd
end JLAW
/-- an argument out of the script -/
theorem lw_arg {G : jG} {u us pc L i : Nat} {a b : Option Value} {st : List Value} {sh : jSh} {mem : jMem} {xs : Nat → Int32} {z : Int} (X : jOk G RL code 4) (hG : jLaw G L xs) (hi : i + 6 ≤ L) (hL : L ≤ 3072) (j : Nat) (hj : j < 6) (hz : Int32.ofInt z = nI j) (d0 : decode code pc = .ok (.aload_n 0, 1)) (d1 : decode code (pc + 1) = .ok (.iload_n 3, 1)) (d2 : decode code (pc + 1 + 1) = .ok (.iconst z, 1)) (d3 : decode code (pc + 1 + 1 + 1) = .ok (.iadd, 1)) (d4 : decode code (pc + 1 + 1 + 1 + 1) = .ok (.iaload, 1)) (k : J G RL code 4 u us (pc + 5) (jlv [some (.ref (jB + 20)), a, b, some (.int (nI i))]) (.int (xs (i + j)) :: st) sh mem) : J G RL code 4 u us pc (jlv [some (.ref (jB + 20)), a, b, some (.int (nI i))]) st sh mem := by
  refine j_aload_n X d0 rfl ?_
  refine j_iload_n X d1 rfl ?_
  refine j_iconst X d2 (nI j) hz ?_
  refine j_iadd X d3 ?_
  rw [nI_add]
  refine j_sld X hG (vp_in_nI (show i + j < L by omega) (by omega)) d4 ?_
  rw [nI_clamp (by omega)]
  exact k
set_option maxRecDepth 4000 in
set_option maxHeartbeats 1000000 in
theorem la_sheet {G : jG} {L u us np i : Nat} {xs : Nat → Int32} {mem : jMem} (X : jOk G RL code 4) (hR : jRm G 60 600000 7302250) (hG : jLaw G L xs) (hu : u + 2 ≤ 600000) (hus : us + 12 ≤ 7302250) (hi : i + 6 ≤ L) (hL : L ≤ 3072) (h : Inv np mem) (kk : ∀ np2 m2, Inv np2 m2 → J G RL code 4 (u + 2) (us + 12) 1644 (jlv [some (.ref (jB + 20)), some (.ref 0), some (.ref 66), some (.int (nI i))]) [] (jS np2) m2) : J G RL code 4 u us 200 (jlv [some (.ref (jB + 20)), some (.ref 0), some (.ref 66), some (.int (nI i))]) [] (jS np) mem := by
  obtain ⟨P1, h1, h2⟩ := sim_sheet np mem h (xs (i + 1)) (xs (i + 2)) (xs (i + 3))
  refine j_aload_n X dL_law_200 rfl ?_
  refine lw_arg X hG hi hL 1 (by decide) (by decide) dL_law_201 dL_law_202 dL_law_203 dL_law_204 dL_law_205 ?_
  refine lw_arg X hG hi hL 2 (by decide) (by decide) dL_law_206 dL_law_207 dL_law_208 dL_law_209 dL_law_210 ?_
  refine lw_arg X hG hi hL 3 (by decide) (by decide) dL_law_211 dL_law_212 dL_law_213 dL_law_214 dL_law_215 ?_
  refine l_callVi X hR ⟨by omega, by omega⟩ h1 rfl 10 (by decide) (o0 _) (k0 _) rfl u287 u284 u285 u286 u1 hyX10_sheet (by decide) (by decide) (Nat.le_of_ble_eq_true rfl) dL_law_216 (fun v1 m1 q1 => ?_)
  obtain ⟨P2, h3, h4⟩ := h2 v1 m1 q1
  refine j_aload_n X dL_law_219 rfl ?_
  refine lw_arg X hG hi hL 1 (by decide) (by decide) dL_law_220 dL_law_221 dL_law_222 dL_law_223 dL_law_224 ?_
  refine lw_arg X hG hi hL 2 (by decide) (by decide) dL_law_225 dL_law_226 dL_law_227 dL_law_228 dL_law_229 ?_
  refine lw_arg X hG hi hL 3 (by decide) (by decide) dL_law_230 dL_law_231 dL_law_232 dL_law_233 dL_law_234 ?_
  refine l_callVi X hR ⟨by omega, by omega⟩ h3 rfl 11 (by decide) (o66 _) (k66 _) rfl u1080 u1077 u1078 u1079 u12 hyX11_sheet (by decide) (by decide) (Nat.le_of_ble_eq_true rfl) dL_law_235 (fun v2 m2 q2 => ?_)
  obtain ⟨rfl, hI⟩ := h4 v2 m2 q2
  refine j_icmp_eq X 1644 dL_law_238 (by decide) (fun _ => ?_) (fun z => absurd rfl z)
  exact j_widen (by omega) (by omega) (kk np m2 hI)
set_option maxRecDepth 4000 in
set_option maxHeartbeats 1000000 in
theorem la_set {G : jG} {L u us np i : Nat} {xs : Nat → Int32} {mem : jMem} (X : jOk G RL code 4) (hR : jRm G 60 600000 7302250) (hG : jLaw G L xs) (hu : u + 2 ≤ 600000) (hus : us + 12 ≤ 7302250) (hi : i + 6 ≤ L) (hL : L ≤ 3072) (h : Inv np mem) (kk : ∀ np2 m2, Inv np2 m2 → J G RL code 4 (u + 2) (us + 12) 1644 (jlv [some (.ref (jB + 20)), some (.ref 0), some (.ref 66), some (.int (nI i))]) [] (jS np2) m2) : J G RL code 4 u us 243 (jlv [some (.ref (jB + 20)), some (.ref 0), some (.ref 66), some (.int (nI i))]) [] (jS np) mem := by
  obtain ⟨P1, h1, h2⟩ := sim_set np mem h (xs (i + 1)) (xs (i + 2)) (xs (i + 3))
  refine j_aload_n X dL_law_243 rfl ?_
  refine lw_arg X hG hi hL 1 (by decide) (by decide) dL_law_244 dL_law_245 dL_law_246 dL_law_247 dL_law_248 ?_
  refine lw_arg X hG hi hL 2 (by decide) (by decide) dL_law_249 dL_law_250 dL_law_251 dL_law_252 dL_law_253 ?_
  refine lw_arg X hG hi hL 3 (by decide) (by decide) dL_law_254 dL_law_255 dL_law_256 dL_law_257 dL_law_258 ?_
  refine l_callVi X hR ⟨by omega, by omega⟩ h1 rfl 10 (by decide) (o0 _) (k0 _) rfl u312 u309 u310 u311 u1 hyX10_set (by decide) (by decide) (Nat.le_of_ble_eq_true rfl) dL_law_259 (fun v1 m1 q1 => ?_)
  obtain ⟨P2, h3, h4⟩ := h2 v1 m1 q1
  refine j_aload_n X dL_law_262 rfl ?_
  refine lw_arg X hG hi hL 1 (by decide) (by decide) dL_law_263 dL_law_264 dL_law_265 dL_law_266 dL_law_267 ?_
  refine lw_arg X hG hi hL 2 (by decide) (by decide) dL_law_268 dL_law_269 dL_law_270 dL_law_271 dL_law_272 ?_
  refine lw_arg X hG hi hL 3 (by decide) (by decide) dL_law_273 dL_law_274 dL_law_275 dL_law_276 dL_law_277 ?_
  refine l_callVi X hR ⟨by omega, by omega⟩ h3 rfl 11 (by decide) (o66 _) (k66 _) rfl u1098 u1095 u1096 u1097 u12 hyX11_set (by decide) (by decide) (Nat.le_of_ble_eq_true rfl) dL_law_278 (fun v2 m2 q2 => ?_)
  obtain ⟨rfl, hI⟩ := h4 v2 m2 q2
  refine j_icmp_eq X 1644 dL_law_281 (by decide) (fun _ => ?_) (fun z => absurd rfl z)
  exact j_widen (by omega) (by omega) (kk np m2 hI)
set_option maxRecDepth 4000 in
set_option maxHeartbeats 1000000 in
theorem la_copy {G : jG} {L u us np i : Nat} {xs : Nat → Int32} {mem : jMem} (X : jOk G RL code 4) (hR : jRm G 60 600000 7302250) (hG : jLaw G L xs) (hu : u + 2 ≤ 600000) (hus : us + 12 ≤ 7302250) (hi : i + 6 ≤ L) (hL : L ≤ 3072) (h : Inv np mem) (kk : ∀ np2 m2, Inv np2 m2 → J G RL code 4 (u + 2) (us + 12) 1644 (jlv [some (.ref (jB + 20)), some (.ref 0), some (.ref 66), some (.int (nI i))]) [] (jS np2) m2) : J G RL code 4 u us 286 (jlv [some (.ref (jB + 20)), some (.ref 0), some (.ref 66), some (.int (nI i))]) [] (jS np) mem := by
  obtain ⟨P1, h1, h2⟩ := sim_copy np mem h (xs (i + 1)) (xs (i + 2)) (xs (i + 3)) (xs (i + 4)) (xs (i + 5))
  refine j_aload_n X dL_law_286 rfl ?_
  refine lw_arg X hG hi hL 1 (by decide) (by decide) dL_law_287 dL_law_288 dL_law_289 dL_law_290 dL_law_291 ?_
  refine lw_arg X hG hi hL 2 (by decide) (by decide) dL_law_292 dL_law_293 dL_law_294 dL_law_295 dL_law_296 ?_
  refine lw_arg X hG hi hL 3 (by decide) (by decide) dL_law_297 dL_law_298 dL_law_299 dL_law_300 dL_law_301 ?_
  refine lw_arg X hG hi hL 4 (by decide) (by decide) dL_law_302 dL_law_303 dL_law_304 dL_law_305 dL_law_306 ?_
  refine lw_arg X hG hi hL 5 (by decide) (by decide) dL_law_307 dL_law_308 dL_law_309 dL_law_310 dL_law_311 ?_
  refine l_callVi X hR ⟨by omega, by omega⟩ h1 rfl 10 (by decide) (o0 _) (k0 _) rfl u332 u329 u330 u331 u1 hyX10_copy (by decide) (by decide) (Nat.le_of_ble_eq_true rfl) dL_law_312 (fun v1 m1 q1 => ?_)
  obtain ⟨P2, h3, h4⟩ := h2 v1 m1 q1
  refine j_aload_n X dL_law_315 rfl ?_
  refine lw_arg X hG hi hL 1 (by decide) (by decide) dL_law_316 dL_law_317 dL_law_318 dL_law_319 dL_law_320 ?_
  refine lw_arg X hG hi hL 2 (by decide) (by decide) dL_law_321 dL_law_322 dL_law_323 dL_law_324 dL_law_325 ?_
  refine lw_arg X hG hi hL 3 (by decide) (by decide) dL_law_326 dL_law_327 dL_law_328 dL_law_329 dL_law_330 ?_
  refine lw_arg X hG hi hL 4 (by decide) (by decide) dL_law_331 dL_law_332 dL_law_333 dL_law_334 dL_law_335 ?_
  refine lw_arg X hG hi hL 5 (by decide) (by decide) dL_law_336 dL_law_337 dL_law_338 dL_law_339 dL_law_340 ?_
  refine l_callVi X hR ⟨by omega, by omega⟩ h3 rfl 11 (by decide) (o66 _) (k66 _) rfl u1102 u1099 u1100 u1101 u12 hyX11_copy (by decide) (by decide) (Nat.le_of_ble_eq_true rfl) dL_law_341 (fun v2 m2 q2 => ?_)
  obtain ⟨rfl, hI⟩ := h4 v2 m2 q2
  refine j_icmp_eq X 1644 dL_law_344 (by decide) (fun _ => ?_) (fun z => absurd rfl z)
  exact j_widen (by omega) (by omega) (kk np m2 hI)
set_option maxRecDepth 4000 in
set_option maxHeartbeats 1000000 in
theorem la_drop {G : jG} {L u us np i : Nat} {xs : Nat → Int32} {mem : jMem} (X : jOk G RL code 4) (hR : jRm G 60 600000 7302250) (hG : jLaw G L xs) (hu : u + 2 ≤ 600000) (hus : us + 12 ≤ 7302250) (hi : i + 6 ≤ L) (hL : L ≤ 3072) (h : Inv np mem) (kk : ∀ np2 m2, Inv np2 m2 → J G RL code 4 (u + 2) (us + 12) 1644 (jlv [some (.ref (jB + 20)), some (.ref 0), some (.ref 66), some (.int (nI i))]) [] (jS np2) m2) : J G RL code 4 u us 349 (jlv [some (.ref (jB + 20)), some (.ref 0), some (.ref 66), some (.int (nI i))]) [] (jS np) mem := by
  obtain ⟨P1, h1, h2⟩ := sim_drop np mem h (xs (i + 1))
  refine j_aload_n X dL_law_349 rfl ?_
  refine lw_arg X hG hi hL 1 (by decide) (by decide) dL_law_350 dL_law_351 dL_law_352 dL_law_353 dL_law_354 ?_
  refine l_callVi X hR ⟨by omega, by omega⟩ h1 rfl 10 (by decide) (o0 _) (k0 _) rfl u341 u338 u339 u340 u1 hyX10_drop (by decide) (by decide) (Nat.le_of_ble_eq_true rfl) dL_law_355 (fun v1 m1 q1 => ?_)
  obtain ⟨P2, h3, h4⟩ := h2 v1 m1 q1
  refine j_aload_n X dL_law_358 rfl ?_
  refine lw_arg X hG hi hL 1 (by decide) (by decide) dL_law_359 dL_law_360 dL_law_361 dL_law_362 dL_law_363 ?_
  refine l_callVi X hR ⟨by omega, by omega⟩ h3 rfl 11 (by decide) (o66 _) (k66 _) rfl u1106 u1103 u1104 u1105 u12 hyX11_drop (by decide) (by decide) (Nat.le_of_ble_eq_true rfl) dL_law_364 (fun v2 m2 q2 => ?_)
  obtain ⟨rfl, hI⟩ := h4 v2 m2 q2
  refine j_icmp_eq X 1644 dL_law_367 (by decide) (fun _ => ?_) (fun z => absurd rfl z)
  exact j_widen (by omega) (by omega) (kk np m2 hI)
set_option maxRecDepth 4000 in
set_option maxHeartbeats 1000000 in
theorem la_key {G : jG} {L u us np i : Nat} {xs : Nat → Int32} {mem : jMem} (X : jOk G RL code 4) (hR : jRm G 60 600000 7302250) (hG : jLaw G L xs) (hu : u + 2 ≤ 600000) (hus : us + 12 ≤ 7302250) (hi : i + 6 ≤ L) (hL : L ≤ 3072) (h : Inv np mem) (kk : ∀ np2 m2, Inv np2 m2 → J G RL code 4 (u + 2) (us + 12) 1644 (jlv [some (.ref (jB + 20)), some (.ref 0), some (.ref 66), some (.int (nI i))]) [] (jS np2) m2) : J G RL code 4 u us 372 (jlv [some (.ref (jB + 20)), some (.ref 0), some (.ref 66), some (.int (nI i))]) [] (jS np) mem := by
  obtain ⟨P1, h1, h2⟩ := sim_key np mem h (xs (i + 1)) (xs (i + 2)) (xs (i + 3))
  refine j_aload_n X dL_law_372 rfl ?_
  refine lw_arg X hG hi hL 1 (by decide) (by decide) dL_law_373 dL_law_374 dL_law_375 dL_law_376 dL_law_377 ?_
  refine lw_arg X hG hi hL 2 (by decide) (by decide) dL_law_378 dL_law_379 dL_law_380 dL_law_381 dL_law_382 ?_
  refine lw_arg X hG hi hL 3 (by decide) (by decide) dL_law_383 dL_law_384 dL_law_385 dL_law_386 dL_law_387 ?_
  refine l_callVi X hR ⟨by omega, by omega⟩ h1 rfl 10 (by decide) (o0 _) (k0 _) rfl u349 u346 u347 u348 u1 hyX10_key (by decide) (by decide) (Nat.le_of_ble_eq_true rfl) dL_law_388 (fun v1 m1 q1 => ?_)
  obtain ⟨P2, h3, h4⟩ := h2 v1 m1 q1
  refine j_aload_n X dL_law_391 rfl ?_
  refine lw_arg X hG hi hL 1 (by decide) (by decide) dL_law_392 dL_law_393 dL_law_394 dL_law_395 dL_law_396 ?_
  refine lw_arg X hG hi hL 2 (by decide) (by decide) dL_law_397 dL_law_398 dL_law_399 dL_law_400 dL_law_401 ?_
  refine lw_arg X hG hi hL 3 (by decide) (by decide) dL_law_402 dL_law_403 dL_law_404 dL_law_405 dL_law_406 ?_
  refine l_callVi X hR ⟨by omega, by omega⟩ h3 rfl 11 (by decide) (o66 _) (k66 _) rfl u1110 u1107 u1108 u1109 u12 hyX11_key (by decide) (by decide) (Nat.le_of_ble_eq_true rfl) dL_law_407 (fun v2 m2 q2 => ?_)
  obtain ⟨rfl, hI⟩ := h4 v2 m2 q2
  refine j_icmp_eq X 1644 dL_law_410 (by decide) (fun _ => ?_) (fun z => absurd rfl z)
  exact j_widen (by omega) (by omega) (kk np m2 hI)
set_option maxRecDepth 4000 in
set_option maxHeartbeats 1000000 in
theorem la_keyOn {G : jG} {L u us np i : Nat} {xs : Nat → Int32} {mem : jMem} (X : jOk G RL code 4) (hR : jRm G 60 600000 7302250) (hG : jLaw G L xs) (hu : u + 2 ≤ 600000) (hus : us + 12 ≤ 7302250) (hi : i + 6 ≤ L) (hL : L ≤ 3072) (h : Inv np mem) (kk : ∀ np2 m2, Inv np2 m2 → J G RL code 4 (u + 2) (us + 12) 1644 (jlv [some (.ref (jB + 20)), some (.ref 0), some (.ref 66), some (.int (nI i))]) [] (jS np2) m2) : J G RL code 4 u us 415 (jlv [some (.ref (jB + 20)), some (.ref 0), some (.ref 66), some (.int (nI i))]) [] (jS np) mem := by
  obtain ⟨P1, h1, h2⟩ := sim_keyOn np mem h (xs (i + 1)) (xs (i + 2))
  refine j_aload_n X dL_law_415 rfl ?_
  refine lw_arg X hG hi hL 1 (by decide) (by decide) dL_law_416 dL_law_417 dL_law_418 dL_law_419 dL_law_420 ?_
  refine lw_arg X hG hi hL 2 (by decide) (by decide) dL_law_421 dL_law_422 dL_law_423 dL_law_424 dL_law_425 ?_
  refine l_callVi X hR ⟨by omega, by omega⟩ h1 rfl 10 (by decide) (o0 _) (k0 _) rfl u365 u362 u363 u364 u1 hyX10_keyOn (by decide) (by decide) (Nat.le_of_ble_eq_true rfl) dL_law_426 (fun v1 m1 q1 => ?_)
  obtain ⟨P2, h3, h4⟩ := h2 v1 m1 q1
  refine j_aload_n X dL_law_429 rfl ?_
  refine lw_arg X hG hi hL 1 (by decide) (by decide) dL_law_430 dL_law_431 dL_law_432 dL_law_433 dL_law_434 ?_
  refine lw_arg X hG hi hL 2 (by decide) (by decide) dL_law_435 dL_law_436 dL_law_437 dL_law_438 dL_law_439 ?_
  refine l_callVi X hR ⟨by omega, by omega⟩ h3 rfl 11 (by decide) (o66 _) (k66 _) rfl u1124 u1121 u1122 u1123 u12 hyX11_keyOn (by decide) (by decide) (Nat.le_of_ble_eq_true rfl) dL_law_440 (fun v2 m2 q2 => ?_)
  obtain ⟨rfl, hI⟩ := h4 v2 m2 q2
  refine j_icmp_eq X 1644 dL_law_443 (by decide) (fun _ => ?_) (fun z => absurd rfl z)
  exact j_widen (by omega) (by omega) (kk np m2 hI)
set_option maxRecDepth 4000 in
set_option maxHeartbeats 1000000 in
theorem la_close {G : jG} {L u us np i : Nat} {xs : Nat → Int32} {mem : jMem} (X : jOk G RL code 4) (hR : jRm G 60 600000 7302250) (hG : jLaw G L xs) (hu : u + 2 ≤ 600000) (hus : us + 12 ≤ 7302250) (hi : i + 6 ≤ L) (hL : L ≤ 3072) (h : Inv np mem) (kk : ∀ np2 m2, Inv np2 m2 → J G RL code 4 (u + 2) (us + 12) 1644 (jlv [some (.ref (jB + 20)), some (.ref 0), some (.ref 66), some (.int (nI i))]) [] (jS np2) m2) : J G RL code 4 u us 448 (jlv [some (.ref (jB + 20)), some (.ref 0), some (.ref 66), some (.int (nI i))]) [] (jS np) mem := by
  obtain ⟨P1, h1, h2⟩ := sim_close np mem h (xs (i + 1)) (xs (i + 2)) (xs (i + 3))
  refine j_aload_n X dL_law_448 rfl ?_
  refine lw_arg X hG hi hL 1 (by decide) (by decide) dL_law_449 dL_law_450 dL_law_451 dL_law_452 dL_law_453 ?_
  refine lw_arg X hG hi hL 2 (by decide) (by decide) dL_law_454 dL_law_455 dL_law_456 dL_law_457 dL_law_458 ?_
  refine lw_arg X hG hi hL 3 (by decide) (by decide) dL_law_459 dL_law_460 dL_law_461 dL_law_462 dL_law_463 ?_
  refine l_callVi X hR ⟨by omega, by omega⟩ h1 rfl 10 (by decide) (o0 _) (k0 _) rfl u373 u370 u371 u372 u1 hyX10_close (by decide) (by decide) (Nat.le_of_ble_eq_true rfl) dL_law_464 (fun v1 m1 q1 => ?_)
  obtain ⟨P2, h3, h4⟩ := h2 v1 m1 q1
  refine j_aload_n X dL_law_467 rfl ?_
  refine lw_arg X hG hi hL 1 (by decide) (by decide) dL_law_468 dL_law_469 dL_law_470 dL_law_471 dL_law_472 ?_
  refine lw_arg X hG hi hL 2 (by decide) (by decide) dL_law_473 dL_law_474 dL_law_475 dL_law_476 dL_law_477 ?_
  refine lw_arg X hG hi hL 3 (by decide) (by decide) dL_law_478 dL_law_479 dL_law_480 dL_law_481 dL_law_482 ?_
  refine l_callVi X hR ⟨by omega, by omega⟩ h3 rfl 11 (by decide) (o66 _) (k66 _) rfl u1132 u1129 u1130 u1131 u12 hyX11_close (by decide) (by decide) (Nat.le_of_ble_eq_true rfl) dL_law_483 (fun v2 m2 q2 => ?_)
  obtain ⟨rfl, hI⟩ := h4 v2 m2 q2
  refine j_icmp_eq X 1644 dL_law_486 (by decide) (fun _ => ?_) (fun z => absurd rfl z)
  exact j_widen (by omega) (by omega) (kk np m2 hI)
set_option maxRecDepth 4000 in
set_option maxHeartbeats 1000000 in
theorem la_paper {G : jG} {L u us np i : Nat} {xs : Nat → Int32} {mem : jMem} (X : jOk G RL code 4) (hR : jRm G 60 600000 7302250) (hG : jLaw G L xs) (hu : u + 2 ≤ 600000) (hus : us + 12 ≤ 7302250) (hi : i + 6 ≤ L) (hL : L ≤ 3072) (h : Inv np mem) (kk : ∀ np2 m2, Inv np2 m2 → J G RL code 4 (u + 2) (us + 12) 1644 (jlv [some (.ref (jB + 20)), some (.ref 0), some (.ref 66), some (.int (nI i))]) [] (jS np2) m2) : J G RL code 4 u us 491 (jlv [some (.ref (jB + 20)), some (.ref 0), some (.ref 66), some (.int (nI i))]) [] (jS np) mem := by
  rcases sim_paper np mem h (xs (i + 1)) (xs (i + 2)) with ⟨P1, h1, h2⟩ | ⟨x, M1, h1, P2, h3, h4⟩
  · refine j_aload_n X dL_law_491 rfl ?_
    refine lw_arg X hG hi hL 1 (by decide) (by decide) dL_law_492 dL_law_493 dL_law_494 dL_law_495 dL_law_496 ?_
    refine lw_arg X hG hi hL 2 (by decide) (by decide) dL_law_497 dL_law_498 dL_law_499 dL_law_500 dL_law_501 ?_
    refine l_callVi X hR ⟨by omega, by omega⟩ h1 rfl 10 (by decide) (o0 _) (k0 _) rfl u378 u375 u376 u377 u1 hyX10_paper (by decide) (by decide) (Nat.le_of_ble_eq_true rfl) dL_law_502 (fun v1 m1 q1 => ?_)
    obtain ⟨P2, h3, h4⟩ := h2 v1 m1 q1
    refine j_aload_n X dL_law_505 rfl ?_
    refine lw_arg X hG hi hL 1 (by decide) (by decide) dL_law_506 dL_law_507 dL_law_508 dL_law_509 dL_law_510 ?_
    refine lw_arg X hG hi hL 2 (by decide) (by decide) dL_law_511 dL_law_512 dL_law_513 dL_law_514 dL_law_515 ?_
    refine l_callVi X hR ⟨by omega, by omega⟩ h3 rfl 11 (by decide) (o66 _) (k66 _) rfl u1137 u1134 u1135 u1136 u12 hyX11_paper (by decide) (by decide) (Nat.le_of_ble_eq_true rfl) dL_law_516 (fun v2 m2 q2 => ?_)
    obtain ⟨rfl, hI⟩ := h4 v2 m2 q2
    refine j_icmp_eq X 1644 dL_law_519 (by decide) (fun _ => ?_) (fun z => absurd rfl z)
    exact j_widen (by omega) (by omega) (kk np m2 hI)
  · refine j_aload_n X dL_law_491 rfl ?_
    refine lw_arg X hG hi hL 1 (by decide) (by decide) dL_law_492 dL_law_493 dL_law_494 dL_law_495 dL_law_496 ?_
    refine lw_arg X hG hi hL 2 (by decide) (by decide) dL_law_497 dL_law_498 dL_law_499 dL_law_500 dL_law_501 ?_
    refine j_callV X hR h1 rfl 10 (by decide) (o0 _) (k0 _) rfl u378 u375 u376 u377 u1 hyX10_paper (by decide) (by decide) (Nat.le_of_ble_eq_true rfl) ⟨by omega, by omega⟩ dL_law_502 (fun r sh2 m1 q1 => ?_)
    obtain ⟨rfl, rfl, rfl⟩ := q1
    refine ⟨Or.inr (jvo_l (fun v hv => ?_) (fun v hv => absurd hv List.not_mem_nil)), ?_⟩
    · rcases (show v = .ref (jB + 20) ∨ v = .ref 0 ∨ v = .ref 66 ∨ v = .int (nI i) by simpa using hv) with rfl | rfl | rfl | rfl
      · exact jok_r (Or.inr (Nat.le_add_right _ _))
      · exact jok_r (Or.inl (o0 _))
      · exact jok_r (Or.inl (o66 _))
      · exact jok_i
    refine j_aload_n X dL_law_505 rfl ?_
    refine lw_arg X hG hi hL 1 (by decide) (by decide) dL_law_506 dL_law_507 dL_law_508 dL_law_509 dL_law_510 ?_
    refine lw_arg X hG hi hL 2 (by decide) (by decide) dL_law_511 dL_law_512 dL_law_513 dL_law_514 dL_law_515 ?_
    refine l_callVi X hR ⟨by omega, by omega⟩ h3 rfl 11 (by decide) (o66 _) (k66 _) rfl u1137 u1134 u1135 u1136 u12 hyX11_paper (by decide) (by decide) (Nat.le_of_ble_eq_true rfl) dL_law_516 (fun v2 m2 q2 => ?_)
    obtain ⟨rfl, hI⟩ := h4 v2 m2 q2
    refine j_icmp_eq X 1644 dL_law_519 (by decide) (fun _ => ?_) (fun z => absurd rfl z)
    exact kk (np + 1) m2 hI
set_option maxRecDepth 4000 in
set_option maxHeartbeats 1000000 in
theorem la_told {G : jG} {L u us np i : Nat} {xs : Nat → Int32} {mem : jMem} (X : jOk G RL code 4) (hR : jRm G 60 600000 7302250) (hG : jLaw G L xs) (hu : u + 2 ≤ 600000) (hus : us + 12 ≤ 7302250) (hi : i + 6 ≤ L) (hL : L ≤ 3072) (h : Inv np mem) (kk : ∀ np2 m2, Inv np2 m2 → J G RL code 4 (u + 2) (us + 12) 1644 (jlv [some (.ref (jB + 20)), some (.ref 0), some (.ref 66), some (.int (nI i))]) [] (jS np2) m2) : J G RL code 4 u us 524 (jlv [some (.ref (jB + 20)), some (.ref 0), some (.ref 66), some (.int (nI i))]) [] (jS np) mem := by
  obtain ⟨P1, h1, h2⟩ := sim_told np mem h (xs (i + 1)) (xs (i + 2))
  refine j_aload_n X dL_law_524 rfl ?_
  refine lw_arg X hG hi hL 1 (by decide) (by decide) dL_law_525 dL_law_526 dL_law_527 dL_law_528 dL_law_529 ?_
  refine lw_arg X hG hi hL 2 (by decide) (by decide) dL_law_530 dL_law_531 dL_law_532 dL_law_533 dL_law_534 ?_
  refine l_callVi X hR ⟨by omega, by omega⟩ h1 rfl 10 (by decide) (o0 _) (k0 _) rfl u431 u428 u429 u430 u1 hyX10_told (by decide) (by decide) (Nat.le_of_ble_eq_true rfl) dL_law_535 (fun v1 m1 q1 => ?_)
  obtain ⟨P2, h3, h4⟩ := h2 v1 m1 q1
  refine j_aload_n X dL_law_538 rfl ?_
  refine lw_arg X hG hi hL 1 (by decide) (by decide) dL_law_539 dL_law_540 dL_law_541 dL_law_542 dL_law_543 ?_
  refine lw_arg X hG hi hL 2 (by decide) (by decide) dL_law_544 dL_law_545 dL_law_546 dL_law_547 dL_law_548 ?_
  refine l_callVi X hR ⟨by omega, by omega⟩ h3 rfl 11 (by decide) (o66 _) (k66 _) rfl u1147 u1144 u1145 u1146 u12 hyX11_told (by decide) (by decide) (Nat.le_of_ble_eq_true rfl) dL_law_549 (fun v2 m2 q2 => ?_)
  obtain ⟨rfl, hI⟩ := h4 v2 m2 q2
  refine j_icmp_eq X 1644 dL_law_552 (by decide) (fun _ => ?_) (fun z => absurd rfl z)
  exact j_widen (by omega) (by omega) (kk np m2 hI)
set_option maxRecDepth 4000 in
set_option maxHeartbeats 1000000 in
theorem la_show {G : jG} {L u us np i : Nat} {xs : Nat → Int32} {mem : jMem} (X : jOk G RL code 4) (hR : jRm G 60 600000 7302250) (hG : jLaw G L xs) (hu : u + 2 ≤ 600000) (hus : us + 12 ≤ 7302250) (hi : i + 6 ≤ L) (hL : L ≤ 3072) (h : Inv np mem) (kk : ∀ np2 m2, Inv np2 m2 → J G RL code 4 (u + 2) (us + 12) 1644 (jlv [some (.ref (jB + 20)), some (.ref 0), some (.ref 66), some (.int (nI i))]) [] (jS np2) m2) : J G RL code 4 u us 557 (jlv [some (.ref (jB + 20)), some (.ref 0), some (.ref 66), some (.int (nI i))]) [] (jS np) mem := by
  obtain ⟨P1, h1, h2⟩ := sim_show np mem h (xs (i + 1)) (xs (i + 2)) (xs (i + 3))
  refine j_aload_n X dL_law_557 rfl ?_
  refine lw_arg X hG hi hL 1 (by decide) (by decide) dL_law_558 dL_law_559 dL_law_560 dL_law_561 dL_law_562 ?_
  refine lw_arg X hG hi hL 2 (by decide) (by decide) dL_law_563 dL_law_564 dL_law_565 dL_law_566 dL_law_567 ?_
  refine lw_arg X hG hi hL 3 (by decide) (by decide) dL_law_568 dL_law_569 dL_law_570 dL_law_571 dL_law_572 ?_
  refine l_callVi X hR ⟨by omega, by omega⟩ h1 rfl 10 (by decide) (o0 _) (k0 _) rfl u481 u478 u479 u480 u1 hyX10_show (by decide) (by decide) (Nat.le_of_ble_eq_true rfl) dL_law_573 (fun v1 m1 q1 => ?_)
  obtain ⟨P2, h3, h4⟩ := h2 v1 m1 q1
  refine j_aload_n X dL_law_576 rfl ?_
  refine lw_arg X hG hi hL 1 (by decide) (by decide) dL_law_577 dL_law_578 dL_law_579 dL_law_580 dL_law_581 ?_
  refine lw_arg X hG hi hL 2 (by decide) (by decide) dL_law_582 dL_law_583 dL_law_584 dL_law_585 dL_law_586 ?_
  refine lw_arg X hG hi hL 3 (by decide) (by decide) dL_law_587 dL_law_588 dL_law_589 dL_law_590 dL_law_591 ?_
  refine l_callVi X hR ⟨by omega, by omega⟩ h3 rfl 11 (by decide) (o66 _) (k66 _) rfl u1194 u1191 u1192 u1193 u12 hyX11_show (by decide) (by decide) (Nat.le_of_ble_eq_true rfl) dL_law_592 (fun v2 m2 q2 => ?_)
  obtain ⟨rfl, hI⟩ := h4 v2 m2 q2
  refine j_icmp_eq X 1644 dL_law_595 (by decide) (fun _ => ?_) (fun z => absurd rfl z)
  exact j_widen (by omega) (by omega) (kk np m2 hI)
set_option maxRecDepth 4000 in
set_option maxHeartbeats 1000000 in
theorem la_check {G : jG} {L u us np i : Nat} {xs : Nat → Int32} {mem : jMem} (X : jOk G RL code 4) (hR : jRm G 60 600000 7302250) (hG : jLaw G L xs) (hu : u + 2 ≤ 600000) (hus : us + 12 ≤ 7302250) (hi : i + 6 ≤ L) (hL : L ≤ 3072) (h : Inv np mem) (kk : ∀ np2 m2, Inv np2 m2 → J G RL code 4 (u + 2) (us + 12) 1644 (jlv [some (.ref (jB + 20)), some (.ref 0), some (.ref 66), some (.int (nI i))]) [] (jS np2) m2) : J G RL code 4 u us 600 (jlv [some (.ref (jB + 20)), some (.ref 0), some (.ref 66), some (.int (nI i))]) [] (jS np) mem := by
  obtain ⟨P1, h1, h2⟩ := sim_check np mem h (xs (i + 1)) (xs (i + 2)) (xs (i + 3)) (xs (i + 4)) (xs (i + 5))
  refine j_aload_n X dL_law_600 rfl ?_
  refine lw_arg X hG hi hL 1 (by decide) (by decide) dL_law_601 dL_law_602 dL_law_603 dL_law_604 dL_law_605 ?_
  refine lw_arg X hG hi hL 2 (by decide) (by decide) dL_law_606 dL_law_607 dL_law_608 dL_law_609 dL_law_610 ?_
  refine lw_arg X hG hi hL 3 (by decide) (by decide) dL_law_611 dL_law_612 dL_law_613 dL_law_614 dL_law_615 ?_
  refine lw_arg X hG hi hL 4 (by decide) (by decide) dL_law_616 dL_law_617 dL_law_618 dL_law_619 dL_law_620 ?_
  refine lw_arg X hG hi hL 5 (by decide) (by decide) dL_law_621 dL_law_622 dL_law_623 dL_law_624 dL_law_625 ?_
  refine l_callVi X hR ⟨by omega, by omega⟩ h1 rfl 10 (by decide) (o0 _) (k0 _) rfl u506 u503 u504 u505 u1 hyX10_check (by decide) (by decide) (Nat.le_of_ble_eq_true rfl) dL_law_626 (fun v1 m1 q1 => ?_)
  obtain ⟨P2, h3, h4⟩ := h2 v1 m1 q1
  refine j_aload_n X dL_law_629 rfl ?_
  refine lw_arg X hG hi hL 1 (by decide) (by decide) dL_law_630 dL_law_631 dL_law_632 dL_law_633 dL_law_634 ?_
  refine lw_arg X hG hi hL 2 (by decide) (by decide) dL_law_635 dL_law_636 dL_law_637 dL_law_638 dL_law_639 ?_
  refine lw_arg X hG hi hL 3 (by decide) (by decide) dL_law_640 dL_law_641 dL_law_642 dL_law_643 dL_law_644 ?_
  refine lw_arg X hG hi hL 4 (by decide) (by decide) dL_law_645 dL_law_646 dL_law_647 dL_law_648 dL_law_649 ?_
  refine lw_arg X hG hi hL 5 (by decide) (by decide) dL_law_650 dL_law_651 dL_law_652 dL_law_653 dL_law_654 ?_
  refine l_callVi X hR ⟨by omega, by omega⟩ h3 rfl 11 (by decide) (o66 _) (k66 _) rfl u1202 u1199 u1200 u1201 u12 hyX11_check (by decide) (by decide) (Nat.le_of_ble_eq_true rfl) dL_law_655 (fun v2 m2 q2 => ?_)
  obtain ⟨rfl, hI⟩ := h4 v2 m2 q2
  refine j_icmp_eq X 1644 dL_law_658 (by decide) (fun _ => ?_) (fun z => absurd rfl z)
  exact j_widen (by omega) (by omega) (kk np m2 hI)
set_option maxRecDepth 4000 in
set_option maxHeartbeats 1000000 in
theorem la_lies {G : jG} {L u us np i : Nat} {xs : Nat → Int32} {mem : jMem} (X : jOk G RL code 4) (hR : jRm G 60 600000 7302250) (hG : jLaw G L xs) (hu : u + 2 ≤ 600000) (hus : us + 12 ≤ 7302250) (hi : i + 6 ≤ L) (hL : L ≤ 3072) (h : Inv np mem) (kk : ∀ np2 m2, Inv np2 m2 → J G RL code 4 (u + 2) (us + 12) 1644 (jlv [some (.ref (jB + 20)), some (.ref 0), some (.ref 66), some (.int (nI i))]) [] (jS np2) m2) : J G RL code 4 u us 663 (jlv [some (.ref (jB + 20)), some (.ref 0), some (.ref 66), some (.int (nI i))]) [] (jS np) mem := by
  obtain ⟨P1, h1, h2⟩ := sim_lies np mem h (xs (i + 1)) (xs (i + 2))
  refine j_aload_n X dL_law_663 rfl ?_
  refine lw_arg X hG hi hL 1 (by decide) (by decide) dL_law_664 dL_law_665 dL_law_666 dL_law_667 dL_law_668 ?_
  refine lw_arg X hG hi hL 2 (by decide) (by decide) dL_law_669 dL_law_670 dL_law_671 dL_law_672 dL_law_673 ?_
  refine l_callVi X hR ⟨by omega, by omega⟩ h1 rfl 10 (by decide) (o0 _) (k0 _) rfl u526 u523 u524 u525 u1 hyX10_lies (by decide) (by decide) (Nat.le_of_ble_eq_true rfl) dL_law_674 (fun v1 m1 q1 => ?_)
  obtain ⟨P2, h3, h4⟩ := h2 v1 m1 q1
  refine j_aload_n X dL_law_677 rfl ?_
  refine lw_arg X hG hi hL 1 (by decide) (by decide) dL_law_678 dL_law_679 dL_law_680 dL_law_681 dL_law_682 ?_
  refine lw_arg X hG hi hL 2 (by decide) (by decide) dL_law_683 dL_law_684 dL_law_685 dL_law_686 dL_law_687 ?_
  refine l_callVi X hR ⟨by omega, by omega⟩ h3 rfl 11 (by decide) (o66 _) (k66 _) rfl u1206 u1203 u1204 u1205 u12 hyX11_lies (by decide) (by decide) (Nat.le_of_ble_eq_true rfl) dL_law_688 (fun v2 m2 q2 => ?_)
  obtain ⟨rfl, hI⟩ := h4 v2 m2 q2
  refine j_icmp_eq X 1644 dL_law_691 (by decide) (fun _ => ?_) (fun z => absurd rfl z)
  exact j_widen (by omega) (by omega) (kk np m2 hI)
set_option maxRecDepth 4000 in
set_option maxHeartbeats 1000000 in
theorem la_over {G : jG} {L u us np i : Nat} {xs : Nat → Int32} {mem : jMem} (X : jOk G RL code 4) (hR : jRm G 60 600000 7302250) (hG : jLaw G L xs) (hu : u + 2 ≤ 600000) (hus : us + 12 ≤ 7302250) (hi : i + 6 ≤ L) (hL : L ≤ 3072) (h : Inv np mem) (kk : ∀ np2 m2, Inv np2 m2 → J G RL code 4 (u + 2) (us + 12) 1644 (jlv [some (.ref (jB + 20)), some (.ref 0), some (.ref 66), some (.int (nI i))]) [] (jS np2) m2) : J G RL code 4 u us 696 (jlv [some (.ref (jB + 20)), some (.ref 0), some (.ref 66), some (.int (nI i))]) [] (jS np) mem := by
  obtain ⟨P1, h1, h2⟩ := sim_over np mem h (xs (i + 1)) (xs (i + 2)) (xs (i + 3))
  refine j_aload_n X dL_law_696 rfl ?_
  refine lw_arg X hG hi hL 1 (by decide) (by decide) dL_law_697 dL_law_698 dL_law_699 dL_law_700 dL_law_701 ?_
  refine lw_arg X hG hi hL 2 (by decide) (by decide) dL_law_702 dL_law_703 dL_law_704 dL_law_705 dL_law_706 ?_
  refine lw_arg X hG hi hL 3 (by decide) (by decide) dL_law_707 dL_law_708 dL_law_709 dL_law_710 dL_law_711 ?_
  refine l_callVi X hR ⟨by omega, by omega⟩ h1 rfl 10 (by decide) (o0 _) (k0 _) rfl u537 u534 u535 u536 u1 hyX10_over (by decide) (by decide) (Nat.le_of_ble_eq_true rfl) dL_law_712 (fun v1 m1 q1 => ?_)
  obtain ⟨P2, h3, h4⟩ := h2 v1 m1 q1
  refine j_aload_n X dL_law_715 rfl ?_
  refine lw_arg X hG hi hL 1 (by decide) (by decide) dL_law_716 dL_law_717 dL_law_718 dL_law_719 dL_law_720 ?_
  refine lw_arg X hG hi hL 2 (by decide) (by decide) dL_law_721 dL_law_722 dL_law_723 dL_law_724 dL_law_725 ?_
  refine lw_arg X hG hi hL 3 (by decide) (by decide) dL_law_726 dL_law_727 dL_law_728 dL_law_729 dL_law_730 ?_
  refine l_callVi X hR ⟨by omega, by omega⟩ h3 rfl 11 (by decide) (o66 _) (k66 _) rfl u1210 u1207 u1208 u1209 u12 hyX11_over (by decide) (by decide) (Nat.le_of_ble_eq_true rfl) dL_law_731 (fun v2 m2 q2 => ?_)
  obtain ⟨rfl, hI⟩ := h4 v2 m2 q2
  refine j_icmp_eq X 1644 dL_law_734 (by decide) (fun _ => ?_) (fun z => absurd rfl z)
  exact j_widen (by omega) (by omega) (kk np m2 hI)
set_option maxRecDepth 4000 in
set_option maxHeartbeats 1000000 in
theorem la_isOver {G : jG} {L u us np i : Nat} {xs : Nat → Int32} {mem : jMem} (X : jOk G RL code 4) (hR : jRm G 60 600000 7302250) (hG : jLaw G L xs) (hu : u + 2 ≤ 600000) (hus : us + 12 ≤ 7302250) (hi : i + 6 ≤ L) (hL : L ≤ 3072) (h : Inv np mem) (kk : ∀ np2 m2, Inv np2 m2 → J G RL code 4 (u + 2) (us + 12) 1644 (jlv [some (.ref (jB + 20)), some (.ref 0), some (.ref 66), some (.int (nI i))]) [] (jS np2) m2) : J G RL code 4 u us 739 (jlv [some (.ref (jB + 20)), some (.ref 0), some (.ref 66), some (.int (nI i))]) [] (jS np) mem := by
  obtain ⟨P1, h1, h2⟩ := sim_isOver np mem h (xs (i + 1)) (xs (i + 2)) (xs (i + 3)) (xs (i + 4))
  refine j_aload_n X dL_law_739 rfl ?_
  refine lw_arg X hG hi hL 1 (by decide) (by decide) dL_law_740 dL_law_741 dL_law_742 dL_law_743 dL_law_744 ?_
  refine lw_arg X hG hi hL 2 (by decide) (by decide) dL_law_745 dL_law_746 dL_law_747 dL_law_748 dL_law_749 ?_
  refine lw_arg X hG hi hL 3 (by decide) (by decide) dL_law_750 dL_law_751 dL_law_752 dL_law_753 dL_law_754 ?_
  refine lw_arg X hG hi hL 4 (by decide) (by decide) dL_law_755 dL_law_756 dL_law_757 dL_law_758 dL_law_759 ?_
  refine l_callVi X hR ⟨by omega, by omega⟩ h1 rfl 10 (by decide) (o0 _) (k0 _) rfl u543 u540 u541 u542 u1 hyX10_isOver (by decide) (by decide) (Nat.le_of_ble_eq_true rfl) dL_law_760 (fun v1 m1 q1 => ?_)
  obtain ⟨P2, h3, h4⟩ := h2 v1 m1 q1
  refine j_aload_n X dL_law_763 rfl ?_
  refine lw_arg X hG hi hL 1 (by decide) (by decide) dL_law_764 dL_law_765 dL_law_766 dL_law_767 dL_law_768 ?_
  refine lw_arg X hG hi hL 2 (by decide) (by decide) dL_law_769 dL_law_770 dL_law_771 dL_law_772 dL_law_773 ?_
  refine lw_arg X hG hi hL 3 (by decide) (by decide) dL_law_774 dL_law_775 dL_law_776 dL_law_777 dL_law_778 ?_
  refine lw_arg X hG hi hL 4 (by decide) (by decide) dL_law_779 dL_law_780 dL_law_781 dL_law_782 dL_law_783 ?_
  refine l_callVi X hR ⟨by omega, by omega⟩ h3 rfl 11 (by decide) (o66 _) (k66 _) rfl u1214 u1211 u1212 u1213 u12 hyX11_isOver (by decide) (by decide) (Nat.le_of_ble_eq_true rfl) dL_law_784 (fun v2 m2 q2 => ?_)
  obtain ⟨rfl, hI⟩ := h4 v2 m2 q2
  refine j_icmp_eq X 1644 dL_law_787 (by decide) (fun _ => ?_) (fun z => absurd rfl z)
  exact j_widen (by omega) (by omega) (kk np m2 hI)
set_option maxRecDepth 4000 in
set_option maxHeartbeats 1000000 in
theorem la_secret {G : jG} {L u us np i : Nat} {xs : Nat → Int32} {mem : jMem} (X : jOk G RL code 4) (hR : jRm G 60 600000 7302250) (hG : jLaw G L xs) (hu : u + 2 ≤ 600000) (hus : us + 12 ≤ 7302250) (hi : i + 6 ≤ L) (hL : L ≤ 3072) (h : Inv np mem) (kk : ∀ np2 m2, Inv np2 m2 → J G RL code 4 (u + 2) (us + 12) 1644 (jlv [some (.ref (jB + 20)), some (.ref 0), some (.ref 66), some (.int (nI i))]) [] (jS np2) m2) : J G RL code 4 u us 792 (jlv [some (.ref (jB + 20)), some (.ref 0), some (.ref 66), some (.int (nI i))]) [] (jS np) mem := by
  obtain ⟨P1, h1, h2⟩ := sim_secret np mem h (xs (i + 1)) (xs (i + 2))
  refine j_aload_n X dL_law_792 rfl ?_
  refine lw_arg X hG hi hL 1 (by decide) (by decide) dL_law_793 dL_law_794 dL_law_795 dL_law_796 dL_law_797 ?_
  refine lw_arg X hG hi hL 2 (by decide) (by decide) dL_law_798 dL_law_799 dL_law_800 dL_law_801 dL_law_802 ?_
  refine l_callVi X hR ⟨by omega, by omega⟩ h1 rfl 10 (by decide) (o0 _) (k0 _) rfl u547 u544 u545 u546 u1 hyX10_secret (by decide) (by decide) (Nat.le_of_ble_eq_true rfl) dL_law_803 (fun v1 m1 q1 => ?_)
  obtain ⟨P2, h3, h4⟩ := h2 v1 m1 q1
  refine j_aload_n X dL_law_806 rfl ?_
  refine lw_arg X hG hi hL 1 (by decide) (by decide) dL_law_807 dL_law_808 dL_law_809 dL_law_810 dL_law_811 ?_
  refine lw_arg X hG hi hL 2 (by decide) (by decide) dL_law_812 dL_law_813 dL_law_814 dL_law_815 dL_law_816 ?_
  refine l_callVi X hR ⟨by omega, by omega⟩ h3 rfl 11 (by decide) (o66 _) (k66 _) rfl u1218 u1215 u1216 u1217 u12 hyX11_secret (by decide) (by decide) (Nat.le_of_ble_eq_true rfl) dL_law_817 (fun v2 m2 q2 => ?_)
  obtain ⟨rfl, hI⟩ := h4 v2 m2 q2
  refine j_icmp_eq X 1644 dL_law_820 (by decide) (fun _ => ?_) (fun z => absurd rfl z)
  exact j_widen (by omega) (by omega) (kk np m2 hI)
set_option maxRecDepth 4000 in
set_option maxHeartbeats 1000000 in
theorem la_answer {G : jG} {L u us np i : Nat} {xs : Nat → Int32} {mem : jMem} (X : jOk G RL code 4) (hR : jRm G 60 600000 7302250) (hG : jLaw G L xs) (hu : u + 2 ≤ 600000) (hus : us + 12 ≤ 7302250) (hi : i + 6 ≤ L) (hL : L ≤ 3072) (h : Inv np mem) (kk : ∀ np2 m2, Inv np2 m2 → J G RL code 4 (u + 2) (us + 12) 1644 (jlv [some (.ref (jB + 20)), some (.ref 0), some (.ref 66), some (.int (nI i))]) [] (jS np2) m2) : J G RL code 4 u us 825 (jlv [some (.ref (jB + 20)), some (.ref 0), some (.ref 66), some (.int (nI i))]) [] (jS np) mem := by
  obtain ⟨P1, h1, h2⟩ := sim_answer np mem h (xs (i + 1)) (xs (i + 2)) (xs (i + 3)) (xs (i + 4))
  refine j_aload_n X dL_law_825 rfl ?_
  refine lw_arg X hG hi hL 1 (by decide) (by decide) dL_law_826 dL_law_827 dL_law_828 dL_law_829 dL_law_830 ?_
  refine lw_arg X hG hi hL 2 (by decide) (by decide) dL_law_831 dL_law_832 dL_law_833 dL_law_834 dL_law_835 ?_
  refine lw_arg X hG hi hL 3 (by decide) (by decide) dL_law_836 dL_law_837 dL_law_838 dL_law_839 dL_law_840 ?_
  refine lw_arg X hG hi hL 4 (by decide) (by decide) dL_law_841 dL_law_842 dL_law_843 dL_law_844 dL_law_845 ?_
  refine l_callVi X hR ⟨by omega, by omega⟩ h1 rfl 10 (by decide) (o0 _) (k0 _) rfl u561 u558 u559 u560 u1 hyX10_answer (by decide) (by decide) (Nat.le_of_ble_eq_true rfl) dL_law_846 (fun v1 m1 q1 => ?_)
  obtain ⟨P2, h3, h4⟩ := h2 v1 m1 q1
  refine j_aload_n X dL_law_849 rfl ?_
  refine lw_arg X hG hi hL 1 (by decide) (by decide) dL_law_850 dL_law_851 dL_law_852 dL_law_853 dL_law_854 ?_
  refine lw_arg X hG hi hL 2 (by decide) (by decide) dL_law_855 dL_law_856 dL_law_857 dL_law_858 dL_law_859 ?_
  refine lw_arg X hG hi hL 3 (by decide) (by decide) dL_law_860 dL_law_861 dL_law_862 dL_law_863 dL_law_864 ?_
  refine lw_arg X hG hi hL 4 (by decide) (by decide) dL_law_865 dL_law_866 dL_law_867 dL_law_868 dL_law_869 ?_
  refine l_callVi X hR ⟨by omega, by omega⟩ h3 rfl 11 (by decide) (o66 _) (k66 _) rfl u1229 u1226 u1227 u1228 u12 hyX11_answer (by decide) (by decide) (Nat.le_of_ble_eq_true rfl) dL_law_870 (fun v2 m2 q2 => ?_)
  obtain ⟨rfl, hI⟩ := h4 v2 m2 q2
  refine j_icmp_eq X 1644 dL_law_873 (by decide) (fun _ => ?_) (fun z => absurd rfl z)
  exact j_widen (by omega) (by omega) (kk np m2 hI)
set_option maxRecDepth 4000 in
set_option maxHeartbeats 1000000 in
theorem la_taken {G : jG} {L u us np i : Nat} {xs : Nat → Int32} {mem : jMem} (X : jOk G RL code 4) (hR : jRm G 60 600000 7302250) (hG : jLaw G L xs) (hu : u + 2 ≤ 600000) (hus : us + 12 ≤ 7302250) (hi : i + 6 ≤ L) (hL : L ≤ 3072) (h : Inv np mem) (kk : ∀ np2 m2, Inv np2 m2 → J G RL code 4 (u + 2) (us + 12) 1644 (jlv [some (.ref (jB + 20)), some (.ref 0), some (.ref 66), some (.int (nI i))]) [] (jS np2) m2) : J G RL code 4 u us 878 (jlv [some (.ref (jB + 20)), some (.ref 0), some (.ref 66), some (.int (nI i))]) [] (jS np) mem := by
  obtain ⟨P1, h1, h2⟩ := sim_taken np mem h (xs (i + 1)) (xs (i + 2)) (xs (i + 3)) (xs (i + 4))
  refine j_aload_n X dL_law_878 rfl ?_
  refine lw_arg X hG hi hL 1 (by decide) (by decide) dL_law_879 dL_law_880 dL_law_881 dL_law_882 dL_law_883 ?_
  refine lw_arg X hG hi hL 2 (by decide) (by decide) dL_law_884 dL_law_885 dL_law_886 dL_law_887 dL_law_888 ?_
  refine lw_arg X hG hi hL 3 (by decide) (by decide) dL_law_889 dL_law_890 dL_law_891 dL_law_892 dL_law_893 ?_
  refine lw_arg X hG hi hL 4 (by decide) (by decide) dL_law_894 dL_law_895 dL_law_896 dL_law_897 dL_law_898 ?_
  refine l_callVi X hR ⟨by omega, by omega⟩ h1 rfl 10 (by decide) (o0 _) (k0 _) rfl u565 u562 u563 u564 u1 hyX10_taken (by decide) (by decide) (Nat.le_of_ble_eq_true rfl) dL_law_899 (fun v1 m1 q1 => ?_)
  obtain ⟨P2, h3, h4⟩ := h2 v1 m1 q1
  refine j_aload_n X dL_law_902 rfl ?_
  refine lw_arg X hG hi hL 1 (by decide) (by decide) dL_law_903 dL_law_904 dL_law_905 dL_law_906 dL_law_907 ?_
  refine lw_arg X hG hi hL 2 (by decide) (by decide) dL_law_908 dL_law_909 dL_law_910 dL_law_911 dL_law_912 ?_
  refine lw_arg X hG hi hL 3 (by decide) (by decide) dL_law_913 dL_law_914 dL_law_915 dL_law_916 dL_law_917 ?_
  refine lw_arg X hG hi hL 4 (by decide) (by decide) dL_law_918 dL_law_919 dL_law_920 dL_law_921 dL_law_922 ?_
  refine l_callVi X hR ⟨by omega, by omega⟩ h3 rfl 11 (by decide) (o66 _) (k66 _) rfl u1233 u1230 u1231 u1232 u12 hyX11_taken (by decide) (by decide) (Nat.le_of_ble_eq_true rfl) dL_law_923 (fun v2 m2 q2 => ?_)
  obtain ⟨rfl, hI⟩ := h4 v2 m2 q2
  refine j_icmp_eq X 1644 dL_law_926 (by decide) (fun _ => ?_) (fun z => absurd rfl z)
  exact j_widen (by omega) (by omega) (kk np m2 hI)
set_option maxRecDepth 4000 in
set_option maxHeartbeats 1000000 in
theorem la_odds {G : jG} {L u us np i : Nat} {xs : Nat → Int32} {mem : jMem} (X : jOk G RL code 4) (hR : jRm G 60 600000 7302250) (hG : jLaw G L xs) (hu : u + 2 ≤ 600000) (hus : us + 12 ≤ 7302250) (hi : i + 6 ≤ L) (hL : L ≤ 3072) (h : Inv np mem) (kk : ∀ np2 m2, Inv np2 m2 → J G RL code 4 (u + 2) (us + 12) 1644 (jlv [some (.ref (jB + 20)), some (.ref 0), some (.ref 66), some (.int (nI i))]) [] (jS np2) m2) : J G RL code 4 u us 931 (jlv [some (.ref (jB + 20)), some (.ref 0), some (.ref 66), some (.int (nI i))]) [] (jS np) mem := by
  obtain ⟨P1, h1, h2⟩ := sim_odds np mem h (xs (i + 1)) (xs (i + 2)) (xs (i + 3))
  refine j_aload_n X dL_law_931 rfl ?_
  refine lw_arg X hG hi hL 1 (by decide) (by decide) dL_law_932 dL_law_933 dL_law_934 dL_law_935 dL_law_936 ?_
  refine lw_arg X hG hi hL 2 (by decide) (by decide) dL_law_937 dL_law_938 dL_law_939 dL_law_940 dL_law_941 ?_
  refine lw_arg X hG hi hL 3 (by decide) (by decide) dL_law_942 dL_law_943 dL_law_944 dL_law_945 dL_law_946 ?_
  refine l_callVi X hR ⟨by omega, by omega⟩ h1 rfl 10 (by decide) (o0 _) (k0 _) rfl u573 u570 u571 u572 u1 hyX10_odds (by decide) (by decide) (Nat.le_of_ble_eq_true rfl) dL_law_947 (fun v1 m1 q1 => ?_)
  obtain ⟨P2, h3, h4⟩ := h2 v1 m1 q1
  refine j_aload_n X dL_law_950 rfl ?_
  refine lw_arg X hG hi hL 1 (by decide) (by decide) dL_law_951 dL_law_952 dL_law_953 dL_law_954 dL_law_955 ?_
  refine lw_arg X hG hi hL 2 (by decide) (by decide) dL_law_956 dL_law_957 dL_law_958 dL_law_959 dL_law_960 ?_
  refine lw_arg X hG hi hL 3 (by decide) (by decide) dL_law_961 dL_law_962 dL_law_963 dL_law_964 dL_law_965 ?_
  refine l_callVi X hR ⟨by omega, by omega⟩ h3 rfl 11 (by decide) (o66 _) (k66 _) rfl u1242 u1239 u1240 u1241 u12 hyX11_odds (by decide) (by decide) (Nat.le_of_ble_eq_true rfl) dL_law_966 (fun v2 m2 q2 => ?_)
  obtain ⟨rfl, hI⟩ := h4 v2 m2 q2
  refine j_icmp_eq X 1644 dL_law_969 (by decide) (fun _ => ?_) (fun z => absurd rfl z)
  exact j_widen (by omega) (by omega) (kk np m2 hI)
set_option maxRecDepth 4000 in
set_option maxHeartbeats 1000000 in
theorem la_part {G : jG} {L u us np i : Nat} {xs : Nat → Int32} {mem : jMem} (X : jOk G RL code 4) (hR : jRm G 60 600000 7302250) (hG : jLaw G L xs) (hu : u + 2 ≤ 600000) (hus : us + 12 ≤ 7302250) (hi : i + 6 ≤ L) (hL : L ≤ 3072) (h : Inv np mem) (kk : ∀ np2 m2, Inv np2 m2 → J G RL code 4 (u + 2) (us + 12) 1644 (jlv [some (.ref (jB + 20)), some (.ref 0), some (.ref 66), some (.int (nI i))]) [] (jS np2) m2) : J G RL code 4 u us 974 (jlv [some (.ref (jB + 20)), some (.ref 0), some (.ref 66), some (.int (nI i))]) [] (jS np) mem := by
  obtain ⟨P1, h1, h2⟩ := sim_part np mem h (xs (i + 1)) (xs (i + 2)) (xs (i + 3))
  refine j_aload_n X dL_law_974 rfl ?_
  refine lw_arg X hG hi hL 1 (by decide) (by decide) dL_law_975 dL_law_976 dL_law_977 dL_law_978 dL_law_979 ?_
  refine lw_arg X hG hi hL 2 (by decide) (by decide) dL_law_980 dL_law_981 dL_law_982 dL_law_983 dL_law_984 ?_
  refine lw_arg X hG hi hL 3 (by decide) (by decide) dL_law_985 dL_law_986 dL_law_987 dL_law_988 dL_law_989 ?_
  refine l_callVi X hR ⟨by omega, by omega⟩ h1 rfl 10 (by decide) (o0 _) (k0 _) rfl u577 u574 u575 u576 u1 hyX10_part (by decide) (by decide) (Nat.le_of_ble_eq_true rfl) dL_law_990 (fun v1 m1 q1 => ?_)
  obtain ⟨P2, h3, h4⟩ := h2 v1 m1 q1
  refine j_aload_n X dL_law_993 rfl ?_
  refine lw_arg X hG hi hL 1 (by decide) (by decide) dL_law_994 dL_law_995 dL_law_996 dL_law_997 dL_law_998 ?_
  refine lw_arg X hG hi hL 2 (by decide) (by decide) dL_law_999 dL_law_1000 dL_law_1001 dL_law_1002 dL_law_1003 ?_
  refine lw_arg X hG hi hL 3 (by decide) (by decide) dL_law_1004 dL_law_1005 dL_law_1006 dL_law_1007 dL_law_1008 ?_
  refine l_callVi X hR ⟨by omega, by omega⟩ h3 rfl 11 (by decide) (o66 _) (k66 _) rfl u1246 u1243 u1244 u1245 u12 hyX11_part (by decide) (by decide) (Nat.le_of_ble_eq_true rfl) dL_law_1009 (fun v2 m2 q2 => ?_)
  obtain ⟨rfl, hI⟩ := h4 v2 m2 q2
  refine j_icmp_eq X 1644 dL_law_1012 (by decide) (fun _ => ?_) (fun z => absurd rfl z)
  exact j_widen (by omega) (by omega) (kk np m2 hI)
set_option maxRecDepth 4000 in
set_option maxHeartbeats 1000000 in
theorem la_friends {G : jG} {L u us np i : Nat} {xs : Nat → Int32} {mem : jMem} (X : jOk G RL code 4) (hR : jRm G 60 600000 7302250) (hG : jLaw G L xs) (hu : u + 2 ≤ 600000) (hus : us + 12 ≤ 7302250) (hi : i + 6 ≤ L) (hL : L ≤ 3072) (h : Inv np mem) (kk : ∀ np2 m2, Inv np2 m2 → J G RL code 4 (u + 2) (us + 12) 1644 (jlv [some (.ref (jB + 20)), some (.ref 0), some (.ref 66), some (.int (nI i))]) [] (jS np2) m2) : J G RL code 4 u us 1017 (jlv [some (.ref (jB + 20)), some (.ref 0), some (.ref 66), some (.int (nI i))]) [] (jS np) mem := by
  obtain ⟨P1, h1, h2⟩ := sim_friends np mem h (xs (i + 1)) (xs (i + 2)) (xs (i + 3)) (xs (i + 4))
  refine j_aload_n X dL_law_1017 rfl ?_
  refine lw_arg X hG hi hL 1 (by decide) (by decide) dL_law_1018 dL_law_1019 dL_law_1020 dL_law_1021 dL_law_1022 ?_
  refine lw_arg X hG hi hL 2 (by decide) (by decide) dL_law_1023 dL_law_1024 dL_law_1025 dL_law_1026 dL_law_1027 ?_
  refine lw_arg X hG hi hL 3 (by decide) (by decide) dL_law_1028 dL_law_1029 dL_law_1030 dL_law_1031 dL_law_1032 ?_
  refine lw_arg X hG hi hL 4 (by decide) (by decide) dL_law_1033 dL_law_1034 dL_law_1035 dL_law_1036 dL_law_1037 ?_
  refine l_callVi X hR ⟨by omega, by omega⟩ h1 rfl 10 (by decide) (o0 _) (k0 _) rfl u584 u581 u582 u583 u1 hyX10_friends (by decide) (by decide) (Nat.le_of_ble_eq_true rfl) dL_law_1038 (fun v1 m1 q1 => ?_)
  obtain ⟨P2, h3, h4⟩ := h2 v1 m1 q1
  refine j_aload_n X dL_law_1041 rfl ?_
  refine lw_arg X hG hi hL 1 (by decide) (by decide) dL_law_1042 dL_law_1043 dL_law_1044 dL_law_1045 dL_law_1046 ?_
  refine lw_arg X hG hi hL 2 (by decide) (by decide) dL_law_1047 dL_law_1048 dL_law_1049 dL_law_1050 dL_law_1051 ?_
  refine lw_arg X hG hi hL 3 (by decide) (by decide) dL_law_1052 dL_law_1053 dL_law_1054 dL_law_1055 dL_law_1056 ?_
  refine lw_arg X hG hi hL 4 (by decide) (by decide) dL_law_1057 dL_law_1058 dL_law_1059 dL_law_1060 dL_law_1061 ?_
  refine l_callVi X hR ⟨by omega, by omega⟩ h3 rfl 11 (by decide) (o66 _) (k66 _) rfl u1255 u1252 u1253 u1254 u12 hyX11_friends (by decide) (by decide) (Nat.le_of_ble_eq_true rfl) dL_law_1062 (fun v2 m2 q2 => ?_)
  obtain ⟨rfl, hI⟩ := h4 v2 m2 q2
  refine j_icmp_eq X 1644 dL_law_1065 (by decide) (fun _ => ?_) (fun z => absurd rfl z)
  exact j_widen (by omega) (by omega) (kk np m2 hI)
set_option maxRecDepth 4000 in
set_option maxHeartbeats 1000000 in
theorem la_book {G : jG} {L u us np i : Nat} {xs : Nat → Int32} {mem : jMem} (X : jOk G RL code 4) (hR : jRm G 60 600000 7302250) (hG : jLaw G L xs) (hu : u + 2 ≤ 600000) (hus : us + 12 ≤ 7302250) (hi : i + 6 ≤ L) (hL : L ≤ 3072) (h : Inv np mem) (kk : ∀ np2 m2, Inv np2 m2 → J G RL code 4 (u + 2) (us + 12) 1644 (jlv [some (.ref (jB + 20)), some (.ref 0), some (.ref 66), some (.int (nI i))]) [] (jS np2) m2) : J G RL code 4 u us 1070 (jlv [some (.ref (jB + 20)), some (.ref 0), some (.ref 66), some (.int (nI i))]) [] (jS np) mem := by
  obtain ⟨P1, h1, h2⟩ := sim_book np mem h (xs (i + 1)) (xs (i + 2))
  refine j_aload_n X dL_law_1070 rfl ?_
  refine lw_arg X hG hi hL 1 (by decide) (by decide) dL_law_1071 dL_law_1072 dL_law_1073 dL_law_1074 dL_law_1075 ?_
  refine lw_arg X hG hi hL 2 (by decide) (by decide) dL_law_1076 dL_law_1077 dL_law_1078 dL_law_1079 dL_law_1080 ?_
  refine l_callVi X hR ⟨by omega, by omega⟩ h1 rfl 10 (by decide) (o0 _) (k0 _) rfl u609 u606 u607 u608 u1 hyX10_book (by decide) (by decide) (Nat.le_of_ble_eq_true rfl) dL_law_1081 (fun v1 m1 q1 => ?_)
  obtain ⟨P2, h3, h4⟩ := h2 v1 m1 q1
  refine j_aload_n X dL_law_1084 rfl ?_
  refine lw_arg X hG hi hL 1 (by decide) (by decide) dL_law_1085 dL_law_1086 dL_law_1087 dL_law_1088 dL_law_1089 ?_
  refine lw_arg X hG hi hL 2 (by decide) (by decide) dL_law_1090 dL_law_1091 dL_law_1092 dL_law_1093 dL_law_1094 ?_
  refine l_callVi X hR ⟨by omega, by omega⟩ h3 rfl 11 (by decide) (o66 _) (k66 _) rfl u1266 u1263 u1264 u1265 u12 hyX11_book (by decide) (by decide) (Nat.le_of_ble_eq_true rfl) dL_law_1095 (fun v2 m2 q2 => ?_)
  obtain ⟨rfl, hI⟩ := h4 v2 m2 q2
  refine j_icmp_eq X 1644 dL_law_1098 (by decide) (fun _ => ?_) (fun z => absurd rfl z)
  exact j_widen (by omega) (by omega) (kk np m2 hI)
set_option maxRecDepth 4000 in
set_option maxHeartbeats 1000000 in
theorem la_revoke {G : jG} {L u us np i : Nat} {xs : Nat → Int32} {mem : jMem} (X : jOk G RL code 4) (hR : jRm G 60 600000 7302250) (hG : jLaw G L xs) (hu : u + 2 ≤ 600000) (hus : us + 12 ≤ 7302250) (hi : i + 6 ≤ L) (hL : L ≤ 3072) (h : Inv np mem) (kk : ∀ np2 m2, Inv np2 m2 → J G RL code 4 (u + 2) (us + 12) 1644 (jlv [some (.ref (jB + 20)), some (.ref 0), some (.ref 66), some (.int (nI i))]) [] (jS np2) m2) : J G RL code 4 u us 1103 (jlv [some (.ref (jB + 20)), some (.ref 0), some (.ref 66), some (.int (nI i))]) [] (jS np) mem := by
  obtain ⟨P1, h1, h2⟩ := sim_revoke np mem h (xs (i + 1)) (xs (i + 2))
  refine j_aload_n X dL_law_1103 rfl ?_
  refine lw_arg X hG hi hL 1 (by decide) (by decide) dL_law_1104 dL_law_1105 dL_law_1106 dL_law_1107 dL_law_1108 ?_
  refine lw_arg X hG hi hL 2 (by decide) (by decide) dL_law_1109 dL_law_1110 dL_law_1111 dL_law_1112 dL_law_1113 ?_
  refine l_callVi X hR ⟨by omega, by omega⟩ h1 rfl 10 (by decide) (o0 _) (k0 _) rfl u616 u613 u614 u615 u1 hyX10_revoke (by decide) (by decide) (Nat.le_of_ble_eq_true rfl) dL_law_1114 (fun v1 m1 q1 => ?_)
  obtain ⟨P2, h3, h4⟩ := h2 v1 m1 q1
  refine j_aload_n X dL_law_1117 rfl ?_
  refine lw_arg X hG hi hL 1 (by decide) (by decide) dL_law_1118 dL_law_1119 dL_law_1120 dL_law_1121 dL_law_1122 ?_
  refine lw_arg X hG hi hL 2 (by decide) (by decide) dL_law_1123 dL_law_1124 dL_law_1125 dL_law_1126 dL_law_1127 ?_
  refine l_callVi X hR ⟨by omega, by omega⟩ h3 rfl 11 (by decide) (o66 _) (k66 _) rfl u1273 u1270 u1271 u1272 u12 hyX11_revoke (by decide) (by decide) (Nat.le_of_ble_eq_true rfl) dL_law_1128 (fun v2 m2 q2 => ?_)
  obtain ⟨rfl, hI⟩ := h4 v2 m2 q2
  refine j_icmp_eq X 1644 dL_law_1131 (by decide) (fun _ => ?_) (fun z => absurd rfl z)
  exact j_widen (by omega) (by omega) (kk np m2 hI)
set_option maxRecDepth 4000 in
set_option maxHeartbeats 1000000 in
theorem la_holds {G : jG} {L u us np i : Nat} {xs : Nat → Int32} {mem : jMem} (X : jOk G RL code 4) (hR : jRm G 60 600000 7302250) (hG : jLaw G L xs) (hu : u + 2 ≤ 600000) (hus : us + 12 ≤ 7302250) (hi : i + 6 ≤ L) (hL : L ≤ 3072) (h : Inv np mem) (kk : ∀ np2 m2, Inv np2 m2 → J G RL code 4 (u + 2) (us + 12) 1644 (jlv [some (.ref (jB + 20)), some (.ref 0), some (.ref 66), some (.int (nI i))]) [] (jS np2) m2) : J G RL code 4 u us 1136 (jlv [some (.ref (jB + 20)), some (.ref 0), some (.ref 66), some (.int (nI i))]) [] (jS np) mem := by
  obtain ⟨P1, h1, h2⟩ := sim_holds np mem h (xs (i + 1)) (xs (i + 2)) (xs (i + 3))
  refine j_aload_n X dL_law_1136 rfl ?_
  refine lw_arg X hG hi hL 1 (by decide) (by decide) dL_law_1137 dL_law_1138 dL_law_1139 dL_law_1140 dL_law_1141 ?_
  refine lw_arg X hG hi hL 2 (by decide) (by decide) dL_law_1142 dL_law_1143 dL_law_1144 dL_law_1145 dL_law_1146 ?_
  refine lw_arg X hG hi hL 3 (by decide) (by decide) dL_law_1147 dL_law_1148 dL_law_1149 dL_law_1150 dL_law_1151 ?_
  refine l_callVi X hR ⟨by omega, by omega⟩ h1 rfl 10 (by decide) (o0 _) (k0 _) rfl u620 u617 u618 u619 u1 hyX10_holds (by decide) (by decide) (Nat.le_of_ble_eq_true rfl) dL_law_1152 (fun v1 m1 q1 => ?_)
  obtain ⟨P2, h3, h4⟩ := h2 v1 m1 q1
  refine j_aload_n X dL_law_1155 rfl ?_
  refine lw_arg X hG hi hL 1 (by decide) (by decide) dL_law_1156 dL_law_1157 dL_law_1158 dL_law_1159 dL_law_1160 ?_
  refine lw_arg X hG hi hL 2 (by decide) (by decide) dL_law_1161 dL_law_1162 dL_law_1163 dL_law_1164 dL_law_1165 ?_
  refine lw_arg X hG hi hL 3 (by decide) (by decide) dL_law_1166 dL_law_1167 dL_law_1168 dL_law_1169 dL_law_1170 ?_
  refine l_callVi X hR ⟨by omega, by omega⟩ h3 rfl 11 (by decide) (o66 _) (k66 _) rfl u1277 u1274 u1275 u1276 u12 hyX11_holds (by decide) (by decide) (Nat.le_of_ble_eq_true rfl) dL_law_1171 (fun v2 m2 q2 => ?_)
  obtain ⟨rfl, hI⟩ := h4 v2 m2 q2
  refine j_icmp_eq X 1644 dL_law_1174 (by decide) (fun _ => ?_) (fun z => absurd rfl z)
  exact j_widen (by omega) (by omega) (kk np m2 hI)
set_option maxRecDepth 4000 in
set_option maxHeartbeats 1000000 in
theorem la_feed {G : jG} {L u us np i : Nat} {xs : Nat → Int32} {mem : jMem} (X : jOk G RL code 4) (hR : jRm G 60 600000 7302250) (hG : jLaw G L xs) (hu : u + 2 ≤ 600000) (hus : us + 12 ≤ 7302250) (hi : i + 6 ≤ L) (hL : L ≤ 3072) (h : Inv np mem) (kk : ∀ np2 m2, Inv np2 m2 → J G RL code 4 (u + 2) (us + 12) 1644 (jlv [some (.ref (jB + 20)), some (.ref 0), some (.ref 66), some (.int (nI i))]) [] (jS np2) m2) : J G RL code 4 u us 1179 (jlv [some (.ref (jB + 20)), some (.ref 0), some (.ref 66), some (.int (nI i))]) [] (jS np) mem := by
  obtain ⟨P1, h1, h2⟩ := sim_feed np mem h ((((xs (i + 1)).toInt64) <<< ((32 : Int32).toInt64 &&& 63)) ||| (((xs (i + 2)).toInt64) &&& (4294967295 : Int64))) (xs (i + 3))
  refine j_aload_n X dL_law_1179 rfl ?_
  refine lw_arg X hG hi hL 1 (by decide) (by decide) dL_law_1180 dL_law_1181 dL_law_1182 dL_law_1183 dL_law_1184 ?_
  refine j_i2l X dL_law_1185 ?_
  refine j_bipush X dL_law_1186 32 (by decide) ?_
  refine j_lshl X dL_law_1188 ?_
  refine lw_arg X hG hi hL 2 (by decide) (by decide) dL_law_1189 dL_law_1190 dL_law_1191 dL_law_1192 dL_law_1193 ?_
  refine j_i2l X dL_law_1194 ?_
  refine j_ldc2 X dL_law_1195 u1451 ?_
  refine j_land X dL_law_1198 ?_
  refine j_lor X dL_law_1199 ?_
  refine lw_arg X hG hi hL 3 (by decide) (by decide) dL_law_1200 dL_law_1201 dL_law_1202 dL_law_1203 dL_law_1204 ?_
  refine l_callVi X hR ⟨by omega, by omega⟩ h1 rfl 10 (by decide) (o0 _) (k0 _) rfl u631 u628 u629 u630 u1 hyX10_feed (by decide) (by decide) (Nat.le_of_ble_eq_true rfl) dL_law_1205 (fun v1 m1 q1 => ?_)
  obtain ⟨P2, h3, h4⟩ := h2 v1 m1 q1
  refine j_aload_n X dL_law_1208 rfl ?_
  refine lw_arg X hG hi hL 1 (by decide) (by decide) dL_law_1209 dL_law_1210 dL_law_1211 dL_law_1212 dL_law_1213 ?_
  refine j_i2l X dL_law_1214 ?_
  refine j_bipush X dL_law_1215 32 (by decide) ?_
  refine j_lshl X dL_law_1217 ?_
  refine lw_arg X hG hi hL 2 (by decide) (by decide) dL_law_1218 dL_law_1219 dL_law_1220 dL_law_1221 dL_law_1222 ?_
  refine j_i2l X dL_law_1223 ?_
  refine j_ldc2 X dL_law_1224 u1451 ?_
  refine j_land X dL_law_1227 ?_
  refine j_lor X dL_law_1228 ?_
  refine lw_arg X hG hi hL 3 (by decide) (by decide) dL_law_1229 dL_law_1230 dL_law_1231 dL_law_1232 dL_law_1233 ?_
  refine l_callVi X hR ⟨by omega, by omega⟩ h3 rfl 11 (by decide) (o66 _) (k66 _) rfl u1288 u1285 u1286 u1287 u12 hyX11_feed (by decide) (by decide) (Nat.le_of_ble_eq_true rfl) dL_law_1234 (fun v2 m2 q2 => ?_)
  obtain ⟨rfl, hI⟩ := h4 v2 m2 q2
  refine j_icmp_eq X 1644 dL_law_1237 (by decide) (fun _ => ?_) (fun z => absurd rfl z)
  exact j_widen (by omega) (by omega) (kk np m2 hI)
set_option maxRecDepth 4000 in
set_option maxHeartbeats 1000000 in
theorem la_doors {G : jG} {L u us np i : Nat} {xs : Nat → Int32} {mem : jMem} (X : jOk G RL code 4) (hR : jRm G 60 600000 7302250) (hG : jLaw G L xs) (hu : u + 2 ≤ 600000) (hus : us + 12 ≤ 7302250) (hi : i + 6 ≤ L) (hL : L ≤ 3072) (h : Inv np mem) (kk : ∀ np2 m2, Inv np2 m2 → J G RL code 4 (u + 2) (us + 12) 1644 (jlv [some (.ref (jB + 20)), some (.ref 0), some (.ref 66), some (.int (nI i))]) [] (jS np2) m2) : J G RL code 4 u us 1242 (jlv [some (.ref (jB + 20)), some (.ref 0), some (.ref 66), some (.int (nI i))]) [] (jS np) mem := by
  obtain ⟨P1, h1, h2⟩ := sim_doors np mem h 
  refine j_aload_n X dL_law_1242 rfl ?_
  refine l_callVi X hR ⟨by omega, by omega⟩ h1 rfl 10 (by decide) (o0 _) (k0 _) rfl u639 u636 u637 u638 u1 hyX10_doors (by decide) (by decide) (Nat.le_of_ble_eq_true rfl) dL_law_1243 (fun v1 m1 q1 => ?_)
  obtain ⟨P2, h3, h4⟩ := h2 v1 m1 q1
  refine j_aload_n X dL_law_1246 rfl ?_
  refine l_callVi X hR ⟨by omega, by omega⟩ h3 rfl 11 (by decide) (o66 _) (k66 _) rfl u1294 u1291 u1292 u1293 u12 hyX11_doors (by decide) (by decide) (Nat.le_of_ble_eq_true rfl) dL_law_1247 (fun v2 m2 q2 => ?_)
  obtain ⟨rfl, hI⟩ := h4 v2 m2 q2
  refine j_icmp_eq X 1644 dL_law_1250 (by decide) (fun _ => ?_) (fun z => absurd rfl z)
  exact j_widen (by omega) (by omega) (kk np m2 hI)
set_option maxRecDepth 4000 in
set_option maxHeartbeats 1000000 in
theorem la_fault {G : jG} {L u us np i : Nat} {xs : Nat → Int32} {mem : jMem} (X : jOk G RL code 4) (hR : jRm G 60 600000 7302250) (hG : jLaw G L xs) (hu : u + 2 ≤ 600000) (hus : us + 12 ≤ 7302250) (hi : i + 6 ≤ L) (hL : L ≤ 3072) (h : Inv np mem) (kk : ∀ np2 m2, Inv np2 m2 → J G RL code 4 (u + 2) (us + 12) 1644 (jlv [some (.ref (jB + 20)), some (.ref 0), some (.ref 66), some (.int (nI i))]) [] (jS np2) m2) : J G RL code 4 u us 1255 (jlv [some (.ref (jB + 20)), some (.ref 0), some (.ref 66), some (.int (nI i))]) [] (jS np) mem := by
  obtain ⟨P1, h1, h2⟩ := sim_fault np mem h 
  refine j_aload_n X dL_law_1255 rfl ?_
  refine l_callVi X hR ⟨by omega, by omega⟩ h1 rfl 10 (by decide) (o0 _) (k0 _) rfl u756 u753 u754 u755 u1 hyX10_fault (by decide) (by decide) (Nat.le_of_ble_eq_true rfl) dL_law_1256 (fun v1 m1 q1 => ?_)
  obtain ⟨P2, h3, h4⟩ := h2 v1 m1 q1
  refine j_aload_n X dL_law_1259 rfl ?_
  refine l_callVi X hR ⟨by omega, by omega⟩ h3 rfl 11 (by decide) (o66 _) (k66 _) rfl u1350 u1347 u1348 u1349 u12 hyX11_fault (by decide) (by decide) (Nat.le_of_ble_eq_true rfl) dL_law_1260 (fun v2 m2 q2 => ?_)
  obtain ⟨rfl, hI⟩ := h4 v2 m2 q2
  refine j_icmp_eq X 1644 dL_law_1263 (by decide) (fun _ => ?_) (fun z => absurd rfl z)
  exact j_widen (by omega) (by omega) (kk np m2 hI)
set_option maxRecDepth 4000 in
set_option maxHeartbeats 1000000 in
theorem la_door {G : jG} {L u us np i : Nat} {xs : Nat → Int32} {mem : jMem} (X : jOk G RL code 4) (hR : jRm G 60 600000 7302250) (hG : jLaw G L xs) (hu : u + 2 ≤ 600000) (hus : us + 12 ≤ 7302250) (hi : i + 6 ≤ L) (hL : L ≤ 3072) (h : Inv np mem) (kk : ∀ np2 m2, Inv np2 m2 → J G RL code 4 (u + 2) (us + 12) 1644 (jlv [some (.ref (jB + 20)), some (.ref 0), some (.ref 66), some (.int (nI i))]) [] (jS np2) m2) : J G RL code 4 u us 1268 (jlv [some (.ref (jB + 20)), some (.ref 0), some (.ref 66), some (.int (nI i))]) [] (jS np) mem := by
  obtain ⟨P1, h1, h2⟩ := sim_door np mem h (xs (i + 1)) (xs (i + 2))
  refine j_aload_n X dL_law_1268 rfl ?_
  refine lw_arg X hG hi hL 1 (by decide) (by decide) dL_law_1269 dL_law_1270 dL_law_1271 dL_law_1272 dL_law_1273 ?_
  refine lw_arg X hG hi hL 2 (by decide) (by decide) dL_law_1274 dL_law_1275 dL_law_1276 dL_law_1277 dL_law_1278 ?_
  refine l_callVi X hR ⟨by omega, by omega⟩ h1 rfl 10 (by decide) (o0 _) (k0 _) rfl u760 u757 u758 u759 u1 hyX10_door (by decide) (by decide) (Nat.le_of_ble_eq_true rfl) dL_law_1279 (fun v1 m1 q1 => ?_)
  obtain ⟨P2, h3, h4⟩ := h2 v1 m1 q1
  refine j_aload_n X dL_law_1282 rfl ?_
  refine lw_arg X hG hi hL 1 (by decide) (by decide) dL_law_1283 dL_law_1284 dL_law_1285 dL_law_1286 dL_law_1287 ?_
  refine lw_arg X hG hi hL 2 (by decide) (by decide) dL_law_1288 dL_law_1289 dL_law_1290 dL_law_1291 dL_law_1292 ?_
  refine l_callVi X hR ⟨by omega, by omega⟩ h3 rfl 11 (by decide) (o66 _) (k66 _) rfl u1354 u1351 u1352 u1353 u12 hyX11_door (by decide) (by decide) (Nat.le_of_ble_eq_true rfl) dL_law_1293 (fun v2 m2 q2 => ?_)
  obtain ⟨rfl, hI⟩ := h4 v2 m2 q2
  refine j_icmp_eq X 1644 dL_law_1296 (by decide) (fun _ => ?_) (fun z => absurd rfl z)
  exact j_widen (by omega) (by omega) (kk np m2 hI)
set_option maxRecDepth 4000 in
set_option maxHeartbeats 1000000 in
theorem la_least {G : jG} {L u us np i : Nat} {xs : Nat → Int32} {mem : jMem} (X : jOk G RL code 4) (hR : jRm G 60 600000 7302250) (hG : jLaw G L xs) (hu : u + 2 ≤ 600000) (hus : us + 12 ≤ 7302250) (hi : i + 6 ≤ L) (hL : L ≤ 3072) (h : Inv np mem) (kk : ∀ np2 m2, Inv np2 m2 → J G RL code 4 (u + 2) (us + 12) 1644 (jlv [some (.ref (jB + 20)), some (.ref 0), some (.ref 66), some (.int (nI i))]) [] (jS np2) m2) : J G RL code 4 u us 1301 (jlv [some (.ref (jB + 20)), some (.ref 0), some (.ref 66), some (.int (nI i))]) [] (jS np) mem := by
  obtain ⟨P1, h1, h2⟩ := sim_least np mem h (xs (i + 1)) (xs (i + 2)) (xs (i + 3)) (xs (i + 4))
  refine j_aload_n X dL_law_1301 rfl ?_
  refine lw_arg X hG hi hL 1 (by decide) (by decide) dL_law_1302 dL_law_1303 dL_law_1304 dL_law_1305 dL_law_1306 ?_
  refine lw_arg X hG hi hL 2 (by decide) (by decide) dL_law_1307 dL_law_1308 dL_law_1309 dL_law_1310 dL_law_1311 ?_
  refine lw_arg X hG hi hL 3 (by decide) (by decide) dL_law_1312 dL_law_1313 dL_law_1314 dL_law_1315 dL_law_1316 ?_
  refine lw_arg X hG hi hL 4 (by decide) (by decide) dL_law_1317 dL_law_1318 dL_law_1319 dL_law_1320 dL_law_1321 ?_
  refine l_callVi X hR ⟨by omega, by omega⟩ h1 rfl 10 (by decide) (o0 _) (k0 _) rfl u769 u766 u767 u768 u1 hyX10_least (by decide) (by decide) (Nat.le_of_ble_eq_true rfl) dL_law_1322 (fun v1 m1 q1 => ?_)
  obtain ⟨P2, h3, h4⟩ := h2 v1 m1 q1
  refine j_aload_n X dL_law_1325 rfl ?_
  refine lw_arg X hG hi hL 1 (by decide) (by decide) dL_law_1326 dL_law_1327 dL_law_1328 dL_law_1329 dL_law_1330 ?_
  refine lw_arg X hG hi hL 2 (by decide) (by decide) dL_law_1331 dL_law_1332 dL_law_1333 dL_law_1334 dL_law_1335 ?_
  refine lw_arg X hG hi hL 3 (by decide) (by decide) dL_law_1336 dL_law_1337 dL_law_1338 dL_law_1339 dL_law_1340 ?_
  refine lw_arg X hG hi hL 4 (by decide) (by decide) dL_law_1341 dL_law_1342 dL_law_1343 dL_law_1344 dL_law_1345 ?_
  refine l_callVi X hR ⟨by omega, by omega⟩ h3 rfl 11 (by decide) (o66 _) (k66 _) rfl u1362 u1359 u1360 u1361 u12 hyX11_least (by decide) (by decide) (Nat.le_of_ble_eq_true rfl) dL_law_1346 (fun v2 m2 q2 => ?_)
  obtain ⟨rfl, hI⟩ := h4 v2 m2 q2
  refine j_icmp_eq X 1644 dL_law_1349 (by decide) (fun _ => ?_) (fun z => absurd rfl z)
  exact j_widen (by omega) (by omega) (kk np m2 hI)
set_option maxRecDepth 4000 in
set_option maxHeartbeats 1000000 in
theorem la_seen {G : jG} {L u us np i : Nat} {xs : Nat → Int32} {mem : jMem} (X : jOk G RL code 4) (hR : jRm G 60 600000 7302250) (hG : jLaw G L xs) (hu : u + 2 ≤ 600000) (hus : us + 12 ≤ 7302250) (hi : i + 6 ≤ L) (hL : L ≤ 3072) (h : Inv np mem) (kk : ∀ np2 m2, Inv np2 m2 → J G RL code 4 (u + 2) (us + 12) 1644 (jlv [some (.ref (jB + 20)), some (.ref 0), some (.ref 66), some (.int (nI i))]) [] (jS np2) m2) : J G RL code 4 u us 1354 (jlv [some (.ref (jB + 20)), some (.ref 0), some (.ref 66), some (.int (nI i))]) [] (jS np) mem := by
  obtain ⟨P1, h1, h2⟩ := sim_seen np mem h (xs (i + 1)) (xs (i + 2)) (xs (i + 3))
  refine j_aload_n X dL_law_1354 rfl ?_
  refine lw_arg X hG hi hL 1 (by decide) (by decide) dL_law_1355 dL_law_1356 dL_law_1357 dL_law_1358 dL_law_1359 ?_
  refine lw_arg X hG hi hL 2 (by decide) (by decide) dL_law_1360 dL_law_1361 dL_law_1362 dL_law_1363 dL_law_1364 ?_
  refine lw_arg X hG hi hL 3 (by decide) (by decide) dL_law_1365 dL_law_1366 dL_law_1367 dL_law_1368 dL_law_1369 ?_
  refine l_callVi X hR ⟨by omega, by omega⟩ h1 rfl 10 (by decide) (o0 _) (k0 _) rfl u805 u802 u803 u804 u1 hyX10_seen (by decide) (by decide) (Nat.le_of_ble_eq_true rfl) dL_law_1370 (fun v1 m1 q1 => ?_)
  obtain ⟨P2, h3, h4⟩ := h2 v1 m1 q1
  refine j_aload_n X dL_law_1373 rfl ?_
  refine lw_arg X hG hi hL 1 (by decide) (by decide) dL_law_1374 dL_law_1375 dL_law_1376 dL_law_1377 dL_law_1378 ?_
  refine lw_arg X hG hi hL 2 (by decide) (by decide) dL_law_1379 dL_law_1380 dL_law_1381 dL_law_1382 dL_law_1383 ?_
  refine lw_arg X hG hi hL 3 (by decide) (by decide) dL_law_1384 dL_law_1385 dL_law_1386 dL_law_1387 dL_law_1388 ?_
  refine l_callVi X hR ⟨by omega, by omega⟩ h3 rfl 11 (by decide) (o66 _) (k66 _) rfl u1373 u1370 u1371 u1372 u12 hyX11_seen (by decide) (by decide) (Nat.le_of_ble_eq_true rfl) dL_law_1389 (fun v2 m2 q2 => ?_)
  obtain ⟨rfl, hI⟩ := h4 v2 m2 q2
  refine j_icmp_eq X 1644 dL_law_1392 (by decide) (fun _ => ?_) (fun z => absurd rfl z)
  exact j_widen (by omega) (by omega) (kk np m2 hI)
set_option maxRecDepth 4000 in
set_option maxHeartbeats 1000000 in
theorem la_together {G : jG} {L u us np i : Nat} {xs : Nat → Int32} {mem : jMem} (X : jOk G RL code 4) (hR : jRm G 60 600000 7302250) (hG : jLaw G L xs) (hu : u + 2 ≤ 600000) (hus : us + 12 ≤ 7302250) (hi : i + 6 ≤ L) (hL : L ≤ 3072) (h : Inv np mem) (kk : ∀ np2 m2, Inv np2 m2 → J G RL code 4 (u + 2) (us + 12) 1644 (jlv [some (.ref (jB + 20)), some (.ref 0), some (.ref 66), some (.int (nI i))]) [] (jS np2) m2) : J G RL code 4 u us 1397 (jlv [some (.ref (jB + 20)), some (.ref 0), some (.ref 66), some (.int (nI i))]) [] (jS np) mem := by
  obtain ⟨P1, h1, h2⟩ := sim_together np mem h (xs (i + 1))
  refine j_aload_n X dL_law_1397 rfl ?_
  refine lw_arg X hG hi hL 1 (by decide) (by decide) dL_law_1398 dL_law_1399 dL_law_1400 dL_law_1401 dL_law_1402 ?_
  refine l_callVi X hR ⟨by omega, by omega⟩ h1 rfl 10 (by decide) (o0 _) (k0 _) rfl u813 u810 u811 u812 u1 hyX10_together (by decide) (by decide) (Nat.le_of_ble_eq_true rfl) dL_law_1403 (fun v1 m1 q1 => ?_)
  obtain ⟨P2, h3, h4⟩ := h2 v1 m1 q1
  refine j_aload_n X dL_law_1406 rfl ?_
  refine lw_arg X hG hi hL 1 (by decide) (by decide) dL_law_1407 dL_law_1408 dL_law_1409 dL_law_1410 dL_law_1411 ?_
  refine l_callVi X hR ⟨by omega, by omega⟩ h3 rfl 11 (by decide) (o66 _) (k66 _) rfl u1377 u1374 u1375 u1376 u12 hyX11_together (by decide) (by decide) (Nat.le_of_ble_eq_true rfl) dL_law_1412 (fun v2 m2 q2 => ?_)
  obtain ⟨rfl, hI⟩ := h4 v2 m2 q2
  refine j_icmp_eq X 1644 dL_law_1415 (by decide) (fun _ => ?_) (fun z => absurd rfl z)
  exact j_widen (by omega) (by omega) (kk np m2 hI)
set_option maxRecDepth 4000 in
set_option maxHeartbeats 1000000 in
theorem la_queue {G : jG} {L u us np i : Nat} {xs : Nat → Int32} {mem : jMem} (X : jOk G RL code 4) (hR : jRm G 60 600000 7302250) (hG : jLaw G L xs) (hu : u + 2 ≤ 600000) (hus : us + 12 ≤ 7302250) (hi : i + 6 ≤ L) (hL : L ≤ 3072) (h : Inv np mem) (kk : ∀ np2 m2, Inv np2 m2 → J G RL code 4 (u + 2) (us + 12) 1644 (jlv [some (.ref (jB + 20)), some (.ref 0), some (.ref 66), some (.int (nI i))]) [] (jS np2) m2) : J G RL code 4 u us 1420 (jlv [some (.ref (jB + 20)), some (.ref 0), some (.ref 66), some (.int (nI i))]) [] (jS np) mem := by
  obtain ⟨P1, h1, h2⟩ := sim_queue np mem h (xs (i + 1)) (xs (i + 2)) (xs (i + 3)) (xs (i + 4))
  refine j_aload_n X dL_law_1420 rfl ?_
  refine lw_arg X hG hi hL 1 (by decide) (by decide) dL_law_1421 dL_law_1422 dL_law_1423 dL_law_1424 dL_law_1425 ?_
  refine lw_arg X hG hi hL 2 (by decide) (by decide) dL_law_1426 dL_law_1427 dL_law_1428 dL_law_1429 dL_law_1430 ?_
  refine lw_arg X hG hi hL 3 (by decide) (by decide) dL_law_1431 dL_law_1432 dL_law_1433 dL_law_1434 dL_law_1435 ?_
  refine lw_arg X hG hi hL 4 (by decide) (by decide) dL_law_1436 dL_law_1437 dL_law_1438 dL_law_1439 dL_law_1440 ?_
  refine l_callVi X hR ⟨by omega, by omega⟩ h1 rfl 10 (by decide) (o0 _) (k0 _) rfl u826 u823 u824 u825 u1 hyX10_queue (by decide) (by decide) (Nat.le_of_ble_eq_true rfl) dL_law_1441 (fun v1 m1 q1 => ?_)
  obtain ⟨P2, h3, h4⟩ := h2 v1 m1 q1
  refine j_aload_n X dL_law_1444 rfl ?_
  refine lw_arg X hG hi hL 1 (by decide) (by decide) dL_law_1445 dL_law_1446 dL_law_1447 dL_law_1448 dL_law_1449 ?_
  refine lw_arg X hG hi hL 2 (by decide) (by decide) dL_law_1450 dL_law_1451 dL_law_1452 dL_law_1453 dL_law_1454 ?_
  refine lw_arg X hG hi hL 3 (by decide) (by decide) dL_law_1455 dL_law_1456 dL_law_1457 dL_law_1458 dL_law_1459 ?_
  refine lw_arg X hG hi hL 4 (by decide) (by decide) dL_law_1460 dL_law_1461 dL_law_1462 dL_law_1463 dL_law_1464 ?_
  refine l_callVi X hR ⟨by omega, by omega⟩ h3 rfl 11 (by decide) (o66 _) (k66 _) rfl u1385 u1382 u1383 u1384 u12 hyX11_queue (by decide) (by decide) (Nat.le_of_ble_eq_true rfl) dL_law_1465 (fun v2 m2 q2 => ?_)
  obtain ⟨rfl, hI⟩ := h4 v2 m2 q2
  refine j_icmp_eq X 1644 dL_law_1468 (by decide) (fun _ => ?_) (fun z => absurd rfl z)
  exact j_widen (by omega) (by omega) (kk np m2 hI)
set_option maxRecDepth 4000 in
set_option maxHeartbeats 1000000 in
theorem la_day {G : jG} {L u us np i : Nat} {xs : Nat → Int32} {mem : jMem} (X : jOk G RL code 4) (hR : jRm G 60 600000 7302250) (hG : jLaw G L xs) (hu : u + 2 ≤ 600000) (hus : us + 12 ≤ 7302250) (hi : i + 6 ≤ L) (hL : L ≤ 3072) (h : Inv np mem) (kk : ∀ np2 m2, Inv np2 m2 → J G RL code 4 (u + 2) (us + 12) 1644 (jlv [some (.ref (jB + 20)), some (.ref 0), some (.ref 66), some (.int (nI i))]) [] (jS np2) m2) : J G RL code 4 u us 1473 (jlv [some (.ref (jB + 20)), some (.ref 0), some (.ref 66), some (.int (nI i))]) [] (jS np) mem := by
  obtain ⟨P1, h1, h2⟩ := sim_day np mem h (xs (i + 1))
  refine j_aload_n X dL_law_1473 rfl ?_
  refine lw_arg X hG hi hL 1 (by decide) (by decide) dL_law_1474 dL_law_1475 dL_law_1476 dL_law_1477 dL_law_1478 ?_
  refine l_callVi X hR ⟨by omega, by omega⟩ h1 rfl 10 (by decide) (o0 _) (k0 _) rfl u853 u850 u851 u852 u1 hyX10_day (by decide) (by decide) (Nat.le_of_ble_eq_true rfl) dL_law_1479 (fun v1 m1 q1 => ?_)
  obtain ⟨P2, h3, h4⟩ := h2 v1 m1 q1
  refine j_aload_n X dL_law_1482 rfl ?_
  refine lw_arg X hG hi hL 1 (by decide) (by decide) dL_law_1483 dL_law_1484 dL_law_1485 dL_law_1486 dL_law_1487 ?_
  refine l_callVi X hR ⟨by omega, by omega⟩ h3 rfl 11 (by decide) (o66 _) (k66 _) rfl u1399 u1396 u1397 u1398 u12 hyX11_day (by decide) (by decide) (Nat.le_of_ble_eq_true rfl) dL_law_1488 (fun v2 m2 q2 => ?_)
  obtain ⟨rfl, hI⟩ := h4 v2 m2 q2
  refine j_icmp_eq X 1644 dL_law_1491 (by decide) (fun _ => ?_) (fun z => absurd rfl z)
  exact j_widen (by omega) (by omega) (kk np m2 hI)
set_option maxRecDepth 4000 in
set_option maxHeartbeats 1000000 in
theorem la_kind {G : jG} {L u us np i : Nat} {xs : Nat → Int32} {mem : jMem} (X : jOk G RL code 4) (hR : jRm G 60 600000 7302250) (hG : jLaw G L xs) (hu : u + 2 ≤ 600000) (hus : us + 12 ≤ 7302250) (hi : i + 6 ≤ L) (hL : L ≤ 3072) (h : Inv np mem) (kk : ∀ np2 m2, Inv np2 m2 → J G RL code 4 (u + 2) (us + 12) 1644 (jlv [some (.ref (jB + 20)), some (.ref 0), some (.ref 66), some (.int (nI i))]) [] (jS np2) m2) : J G RL code 4 u us 1496 (jlv [some (.ref (jB + 20)), some (.ref 0), some (.ref 66), some (.int (nI i))]) [] (jS np) mem := by
  obtain ⟨P1, h1, h2⟩ := sim_kind np mem h (xs (i + 1))
  refine j_aload_n X dL_law_1496 rfl ?_
  refine lw_arg X hG hi hL 1 (by decide) (by decide) dL_law_1497 dL_law_1498 dL_law_1499 dL_law_1500 dL_law_1501 ?_
  refine l_callVi X hR ⟨by omega, by omega⟩ h1 rfl 10 (by decide) (o0 _) (k0 _) rfl u857 u854 u855 u856 u1 hyX10_kind (by decide) (by decide) (Nat.le_of_ble_eq_true rfl) dL_law_1502 (fun v1 m1 q1 => ?_)
  obtain ⟨P2, h3, h4⟩ := h2 v1 m1 q1
  refine j_aload_n X dL_law_1505 rfl ?_
  refine lw_arg X hG hi hL 1 (by decide) (by decide) dL_law_1506 dL_law_1507 dL_law_1508 dL_law_1509 dL_law_1510 ?_
  refine l_callVi X hR ⟨by omega, by omega⟩ h3 rfl 11 (by decide) (o66 _) (k66 _) rfl u1403 u1400 u1401 u1402 u12 hyX11_kind (by decide) (by decide) (Nat.le_of_ble_eq_true rfl) dL_law_1511 (fun v2 m2 q2 => ?_)
  obtain ⟨rfl, hI⟩ := h4 v2 m2 q2
  refine j_icmp_eq X 1644 dL_law_1514 (by decide) (fun _ => ?_) (fun z => absurd rfl z)
  exact j_widen (by omega) (by omega) (kk np m2 hI)
set_option maxRecDepth 4000 in
set_option maxHeartbeats 1000000 in
theorem la_as {G : jG} {L u us np i : Nat} {xs : Nat → Int32} {mem : jMem} (X : jOk G RL code 4) (hR : jRm G 60 600000 7302250) (hG : jLaw G L xs) (hu : u + 2 ≤ 600000) (hus : us + 12 ≤ 7302250) (hi : i + 6 ≤ L) (hL : L ≤ 3072) (h : Inv np mem) (kk : ∀ np2 m2, Inv np2 m2 → J G RL code 4 (u + 2) (us + 12) 1644 (jlv [some (.ref (jB + 20)), some (.ref 0), some (.ref 66), some (.int (nI i))]) [] (jS np2) m2) : J G RL code 4 u us 1519 (jlv [some (.ref (jB + 20)), some (.ref 0), some (.ref 66), some (.int (nI i))]) [] (jS np) mem := by
  obtain ⟨P1, h1, h2⟩ := sim_as np mem h (xs (i + 1)) (xs (i + 2))
  refine j_aload_n X dL_law_1519 rfl ?_
  refine lw_arg X hG hi hL 1 (by decide) (by decide) dL_law_1520 dL_law_1521 dL_law_1522 dL_law_1523 dL_law_1524 ?_
  refine lw_arg X hG hi hL 2 (by decide) (by decide) dL_law_1525 dL_law_1526 dL_law_1527 dL_law_1528 dL_law_1529 ?_
  refine l_callVi X hR ⟨by omega, by omega⟩ h1 rfl 10 (by decide) (o0 _) (k0 _) rfl u865 u862 u863 u864 u1 hyX10_as (by decide) (by decide) (Nat.le_of_ble_eq_true rfl) dL_law_1530 (fun v1 m1 q1 => ?_)
  obtain ⟨P2, h3, h4⟩ := h2 v1 m1 q1
  refine j_aload_n X dL_law_1533 rfl ?_
  refine lw_arg X hG hi hL 1 (by decide) (by decide) dL_law_1534 dL_law_1535 dL_law_1536 dL_law_1537 dL_law_1538 ?_
  refine lw_arg X hG hi hL 2 (by decide) (by decide) dL_law_1539 dL_law_1540 dL_law_1541 dL_law_1542 dL_law_1543 ?_
  refine l_callVi X hR ⟨by omega, by omega⟩ h3 rfl 11 (by decide) (o66 _) (k66 _) rfl u1411 u1408 u1409 u1410 u12 hyX11_as (by decide) (by decide) (Nat.le_of_ble_eq_true rfl) dL_law_1544 (fun v2 m2 q2 => ?_)
  obtain ⟨rfl, hI⟩ := h4 v2 m2 q2
  refine j_icmp_eq X 1644 dL_law_1547 (by decide) (fun _ => ?_) (fun z => absurd rfl z)
  exact j_widen (by omega) (by omega) (kk np m2 hI)
set_option maxRecDepth 4000 in
set_option maxHeartbeats 1000000 in
theorem la_ask {G : jG} {L u us np i : Nat} {xs : Nat → Int32} {mem : jMem} (X : jOk G RL code 4) (hR : jRm G 60 600000 7302250) (hG : jLaw G L xs) (hu : u + 2 ≤ 600000) (hus : us + 12 ≤ 7302250) (hi : i + 6 ≤ L) (hL : L ≤ 3072) (h : Inv np mem) (kk : ∀ np2 m2, Inv np2 m2 → J G RL code 4 (u + 2) (us + 12) 1644 (jlv [some (.ref (jB + 20)), some (.ref 0), some (.ref 66), some (.int (nI i))]) [] (jS np2) m2) : J G RL code 4 u us 1552 (jlv [some (.ref (jB + 20)), some (.ref 0), some (.ref 66), some (.int (nI i))]) [] (jS np) mem := by
  obtain ⟨P1, h1, h2⟩ := sim_ask np mem h (xs (i + 1)) (xs (i + 2))
  refine j_aload_n X dL_law_1552 rfl ?_
  refine lw_arg X hG hi hL 1 (by decide) (by decide) dL_law_1553 dL_law_1554 dL_law_1555 dL_law_1556 dL_law_1557 ?_
  refine lw_arg X hG hi hL 2 (by decide) (by decide) dL_law_1558 dL_law_1559 dL_law_1560 dL_law_1561 dL_law_1562 ?_
  refine l_callVi X hR ⟨by omega, by omega⟩ h1 rfl 10 (by decide) (o0 _) (k0 _) rfl u869 u866 u867 u868 u1 hyX10_ask (by decide) (by decide) (Nat.le_of_ble_eq_true rfl) dL_law_1563 (fun v1 m1 q1 => ?_)
  obtain ⟨P2, h3, h4⟩ := h2 v1 m1 q1
  refine j_aload_n X dL_law_1566 rfl ?_
  refine lw_arg X hG hi hL 1 (by decide) (by decide) dL_law_1567 dL_law_1568 dL_law_1569 dL_law_1570 dL_law_1571 ?_
  refine lw_arg X hG hi hL 2 (by decide) (by decide) dL_law_1572 dL_law_1573 dL_law_1574 dL_law_1575 dL_law_1576 ?_
  refine l_callVi X hR ⟨by omega, by omega⟩ h3 rfl 11 (by decide) (o66 _) (k66 _) rfl u1418 u1415 u1416 u1417 u12 hyX11_ask (by decide) (by decide) (Nat.le_of_ble_eq_true rfl) dL_law_1577 (fun v2 m2 q2 => ?_)
  obtain ⟨rfl, hI⟩ := h4 v2 m2 q2
  refine j_icmp_eq X 1644 dL_law_1580 (by decide) (fun _ => ?_) (fun z => absurd rfl z)
  exact j_widen (by omega) (by omega) (kk np m2 hI)
set_option maxRecDepth 4000 in
set_option maxHeartbeats 1000000 in
theorem la_trace {G : jG} {L u us np i : Nat} {xs : Nat → Int32} {mem : jMem} (X : jOk G RL code 4) (hR : jRm G 60 600000 7302250) (hG : jLaw G L xs) (hu : u + 2 ≤ 600000) (hus : us + 12 ≤ 7302250) (hi : i + 6 ≤ L) (hL : L ≤ 3072) (h : Inv np mem) (kk : ∀ np2 m2, Inv np2 m2 → J G RL code 4 (u + 2) (us + 12) 1644 (jlv [some (.ref (jB + 20)), some (.ref 0), some (.ref 66), some (.int (nI i))]) [] (jS np2) m2) : J G RL code 4 u us 1585 (jlv [some (.ref (jB + 20)), some (.ref 0), some (.ref 66), some (.int (nI i))]) [] (jS np) mem := by
  obtain ⟨P1, h1, h2⟩ := sim_trace np mem h (xs (i + 1))
  refine j_aload_n X dL_law_1585 rfl ?_
  refine lw_arg X hG hi hL 1 (by decide) (by decide) dL_law_1586 dL_law_1587 dL_law_1588 dL_law_1589 dL_law_1590 ?_
  refine l_callVi X hR ⟨by omega, by omega⟩ h1 rfl 10 (by decide) (o0 _) (k0 _) rfl u922 u919 u920 u921 u1 hyX10_trace (by decide) (by decide) (Nat.le_of_ble_eq_true rfl) dL_law_1591 (fun v1 m1 q1 => ?_)
  obtain ⟨P2, h3, h4⟩ := h2 v1 m1 q1
  refine j_aload_n X dL_law_1594 rfl ?_
  refine lw_arg X hG hi hL 1 (by decide) (by decide) dL_law_1595 dL_law_1596 dL_law_1597 dL_law_1598 dL_law_1599 ?_
  refine l_callVi X hR ⟨by omega, by omega⟩ h3 rfl 11 (by decide) (o66 _) (k66 _) rfl u1442 u1439 u1440 u1441 u12 hyX11_trace (by decide) (by decide) (Nat.le_of_ble_eq_true rfl) dL_law_1600 (fun v2 m2 q2 => ?_)
  obtain ⟨rfl, hI⟩ := h4 v2 m2 q2
  refine j_icmp_eq X 1644 dL_law_1603 (by decide) (fun _ => ?_) (fun z => absurd rfl z)
  exact j_widen (by omega) (by omega) (kk np m2 hI)
set_option maxRecDepth 4000 in
set_option maxHeartbeats 1000000 in
theorem la_count {G : jG} {L u us np i : Nat} {xs : Nat → Int32} {mem : jMem} (X : jOk G RL code 4) (hR : jRm G 60 600000 7302250) (hG : jLaw G L xs) (hu : u + 2 ≤ 600000) (hus : us + 12 ≤ 7302250) (hi : i + 6 ≤ L) (hL : L ≤ 3072) (h : Inv np mem) (kk : ∀ np2 m2, Inv np2 m2 → J G RL code 4 (u + 2) (us + 12) 1644 (jlv [some (.ref (jB + 20)), some (.ref 0), some (.ref 66), some (.int (nI i))]) [] (jS np2) m2) : J G RL code 4 u us 1608 (jlv [some (.ref (jB + 20)), some (.ref 0), some (.ref 66), some (.int (nI i))]) [] (jS np) mem := by
  obtain ⟨P1, h1, h2⟩ := sim_count np mem h (xs (i + 1))
  refine j_aload_n X dL_law_1608 rfl ?_
  refine lw_arg X hG hi hL 1 (by decide) (by decide) dL_law_1609 dL_law_1610 dL_law_1611 dL_law_1612 dL_law_1613 ?_
  refine l_callVi X hR ⟨by omega, by omega⟩ h1 rfl 10 (by decide) (o0 _) (k0 _) rfl u926 u923 u924 u925 u1 hyX10_count (by decide) (by decide) (Nat.le_of_ble_eq_true rfl) dL_law_1614 (fun v1 m1 q1 => ?_)
  obtain ⟨P2, h3, h4⟩ := h2 v1 m1 q1
  refine j_aload_n X dL_law_1617 rfl ?_
  refine lw_arg X hG hi hL 1 (by decide) (by decide) dL_law_1618 dL_law_1619 dL_law_1620 dL_law_1621 dL_law_1622 ?_
  refine l_callVi X hR ⟨by omega, by omega⟩ h3 rfl 11 (by decide) (o66 _) (k66 _) rfl u1446 u1443 u1444 u1445 u12 hyX11_count (by decide) (by decide) (Nat.le_of_ble_eq_true rfl) dL_law_1623 (fun v2 m2 q2 => ?_)
  obtain ⟨rfl, hI⟩ := h4 v2 m2 q2
  refine j_icmp_eq X 1644 dL_law_1626 (by decide) (fun _ => ?_) (fun z => absurd rfl z)
  exact j_widen (by omega) (by omega) (kk np m2 hI)
set_option maxRecDepth 4000 in
set_option maxHeartbeats 1000000 in
theorem la_status {G : jG} {L u us np i : Nat} {xs : Nat → Int32} {mem : jMem} (X : jOk G RL code 4) (hR : jRm G 60 600000 7302250) (hG : jLaw G L xs) (hu : u + 2 ≤ 600000) (hus : us + 12 ≤ 7302250) (hi : i + 6 ≤ L) (hL : L ≤ 3072) (h : Inv np mem) (kk : ∀ np2 m2, Inv np2 m2 → J G RL code 4 (u + 2) (us + 12) 1644 (jlv [some (.ref (jB + 20)), some (.ref 0), some (.ref 66), some (.int (nI i))]) [] (jS np2) m2) : J G RL code 4 u us 1631 (jlv [some (.ref (jB + 20)), some (.ref 0), some (.ref 66), some (.int (nI i))]) [] (jS np) mem := by
  obtain ⟨P1, h1, h2⟩ := sim_status np mem h 
  refine j_aload_n X dL_law_1631 rfl ?_
  refine l_callVi X hR ⟨by omega, by omega⟩ h1 rfl 10 (by decide) (o0 _) (k0 _) rfl u942 u939 u940 u941 u1 hyX10_status (by decide) (by decide) (Nat.le_of_ble_eq_true rfl) dL_law_1632 (fun v1 m1 q1 => ?_)
  obtain ⟨P2, h3, h4⟩ := h2 v1 m1 q1
  refine j_aload_n X dL_law_1635 rfl ?_
  refine l_callVi X hR ⟨by omega, by omega⟩ h3 rfl 11 (by decide) (o66 _) (k66 _) rfl u1450 u1447 u1448 u1449 u12 hyX11_status (by decide) (by decide) (Nat.le_of_ble_eq_true rfl) dL_law_1636 (fun v2 m2 q2 => ?_)
  obtain ⟨rfl, hI⟩ := h4 v2 m2 q2
  refine j_icmp_eq X 1644 dL_law_1639 (by decide) (fun _ => ?_) (fun z => absurd rfl z)
  exact j_widen (by omega) (by omega) (kk np m2 hI)
