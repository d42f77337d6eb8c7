/-! CONTRACTS AND CALLS -/
def jRoom (d mc ms : Nat) : Room := { frames := d, cells := mc, slots := ms, locals := 64 * d }
def jPr (dC : Nat → ClassId) (dI : Nat → Nat → Nat) (ad : Nat → Nat) (cy : Nat → ClassId) (sz : Nat) (sh : jSh) (mem : jMem) (U : State) : Prop :=
  U.heap.size = sz ∧ va_P (dC, dI) vwCl (jws ad cy sh mem) U.heap ∧ va_D (fun _ => True) (jws ad cy sh mem) ∧ va_K (dC, dI) vwCl [] U ∧ jKy dC dI cy sh U ∧ jSok sh ∧ jX ad (va_A (jws ad cy sh mem) sz) U U.heap
def jQc (dC : Nat → ClassId) (dI : Nat → Nat → Nat) (ad : Nat → Nat) (cy : Nat → ClassId) (sz : Nat) (sh : jSh) (mem : jMem) (post : Option Value → jSh → jMem → Prop) : Array Value → State → Outcome → State → Prop := fun _ st oc t =>
  (∃ (r : Option Value) (sh' : jSh) (mem' : jMem) (ad' : Nat → Nat) (cy' : Nat → ClassId), oc = .returned (r.map (jv ad')) ∧ post r sh' mem' ∧ va_P (dC, dI) vwCl (jws ad' cy' sh' mem') t.heap ∧ va_D (va_A (jws ad cy sh mem) sz) (jws ad' cy' sh' mem') ∧ jKy dC dI cy' sh' t ∧ jAg sh.1 sh'.1 ad ad' ∧ jSok sh') ∧ va_F (va_A (jws ad cy sh mem) sz) st t
/-- THE CONTRACT of y: from av, sh, mem it returns with 'post' -/
def jCt (y : MethodName) (cc : ByteArray) (nL : Nat) (ret : Option FieldType) (d mc ms : Nat) (av : List Value) (sh : jSh) (mem : jMem) (post : Option Value → jSh → jMem → Prop) : Prop :=
  ∀ (l : Launch) (dC : Nat → ClassId) (dI : Nat → Nat → Nat) (ad : Nat → Nat) (cy : Nat → ClassId) (sz : Nat), Met l y (Cond.code y cc nL ret :: jW) (jRoom d mc ms) (va_Pc (av.map (jv ad)) (jPr dC dI ad cy sz sh mem)) (jQc dC dI ad cy sz sh mem post) mc ms (va_A (jws ad cy sh mem) sz)
def jRm (G : jG) (d mc ms : Nat) : Prop := match G with
  | ((p, l, e, R, s, m, args, below, meth, c, Q), dC, dI, A, n0, ad0) => d ≤ R.frames ∧ 64 * d ≤ R.locals ∧ mc ≤ R.cells ∧ ms ≤ R.slots
def jRet (G : jG) (ret : Option FieldType) : Prop := match G with
  | ((p, l, e, R, s, m, args, below, meth, c, Q), dC, dI, A, n0, ad0) => meth.sig.returnType = ret
def jEnd (G : jG) (mc ms : Nat) (post : Option Value → jSh → jMem → Prop) : Prop := match G with
  | ((p, l, e, R, s, m, args, below, meth, c, Q), dC, dI, A, n0, ad0) => ∃ (cy0 : Nat → ClassId) (sh0 : jSh) (mem0 : jMem), n0 = sh0.1 ∧ A = va_A (jws ad0 cy0 sh0 mem0) s.heap.size ∧ Q = MQ below (jQc dC dI ad0 cy0 s.heap.size sh0 mem0 post) args s mc ms A
theorem j_sl_len (ad : Nat → Nat) : ∀ vs : List Value, (lg_sl (vs.map (jv ad))).length = (lg_sl vs).length
  | [] => rfl
  | v :: vs => by
    have ih := j_sl_len ad vs
    cases v <;> simp_all [lg_sl, jv, Value.category]
theorem jKy.moved {dC : Nat → ClassId} {dI : Nat → Nat → Nat} {cy : Nat → ClassId} {sh : jSh} {u U : State} (hvm : u.vm.Alike U.vm) (h : jKy dC dI cy sh u) : jKy dC dI cy sh U := fun i h1 h2 => va_K.moved hvm (h i h1 h2)
theorem jCt.of {y : MethodName} {cc : ByteArray} {nL : Nat} {ret : Option FieldType} {d mc ms : Nat} {av : List Value} {sh : jSh} {mem : jMem} {post : Option Value → jSh → jMem → Prop} (hy : plainName y.cls = true) (hn : (lg_sl av).length ≤ nL)
    (h : ∀ G : jG, jOk G y.cls cc nL → jRm G d mc ms → jRet G ret → (y.name = "<init>" → jInit G) → jEnd G mc ms post → J G y.cls cc nL 0 0 0 (jen av) [] sh mem) : jCt y cc nL ret d mc ms av sh mem post := by
  intro l dC dI ad cy sz
  refine Met.ofW (cc := cc) (maxL := nL) (ret := ret) hy rfl ?_
  intro p e s m args below meth c s₁ B hml hv
  obtain ⟨rfl, hsz, hP, hD, hK, hKy, hSok, hX⟩ := hv
  subst hsz
  have hts := atoms_spec (ws := Cond.code y cc nL ret :: jW) B.pre
  have hJ := h ((p, l, e, (headSpec (Cond.code y cc nL ret :: jW) (jRoom d mc ms)).room, s, m, (av.map (jv ad)).toArray, below, meth, c, MQ below (jQc dC dI ad cy s.heap.size sh mem post) (av.map (jv ad)).toArray s mc ms (va_A (jws ad cy sh mem) s.heap.size)), dC, dI, va_A (jws ad cy sh mem) s.heap.size, sh.1, ad)
    ⟨B.exec, B.bytes, hml, findClass_of_methodNamed B.named, fun w hw => hts w (List.mem_cons_of_mem _ hw), fun q hq => Or.inr hq, hK, hX, B.notSynchronized⟩ ⟨Nat.le_refl _, Nat.le_refl _, Nat.le_refl _, Nat.le_refl _⟩ B.returns (fun hi => by show meth.name = "<init>"; rw [(name_of_methodNamed B.named B.method).1]; exact hi) ⟨cy, sh, mem, rfl, rfl, rfl⟩
  rw [lg_entry_eq]
  exact hJ s.heap [] _ ad cy ⟨hP, hD.self, va_S.rf, hKy, jAg.rf, hSok⟩ (jlo_en (lv_entry (av.map (jv ad)) (n := nL) (by rw [j_sl_len]; exact hn)))
/-! ends -/
section JRET
variable {G : jG} {own : String} {cc : ByteArray} {nL u us pc : Nat} {lv : Nat → Option Value} {sh : jSh} {mem : jMem} {mc ms : Nat} {post : Option Value → jSh → jMem → Prop}
theorem j_end_q {s : State} {dC : Nat → ClassId} {dI : Nat → Nat → Nat} {n0 : Nat} {ad0 : Nat → Nat} {H : Heap} {locs : List Loc} {ad : Nat → Nat} {cy : Nat → ClassId} {cy0 : Nat → ClassId} {sh0 : jSh} {mem0 : jMem} {a : Array Value} {r : Option Value} (hn : n0 = sh0.1) (hw : jHp s dC dI (va_A (jws ad0 cy0 sh0 mem0) s.heap.size) n0 ad0 sh mem H locs ad cy) (hp : post r sh mem) (t : State) (ht : t.heap = H) (hW : s.WarmedH t.vm) : jQc dC dI ad0 cy0 s.heap.size sh0 mem0 post a s (.returned (r.map (jv ad))) t :=
  ⟨⟨r, sh, mem, ad, cy, rfl, hp, by rw [ht]; exact hw.1, hw.2.1, jKy.moved hW.alike hw.2.2.2.1, by rw [← hn]; exact hw.2.2.2.2.1, hw.2.2.2.2.2⟩, hw.2.2.1.F ht⟩
theorem j_ireturn {v : Int32} (X : jOk G own cc nL) (hE : jEnd G mc ms post) {ty : FieldType} (hr : jRet G (some ty)) (hn : narrow ty (.int v) = .int v) (hu : u ≤ mc) (hus : us ≤ ms) (hd : decode cc pc = .ok (.ireturn, 1)) (hp : post (some (.int v)) sh mem) : J G own cc nL u us pc lv [.int v] sh mem := by
  obtain ⟨⟨p, l, e, R, s, m, args, below, meth, c, Q⟩, dC, dI, A, n0, ad0⟩ := G
  obtain ⟨cy0, sh0, mem0, e1, rfl, rfl⟩ := hE
  intro H locs ls ad cy hw hl
  refine W.widen hu hus ?_
  exact W.zret X.1 X.2.1 hr hn (fun t ht hW => j_end_q (r := some (.int v)) e1 hw hp t ht hW) hw.2.2.1.2.2 hd X.2.2.2.2.2.2.2.2
theorem j_return (X : jOk G own cc nL) (hE : jEnd G mc ms post) (hr : jRet G none) (hu : u ≤ mc) (hus : us ≤ ms) (hd : decode cc pc = .ok (.return_, 1)) (hp : post none sh mem) : J G own cc nL u us pc lv [] sh mem := by
  obtain ⟨⟨p, l, e, R, s, m, args, below, meth, c, Q⟩, dC, dI, A, n0, ad0⟩ := G
  obtain ⟨cy0, sh0, mem0, e1, rfl, rfl⟩ := hE
  intro H locs ls ad cy hw hl
  refine W.widen hu hus ?_
  exact W.vret X.1 X.2.1 hr (fun t ht hW => j_end_q (r := none) e1 hw hp t ht hW) hw.2.2.1.2.2 hd X.2.2.2.2.2.2.2.2
theorem j_lreturn {v : Int64} (X : jOk G own cc nL) (hE : jEnd G mc ms post) (hr : jRet G (some .long)) (hu : u ≤ mc) (hus : us ≤ ms) (hd : decode cc pc = .ok (.lreturn, 1)) (hp : post (some (.long v)) sh mem) : J G own cc nL u us pc lv [.long v] sh mem := by
  obtain ⟨⟨p, l, e, R, s, m, args, below, meth, c, Q⟩, dC, dI, A, n0, ad0⟩ := G
  obtain ⟨cy0, sh0, mem0, e1, rfl, rfl⟩ := hE
  intro H locs ls ad cy hw hl
  refine W.widen hu hus ?_
  exact W.lret X.1 X.2.1 hr (fun t ht hW => j_end_q (r := some (.long v)) e1 hw hp t ht hW) hw.2.2.1.2.2 hd X.2.2.2.2.2.2.2.2
theorem j_areturn {v : Value} (X : jOk G own cc nL) (hE : jEnd G mc ms post) {C : String} (hr : jRet G (some (.object C))) (hv : v = .null ∨ ∃ a, v = .ref a) (hu : u ≤ mc) (hus : us ≤ ms) (hd : decode cc pc = .ok (.areturn, 1)) (hp : post (some v) sh mem) : J G own cc nL u us pc lv [v] sh mem := by
  obtain ⟨⟨p, l, e, R, s, m, args, below, meth, c, Q⟩, dC, dI, A, n0, ad0⟩ := G
  obtain ⟨cy0, sh0, mem0, e1, rfl, rfl⟩ := hE
  intro H locs ls ad cy hw hl
  refine W.widen hu hus ?_
  have hv2 : jv ad v = .null ∨ ∃ a, jv ad v = .ref a := by
    rcases hv with rfl | ⟨a, rfl⟩
    · exact Or.inl rfl
    · exact Or.inr ⟨ad a, rfl⟩
  exact W.aret X.1 X.2.1 hr (Or.inl ⟨C, rfl⟩) hv2 (fun t ht hW => j_end_q (r := some v) e1 hw hp t ht hW) hw.2.2.1.2.2 hd X.2.2.2.2.2.2.2.2
end JRET
/-- all references of the locals and of the stack are of cells that are there -/
def jvo (n : Nat) (lv : Nat → Option Value) (st : List Value) : Prop := (∀ i t, lv i = some (.ref t) → t < n ∨ jB ≤ t) ∧ ∀ t, Value.ref t ∈ st → t < n ∨ jB ≤ t
theorem jv_ag {n n' : Nat} {ad ad' : Nat → Nat} (h : jAg n n' ad ad') {v : Value} (hv : ∀ t, v = .ref t → t < n ∨ jB ≤ t) : jv ad' v = jv ad v := by
  cases v with
  | ref t => show Value.ref (ad' t) = .ref (ad t); rw [h.1 t (hv t rfl)]
  | _ => rfl
theorem jvo_lo {n n' : Nat} {ad ad' : Nat → Nat} (h : jAg n n' ad ad') {lv : Nat → Option Value} {st : List Value} (hv : n' = n ∨ jvo n lv st) {ls : Array Slot} {nL : Nat} (hl : jlo ls nL ad lv) : jlo ls nL ad' lv := by
  rcases hv with e | hv
  · rw [h.2.2 e]; exact hl
  · refine ⟨hl.1, hl.2.1, fun i v q => ?_⟩
    rw [jv_ag h (fun t ht => hv.1 i t (by rw [q, ht]))]
    exact hl.2.2 i v q
theorem jvo_st {n n' : Nat} {ad ad' : Nat → Nat} (h : jAg n n' ad ad') {lv : Nat → Option Value} {st : List Value} (hv : n' = n ∨ jvo n lv st) : st.map (jv ad') = st.map (jv ad) := by
  rcases hv with e | hv
  · rw [h.2.2 e]
  · exact List.map_congr_left fun v q => jv_ag h (fun t ht => hv.2 t (by rw [← ht]; exact q))
section JCALL
variable {p : Program} {l : Launch} {e : Env} {R : Room} {s : State} {m : MethodId} {args : Array Value} {below : List Frame} {meth : Method} {c : Code} {Q : State → Prop} {dC : Nat → ClassId} {dI : Nat → Nat → Nat} {A : Nat → Prop} {n0 : Nat} {ad0 : Nat → Nat} {own : String} {cc : ByteArray} {nL u us pc : Nat} {lv : Nat → Option Value} {rest : List Value} {sh : jSh} {mem : jMem} {mc ms : Nat} {post : Option Value → jSh → jMem → Prop} {H : Heap} {locs : List Loc} {ls : Array Slot} {ad : Nat → Nat} {cy : Nat → ClassId} {st0 : List Value} {a : Array Value}
theorem j_fr (hw : jHp s dC dI A n0 ad0 sh mem H locs ad cy) (hA : ∀ q, s.heap.size ≤ q → A q) : ∀ q, va_A (jws ad cy sh mem) H.size q → A q := by
  intro q h
  rcases h with ⟨k, e, h⟩ | h
  · exact hw.2.1.2 k (q, e) h
  · exact hA q (Nat.le_trans hw.2.2.1.1 h)
theorem j_back (hr : va_Run p l e R s m args below meth c H locs u us mc ms (F0 m pc ls st0) (rest.map (jv ad)) (jQc dC dI ad cy H.size sh mem post a) (va_A (jws ad cy sh mem) H.size)) (hw : jHp s dC dI A n0 ad0 sh mem H locs ad cy) (hl : jlo ls nL ad lv) (hA : ∀ q, s.heap.size ≤ q → A q)
    (k : ∀ (r : Option Value) (sh' : jSh) (mem' : jMem), post r sh' mem' → (sh'.1 = sh.1 ∨ jvo sh.1 lv rest) ∧ J ((p, l, e, R, s, m, args, below, meth, c, Q), dC, dI, A, n0, ad0) own cc nL (u + mc) (us + ms) (pc + 3) lv (r.toList ++ rest) sh' mem') : W p l e R s m args below meth c H locs u us Q (F0 m pc ls st0) := by
  intro T hT X
  obtain ⟨v, st₀, t, T', L, h0, X', hL, e1, e2, ⟨⟨r, sh', mem', ad', cy', hv, hp, hP1, hD1, hK1, hG1, hO1⟩, hz, hk⟩, st⟩ := hr T hT X
  cases hv
  rw [h0] at hz hk
  have hvm : s.vm.Alike t.vm := by rw [← e2]; exact X'.warmed.alike
  have hf := j_fr hw hA
  obtain ⟨hvk, hJ⟩ := k r sh' mem' hp
  have hb := hJ T'.heap (locs ++ L) ls ad' cy' ⟨by rw [e1]; exact hP1, hD1.weaken (fun _ q _ h => hf q.1 h), ⟨Nat.le_trans hw.2.2.1.1 (by rw [e1]; exact hz), fun q h1 h2 => by
      rw [e1, hk q (Nat.lt_of_lt_of_le h1 hw.2.2.1.1) (fun z => h2 (hf q z))]
      exact hw.2.2.1.2.1 q h1 h2, fun q hq => by
      rcases List.mem_append.mp hq with h | h
      · exact hw.2.2.1.2.2 q h
      · exact hf _ (hL q h)⟩, jKy.moved hvm.symm hK1, hw.2.2.2.2.1.tr hG1, hO1⟩ (jvo_lo hG1 hvk hl)
  have es : (r.toList ++ rest).map (jv ad') = (r.map (jv ad')).toList ++ rest.map (jv ad) := by
    rw [List.map_append, jvo_st hG1 hvk]
    cases r <;> rfl
  rw [es] at hb
  obtain ⟨t2, a1, b1⟩ := hb T' rfl X'
  exact ⟨t2, st t2 a1, b1⟩
theorem j_blind {av : List Value} {sz : Nat} : FrameBlind (va_Pc av (jPr dC dI ad cy sz sh mem)) := by
  intro a U g mk q
  obtain ⟨h1, h2, h3, h4, h5, h6, h7, h8⟩ := q
  exact ⟨h1, h2, h3, h4, va_K.moved (u := U) (U := U.calling g mk a) (Vm.Alike.refl U.vm) h5, jKy.moved (u := U) (U := U.calling g mk a) (Vm.Alike.refl U.vm) h6, h7, jX.same (u := U) (U := U.calling g mk a) rfl h8⟩
theorem j_pre (X : jOk ((p, l, e, R, s, m, args, below, meth, c, Q), dC, dI, A, n0, ad0) own cc nL) (hw : jHp s dC dI A n0 ad0 sh mem H locs ad cy) {U : State} (hU : U.heap = H) (hW : s.WarmedH U.vm) : jPr dC dI ad cy H.size sh mem U := by
  refine ⟨by rw [hU], by rw [hU]; exact hw.1, hw.2.1.weaken (fun _ _ _ _ => trivial), va_K.moved hW.alike X.2.2.2.2.2.2.1, jKy.moved hW.alike hw.2.2.2.1, hw.2.2.2.2.2, ?_⟩
  rw [hU]
  exact (((X.2.2.2.2.2.2.2.1.kept hw.2.2.1.2.1).narrow (j_fr hw X.2.2.2.2.2.1)).ad (fun i hi => hw.2.2.2.2.1.1 i (Or.inr hi))).warm hW
end JCALL
theorem j_cat_sum (ad : Nat → Nat) (st : List Value) : ((st.map (jv ad)).map fun v => v.category).sum = (st.map fun v => v.category).sum := by
  rw [List.map_map]
  congr 1
  exact List.map_congr_left fun v _ => jv_cat ad v
theorem j_rm {y : MethodName} {ccy : ByteArray} {nLy : Nat} {ret : Option FieldType} {d dd mc ms : Nat} {R : Room} (hd : d + 1 ≤ dd) (hR1 : dd ≤ R.frames) (hR2 : 64 * dd ≤ R.locals) (hn : nLy ≤ 45) : (jRoom d mc ms).frames + 1 ≤ R.frames ∧ 8 + (nLy + 11) + (jRoom d mc ms).locals ≤ R.locals := by
  show d + 1 ≤ R.frames ∧ 8 + (nLy + 11) + 64 * d ≤ R.locals
  omega
section JROWS
variable {G : jG} {own : String} {cc : ByteArray} {nL u us pc : Nat} {lv : Nat → Option Value} {rest st : List Value} {sh : jSh} {mem : jMem} {mc ms d dd RC RS idx n nLy : Nat} {post : Option Value → jSh → jMem → Prop} {y : MethodName} {ccy : ByteArray} {ret : Option FieldType}
/-- a static method -/
theorem j_callS (X : jOk G own cc nL) (hR : jRm G dd RC RS) {av : List Value} (hM : jCt y ccy nLy ret d mc ms av sh mem post) (hst : st = av.reverse ++ rest) (hc : Cond.code y ccy nLy ret ∈ jW) (hlk : Cond.methodLink own idx y ∈ jW) (hs : Cond.static y ∈ jW) (hini : Cond.initialized y.cls ∈ jW) (hy : y.cls ≠ "java/lang/invoke/MethodHandle" ∧ y.cls ≠ "java/lang/invoke/VarHandle" ∧ (parseMethodDescriptor y.desc).map (fun d => d.parameters.length) = some av.length) (hn : nLy ≤ 45) (hdd : d + 1 ≤ dd) (hW : (rest.map fun v => v.category).sum ≤ 8) (hf : u + mc ≤ RC ∧ us + ms ≤ RS) (hd : decode cc pc = .ok (.invokestatic idx, 3))
    (k : ∀ (r : Option Value) (sh' : jSh) (mem' : jMem), post r sh' mem' → (sh'.1 = sh.1 ∨ jvo sh.1 lv rest) ∧ J G own cc nL (u + mc) (us + ms) (pc + 3) lv (r.toList ++ rest) sh' mem') : J G own cc nL u us pc lv st sh mem := by
  obtain ⟨⟨p, l, e, R, s, m, args, below, meth, c, Q⟩, dC, dI, A, n0, ad0⟩ := G
  intro H locs ls ad cy hw hl
  subst hst
  refine j_back (va_runS ⟨X.1, X.2.1, X.2.2.1, X.2.2.2.1, X.2.2.2.2.1⟩ (hM l dC dI ad cy H.size) ⟨callB_of av.length X.2.2.2.2.1 (jW_good hc) rfl rfl rfl (X.2.2.2.2.1 _ hini) (X.2.2.2.2.1 _ hlk) hy (j_rm (y := y) (ccy := ccy) (ret := ret) hdd hR.1 hR.2.1 hn), X.2.2.2.2.1 _ hs⟩ ⟨j_blind, fun U hU hW => ⟨rfl, j_pre X hw hU hW⟩⟩ rfl (by rw [List.length_map]) hl.1 (by show (av.reverse ++ rest).map (jv ad) = _; rw [List.map_append, List.map_reverse]) (by show 2 * 0 + _ ≤ 8; rw [j_cat_sum]; omega) hd ⟨Nat.le_trans hf.1 hR.2.2.1, Nat.le_trans hf.2 hR.2.2.2⟩) hw hl X.2.2.2.2.2.1 k
/-- a static method of a nest mate, private -/
theorem j_callN (X : jOk G own cc nL) (hR : jRm G dd RC RS) {av : List Value} (hM : jCt y ccy nLy ret d mc ms av sh mem post) (hst : st = av.reverse ++ rest) (hc : Cond.code y ccy nLy ret ∈ jW) (hlk : (own, idx, y) ∈ jnest) (hs : Cond.static y ∈ jW) (hini : Cond.initialized y.cls ∈ jW) (hy : y.cls ≠ "java/lang/invoke/MethodHandle" ∧ y.cls ≠ "java/lang/invoke/VarHandle" ∧ (parseMethodDescriptor y.desc).map (fun d => d.parameters.length) = some av.length) (hn : nLy ≤ 45) (hdd : d + 1 ≤ dd) (hW : (rest.map fun v => v.category).sum ≤ 8) (hf : u + mc ≤ RC ∧ us + ms ≤ RS) (hd : decode cc pc = .ok (.invokestatic idx, 3))
    (k : ∀ (r : Option Value) (sh' : jSh) (mem' : jMem), post r sh' mem' → (sh'.1 = sh.1 ∨ jvo sh.1 lv rest) ∧ J G own cc nL (u + mc) (us + ms) (pc + 3) lv (r.toList ++ rest) sh' mem') : J G own cc nL u us pc lv st sh mem := by
  obtain ⟨⟨p, l, e, R, s, m, args, below, meth, c, Q⟩, dC, dI, A, n0, ad0⟩ := G
  intro H locs ls ad cy hw hl
  subst hst
  refine j_back (va_runSN ⟨X.1, X.2.1, X.2.2.1, X.2.2.2.1, X.2.2.2.2.1⟩ (hM l dC dI ad cy H.size) ⟨va_cnB av.length X.2.2.2.2.1 (jW_good hc) rfl rfl rfl (X.2.2.2.2.2.2.2.1.1 _ hlk) (X.2.2.2.2.1 _ hini) hy (j_rm (y := y) (ccy := ccy) (ret := ret) hdd hR.1 hR.2.1 hn), X.2.2.2.2.1 _ hs, trivial⟩ ⟨j_blind, fun U hU hW => ⟨rfl, j_pre X hw hU hW⟩⟩ rfl (by rw [List.length_map]) hl.1 (by show (av.reverse ++ rest).map (jv ad) = _; rw [List.map_append, List.map_reverse]) (by show 2 * 0 + _ ≤ 8; rw [j_cat_sum]; omega) hd ⟨Nat.le_trans hf.1 hR.2.2.1, Nat.le_trans hf.2 hR.2.2.2⟩) hw hl X.2.2.2.2.2.1 k
/-- a method of an object -/
theorem j_callV (X : jOk G own cc nL) (hR : jRm G dd RC RS) {av : List Value} {o : Nat} (hM : jCt y ccy nLy ret d mc ms (.ref o :: av) sh mem post) (hst : st = av.reverse ++ .ref o :: rest) (ci : Nat) (hci : ci < 12) (ho : o < sh.1) (hkd : sh.2.1 o = ci) (hcy : jC ci = y.cls) (hc : Cond.code y ccy nLy ret ∈ jW) (hlk : Cond.methodLink own idx y ∈ jW) (hs : Cond.instanceMethod y ∈ jW) (hse : Cond.selects y.cls y y ∈ jW) (hini : Cond.initialized y.cls ∈ jW) (hy : y.cls ≠ "java/lang/invoke/MethodHandle" ∧ y.cls ≠ "java/lang/invoke/VarHandle" ∧ (parseMethodDescriptor y.desc).map (fun d => d.parameters.length) = some av.length) (hn : nLy ≤ 45) (hdd : d + 1 ≤ dd) (hW : (rest.map fun v => v.category).sum ≤ 8) (hf : u + mc ≤ RC ∧ us + ms ≤ RS) (hd : decode cc pc = .ok (.invokevirtual idx, 3))
    (k : ∀ (r : Option Value) (sh' : jSh) (mem' : jMem), post r sh' mem' → (sh'.1 = sh.1 ∨ jvo sh.1 lv rest) ∧ J G own cc nL (u + mc) (us + ms) (pc + 3) lv (r.toList ++ rest) sh' mem') : J G own cc nL u us pc lv st sh mem := by
  obtain ⟨⟨p, l, e, R, s, m, args, below, meth, c, Q⟩, dC, dI, A, n0, ad0⟩ := G
  intro H locs ls ad cy hw hl
  subst hst
  refine j_back (va_runV (C := y.cls) (b := ad o) (As := av.map (jv ad)) ⟨X.1, X.2.1, X.2.2.1, X.2.2.2.1, X.2.2.2.2.1⟩ (hM l dC dI ad cy H.size) ⟨callB_of av.length X.2.2.2.2.1 (jW_good hc) rfl rfl rfl (X.2.2.2.2.1 _ hini) (X.2.2.2.2.1 _ hlk) hy (j_rm (y := y) (ccy := ccy) (ret := ret) hdd hR.1 hR.2.1 hn), X.2.2.2.2.1 _ hs, X.2.2.2.2.1 _ hse⟩ ⟨j_blind, (by
    have h9 := va_recv X.2.2.2.2.2.2.1 hw.1 (jcl hci) (q0 := o) (by rw [jws_get ho, jce_o hkd hci])
    rw [← hcy]
    exact h9), fun U hU hW => ⟨rfl, j_pre X hw hU hW⟩⟩ rfl (by rw [List.length_map]) hl.1 (by show (av.reverse ++ .ref o :: rest).map (jv ad) = _; rw [List.map_append, List.map_reverse]; rfl) (by show 2 * 0 + _ ≤ 8; rw [j_cat_sum]; omega) hd ⟨Nat.le_trans hf.1 hR.2.2.1, Nat.le_trans hf.2 hR.2.2.2⟩) hw hl X.2.2.2.2.2.1 k
/-- a constructor -/
theorem j_callI (X : jOk G own cc nL) (hR : jRm G dd RC RS) {av : List Value} {o : Nat} (hM : jCt y ccy nLy none d mc ms (.ref o :: av) sh mem post) (hst : st = av.reverse ++ .ref o :: rest) (hc : Cond.code y ccy nLy none ∈ jW) (hlk : Cond.methodLink own idx y ∈ jW) (hs : Cond.instanceMethod y ∈ jW) (hnm : y.name = "<init>") (hini : Cond.initialized y.cls ∈ jW) (hy : y.cls ≠ "java/lang/invoke/MethodHandle" ∧ y.cls ≠ "java/lang/invoke/VarHandle" ∧ (parseMethodDescriptor y.desc).map (fun d => d.parameters.length) = some av.length) (hn : nLy ≤ 45) (hdd : d + 1 ≤ dd) (hW : (rest.map fun v => v.category).sum ≤ 8) (hf : u + mc ≤ RC ∧ us + ms ≤ RS) (hd : decode cc pc = .ok (.invokespecial idx, 3))
    (k : ∀ (r : Option Value) (sh' : jSh) (mem' : jMem), post r sh' mem' → (sh'.1 = sh.1 ∨ jvo sh.1 lv rest) ∧ J G own cc nL (u + mc) (us + ms) (pc + 3) lv (r.toList ++ rest) sh' mem') : J G own cc nL u us pc lv st sh mem := by
  obtain ⟨⟨p, l, e, R, s, m, args, below, meth, c, Q⟩, dC, dI, A, n0, ad0⟩ := G
  intro H locs ls ad cy hw hl
  subst hst
  refine j_back (va_runI (b := ad o) (As := av.map (jv ad)) ⟨X.1, X.2.1, X.2.2.1, X.2.2.2.1, X.2.2.2.2.1⟩ (hM l dC dI ad cy H.size) ⟨callB_of av.length X.2.2.2.2.1 (jW_good hc) rfl rfl rfl (X.2.2.2.2.1 _ hini) (X.2.2.2.2.1 _ hlk) hy (j_rm (y := y) (ccy := ccy) (ret := none) hdd hR.1 hR.2.1 hn), hnm, X.2.2.2.2.1 _ hs⟩ ⟨j_blind, fun U hU hW => ⟨rfl, j_pre X hw hU hW⟩⟩ rfl (by rw [List.length_map]) hl.1 (by show (av.reverse ++ .ref o :: rest).map (jv ad) = _; rw [List.map_append, List.map_reverse]; rfl) (by show 2 * 0 + _ ≤ 8; rw [j_cat_sum]; omega) hd ⟨Nat.le_trans hf.1 hR.2.2.1, Nat.le_trans hf.2 hR.2.2.2⟩) hw hl X.2.2.2.2.2.1 k
theorem j_callIN (X : jOk G own cc nL) (hR : jRm G dd RC RS) {av : List Value} {o : Nat} (hM : jCt y ccy nLy none d mc ms (.ref o :: av) sh mem post) (hst : st = av.reverse ++ .ref o :: rest) (hc : Cond.code y ccy nLy none ∈ jW) (hlk : (own, idx, y) ∈ jnest) (hs : Cond.instanceMethod y ∈ jW) (hnm : y.name = "<init>") (hini : Cond.initialized y.cls ∈ jW) (hy : y.cls ≠ "java/lang/invoke/MethodHandle" ∧ y.cls ≠ "java/lang/invoke/VarHandle" ∧ (parseMethodDescriptor y.desc).map (fun d => d.parameters.length) = some av.length) (hn : nLy ≤ 45) (hdd : d + 1 ≤ dd) (hW : (rest.map fun v => v.category).sum ≤ 8) (hf : u + mc ≤ RC ∧ us + ms ≤ RS) (hd : decode cc pc = .ok (.invokespecial idx, 3))
    (k : ∀ (r : Option Value) (sh' : jSh) (mem' : jMem), post r sh' mem' → (sh'.1 = sh.1 ∨ jvo sh.1 lv rest) ∧ J G own cc nL (u + mc) (us + ms) (pc + 3) lv (r.toList ++ rest) sh' mem') : J G own cc nL u us pc lv st sh mem := by
  obtain ⟨⟨p, l, e, R, s, m, args, below, meth, c, Q⟩, dC, dI, A, n0, ad0⟩ := G
  intro H locs ls ad cy hw hl
  subst hst
  refine j_back (va_runIN (b := ad o) (As := av.map (jv ad)) ⟨X.1, X.2.1, X.2.2.1, X.2.2.2.1, X.2.2.2.2.1⟩ (hM l dC dI ad cy H.size) ⟨va_cnB av.length X.2.2.2.2.1 (jW_good hc) rfl rfl rfl (X.2.2.2.2.2.2.2.1.1 _ hlk) (X.2.2.2.2.1 _ hini) hy (j_rm (y := y) (ccy := ccy) (ret := none) hdd hR.1 hR.2.1 hn), hnm, X.2.2.2.2.1 _ hs⟩ ⟨j_blind, fun U hU hW => ⟨rfl, j_pre X hw hU hW⟩⟩ rfl (by rw [List.length_map]) hl.1 (by show (av.reverse ++ .ref o :: rest).map (jv ad) = _; rw [List.map_append, List.map_reverse]; rfl) (by show 2 * 0 + _ ≤ 8; rw [j_cat_sum]; omega) hd ⟨Nat.le_trans hf.1 hR.2.2.1, Nat.le_trans hf.2 hR.2.2.2⟩) hw hl X.2.2.2.2.2.1 k
end JROWS
