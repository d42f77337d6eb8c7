theorem j_ldcS0 {G : jG} {cc : ByteArray} {nL u us pc : Nat} {lv : Nat → Option Value} {st : List Value} {sh : jSh} {mem : jMem} (X : jOk G RX9 cc nL) (hd : decode cc pc = .ok (.ldc 40, 2)) (kk : J G RX9 cc nL u us (pc + 2) lv (.ref (jB + 0) :: st) sh mem) : J G RX9 cc nL u us pc lv st sh mem := by
  obtain ⟨⟨p, l, e, R, s, m, args, below, meth, c, Q⟩, dC, dI, A, n0, ad0⟩ := G
  intro H locs ls ad cy hw hl
  obtain ⟨x1, x2, x3, x4, x5, x6, x7, x8, x9, x10, x11, x12, x13⟩ := X.2.2.2.2.2.2.2.1
  have e9 : ad (jB + 0) = ad0 (jB + 0) := hw.2.2.2.2.1.1 _ (Or.inr (by omega))
  refine va_ldcS X.1 X.2.1 X.2.2.2.1 x6 hd ?_
  rw [← e9]
  exact kk H locs ls ad cy hw hl
theorem j_ldcS1 {G : jG} {cc : ByteArray} {nL u us pc : Nat} {lv : Nat → Option Value} {st : List Value} {sh : jSh} {mem : jMem} (X : jOk G RX9 cc nL) (hd : decode cc pc = .ok (.ldc 50, 2)) (kk : J G RX9 cc nL u us (pc + 2) lv (.ref (jB + 1) :: st) sh mem) : J G RX9 cc nL u us pc lv st sh mem := by
  obtain ⟨⟨p, l, e, R, s, m, args, below, meth, c, Q⟩, dC, dI, A, n0, ad0⟩ := G
  intro H locs ls ad cy hw hl
  obtain ⟨x1, x2, x3, x4, x5, x6, x7, x8, x9, x10, x11, x12, x13⟩ := X.2.2.2.2.2.2.2.1
  have e9 : ad (jB + 1) = ad0 (jB + 1) := hw.2.2.2.2.1.1 _ (Or.inr (by omega))
  refine va_ldcS X.1 X.2.1 X.2.2.2.1 x7 hd ?_
  rw [← e9]
  exact kk H locs ls ad cy hw hl
theorem j_ldcS2 {G : jG} {cc : ByteArray} {nL u us pc : Nat} {lv : Nat → Option Value} {st : List Value} {sh : jSh} {mem : jMem} (X : jOk G RX9 cc nL) (hd : decode cc pc = .ok (.ldc 79, 2)) (kk : J G RX9 cc nL u us (pc + 2) lv (.ref (jB + 2) :: st) sh mem) : J G RX9 cc nL u us pc lv st sh mem := by
  obtain ⟨⟨p, l, e, R, s, m, args, below, meth, c, Q⟩, dC, dI, A, n0, ad0⟩ := G
  intro H locs ls ad cy hw hl
  obtain ⟨x1, x2, x3, x4, x5, x6, x7, x8, x9, x10, x11, x12, x13⟩ := X.2.2.2.2.2.2.2.1
  have e9 : ad (jB + 2) = ad0 (jB + 2) := hw.2.2.2.2.1.1 _ (Or.inr (by omega))
  refine va_ldcS X.1 X.2.1 X.2.2.2.1 x8 hd ?_
  rw [← e9]
  exact kk H locs ls ad cy hw hl
theorem j_ldcS3 {G : jG} {cc : ByteArray} {nL u us pc : Nat} {lv : Nat → Option Value} {st : List Value} {sh : jSh} {mem : jMem} (X : jOk G RX9 cc nL) (hd : decode cc pc = .ok (.ldc 81, 2)) (kk : J G RX9 cc nL u us (pc + 2) lv (.ref (jB + 3) :: st) sh mem) : J G RX9 cc nL u us pc lv st sh mem := by
  obtain ⟨⟨p, l, e, R, s, m, args, below, meth, c, Q⟩, dC, dI, A, n0, ad0⟩ := G
  intro H locs ls ad cy hw hl
  obtain ⟨x1, x2, x3, x4, x5, x6, x7, x8, x9, x10, x11, x12, x13⟩ := X.2.2.2.2.2.2.2.1
  have e9 : ad (jB + 3) = ad0 (jB + 3) := hw.2.2.2.2.1.1 _ (Or.inr (by omega))
  refine va_ldcS X.1 X.2.1 X.2.2.2.1 x9 hd ?_
  rw [← e9]
  exact kk H locs ls ad cy hw hl
theorem j_ldcS4 {G : jG} {cc : ByteArray} {nL u us pc : Nat} {lv : Nat → Option Value} {st : List Value} {sh : jSh} {mem : jMem} (X : jOk G RX9 cc nL) (hd : decode cc pc = .ok (.ldc 83, 2)) (kk : J G RX9 cc nL u us (pc + 2) lv (.ref (jB + 4) :: st) sh mem) : J G RX9 cc nL u us pc lv st sh mem := by
  obtain ⟨⟨p, l, e, R, s, m, args, below, meth, c, Q⟩, dC, dI, A, n0, ad0⟩ := G
  intro H locs ls ad cy hw hl
  obtain ⟨x1, x2, x3, x4, x5, x6, x7, x8, x9, x10, x11, x12, x13⟩ := X.2.2.2.2.2.2.2.1
  have e9 : ad (jB + 4) = ad0 (jB + 4) := hw.2.2.2.2.1.1 _ (Or.inr (by omega))
  refine va_ldcS X.1 X.2.1 X.2.2.2.1 x10 hd ?_
  rw [← e9]
  exact kk H locs ls ad cy hw hl
theorem j_sval {G : jG} {cc : ByteArray} {nL u us pc : Nat} {lv : Nat → Option Value} {st : List Value} {sh : jSh} {mem : jMem} {i : Nat} (hi : i < 5) (X : jOk G RJ0 cc nL) (hd : decode cc pc = .ok (.getfield 9, 3)) (kk : J G RJ0 cc nL u us (pc + 3) lv (.ref (jB + 10 + i) :: st) sh mem) : J G RJ0 cc nL u us pc lv (.ref (jB + i) :: st) sh mem := by
  obtain ⟨⟨p, l, e, R, s, m, args, below, meth, c, Q⟩, dC, dI, A, n0, ad0⟩ := G
  intro H locs ls ad cy hw hl
  obtain ⟨x1, x2, x3, x4, x5, x6, x7, x8, x9, x10, x11, x12, x13⟩ := X.2.2.2.2.2.2.2.1
  have e9 : ad (jB + i) = ad0 (jB + i) := hw.2.2.2.2.1.1 _ (Or.inr (by omega))
  have e8 : ad (jB + 10 + i) = ad0 (jB + 10 + i) := hw.2.2.2.2.1.1 _ (Or.inr (by omega))
  have h9 := (x11.1 i hi).2.2.1
  have hk := kk H locs ls ad cy hw hl
  show W p l e R s m args below meth c H locs u us Q (F0 m pc ls (.ref (ad (jB + i)) :: st.map (jv ad)))
  rw [e9]
  refine vk_getf (ref := RJ0) X.1 X.2.1 h9 hw.2.2.1 X.2.2.2.1 (X.2.2.2.2.1 _ u1452) (fun _ h => h) hd ?_
  show W p l e R s m args below meth c H locs u us Q (F0 m (pc + 3) ls (.ref (ad0 (jB + 10 + i)) :: st.map (jv ad)))
  rw [← e8]
  exact hk
theorem j_scod {G : jG} {cc : ByteArray} {nL u us pc : Nat} {lv : Nat → Option Value} {st : List Value} {sh : jSh} {mem : jMem} {i : Nat} (hi : i < 5) (X : jOk G RJ0 cc nL) (hd : decode cc pc = .ok (.getfield 15, 3)) (kk : J G RJ0 cc nL u us (pc + 3) lv (.int 0 :: st) sh mem) : J G RJ0 cc nL u us pc lv (.ref (jB + i) :: st) sh mem := by
  obtain ⟨⟨p, l, e, R, s, m, args, below, meth, c, Q⟩, dC, dI, A, n0, ad0⟩ := G
  intro H locs ls ad cy hw hl
  obtain ⟨x1, x2, x3, x4, x5, x6, x7, x8, x9, x10, x11, x12, x13⟩ := X.2.2.2.2.2.2.2.1
  have e9 : ad (jB + i) = ad0 (jB + i) := hw.2.2.2.2.1.1 _ (Or.inr (by omega))
  have h9 := (x11.1 i hi).2.1
  have hk := kk H locs ls ad cy hw hl
  show W p l e R s m args below meth c H locs u us Q (F0 m pc ls (.ref (ad (jB + i)) :: st.map (jv ad)))
  rw [e9]
  exact vk_getf (ref := RJ0) X.1 X.2.1 h9 hw.2.2.1 X.2.2.2.1 (X.2.2.2.2.1 _ u1453) (fun _ h => h) hd hk
theorem j_comp {G : jG} {cc : ByteArray} {nL u us pc : Nat} {lv : Nat → Option Value} {st : List Value} {sh : jSh} {mem : jMem} (X : jOk G RJ0 cc nL) (hd : decode cc pc = .ok (.getstatic 38, 3)) (kk : J G RJ0 cc nL u us (pc + 3) lv (.int 1 :: st) sh mem) : J G RJ0 cc nL u us pc lv st sh mem := by
  obtain ⟨⟨p, l, e, R, s, m, args, below, meth, c, Q⟩, dC, dI, A, n0, ad0⟩ := G
  intro H locs ls ad cy hw hl
  obtain ⟨x1, x2, x3, x4, x5, x6, x7, x8, x9, x10, x11, x12, x13⟩ := X.2.2.2.2.2.2.2.1
  exact va_gets (C := RJ0) (n := "COMPACT_STRINGS") (d := "Z") (ref := RJ0) X.1 X.2.1 x12 hw.2.2.1 X.2.2.2.1 (X.2.2.2.2.1 _ u679) (fun _ h9 => h9) hd (kk H locs ls ad cy hw hl)
theorem j_slen {G : jG} {own : String} {cc : ByteArray} {nL u us pc : Nat} {lv : Nat → Option Value} {st : List Value} {sh : jSh} {mem : jMem} {i : Nat} (hi : i < 5) (X : jOk G own cc nL) (hd : decode cc pc = .ok (.arraylength, 1)) (kk : J G own cc nL u us (pc + 1) lv (.int (nI (jtl.getD i 0)) :: st) sh mem) : J G own cc nL u us pc lv (.ref (jB + 10 + i) :: st) sh mem := by
  obtain ⟨⟨p, l, e, R, s, m, args, below, meth, c, Q⟩, dC, dI, A, n0, ad0⟩ := G
  intro H locs ls ad cy hw hl
  obtain ⟨x1, x2, x3, x4, x5, x6, x7, x8, x9, x10, x11, x12, x13⟩ := X.2.2.2.2.2.2.2.1
  have e8 : ad (jB + 10 + i) = ad0 (jB + 10 + i) := hw.2.2.2.2.1.1 _ (Or.inr (by omega))
  have hT := (x11.1 i hi).2.2.2
  have hk := kk H locs ls ad cy hw hl
  show W p l e R s m args below meth c H locs u us Q (F0 m pc ls (.ref (ad (jB + 10 + i)) :: st.map (jv ad)))
  rw [e8]
  exact va_tlen X.1 X.2.1 hT hw.2.2.1 rfl hd hk
theorem j_sbal {G : jG} {own : String} {cc : ByteArray} {nL u us pc : Nat} {lv : Nat → Option Value} {st : List Value} {sh : jSh} {mem : jMem} {i k : Nat} (hi : i < 5) (hk2 : k < jtl.getD i 0) (hk3 : jtl.getD i 0 < 2 ^ 31) (X : jOk G own cc nL) (hd : decode cc pc = .ok (.baload, 1)) (kk : J G own cc nL u us (pc + 1) lv (.int ((jtb.getD i []).getD k 0) :: st) sh mem) : J G own cc nL u us pc lv (.int (nI k) :: .ref (jB + 10 + i) :: st) sh mem := by
  obtain ⟨⟨p, l, e, R, s, m, args, below, meth, c, Q⟩, dC, dI, A, n0, ad0⟩ := G
  intro H locs ls ad cy hw hl
  obtain ⟨x1, x2, x3, x4, x5, x6, x7, x8, x9, x10, x11, x12, x13⟩ := X.2.2.2.2.2.2.2.1
  have e8 : ad (jB + 10 + i) = ad0 (jB + 10 + i) := hw.2.2.2.2.1.1 _ (Or.inr (by omega))
  have hT := (x11.1 i hi).2.2.2
  have hk := kk H locs ls ad cy hw hl
  show W p l e R s m args below meth c H locs u us Q (F0 m pc ls (.int (nI k) :: .ref (ad (jB + 10 + i)) :: st.map (jv ad)))
  rw [e8]
  exact va_tb X.1 X.2.1 hT hw.2.2.1 (vp_in_nI hk2 hk3) (by rw [nI_clamp (by omega)]; rfl) hd hk
theorem j_i2c {G : jG} {own : String} {cc : ByteArray} {nL u us pc : Nat} {lv : Nat → Option Value} {st : List Value} {sh : jSh} {mem : jMem} (X : jOk G own cc nL) {x : Int32} (hd : decode cc pc = .ok (.i2c, 1)) (k : J G own cc nL u us (pc + 1) lv (.int (x.toUInt32 % 65536).toInt32 :: st) sh mem) : J G own cc nL u us pc lv (.int x :: st) sh mem := by
  obtain ⟨⟨p, l, e, R, s, m, args, below, meth, c, Q⟩, dC, dI, A, n0, ad0⟩ := G
  intro H locs ls ad cy hw hl
  exact lv_i2c X.1 X.2.1 hd rfl (k H locs ls ad cy hw hl)
/-- a method of a text -/
theorem s_callTi {G : jG} {own : String} {cc : ByteArray} {nL pc nLy d dd idx np : Nat} {lv : Nat → Option Value} {rest st av : List Value} {mem : jMem} {y : MethodName} {ccy : ByteArray} {ty : FieldType} {P : Int32 → jMem → Prop} {i : Nat} (hi : i < 5) (X : jOk G own cc nL) (hR : jRm G dd 0 0) (hM : jPi y ccy nLy ty d (.ref (jB + i) :: av) np mem P) (hst : st = av.reverse ++ .ref (jB + i) :: rest) (hcy : y.cls = "java/lang/String") (hc : Cond.code y ccy nLy (some ty) ∈ jW) (hlk : Cond.methodLink own idx y ∈ jW) (hs : Cond.instanceMethod y ∈ jW) (hse : Cond.selects y.cls y y ∈ jW) (hini : Cond.initialized y.cls ∈ jW) (hy : y.cls ≠ "java/lang/invoke/MethodHandle" ∧ y.cls ≠ "java/lang/invoke/VarHandle" ∧ (parseMethodDescriptor y.desc).map (fun d => d.parameters.length) = some av.length) (hn : nLy ≤ 45) (hdd : d + 1 ≤ dd) (hW : (rest.map fun v => v.category).sum ≤ 8) (hd : decode cc pc = .ok (.invokevirtual idx, 3)) (k : ∀ v m, P v m → J G own cc nL 0 0 (pc + 3) lv (.int v :: rest) (jS np) m) : J G own cc nL 0 0 pc lv st (jS np) mem := by
  obtain ⟨⟨p, l, e, R, s, m, args, below, meth, c, Q⟩, dC, dI, A, n0, ad0⟩ := G
  intro H locs ls ad cy hw hl
  obtain ⟨x1, x2, x3, x4, x5, x6, x7, x8, x9, x10, x11, x12, x13⟩ := X.2.2.2.2.2.2.2.1
  subst hst
  have e9 : ad (jB + i) = ad0 (jB + i) := hw.2.2.2.2.1.1 _ (Or.inr (by omega))
  refine j_back (rest := rest) (lv := lv) (own := own) (cc := cc) (va_runV (C := y.cls) (b := ad (jB + i)) (As := av.map (jv ad)) ⟨X.1, X.2.1, X.2.2.1, X.2.2.2.1, X.2.2.2.2.1⟩ (hM l dC dI ad cy H.size) ⟨callB_of av.length X.2.2.2.2.1 (jW_good hc) rfl rfl rfl (X.2.2.2.2.1 _ hini) (X.2.2.2.2.1 _ hlk) hy (j_rm (y := y) (ccy := ccy) (ret := some ty) hdd hR.1 hR.2.1 hn), X.2.2.2.2.1 _ hs, X.2.2.2.2.1 _ hse⟩ ⟨j_blind, (by
    rw [e9, hcy]
    exact vk_recv (i := i) (adK := fun i => ad0 (jB + i)) x11 hi hw.2.2.1), fun U hU hW => ⟨rfl, j_pre X hw hU hW⟩⟩ rfl (by rw [List.length_map]) hl.1 (by show (av.reverse ++ .ref (jB + i) :: rest).map (jv ad) = _; rw [List.map_append, List.map_reverse]; rfl) (by show 2 * 0 + _ ≤ 8; rw [j_cat_sum]; omega) hd ⟨hR.2.2.1, hR.2.2.2⟩) hw hl X.2.2.2.2.2.1 (fun r sh2 m hp => by obtain ⟨rfl, v, rfl, hp⟩ := hp; exact ⟨Or.inl rfl, k v m hp⟩)
/-! a reference that leads out of the picture, as an argument that nobody reads -/
theorem jws_ad {ad ad' : Nat → Nat} {cy : Nat → ClassId} {sh : jSh} {mem : jMem} (h : ∀ i, i < sh.1 → ad' i = ad i) (hs : jSok sh) : jws ad' cy sh mem = jws ad cy sh mem := by
  unfold jws
  refine List.map_congr_left fun i hi => ?_
  have hi := List.mem_range.mp hi
  have hp : ∀ j, (sh.2.2.2 i j).map ad' = (sh.2.2.2 i j).map ad := fun j => by
    cases hq : sh.2.2.2 i j with
    | none => rfl
    | some t => exact congrArg some (h t (hs.2 i j t hi hq))
  have he : jce ad' cy sh mem i = jce ad cy sh mem i := by
    unfold jce jfl
    simp only [hp]
  rw [h i hi, he]
theorem j_backA {p : Program} {l : Launch} {e : Env} {R : Room} {s : State} {m : MethodId} {args : Array Value} {below : List Frame} {meth : Method} {c : Code} {Q : State → Prop} {dC : Nat → ClassId} {dI : Nat → Nat → Nat} {A : Nat → Prop} {n0 : Nat} {ad0 : Nat → Nat} {own : String} {cc : ByteArray} {nL u us pc : Nat} {lv : Nat → Option Value} {rest : List Value} {sh : jSh} {mem : jMem} {mc ms : Nat} {post : Option Value → jSh → jMem → Prop} {H : Heap} {locs : List Loc} {ls : Array Slot} {ad ad' : Nat → Nat} {cy : Nat → ClassId} {st0 : List Value} {a : Array Value} (hr : va_Run p l e R s m args below meth c H locs u us mc ms (F0 m pc ls st0) (rest.map (jv ad)) (jQc dC dI ad' cy H.size sh mem post a) (va_A (jws ad' cy sh mem) H.size)) (hw : jHp s dC dI A n0 ad0 sh mem H locs ad cy) (hl : jlo ls nL ad lv) (hA : ∀ q, s.heap.size ≤ q → A q) (hag : ∀ i, i < sh.1 → ad' i = ad i)
    (k : ∀ (r : Option Value) (sh' : jSh) (mem' : jMem), post r sh' mem' → sh' = sh ∧ ∃ v, r = some (.int v) ∧ J ((p, l, e, R, s, m, args, below, meth, c, Q), dC, dI, A, n0, ad0) own cc nL (u + mc) (us + ms) (pc + 3) lv (.int v :: rest) sh' mem') : W p l e R s m args below meth c H locs u us Q (F0 m pc ls st0) := by
  have ew : jws ad' cy sh mem = jws ad cy sh mem := jws_ad hag hw.2.2.2.2.2
  intro T hT X
  obtain ⟨v, st₀, t, T', L, h0, X', hL, e1, e2, ⟨⟨r, sh', mem', ad2, cy', hv, hp, hP1, hD1, hK1, hG1, hO1⟩, hz, hk⟩, st⟩ := hr T hT X
  cases hv
  rw [h0] at hz hk
  rw [ew] at hk hD1 hL
  obtain ⟨rfl, v, rfl, hJ⟩ := k r sh' mem' hp
  have ea : ad2 = ad' := hG1.2.2 rfl
  subst ea
  have ew2 : jws ad2 cy' sh' mem' = jws ad cy' sh' mem' := jws_ad hag hO1
  rw [ew2] at hP1 hD1
  have hvm : s.vm.Alike t.vm := by rw [← e2]; exact X'.warmed.alike
  have hf := j_fr hw hA
  have hb := hJ T'.heap (locs ++ L) ls ad cy' ⟨by rw [e1]; exact hP1, hD1.weaken (fun _ q _ h => hf q.1 h), ⟨Nat.le_trans hw.2.2.1.1 (by rw [e1]; exact hz), fun q h1 h2 => by
      rw [e1, hk q (Nat.lt_of_lt_of_le h1 hw.2.2.1.1) (fun z => h2 (hf q z))]
      exact hw.2.2.1.2.1 q h1 h2, fun q hq => by
      rcases List.mem_append.mp hq with h | h
      · exact hw.2.2.1.2.2 q h
      · exact hf _ (hL q h)⟩, jKy.moved hvm.symm hK1, hw.2.2.2.2.1, hO1⟩ hl
  obtain ⟨t2, a1, b1⟩ := hb T' rfl X'
  exact ⟨t2, st t2 a1, b1⟩
theorem t_chkN (np : Nat) (mem : jMem) (k n x : Nat) (h : k < n) (hn : n < 2 ^ 31) : jPi yJ3_checkIndex_8e157 cJ3_checkIndex_8e157 3 .int 1 [.int (nI k), .int (nI n), .null] np mem (fun v c => v = nI k ∧ c = mem) := by
  refine jPi.ofF (own := RJ3) rfl (by decide +kernel) (Nat.le_of_ble_eq_true rfl) (fun G X hR hr hE => ?_)
  refine j_iload_n X dJ3_checkIndex_8e157_0 rfl ?_
  refine j_if_lt X 9 dJ3_checkIndex_8e157_1 (by decide) (fun c_1 => absurd c_1 (nI_pos (by omega))) (fun c_1 => ?_)
  refine j_iload_n X dJ3_checkIndex_8e157_4 rfl ?_
  refine j_iload_n X dJ3_checkIndex_8e157_5 rfl ?_
  refine j_icmp_lt X 16 dJ3_checkIndex_8e157_6 (by decide) (fun c_6 => ?_) (fun c_6 => absurd (nI_lt h hn) c_6)
  refine j_iload_n X dJ3_checkIndex_8e157_16 rfl ?_
  refine s_iret X hE hr dJ3_checkIndex_8e157_17 rfl ⟨rfl, rfl⟩
theorem t_chkR (np : Nat) (mem : jMem) (k n x : Nat) (h : k < n) (hn : n < 2 ^ 31) : jPi yJ3_checkIndex_8e157 cJ3_checkIndex_8e157 3 .int 1 [.int (nI k), .int (nI n), .ref x] np mem (fun v c => v = nI k ∧ c = mem) := by
  refine jPi.ofF (own := RJ3) rfl (by decide +kernel) (Nat.le_of_ble_eq_true rfl) (fun G X hR hr hE => ?_)
  refine j_iload_n X dJ3_checkIndex_8e157_0 rfl ?_
  refine j_if_lt X 9 dJ3_checkIndex_8e157_1 (by decide) (fun c_1 => absurd c_1 (nI_pos (by omega))) (fun c_1 => ?_)
  refine j_iload_n X dJ3_checkIndex_8e157_4 rfl ?_
  refine j_iload_n X dJ3_checkIndex_8e157_5 rfl ?_
  refine j_icmp_lt X 16 dJ3_checkIndex_8e157_6 (by decide) (fun c_6 => ?_) (fun c_6 => absurd (nI_lt h hn) c_6)
  refine j_iload_n X dJ3_checkIndex_8e157_16 rfl ?_
  refine s_iret X hE hr dJ3_checkIndex_8e157_17 rfl ⟨rfl, rfl⟩
theorem t_check (np : Nat) (mem : jMem) (k n : Nat) (h : k < n) (hn : n < 2 ^ 31) (hnp : np ≤ 12) : jPv yJ0_checkIndex_df160 cJ0_checkIndex_df160 2 2 [.int (nI k), .int (nI n)] np mem (fun c => c = mem) := by
  refine jCt.ofF (by decide +kernel) (Nat.le_of_ble_eq_true rfl) (fun G X hR hr _ hE => ?_)
  have hE : jEv G np (fun c => c = mem) := hE
  refine j_iload_n X dJ0_checkIndex_df160_0 rfl ?_
  refine j_iload_n X dJ0_checkIndex_df160_1 rfl ?_
  have K8 : ∀ v : Int32, J G yJ0_checkIndex_df160.cls cJ0_checkIndex_df160 2 0 0 (5 + 3) (jen [.int (nI k), .int (nI n)]) [.int v] (jS np) mem := fun v => j_pop X dJ0_checkIndex_df160_8 rfl (s_vret X hE hr dJ0_checkIndex_df160_9 rfl)
  have K5 : J G yJ0_checkIndex_df160.cls cJ0_checkIndex_df160 2 0 0 5 (jen [.int (nI k), .int (nI n)]) [.null, .int (nI n), .int (nI k)] (jS np) mem := s_callSi X hR (t_chkN np mem k n 0 h hn) rfl u699 u697 u698 u18 hyJ3_checkIndex_8e157 (by decide) (by decide) (Nat.le_of_ble_eq_true rfl) dJ0_checkIndex_df160_5 (fun v m h => by obtain ⟨e1, e2⟩ := h; subst e2; exact K8 v)
  obtain ⟨⟨p, l, e, R, s, m, args, below, meth, c, Q⟩, dC, dI, A, n0, ad0⟩ := G
  intro H locs ls ad cy hw hl
  obtain ⟨x1, x2, x3, x4, x5, x6, x7, x8, x9, x10, x11, x12, x13⟩ := X.2.2.2.2.2.2.2.1
  rcases x13 with hz | ⟨t, hz⟩
  · exact va_gets (C := "jdk/internal/util/Preconditions") (n := "SIOOBE_FORMATTER") (d := "Ljava/util/function/BiFunction;") (ref := "jdk/internal/util/Preconditions") X.1 X.2.1 hz hw.2.2.1 X.2.2.2.1 (X.2.2.2.2.1 _ u695) (fun _ h9 => h9) dJ0_checkIndex_df160_2 (K5 H locs ls ad cy hw hl)
  · refine va_gets (C := "jdk/internal/util/Preconditions") (n := "SIOOBE_FORMATTER") (d := "Ljava/util/function/BiFunction;") (ref := "jdk/internal/util/Preconditions") X.1 X.2.1 hz hw.2.2.1 X.2.2.2.1 (X.2.2.2.2.1 _ u695) (fun _ h9 => h9) dJ0_checkIndex_df160_2 ?_
    have hsh : (jS np).1 < jB := by show 92 + 2 * np < 1000000; omega
    let ad' : Nat → Nat := fun i => if i = jB - 1 then t else ad i
    have hag : ∀ i, i < (jS np).1 → ad' i = ad i := fun i hi => if_neg (by have : jB = 1000000 := rfl; omega)
    have hag2 : ∀ i, jB ≤ i → ad' i = ad i := fun i hi => if_neg (by have : jB = 1000000 := rfl; omega)
    have had : ad' (jB - 1) = t := if_pos rfl
    have ew : jws ad' cy (jS np) mem = jws ad cy (jS np) mem := jws_ad hag hw.2.2.2.2.2
    refine j_backA (ad' := ad') (lv := jen [.int (nI k), .int (nI n)]) (rest := []) (va_runS (As := [.int (nI k), .int (nI n), .ref t]) ⟨X.1, X.2.1, X.2.2.1, X.2.2.2.1, X.2.2.2.2.1⟩ (t_chkR np mem k n (jB - 1) h hn l dC dI ad' cy H.size) ⟨callB_of 3 X.2.2.2.2.1 (jW_good u699) rfl rfl rfl (X.2.2.2.2.1 _ u18) (X.2.2.2.2.1 _ u697) hyJ3_checkIndex_8e157 (j_rm (y := yJ3_checkIndex_8e157) (ccy := cJ3_checkIndex_8e157) (ret := some .int) (d := 1) (dd := 2) (by decide) hR.1 hR.2.1 (by decide)), X.2.2.2.2.1 _ u698⟩ ⟨j_blind, fun U hU hW => ⟨by show #[Value.int (nI k), .int (nI n), .ref t] = #[Value.int (nI k), .int (nI n), .ref (ad' (jB - 1))]; rw [had], by
      obtain ⟨q1, q2, q3, q4, q5, q6, q7⟩ := j_pre X hw hU hW
      exact ⟨q1, by rw [ew]; exact q2, by rw [ew]; exact q3, q4, q5, q6, by rw [ew]; exact q7.ad hag2⟩⟩⟩ rfl rfl hl.1 rfl (Nat.le_of_ble_eq_true rfl) dJ0_checkIndex_df160_5 ⟨hR.2.2.1, hR.2.2.2⟩) hw hl X.2.2.2.2.2.1 hag (fun r sh' mem' hp => by
      obtain ⟨rfl, v, rfl, e1, e2⟩ := hp
      subst e2
      exact ⟨rfl, v, rfl, K8 v⟩)
theorem t_coder (np : Nat) (mem : jMem) (i : Nat) (hi : i < 5) : jPi yJ0_coder_7d493 cJ0_coder_7d493 1 .byte 1 [.ref (jB + i)] np mem (fun v c => v = 0 ∧ c = mem) := by
  refine jPi.ofF (own := RJ0) rfl (by decide +kernel) (Nat.le_of_ble_eq_true rfl) (fun G X hR hr hE => ?_)
  refine j_comp X dJ0_coder_7d493_0 ?_
  refine j_if_eq X 13 dJ0_coder_7d493_3 (by decide) (fun c_3 => absurd c_3 (by decide)) (fun c_3 => ?_)
  refine j_aload_n X dJ0_coder_7d493_6 rfl ?_
  refine j_scod hi X dJ0_coder_7d493_7 ?_
  refine j_goto X 14 dJ0_coder_7d493_10 (by decide) ?_
  refine s_iret X hE hr dJ0_coder_7d493_14 rfl ⟨rfl, rfl⟩
theorem t_isLatin1 (np : Nat) (mem : jMem) (i : Nat) (hi : i < 5) : jPi yJ0_isLatin1_aae02 cJ0_isLatin1_aae02 1 .boolean 1 [.ref (jB + i)] np mem (fun v c => v = 1 ∧ c = mem) := by
  refine jPi.ofF (own := RJ0) rfl (by decide +kernel) (Nat.le_of_ble_eq_true rfl) (fun G X hR hr hE => ?_)
  refine j_comp X dJ0_isLatin1_aae02_0 ?_
  refine j_if_eq X 17 dJ0_isLatin1_aae02_3 (by decide) (fun c_3 => absurd c_3 (by decide)) (fun c_3 => ?_)
  refine j_aload_n X dJ0_isLatin1_aae02_6 rfl ?_
  refine j_scod hi X dJ0_isLatin1_aae02_7 ?_
  refine j_if_ne X 17 dJ0_isLatin1_aae02_10 (by decide) (fun c_10 => absurd rfl c_10) (fun c_10 => ?_)
  refine j_iconst X dJ0_isLatin1_aae02_13 1 (by decide) ?_
  refine j_goto X 18 dJ0_isLatin1_aae02_14 (by decide) ?_
  refine s_iret X hE hr dJ0_isLatin1_aae02_18 rfl ⟨rfl, rfl⟩
theorem tx_sh : ∀ i, i < 5 → nI (jtl.getD i 0) >>> ((0 : Int32) &&& 31) = nI (jtl.getD i 0) := by decide +kernel
theorem tx_ch : ∀ i, i < 5 → ∀ k, k < jtl.getD i 0 → (((((jtb.getD i []).getD k 0) &&& 255).toUInt32 % 65536).toInt32 = (jtb.getD i []).getD k 0 ∧ narrow .char (.int ((jtb.getD i []).getD k 0)) = .int ((jtb.getD i []).getD k 0)) := by decide +kernel
theorem t_length (np : Nat) (mem : jMem) (i : Nat) (hi : i < 5) : jPi yJ0_length_8abf5 cJ0_length_8abf5 1 .int 2 [.ref (jB + i)] np mem (fun v c => v = nI (jtl.getD i 0) ∧ c = mem) := by
  refine jPi.ofF (own := RJ0) rfl (by decide +kernel) (Nat.le_of_ble_eq_true rfl) (fun G X hR hr hE => ?_)
  refine j_aload_n X dJ0_length_8abf5_0 rfl ?_
  refine j_sval hi X dJ0_length_8abf5_1 ?_
  refine j_slen hi X dJ0_length_8abf5_4 ?_
  refine j_aload_n X dJ0_length_8abf5_5 rfl ?_
  refine s_callTi hi X hR (t_coder np mem i hi) rfl rfl u678 u675 u676 u677 u16 hyJ0_coder_7d493 (by decide) (by decide) (Nat.le_of_ble_eq_true rfl) dJ0_length_8abf5_6 (fun v m h => ?_)
  obtain ⟨e1, e2⟩ := h; subst e1; subst e2
  refine j_ishr X dJ0_length_8abf5_9 ?_
  refine s_iret X hE hr dJ0_length_8abf5_10 rfl ⟨tx_sh i hi, rfl⟩
theorem t_charAt1 (np : Nat) (mem : jMem) (i k : Nat) (hi : i < 5) (hk : k < jtl.getD i 0) (hk3 : jtl.getD i 0 < 2 ^ 31) (hnp : np ≤ 12) : jPi yJ1_charAt_3b067 cJ1_charAt_3b067 2 .char 3 [.ref (jB + 10 + i), .int (nI k)] np mem (fun v c => v = (jtb.getD i []).getD k 0 ∧ c = mem) := by
  refine jPi.ofF (own := RJ1) rfl (by decide +kernel) (Nat.le_of_ble_eq_true rfl) (fun G X hR hr hE => ?_)
  refine j_iload_n X dJ1_charAt_3b067_0 rfl ?_
  refine j_aload_n X dJ1_charAt_3b067_1 rfl ?_
  refine j_slen hi X dJ1_charAt_3b067_2 ?_
  refine s_callSv X hR (t_check np mem k (jtl.getD i 0) hk hk3 hnp) rfl u694 u692 u693 u16 hyJ0_checkIndex_df160 (by decide) (by decide) (Nat.le_of_ble_eq_true rfl) dJ1_charAt_3b067_3 (fun m h => ?_)
  subst h
  refine j_aload_n X dJ1_charAt_3b067_6 rfl ?_
  refine j_iload_n X dJ1_charAt_3b067_7 rfl ?_
  refine j_sbal hi hk hk3 X dJ1_charAt_3b067_8 ?_
  refine j_sipush X dJ1_charAt_3b067_9 255 (by decide) ?_
  refine j_iand X dJ1_charAt_3b067_12 ?_
  refine j_i2c X dJ1_charAt_3b067_13 ?_
  refine j_nrm _ (tx_ch i hi k hk).1 ?_
  refine s_iret X hE hr dJ1_charAt_3b067_14 (tx_ch i hi k hk).2 ⟨rfl, rfl⟩
theorem t_charAt (np : Nat) (mem : jMem) (i k : Nat) (hi : i < 5) (hk : k < jtl.getD i 0) (hk3 : jtl.getD i 0 < 2 ^ 31) (hnp : np ≤ 12) : jPi yJ0_charAt_5068e cJ0_charAt_5068e 2 .char 5 [.ref (jB + i), .int (nI k)] np mem (fun v c => v = (jtb.getD i []).getD k 0 ∧ c = mem) := by
  refine jPi.ofF (own := RJ0) rfl (by decide +kernel) (Nat.le_of_ble_eq_true rfl) (fun G X hR hr hE => ?_)
  refine j_aload_n X dJ0_charAt_5068e_0 rfl ?_
  refine s_callTi hi X hR (t_isLatin1 np mem i hi) rfl rfl u688 u685 u686 u687 u16 hyJ0_isLatin1_aae02 (by decide) (by decide) (Nat.le_of_ble_eq_true rfl) dJ0_charAt_5068e_1 (fun v m h => ?_)
  obtain ⟨e1, e2⟩ := h; subst e1; subst e2
  refine j_if_eq X 16 dJ0_charAt_5068e_4 (by decide) (fun c_4 => absurd c_4 (by decide)) (fun c_4 => ?_)
  refine j_aload_n X dJ0_charAt_5068e_7 rfl ?_
  refine j_sval hi X dJ0_charAt_5068e_8 ?_
  refine j_iload_n X dJ0_charAt_5068e_11 rfl ?_
  refine s_callSi X hR (t_charAt1 np _ i k hi hk hk3 hnp) rfl u691 u689 u690 u17 hyJ1_charAt_3b067 (by decide) (by decide) (Nat.le_of_ble_eq_true rfl) dJ0_charAt_5068e_12 (fun v m h => ?_)
  obtain ⟨e1, e2⟩ := h; subst e1; subst e2
  refine s_iret X hE hr dJ0_charAt_5068e_15 (tx_ch i hi k hk).2 ⟨rfl, rfl⟩
theorem tw_0 {B : Nat → Nat} {z p : Nat} (hp : p ≤ z) : tWd B z p = 1685024626 ↔ (tK B z p = 2 ∧ tN B z p - tF B z p = 4 ∧ B (tF B z p + 0) = 100 ∧ B (tF B z p + 1) = 111 ∧ B (tF B z p + 2) = 111 ∧ B (tF B z p + 3) = 114) := by
  by_cases hk : tK B z p = 2
  · obtain ⟨-, h1, h2, h3⟩ := tK_2 hk
    unfold tWd
    generalize hd : tN B z p - tF B z p = d
    have hb : ∀ j, j < d → 97 ≤ B (tF B z p + j) ∧ B (tF B z p + j) ≤ 122 := fun j hj => of_decide_eq_true (h3 (tF B z p + j) (by omega) (by omega))
    rcases Nat.lt_or_ge d 8 with q | q
    · rw [if_pos ⟨hk, q⟩]
      have hd1 : 1 ≤ d := by omega
      clear h1 h2 h3 hp
      rcases (show d = 1 ∨ d = 2 ∨ d = 3 ∨ d = 4 ∨ d = 5 ∨ d = 6 ∨ d = 7 by omega) with rfl | rfl | rfl | rfl | rfl | rfl | rfl
      · have b0 := hb 0 (by omega)
        clear hb hd
        simp only [jWf, Nat.zero_add, Nat.add_zero]
        simp only [Nat.add_zero] at b0
        generalize B (tF B z p) = y0 at *
        constructor
        · intro h; exfalso; omega
        · rintro ⟨-, h, -⟩; exact absurd h (by decide)
      · have b0 := hb 0 (by omega); have b1 := hb 1 (by omega)
        clear hb hd
        simp only [jWf, Nat.zero_add, Nat.add_zero]
        simp only [Nat.add_zero] at b0
        generalize B (tF B z p) = y0 at *
        generalize B (tF B z p + 1) = y1 at *
        constructor
        · intro h; exfalso; omega
        · rintro ⟨-, h, -⟩; exact absurd h (by decide)
      · have b0 := hb 0 (by omega); have b1 := hb 1 (by omega); have b2 := hb 2 (by omega)
        clear hb hd
        simp only [jWf, Nat.zero_add, Nat.add_zero]
        simp only [Nat.add_zero] at b0
        generalize B (tF B z p) = y0 at *
        generalize B (tF B z p + 1) = y1 at *
        generalize B (tF B z p + 2) = y2 at *
        constructor
        · intro h; exfalso; omega
        · rintro ⟨-, h, -⟩; exact absurd h (by decide)
      · have b0 := hb 0 (by omega); have b1 := hb 1 (by omega); have b2 := hb 2 (by omega); have b3 := hb 3 (by omega)
        clear hb hd
        simp only [jWf, Nat.zero_add, Nat.add_zero]
        simp only [Nat.add_zero] at b0
        generalize B (tF B z p) = y0 at *
        generalize B (tF B z p + 1) = y1 at *
        generalize B (tF B z p + 2) = y2 at *
        generalize B (tF B z p + 3) = y3 at *
        constructor
        · intro h; refine ⟨hk, trivial, ?_⟩; omega
        · rintro ⟨-, -, h⟩; omega
      · have b0 := hb 0 (by omega); have b1 := hb 1 (by omega); have b2 := hb 2 (by omega); have b3 := hb 3 (by omega); have b4 := hb 4 (by omega)
        clear hb hd
        simp only [jWf, Nat.zero_add, Nat.add_zero]
        simp only [Nat.add_zero] at b0
        generalize B (tF B z p) = y0 at *
        generalize B (tF B z p + 1) = y1 at *
        generalize B (tF B z p + 2) = y2 at *
        generalize B (tF B z p + 3) = y3 at *
        generalize B (tF B z p + 4) = y4 at *
        constructor
        · intro h; exfalso; omega
        · rintro ⟨-, h, -⟩; exact absurd h (by decide)
      · have b0 := hb 0 (by omega); have b1 := hb 1 (by omega); have b2 := hb 2 (by omega); have b3 := hb 3 (by omega); have b4 := hb 4 (by omega); have b5 := hb 5 (by omega)
        clear hb hd
        simp only [jWf, Nat.zero_add, Nat.add_zero]
        simp only [Nat.add_zero] at b0
        generalize B (tF B z p) = y0 at *
        generalize B (tF B z p + 1) = y1 at *
        generalize B (tF B z p + 2) = y2 at *
        generalize B (tF B z p + 3) = y3 at *
        generalize B (tF B z p + 4) = y4 at *
        generalize B (tF B z p + 5) = y5 at *
        constructor
        · intro h; exfalso; omega
        · rintro ⟨-, h, -⟩; exact absurd h (by decide)
      · have b0 := hb 0 (by omega); have b1 := hb 1 (by omega); have b2 := hb 2 (by omega); have b3 := hb 3 (by omega); have b4 := hb 4 (by omega); have b5 := hb 5 (by omega); have b6 := hb 6 (by omega)
        clear hb hd
        simp only [jWf, Nat.zero_add, Nat.add_zero]
        simp only [Nat.add_zero] at b0
        generalize B (tF B z p) = y0 at *
        generalize B (tF B z p + 1) = y1 at *
        generalize B (tF B z p + 2) = y2 at *
        generalize B (tF B z p + 3) = y3 at *
        generalize B (tF B z p + 4) = y4 at *
        generalize B (tF B z p + 5) = y5 at *
        generalize B (tF B z p + 6) = y6 at *
        constructor
        · intro h; exfalso; omega
        · rintro ⟨-, h, -⟩; exact absurd h (by decide)
    · rw [if_neg (fun e => absurd e.2 (by omega))]
      exact ⟨fun h => absurd h (by decide), fun h => absurd h.2.1 (by omega)⟩
  · refine ⟨fun h => ?_, fun h => absurd h.1 hk⟩
    unfold tWd at h
    rw [if_neg (fun e => hk e.1)] at h
    exact absurd h (by decide)
theorem tw_1 {B : Nat → Nat} {z p : Nat} (hp : p ≤ z) : tWd B z p = 491394656372 ↔ (tK B z p = 2 ∧ tN B z p - tF B z p = 5 ∧ B (tF B z p + 0) = 114 ∧ B (tF B z p + 1) = 105 ∧ B (tF B z p + 2) = 103 ∧ B (tF B z p + 3) = 104 ∧ B (tF B z p + 4) = 116) := by
  by_cases hk : tK B z p = 2
  · obtain ⟨-, h1, h2, h3⟩ := tK_2 hk
    unfold tWd
    generalize hd : tN B z p - tF B z p = d
    have hb : ∀ j, j < d → 97 ≤ B (tF B z p + j) ∧ B (tF B z p + j) ≤ 122 := fun j hj => of_decide_eq_true (h3 (tF B z p + j) (by omega) (by omega))
    rcases Nat.lt_or_ge d 8 with q | q
    · rw [if_pos ⟨hk, q⟩]
      have hd1 : 1 ≤ d := by omega
      clear h1 h2 h3 hp
      rcases (show d = 1 ∨ d = 2 ∨ d = 3 ∨ d = 4 ∨ d = 5 ∨ d = 6 ∨ d = 7 by omega) with rfl | rfl | rfl | rfl | rfl | rfl | rfl
      · have b0 := hb 0 (by omega)
        clear hb hd
        simp only [jWf, Nat.zero_add, Nat.add_zero]
        simp only [Nat.add_zero] at b0
        generalize B (tF B z p) = y0 at *
        constructor
        · intro h; exfalso; omega
        · rintro ⟨-, h, -⟩; exact absurd h (by decide)
      · have b0 := hb 0 (by omega); have b1 := hb 1 (by omega)
        clear hb hd
        simp only [jWf, Nat.zero_add, Nat.add_zero]
        simp only [Nat.add_zero] at b0
        generalize B (tF B z p) = y0 at *
        generalize B (tF B z p + 1) = y1 at *
        constructor
        · intro h; exfalso; omega
        · rintro ⟨-, h, -⟩; exact absurd h (by decide)
      · have b0 := hb 0 (by omega); have b1 := hb 1 (by omega); have b2 := hb 2 (by omega)
        clear hb hd
        simp only [jWf, Nat.zero_add, Nat.add_zero]
        simp only [Nat.add_zero] at b0
        generalize B (tF B z p) = y0 at *
        generalize B (tF B z p + 1) = y1 at *
        generalize B (tF B z p + 2) = y2 at *
        constructor
        · intro h; exfalso; omega
        · rintro ⟨-, h, -⟩; exact absurd h (by decide)
      · have b0 := hb 0 (by omega); have b1 := hb 1 (by omega); have b2 := hb 2 (by omega); have b3 := hb 3 (by omega)
        clear hb hd
        simp only [jWf, Nat.zero_add, Nat.add_zero]
        simp only [Nat.add_zero] at b0
        generalize B (tF B z p) = y0 at *
        generalize B (tF B z p + 1) = y1 at *
        generalize B (tF B z p + 2) = y2 at *
        generalize B (tF B z p + 3) = y3 at *
        constructor
        · intro h; exfalso; omega
        · rintro ⟨-, h, -⟩; exact absurd h (by decide)
      · have b0 := hb 0 (by omega); have b1 := hb 1 (by omega); have b2 := hb 2 (by omega); have b3 := hb 3 (by omega); have b4 := hb 4 (by omega)
        clear hb hd
        simp only [jWf, Nat.zero_add, Nat.add_zero]
        simp only [Nat.add_zero] at b0
        generalize B (tF B z p) = y0 at *
        generalize B (tF B z p + 1) = y1 at *
        generalize B (tF B z p + 2) = y2 at *
        generalize B (tF B z p + 3) = y3 at *
        generalize B (tF B z p + 4) = y4 at *
        constructor
        · intro h; refine ⟨hk, trivial, ?_⟩; omega
        · rintro ⟨-, -, h⟩; omega
      · have b0 := hb 0 (by omega); have b1 := hb 1 (by omega); have b2 := hb 2 (by omega); have b3 := hb 3 (by omega); have b4 := hb 4 (by omega); have b5 := hb 5 (by omega)
        clear hb hd
        simp only [jWf, Nat.zero_add, Nat.add_zero]
        simp only [Nat.add_zero] at b0
        generalize B (tF B z p) = y0 at *
        generalize B (tF B z p + 1) = y1 at *
        generalize B (tF B z p + 2) = y2 at *
        generalize B (tF B z p + 3) = y3 at *
        generalize B (tF B z p + 4) = y4 at *
        generalize B (tF B z p + 5) = y5 at *
        constructor
        · intro h; exfalso; omega
        · rintro ⟨-, h, -⟩; exact absurd h (by decide)
      · have b0 := hb 0 (by omega); have b1 := hb 1 (by omega); have b2 := hb 2 (by omega); have b3 := hb 3 (by omega); have b4 := hb 4 (by omega); have b5 := hb 5 (by omega); have b6 := hb 6 (by omega)
        clear hb hd
        simp only [jWf, Nat.zero_add, Nat.add_zero]
        simp only [Nat.add_zero] at b0
        generalize B (tF B z p) = y0 at *
        generalize B (tF B z p + 1) = y1 at *
        generalize B (tF B z p + 2) = y2 at *
        generalize B (tF B z p + 3) = y3 at *
        generalize B (tF B z p + 4) = y4 at *
        generalize B (tF B z p + 5) = y5 at *
        generalize B (tF B z p + 6) = y6 at *
        constructor
        · intro h; exfalso; omega
        · rintro ⟨-, h, -⟩; exact absurd h (by decide)
    · rw [if_neg (fun e => absurd e.2 (by omega))]
      exact ⟨fun h => absurd h (by decide), fun h => absurd h.2.1 (by omega)⟩
  · refine ⟨fun h => ?_, fun h => absurd h.1 hk⟩
    unfold tWd at h
    rw [if_neg (fun e => hk e.1)] at h
    exact absurd h (by decide)
theorem tw_2 {B : Nat → Nat} {z p : Nat} (hp : p ≤ z) : tWd B z p = 1718775661 ↔ (tK B z p = 2 ∧ tN B z p - tF B z p = 4 ∧ B (tF B z p + 0) = 102 ∧ B (tF B z p + 1) = 114 ∧ B (tF B z p + 2) = 111 ∧ B (tF B z p + 3) = 109) := by
  by_cases hk : tK B z p = 2
  · obtain ⟨-, h1, h2, h3⟩ := tK_2 hk
    unfold tWd
    generalize hd : tN B z p - tF B z p = d
    have hb : ∀ j, j < d → 97 ≤ B (tF B z p + j) ∧ B (tF B z p + j) ≤ 122 := fun j hj => of_decide_eq_true (h3 (tF B z p + j) (by omega) (by omega))
    rcases Nat.lt_or_ge d 8 with q | q
    · rw [if_pos ⟨hk, q⟩]
      have hd1 : 1 ≤ d := by omega
      clear h1 h2 h3 hp
      rcases (show d = 1 ∨ d = 2 ∨ d = 3 ∨ d = 4 ∨ d = 5 ∨ d = 6 ∨ d = 7 by omega) with rfl | rfl | rfl | rfl | rfl | rfl | rfl
      · have b0 := hb 0 (by omega)
        clear hb hd
        simp only [jWf, Nat.zero_add, Nat.add_zero]
        simp only [Nat.add_zero] at b0
        generalize B (tF B z p) = y0 at *
        constructor
        · intro h; exfalso; omega
        · rintro ⟨-, h, -⟩; exact absurd h (by decide)
      · have b0 := hb 0 (by omega); have b1 := hb 1 (by omega)
        clear hb hd
        simp only [jWf, Nat.zero_add, Nat.add_zero]
        simp only [Nat.add_zero] at b0
        generalize B (tF B z p) = y0 at *
        generalize B (tF B z p + 1) = y1 at *
        constructor
        · intro h; exfalso; omega
        · rintro ⟨-, h, -⟩; exact absurd h (by decide)
      · have b0 := hb 0 (by omega); have b1 := hb 1 (by omega); have b2 := hb 2 (by omega)
        clear hb hd
        simp only [jWf, Nat.zero_add, Nat.add_zero]
        simp only [Nat.add_zero] at b0
        generalize B (tF B z p) = y0 at *
        generalize B (tF B z p + 1) = y1 at *
        generalize B (tF B z p + 2) = y2 at *
        constructor
        · intro h; exfalso; omega
        · rintro ⟨-, h, -⟩; exact absurd h (by decide)
      · have b0 := hb 0 (by omega); have b1 := hb 1 (by omega); have b2 := hb 2 (by omega); have b3 := hb 3 (by omega)
        clear hb hd
        simp only [jWf, Nat.zero_add, Nat.add_zero]
        simp only [Nat.add_zero] at b0
        generalize B (tF B z p) = y0 at *
        generalize B (tF B z p + 1) = y1 at *
        generalize B (tF B z p + 2) = y2 at *
        generalize B (tF B z p + 3) = y3 at *
        constructor
        · intro h; refine ⟨hk, trivial, ?_⟩; omega
        · rintro ⟨-, -, h⟩; omega
      · have b0 := hb 0 (by omega); have b1 := hb 1 (by omega); have b2 := hb 2 (by omega); have b3 := hb 3 (by omega); have b4 := hb 4 (by omega)
        clear hb hd
        simp only [jWf, Nat.zero_add, Nat.add_zero]
        simp only [Nat.add_zero] at b0
        generalize B (tF B z p) = y0 at *
        generalize B (tF B z p + 1) = y1 at *
        generalize B (tF B z p + 2) = y2 at *
        generalize B (tF B z p + 3) = y3 at *
        generalize B (tF B z p + 4) = y4 at *
        constructor
        · intro h; exfalso; omega
        · rintro ⟨-, h, -⟩; exact absurd h (by decide)
      · have b0 := hb 0 (by omega); have b1 := hb 1 (by omega); have b2 := hb 2 (by omega); have b3 := hb 3 (by omega); have b4 := hb 4 (by omega); have b5 := hb 5 (by omega)
        clear hb hd
        simp only [jWf, Nat.zero_add, Nat.add_zero]
        simp only [Nat.add_zero] at b0
        generalize B (tF B z p) = y0 at *
        generalize B (tF B z p + 1) = y1 at *
        generalize B (tF B z p + 2) = y2 at *
        generalize B (tF B z p + 3) = y3 at *
        generalize B (tF B z p + 4) = y4 at *
        generalize B (tF B z p + 5) = y5 at *
        constructor
        · intro h; exfalso; omega
        · rintro ⟨-, h, -⟩; exact absurd h (by decide)
      · have b0 := hb 0 (by omega); have b1 := hb 1 (by omega); have b2 := hb 2 (by omega); have b3 := hb 3 (by omega); have b4 := hb 4 (by omega); have b5 := hb 5 (by omega); have b6 := hb 6 (by omega)
        clear hb hd
        simp only [jWf, Nat.zero_add, Nat.add_zero]
        simp only [Nat.add_zero] at b0
        generalize B (tF B z p) = y0 at *
        generalize B (tF B z p + 1) = y1 at *
        generalize B (tF B z p + 2) = y2 at *
        generalize B (tF B z p + 3) = y3 at *
        generalize B (tF B z p + 4) = y4 at *
        generalize B (tF B z p + 5) = y5 at *
        generalize B (tF B z p + 6) = y6 at *
        constructor
        · intro h; exfalso; omega
        · rintro ⟨-, h, -⟩; exact absurd h (by decide)
    · rw [if_neg (fun e => absurd e.2 (by omega))]
      exact ⟨fun h => absurd h (by decide), fun h => absurd h.2.1 (by omega)⟩
  · refine ⟨fun h => ?_, fun h => absurd h.1 hk⟩
    unfold tWd at h
    rw [if_neg (fun e => hk e.1)] at h
    exact absurd h (by decide)
theorem tw_3 {B : Nat → Nat} {z p : Nat} (hp : p ≤ z) : tWd B z p = 439854918756 ↔ (tK B z p = 2 ∧ tN B z p - tF B z p = 5 ∧ B (tF B z p + 0) = 102 ∧ B (tF B z p + 1) = 105 ∧ B (tF B z p + 2) = 101 ∧ B (tF B z p + 3) = 108 ∧ B (tF B z p + 4) = 100) := by
  by_cases hk : tK B z p = 2
  · obtain ⟨-, h1, h2, h3⟩ := tK_2 hk
    unfold tWd
    generalize hd : tN B z p - tF B z p = d
    have hb : ∀ j, j < d → 97 ≤ B (tF B z p + j) ∧ B (tF B z p + j) ≤ 122 := fun j hj => of_decide_eq_true (h3 (tF B z p + j) (by omega) (by omega))
    rcases Nat.lt_or_ge d 8 with q | q
    · rw [if_pos ⟨hk, q⟩]
      have hd1 : 1 ≤ d := by omega
      clear h1 h2 h3 hp
      rcases (show d = 1 ∨ d = 2 ∨ d = 3 ∨ d = 4 ∨ d = 5 ∨ d = 6 ∨ d = 7 by omega) with rfl | rfl | rfl | rfl | rfl | rfl | rfl
      · have b0 := hb 0 (by omega)
        clear hb hd
        simp only [jWf, Nat.zero_add, Nat.add_zero]
        simp only [Nat.add_zero] at b0
        generalize B (tF B z p) = y0 at *
        constructor
        · intro h; exfalso; omega
        · rintro ⟨-, h, -⟩; exact absurd h (by decide)
      · have b0 := hb 0 (by omega); have b1 := hb 1 (by omega)
        clear hb hd
        simp only [jWf, Nat.zero_add, Nat.add_zero]
        simp only [Nat.add_zero] at b0
        generalize B (tF B z p) = y0 at *
        generalize B (tF B z p + 1) = y1 at *
        constructor
        · intro h; exfalso; omega
        · rintro ⟨-, h, -⟩; exact absurd h (by decide)
      · have b0 := hb 0 (by omega); have b1 := hb 1 (by omega); have b2 := hb 2 (by omega)
        clear hb hd
        simp only [jWf, Nat.zero_add, Nat.add_zero]
        simp only [Nat.add_zero] at b0
        generalize B (tF B z p) = y0 at *
        generalize B (tF B z p + 1) = y1 at *
        generalize B (tF B z p + 2) = y2 at *
        constructor
        · intro h; exfalso; omega
        · rintro ⟨-, h, -⟩; exact absurd h (by decide)
      · have b0 := hb 0 (by omega); have b1 := hb 1 (by omega); have b2 := hb 2 (by omega); have b3 := hb 3 (by omega)
        clear hb hd
        simp only [jWf, Nat.zero_add, Nat.add_zero]
        simp only [Nat.add_zero] at b0
        generalize B (tF B z p) = y0 at *
        generalize B (tF B z p + 1) = y1 at *
        generalize B (tF B z p + 2) = y2 at *
        generalize B (tF B z p + 3) = y3 at *
        constructor
        · intro h; exfalso; omega
        · rintro ⟨-, h, -⟩; exact absurd h (by decide)
      · have b0 := hb 0 (by omega); have b1 := hb 1 (by omega); have b2 := hb 2 (by omega); have b3 := hb 3 (by omega); have b4 := hb 4 (by omega)
        clear hb hd
        simp only [jWf, Nat.zero_add, Nat.add_zero]
        simp only [Nat.add_zero] at b0
        generalize B (tF B z p) = y0 at *
        generalize B (tF B z p + 1) = y1 at *
        generalize B (tF B z p + 2) = y2 at *
        generalize B (tF B z p + 3) = y3 at *
        generalize B (tF B z p + 4) = y4 at *
        constructor
        · intro h; refine ⟨hk, trivial, ?_⟩; omega
        · rintro ⟨-, -, h⟩; omega
      · have b0 := hb 0 (by omega); have b1 := hb 1 (by omega); have b2 := hb 2 (by omega); have b3 := hb 3 (by omega); have b4 := hb 4 (by omega); have b5 := hb 5 (by omega)
        clear hb hd
        simp only [jWf, Nat.zero_add, Nat.add_zero]
        simp only [Nat.add_zero] at b0
        generalize B (tF B z p) = y0 at *
        generalize B (tF B z p + 1) = y1 at *
        generalize B (tF B z p + 2) = y2 at *
        generalize B (tF B z p + 3) = y3 at *
        generalize B (tF B z p + 4) = y4 at *
        generalize B (tF B z p + 5) = y5 at *
        constructor
        · intro h; exfalso; omega
        · rintro ⟨-, h, -⟩; exact absurd h (by decide)
      · have b0 := hb 0 (by omega); have b1 := hb 1 (by omega); have b2 := hb 2 (by omega); have b3 := hb 3 (by omega); have b4 := hb 4 (by omega); have b5 := hb 5 (by omega); have b6 := hb 6 (by omega)
        clear hb hd
        simp only [jWf, Nat.zero_add, Nat.add_zero]
        simp only [Nat.add_zero] at b0
        generalize B (tF B z p) = y0 at *
        generalize B (tF B z p + 1) = y1 at *
        generalize B (tF B z p + 2) = y2 at *
        generalize B (tF B z p + 3) = y3 at *
        generalize B (tF B z p + 4) = y4 at *
        generalize B (tF B z p + 5) = y5 at *
        generalize B (tF B z p + 6) = y6 at *
        constructor
        · intro h; exfalso; omega
        · rintro ⟨-, h, -⟩; exact absurd h (by decide)
    · rw [if_neg (fun e => absurd e.2 (by omega))]
      exact ⟨fun h => absurd h (by decide), fun h => absurd h.2.1 (by omega)⟩
  · refine ⟨fun h => ?_, fun h => absurd h.1 hk⟩
    unfold tWd at h
    rw [if_neg (fun e => hk e.1)] at h
    exact absurd h (by decide)
theorem tw_4 {B : Nat → Nat} {z p : Nat} (hp : p ≤ z) : tWd B z p = 1870030194 ↔ (tK B z p = 2 ∧ tN B z p - tF B z p = 4 ∧ B (tF B z p + 0) = 111 ∧ B (tF B z p + 1) = 118 ∧ B (tF B z p + 2) = 101 ∧ B (tF B z p + 3) = 114) := by
  by_cases hk : tK B z p = 2
  · obtain ⟨-, h1, h2, h3⟩ := tK_2 hk
    unfold tWd
    generalize hd : tN B z p - tF B z p = d
    have hb : ∀ j, j < d → 97 ≤ B (tF B z p + j) ∧ B (tF B z p + j) ≤ 122 := fun j hj => of_decide_eq_true (h3 (tF B z p + j) (by omega) (by omega))
    rcases Nat.lt_or_ge d 8 with q | q
    · rw [if_pos ⟨hk, q⟩]
      have hd1 : 1 ≤ d := by omega
      clear h1 h2 h3 hp
      rcases (show d = 1 ∨ d = 2 ∨ d = 3 ∨ d = 4 ∨ d = 5 ∨ d = 6 ∨ d = 7 by omega) with rfl | rfl | rfl | rfl | rfl | rfl | rfl
      · have b0 := hb 0 (by omega)
        clear hb hd
        simp only [jWf, Nat.zero_add, Nat.add_zero]
        simp only [Nat.add_zero] at b0
        generalize B (tF B z p) = y0 at *
        constructor
        · intro h; exfalso; omega
        · rintro ⟨-, h, -⟩; exact absurd h (by decide)
      · have b0 := hb 0 (by omega); have b1 := hb 1 (by omega)
        clear hb hd
        simp only [jWf, Nat.zero_add, Nat.add_zero]
        simp only [Nat.add_zero] at b0
        generalize B (tF B z p) = y0 at *
        generalize B (tF B z p + 1) = y1 at *
        constructor
        · intro h; exfalso; omega
        · rintro ⟨-, h, -⟩; exact absurd h (by decide)
      · have b0 := hb 0 (by omega); have b1 := hb 1 (by omega); have b2 := hb 2 (by omega)
        clear hb hd
        simp only [jWf, Nat.zero_add, Nat.add_zero]
        simp only [Nat.add_zero] at b0
        generalize B (tF B z p) = y0 at *
        generalize B (tF B z p + 1) = y1 at *
        generalize B (tF B z p + 2) = y2 at *
        constructor
        · intro h; exfalso; omega
        · rintro ⟨-, h, -⟩; exact absurd h (by decide)
      · have b0 := hb 0 (by omega); have b1 := hb 1 (by omega); have b2 := hb 2 (by omega); have b3 := hb 3 (by omega)
        clear hb hd
        simp only [jWf, Nat.zero_add, Nat.add_zero]
        simp only [Nat.add_zero] at b0
        generalize B (tF B z p) = y0 at *
        generalize B (tF B z p + 1) = y1 at *
        generalize B (tF B z p + 2) = y2 at *
        generalize B (tF B z p + 3) = y3 at *
        constructor
        · intro h; refine ⟨hk, trivial, ?_⟩; omega
        · rintro ⟨-, -, h⟩; omega
      · have b0 := hb 0 (by omega); have b1 := hb 1 (by omega); have b2 := hb 2 (by omega); have b3 := hb 3 (by omega); have b4 := hb 4 (by omega)
        clear hb hd
        simp only [jWf, Nat.zero_add, Nat.add_zero]
        simp only [Nat.add_zero] at b0
        generalize B (tF B z p) = y0 at *
        generalize B (tF B z p + 1) = y1 at *
        generalize B (tF B z p + 2) = y2 at *
        generalize B (tF B z p + 3) = y3 at *
        generalize B (tF B z p + 4) = y4 at *
        constructor
        · intro h; exfalso; omega
        · rintro ⟨-, h, -⟩; exact absurd h (by decide)
      · have b0 := hb 0 (by omega); have b1 := hb 1 (by omega); have b2 := hb 2 (by omega); have b3 := hb 3 (by omega); have b4 := hb 4 (by omega); have b5 := hb 5 (by omega)
        clear hb hd
        simp only [jWf, Nat.zero_add, Nat.add_zero]
        simp only [Nat.add_zero] at b0
        generalize B (tF B z p) = y0 at *
        generalize B (tF B z p + 1) = y1 at *
        generalize B (tF B z p + 2) = y2 at *
        generalize B (tF B z p + 3) = y3 at *
        generalize B (tF B z p + 4) = y4 at *
        generalize B (tF B z p + 5) = y5 at *
        constructor
        · intro h; exfalso; omega
        · rintro ⟨-, h, -⟩; exact absurd h (by decide)
      · have b0 := hb 0 (by omega); have b1 := hb 1 (by omega); have b2 := hb 2 (by omega); have b3 := hb 3 (by omega); have b4 := hb 4 (by omega); have b5 := hb 5 (by omega); have b6 := hb 6 (by omega)
        clear hb hd
        simp only [jWf, Nat.zero_add, Nat.add_zero]
        simp only [Nat.add_zero] at b0
        generalize B (tF B z p) = y0 at *
        generalize B (tF B z p + 1) = y1 at *
        generalize B (tF B z p + 2) = y2 at *
        generalize B (tF B z p + 3) = y3 at *
        generalize B (tF B z p + 4) = y4 at *
        generalize B (tF B z p + 5) = y5 at *
        generalize B (tF B z p + 6) = y6 at *
        constructor
        · intro h; exfalso; omega
        · rintro ⟨-, h, -⟩; exact absurd h (by decide)
    · rw [if_neg (fun e => absurd e.2 (by omega))]
      exact ⟨fun h => absurd h (by decide), fun h => absurd h.2.1 (by omega)⟩
  · refine ⟨fun h => ?_, fun h => absurd h.1 hk⟩
    unfold tWd at h
    rw [if_neg (fun e => hk e.1)] at h
    exact absurd h (by decide)
