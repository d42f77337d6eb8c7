theorem jCt.ofF {y : MethodName} {cc : ByteArray} {nL : Nat} {ret : Option FieldType} {d mc ms : Nat} {av : List Value} {sh : jSh} {mem : jMem} {post : Option Value → jSh → jMem → Prop} (hy : plainFor y = true) (hn : (lg_sl av).length ≤ nL)
    (h : ∀ G : jG, jOk G y.cls cc nL → jRm G d mc ms → jRet G ret → (y.name = "<init>" → jInit G) → jEnd G mc ms post → J G y.cls cc nL 0 0 0 (jen av) [] sh mem) : jCt y cc nL ret d mc ms av sh mem post := by
  intro l dC dI ad cy sz
  refine va_MetF (cc := cc) (maxL := nL) (ret := ret) hy rfl ?_
  intro p e s m args below meth c s₁ B hml hv
  obtain ⟨rfl, hsz, hP, hD, hK, hKy, hSok, hX⟩ := hv
  subst hsz
  have hts := atoms_spec (ws := Cond.code y cc nL ret :: jW) B.pre
  have hJ := h ((p, l, e, (headSpec (Cond.code y cc nL ret :: jW) (jRoom d mc ms)).room, s, m, (av.map (jv ad)).toArray, below, meth, c, MQ below (jQc dC dI ad cy s.heap.size sh mem post) (av.map (jv ad)).toArray s mc ms (va_A (jws ad cy sh mem) s.heap.size)), dC, dI, va_A (jws ad cy sh mem) s.heap.size, sh.1, ad)
    ⟨B.exec, B.bytes, hml, findClass_of_methodNamed B.named, fun w hw => hts w (List.mem_cons_of_mem _ hw), fun q hq => Or.inr hq, hK, hX, B.notSynchronized⟩ ⟨Nat.le_refl _, Nat.le_refl _, Nat.le_refl _, Nat.le_refl _⟩ B.returns (fun hi => by show meth.name = "<init>"; rw [(name_of_methodNamed B.named B.method).1]; exact hi) ⟨cy, sh, mem, rfl, rfl, rfl⟩
  rw [lg_entry_eq]
  exact hJ s.heap [] _ ad cy ⟨hP, hD.self, va_S.rf, hKy, jAg.rf, hSok⟩ (jlo_en (lv_entry (av.map (jv ad)) (n := nL) (by rw [j_sl_len]; exact hn)))
theorem jPi.ofF {y : MethodName} {ccy : ByteArray} {nLy d np : Nat} {av : List Value} {mem : jMem} {own : String} {ty : FieldType} {P : Int32 → jMem → Prop} (hown : y.cls = own) (hy : plainFor y = true) (hn : (lg_sl av).length ≤ nLy) (h : ∀ G : jG, jOk G own ccy nLy → jRm G d 0 0 → jRet G (some ty) → jEi G np P → J G own ccy nLy 0 0 0 (jen av) [] (jS np) mem) : jPi y ccy nLy ty d av np mem P := by
  subst hown
  exact jCt.ofF hy hn (fun G X hR hr _ hE => h G X hR hr hE)
/-- whether all the others' parts fit the first k -/
def jPos (xs ys : Nat → Nat) (k n : Nat) : Bool := jAll true (fun a => decide (jLag xs ys k (xs (k + a)) k = ys (k + a))) (n - k)
theorem jAll_le {c : Bool} {g : Nat → Bool} {k : Nat} : ∀ {n}, k ≤ n → jAll c g n = true → jAll c g k = true := by
  intro n
  induction n with
  | zero => intro h q; obtain rfl : k = 0 := by omega
            exact q
  | succ n ih => intro h q
                 rcases Nat.lt_or_ge n k with z | z
                 · obtain rfl : k = n + 1 := by omega
                   exact q
                 · exact ih z (jAll_s.mp q).1
set_option maxRecDepth 4000 in
set_option maxHeartbeats 1000000 in
theorem m_friends_bad (np : Nat) (mem : jMem) (s i q k : Int32) (h : ¬ (jin s 0 7 ∧ jin q 1 6 ∧ jin k 0 4)) : jPi yX11_friends cX11_friends 10 .int 3 [.ref 66, .int s, .int i, .int q, .int k] np mem (fun v c => v = -1000001 ∧ c = jup mem 66 0 0) := by
  refine jPi.of (own := RX11) rfl rfl (Nat.le_of_ble_eq_true rfl) (fun G X hR hr hE => ?_)
  refine j_aload_n X dX11_friends_0 rfl ?_
  refine j_iconst X dX11_friends_1 0 (by decide) ?_
  refine j_putI X 11 0 (by decide) (by decide) rfl rfl rfl rfl u950 (o66 np) (k66 np) dX11_friends_2 ?_
  refine j_iload_n X dX11_friends_5 rfl ?_
  refine s_callSi X hR (m_isSheet np _ _) rfl u1083 u1081 u1082 u12 hyX11_isSheet (by decide) (by decide) (Nat.le_of_ble_eq_true rfl) dX11_friends_6 (fun v_6 m_6 h_6 => ?_)
  obtain ⟨e1, e2⟩ := h_6; have e1 := e1.symm; have e2 := e2.symm; subst e1; subst e2
  refine j_ifb_eq X 37 dX11_friends_9 (by decide) (fun c_9 => ?_) (fun c_9 => ?_)
  · refine j_ldc X dX11_friends_37 u1089 ?_
    refine s_iret X hE hr dX11_friends_39 rfl ?_
    first | exact ⟨rfl, rfl⟩ | (exfalso; clear hE hr hR X; (try simp only [lg_cmp_lt, lg_cmp_gt, lg_cmp_le, lg_cmp_ge] at *); (try simp (disch := omega) only [Int64.le_iff_toInt_le, Int64.lt_iff_toInt_lt, Int32.le_iff_toInt_le, Int32.lt_iff_toInt_lt, fa_eq, fa_lit, fa_litL, nI_toInt, pk_lT, Int32.toInt_toInt64, jadd64, jin, jnoneT] at *); omega)
  · refine j_iload_n X dX11_friends_12 rfl ?_
    refine j_i2l X dX11_friends_13 ?_
    refine j_lconst X dX11_friends_14 1 (by decide) ?_
    refine j_ldc2 X dX11_friends_15 u1248 ?_
    refine s_callSi X hR (m_inI np _ _ _ _ 1 6 rfl rfl) rfl u1087 u1085 u1086 u12 hyX11_in (by decide) (by decide) (Nat.le_of_ble_eq_true rfl) dX11_friends_18 (fun v_18 m_18 h_18 => ?_)
    obtain ⟨e1, e2⟩ := h_18; have e1 := e1.symm; have e2 := e2.symm; subst e1; subst e2
    refine j_ifb_eq X 37 dX11_friends_21 (by decide) (fun c_21 => ?_) (fun c_21 => ?_)
    · refine j_ldc X dX11_friends_37 u1089 ?_
      refine s_iret X hE hr dX11_friends_39 rfl ?_
      first | exact ⟨rfl, rfl⟩ | (exfalso; clear hE hr hR X; (try simp only [lg_cmp_lt, lg_cmp_gt, lg_cmp_le, lg_cmp_ge] at *); (try simp (disch := omega) only [Int64.le_iff_toInt_le, Int64.lt_iff_toInt_lt, Int32.le_iff_toInt_le, Int32.lt_iff_toInt_lt, fa_eq, fa_lit, fa_litL, nI_toInt, pk_lT, Int32.toInt_toInt64, jadd64, jin, jnoneT] at *); omega)
    · refine j_iload X dX11_friends_24 rfl ?_
      refine j_i2l X dX11_friends_26 ?_
      refine j_lconst X dX11_friends_27 0 (by decide) ?_
      refine j_ldc2 X dX11_friends_28 u1143 ?_
      refine s_callSi X hR (m_inI np _ _ _ _ 0 4 rfl rfl) rfl u1087 u1085 u1086 u12 hyX11_in (by decide) (by decide) (Nat.le_of_ble_eq_true rfl) dX11_friends_31 (fun v_31 m_31 h_31 => ?_)
      obtain ⟨e1, e2⟩ := h_31; have e1 := e1.symm; have e2 := e2.symm; subst e1; subst e2
      refine j_ifb_ne X 40 dX11_friends_34 (by decide) (fun c_34 => ?_) (fun c_34 => ?_)
      · exfalso
        clear hE hr hR X
        (try simp only [lg_cmp_lt, lg_cmp_gt, lg_cmp_le, lg_cmp_ge] at *); (try simp (disch := omega) only [Int64.le_iff_toInt_le, Int64.lt_iff_toInt_lt, Int32.le_iff_toInt_le, Int32.lt_iff_toInt_lt, fa_eq, fa_lit, fa_litL, nI_toInt, pk_lT, Int32.toInt_toInt64, jadd64, jin, jnoneT] at *); omega
      · refine j_ldc X dX11_friends_37 u1089 ?_
        refine s_iret X hE hr dX11_friends_39 rfl ?_
        first | exact ⟨rfl, rfl⟩ | (exfalso; clear hE hr hR X; (try simp only [lg_cmp_lt, lg_cmp_gt, lg_cmp_le, lg_cmp_ge] at *); (try simp (disch := omega) only [Int64.le_iff_toInt_le, Int64.lt_iff_toInt_lt, Int32.le_iff_toInt_le, Int32.lt_iff_toInt_lt, fa_eq, fa_lit, fa_litL, nI_toInt, pk_lT, Int32.toInt_toInt64, jadd64, jin, jnoneT] at *); omega)
set_option maxRecDepth 4000 in
set_option maxHeartbeats 1000000 in
theorem m_friends_null (np : Nat) (mem : jMem) (s q k : Nat) (i : Int32) (hs : s < 8) (hq1 : 1 ≤ q) (hq : q ≤ 6) (hk : k ≤ 4) (hl : (mem 67 s).toInt < 0) : jPi yX11_friends cX11_friends 10 .int 3 [.ref 66, .int (nI s), .int i, .int (nI q), .int (nI k)] np mem (fun v c => v = -1000010 - 1 ∧ c = jup (jup mem 66 0 0) 66 1 1) := by
  refine jPi.of (own := RX11) rfl rfl (Nat.le_of_ble_eq_true rfl) (fun G X hR hr hE => ?_)
  refine j_aload_n X dX11_friends_0 rfl ?_
  refine j_iconst X dX11_friends_1 0 (by decide) ?_
  refine j_putI X 11 0 (by decide) (by decide) rfl rfl rfl rfl u950 (o66 np) (k66 np) dX11_friends_2 ?_
  refine j_iload_n X dX11_friends_5 rfl ?_
  refine s_callSi X hR (m_isSheet np _ _) rfl u1083 u1081 u1082 u12 hyX11_isSheet (by decide) (by decide) (Nat.le_of_ble_eq_true rfl) dX11_friends_6 (fun v_6 m_6 h_6 => ?_)
  obtain ⟨e1, e2⟩ := h_6; have e1 := e1.symm; have e2 := e2.symm; subst e1; subst e2
  refine j_ifb_eq X 37 dX11_friends_9 (by decide) (fun c_9 => ?_) (fun c_9 => ?_)
  · exfalso
    clear hE hr hR X
    (try simp only [lg_cmp_lt, lg_cmp_gt, lg_cmp_le, lg_cmp_ge] at *); (try simp (disch := omega) only [Int64.le_iff_toInt_le, Int64.lt_iff_toInt_lt, Int32.le_iff_toInt_le, Int32.lt_iff_toInt_lt, fa_eq, fa_lit, fa_litL, nI_toInt, pk_lT, Int32.toInt_toInt64, jadd64, jin, jnoneT] at *); omega
  · refine j_iload_n X dX11_friends_12 rfl ?_
    refine j_i2l X dX11_friends_13 ?_
    refine j_lconst X dX11_friends_14 1 (by decide) ?_
    refine j_ldc2 X dX11_friends_15 u1248 ?_
    refine s_callSi X hR (m_inI np _ _ _ _ 1 6 rfl rfl) rfl u1087 u1085 u1086 u12 hyX11_in (by decide) (by decide) (Nat.le_of_ble_eq_true rfl) dX11_friends_18 (fun v_18 m_18 h_18 => ?_)
    obtain ⟨e1, e2⟩ := h_18; have e1 := e1.symm; have e2 := e2.symm; subst e1; subst e2
    refine j_ifb_eq X 37 dX11_friends_21 (by decide) (fun c_21 => ?_) (fun c_21 => ?_)
    · exfalso
      clear hE hr hR X
      (try simp only [lg_cmp_lt, lg_cmp_gt, lg_cmp_le, lg_cmp_ge] at *); (try simp (disch := omega) only [Int64.le_iff_toInt_le, Int64.lt_iff_toInt_lt, Int32.le_iff_toInt_le, Int32.lt_iff_toInt_lt, fa_eq, fa_lit, fa_litL, nI_toInt, pk_lT, Int32.toInt_toInt64, jadd64, jin, jnoneT] at *); omega
    · refine j_iload X dX11_friends_24 rfl ?_
      refine j_i2l X dX11_friends_26 ?_
      refine j_lconst X dX11_friends_27 0 (by decide) ?_
      refine j_ldc2 X dX11_friends_28 u1143 ?_
      refine s_callSi X hR (m_inI np _ _ _ _ 0 4 rfl rfl) rfl u1087 u1085 u1086 u12 hyX11_in (by decide) (by decide) (Nat.le_of_ble_eq_true rfl) dX11_friends_31 (fun v_31 m_31 h_31 => ?_)
      obtain ⟨e1, e2⟩ := h_31; have e1 := e1.symm; have e2 := e2.symm; subst e1; subst e2
      refine j_ifb_ne X 40 dX11_friends_34 (by decide) (fun c_34 => ?_) (fun c_34 => ?_)
      · refine j_aload_n X dX11_friends_40 rfl ?_
        refine j_iload_n X dX11_friends_41 rfl ?_
        refine j_iload_n X dX11_friends_42 rfl ?_
        refine j_iconst X dX11_friends_43 2 (by decide) ?_
        refine j_iload_n X dX11_friends_44 rfl ?_
        refine j_imul X dX11_friends_45 ?_
        refine j_nrm (nI (2 * q)) (by simp only [fa_lit, pk_mul]) ?_
        refine s_callVi X hR (m_look_null np _ s i _ hs hl) rfl 11 (by decide) (o66 np) (k66 np) rfl u1141 u1138 u1140 qp38 u12 hyX11_lookItems (by decide) (by decide) (Nat.le_of_ble_eq_true rfl) dX11_friends_46 (fun v_46 m_46 h_46 => ?_)
        obtain ⟨e1, e2⟩ := h_46; have e1 := e1.symm; have e2 := e2.symm; subst e1; subst e2
        refine j_istore X dX11_friends_49 (by decide) ?_
        refine j_iload X dX11_friends_51 rfl ?_
        refine j_if_ge X 59 dX11_friends_53 (by decide) (fun c_53 => absurd c_53 (by decide)) (fun c_53 => ?_)
        refine j_iload X dX11_friends_56 rfl ?_
        refine s_iret X hE hr dX11_friends_58 rfl ?_
        first | exact ⟨rfl, rfl⟩ | (exfalso; clear hE hr hR X; (try simp only [lg_cmp_lt, lg_cmp_gt, lg_cmp_le, lg_cmp_ge] at *); (try simp (disch := omega) only [Int64.le_iff_toInt_le, Int64.lt_iff_toInt_lt, Int32.le_iff_toInt_le, Int32.lt_iff_toInt_lt, fa_eq, fa_lit, fa_litL, nI_toInt, pk_lT, Int32.toInt_toInt64, jadd64, jin, jnoneT] at *); omega)
      · exfalso
        clear hE hr hR X
        (try simp only [lg_cmp_lt, lg_cmp_gt, lg_cmp_le, lg_cmp_ge] at *); (try simp (disch := omega) only [Int64.le_iff_toInt_le, Int64.lt_iff_toInt_lt, Int32.le_iff_toInt_le, Int32.lt_iff_toInt_lt, fa_eq, fa_lit, fa_litL, nI_toInt, pk_lT, Int32.toInt_toInt64, jadd64, jin, jnoneT] at *); omega
set_option maxRecDepth 4000 in
set_option maxHeartbeats 1000000 in
theorem m_friends_place (np : Nat) (mem : jMem) (s q k : Nat) (i : Int32) (hs : s < 8) (hq1 : 1 ≤ q) (hq : q ≤ 6) (hk : k ≤ 4) (hl : 0 ≤ (mem 67 s).toInt) (hi : i.toInt < 0 ∨ i.toInt + (nI (2 * q)).toInt > (mem 68 s).toInt) : jPi yX11_friends cX11_friends 10 .int 3 [.ref 66, .int (nI s), .int i, .int (nI q), .int (nI k)] np mem (fun v c => v = -1000010 - 2 ∧ c = jup (jup mem 66 0 0) 66 1 2) := by
  refine jPi.of (own := RX11) rfl rfl (Nat.le_of_ble_eq_true rfl) (fun G X hR hr hE => ?_)
  refine j_aload_n X dX11_friends_0 rfl ?_
  refine j_iconst X dX11_friends_1 0 (by decide) ?_
  refine j_putI X 11 0 (by decide) (by decide) rfl rfl rfl rfl u950 (o66 np) (k66 np) dX11_friends_2 ?_
  refine j_iload_n X dX11_friends_5 rfl ?_
  refine s_callSi X hR (m_isSheet np _ _) rfl u1083 u1081 u1082 u12 hyX11_isSheet (by decide) (by decide) (Nat.le_of_ble_eq_true rfl) dX11_friends_6 (fun v_6 m_6 h_6 => ?_)
  obtain ⟨e1, e2⟩ := h_6; have e1 := e1.symm; have e2 := e2.symm; subst e1; subst e2
  refine j_ifb_eq X 37 dX11_friends_9 (by decide) (fun c_9 => ?_) (fun c_9 => ?_)
  · exfalso
    clear hE hr hR X
    (try simp only [lg_cmp_lt, lg_cmp_gt, lg_cmp_le, lg_cmp_ge] at *); (try simp (disch := omega) only [Int64.le_iff_toInt_le, Int64.lt_iff_toInt_lt, Int32.le_iff_toInt_le, Int32.lt_iff_toInt_lt, fa_eq, fa_lit, fa_litL, nI_toInt, pk_lT, Int32.toInt_toInt64, jadd64, jin, jnoneT] at *); omega
  · refine j_iload_n X dX11_friends_12 rfl ?_
    refine j_i2l X dX11_friends_13 ?_
    refine j_lconst X dX11_friends_14 1 (by decide) ?_
    refine j_ldc2 X dX11_friends_15 u1248 ?_
    refine s_callSi X hR (m_inI np _ _ _ _ 1 6 rfl rfl) rfl u1087 u1085 u1086 u12 hyX11_in (by decide) (by decide) (Nat.le_of_ble_eq_true rfl) dX11_friends_18 (fun v_18 m_18 h_18 => ?_)
    obtain ⟨e1, e2⟩ := h_18; have e1 := e1.symm; have e2 := e2.symm; subst e1; subst e2
    refine j_ifb_eq X 37 dX11_friends_21 (by decide) (fun c_21 => ?_) (fun c_21 => ?_)
    · exfalso
      clear hE hr hR X
      (try simp only [lg_cmp_lt, lg_cmp_gt, lg_cmp_le, lg_cmp_ge] at *); (try simp (disch := omega) only [Int64.le_iff_toInt_le, Int64.lt_iff_toInt_lt, Int32.le_iff_toInt_le, Int32.lt_iff_toInt_lt, fa_eq, fa_lit, fa_litL, nI_toInt, pk_lT, Int32.toInt_toInt64, jadd64, jin, jnoneT] at *); omega
    · refine j_iload X dX11_friends_24 rfl ?_
      refine j_i2l X dX11_friends_26 ?_
      refine j_lconst X dX11_friends_27 0 (by decide) ?_
      refine j_ldc2 X dX11_friends_28 u1143 ?_
      refine s_callSi X hR (m_inI np _ _ _ _ 0 4 rfl rfl) rfl u1087 u1085 u1086 u12 hyX11_in (by decide) (by decide) (Nat.le_of_ble_eq_true rfl) dX11_friends_31 (fun v_31 m_31 h_31 => ?_)
      obtain ⟨e1, e2⟩ := h_31; have e1 := e1.symm; have e2 := e2.symm; subst e1; subst e2
      refine j_ifb_ne X 40 dX11_friends_34 (by decide) (fun c_34 => ?_) (fun c_34 => ?_)
      · refine j_aload_n X dX11_friends_40 rfl ?_
        refine j_iload_n X dX11_friends_41 rfl ?_
        refine j_iload_n X dX11_friends_42 rfl ?_
        refine j_iconst X dX11_friends_43 2 (by decide) ?_
        refine j_iload_n X dX11_friends_44 rfl ?_
        refine j_imul X dX11_friends_45 ?_
        refine j_nrm (nI (2 * q)) (by simp only [fa_lit, pk_mul]) ?_
        refine s_callVi X hR (m_look_place np _ s i _ hs hl hi) rfl 11 (by decide) (o66 np) (k66 np) rfl u1141 u1138 u1140 qp38 u12 hyX11_lookItems (by decide) (by decide) (Nat.le_of_ble_eq_true rfl) dX11_friends_46 (fun v_46 m_46 h_46 => ?_)
        obtain ⟨e1, e2⟩ := h_46; have e1 := e1.symm; have e2 := e2.symm; subst e1; subst e2
        refine j_istore X dX11_friends_49 (by decide) ?_
        refine j_iload X dX11_friends_51 rfl ?_
        refine j_if_ge X 59 dX11_friends_53 (by decide) (fun c_53 => absurd c_53 (by decide)) (fun c_53 => ?_)
        refine j_iload X dX11_friends_56 rfl ?_
        refine s_iret X hE hr dX11_friends_58 rfl ?_
        first | exact ⟨rfl, rfl⟩ | (exfalso; clear hE hr hR X; (try simp only [lg_cmp_lt, lg_cmp_gt, lg_cmp_le, lg_cmp_ge] at *); (try simp (disch := omega) only [Int64.le_iff_toInt_le, Int64.lt_iff_toInt_lt, Int32.le_iff_toInt_le, Int32.lt_iff_toInt_lt, fa_eq, fa_lit, fa_litL, nI_toInt, pk_lT, Int32.toInt_toInt64, jadd64, jin, jnoneT] at *); omega)
      · exfalso
        clear hE hr hR X
        (try simp only [lg_cmp_lt, lg_cmp_gt, lg_cmp_le, lg_cmp_ge] at *); (try simp (disch := omega) only [Int64.le_iff_toInt_le, Int64.lt_iff_toInt_lt, Int32.le_iff_toInt_le, Int32.lt_iff_toInt_lt, fa_eq, fa_lit, fa_litL, nI_toInt, pk_lT, Int32.toInt_toInt64, jadd64, jin, jnoneT] at *); omega
set_option maxRecDepth 4000 in
set_option maxHeartbeats 1000000 in
theorem m_friends_item (np : Nat) (mem : jMem) (s i q k z : Nat) (hs : s < 8) (hq1 : 1 ≤ q) (hq : q ≤ 6) (hk : k ≤ 4) (hl : 0 ≤ (mem 67 s).toInt) (hz : z ≤ 60) (hm : mem 68 s = nI z) (hi : i + 2 * q ≤ z) (hno : ¬ jFok (fun k => mem 69 (60 * s + i + k)) q) : jPi yX11_friends cX11_friends 10 .int 3 [.ref 66, .int (nI s), .int (nI i), .int (nI q), .int (nI k)] np mem (fun v c => v = -1000001 ∧ c = jup mem 66 0 0) := by
  refine jPi.of (own := RX11) rfl rfl (Nat.le_of_ble_eq_true rfl) (fun G X hR hr hE => ?_)
  refine j_aload_n X dX11_friends_0 rfl ?_
  refine j_iconst X dX11_friends_1 0 (by decide) ?_
  refine j_putI X 11 0 (by decide) (by decide) rfl rfl rfl rfl u950 (o66 np) (k66 np) dX11_friends_2 ?_
  refine j_iload_n X dX11_friends_5 rfl ?_
  refine s_callSi X hR (m_isSheet np _ _) rfl u1083 u1081 u1082 u12 hyX11_isSheet (by decide) (by decide) (Nat.le_of_ble_eq_true rfl) dX11_friends_6 (fun v_6 m_6 h_6 => ?_)
  obtain ⟨e1, e2⟩ := h_6; have e1 := e1.symm; have e2 := e2.symm; subst e1; subst e2
  refine j_ifb_eq X 37 dX11_friends_9 (by decide) (fun c_9 => ?_) (fun c_9 => ?_)
  · exfalso
    clear hE hr hR X
    (try simp only [lg_cmp_lt, lg_cmp_gt, lg_cmp_le, lg_cmp_ge] at *); (try simp (disch := omega) only [Int64.le_iff_toInt_le, Int64.lt_iff_toInt_lt, Int32.le_iff_toInt_le, Int32.lt_iff_toInt_lt, fa_eq, fa_lit, fa_litL, nI_toInt, pk_lT, Int32.toInt_toInt64, jadd64, jin, jnoneT] at *); omega
  · refine j_iload_n X dX11_friends_12 rfl ?_
    refine j_i2l X dX11_friends_13 ?_
    refine j_lconst X dX11_friends_14 1 (by decide) ?_
    refine j_ldc2 X dX11_friends_15 u1248 ?_
    refine s_callSi X hR (m_inI np _ _ _ _ 1 6 rfl rfl) rfl u1087 u1085 u1086 u12 hyX11_in (by decide) (by decide) (Nat.le_of_ble_eq_true rfl) dX11_friends_18 (fun v_18 m_18 h_18 => ?_)
    obtain ⟨e1, e2⟩ := h_18; have e1 := e1.symm; have e2 := e2.symm; subst e1; subst e2
    refine j_ifb_eq X 37 dX11_friends_21 (by decide) (fun c_21 => ?_) (fun c_21 => ?_)
    · exfalso
      clear hE hr hR X
      (try simp only [lg_cmp_lt, lg_cmp_gt, lg_cmp_le, lg_cmp_ge] at *); (try simp (disch := omega) only [Int64.le_iff_toInt_le, Int64.lt_iff_toInt_lt, Int32.le_iff_toInt_le, Int32.lt_iff_toInt_lt, fa_eq, fa_lit, fa_litL, nI_toInt, pk_lT, Int32.toInt_toInt64, jadd64, jin, jnoneT] at *); omega
    · refine j_iload X dX11_friends_24 rfl ?_
      refine j_i2l X dX11_friends_26 ?_
      refine j_lconst X dX11_friends_27 0 (by decide) ?_
      refine j_ldc2 X dX11_friends_28 u1143 ?_
      refine s_callSi X hR (m_inI np _ _ _ _ 0 4 rfl rfl) rfl u1087 u1085 u1086 u12 hyX11_in (by decide) (by decide) (Nat.le_of_ble_eq_true rfl) dX11_friends_31 (fun v_31 m_31 h_31 => ?_)
      obtain ⟨e1, e2⟩ := h_31; have e1 := e1.symm; have e2 := e2.symm; subst e1; subst e2
      refine j_ifb_ne X 40 dX11_friends_34 (by decide) (fun c_34 => ?_) (fun c_34 => ?_)
      · refine j_aload_n X dX11_friends_40 rfl ?_
        refine j_iload_n X dX11_friends_41 rfl ?_
        refine j_iload_n X dX11_friends_42 rfl ?_
        refine j_iconst X dX11_friends_43 2 (by decide) ?_
        refine j_iload_n X dX11_friends_44 rfl ?_
        refine j_imul X dX11_friends_45 ?_
        refine j_nrm (nI (2 * q)) (by simp only [fa_lit, pk_mul]) ?_
        refine s_callVi X hR (m_look np _ s (nI i) _ hs hl (jlook hm rfl (by omega) hi)) rfl 11 (by decide) (o66 np) (k66 np) rfl u1141 u1138 u1140 qp38 u12 hyX11_lookItems (by decide) (by decide) (Nat.le_of_ble_eq_true rfl) dX11_friends_46 (fun v_46 m_46 h_46 => ?_)
        obtain ⟨e1, e2⟩ := h_46; have e1 := e1.symm; have e2 := e2.symm; subst e1; subst e2
        refine j_istore X dX11_friends_49 (by decide) ?_
        refine j_iload X dX11_friends_51 rfl ?_
        refine j_if_ge X 59 dX11_friends_53 (by decide) (fun c_53 => ?_) (fun c_53 => absurd c_53 (by decide))
        refine j_bipush X dX11_friends_59 60 (by decide) ?_
        refine j_iload_n X dX11_friends_61 rfl ?_
        refine j_imul X dX11_friends_62 ?_
        refine j_iload_n X dX11_friends_63 rfl ?_
        refine j_iadd X dX11_friends_64 ?_
        refine j_nrm (nI (60 * s + i)) (by simp only [fa_lit, pk_mul, nI_add]) ?_
        refine j_istore X dX11_friends_65 (by decide) ?_
        refine j_iconst X dX11_friends_67 0 (by decide) ?_
        refine j_istore X dX11_friends_68 (by decide) ?_
        refine j_iconst X dX11_friends_70 0 (by decide) ?_
        refine j_istore X dX11_friends_71 (by decide) ?_
        have lp73 : ∀ (n : Nat) (a : Nat), a ≤ q → q + 1 ≤ a + n → jFok (fun k => mem 69 (60 * s + i + k)) a → J G RX11 cX11_friends 10 0 0 73 (jlv [some (.ref 66), some (.int (nI s)), some (.int (nI i)), some (.int (nI q)), some (.int (nI k)), some (.int 0), some (.int (nI (60 * s + i))), some (.int (jMet (fun k => mem 69 (60 * s + i + k)) a)), some (.int (nI a))]) [] (jS np) (jup mem 66 0 0) := by
          intro n
          induction n with
          | zero =>
            intro a ha hn hB
            exact absurd hn (by omega)
          | succ n ih73 =>
            intro a ha hn hB
            refine j_iload X dX11_friends_73 rfl ?_
            refine j_iload_n X dX11_friends_75 rfl ?_
            refine j_icmp_ge X 176 dX11_friends_76 (by decide) (fun c_76 => ?_) (fun c_76 => ?_)
            · exfalso
              obtain rfl : a = q := by clear hE hr hR X hB hno; (try simp only [lg_cmp_lt, lg_cmp_gt, lg_cmp_le, lg_cmp_ge] at *); (try simp (disch := omega) only [Int64.le_iff_toInt_le, Int64.lt_iff_toInt_lt, Int32.le_iff_toInt_le, Int32.lt_iff_toInt_lt, fa_eq, fa_lit, fa_litL, nI_toInt, pk_lT, Int32.toInt_toInt64, jadd64, jin, jnoneT] at *); omega
              exact hno hB
            · have ha2 : a < q := by clear hE hr hR X; (try simp only [lg_cmp_lt, lg_cmp_gt, lg_cmp_le, lg_cmp_ge] at *); (try simp (disch := omega) only [Int64.le_iff_toInt_le, Int64.lt_iff_toInt_lt, Int32.le_iff_toInt_le, Int32.lt_iff_toInt_lt, fa_eq, fa_lit, fa_litL, nI_toInt, pk_lT, Int32.toInt_toInt64, jadd64, jin, jnoneT] at *); omega
              refine j_aload_n X dX11_friends_79 rfl ?_
              refine j_getR X 11 4 (by decide) (by decide) rfl u954 (o66 np) (k66 np) _ (p66_4 np) dX11_friends_80 ?_
              refine j_iload X dX11_friends_83 rfl ?_
              refine j_iconst X dX11_friends_85 2 (by decide) ?_
              refine j_iload X dX11_friends_86 rfl ?_
              refine j_imul X dX11_friends_88 ?_
              refine j_iadd X dX11_friends_89 ?_
              refine j_nrm _ (by first | (simp only [fa_lit, pk_mul, nI_add]; done) | (simp only [fa_lit, pk_mul, nI_add]; rfl) | rfl) ?_
              refine j_ialdN X (o69 np) (k69 np) (by rw [l69]; omega) (by rw [l69]; decide) (mem 69) rfl dX11_friends_90 ?_
              refine j_i2l X dX11_friends_91 ?_
              refine j_lconst X dX11_friends_92 1 (by decide) ?_
              refine j_ldc2 X dX11_friends_93 u1248 ?_
              refine s_callSi X hR (m_inI np _ _ _ _ 1 6 rfl rfl) rfl u1087 u1085 u1086 u12 hyX11_in (by decide) (by decide) (Nat.le_of_ble_eq_true rfl) dX11_friends_96 (fun v_96 m_96 h_96 => ?_)
              obtain ⟨e1, e2⟩ := h_96; have e1 := e1.symm; have e2 := e2.symm; subst e1; subst e2
              refine j_ifb_eq X 148 dX11_friends_99 (by decide) (fun c_99 => ?_) (fun c_99 => ?_)
              · refine j_ldc X dX11_friends_148 u1089 ?_
                refine s_iret X hE hr dX11_friends_150 rfl ?_
                first | exact ⟨rfl, rfl⟩ | (exfalso; clear hE hr hR X; (try simp only [lg_cmp_lt, lg_cmp_gt, lg_cmp_le, lg_cmp_ge] at *); (try simp (disch := omega) only [Int64.le_iff_toInt_le, Int64.lt_iff_toInt_lt, Int32.le_iff_toInt_le, Int32.lt_iff_toInt_lt, fa_eq, fa_lit, fa_litL, nI_toInt, pk_lT, Int32.toInt_toInt64, jadd64, jin, jnoneT] at *); omega)
              · refine j_aload_n X dX11_friends_102 rfl ?_
                refine j_getR X 11 4 (by decide) (by decide) rfl u954 (o66 np) (k66 np) _ (p66_4 np) dX11_friends_103 ?_
                refine j_iload X dX11_friends_106 rfl ?_
                refine j_iconst X dX11_friends_108 2 (by decide) ?_
                refine j_iload X dX11_friends_109 rfl ?_
                refine j_imul X dX11_friends_111 ?_
                refine j_iadd X dX11_friends_112 ?_
                refine j_iconst X dX11_friends_113 1 (by decide) ?_
                refine j_iadd X dX11_friends_114 ?_
                refine j_nrm _ (by first | (simp only [fa_lit, pk_mul, nI_add]; done) | (simp only [fa_lit, pk_mul, nI_add]; rfl) | rfl) ?_
                refine j_ialdN X (o69 np) (k69 np) (by rw [l69]; omega) (by rw [l69]; decide) (mem 69) rfl dX11_friends_115 ?_
                refine j_i2l X dX11_friends_116 ?_
                refine j_lconst X dX11_friends_117 0 (by decide) ?_
                refine j_ldc2 X dX11_friends_118 u1247 ?_
                refine s_callSi X hR (m_inI np _ _ _ _ 0 256 rfl rfl) rfl u1087 u1085 u1086 u12 hyX11_in (by decide) (by decide) (Nat.le_of_ble_eq_true rfl) dX11_friends_121 (fun v_121 m_121 h_121 => ?_)
                obtain ⟨e1, e2⟩ := h_121; have e1 := e1.symm; have e2 := e2.symm; subst e1; subst e2
                refine j_ifb_eq X 148 dX11_friends_124 (by decide) (fun c_124 => ?_) (fun c_124 => ?_)
                · refine j_ldc X dX11_friends_148 u1089 ?_
                  refine s_iret X hE hr dX11_friends_150 rfl ?_
                  first | exact ⟨rfl, rfl⟩ | (exfalso; clear hE hr hR X; (try simp only [lg_cmp_lt, lg_cmp_gt, lg_cmp_le, lg_cmp_ge] at *); (try simp (disch := omega) only [Int64.le_iff_toInt_le, Int64.lt_iff_toInt_lt, Int32.le_iff_toInt_le, Int32.lt_iff_toInt_lt, fa_eq, fa_lit, fa_litL, nI_toInt, pk_lT, Int32.toInt_toInt64, jadd64, jin, jnoneT] at *); omega)
                · refine j_iload X dX11_friends_127 rfl ?_
                  refine j_aload_n X dX11_friends_129 rfl ?_
                  refine j_getR X 11 4 (by decide) (by decide) rfl u954 (o66 np) (k66 np) _ (p66_4 np) dX11_friends_130 ?_
                  refine j_iload X dX11_friends_133 rfl ?_
                  refine j_iconst X dX11_friends_135 2 (by decide) ?_
                  refine j_iload X dX11_friends_136 rfl ?_
                  refine j_imul X dX11_friends_138 ?_
                  refine j_iadd X dX11_friends_139 ?_
                  refine j_nrm _ (by first | (simp only [fa_lit, pk_mul, nI_add]; done) | (simp only [fa_lit, pk_mul, nI_add]; rfl) | rfl) ?_
                  refine j_ialdN X (o69 np) (k69 np) (by rw [l69]; omega) (by rw [l69]; decide) (mem 69) rfl dX11_friends_140 ?_
                  refine j_ishr X dX11_friends_141 ?_
                  refine j_iconst X dX11_friends_142 1 (by decide) ?_
                  refine j_iand X dX11_friends_143 ?_
                  refine j_iconst X dX11_friends_144 1 (by decide) ?_
                  refine j_icmp_ne X 151 dX11_friends_145 (by decide) (fun c_145 => ?_) (fun c_145 => ?_)
                  · refine j_iload X dX11_friends_151 rfl ?_
                    refine j_iconst X dX11_friends_153 1 (by decide) ?_
                    refine j_aload_n X dX11_friends_154 rfl ?_
                    refine j_getR X 11 4 (by decide) (by decide) rfl u954 (o66 np) (k66 np) _ (p66_4 np) dX11_friends_155 ?_
                    refine j_iload X dX11_friends_158 rfl ?_
                    refine j_iconst X dX11_friends_160 2 (by decide) ?_
                    refine j_iload X dX11_friends_161 rfl ?_
                    refine j_imul X dX11_friends_163 ?_
                    refine j_iadd X dX11_friends_164 ?_
                    refine j_nrm _ (by first | (simp only [fa_lit, pk_mul, nI_add]; done) | (simp only [fa_lit, pk_mul, nI_add]; rfl) | rfl) ?_
                    refine j_ialdN X (o69 np) (k69 np) (by rw [l69]; omega) (by rw [l69]; decide) (mem 69) rfl dX11_friends_165 ?_
                    refine j_ishl X dX11_friends_166 ?_
                    refine j_ior X dX11_friends_167 ?_
                    refine j_istore X dX11_friends_168 (by decide) ?_
                    refine j_iinc X dX11_friends_170 rfl 1 rfl ?_
                    refine j_goto X 73 dX11_friends_173 (by decide) ?_
                    refine j_lv [some (.ref 66), some (.int (nI s)), some (.int (nI i)), some (.int (nI q)), some (.int (nI k)), some (.int 0), some (.int (nI (60 * s + i))), some (.int (jMet (fun k => mem 69 (60 * s + i + k)) (a + 1))), some (.int (nI (a + 1)))] ⟨rfl, rfl, rfl, rfl, rfl, rfl, rfl, rfl, (congrArg (fun z => some (Value.int z)) (nI_1 _)), trivial⟩ ?_
                    exact ih73 (a + 1) (by omega) (by omega) (jFok_s hB c_99 c_124 c_145)
                  · refine j_ldc X dX11_friends_148 u1089 ?_
                    refine s_iret X hE hr dX11_friends_150 rfl ?_
                    first | exact ⟨rfl, rfl⟩ | (exfalso; clear hE hr hR X; (try simp only [lg_cmp_lt, lg_cmp_gt, lg_cmp_le, lg_cmp_ge] at *); (try simp (disch := omega) only [Int64.le_iff_toInt_le, Int64.lt_iff_toInt_lt, Int32.le_iff_toInt_le, Int32.lt_iff_toInt_lt, fa_eq, fa_lit, fa_litL, nI_toInt, pk_lT, Int32.toInt_toInt64, jadd64, jin, jnoneT] at *); omega)
        refine j_lv [some (.ref 66), some (.int (nI s)), some (.int (nI i)), some (.int (nI q)), some (.int (nI k)), some (.int 0), some (.int (nI (60 * s + i))), some (.int (jMet (fun k => mem 69 (60 * s + i + k)) 0)), some (.int (nI 0))] ⟨rfl, rfl, rfl, rfl, rfl, rfl, rfl, rfl, rfl, trivial⟩ ?_
        exact lp73 (q + 1) 0 (by omega) (by omega) (fun a ha => absurd ha (by omega))
      · exfalso
        clear hE hr hR X
        (try simp only [lg_cmp_lt, lg_cmp_gt, lg_cmp_le, lg_cmp_ge] at *); (try simp (disch := omega) only [Int64.le_iff_toInt_le, Int64.lt_iff_toInt_lt, Int32.le_iff_toInt_le, Int32.lt_iff_toInt_lt, fa_eq, fa_lit, fa_litL, nI_toInt, pk_lT, Int32.toInt_toInt64, jadd64, jin, jnoneT] at *); omega
set_option maxRecDepth 4000 in
set_option maxHeartbeats 1000000 in
theorem m_friends0 (np : Nat) (mem : jMem) (s i q z : Nat) (hs : s < 8) (hq1 : 1 ≤ q) (hq : q ≤ 6) (hl : 0 ≤ (mem 67 s).toInt) (hz : z ≤ 60) (hm : mem 68 s = nI z) (hi : i + 2 * q ≤ z) (hok : jFok (fun k => mem 69 (60 * s + i + k)) q) : jPi yX11_friends cX11_friends 10 .int 3 [.ref 66, .int (nI s), .int (nI i), .int (nI q), .int 0] np mem (fun v c => v = nI (jLag (jFx (fun k => mem 69 (60 * s + i + k))) (jFy (fun k => mem 69 (60 * s + i + k))) q 0 q) ∧ c = jup (jup mem 66 0 0) 66 1 0) := by
  refine jPi.of (own := RX11) rfl rfl (Nat.le_of_ble_eq_true rfl) (fun G X hR hr hE => ?_)
  refine j_aload_n X dX11_friends_0 rfl ?_
  refine j_iconst X dX11_friends_1 0 (by decide) ?_
  refine j_putI X 11 0 (by decide) (by decide) rfl rfl rfl rfl u950 (o66 np) (k66 np) dX11_friends_2 ?_
  refine j_iload_n X dX11_friends_5 rfl ?_
  refine s_callSi X hR (m_isSheet np _ _) rfl u1083 u1081 u1082 u12 hyX11_isSheet (by decide) (by decide) (Nat.le_of_ble_eq_true rfl) dX11_friends_6 (fun v_6 m_6 h_6 => ?_)
  obtain ⟨e1, e2⟩ := h_6; have e1 := e1.symm; have e2 := e2.symm; subst e1; subst e2
  refine j_ifb_eq X 37 dX11_friends_9 (by decide) (fun c_9 => ?_) (fun c_9 => ?_)
  · exfalso
    clear hE hr hR X
    (try simp only [lg_cmp_lt, lg_cmp_gt, lg_cmp_le, lg_cmp_ge] at *); (try simp (disch := omega) only [Int64.le_iff_toInt_le, Int64.lt_iff_toInt_lt, Int32.le_iff_toInt_le, Int32.lt_iff_toInt_lt, fa_eq, fa_lit, fa_litL, nI_toInt, pk_lT, Int32.toInt_toInt64, jadd64, jin, jnoneT] at *); omega
  · refine j_iload_n X dX11_friends_12 rfl ?_
    refine j_i2l X dX11_friends_13 ?_
    refine j_lconst X dX11_friends_14 1 (by decide) ?_
    refine j_ldc2 X dX11_friends_15 u1248 ?_
    refine s_callSi X hR (m_inI np _ _ _ _ 1 6 rfl rfl) rfl u1087 u1085 u1086 u12 hyX11_in (by decide) (by decide) (Nat.le_of_ble_eq_true rfl) dX11_friends_18 (fun v_18 m_18 h_18 => ?_)
    obtain ⟨e1, e2⟩ := h_18; have e1 := e1.symm; have e2 := e2.symm; subst e1; subst e2
    refine j_ifb_eq X 37 dX11_friends_21 (by decide) (fun c_21 => ?_) (fun c_21 => ?_)
    · exfalso
      clear hE hr hR X
      (try simp only [lg_cmp_lt, lg_cmp_gt, lg_cmp_le, lg_cmp_ge] at *); (try simp (disch := omega) only [Int64.le_iff_toInt_le, Int64.lt_iff_toInt_lt, Int32.le_iff_toInt_le, Int32.lt_iff_toInt_lt, fa_eq, fa_lit, fa_litL, nI_toInt, pk_lT, Int32.toInt_toInt64, jadd64, jin, jnoneT] at *); omega
    · refine j_iload X dX11_friends_24 rfl ?_
      refine j_i2l X dX11_friends_26 ?_
      refine j_lconst X dX11_friends_27 0 (by decide) ?_
      refine j_ldc2 X dX11_friends_28 u1143 ?_
      refine s_callSi X hR (m_inI np _ _ _ _ 0 4 rfl rfl) rfl u1087 u1085 u1086 u12 hyX11_in (by decide) (by decide) (Nat.le_of_ble_eq_true rfl) dX11_friends_31 (fun v_31 m_31 h_31 => ?_)
      obtain ⟨e1, e2⟩ := h_31; have e1 := e1.symm; have e2 := e2.symm; subst e1; subst e2
      refine j_ifb_ne X 40 dX11_friends_34 (by decide) (fun c_34 => ?_) (fun c_34 => ?_)
      · refine j_aload_n X dX11_friends_40 rfl ?_
        refine j_iload_n X dX11_friends_41 rfl ?_
        refine j_iload_n X dX11_friends_42 rfl ?_
        refine j_iconst X dX11_friends_43 2 (by decide) ?_
        refine j_iload_n X dX11_friends_44 rfl ?_
        refine j_imul X dX11_friends_45 ?_
        refine j_nrm (nI (2 * q)) (by simp only [fa_lit, pk_mul]) ?_
        refine s_callVi X hR (m_look np _ s (nI i) _ hs hl (jlook hm rfl (by omega) hi)) rfl 11 (by decide) (o66 np) (k66 np) rfl u1141 u1138 u1140 qp38 u12 hyX11_lookItems (by decide) (by decide) (Nat.le_of_ble_eq_true rfl) dX11_friends_46 (fun v_46 m_46 h_46 => ?_)
        obtain ⟨e1, e2⟩ := h_46; have e1 := e1.symm; have e2 := e2.symm; subst e1; subst e2
        refine j_istore X dX11_friends_49 (by decide) ?_
        refine j_iload X dX11_friends_51 rfl ?_
        refine j_if_ge X 59 dX11_friends_53 (by decide) (fun c_53 => ?_) (fun c_53 => absurd c_53 (by decide))
        refine j_bipush X dX11_friends_59 60 (by decide) ?_
        refine j_iload_n X dX11_friends_61 rfl ?_
        refine j_imul X dX11_friends_62 ?_
        refine j_iload_n X dX11_friends_63 rfl ?_
        refine j_iadd X dX11_friends_64 ?_
        refine j_nrm (nI (60 * s + i)) (by simp only [fa_lit, pk_mul, nI_add]) ?_
        refine j_istore X dX11_friends_65 (by decide) ?_
        refine j_iconst X dX11_friends_67 0 (by decide) ?_
        refine j_istore X dX11_friends_68 (by decide) ?_
        refine j_iconst X dX11_friends_70 0 (by decide) ?_
        refine j_istore X dX11_friends_71 (by decide) ?_
        have lp73 : ∀ (n : Nat) (a : Nat), a ≤ q → q + 1 ≤ a + n → J G RX11 cX11_friends 10 0 0 73 (jlv [some (.ref 66), some (.int (nI s)), some (.int (nI i)), some (.int (nI q)), some (.int (0)), some (.int 0), some (.int (nI (60 * s + i))), some (.int (jMet (fun k => mem 69 (60 * s + i + k)) a)), some (.int (nI a))]) [] (jS np) (jup mem 66 0 0) := by
          intro n
          induction n with
          | zero =>
            intro a ha hn
            exact absurd hn (by omega)
          | succ n ih73 =>
            intro a ha hn
            refine j_iload X dX11_friends_73 rfl ?_
            refine j_iload_n X dX11_friends_75 rfl ?_
            refine j_icmp_ge X 176 dX11_friends_76 (by decide) (fun c_76 => ?_) (fun c_76 => ?_)
            · refine j_aload_n X dX11_friends_176 rfl ?_
              refine j_iconst X dX11_friends_177 0 (by decide) ?_
              refine j_putI X 11 1 (by decide) (by decide) rfl rfl rfl rfl u951 (o66 np) (k66 np) dX11_friends_178 ?_
              refine j_iload X dX11_friends_181 rfl ?_
              refine j_if_ne X 195 dX11_friends_183 (by decide) (fun c_183 => absurd c_183 (by decide)) (fun c_183 => ?_)
              refine j_aload_n X dX11_friends_186 rfl ?_
              refine j_iload X dX11_friends_187 rfl ?_
              refine j_iload_n X dX11_friends_189 rfl ?_
              refine j_iconst X dX11_friends_190 0 (by decide) ?_
              refine s_callVi X hR (m_valueAt np _ (60 * s + i) q 0 (jFx (fun k => mem 69 (60 * s + i + k))) (jFy (fun k => mem 69 (60 * s + i + k))) (by omega) (by omega) (fun a ha => ⟨(jFx_e hok (show a < q by omega)).1, (jFx_e hok (show a < q by omega)).2.2⟩) (fun a ha => jFy_e hok (show a < q by omega)) (fun a b ha hb hab => jFx_ne hok (show a < q by omega) (show b < q by omega) hab)) rfl 11 (by decide) (o66 np) (k66 np) rfl u1259 u1256 u1258 qp48 u12 hyX11_valueAt (by decide) (by decide) (Nat.le_of_ble_eq_true rfl) dX11_friends_191 (fun v_191 m_191 h_191 => ?_)
              obtain ⟨e1, e2⟩ := h_191; have e1 := e1.symm; have e2 := e2.symm; subst e1; subst e2
              refine s_iret X hE hr dX11_friends_194 rfl ?_
              first | exact ⟨rfl, rfl⟩ | (exfalso; clear hE hr hR X; (try simp only [lg_cmp_lt, lg_cmp_gt, lg_cmp_le, lg_cmp_ge] at *); (try simp (disch := omega) only [Int64.le_iff_toInt_le, Int64.lt_iff_toInt_lt, Int32.le_iff_toInt_le, Int32.lt_iff_toInt_lt, fa_eq, fa_lit, fa_litL, nI_toInt, pk_lT, Int32.toInt_toInt64, jadd64, jin, jnoneT] at *); omega)
            · have ha2 : a < q := by clear hE hr hR X; (try simp only [lg_cmp_lt, lg_cmp_gt, lg_cmp_le, lg_cmp_ge] at *); (try simp (disch := omega) only [Int64.le_iff_toInt_le, Int64.lt_iff_toInt_lt, Int32.le_iff_toInt_le, Int32.lt_iff_toInt_lt, fa_eq, fa_lit, fa_litL, nI_toInt, pk_lT, Int32.toInt_toInt64, jadd64, jin, jnoneT] at *); omega
              refine j_aload_n X dX11_friends_79 rfl ?_
              refine j_getR X 11 4 (by decide) (by decide) rfl u954 (o66 np) (k66 np) _ (p66_4 np) dX11_friends_80 ?_
              refine j_iload X dX11_friends_83 rfl ?_
              refine j_iconst X dX11_friends_85 2 (by decide) ?_
              refine j_iload X dX11_friends_86 rfl ?_
              refine j_imul X dX11_friends_88 ?_
              refine j_iadd X dX11_friends_89 ?_
              refine j_nrm _ (by first | (simp only [fa_lit, pk_mul, nI_add]; done) | (simp only [fa_lit, pk_mul, nI_add]; rfl) | rfl) ?_
              refine j_ialdN X (o69 np) (k69 np) (by rw [l69]; omega) (by rw [l69]; decide) (mem 69) rfl dX11_friends_90 ?_
              refine j_i2l X dX11_friends_91 ?_
              refine j_lconst X dX11_friends_92 1 (by decide) ?_
              refine j_ldc2 X dX11_friends_93 u1248 ?_
              refine s_callSi X hR (m_inI np _ _ _ _ 1 6 rfl rfl) rfl u1087 u1085 u1086 u12 hyX11_in (by decide) (by decide) (Nat.le_of_ble_eq_true rfl) dX11_friends_96 (fun v_96 m_96 h_96 => ?_)
              obtain ⟨e1, e2⟩ := h_96; have e1 := e1.symm; have e2 := e2.symm; subst e1; subst e2
              refine j_ifb_eq X 148 dX11_friends_99 (by decide) (fun c_99 => ?_) (fun c_99 => ?_)
              · exfalso
                have hga := hok a ha2
                first | exact c_99 hga.1 | exact c_124 hga.2.1 | exact hga.2.2 c_145
              · refine j_aload_n X dX11_friends_102 rfl ?_
                refine j_getR X 11 4 (by decide) (by decide) rfl u954 (o66 np) (k66 np) _ (p66_4 np) dX11_friends_103 ?_
                refine j_iload X dX11_friends_106 rfl ?_
                refine j_iconst X dX11_friends_108 2 (by decide) ?_
                refine j_iload X dX11_friends_109 rfl ?_
                refine j_imul X dX11_friends_111 ?_
                refine j_iadd X dX11_friends_112 ?_
                refine j_iconst X dX11_friends_113 1 (by decide) ?_
                refine j_iadd X dX11_friends_114 ?_
                refine j_nrm _ (by first | (simp only [fa_lit, pk_mul, nI_add]; done) | (simp only [fa_lit, pk_mul, nI_add]; rfl) | rfl) ?_
                refine j_ialdN X (o69 np) (k69 np) (by rw [l69]; omega) (by rw [l69]; decide) (mem 69) rfl dX11_friends_115 ?_
                refine j_i2l X dX11_friends_116 ?_
                refine j_lconst X dX11_friends_117 0 (by decide) ?_
                refine j_ldc2 X dX11_friends_118 u1247 ?_
                refine s_callSi X hR (m_inI np _ _ _ _ 0 256 rfl rfl) rfl u1087 u1085 u1086 u12 hyX11_in (by decide) (by decide) (Nat.le_of_ble_eq_true rfl) dX11_friends_121 (fun v_121 m_121 h_121 => ?_)
                obtain ⟨e1, e2⟩ := h_121; have e1 := e1.symm; have e2 := e2.symm; subst e1; subst e2
                refine j_ifb_eq X 148 dX11_friends_124 (by decide) (fun c_124 => ?_) (fun c_124 => ?_)
                · exfalso
                  have hga := hok a ha2
                  first | exact c_99 hga.1 | exact c_124 hga.2.1 | exact hga.2.2 c_145
                · refine j_iload X dX11_friends_127 rfl ?_
                  refine j_aload_n X dX11_friends_129 rfl ?_
                  refine j_getR X 11 4 (by decide) (by decide) rfl u954 (o66 np) (k66 np) _ (p66_4 np) dX11_friends_130 ?_
                  refine j_iload X dX11_friends_133 rfl ?_
                  refine j_iconst X dX11_friends_135 2 (by decide) ?_
                  refine j_iload X dX11_friends_136 rfl ?_
                  refine j_imul X dX11_friends_138 ?_
                  refine j_iadd X dX11_friends_139 ?_
                  refine j_nrm _ (by first | (simp only [fa_lit, pk_mul, nI_add]; done) | (simp only [fa_lit, pk_mul, nI_add]; rfl) | rfl) ?_
                  refine j_ialdN X (o69 np) (k69 np) (by rw [l69]; omega) (by rw [l69]; decide) (mem 69) rfl dX11_friends_140 ?_
                  refine j_ishr X dX11_friends_141 ?_
                  refine j_iconst X dX11_friends_142 1 (by decide) ?_
                  refine j_iand X dX11_friends_143 ?_
                  refine j_iconst X dX11_friends_144 1 (by decide) ?_
                  refine j_icmp_ne X 151 dX11_friends_145 (by decide) (fun c_145 => ?_) (fun c_145 => ?_)
                  · refine j_iload X dX11_friends_151 rfl ?_
                    refine j_iconst X dX11_friends_153 1 (by decide) ?_
                    refine j_aload_n X dX11_friends_154 rfl ?_
                    refine j_getR X 11 4 (by decide) (by decide) rfl u954 (o66 np) (k66 np) _ (p66_4 np) dX11_friends_155 ?_
                    refine j_iload X dX11_friends_158 rfl ?_
                    refine j_iconst X dX11_friends_160 2 (by decide) ?_
                    refine j_iload X dX11_friends_161 rfl ?_
                    refine j_imul X dX11_friends_163 ?_
                    refine j_iadd X dX11_friends_164 ?_
                    refine j_nrm _ (by first | (simp only [fa_lit, pk_mul, nI_add]; done) | (simp only [fa_lit, pk_mul, nI_add]; rfl) | rfl) ?_
                    refine j_ialdN X (o69 np) (k69 np) (by rw [l69]; omega) (by rw [l69]; decide) (mem 69) rfl dX11_friends_165 ?_
                    refine j_ishl X dX11_friends_166 ?_
                    refine j_ior X dX11_friends_167 ?_
                    refine j_istore X dX11_friends_168 (by decide) ?_
                    refine j_iinc X dX11_friends_170 rfl 1 rfl ?_
                    refine j_goto X 73 dX11_friends_173 (by decide) ?_
                    refine j_lv [some (.ref 66), some (.int (nI s)), some (.int (nI i)), some (.int (nI q)), some (.int (0)), some (.int 0), some (.int (nI (60 * s + i))), some (.int (jMet (fun k => mem 69 (60 * s + i + k)) (a + 1))), some (.int (nI (a + 1)))] ⟨rfl, rfl, rfl, rfl, rfl, rfl, rfl, rfl, (congrArg (fun z => some (Value.int z)) (nI_1 _)), trivial⟩ ?_
                    exact ih73 (a + 1) (by omega) (by omega)
                  · exfalso
                    have hga := hok a ha2
                    first | exact c_99 hga.1 | exact c_124 hga.2.1 | exact hga.2.2 c_145
        refine j_lv [some (.ref 66), some (.int (nI s)), some (.int (nI i)), some (.int (nI q)), some (.int (0)), some (.int 0), some (.int (nI (60 * s + i))), some (.int (jMet (fun k => mem 69 (60 * s + i + k)) 0)), some (.int (nI 0))] ⟨rfl, rfl, rfl, rfl, rfl, rfl, rfl, rfl, rfl, trivial⟩ ?_
        exact lp73 (q + 1) 0 (by omega) (by omega)
      · exfalso
        clear hE hr hR X
        (try simp only [lg_cmp_lt, lg_cmp_gt, lg_cmp_le, lg_cmp_ge] at *); (try simp (disch := omega) only [Int64.le_iff_toInt_le, Int64.lt_iff_toInt_lt, Int32.le_iff_toInt_le, Int32.lt_iff_toInt_lt, fa_eq, fa_lit, fa_litL, nI_toInt, pk_lT, Int32.toInt_toInt64, jadd64, jin, jnoneT] at *); omega
set_option maxRecDepth 4000 in
set_option maxHeartbeats 1000000 in
theorem m_friends_few (np : Nat) (mem : jMem) (s i q k z : Nat) (hs : s < 8) (hq1 : 1 ≤ q) (hq : q ≤ 6) (hk : k ≤ 4) (hl : 0 ≤ (mem 67 s).toInt) (hz : z ≤ 60) (hm : mem 68 s = nI z) (hi : i + 2 * q ≤ z) (hok : jFok (fun k => mem 69 (60 * s + i + k)) q) (hfew : q < k) : jPi yX11_friends cX11_friends 10 .int 3 [.ref 66, .int (nI s), .int (nI i), .int (nI q), .int (nI k)] np mem (fun v c => v = 257 ∧ c = jup (jup mem 66 0 0) 66 1 0) := by
  refine jPi.of (own := RX11) rfl rfl (Nat.le_of_ble_eq_true rfl) (fun G X hR hr hE => ?_)
  refine j_aload_n X dX11_friends_0 rfl ?_
  refine j_iconst X dX11_friends_1 0 (by decide) ?_
  refine j_putI X 11 0 (by decide) (by decide) rfl rfl rfl rfl u950 (o66 np) (k66 np) dX11_friends_2 ?_
  refine j_iload_n X dX11_friends_5 rfl ?_
  refine s_callSi X hR (m_isSheet np _ _) rfl u1083 u1081 u1082 u12 hyX11_isSheet (by decide) (by decide) (Nat.le_of_ble_eq_true rfl) dX11_friends_6 (fun v_6 m_6 h_6 => ?_)
  obtain ⟨e1, e2⟩ := h_6; have e1 := e1.symm; have e2 := e2.symm; subst e1; subst e2
  refine j_ifb_eq X 37 dX11_friends_9 (by decide) (fun c_9 => ?_) (fun c_9 => ?_)
  · exfalso
    clear hE hr hR X
    (try simp only [lg_cmp_lt, lg_cmp_gt, lg_cmp_le, lg_cmp_ge] at *); (try simp (disch := omega) only [Int64.le_iff_toInt_le, Int64.lt_iff_toInt_lt, Int32.le_iff_toInt_le, Int32.lt_iff_toInt_lt, fa_eq, fa_lit, fa_litL, nI_toInt, pk_lT, Int32.toInt_toInt64, jadd64, jin, jnoneT] at *); omega
  · refine j_iload_n X dX11_friends_12 rfl ?_
    refine j_i2l X dX11_friends_13 ?_
    refine j_lconst X dX11_friends_14 1 (by decide) ?_
    refine j_ldc2 X dX11_friends_15 u1248 ?_
    refine s_callSi X hR (m_inI np _ _ _ _ 1 6 rfl rfl) rfl u1087 u1085 u1086 u12 hyX11_in (by decide) (by decide) (Nat.le_of_ble_eq_true rfl) dX11_friends_18 (fun v_18 m_18 h_18 => ?_)
    obtain ⟨e1, e2⟩ := h_18; have e1 := e1.symm; have e2 := e2.symm; subst e1; subst e2
    refine j_ifb_eq X 37 dX11_friends_21 (by decide) (fun c_21 => ?_) (fun c_21 => ?_)
    · exfalso
      clear hE hr hR X
      (try simp only [lg_cmp_lt, lg_cmp_gt, lg_cmp_le, lg_cmp_ge] at *); (try simp (disch := omega) only [Int64.le_iff_toInt_le, Int64.lt_iff_toInt_lt, Int32.le_iff_toInt_le, Int32.lt_iff_toInt_lt, fa_eq, fa_lit, fa_litL, nI_toInt, pk_lT, Int32.toInt_toInt64, jadd64, jin, jnoneT] at *); omega
    · refine j_iload X dX11_friends_24 rfl ?_
      refine j_i2l X dX11_friends_26 ?_
      refine j_lconst X dX11_friends_27 0 (by decide) ?_
      refine j_ldc2 X dX11_friends_28 u1143 ?_
      refine s_callSi X hR (m_inI np _ _ _ _ 0 4 rfl rfl) rfl u1087 u1085 u1086 u12 hyX11_in (by decide) (by decide) (Nat.le_of_ble_eq_true rfl) dX11_friends_31 (fun v_31 m_31 h_31 => ?_)
      obtain ⟨e1, e2⟩ := h_31; have e1 := e1.symm; have e2 := e2.symm; subst e1; subst e2
      refine j_ifb_ne X 40 dX11_friends_34 (by decide) (fun c_34 => ?_) (fun c_34 => ?_)
      · refine j_aload_n X dX11_friends_40 rfl ?_
        refine j_iload_n X dX11_friends_41 rfl ?_
        refine j_iload_n X dX11_friends_42 rfl ?_
        refine j_iconst X dX11_friends_43 2 (by decide) ?_
        refine j_iload_n X dX11_friends_44 rfl ?_
        refine j_imul X dX11_friends_45 ?_
        refine j_nrm (nI (2 * q)) (by simp only [fa_lit, pk_mul]) ?_
        refine s_callVi X hR (m_look np _ s (nI i) _ hs hl (jlook hm rfl (by omega) hi)) rfl 11 (by decide) (o66 np) (k66 np) rfl u1141 u1138 u1140 qp38 u12 hyX11_lookItems (by decide) (by decide) (Nat.le_of_ble_eq_true rfl) dX11_friends_46 (fun v_46 m_46 h_46 => ?_)
        obtain ⟨e1, e2⟩ := h_46; have e1 := e1.symm; have e2 := e2.symm; subst e1; subst e2
        refine j_istore X dX11_friends_49 (by decide) ?_
        refine j_iload X dX11_friends_51 rfl ?_
        refine j_if_ge X 59 dX11_friends_53 (by decide) (fun c_53 => ?_) (fun c_53 => absurd c_53 (by decide))
        refine j_bipush X dX11_friends_59 60 (by decide) ?_
        refine j_iload_n X dX11_friends_61 rfl ?_
        refine j_imul X dX11_friends_62 ?_
        refine j_iload_n X dX11_friends_63 rfl ?_
        refine j_iadd X dX11_friends_64 ?_
        refine j_nrm (nI (60 * s + i)) (by simp only [fa_lit, pk_mul, nI_add]) ?_
        refine j_istore X dX11_friends_65 (by decide) ?_
        refine j_iconst X dX11_friends_67 0 (by decide) ?_
        refine j_istore X dX11_friends_68 (by decide) ?_
        refine j_iconst X dX11_friends_70 0 (by decide) ?_
        refine j_istore X dX11_friends_71 (by decide) ?_
        have lp73 : ∀ (n : Nat) (a : Nat), a ≤ q → q + 1 ≤ a + n → J G RX11 cX11_friends 10 0 0 73 (jlv [some (.ref 66), some (.int (nI s)), some (.int (nI i)), some (.int (nI q)), some (.int (nI k)), some (.int 0), some (.int (nI (60 * s + i))), some (.int (jMet (fun k => mem 69 (60 * s + i + k)) a)), some (.int (nI a))]) [] (jS np) (jup mem 66 0 0) := by
          intro n
          induction n with
          | zero =>
            intro a ha hn
            exact absurd hn (by omega)
          | succ n ih73 =>
            intro a ha hn
            refine j_iload X dX11_friends_73 rfl ?_
            refine j_iload_n X dX11_friends_75 rfl ?_
            refine j_icmp_ge X 176 dX11_friends_76 (by decide) (fun c_76 => ?_) (fun c_76 => ?_)
            · refine j_aload_n X dX11_friends_176 rfl ?_
              refine j_iconst X dX11_friends_177 0 (by decide) ?_
              refine j_putI X 11 1 (by decide) (by decide) rfl rfl rfl rfl u951 (o66 np) (k66 np) dX11_friends_178 ?_
              refine j_iload X dX11_friends_181 rfl ?_
              refine j_if_ne X 195 dX11_friends_183 (by decide) (fun c_183 => ?_) (fun c_183 => ?_)
              · refine j_iload_n X dX11_friends_195 rfl ?_
                refine j_iload X dX11_friends_196 rfl ?_
                refine j_icmp_ge X 205 dX11_friends_198 (by decide) (fun c_198 => ?_) (fun c_198 => ?_)
                · exfalso
                  clear hE hr hR X
                  (try simp only [lg_cmp_lt, lg_cmp_gt, lg_cmp_le, lg_cmp_ge] at *); (try simp (disch := omega) only [Int64.le_iff_toInt_le, Int64.lt_iff_toInt_lt, Int32.le_iff_toInt_le, Int32.lt_iff_toInt_lt, fa_eq, fa_lit, fa_litL, nI_toInt, pk_lT, Int32.toInt_toInt64, jadd64, jin, jnoneT] at *); omega
                · refine j_sipush X dX11_friends_201 257 (by decide) ?_
                  refine s_iret X hE hr dX11_friends_204 rfl ?_
                  exact ⟨rfl, rfl⟩
              · exfalso
                exact absurd ((nI_eq (by omega) (by omega)).mp (show nI k = nI 0 from c_183)) (by omega)
            · have ha2 : a < q := by clear hE hr hR X; (try simp only [lg_cmp_lt, lg_cmp_gt, lg_cmp_le, lg_cmp_ge] at *); (try simp (disch := omega) only [Int64.le_iff_toInt_le, Int64.lt_iff_toInt_lt, Int32.le_iff_toInt_le, Int32.lt_iff_toInt_lt, fa_eq, fa_lit, fa_litL, nI_toInt, pk_lT, Int32.toInt_toInt64, jadd64, jin, jnoneT] at *); omega
              refine j_aload_n X dX11_friends_79 rfl ?_
              refine j_getR X 11 4 (by decide) (by decide) rfl u954 (o66 np) (k66 np) _ (p66_4 np) dX11_friends_80 ?_
              refine j_iload X dX11_friends_83 rfl ?_
              refine j_iconst X dX11_friends_85 2 (by decide) ?_
              refine j_iload X dX11_friends_86 rfl ?_
              refine j_imul X dX11_friends_88 ?_
              refine j_iadd X dX11_friends_89 ?_
              refine j_nrm _ (by first | (simp only [fa_lit, pk_mul, nI_add]; done) | (simp only [fa_lit, pk_mul, nI_add]; rfl) | rfl) ?_
              refine j_ialdN X (o69 np) (k69 np) (by rw [l69]; omega) (by rw [l69]; decide) (mem 69) rfl dX11_friends_90 ?_
              refine j_i2l X dX11_friends_91 ?_
              refine j_lconst X dX11_friends_92 1 (by decide) ?_
              refine j_ldc2 X dX11_friends_93 u1248 ?_
              refine s_callSi X hR (m_inI np _ _ _ _ 1 6 rfl rfl) rfl u1087 u1085 u1086 u12 hyX11_in (by decide) (by decide) (Nat.le_of_ble_eq_true rfl) dX11_friends_96 (fun v_96 m_96 h_96 => ?_)
              obtain ⟨e1, e2⟩ := h_96; have e1 := e1.symm; have e2 := e2.symm; subst e1; subst e2
              refine j_ifb_eq X 148 dX11_friends_99 (by decide) (fun c_99 => ?_) (fun c_99 => ?_)
              · exfalso
                have hga := hok a ha2
                first | exact c_99 hga.1 | exact c_124 hga.2.1 | exact hga.2.2 c_145
              · refine j_aload_n X dX11_friends_102 rfl ?_
                refine j_getR X 11 4 (by decide) (by decide) rfl u954 (o66 np) (k66 np) _ (p66_4 np) dX11_friends_103 ?_
                refine j_iload X dX11_friends_106 rfl ?_
                refine j_iconst X dX11_friends_108 2 (by decide) ?_
                refine j_iload X dX11_friends_109 rfl ?_
                refine j_imul X dX11_friends_111 ?_
                refine j_iadd X dX11_friends_112 ?_
                refine j_iconst X dX11_friends_113 1 (by decide) ?_
                refine j_iadd X dX11_friends_114 ?_
                refine j_nrm _ (by first | (simp only [fa_lit, pk_mul, nI_add]; done) | (simp only [fa_lit, pk_mul, nI_add]; rfl) | rfl) ?_
                refine j_ialdN X (o69 np) (k69 np) (by rw [l69]; omega) (by rw [l69]; decide) (mem 69) rfl dX11_friends_115 ?_
                refine j_i2l X dX11_friends_116 ?_
                refine j_lconst X dX11_friends_117 0 (by decide) ?_
                refine j_ldc2 X dX11_friends_118 u1247 ?_
                refine s_callSi X hR (m_inI np _ _ _ _ 0 256 rfl rfl) rfl u1087 u1085 u1086 u12 hyX11_in (by decide) (by decide) (Nat.le_of_ble_eq_true rfl) dX11_friends_121 (fun v_121 m_121 h_121 => ?_)
                obtain ⟨e1, e2⟩ := h_121; have e1 := e1.symm; have e2 := e2.symm; subst e1; subst e2
                refine j_ifb_eq X 148 dX11_friends_124 (by decide) (fun c_124 => ?_) (fun c_124 => ?_)
                · exfalso
                  have hga := hok a ha2
                  first | exact c_99 hga.1 | exact c_124 hga.2.1 | exact hga.2.2 c_145
                · refine j_iload X dX11_friends_127 rfl ?_
                  refine j_aload_n X dX11_friends_129 rfl ?_
                  refine j_getR X 11 4 (by decide) (by decide) rfl u954 (o66 np) (k66 np) _ (p66_4 np) dX11_friends_130 ?_
                  refine j_iload X dX11_friends_133 rfl ?_
                  refine j_iconst X dX11_friends_135 2 (by decide) ?_
                  refine j_iload X dX11_friends_136 rfl ?_
                  refine j_imul X dX11_friends_138 ?_
                  refine j_iadd X dX11_friends_139 ?_
                  refine j_nrm _ (by first | (simp only [fa_lit, pk_mul, nI_add]; done) | (simp only [fa_lit, pk_mul, nI_add]; rfl) | rfl) ?_
                  refine j_ialdN X (o69 np) (k69 np) (by rw [l69]; omega) (by rw [l69]; decide) (mem 69) rfl dX11_friends_140 ?_
                  refine j_ishr X dX11_friends_141 ?_
                  refine j_iconst X dX11_friends_142 1 (by decide) ?_
                  refine j_iand X dX11_friends_143 ?_
                  refine j_iconst X dX11_friends_144 1 (by decide) ?_
                  refine j_icmp_ne X 151 dX11_friends_145 (by decide) (fun c_145 => ?_) (fun c_145 => ?_)
                  · refine j_iload X dX11_friends_151 rfl ?_
                    refine j_iconst X dX11_friends_153 1 (by decide) ?_
                    refine j_aload_n X dX11_friends_154 rfl ?_
                    refine j_getR X 11 4 (by decide) (by decide) rfl u954 (o66 np) (k66 np) _ (p66_4 np) dX11_friends_155 ?_
                    refine j_iload X dX11_friends_158 rfl ?_
                    refine j_iconst X dX11_friends_160 2 (by decide) ?_
                    refine j_iload X dX11_friends_161 rfl ?_
                    refine j_imul X dX11_friends_163 ?_
                    refine j_iadd X dX11_friends_164 ?_
                    refine j_nrm _ (by first | (simp only [fa_lit, pk_mul, nI_add]; done) | (simp only [fa_lit, pk_mul, nI_add]; rfl) | rfl) ?_
                    refine j_ialdN X (o69 np) (k69 np) (by rw [l69]; omega) (by rw [l69]; decide) (mem 69) rfl dX11_friends_165 ?_
                    refine j_ishl X dX11_friends_166 ?_
                    refine j_ior X dX11_friends_167 ?_
                    refine j_istore X dX11_friends_168 (by decide) ?_
                    refine j_iinc X dX11_friends_170 rfl 1 rfl ?_
                    refine j_goto X 73 dX11_friends_173 (by decide) ?_
                    refine j_lv [some (.ref 66), some (.int (nI s)), some (.int (nI i)), some (.int (nI q)), some (.int (nI k)), some (.int 0), some (.int (nI (60 * s + i))), some (.int (jMet (fun k => mem 69 (60 * s + i + k)) (a + 1))), some (.int (nI (a + 1)))] ⟨rfl, rfl, rfl, rfl, rfl, rfl, rfl, rfl, (congrArg (fun z => some (Value.int z)) (nI_1 _)), trivial⟩ ?_
                    exact ih73 (a + 1) (by omega) (by omega)
                  · exfalso
                    have hga := hok a ha2
                    first | exact c_99 hga.1 | exact c_124 hga.2.1 | exact hga.2.2 c_145
        refine j_lv [some (.ref 66), some (.int (nI s)), some (.int (nI i)), some (.int (nI q)), some (.int (nI k)), some (.int 0), some (.int (nI (60 * s + i))), some (.int (jMet (fun k => mem 69 (60 * s + i + k)) 0)), some (.int (nI 0))] ⟨rfl, rfl, rfl, rfl, rfl, rfl, rfl, rfl, rfl, trivial⟩ ?_
        exact lp73 (q + 1) 0 (by omega) (by omega)
      · exfalso
        clear hE hr hR X
        (try simp only [lg_cmp_lt, lg_cmp_gt, lg_cmp_le, lg_cmp_ge] at *); (try simp (disch := omega) only [Int64.le_iff_toInt_le, Int64.lt_iff_toInt_lt, Int32.le_iff_toInt_le, Int32.lt_iff_toInt_lt, fa_eq, fa_lit, fa_litL, nI_toInt, pk_lT, Int32.toInt_toInt64, jadd64, jin, jnoneT] at *); omega
set_option maxRecDepth 4000 in
set_option maxHeartbeats 1000000 in
theorem m_friends (np : Nat) (mem : jMem) (s i q k z : Nat) (hs : s < 8) (hq1 : 1 ≤ q) (hq : q ≤ 6) (hk : k ≤ 4) (hl : 0 ≤ (mem 67 s).toInt) (hz : z ≤ 60) (hm : mem 68 s = nI z) (hi : i + 2 * q ≤ z) (hok : jFok (fun k => mem 69 (60 * s + i + k)) q) (hk1 : 1 ≤ k) (hkq : k ≤ q) : jPi yX11_friends cX11_friends 10 .int 3 [.ref 66, .int (nI s), .int (nI i), .int (nI q), .int (nI k)] np mem (fun v c => v = jb (jPos (jFx (fun k => mem 69 (60 * s + i + k))) (jFy (fun k => mem 69 (60 * s + i + k))) k q = true) ∧ c = jup (jup mem 66 0 0) 66 1 0) := by
  refine jPi.of (own := RX11) rfl rfl (Nat.le_of_ble_eq_true rfl) (fun G X hR hr hE => ?_)
  refine j_aload_n X dX11_friends_0 rfl ?_
  refine j_iconst X dX11_friends_1 0 (by decide) ?_
  refine j_putI X 11 0 (by decide) (by decide) rfl rfl rfl rfl u950 (o66 np) (k66 np) dX11_friends_2 ?_
  refine j_iload_n X dX11_friends_5 rfl ?_
  refine s_callSi X hR (m_isSheet np _ _) rfl u1083 u1081 u1082 u12 hyX11_isSheet (by decide) (by decide) (Nat.le_of_ble_eq_true rfl) dX11_friends_6 (fun v_6 m_6 h_6 => ?_)
  obtain ⟨e1, e2⟩ := h_6; have e1 := e1.symm; have e2 := e2.symm; subst e1; subst e2
  refine j_ifb_eq X 37 dX11_friends_9 (by decide) (fun c_9 => ?_) (fun c_9 => ?_)
  · exfalso
    clear hE hr hR X
    (try simp only [lg_cmp_lt, lg_cmp_gt, lg_cmp_le, lg_cmp_ge] at *); (try simp (disch := omega) only [Int64.le_iff_toInt_le, Int64.lt_iff_toInt_lt, Int32.le_iff_toInt_le, Int32.lt_iff_toInt_lt, fa_eq, fa_lit, fa_litL, nI_toInt, pk_lT, Int32.toInt_toInt64, jadd64, jin, jnoneT] at *); omega
  · refine j_iload_n X dX11_friends_12 rfl ?_
    refine j_i2l X dX11_friends_13 ?_
    refine j_lconst X dX11_friends_14 1 (by decide) ?_
    refine j_ldc2 X dX11_friends_15 u1248 ?_
    refine s_callSi X hR (m_inI np _ _ _ _ 1 6 rfl rfl) rfl u1087 u1085 u1086 u12 hyX11_in (by decide) (by decide) (Nat.le_of_ble_eq_true rfl) dX11_friends_18 (fun v_18 m_18 h_18 => ?_)
    obtain ⟨e1, e2⟩ := h_18; have e1 := e1.symm; have e2 := e2.symm; subst e1; subst e2
    refine j_ifb_eq X 37 dX11_friends_21 (by decide) (fun c_21 => ?_) (fun c_21 => ?_)
    · exfalso
      clear hE hr hR X
      (try simp only [lg_cmp_lt, lg_cmp_gt, lg_cmp_le, lg_cmp_ge] at *); (try simp (disch := omega) only [Int64.le_iff_toInt_le, Int64.lt_iff_toInt_lt, Int32.le_iff_toInt_le, Int32.lt_iff_toInt_lt, fa_eq, fa_lit, fa_litL, nI_toInt, pk_lT, Int32.toInt_toInt64, jadd64, jin, jnoneT] at *); omega
    · refine j_iload X dX11_friends_24 rfl ?_
      refine j_i2l X dX11_friends_26 ?_
      refine j_lconst X dX11_friends_27 0 (by decide) ?_
      refine j_ldc2 X dX11_friends_28 u1143 ?_
      refine s_callSi X hR (m_inI np _ _ _ _ 0 4 rfl rfl) rfl u1087 u1085 u1086 u12 hyX11_in (by decide) (by decide) (Nat.le_of_ble_eq_true rfl) dX11_friends_31 (fun v_31 m_31 h_31 => ?_)
      obtain ⟨e1, e2⟩ := h_31; have e1 := e1.symm; have e2 := e2.symm; subst e1; subst e2
      refine j_ifb_ne X 40 dX11_friends_34 (by decide) (fun c_34 => ?_) (fun c_34 => ?_)
      · refine j_aload_n X dX11_friends_40 rfl ?_
        refine j_iload_n X dX11_friends_41 rfl ?_
        refine j_iload_n X dX11_friends_42 rfl ?_
        refine j_iconst X dX11_friends_43 2 (by decide) ?_
        refine j_iload_n X dX11_friends_44 rfl ?_
        refine j_imul X dX11_friends_45 ?_
        refine j_nrm (nI (2 * q)) (by simp only [fa_lit, pk_mul]) ?_
        refine s_callVi X hR (m_look np _ s (nI i) _ hs hl (jlook hm rfl (by omega) hi)) rfl 11 (by decide) (o66 np) (k66 np) rfl u1141 u1138 u1140 qp38 u12 hyX11_lookItems (by decide) (by decide) (Nat.le_of_ble_eq_true rfl) dX11_friends_46 (fun v_46 m_46 h_46 => ?_)
        obtain ⟨e1, e2⟩ := h_46; have e1 := e1.symm; have e2 := e2.symm; subst e1; subst e2
        refine j_istore X dX11_friends_49 (by decide) ?_
        refine j_iload X dX11_friends_51 rfl ?_
        refine j_if_ge X 59 dX11_friends_53 (by decide) (fun c_53 => ?_) (fun c_53 => absurd c_53 (by decide))
        refine j_bipush X dX11_friends_59 60 (by decide) ?_
        refine j_iload_n X dX11_friends_61 rfl ?_
        refine j_imul X dX11_friends_62 ?_
        refine j_iload_n X dX11_friends_63 rfl ?_
        refine j_iadd X dX11_friends_64 ?_
        refine j_nrm (nI (60 * s + i)) (by simp only [fa_lit, pk_mul, nI_add]) ?_
        refine j_istore X dX11_friends_65 (by decide) ?_
        refine j_iconst X dX11_friends_67 0 (by decide) ?_
        refine j_istore X dX11_friends_68 (by decide) ?_
        refine j_iconst X dX11_friends_70 0 (by decide) ?_
        refine j_istore X dX11_friends_71 (by decide) ?_
        have lp73 : ∀ (n : Nat) (a : Nat), a ≤ q → q + 1 ≤ a + n → J G RX11 cX11_friends 10 0 0 73 (jlv [some (.ref 66), some (.int (nI s)), some (.int (nI i)), some (.int (nI q)), some (.int (nI k)), some (.int 0), some (.int (nI (60 * s + i))), some (.int (jMet (fun k => mem 69 (60 * s + i + k)) a)), some (.int (nI a))]) [] (jS np) (jup mem 66 0 0) := by
          intro n
          induction n with
          | zero =>
            intro a ha hn
            exact absurd hn (by omega)
          | succ n ih73 =>
            intro a ha hn
            refine j_iload X dX11_friends_73 rfl ?_
            refine j_iload_n X dX11_friends_75 rfl ?_
            refine j_icmp_ge X 176 dX11_friends_76 (by decide) (fun c_76 => ?_) (fun c_76 => ?_)
            · refine j_aload_n X dX11_friends_176 rfl ?_
              refine j_iconst X dX11_friends_177 0 (by decide) ?_
              refine j_putI X 11 1 (by decide) (by decide) rfl rfl rfl rfl u951 (o66 np) (k66 np) dX11_friends_178 ?_
              refine j_iload X dX11_friends_181 rfl ?_
              refine j_if_ne X 195 dX11_friends_183 (by decide) (fun c_183 => ?_) (fun c_183 => ?_)
              · refine j_iload_n X dX11_friends_195 rfl ?_
                refine j_iload X dX11_friends_196 rfl ?_
                refine j_icmp_ge X 205 dX11_friends_198 (by decide) (fun c_198 => ?_) (fun c_198 => ?_)
                · refine j_iconst X dX11_friends_205 1 (by decide) ?_
                  refine j_istore X dX11_friends_206 (by decide) ?_
                  refine j_iload X dX11_friends_208 rfl ?_
                  refine j_istore X dX11_friends_210 (by decide) ?_
                  have lp212 : ∀ (n : Nat) (b : Nat), k + b ≤ q → q + 1 ≤ k + b + n → J G RX11 cX11_friends 10 0 0 212 (jlv [some (.ref 66), some (.int (nI s)), some (.int (nI i)), some (.int (nI q)), some (.int (nI k)), some (.int 0), some (.int (nI (60 * s + i))), none, some (.int (jb (jAll true (fun a => decide (jLag (jFx (fun k => mem 69 (60 * s + i + k))) (jFy (fun k => mem 69 (60 * s + i + k))) k ((jFx (fun k => mem 69 (60 * s + i + k))) (k + a)) k = (jFy (fun k => mem 69 (60 * s + i + k))) (k + a))) b = true))), some (.int (nI (k + b)))]) [] (jS np) (jup (jup mem 66 0 0) 66 1 0) := by
                    intro n
                    induction n with
                    | zero =>
                      intro b hb hnb
                      exact absurd hnb (by omega)
                    | succ n ih212 =>
                      intro b hb hnb
                      refine j_iload X dX11_friends_212 rfl ?_
                      refine j_iload_n X dX11_friends_214 rfl ?_
                      refine j_icmp_ge X 273 dX11_friends_215 (by decide) (fun c_215 => ?_) (fun c_215 => ?_)
                      · obtain rfl : q = k + b := by clear hok hE hr hR X; (try simp only [lg_cmp_lt, lg_cmp_gt, lg_cmp_le, lg_cmp_ge] at *); (try simp (disch := omega) only [Int64.le_iff_toInt_le, Int64.lt_iff_toInt_lt, Int32.le_iff_toInt_le, Int32.lt_iff_toInt_lt, fa_eq, fa_lit, fa_litL, nI_toInt, pk_lT, Int32.toInt_toInt64, jadd64, jin, jnoneT] at *); omega
                        refine j_iload X dX11_friends_273 rfl ?_
                        refine j_ifb_eq X 282 dX11_friends_275 (by decide) (fun c_275 => ?_) (fun c_275 => ?_)
                        · refine j_iconst X dX11_friends_282 0 (by decide) ?_
                          refine s_iret X hE hr dX11_friends_283 rfl ?_
                          refine ⟨?_, rfl⟩
                          unfold jPos
                          rw [Nat.add_sub_cancel_left]
                          first | exact (jb_t c_275).symm | exact (jb_f c_275).symm
                        · refine j_iconst X dX11_friends_278 1 (by decide) ?_
                          refine j_goto X 283 dX11_friends_279 (by decide) ?_
                          refine s_iret X hE hr dX11_friends_283 rfl ?_
                          refine ⟨?_, rfl⟩
                          unfold jPos
                          rw [Nat.add_sub_cancel_left]
                          first | exact (jb_t c_275).symm | exact (jb_f c_275).symm
                      · have hb2 : k + b < q := by clear hok hE hr hR X; (try simp only [lg_cmp_lt, lg_cmp_gt, lg_cmp_le, lg_cmp_ge] at *); (try simp (disch := omega) only [Int64.le_iff_toInt_le, Int64.lt_iff_toInt_lt, Int32.le_iff_toInt_le, Int32.lt_iff_toInt_lt, fa_eq, fa_lit, fa_litL, nI_toInt, pk_lT, Int32.toInt_toInt64, jadd64, jin, jnoneT] at *); omega
                        have hxb := jFx_e hok hb2
                        have hyb := jFy_e hok hb2
                        have hlg := jLag_le (xs := (jFx (fun k => mem 69 (60 * s + i + k)))) (ys := (jFy (fun k => mem 69 (60 * s + i + k)))) (n := k) (pl := (jFx (fun k => mem 69 (60 * s + i + k))) (k + b)) k
                        refine j_iload X dX11_friends_218 rfl ?_
                        refine j_ifb_eq X 264 dX11_friends_220 (by decide) (fun c_220 => ?_) (fun c_220 => ?_)
                        · refine j_iconst X dX11_friends_264 0 (by decide) ?_
                          refine j_istore X dX11_friends_265 (by decide) ?_
                          refine j_iinc X dX11_friends_267 rfl 1 rfl ?_
                          refine j_goto X 212 dX11_friends_270 (by decide) ?_
                          refine j_lv [some (.ref 66), some (.int (nI s)), some (.int (nI i)), some (.int (nI q)), some (.int (nI k)), some (.int 0), some (.int (nI (60 * s + i))), none, some (.int (jb (jAll true (fun a => decide (jLag (jFx (fun k => mem 69 (60 * s + i + k))) (jFy (fun k => mem 69 (60 * s + i + k))) k ((jFx (fun k => mem 69 (60 * s + i + k))) (k + a)) k = (jFy (fun k => mem 69 (60 * s + i + k))) (k + a))) (b + 1) = true))), some (.int (nI (k + (b + 1))))] ⟨rfl, rfl, rfl, rfl, rfl, rfl, rfl, (congrArg (fun z => some (Value.int z)) (by first | exact (jb_t (P := jAll true (fun a => decide (jLag (jFx (fun k => mem 69 (60 * s + i + k))) (jFy (fun k => mem 69 (60 * s + i + k))) k ((jFx (fun k => mem 69 (60 * s + i + k))) (k + a)) k = (jFy (fun k => mem 69 (60 * s + i + k))) (k + a))) (b + 1) = true) (jAll_s.mpr ⟨c_220, decide_eq_true ((nI_eq (by omega) (by omega)).mp c_257)⟩)).symm | exact (jb_f (P := jAll true (fun a => decide (jLag (jFx (fun k => mem 69 (60 * s + i + k))) (jFy (fun k => mem 69 (60 * s + i + k))) k ((jFx (fun k => mem 69 (60 * s + i + k))) (k + a)) k = (jFy (fun k => mem 69 (60 * s + i + k))) (k + a))) (b + 1) = true) (fun z => c_257 (congrArg nI (of_decide_eq_true (jAll_s.mp z).2)))).symm | exact (jb_f (P := jAll true (fun a => decide (jLag (jFx (fun k => mem 69 (60 * s + i + k))) (jFy (fun k => mem 69 (60 * s + i + k))) k ((jFx (fun k => mem 69 (60 * s + i + k))) (k + a)) k = (jFy (fun k => mem 69 (60 * s + i + k))) (k + a))) (b + 1) = true) (fun z => c_220 (jAll_s.mp z).1)).symm)), (congrArg (fun z => some (Value.int z)) (nI_1 _)), trivial⟩ ?_
                          exact ih212 (b + 1) (by omega) (by omega)
                        · refine j_aload_n X dX11_friends_223 rfl ?_
                          refine j_iload X dX11_friends_224 rfl ?_
                          refine j_iload X dX11_friends_226 rfl ?_
                          refine j_aload_n X dX11_friends_228 rfl ?_
                          refine j_getR X 11 4 (by decide) (by decide) rfl u954 (o66 np) (k66 np) _ (p66_4 np) dX11_friends_229 ?_
                          refine j_iload X dX11_friends_232 rfl ?_
                          refine j_iconst X dX11_friends_234 2 (by decide) ?_
                          refine j_iload X dX11_friends_235 rfl ?_
                          refine j_imul X dX11_friends_237 ?_
                          refine j_iadd X dX11_friends_238 ?_
                          refine j_nrm _ (by first | (simp only [fa_lit, pk_mul, nI_add]; done) | (simp only [fa_lit, pk_mul, nI_add]; rfl) | rfl) ?_
                          refine j_ialdN X (o69 np) (k69 np) (by rw [l69]; omega) (by rw [l69]; decide) (mem 69) rfl dX11_friends_239 ?_
                          refine j_nrm (nI ((jFx (fun k => mem 69 (60 * s + i + k))) (k + b))) hxb.1 ?_
                          refine s_callVi X hR (m_valueAt np _ (60 * s + i) k ((jFx (fun k => mem 69 (60 * s + i + k))) (k + b)) (jFx (fun k => mem 69 (60 * s + i + k))) (jFy (fun k => mem 69 (60 * s + i + k))) (by omega) (by omega) (fun a ha => ⟨(jFx_e hok (show a < q by omega)).1, (jFx_e hok (show a < q by omega)).2.2⟩) (fun a ha => jFy_e hok (show a < q by omega)) (fun a b ha hb hab => jFx_ne hok (show a < q by omega) (show b < q by omega) hab)) rfl 11 (by decide) (o66 np) (k66 np) rfl u1259 u1256 u1258 qp48 u12 hyX11_valueAt (by decide) (by decide) (Nat.le_of_ble_eq_true rfl) dX11_friends_240 (fun v_240 m_240 h_240 => ?_)
                          obtain ⟨e1, e2⟩ := h_240; have e1 := e1.symm; have e2 := e2.symm; subst e1; subst e2
                          refine j_aload_n X dX11_friends_243 rfl ?_
                          refine j_getR X 11 4 (by decide) (by decide) rfl u954 (o66 np) (k66 np) _ (p66_4 np) dX11_friends_244 ?_
                          refine j_iload X dX11_friends_247 rfl ?_
                          refine j_iconst X dX11_friends_249 2 (by decide) ?_
                          refine j_iload X dX11_friends_250 rfl ?_
                          refine j_imul X dX11_friends_252 ?_
                          refine j_iadd X dX11_friends_253 ?_
                          refine j_iconst X dX11_friends_254 1 (by decide) ?_
                          refine j_iadd X dX11_friends_255 ?_
                          refine j_nrm _ (by first | (simp only [fa_lit, pk_mul, nI_add]; done) | (simp only [fa_lit, pk_mul, nI_add]; rfl) | rfl) ?_
                          refine j_ialdN X (o69 np) (k69 np) (by rw [l69]; omega) (by rw [l69]; decide) (mem 69) rfl dX11_friends_256 ?_
                          refine j_nrm (nI ((jFy (fun k => mem 69 (60 * s + i + k))) (k + b))) hyb.1 ?_
                          refine j_icmp_ne X 264 dX11_friends_257 (by decide) (fun c_257 => ?_) (fun c_257 => ?_)
                          · refine j_iconst X dX11_friends_264 0 (by decide) ?_
                            refine j_istore X dX11_friends_265 (by decide) ?_
                            refine j_iinc X dX11_friends_267 rfl 1 rfl ?_
                            refine j_goto X 212 dX11_friends_270 (by decide) ?_
                            refine j_lv [some (.ref 66), some (.int (nI s)), some (.int (nI i)), some (.int (nI q)), some (.int (nI k)), some (.int 0), some (.int (nI (60 * s + i))), none, some (.int (jb (jAll true (fun a => decide (jLag (jFx (fun k => mem 69 (60 * s + i + k))) (jFy (fun k => mem 69 (60 * s + i + k))) k ((jFx (fun k => mem 69 (60 * s + i + k))) (k + a)) k = (jFy (fun k => mem 69 (60 * s + i + k))) (k + a))) (b + 1) = true))), some (.int (nI (k + (b + 1))))] ⟨rfl, rfl, rfl, rfl, rfl, rfl, rfl, (congrArg (fun z => some (Value.int z)) (by first | exact (jb_t (P := jAll true (fun a => decide (jLag (jFx (fun k => mem 69 (60 * s + i + k))) (jFy (fun k => mem 69 (60 * s + i + k))) k ((jFx (fun k => mem 69 (60 * s + i + k))) (k + a)) k = (jFy (fun k => mem 69 (60 * s + i + k))) (k + a))) (b + 1) = true) (jAll_s.mpr ⟨c_220, decide_eq_true ((nI_eq (by omega) (by omega)).mp c_257)⟩)).symm | exact (jb_f (P := jAll true (fun a => decide (jLag (jFx (fun k => mem 69 (60 * s + i + k))) (jFy (fun k => mem 69 (60 * s + i + k))) k ((jFx (fun k => mem 69 (60 * s + i + k))) (k + a)) k = (jFy (fun k => mem 69 (60 * s + i + k))) (k + a))) (b + 1) = true) (fun z => c_257 (congrArg nI (of_decide_eq_true (jAll_s.mp z).2)))).symm | exact (jb_f (P := jAll true (fun a => decide (jLag (jFx (fun k => mem 69 (60 * s + i + k))) (jFy (fun k => mem 69 (60 * s + i + k))) k ((jFx (fun k => mem 69 (60 * s + i + k))) (k + a)) k = (jFy (fun k => mem 69 (60 * s + i + k))) (k + a))) (b + 1) = true) (fun z => c_220 (jAll_s.mp z).1)).symm)), (congrArg (fun z => some (Value.int z)) (nI_1 _)), trivial⟩ ?_
                            exact ih212 (b + 1) (by omega) (by omega)
                          · refine j_iconst X dX11_friends_260 1 (by decide) ?_
                            refine j_goto X 265 dX11_friends_261 (by decide) ?_
                            refine j_istore X dX11_friends_265 (by decide) ?_
                            refine j_iinc X dX11_friends_267 rfl 1 rfl ?_
                            refine j_goto X 212 dX11_friends_270 (by decide) ?_
                            refine j_lv [some (.ref 66), some (.int (nI s)), some (.int (nI i)), some (.int (nI q)), some (.int (nI k)), some (.int 0), some (.int (nI (60 * s + i))), none, some (.int (jb (jAll true (fun a => decide (jLag (jFx (fun k => mem 69 (60 * s + i + k))) (jFy (fun k => mem 69 (60 * s + i + k))) k ((jFx (fun k => mem 69 (60 * s + i + k))) (k + a)) k = (jFy (fun k => mem 69 (60 * s + i + k))) (k + a))) (b + 1) = true))), some (.int (nI (k + (b + 1))))] ⟨rfl, rfl, rfl, rfl, rfl, rfl, rfl, (congrArg (fun z => some (Value.int z)) (by first | exact (jb_t (P := jAll true (fun a => decide (jLag (jFx (fun k => mem 69 (60 * s + i + k))) (jFy (fun k => mem 69 (60 * s + i + k))) k ((jFx (fun k => mem 69 (60 * s + i + k))) (k + a)) k = (jFy (fun k => mem 69 (60 * s + i + k))) (k + a))) (b + 1) = true) (jAll_s.mpr ⟨c_220, decide_eq_true ((nI_eq (by omega) (by omega)).mp c_257)⟩)).symm | exact (jb_f (P := jAll true (fun a => decide (jLag (jFx (fun k => mem 69 (60 * s + i + k))) (jFy (fun k => mem 69 (60 * s + i + k))) k ((jFx (fun k => mem 69 (60 * s + i + k))) (k + a)) k = (jFy (fun k => mem 69 (60 * s + i + k))) (k + a))) (b + 1) = true) (fun z => c_257 (congrArg nI (of_decide_eq_true (jAll_s.mp z).2)))).symm | exact (jb_f (P := jAll true (fun a => decide (jLag (jFx (fun k => mem 69 (60 * s + i + k))) (jFy (fun k => mem 69 (60 * s + i + k))) k ((jFx (fun k => mem 69 (60 * s + i + k))) (k + a)) k = (jFy (fun k => mem 69 (60 * s + i + k))) (k + a))) (b + 1) = true) (fun z => c_220 (jAll_s.mp z).1)).symm)), (congrArg (fun z => some (Value.int z)) (nI_1 _)), trivial⟩ ?_
                            exact ih212 (b + 1) (by omega) (by omega)
                  refine j_lv [some (.ref 66), some (.int (nI s)), some (.int (nI i)), some (.int (nI q)), some (.int (nI k)), some (.int 0), some (.int (nI (60 * s + i))), none, some (.int (jb (jAll true (fun a => decide (jLag (jFx (fun k => mem 69 (60 * s + i + k))) (jFy (fun k => mem 69 (60 * s + i + k))) k ((jFx (fun k => mem 69 (60 * s + i + k))) (k + a)) k = (jFy (fun k => mem 69 (60 * s + i + k))) (k + a))) 0 = true))), some (.int (nI (k + 0)))] ⟨rfl, rfl, rfl, rfl, rfl, rfl, rfl, rfl, rfl, trivial⟩ ?_
                  exact lp212 (q + 1) 0 (by omega) (by omega)
                · exfalso
                  clear hE hr hR X
                  (try simp only [lg_cmp_lt, lg_cmp_gt, lg_cmp_le, lg_cmp_ge] at *); (try simp (disch := omega) only [Int64.le_iff_toInt_le, Int64.lt_iff_toInt_lt, Int32.le_iff_toInt_le, Int32.lt_iff_toInt_lt, fa_eq, fa_lit, fa_litL, nI_toInt, pk_lT, Int32.toInt_toInt64, jadd64, jin, jnoneT] at *); omega
              · exfalso
                exact absurd ((nI_eq (by omega) (by omega)).mp (show nI k = nI 0 from c_183)) (by omega)
            · have ha2 : a < q := by clear hE hr hR X; (try simp only [lg_cmp_lt, lg_cmp_gt, lg_cmp_le, lg_cmp_ge] at *); (try simp (disch := omega) only [Int64.le_iff_toInt_le, Int64.lt_iff_toInt_lt, Int32.le_iff_toInt_le, Int32.lt_iff_toInt_lt, fa_eq, fa_lit, fa_litL, nI_toInt, pk_lT, Int32.toInt_toInt64, jadd64, jin, jnoneT] at *); omega
              refine j_aload_n X dX11_friends_79 rfl ?_
              refine j_getR X 11 4 (by decide) (by decide) rfl u954 (o66 np) (k66 np) _ (p66_4 np) dX11_friends_80 ?_
              refine j_iload X dX11_friends_83 rfl ?_
              refine j_iconst X dX11_friends_85 2 (by decide) ?_
              refine j_iload X dX11_friends_86 rfl ?_
              refine j_imul X dX11_friends_88 ?_
              refine j_iadd X dX11_friends_89 ?_
              refine j_nrm _ (by first | (simp only [fa_lit, pk_mul, nI_add]; done) | (simp only [fa_lit, pk_mul, nI_add]; rfl) | rfl) ?_
              refine j_ialdN X (o69 np) (k69 np) (by rw [l69]; omega) (by rw [l69]; decide) (mem 69) rfl dX11_friends_90 ?_
              refine j_i2l X dX11_friends_91 ?_
              refine j_lconst X dX11_friends_92 1 (by decide) ?_
              refine j_ldc2 X dX11_friends_93 u1248 ?_
              refine s_callSi X hR (m_inI np _ _ _ _ 1 6 rfl rfl) rfl u1087 u1085 u1086 u12 hyX11_in (by decide) (by decide) (Nat.le_of_ble_eq_true rfl) dX11_friends_96 (fun v_96 m_96 h_96 => ?_)
              obtain ⟨e1, e2⟩ := h_96; have e1 := e1.symm; have e2 := e2.symm; subst e1; subst e2
              refine j_ifb_eq X 148 dX11_friends_99 (by decide) (fun c_99 => ?_) (fun c_99 => ?_)
              · exfalso
                have hga := hok a ha2
                first | exact c_99 hga.1 | exact c_124 hga.2.1 | exact hga.2.2 c_145
              · refine j_aload_n X dX11_friends_102 rfl ?_
                refine j_getR X 11 4 (by decide) (by decide) rfl u954 (o66 np) (k66 np) _ (p66_4 np) dX11_friends_103 ?_
                refine j_iload X dX11_friends_106 rfl ?_
                refine j_iconst X dX11_friends_108 2 (by decide) ?_
                refine j_iload X dX11_friends_109 rfl ?_
                refine j_imul X dX11_friends_111 ?_
                refine j_iadd X dX11_friends_112 ?_
                refine j_iconst X dX11_friends_113 1 (by decide) ?_
                refine j_iadd X dX11_friends_114 ?_
                refine j_nrm _ (by first | (simp only [fa_lit, pk_mul, nI_add]; done) | (simp only [fa_lit, pk_mul, nI_add]; rfl) | rfl) ?_
                refine j_ialdN X (o69 np) (k69 np) (by rw [l69]; omega) (by rw [l69]; decide) (mem 69) rfl dX11_friends_115 ?_
                refine j_i2l X dX11_friends_116 ?_
                refine j_lconst X dX11_friends_117 0 (by decide) ?_
                refine j_ldc2 X dX11_friends_118 u1247 ?_
                refine s_callSi X hR (m_inI np _ _ _ _ 0 256 rfl rfl) rfl u1087 u1085 u1086 u12 hyX11_in (by decide) (by decide) (Nat.le_of_ble_eq_true rfl) dX11_friends_121 (fun v_121 m_121 h_121 => ?_)
                obtain ⟨e1, e2⟩ := h_121; have e1 := e1.symm; have e2 := e2.symm; subst e1; subst e2
                refine j_ifb_eq X 148 dX11_friends_124 (by decide) (fun c_124 => ?_) (fun c_124 => ?_)
                · exfalso
                  have hga := hok a ha2
                  first | exact c_99 hga.1 | exact c_124 hga.2.1 | exact hga.2.2 c_145
                · refine j_iload X dX11_friends_127 rfl ?_
                  refine j_aload_n X dX11_friends_129 rfl ?_
                  refine j_getR X 11 4 (by decide) (by decide) rfl u954 (o66 np) (k66 np) _ (p66_4 np) dX11_friends_130 ?_
                  refine j_iload X dX11_friends_133 rfl ?_
                  refine j_iconst X dX11_friends_135 2 (by decide) ?_
                  refine j_iload X dX11_friends_136 rfl ?_
                  refine j_imul X dX11_friends_138 ?_
                  refine j_iadd X dX11_friends_139 ?_
                  refine j_nrm _ (by first | (simp only [fa_lit, pk_mul, nI_add]; done) | (simp only [fa_lit, pk_mul, nI_add]; rfl) | rfl) ?_
                  refine j_ialdN X (o69 np) (k69 np) (by rw [l69]; omega) (by rw [l69]; decide) (mem 69) rfl dX11_friends_140 ?_
                  refine j_ishr X dX11_friends_141 ?_
                  refine j_iconst X dX11_friends_142 1 (by decide) ?_
                  refine j_iand X dX11_friends_143 ?_
                  refine j_iconst X dX11_friends_144 1 (by decide) ?_
                  refine j_icmp_ne X 151 dX11_friends_145 (by decide) (fun c_145 => ?_) (fun c_145 => ?_)
                  · refine j_iload X dX11_friends_151 rfl ?_
                    refine j_iconst X dX11_friends_153 1 (by decide) ?_
                    refine j_aload_n X dX11_friends_154 rfl ?_
                    refine j_getR X 11 4 (by decide) (by decide) rfl u954 (o66 np) (k66 np) _ (p66_4 np) dX11_friends_155 ?_
                    refine j_iload X dX11_friends_158 rfl ?_
                    refine j_iconst X dX11_friends_160 2 (by decide) ?_
                    refine j_iload X dX11_friends_161 rfl ?_
                    refine j_imul X dX11_friends_163 ?_
                    refine j_iadd X dX11_friends_164 ?_
                    refine j_nrm _ (by first | (simp only [fa_lit, pk_mul, nI_add]; done) | (simp only [fa_lit, pk_mul, nI_add]; rfl) | rfl) ?_
                    refine j_ialdN X (o69 np) (k69 np) (by rw [l69]; omega) (by rw [l69]; decide) (mem 69) rfl dX11_friends_165 ?_
                    refine j_ishl X dX11_friends_166 ?_
                    refine j_ior X dX11_friends_167 ?_
                    refine j_istore X dX11_friends_168 (by decide) ?_
                    refine j_iinc X dX11_friends_170 rfl 1 rfl ?_
                    refine j_goto X 73 dX11_friends_173 (by decide) ?_
                    refine j_lv [some (.ref 66), some (.int (nI s)), some (.int (nI i)), some (.int (nI q)), some (.int (nI k)), some (.int 0), some (.int (nI (60 * s + i))), some (.int (jMet (fun k => mem 69 (60 * s + i + k)) (a + 1))), some (.int (nI (a + 1)))] ⟨rfl, rfl, rfl, rfl, rfl, rfl, rfl, rfl, (congrArg (fun z => some (Value.int z)) (nI_1 _)), trivial⟩ ?_
                    exact ih73 (a + 1) (by omega) (by omega)
                  · exfalso
                    have hga := hok a ha2
                    first | exact c_99 hga.1 | exact c_124 hga.2.1 | exact hga.2.2 c_145
        refine j_lv [some (.ref 66), some (.int (nI s)), some (.int (nI i)), some (.int (nI q)), some (.int (nI k)), some (.int 0), some (.int (nI (60 * s + i))), some (.int (jMet (fun k => mem 69 (60 * s + i + k)) 0)), some (.int (nI 0))] ⟨rfl, rfl, rfl, rfl, rfl, rfl, rfl, rfl, rfl, trivial⟩ ?_
        exact lp73 (q + 1) 0 (by omega) (by omega)
      · exfalso
        clear hE hr hR X
        (try simp only [lg_cmp_lt, lg_cmp_gt, lg_cmp_le, lg_cmp_ge] at *); (try simp (disch := omega) only [Int64.le_iff_toInt_le, Int64.lt_iff_toInt_lt, Int32.le_iff_toInt_le, Int32.lt_iff_toInt_lt, fa_eq, fa_lit, fa_litL, nI_toInt, pk_lT, Int32.toInt_toInt64, jadd64, jin, jnoneT] at *); omega
set_option maxRecDepth 4000 in
set_option maxHeartbeats 1000000 in
theorem c_floorMod (np : Nat) (mem : jMem) (x y : Nat) (hx : x ≤ 6) (hy : y ≤ 6) : jPi yJ9_floorMod_7cf53 cJ9_floorMod_7cf53 3 .int 1 [.int (nI x - nI y), .int 257] np mem (fun v c => v = nI (jBw x y) ∧ c = mem) := by
  refine jPi.ofF (own := RJ9) rfl (by decide +kernel) (Nat.le_of_ble_eq_true rfl) (fun G X hR hr hE => ?_)
  refine j_iload_n X dJ9_floorMod_7cf53_0 rfl ?_
  refine j_iload_n X dJ9_floorMod_7cf53_1 rfl ?_
  refine j_irem X dJ9_floorMod_7cf53_2 (by decide) ?_
  refine j_nrm (jRem (nI x - nI y) 257) rfl ?_
  refine j_istore_n X dJ9_floorMod_7cf53_3 (by decide) ?_
  refine j_iload_n X dJ9_floorMod_7cf53_4 rfl ?_
  refine j_iload_n X dJ9_floorMod_7cf53_5 rfl ?_
  refine j_ixor X dJ9_floorMod_7cf53_6 ?_
  refine j_if_ge X 18 dJ9_floorMod_7cf53_7 (by decide) (fun c_7 => ?_) (fun c_7 => ?_)
  · refine j_iload_n X dJ9_floorMod_7cf53_18 rfl ?_
    refine s_iret X hE hr dJ9_floorMod_7cf53_19 rfl ?_
    refine ⟨?_, rfl⟩
    have hd := jfm_d x (by omega) y (by omega)
    first | exact (if_pos c_7).symm.trans hd | exact ((if_pos c_11).symm.trans (if_neg c_7).symm).trans hd | exact ((if_neg c_11).symm.trans (if_neg c_7).symm).trans hd
  · refine j_iload_n X dJ9_floorMod_7cf53_10 rfl ?_
    refine j_if_eq X 18 dJ9_floorMod_7cf53_11 (by decide) (fun c_11 => ?_) (fun c_11 => ?_)
    · refine j_iload_n X dJ9_floorMod_7cf53_18 rfl ?_
      refine s_iret X hE hr dJ9_floorMod_7cf53_19 rfl ?_
      refine ⟨?_, rfl⟩
      have hd := jfm_d x (by omega) y (by omega)
      first | exact (if_pos c_7).symm.trans hd | exact ((if_pos c_11).symm.trans (if_neg c_7).symm).trans hd | exact ((if_neg c_11).symm.trans (if_neg c_7).symm).trans hd
    · refine j_iload_n X dJ9_floorMod_7cf53_14 rfl ?_
      refine j_iload_n X dJ9_floorMod_7cf53_15 rfl ?_
      refine j_iadd X dJ9_floorMod_7cf53_16 ?_
      refine s_iret X hE hr dJ9_floorMod_7cf53_17 rfl ?_
      refine ⟨?_, rfl⟩
      have hd := jfm_d x (by omega) y (by omega)
      first | exact (if_pos c_7).symm.trans hd | exact ((if_pos c_11).symm.trans (if_neg c_7).symm).trans hd | exact ((if_neg c_11).symm.trans (if_neg c_7).symm).trans hd
set_option maxRecDepth 4000 in
set_option maxHeartbeats 1000000 in
theorem c_inverse (np : Nat) (mem : jMem) (w : Nat) (hw : w ≤ 256) : jPi yX2_inverse cX2_inverse 3 .int 1 [.int (nI w)] np mem (fun v c => v = nI (w ^ 255 % 257) ∧ c = mem) := by
  refine jPi.of (own := RX2) rfl rfl (Nat.le_of_ble_eq_true rfl) (fun G X hR hr hE => ?_)
  refine j_iconst X dX2_inverse_0 1 (by decide) ?_
  refine j_istore_n X dX2_inverse_1 (by decide) ?_
  refine j_iconst X dX2_inverse_2 0 (by decide) ?_
  refine j_istore_n X dX2_inverse_3 (by decide) ?_
  have lp4 : ∀ (n : Nat) (j : Nat), j ≤ 255 → 256 ≤ j + n → J G RX2 cX2_inverse 3 0 0 4 (jlv [some (.int (nI w)), some (.int (jPow (nI w) 257 j)), some (.int (nI j))]) [] (jS np) (mem) := by
    intro n
    induction n with
    | zero =>
      intro j hj hn
      exact absurd hn (by omega)
    | succ n ih4 =>
      intro j hj hn
      refine j_iload_n X dX2_inverse_4 rfl ?_
      refine j_sipush X dX2_inverse_5 255 (by decide) ?_
      refine j_icmp_ge X 25 dX2_inverse_8 (by decide) (fun c_8 => ?_) (fun c_8 => ?_)
      · obtain rfl : j = 255 := by clear hE hr hR X; (try simp only [lg_cmp_lt, lg_cmp_gt, lg_cmp_le, lg_cmp_ge] at *); (try simp (disch := omega) only [Int64.le_iff_toInt_le, Int64.lt_iff_toInt_lt, Int32.le_iff_toInt_le, Int32.lt_iff_toInt_lt, fa_eq, fa_lit, fa_litL, nI_toInt, pk_lT, Int32.toInt_toInt64, jadd64, jin, jnoneT] at *); omega
        refine j_iload_n X dX2_inverse_25 rfl ?_
        refine s_iret X hE hr dX2_inverse_26 rfl ?_
        exact ⟨jPow_n hw 255, rfl⟩
      · have hj2 : j < 255 := by clear hE hr hR X; (try simp only [lg_cmp_lt, lg_cmp_gt, lg_cmp_le, lg_cmp_ge] at *); (try simp (disch := omega) only [Int64.le_iff_toInt_le, Int64.lt_iff_toInt_lt, Int32.le_iff_toInt_le, Int32.lt_iff_toInt_lt, fa_eq, fa_lit, fa_litL, nI_toInt, pk_lT, Int32.toInt_toInt64, jadd64, jin, jnoneT] at *); omega
        refine j_iload_n X dX2_inverse_11 rfl ?_
        refine j_iload_n X dX2_inverse_12 rfl ?_
        refine j_imul X dX2_inverse_13 ?_
        refine j_sipush X dX2_inverse_14 257 (by decide) ?_
        refine j_irem X dX2_inverse_17 (by decide) ?_
        refine j_istore_n X dX2_inverse_18 (by decide) ?_
        refine j_iinc X dX2_inverse_19 rfl 1 rfl ?_
        refine j_goto X 4 dX2_inverse_22 (by decide) ?_
        refine j_lv [some (.int (nI w)), some (.int (jPow (nI w) 257 (j + 1))), some (.int (nI (j + 1)))] ⟨rfl, rfl, (congrArg (fun z => some (Value.int z)) (nI_1 _)), trivial⟩ ?_
        exact ih4 (j + 1) (by omega) (by omega)
  refine j_lv [some (.int (nI w)), some (.int (jPow (nI w) 257 0)), some (.int (nI 0))] ⟨rfl, rfl, rfl, trivial⟩ ?_
  exact lp4 256 0 (by omega) (by omega)
set_option maxRecDepth 4000 in
set_option maxHeartbeats 1000000 in
theorem c_take_bad (np : Nat) (mem : jMem) (s i q : Nat) (hs : s < 8) (hq : q ≤ 6) (hi : i + 2 * q ≤ 60) (hno : ¬ jFok (fun k => mem (3 + s) (i + k)) q) : jPi yX2_take cX2_take 8 .boolean 2 [.ref 29, .ref (3 + s), .int (nI i), .int (nI q)] np mem (fun v c => v = 0 ∧ jeq [30, 31] mem c) := by
  refine jPi.of (own := RX2) rfl rfl (Nat.le_of_ble_eq_true rfl) (fun G X hR hr hE => ?_)
  refine j_iconst X dX2_take_0 0 (by decide) ?_
  refine j_istore X dX2_take_1 (by decide) ?_
  refine j_iconst X dX2_take_3 0 (by decide) ?_
  refine j_istore X dX2_take_4 (by decide) ?_
  have lp6 : ∀ (n : Nat) (a : Nat) (m2 : jMem), a ≤ q → q + 1 ≤ a + n → jeq [30, 31] mem m2 → jFok (fun k => mem (3 + s) (i + k)) a → J G RX2 cX2_take 8 0 0 6 (jlv [some (.ref 29), some (.ref (3 + s)), some (.int (nI i)), some (.int (nI q)), some (.int (jMet (fun k => mem (3 + s) (i + k)) a)), some (.int (nI a))]) [] (jS np) (m2) := by
    intro n
    induction n with
    | zero =>
      intro a m2 ha hn hJ hB
      exact absurd hn (by omega)
    | succ n ih6 =>
      intro a m2 ha hn hJ hB
      refine j_iload X dX2_take_6 rfl ?_
      refine j_iload_n X dX2_take_8 rfl ?_
      refine j_icmp_ge X 102 dX2_take_9 (by decide) (fun c_9 => ?_) (fun c_9 => ?_)
      · exfalso
        obtain rfl : a = q := by clear hE hr hR X hB hno hJ; (try simp only [lg_cmp_lt, lg_cmp_gt, lg_cmp_le, lg_cmp_ge] at *); (try simp (disch := omega) only [Int64.le_iff_toInt_le, Int64.lt_iff_toInt_lt, Int32.le_iff_toInt_le, Int32.lt_iff_toInt_lt, fa_eq, fa_lit, fa_litL, nI_toInt, pk_lT, Int32.toInt_toInt64, jadd64, jin, jnoneT] at *); omega
        exact hno hB
      · have ha2 : a < q := by clear hE hr hR X; (try simp only [lg_cmp_lt, lg_cmp_gt, lg_cmp_le, lg_cmp_ge] at *); (try simp (disch := omega) only [Int64.le_iff_toInt_le, Int64.lt_iff_toInt_lt, Int32.le_iff_toInt_le, Int32.lt_iff_toInt_lt, fa_eq, fa_lit, fa_litL, nI_toInt, pk_lT, Int32.toInt_toInt64, jadd64, jin, jnoneT] at *); omega
        refine j_aload_n X dX2_take_12 rfl ?_
        refine j_iload_n X dX2_take_13 rfl ?_
        refine j_iconst X dX2_take_14 2 (by decide) ?_
        refine j_iload X dX2_take_15 rfl ?_
        refine j_imul X dX2_take_17 ?_
        refine j_iadd X dX2_take_18 ?_
        refine j_nrm _ (by first | (simp only [fa_lit, pk_mul, nI_add]; done) | (simp only [fa_lit, pk_mul, nI_add]; rfl) | rfl) ?_
        refine j_ialdN X (o2_r np (by omega)) (k2_r np (by omega)) (by rw [l2_r np (by omega)]; omega) (by rw [l2_r np (by omega)]; decide) (mem (3 + s)) (hJ _ (by simp only [List.mem_cons, List.not_mem_nil, or_false]; omega)) dX2_take_19 ?_
        refine j_istore X dX2_take_20 (by decide) ?_
        refine j_aload_n X dX2_take_22 rfl ?_
        refine j_iload_n X dX2_take_23 rfl ?_
        refine j_iconst X dX2_take_24 2 (by decide) ?_
        refine j_iload X dX2_take_25 rfl ?_
        refine j_imul X dX2_take_27 ?_
        refine j_iadd X dX2_take_28 ?_
        refine j_iconst X dX2_take_29 1 (by decide) ?_
        refine j_iadd X dX2_take_30 ?_
        refine j_nrm _ (by first | (simp only [fa_lit, pk_mul, nI_add]; done) | (simp only [fa_lit, pk_mul, nI_add]; rfl) | rfl) ?_
        refine j_ialdN X (o2_r np (by omega)) (k2_r np (by omega)) (by rw [l2_r np (by omega)]; omega) (by rw [l2_r np (by omega)]; decide) (mem (3 + s)) (hJ _ (by simp only [List.mem_cons, List.not_mem_nil, or_false]; omega)) dX2_take_31 ?_
        refine j_istore X dX2_take_32 (by decide) ?_
        refine j_iload X dX2_take_34 rfl ?_
        refine j_iconst X dX2_take_36 1 (by decide) ?_
        refine j_bipush X dX2_take_37 6 (by decide) ?_
        refine s_callNi X hR (c_withinI np _ _ _ _ (1) (6) rfl rfl) rfl u293 (by decide) u292 u1 hyX10_within (by decide) (by decide) (Nat.le_of_ble_eq_true rfl) dX2_take_39 (fun v_39 m_39 h_39 => ?_)
        obtain ⟨e1, e2⟩ := h_39; have e1 := e1.symm; have e2 := e2.symm; subst e1; subst e2
        refine j_ifb_eq X 67 dX2_take_42 (by decide) (fun c_42 => ?_) (fun c_42 => ?_)
        · refine j_iconst X dX2_take_67 0 (by decide) ?_
          refine s_iret X hE hr dX2_take_68 (by first | exact jb_nar | rfl) ?_
          exact ⟨rfl, hJ⟩
        · refine j_iload X dX2_take_45 rfl ?_
          refine j_iconst X dX2_take_47 0 (by decide) ?_
          refine j_sipush X dX2_take_48 256 (by decide) ?_
          refine s_callNi X hR (c_withinI np _ _ _ _ (0) (256) rfl rfl) rfl u293 (by decide) u292 u1 hyX10_within (by decide) (by decide) (Nat.le_of_ble_eq_true rfl) dX2_take_51 (fun v_51 m_51 h_51 => ?_)
          obtain ⟨e1, e2⟩ := h_51; have e1 := e1.symm; have e2 := e2.symm; subst e1; subst e2
          refine j_ifb_eq X 67 dX2_take_54 (by decide) (fun c_54 => ?_) (fun c_54 => ?_)
          · refine j_iconst X dX2_take_67 0 (by decide) ?_
            refine s_iret X hE hr dX2_take_68 (by first | exact jb_nar | rfl) ?_
            exact ⟨rfl, hJ⟩
          · refine j_iload X dX2_take_57 rfl ?_
            refine j_iload X dX2_take_59 rfl ?_
            refine s_callNi X hR (c_hasBit np _ _ _) rfl u498 (by decide) u497 u1 hyX10_hasBit (by decide) (by decide) (Nat.le_of_ble_eq_true rfl) dX2_take_61 (fun v_61 m_61 h_61 => ?_)
            obtain ⟨e1, e2⟩ := h_61; have e1 := e1.symm; have e2 := e2.symm; subst e1; subst e2
            refine j_ifb_eq X 69 dX2_take_64 (by decide) (fun c_64 => ?_) (fun c_64 => ?_)
            · refine j_iload X dX2_take_69 rfl ?_
              refine j_iconst X dX2_take_71 1 (by decide) ?_
              refine j_iload X dX2_take_72 rfl ?_
              refine j_ishl X dX2_take_74 ?_
              refine j_ior X dX2_take_75 ?_
              refine j_istore X dX2_take_76 (by decide) ?_
              refine j_aload_n X dX2_take_78 rfl ?_
              refine j_getR X 2 0 (by decide) (by decide) rfl u88 (o29 np) (k29 np) _ (p29_0 np) dX2_take_79 ?_
              refine j_iload X dX2_take_82 rfl ?_
              refine j_iload X dX2_take_84 rfl ?_
              refine j_nrm2 _ (by first | (simp only [fa_lit, pk_mul, nI_add]; done) | (simp only [fa_lit, pk_mul, nI_add]; rfl) | rfl) ?_
              refine j_iastN X (o30 np) (k30 np) (by rw [l30]; omega) (by rw [l30]; decide) dX2_take_86 ?_
              refine j_aload_n X dX2_take_87 rfl ?_
              refine j_getR X 2 1 (by decide) (by decide) rfl u89 (o29 np) (k29 np) _ (p29_1 np) dX2_take_88 ?_
              refine j_iload X dX2_take_91 rfl ?_
              refine j_iload X dX2_take_93 rfl ?_
              refine j_nrm2 _ (by first | (simp only [fa_lit, pk_mul, nI_add]; done) | (simp only [fa_lit, pk_mul, nI_add]; rfl) | rfl) ?_
              refine j_iastN X (o31 np) (k31 np) (by rw [l31]; omega) (by rw [l31]; decide) dX2_take_95 ?_
              refine j_iinc X dX2_take_96 rfl 1 rfl ?_
              refine j_goto X 6 dX2_take_99 (by decide) ?_
              refine j_lv [some (.ref 29), some (.ref (3 + s)), some (.int (nI i)), some (.int (nI q)), some (.int (jMet (fun k => mem (3 + s) (i + k)) (a + 1))), some (.int (nI (a + 1)))] ⟨rfl, rfl, rfl, rfl, rfl, (congrArg (fun z => some (Value.int z)) (nI_1 _)), trivial⟩ ?_
              exact ih6 (a + 1) _ (by omega) (by omega) (by first | assumption | exact jeq.up (jeq.up hJ (by decide)) (by decide)) (jFok_s hB c_42 c_54 c_64)
            · refine j_iconst X dX2_take_67 0 (by decide) ?_
              refine s_iret X hE hr dX2_take_68 (by first | exact jb_nar | rfl) ?_
              exact ⟨rfl, hJ⟩
  refine j_lv [some (.ref 29), some (.ref (3 + s)), some (.int (nI i)), some (.int (nI q)), some (.int (jMet (fun k => mem (3 + s) (i + k)) 0)), some (.int (nI 0))] ⟨rfl, rfl, rfl, rfl, rfl, rfl, trivial⟩ ?_
  exact lp6 (q + 1) 0 mem (by omega) (by omega) jeq.rf (fun a ha => absurd ha (by omega))
set_option maxRecDepth 4000 in
set_option maxHeartbeats 1000000 in
theorem c_take (np : Nat) (mem : jMem) (s i q : Nat) (hs : s < 8) (hq : q ≤ 6) (hi : i + 2 * q ≤ 60) (hok : jFok (fun k => mem (3 + s) (i + k)) q) : jPi yX2_take cX2_take 8 .boolean 2 [.ref 29, .ref (3 + s), .int (nI i), .int (nI q)] np mem (fun v c => v = 1 ∧ jeq [30, 31] mem c ∧ ∀ j, j < q → c 30 j = (fun k => mem (3 + s) (i + k)) (2 * j) ∧ c 31 j = (fun k => mem (3 + s) (i + k)) (2 * j + 1)) := by
  refine jPi.of (own := RX2) rfl rfl (Nat.le_of_ble_eq_true rfl) (fun G X hR hr hE => ?_)
  refine j_iconst X dX2_take_0 0 (by decide) ?_
  refine j_istore X dX2_take_1 (by decide) ?_
  refine j_iconst X dX2_take_3 0 (by decide) ?_
  refine j_istore X dX2_take_4 (by decide) ?_
  have lp6 : ∀ (n : Nat) (a : Nat) (m2 : jMem), a ≤ q → q + 1 ≤ a + n → jeq [30, 31] mem m2 → (∀ j, j < a → m2 30 j = (fun k => mem (3 + s) (i + k)) (2 * j) ∧ m2 31 j = (fun k => mem (3 + s) (i + k)) (2 * j + 1)) → J G RX2 cX2_take 8 0 0 6 (jlv [some (.ref 29), some (.ref (3 + s)), some (.int (nI i)), some (.int (nI q)), some (.int (jMet (fun k => mem (3 + s) (i + k)) a)), some (.int (nI a))]) [] (jS np) (m2) := by
    intro n
    induction n with
    | zero =>
      intro a m2 ha hn hJ hB
      exact absurd hn (by omega)
    | succ n ih6 =>
      intro a m2 ha hn hJ hB
      refine j_iload X dX2_take_6 rfl ?_
      refine j_iload_n X dX2_take_8 rfl ?_
      refine j_icmp_ge X 102 dX2_take_9 (by decide) (fun c_9 => ?_) (fun c_9 => ?_)
      · obtain rfl : a = q := by clear hE hr hR X hB hok hJ; (try simp only [lg_cmp_lt, lg_cmp_gt, lg_cmp_le, lg_cmp_ge] at *); (try simp (disch := omega) only [Int64.le_iff_toInt_le, Int64.lt_iff_toInt_lt, Int32.le_iff_toInt_le, Int32.lt_iff_toInt_lt, fa_eq, fa_lit, fa_litL, nI_toInt, pk_lT, Int32.toInt_toInt64, jadd64, jin, jnoneT] at *); omega
        refine j_iconst X dX2_take_102 1 (by decide) ?_
        refine s_iret X hE hr dX2_take_103 (by first | exact jb_nar | rfl) ?_
        exact ⟨rfl, hJ, hB⟩
      · have ha2 : a < q := by clear hE hr hR X; clear hB hJ hok; (try simp only [lg_cmp_lt, lg_cmp_gt, lg_cmp_le, lg_cmp_ge] at *); (try simp (disch := omega) only [Int64.le_iff_toInt_le, Int64.lt_iff_toInt_lt, Int32.le_iff_toInt_le, Int32.lt_iff_toInt_lt, fa_eq, fa_lit, fa_litL, nI_toInt, pk_lT, Int32.toInt_toInt64, jadd64, jin, jnoneT] at *); omega
        refine j_aload_n X dX2_take_12 rfl ?_
        refine j_iload_n X dX2_take_13 rfl ?_
        refine j_iconst X dX2_take_14 2 (by decide) ?_
        refine j_iload X dX2_take_15 rfl ?_
        refine j_imul X dX2_take_17 ?_
        refine j_iadd X dX2_take_18 ?_
        refine j_nrm _ (by first | (simp only [fa_lit, pk_mul, nI_add]; done) | (simp only [fa_lit, pk_mul, nI_add]; rfl) | rfl) ?_
        refine j_ialdN X (o2_r np (by omega)) (k2_r np (by omega)) (by rw [l2_r np (by omega)]; omega) (by rw [l2_r np (by omega)]; decide) (mem (3 + s)) (hJ _ (by simp only [List.mem_cons, List.not_mem_nil, or_false]; omega)) dX2_take_19 ?_
        refine j_istore X dX2_take_20 (by decide) ?_
        refine j_aload_n X dX2_take_22 rfl ?_
        refine j_iload_n X dX2_take_23 rfl ?_
        refine j_iconst X dX2_take_24 2 (by decide) ?_
        refine j_iload X dX2_take_25 rfl ?_
        refine j_imul X dX2_take_27 ?_
        refine j_iadd X dX2_take_28 ?_
        refine j_iconst X dX2_take_29 1 (by decide) ?_
        refine j_iadd X dX2_take_30 ?_
        refine j_nrm _ (by first | (simp only [fa_lit, pk_mul, nI_add]; done) | (simp only [fa_lit, pk_mul, nI_add]; rfl) | rfl) ?_
        refine j_ialdN X (o2_r np (by omega)) (k2_r np (by omega)) (by rw [l2_r np (by omega)]; omega) (by rw [l2_r np (by omega)]; decide) (mem (3 + s)) (hJ _ (by simp only [List.mem_cons, List.not_mem_nil, or_false]; omega)) dX2_take_31 ?_
        refine j_istore X dX2_take_32 (by decide) ?_
        refine j_iload X dX2_take_34 rfl ?_
        refine j_iconst X dX2_take_36 1 (by decide) ?_
        refine j_bipush X dX2_take_37 6 (by decide) ?_
        refine s_callNi X hR (c_withinI np _ _ _ _ (1) (6) rfl rfl) rfl u293 (by decide) u292 u1 hyX10_within (by decide) (by decide) (Nat.le_of_ble_eq_true rfl) dX2_take_39 (fun v_39 m_39 h_39 => ?_)
        obtain ⟨e1, e2⟩ := h_39; have e1 := e1.symm; have e2 := e2.symm; subst e1; subst e2
        refine j_ifb_eq X 67 dX2_take_42 (by decide) (fun c_42 => ?_) (fun c_42 => ?_)
        · exfalso
          have hga := hok a ha2
          first | exact c_42 hga.1 | exact c_54 hga.2.1 | exact hga.2.2 c_64
        · refine j_iload X dX2_take_45 rfl ?_
          refine j_iconst X dX2_take_47 0 (by decide) ?_
          refine j_sipush X dX2_take_48 256 (by decide) ?_
          refine s_callNi X hR (c_withinI np _ _ _ _ (0) (256) rfl rfl) rfl u293 (by decide) u292 u1 hyX10_within (by decide) (by decide) (Nat.le_of_ble_eq_true rfl) dX2_take_51 (fun v_51 m_51 h_51 => ?_)
          obtain ⟨e1, e2⟩ := h_51; have e1 := e1.symm; have e2 := e2.symm; subst e1; subst e2
          refine j_ifb_eq X 67 dX2_take_54 (by decide) (fun c_54 => ?_) (fun c_54 => ?_)
          · exfalso
            have hga := hok a ha2
            first | exact c_42 hga.1 | exact c_54 hga.2.1 | exact hga.2.2 c_64
          · refine j_iload X dX2_take_57 rfl ?_
            refine j_iload X dX2_take_59 rfl ?_
            refine s_callNi X hR (c_hasBit np _ _ _) rfl u498 (by decide) u497 u1 hyX10_hasBit (by decide) (by decide) (Nat.le_of_ble_eq_true rfl) dX2_take_61 (fun v_61 m_61 h_61 => ?_)
            obtain ⟨e1, e2⟩ := h_61; have e1 := e1.symm; have e2 := e2.symm; subst e1; subst e2
            refine j_ifb_eq X 69 dX2_take_64 (by decide) (fun c_64 => ?_) (fun c_64 => ?_)
            · refine j_iload X dX2_take_69 rfl ?_
              refine j_iconst X dX2_take_71 1 (by decide) ?_
              refine j_iload X dX2_take_72 rfl ?_
              refine j_ishl X dX2_take_74 ?_
              refine j_ior X dX2_take_75 ?_
              refine j_istore X dX2_take_76 (by decide) ?_
              refine j_aload_n X dX2_take_78 rfl ?_
              refine j_getR X 2 0 (by decide) (by decide) rfl u88 (o29 np) (k29 np) _ (p29_0 np) dX2_take_79 ?_
              refine j_iload X dX2_take_82 rfl ?_
              refine j_iload X dX2_take_84 rfl ?_
              refine j_nrm2 _ (by first | (simp only [fa_lit, pk_mul, nI_add]; done) | (simp only [fa_lit, pk_mul, nI_add]; rfl) | rfl) ?_
              refine j_iastN X (o30 np) (k30 np) (by rw [l30]; omega) (by rw [l30]; decide) dX2_take_86 ?_
              refine j_aload_n X dX2_take_87 rfl ?_
              refine j_getR X 2 1 (by decide) (by decide) rfl u89 (o29 np) (k29 np) _ (p29_1 np) dX2_take_88 ?_
              refine j_iload X dX2_take_91 rfl ?_
              refine j_iload X dX2_take_93 rfl ?_
              refine j_nrm2 _ (by first | (simp only [fa_lit, pk_mul, nI_add]; done) | (simp only [fa_lit, pk_mul, nI_add]; rfl) | rfl) ?_
              refine j_iastN X (o31 np) (k31 np) (by rw [l31]; omega) (by rw [l31]; decide) dX2_take_95 ?_
              refine j_iinc X dX2_take_96 rfl 1 rfl ?_
              refine j_goto X 6 dX2_take_99 (by decide) ?_
              refine j_lv [some (.ref 29), some (.ref (3 + s)), some (.int (nI i)), some (.int (nI q)), some (.int (jMet (fun k => mem (3 + s) (i + k)) (a + 1))), some (.int (nI (a + 1)))] ⟨rfl, rfl, rfl, rfl, rfl, (congrArg (fun z => some (Value.int z)) (nI_1 _)), trivial⟩ ?_
              exact ih6 (a + 1) _ (by omega) (by omega) (by first | assumption | exact jeq.up (jeq.up hJ (by decide)) (by decide)) (fun j hj => by
              rcases Nat.lt_or_ge j a with z | z
              · have hne : ¬ j = a := by omega
                have := hB j z
                simp only [jup, va_up, hne, if_true, if_false, Nat.reduceEqDiff]
                exact this
              · obtain rfl : j = a := by omega
                exact ⟨by simp [jup, va_up], by simp [jup, va_up, Nat.add_assoc]⟩)
            · exfalso
              have hga := hok a ha2
              first | exact c_42 hga.1 | exact c_54 hga.2.1 | exact hga.2.2 c_64
  refine j_lv [some (.ref 29), some (.ref (3 + s)), some (.int (nI i)), some (.int (nI q)), some (.int (jMet (fun k => mem (3 + s) (i + k)) 0)), some (.int (nI 0))] ⟨rfl, rfl, rfl, rfl, rfl, rfl, trivial⟩ ?_
  exact lp6 (q + 1) 0 mem (by omega) (by omega) jeq.rf (fun a ha => absurd ha (by omega))
set_option maxRecDepth 4000 in
set_option maxHeartbeats 1000000 in
theorem c_sumAt (np : Nat) (mem : jMem) (q pl : Nat) (xs ys : Nat → Nat) (hq : q ≤ 6) (hpl : pl ≤ 6) (hx : ∀ a, a < q → mem 30 a = nI (xs a) ∧ xs a ≤ 6) (hy : ∀ a, a < q → mem 31 a = nI (ys a) ∧ ys a ≤ 256) : jPi yX2_sumAt cX2_sumAt 8 .int 2 [.ref 29, .int (nI pl), .int (nI q)] np mem (fun v c => v = nI (jLag xs ys q pl q) ∧ c = mem) := by
  refine jPi.of (own := RX2) rfl rfl (Nat.le_of_ble_eq_true rfl) (fun G X hR hr hE => ?_)
  refine j_iconst X dX2_sumAt_0 0 (by decide) ?_
  refine j_istore_n X dX2_sumAt_1 (by decide) ?_
  refine j_iconst X dX2_sumAt_2 0 (by decide) ?_
  refine j_istore X dX2_sumAt_3 (by decide) ?_
  have lp5 : ∀ (n : Nat) (a : Nat), a ≤ q → q + 1 ≤ a + n → J G RX2 cX2_sumAt 8 0 0 5 (jlv [some (.ref 29), some (.int (nI pl)), some (.int (nI q)), some (.int (nI (jLag xs ys q pl a))), some (.int (nI a))]) [] (jS np) (mem) := by
    intro n
    induction n with
    | zero =>
      intro a ha hn
      exact absurd hn (by omega)
    | succ n ih5 =>
      intro a ha hn
      refine j_iload X dX2_sumAt_5 rfl ?_
      refine j_iload_n X dX2_sumAt_7 rfl ?_
      refine j_icmp_ge X 120 dX2_sumAt_8 (by decide) (fun c_8 => ?_) (fun c_8 => ?_)
      · obtain rfl : a = q := by clear hx hy hE hr hR X; (try simp only [lg_cmp_lt, lg_cmp_gt, lg_cmp_le, lg_cmp_ge] at *); (try simp (disch := omega) only [Int64.le_iff_toInt_le, Int64.lt_iff_toInt_lt, Int32.le_iff_toInt_le, Int32.lt_iff_toInt_lt, fa_eq, fa_lit, fa_litL, nI_toInt, pk_lT, Int32.toInt_toInt64, jadd64, jin, jnoneT] at *); omega
        refine j_iload_n X dX2_sumAt_120 rfl ?_
        refine s_iret X hE hr dX2_sumAt_121 rfl ?_
        first | exact ⟨rfl, rfl⟩ | (exfalso; clear hE hr hR X; (try simp only [lg_cmp_lt, lg_cmp_gt, lg_cmp_le, lg_cmp_ge] at *); (try simp (disch := omega) only [Int64.le_iff_toInt_le, Int64.lt_iff_toInt_lt, Int32.le_iff_toInt_le, Int32.lt_iff_toInt_lt, fa_eq, fa_lit, fa_litL, nI_toInt, pk_lT, Int32.toInt_toInt64, jadd64, jin, jnoneT] at *); omega)
      · have ha2 : a < q := by clear hx hy hE hr hR X; (try simp only [lg_cmp_lt, lg_cmp_gt, lg_cmp_le, lg_cmp_ge] at *); (try simp (disch := omega) only [Int64.le_iff_toInt_le, Int64.lt_iff_toInt_lt, Int32.le_iff_toInt_le, Int32.lt_iff_toInt_lt, fa_eq, fa_lit, fa_litL, nI_toInt, pk_lT, Int32.toInt_toInt64, jadd64, jin, jnoneT] at *); omega
        refine j_aload_n X dX2_sumAt_11 rfl ?_
        refine j_getR X 2 1 (by decide) (by decide) rfl u89 (o29 np) (k29 np) _ (p29_1 np) dX2_sumAt_12 ?_
        refine j_iload X dX2_sumAt_15 rfl ?_
        refine j_nrm _ (by first | (simp only [fa_lit, pk_mul, nI_add]; done) | (simp only [fa_lit, pk_mul, nI_add]; rfl) | rfl) ?_
        refine j_ialdN X (o31 np) (k31 np) (by rw [l31]; omega) (by rw [l31]; decide) (mem 31) rfl dX2_sumAt_17 ?_
        refine j_nrm (nI (ys a)) (hy a ha2).1 ?_
        refine j_istore X dX2_sumAt_18 (by decide) ?_
        refine j_iconst X dX2_sumAt_20 1 (by decide) ?_
        refine j_istore X dX2_sumAt_21 (by decide) ?_
        refine j_iconst X dX2_sumAt_23 0 (by decide) ?_
        refine j_istore X dX2_sumAt_24 (by decide) ?_
        have lp26 : ∀ (n : Nat) (b : Nat), b ≤ q → q + 1 ≤ b + n → J G RX2 cX2_sumAt 8 0 0 26 (jlv [some (.ref 29), some (.int (nI pl)), some (.int (nI q)), some (.int (nI (jLag xs ys q pl a))), some (.int (nI a)), some (.int (nI (jNum xs pl a (ys a) b))), some (.int (nI (jDen xs a b))), some (.int (nI b))]) [] (jS np) (mem) := by
          intro n
          induction n with
          | zero =>
            intro b hb hnb
            exact absurd hnb (by omega)
          | succ n ih26 =>
            intro b hb hnb
            refine j_iload X dX2_sumAt_26 rfl ?_
            refine j_iload_n X dX2_sumAt_28 rfl ?_
            refine j_icmp_ge X 99 dX2_sumAt_29 (by decide) (fun c_29 => ?_) (fun c_29 => ?_)
            · obtain rfl : b = q := by clear hx hy hE hr hR X; (try simp only [lg_cmp_lt, lg_cmp_gt, lg_cmp_le, lg_cmp_ge] at *); (try simp (disch := omega) only [Int64.le_iff_toInt_le, Int64.lt_iff_toInt_lt, Int32.le_iff_toInt_le, Int32.lt_iff_toInt_lt, fa_eq, fa_lit, fa_litL, nI_toInt, pk_lT, Int32.toInt_toInt64, jadd64, jin, jnoneT] at *); omega
              have hnl := jNum_le (xs := xs) (pl := pl) (i := a) (hy a ha2).2 b
              have hdl := jDen_le (xs := xs) (i := a) b
              have hm2 : jDen xs a b ^ 255 % 257 < 257 := Nat.mod_lt _ (by omega)
              have hlg := jLag_le (xs := xs) (ys := ys) (n := b) (pl := pl) a
              have hpr : jNum xs pl a (ys a) b * (jDen xs a b ^ 255 % 257) ≤ 256 * 256 := Nat.mul_le_mul hnl (by omega)
              refine j_iload_n X dX2_sumAt_99 rfl ?_
              refine j_iload X dX2_sumAt_100 rfl ?_
              refine j_iload X dX2_sumAt_102 rfl ?_
              refine s_callSi X hR (c_inverse np _ _ hdl) rfl u600 u598 u599 u5 hyX2_inverse (by decide) (by decide) (Nat.le_of_ble_eq_true rfl) dX2_sumAt_104 (fun v_104 m_104 h_104 => ?_)
              obtain ⟨e1, e2⟩ := h_104; have e1 := e1.symm; have e2 := e2.symm; subst e1; subst e2
              refine j_imul X dX2_sumAt_107 ?_
              refine j_nrm (nI (jNum xs pl a (ys a) b * (jDen xs a b ^ 255 % 257))) (pk_mul _ _) ?_
              refine j_iadd X dX2_sumAt_108 ?_
              refine j_sipush X dX2_sumAt_109 257 (by decide) ?_
              refine j_irem X dX2_sumAt_112 (by decide) ?_
              refine j_nrm (nI ((jLag xs ys b pl a + jNum xs pl a (ys a) b * (jDen xs a b ^ 255 % 257)) % 257)) (jam hlg (by omega)) ?_
              refine j_istore_n X dX2_sumAt_113 (by decide) ?_
              refine j_iinc X dX2_sumAt_114 rfl 1 rfl ?_
              refine j_goto X 5 dX2_sumAt_117 (by decide) ?_
              refine j_lv [some (.ref 29), some (.int (nI pl)), some (.int (nI b)), some (.int (nI (jLag xs ys b pl (a + 1)))), some (.int (nI (a + 1)))] ⟨rfl, rfl, rfl, (congrArg (fun z => some (Value.int z)) (congrArg nI (by show _ = (jLag xs ys b pl a + jLv xs pl a (ys a) b) % 257; rw [jLv_e (hy a ha2).2, Nat.add_mod_mod]))), (congrArg (fun z => some (Value.int z)) (nI_1 _)), trivial⟩ ?_
              exact ih5 (a + 1) (by omega) (by omega)
            · have hb2 : b < q := by clear hx hy hE hr hR X; (try simp only [lg_cmp_lt, lg_cmp_gt, lg_cmp_le, lg_cmp_ge] at *); (try simp (disch := omega) only [Int64.le_iff_toInt_le, Int64.lt_iff_toInt_lt, Int32.le_iff_toInt_le, Int32.lt_iff_toInt_lt, fa_eq, fa_lit, fa_litL, nI_toInt, pk_lT, Int32.toInt_toInt64, jadd64, jin, jnoneT] at *); omega
              refine j_iload X dX2_sumAt_32 rfl ?_
              refine j_iload X dX2_sumAt_34 rfl ?_
              refine j_icmp_eq X 93 dX2_sumAt_36 (by decide) (fun c_36 => ?_) (fun c_36 => ?_)
              · refine j_iinc X dX2_sumAt_93 rfl 1 rfl ?_
                refine j_goto X 26 dX2_sumAt_96 (by decide) ?_
                refine j_lv [some (.ref 29), some (.int (nI pl)), some (.int (nI q)), some (.int (nI (jLag xs ys q pl a))), some (.int (nI a)), some (.int (nI (jNum xs pl a (ys a) (b + 1)))), some (.int (nI (jDen xs a (b + 1)))), some (.int (nI (b + 1)))] ⟨rfl, rfl, rfl, rfl, rfl, (congrArg (fun z => some (Value.int z)) (congrArg nI (by first | exact (show jNum xs pl a (ys a) (b + 1) = _ from if_neg hab).symm | exact (show jNum xs pl a (ys a) (b + 1) = _ from if_pos ((nI_eq (by omega) (by omega)).mp c_36)).symm))), (congrArg (fun z => some (Value.int z)) (congrArg nI (by first | exact (show jDen xs a (b + 1) = _ from if_neg hab).symm | exact (show jDen xs a (b + 1) = _ from if_pos ((nI_eq (by omega) (by omega)).mp c_36)).symm))), (congrArg (fun z => some (Value.int z)) (nI_1 _)), trivial⟩ ?_
                exact ih26 (b + 1) (by omega) (by omega)
              · have hab : ¬ b = a := fun z => c_36 (congrArg nI z)
                have hxa := hx a ha2
                have hxb := hx b hb2
                have hnl := jNum_le (xs := xs) (pl := pl) (i := a) (hy a ha2).2 b
                have hdl := jDen_le (xs := xs) (i := a) b
                have hbp := jBw_le pl (xs b)
                have hba := jBw_le (xs a) (xs b)
                refine j_iload X dX2_sumAt_39 rfl ?_
                refine j_iload_n X dX2_sumAt_41 rfl ?_
                refine j_aload_n X dX2_sumAt_42 rfl ?_
                refine j_getR X 2 0 (by decide) (by decide) rfl u88 (o29 np) (k29 np) _ (p29_0 np) dX2_sumAt_43 ?_
                refine j_iload X dX2_sumAt_46 rfl ?_
                refine j_nrm _ (by first | (simp only [fa_lit, pk_mul, nI_add]; done) | (simp only [fa_lit, pk_mul, nI_add]; rfl) | rfl) ?_
                refine j_ialdN X (o30 np) (k30 np) (by rw [l30]; omega) (by rw [l30]; decide) (mem 30) rfl dX2_sumAt_48 ?_
                refine j_nrm (nI (xs b)) hxb.1 ?_
                refine j_isub X dX2_sumAt_49 ?_
                refine j_sipush X dX2_sumAt_50 257 (by decide) ?_
                refine s_callSi X hR (c_floorMod np _ pl (xs b) hpl hxb.2) rfl u597 u595 u596 u15 hyJ9_floorMod_7cf53 (by decide) (by decide) (Nat.le_of_ble_eq_true rfl) dX2_sumAt_53 (fun v_53 m_53 h_53 => ?_)
                obtain ⟨e1, e2⟩ := h_53; have e1 := e1.symm; have e2 := e2.symm; subst e1; subst e2
                refine j_imul X dX2_sumAt_56 ?_
                refine j_sipush X dX2_sumAt_57 257 (by decide) ?_
                refine j_irem X dX2_sumAt_60 (by decide) ?_
                refine j_nrm (nI (jNum xs pl a (ys a) b * jBw pl (xs b) % 257)) (jmm hnl hbp) ?_
                refine j_istore X dX2_sumAt_61 (by decide) ?_
                refine j_iload X dX2_sumAt_63 rfl ?_
                refine j_aload_n X dX2_sumAt_65 rfl ?_
                refine j_getR X 2 0 (by decide) (by decide) rfl u88 (o29 np) (k29 np) _ (p29_0 np) dX2_sumAt_66 ?_
                refine j_iload X dX2_sumAt_69 rfl ?_
                refine j_nrm _ (by first | (simp only [fa_lit, pk_mul, nI_add]; done) | (simp only [fa_lit, pk_mul, nI_add]; rfl) | rfl) ?_
                refine j_ialdN X (o30 np) (k30 np) (by rw [l30]; omega) (by rw [l30]; decide) (mem 30) rfl dX2_sumAt_71 ?_
                refine j_nrm (nI (xs a)) hxa.1 ?_
                refine j_aload_n X dX2_sumAt_72 rfl ?_
                refine j_getR X 2 0 (by decide) (by decide) rfl u88 (o29 np) (k29 np) _ (p29_0 np) dX2_sumAt_73 ?_
                refine j_iload X dX2_sumAt_76 rfl ?_
                refine j_nrm _ (by first | (simp only [fa_lit, pk_mul, nI_add]; done) | (simp only [fa_lit, pk_mul, nI_add]; rfl) | rfl) ?_
                refine j_ialdN X (o30 np) (k30 np) (by rw [l30]; omega) (by rw [l30]; decide) (mem 30) rfl dX2_sumAt_78 ?_
                refine j_nrm (nI (xs b)) hxb.1 ?_
                refine j_isub X dX2_sumAt_79 ?_
                refine j_sipush X dX2_sumAt_80 257 (by decide) ?_
                refine s_callSi X hR (c_floorMod np _ (xs a) (xs b) hxa.2 hxb.2) rfl u597 u595 u596 u15 hyJ9_floorMod_7cf53 (by decide) (by decide) (Nat.le_of_ble_eq_true rfl) dX2_sumAt_83 (fun v_83 m_83 h_83 => ?_)
                obtain ⟨e1, e2⟩ := h_83; have e1 := e1.symm; have e2 := e2.symm; subst e1; subst e2
                refine j_imul X dX2_sumAt_86 ?_
                refine j_sipush X dX2_sumAt_87 257 (by decide) ?_
                refine j_irem X dX2_sumAt_90 (by decide) ?_
                refine j_nrm (nI (jDen xs a b * jBw (xs a) (xs b) % 257)) (jmm hdl hba) ?_
                refine j_istore X dX2_sumAt_91 (by decide) ?_
                refine j_iinc X dX2_sumAt_93 rfl 1 rfl ?_
                refine j_goto X 26 dX2_sumAt_96 (by decide) ?_
                refine j_lv [some (.ref 29), some (.int (nI pl)), some (.int (nI q)), some (.int (nI (jLag xs ys q pl a))), some (.int (nI a)), some (.int (nI (jNum xs pl a (ys a) (b + 1)))), some (.int (nI (jDen xs a (b + 1)))), some (.int (nI (b + 1)))] ⟨rfl, rfl, rfl, rfl, rfl, (congrArg (fun z => some (Value.int z)) (congrArg nI (by first | exact (show jNum xs pl a (ys a) (b + 1) = _ from if_neg hab).symm | exact (show jNum xs pl a (ys a) (b + 1) = _ from if_pos ((nI_eq (by omega) (by omega)).mp c_36)).symm))), (congrArg (fun z => some (Value.int z)) (congrArg nI (by first | exact (show jDen xs a (b + 1) = _ from if_neg hab).symm | exact (show jDen xs a (b + 1) = _ from if_pos ((nI_eq (by omega) (by omega)).mp c_36)).symm))), (congrArg (fun z => some (Value.int z)) (nI_1 _)), trivial⟩ ?_
                exact ih26 (b + 1) (by omega) (by omega)
        refine j_lv [some (.ref 29), some (.int (nI pl)), some (.int (nI q)), some (.int (nI (jLag xs ys q pl a))), some (.int (nI a)), some (.int (nI (jNum xs pl a (ys a) 0))), some (.int (nI (jDen xs a 0))), some (.int (nI 0))] ⟨rfl, rfl, rfl, rfl, rfl, rfl, rfl, rfl, trivial⟩ ?_
        exact lp26 (q + 1) 0 (by omega) (by omega)
  refine j_lv [some (.ref 29), some (.int (nI pl)), some (.int (nI q)), some (.int (nI (jLag xs ys q pl 0))), some (.int (nI 0))] ⟨rfl, rfl, rfl, rfl, rfl, trivial⟩ ?_
  exact lp5 (q + 1) 0 (by omega) (by omega)
set_option maxRecDepth 4000 in
set_option maxHeartbeats 1000000 in
theorem c_possible_few (np : Nat) (mem : jMem) (q k : Nat) (hq : q ≤ 6) (hk : k ≤ 4) (h : q < k) : jPi yX2_possible cX2_possible 4 .int 3 [.ref 29, .int (nI q), .int (nI k)] np mem (fun v c => v = 257 ∧ c = mem) := by
  refine jPi.of (own := RX2) rfl rfl (Nat.le_of_ble_eq_true rfl) (fun G X hR hr hE => ?_)
  refine j_iload_n X dX2_possible_0 rfl ?_
  refine j_iload_n X dX2_possible_1 rfl ?_
  refine j_icmp_ge X 9 dX2_possible_2 (by decide) (fun c_2 => ?_) (fun c_2 => ?_)
  · exfalso
    clear hE hr hR X
    (try simp only [lg_cmp_lt, lg_cmp_gt, lg_cmp_le, lg_cmp_ge] at *); (try simp (disch := omega) only [Int64.le_iff_toInt_le, Int64.lt_iff_toInt_lt, Int32.le_iff_toInt_le, Int32.lt_iff_toInt_lt, fa_eq, fa_lit, fa_litL, nI_toInt, pk_lT, Int32.toInt_toInt64, jadd64, jin, jnoneT] at *); omega
  · refine j_sipush X dX2_possible_5 257 (by decide) ?_
    refine s_iret X hE hr dX2_possible_8 rfl ?_
    exact ⟨rfl, rfl⟩
set_option maxRecDepth 4000 in
set_option maxHeartbeats 1000000 in
theorem c_possible (np : Nat) (mem : jMem) (q k : Nat) (xs ys : Nat → Nat) (hq : q ≤ 6) (hk : k ≤ 4) (hkq : k ≤ q) (hx : ∀ a, a < q → mem 30 a = nI (xs a) ∧ xs a ≤ 6) (hy : ∀ a, a < q → mem 31 a = nI (ys a) ∧ ys a ≤ 256) : jPi yX2_possible cX2_possible 4 .int 3 [.ref 29, .int (nI q), .int (nI k)] np mem (fun v c => v = jb (jPos xs ys k q = true) ∧ c = mem) := by
  refine jPi.of (own := RX2) rfl rfl (Nat.le_of_ble_eq_true rfl) (fun G X hR hr hE => ?_)
  refine j_iload_n X dX2_possible_0 rfl ?_
  refine j_iload_n X dX2_possible_1 rfl ?_
  refine j_icmp_ge X 9 dX2_possible_2 (by decide) (fun c_2 => ?_) (fun c_2 => ?_)
  · refine j_iload_n X dX2_possible_9 rfl ?_
    refine j_istore_n X dX2_possible_10 (by decide) ?_
    have lp11 : ∀ (n : Nat) (b : Nat), k + b ≤ q → q + 1 ≤ k + b + n → jAll true (fun a => decide (jLag xs ys k (xs (k + a)) k = ys (k + a))) b = true → J G RX2 cX2_possible 4 0 0 11 (jlv [some (.ref 29), some (.int (nI q)), some (.int (nI k)), some (.int (nI (k + b)))]) [] (jS np) (mem) := by
      intro n
      induction n with
      | zero =>
        intro b hb hnb hA
        exact absurd hnb (by omega)
      | succ n ih11 =>
        intro b hb hnb hA
        refine j_iload_n X dX2_possible_11 rfl ?_
        refine j_iload_n X dX2_possible_12 rfl ?_
        refine j_icmp_ge X 44 dX2_possible_13 (by decide) (fun c_13 => ?_) (fun c_13 => ?_)
        · obtain rfl : q = k + b := by clear hx hy hA hE hr hR X; (try simp only [lg_cmp_lt, lg_cmp_gt, lg_cmp_le, lg_cmp_ge] at *); (try simp (disch := omega) only [Int64.le_iff_toInt_le, Int64.lt_iff_toInt_lt, Int32.le_iff_toInt_le, Int32.lt_iff_toInt_lt, fa_eq, fa_lit, fa_litL, nI_toInt, pk_lT, Int32.toInt_toInt64, jadd64, jin, jnoneT] at *); omega
          refine j_iconst X dX2_possible_44 1 (by decide) ?_
          refine s_iret X hE hr dX2_possible_45 rfl ?_
          refine ⟨?_, rfl⟩
          unfold jPos
          rw [Nat.add_sub_cancel_left]
          exact (jb_t hA).symm
        · have hb2 : k + b < q := by clear hx hy hA hE hr hR X; (try simp only [lg_cmp_lt, lg_cmp_gt, lg_cmp_le, lg_cmp_ge] at *); (try simp (disch := omega) only [Int64.le_iff_toInt_le, Int64.lt_iff_toInt_lt, Int32.le_iff_toInt_le, Int32.lt_iff_toInt_lt, fa_eq, fa_lit, fa_litL, nI_toInt, pk_lT, Int32.toInt_toInt64, jadd64, jin, jnoneT] at *); omega
          have hxb := hx _ hb2
          have hyb := hy _ hb2
          have hlg := jLag_le (xs := xs) (ys := ys) (n := k) (pl := xs (k + b)) k
          refine j_aload_n X dX2_possible_16 rfl ?_
          refine j_aload_n X dX2_possible_17 rfl ?_
          refine j_getR X 2 0 (by decide) (by decide) rfl u88 (o29 np) (k29 np) _ (p29_0 np) dX2_possible_18 ?_
          refine j_iload_n X dX2_possible_21 rfl ?_
          refine j_nrm _ (by first | (simp only [fa_lit, pk_mul, nI_add]; done) | (simp only [fa_lit, pk_mul, nI_add]; rfl) | rfl) ?_
          refine j_ialdN X (o30 np) (k30 np) (by rw [l30]; omega) (by rw [l30]; decide) (mem 30) rfl dX2_possible_22 ?_
          refine j_nrm (nI (xs (k + b))) hxb.1 ?_
          refine j_iload_n X dX2_possible_23 rfl ?_
          refine s_callVi X hR (c_sumAt np _ k (xs (k + b)) xs ys (by omega) (by omega) (fun a ha => hx a (by omega)) (fun a ha => hy a (by omega))) rfl 2 (by decide) (o29 np) (k29 np) rfl u594 u605 u592 u593 u5 hyX2_sumAt (by decide) (by decide) (Nat.le_of_ble_eq_true rfl) dX2_possible_24 (fun v_24 m_24 h_24 => ?_)
          obtain ⟨e1, e2⟩ := h_24; have e1 := e1.symm; have e2 := e2.symm; subst e1; subst e2
          refine j_aload_n X dX2_possible_27 rfl ?_
          refine j_getR X 2 1 (by decide) (by decide) rfl u89 (o29 np) (k29 np) _ (p29_1 np) dX2_possible_28 ?_
          refine j_iload_n X dX2_possible_31 rfl ?_
          refine j_nrm _ (by first | (simp only [fa_lit, pk_mul, nI_add]; done) | (simp only [fa_lit, pk_mul, nI_add]; rfl) | rfl) ?_
          refine j_ialdN X (o31 np) (k31 np) (by rw [l31]; omega) (by rw [l31]; decide) (mem 31) rfl dX2_possible_32 ?_
          refine j_nrm (nI (ys (k + b))) hyb.1 ?_
          refine j_icmp_eq X 38 dX2_possible_33 (by decide) (fun c_33 => ?_) (fun c_33 => ?_)
          · refine j_iinc X dX2_possible_38 rfl 1 rfl ?_
            refine j_goto X 11 dX2_possible_41 (by decide) ?_
            refine j_lv [some (.ref 29), some (.int (nI q)), some (.int (nI k)), some (.int (nI (k + (b + 1))))] ⟨rfl, rfl, rfl, (congrArg (fun z => some (Value.int z)) (nI_1 _)), trivial⟩ ?_
            exact ih11 (b + 1) (by omega) (by omega) (jAll_s.mpr ⟨hA, decide_eq_true ((nI_eq (by omega) (by omega)).mp c_33)⟩)
          · refine j_iconst X dX2_possible_36 0 (by decide) ?_
            refine s_iret X hE hr dX2_possible_37 rfl ?_
            refine ⟨?_, rfl⟩
            unfold jPos
            exact (jb_f (fun z => c_33 (congrArg nI (of_decide_eq_true (jAll_s.mp (jAll_le (k := b + 1) (by omega) z)).2)))).symm
    refine j_lv [some (.ref 29), some (.int (nI q)), some (.int (nI k)), some (.int (nI (k + 0)))] ⟨rfl, rfl, rfl, rfl, trivial⟩ ?_
    exact lp11 (q + 1) 0 (by omega) (by omega) rfl
  · exfalso
    clear hx hy hE hr hR X
    (try simp only [lg_cmp_lt, lg_cmp_gt, lg_cmp_le, lg_cmp_ge] at *); (try simp (disch := omega) only [Int64.le_iff_toInt_le, Int64.lt_iff_toInt_lt, Int32.le_iff_toInt_le, Int32.lt_iff_toInt_lt, fa_eq, fa_lit, fa_litL, nI_toInt, pk_lT, Int32.toInt_toInt64, jadd64, jin, jnoneT] at *); omega
set_option maxRecDepth 4000 in
set_option maxHeartbeats 1000000 in
theorem c_friends_bad (np : Nat) (mem : jMem) (s i q k : Int32) (h : ¬ (jin s 0 7 ∧ jin q 1 6 ∧ jin k 0 4)) : jPi yX10_friends cX10_friends 6 .int 4 [.ref 0, .int s, .int i, .int q, .int k] np mem (fun v c => v = -1000001 ∧ c = mem) := by
  refine jPi.of (own := RX10) rfl rfl (Nat.le_of_ble_eq_true rfl) (fun G X hR hr hE => ?_)
  refine j_iload_n X dX10_friends_0 rfl ?_
  refine s_callSi X hR (c_isNumber np _ _) rfl u290 u288 u289 u2 hyX7_isNumber (by decide) (by decide) (Nat.le_of_ble_eq_true rfl) dX10_friends_1 (fun v_1 m_1 h_1 => ?_)
  obtain ⟨e1, e2⟩ := h_1; have e1 := e1.symm; have e2 := e2.symm; subst e1; subst e2
  refine j_ifb_eq X 27 dX10_friends_4 (by decide) (fun c_4 => ?_) (fun c_4 => ?_)
  · refine j_ldc X dX10_friends_27 u295 ?_
    refine s_iret X hE hr dX10_friends_29 rfl ?_
    first | exact ⟨rfl, rfl⟩ | (exfalso; clear hE hr hR X; (try simp only [lg_cmp_lt, lg_cmp_gt, lg_cmp_le, lg_cmp_ge] at *); (try simp (disch := omega) only [Int64.le_iff_toInt_le, Int64.lt_iff_toInt_lt, Int32.le_iff_toInt_le, Int32.lt_iff_toInt_lt, fa_eq, fa_lit, fa_litL, nI_toInt, pk_lT, Int32.toInt_toInt64, jadd64, jin, jnoneT] at *); omega)
  · refine j_iload_n X dX10_friends_7 rfl ?_
    refine j_iconst X dX10_friends_8 1 (by decide) ?_
    refine j_bipush X dX10_friends_9 6 (by decide) ?_
    refine s_callSi X hR (c_withinI np _ _ _ _ (1) (6) rfl rfl) rfl u293 u294 u292 u1 hyX10_within (by decide) (by decide) (Nat.le_of_ble_eq_true rfl) dX10_friends_11 (fun v_11 m_11 h_11 => ?_)
    obtain ⟨e1, e2⟩ := h_11; have e1 := e1.symm; have e2 := e2.symm; subst e1; subst e2
    refine j_ifb_eq X 27 dX10_friends_14 (by decide) (fun c_14 => ?_) (fun c_14 => ?_)
    · refine j_ldc X dX10_friends_27 u295 ?_
      refine s_iret X hE hr dX10_friends_29 rfl ?_
      first | exact ⟨rfl, rfl⟩ | (exfalso; clear hE hr hR X; (try simp only [lg_cmp_lt, lg_cmp_gt, lg_cmp_le, lg_cmp_ge] at *); (try simp (disch := omega) only [Int64.le_iff_toInt_le, Int64.lt_iff_toInt_lt, Int32.le_iff_toInt_le, Int32.lt_iff_toInt_lt, fa_eq, fa_lit, fa_litL, nI_toInt, pk_lT, Int32.toInt_toInt64, jadd64, jin, jnoneT] at *); omega)
    · refine j_iload X dX10_friends_17 rfl ?_
      refine j_iconst X dX10_friends_19 0 (by decide) ?_
      refine j_iconst X dX10_friends_20 4 (by decide) ?_
      refine s_callSi X hR (c_withinI np _ _ _ _ (0) (4) rfl rfl) rfl u293 u294 u292 u1 hyX10_within (by decide) (by decide) (Nat.le_of_ble_eq_true rfl) dX10_friends_21 (fun v_21 m_21 h_21 => ?_)
      obtain ⟨e1, e2⟩ := h_21; have e1 := e1.symm; have e2 := e2.symm; subst e1; subst e2
      refine j_ifb_ne X 30 dX10_friends_24 (by decide) (fun c_24 => ?_) (fun c_24 => ?_)
      · exfalso
        clear hE hr hR X
        (try simp only [lg_cmp_lt, lg_cmp_gt, lg_cmp_le, lg_cmp_ge] at *); (try simp (disch := omega) only [Int64.le_iff_toInt_le, Int64.lt_iff_toInt_lt, Int32.le_iff_toInt_le, Int32.lt_iff_toInt_lt, fa_eq, fa_lit, fa_litL, nI_toInt, pk_lT, Int32.toInt_toInt64, jadd64, jin, jnoneT] at *); omega
      · refine j_ldc X dX10_friends_27 u295 ?_
        refine s_iret X hE hr dX10_friends_29 rfl ?_
        first | exact ⟨rfl, rfl⟩ | (exfalso; clear hE hr hR X; (try simp only [lg_cmp_lt, lg_cmp_gt, lg_cmp_le, lg_cmp_ge] at *); (try simp (disch := omega) only [Int64.le_iff_toInt_le, Int64.lt_iff_toInt_lt, Int32.le_iff_toInt_le, Int32.lt_iff_toInt_lt, fa_eq, fa_lit, fa_litL, nI_toInt, pk_lT, Int32.toInt_toInt64, jadd64, jin, jnoneT] at *); omega)
set_option maxRecDepth 4000 in
set_option maxHeartbeats 1000000 in
theorem c_friends_null (np : Nat) (mem : jMem) (s q k : Nat) (i : Int32) (hs : s < 8) (hq1 : 1 ≤ q) (hq : q ≤ 6) (hk : k ≤ 4) (hm : mem 12 s = -1) : jPi yX10_friends cX10_friends 6 .int 4 [.ref 0, .int (nI s), .int i, .int (nI q), .int (nI k)] np mem (fun v c => v = -1000010 - 1 ∧ c = jup mem 0 14 1) := by
  refine jPi.of (own := RX10) rfl rfl (Nat.le_of_ble_eq_true rfl) (fun G X hR hr hE => ?_)
  refine j_iload_n X dX10_friends_0 rfl ?_
  refine s_callSi X hR (c_isNumber np _ _) rfl u290 u288 u289 u2 hyX7_isNumber (by decide) (by decide) (Nat.le_of_ble_eq_true rfl) dX10_friends_1 (fun v_1 m_1 h_1 => ?_)
  obtain ⟨e1, e2⟩ := h_1; have e1 := e1.symm; have e2 := e2.symm; subst e1; subst e2
  refine j_ifb_eq X 27 dX10_friends_4 (by decide) (fun c_4 => ?_) (fun c_4 => ?_)
  · exfalso
    clear hE hr hR X
    (try simp only [lg_cmp_lt, lg_cmp_gt, lg_cmp_le, lg_cmp_ge] at *); (try simp (disch := omega) only [Int64.le_iff_toInt_le, Int64.lt_iff_toInt_lt, Int32.le_iff_toInt_le, Int32.lt_iff_toInt_lt, fa_eq, fa_lit, fa_litL, nI_toInt, pk_lT, Int32.toInt_toInt64, jadd64, jin, jnoneT] at *); omega
  · refine j_iload_n X dX10_friends_7 rfl ?_
    refine j_iconst X dX10_friends_8 1 (by decide) ?_
    refine j_bipush X dX10_friends_9 6 (by decide) ?_
    refine s_callSi X hR (c_withinI np _ _ _ _ (1) (6) rfl rfl) rfl u293 u294 u292 u1 hyX10_within (by decide) (by decide) (Nat.le_of_ble_eq_true rfl) dX10_friends_11 (fun v_11 m_11 h_11 => ?_)
    obtain ⟨e1, e2⟩ := h_11; have e1 := e1.symm; have e2 := e2.symm; subst e1; subst e2
    refine j_ifb_eq X 27 dX10_friends_14 (by decide) (fun c_14 => ?_) (fun c_14 => ?_)
    · exfalso
      clear hE hr hR X
      (try simp only [lg_cmp_lt, lg_cmp_gt, lg_cmp_le, lg_cmp_ge] at *); (try simp (disch := omega) only [Int64.le_iff_toInt_le, Int64.lt_iff_toInt_lt, Int32.le_iff_toInt_le, Int32.lt_iff_toInt_lt, fa_eq, fa_lit, fa_litL, nI_toInt, pk_lT, Int32.toInt_toInt64, jadd64, jin, jnoneT] at *); omega
    · refine j_iload X dX10_friends_17 rfl ?_
      refine j_iconst X dX10_friends_19 0 (by decide) ?_
      refine j_iconst X dX10_friends_20 4 (by decide) ?_
      refine s_callSi X hR (c_withinI np _ _ _ _ (0) (4) rfl rfl) rfl u293 u294 u292 u1 hyX10_within (by decide) (by decide) (Nat.le_of_ble_eq_true rfl) dX10_friends_21 (fun v_21 m_21 h_21 => ?_)
      obtain ⟨e1, e2⟩ := h_21; have e1 := e1.symm; have e2 := e2.symm; subst e1; subst e2
      refine j_ifb_ne X 30 dX10_friends_24 (by decide) (fun c_24 => ?_) (fun c_24 => ?_)
      · refine j_aload_n X dX10_friends_30 rfl ?_
        refine j_getR X 10 0 (by decide) (by decide) rfl u238 (o0 np) (k0 np) _ (p0_0 np) dX10_friends_31 ?_
        refine j_iload_n X dX10_friends_34 rfl ?_
        refine j_iload_n X dX10_friends_35 rfl ?_
        refine j_iconst X dX10_friends_36 2 (by decide) ?_
        refine j_iload_n X dX10_friends_37 rfl ?_
        refine j_imul X dX10_friends_38 ?_
        refine j_nrm (nI (2 * q)) (by simp only [fa_lit, pk_mul]) ?_
        refine s_callVi X hR (c_trouble_null np _ s i _ hs hm) rfl 7 (by decide) (o1 np) (k1 np) rfl u316 u313 u314 u315 u2 hyX7_troubleAt (by decide) (by decide) (Nat.le_of_ble_eq_true rfl) dX10_friends_39 (fun v_39 m_39 h_39 => ?_)
        obtain ⟨e1, e2⟩ := h_39; have e1 := e1.symm; have e2 := e2.symm; subst e1; subst e2
        refine j_istore X dX10_friends_42 (by decide) ?_
        refine j_iload X dX10_friends_44 rfl ?_
        refine j_if_eq X 56 dX10_friends_46 (by decide) (fun c_46 => absurd c_46 (by decide)) (fun c_46 => ?_)
        refine j_aload_n X dX10_friends_49 rfl ?_
        refine j_iload X dX10_friends_50 rfl ?_
        refine s_callVi X hR (c_finding np _ _) rfl 10 (by decide) (o0 np) (k0 np) rfl u299 u296 u298 qp0 u1 hyX10_finding (by decide) (by decide) (Nat.le_of_ble_eq_true rfl) dX10_friends_52 (fun v_52 m_52 h_52 => ?_)
        obtain ⟨e1, e2⟩ := h_52; have e1 := e1.symm; have e2 := e2.symm; subst e1; subst e2
        refine s_iret X hE hr dX10_friends_55 rfl ?_
        first | exact ⟨rfl, rfl⟩ | (exfalso; clear hE hr hR X; (try simp only [lg_cmp_lt, lg_cmp_gt, lg_cmp_le, lg_cmp_ge] at *); (try simp (disch := omega) only [Int64.le_iff_toInt_le, Int64.lt_iff_toInt_lt, Int32.le_iff_toInt_le, Int32.lt_iff_toInt_lt, fa_eq, fa_lit, fa_litL, nI_toInt, pk_lT, Int32.toInt_toInt64, jadd64, jin, jnoneT] at *); omega)
      · exfalso
        clear hE hr hR X
        (try simp only [lg_cmp_lt, lg_cmp_gt, lg_cmp_le, lg_cmp_ge] at *); (try simp (disch := omega) only [Int64.le_iff_toInt_le, Int64.lt_iff_toInt_lt, Int32.le_iff_toInt_le, Int32.lt_iff_toInt_lt, fa_eq, fa_lit, fa_litL, nI_toInt, pk_lT, Int32.toInt_toInt64, jadd64, jin, jnoneT] at *); omega
set_option maxRecDepth 4000 in
set_option maxHeartbeats 1000000 in
theorem c_friends_place (np : Nat) (mem : jMem) (s q k z : Nat) (i : Int32) (hs : s < 8) (hq1 : 1 ≤ q) (hq : q ≤ 6) (hk : k ≤ 4) (hz : z ≤ 60) (hm : mem 12 s = nI z) (hi : ¬ (0 ≤ i.toInt ∧ i.toInt + (nI (2 * q)).toInt ≤ z)) : jPi yX10_friends cX10_friends 6 .int 4 [.ref 0, .int (nI s), .int i, .int (nI q), .int (nI k)] np mem (fun v c => v = -1000010 - 2 ∧ c = jup mem 0 14 2) := by
  refine jPi.of (own := RX10) rfl rfl (Nat.le_of_ble_eq_true rfl) (fun G X hR hr hE => ?_)
  refine j_iload_n X dX10_friends_0 rfl ?_
  refine s_callSi X hR (c_isNumber np _ _) rfl u290 u288 u289 u2 hyX7_isNumber (by decide) (by decide) (Nat.le_of_ble_eq_true rfl) dX10_friends_1 (fun v_1 m_1 h_1 => ?_)
  obtain ⟨e1, e2⟩ := h_1; have e1 := e1.symm; have e2 := e2.symm; subst e1; subst e2
  refine j_ifb_eq X 27 dX10_friends_4 (by decide) (fun c_4 => ?_) (fun c_4 => ?_)
  · exfalso
    clear hE hr hR X
    (try simp only [lg_cmp_lt, lg_cmp_gt, lg_cmp_le, lg_cmp_ge] at *); (try simp (disch := omega) only [Int64.le_iff_toInt_le, Int64.lt_iff_toInt_lt, Int32.le_iff_toInt_le, Int32.lt_iff_toInt_lt, fa_eq, fa_lit, fa_litL, nI_toInt, pk_lT, Int32.toInt_toInt64, jadd64, jin, jnoneT] at *); omega
  · refine j_iload_n X dX10_friends_7 rfl ?_
    refine j_iconst X dX10_friends_8 1 (by decide) ?_
    refine j_bipush X dX10_friends_9 6 (by decide) ?_
    refine s_callSi X hR (c_withinI np _ _ _ _ (1) (6) rfl rfl) rfl u293 u294 u292 u1 hyX10_within (by decide) (by decide) (Nat.le_of_ble_eq_true rfl) dX10_friends_11 (fun v_11 m_11 h_11 => ?_)
    obtain ⟨e1, e2⟩ := h_11; have e1 := e1.symm; have e2 := e2.symm; subst e1; subst e2
    refine j_ifb_eq X 27 dX10_friends_14 (by decide) (fun c_14 => ?_) (fun c_14 => ?_)
    · exfalso
      clear hE hr hR X
      (try simp only [lg_cmp_lt, lg_cmp_gt, lg_cmp_le, lg_cmp_ge] at *); (try simp (disch := omega) only [Int64.le_iff_toInt_le, Int64.lt_iff_toInt_lt, Int32.le_iff_toInt_le, Int32.lt_iff_toInt_lt, fa_eq, fa_lit, fa_litL, nI_toInt, pk_lT, Int32.toInt_toInt64, jadd64, jin, jnoneT] at *); omega
    · refine j_iload X dX10_friends_17 rfl ?_
      refine j_iconst X dX10_friends_19 0 (by decide) ?_
      refine j_iconst X dX10_friends_20 4 (by decide) ?_
      refine s_callSi X hR (c_withinI np _ _ _ _ (0) (4) rfl rfl) rfl u293 u294 u292 u1 hyX10_within (by decide) (by decide) (Nat.le_of_ble_eq_true rfl) dX10_friends_21 (fun v_21 m_21 h_21 => ?_)
      obtain ⟨e1, e2⟩ := h_21; have e1 := e1.symm; have e2 := e2.symm; subst e1; subst e2
      refine j_ifb_ne X 30 dX10_friends_24 (by decide) (fun c_24 => ?_) (fun c_24 => ?_)
      · refine j_aload_n X dX10_friends_30 rfl ?_
        refine j_getR X 10 0 (by decide) (by decide) rfl u238 (o0 np) (k0 np) _ (p0_0 np) dX10_friends_31 ?_
        refine j_iload_n X dX10_friends_34 rfl ?_
        refine j_iload_n X dX10_friends_35 rfl ?_
        refine j_iconst X dX10_friends_36 2 (by decide) ?_
        refine j_iload_n X dX10_friends_37 rfl ?_
        refine j_imul X dX10_friends_38 ?_
        refine j_nrm (nI (2 * q)) (by simp only [fa_lit, pk_mul]) ?_
        refine s_callVi X hR (c_trouble_place np _ s z i _ hs hz hm (fun g => hi ⟨g.1, g.2.2⟩)) rfl 7 (by decide) (o1 np) (k1 np) rfl u316 u313 u314 u315 u2 hyX7_troubleAt (by decide) (by decide) (Nat.le_of_ble_eq_true rfl) dX10_friends_39 (fun v_39 m_39 h_39 => ?_)
        obtain ⟨e1, e2⟩ := h_39; have e1 := e1.symm; have e2 := e2.symm; subst e1; subst e2
        refine j_istore X dX10_friends_42 (by decide) ?_
        refine j_iload X dX10_friends_44 rfl ?_
        refine j_if_eq X 56 dX10_friends_46 (by decide) (fun c_46 => absurd c_46 (by decide)) (fun c_46 => ?_)
        refine j_aload_n X dX10_friends_49 rfl ?_
        refine j_iload X dX10_friends_50 rfl ?_
        refine s_callVi X hR (c_finding np _ _) rfl 10 (by decide) (o0 np) (k0 np) rfl u299 u296 u298 qp0 u1 hyX10_finding (by decide) (by decide) (Nat.le_of_ble_eq_true rfl) dX10_friends_52 (fun v_52 m_52 h_52 => ?_)
        obtain ⟨e1, e2⟩ := h_52; have e1 := e1.symm; have e2 := e2.symm; subst e1; subst e2
        refine s_iret X hE hr dX10_friends_55 rfl ?_
        first | exact ⟨rfl, rfl⟩ | (exfalso; clear hE hr hR X; (try simp only [lg_cmp_lt, lg_cmp_gt, lg_cmp_le, lg_cmp_ge] at *); (try simp (disch := omega) only [Int64.le_iff_toInt_le, Int64.lt_iff_toInt_lt, Int32.le_iff_toInt_le, Int32.lt_iff_toInt_lt, fa_eq, fa_lit, fa_litL, nI_toInt, pk_lT, Int32.toInt_toInt64, jadd64, jin, jnoneT] at *); omega)
      · exfalso
        clear hE hr hR X
        (try simp only [lg_cmp_lt, lg_cmp_gt, lg_cmp_le, lg_cmp_ge] at *); (try simp (disch := omega) only [Int64.le_iff_toInt_le, Int64.lt_iff_toInt_lt, Int32.le_iff_toInt_le, Int32.lt_iff_toInt_lt, fa_eq, fa_lit, fa_litL, nI_toInt, pk_lT, Int32.toInt_toInt64, jadd64, jin, jnoneT] at *); omega
set_option maxRecDepth 4000 in
set_option maxHeartbeats 1000000 in
theorem c_friends_item (np : Nat) (mem : jMem) (s i q k z : Nat) (hs : s < 8) (hq1 : 1 ≤ q) (hq : q ≤ 6) (hk : k ≤ 4) (hz : z ≤ 60) (hm : mem 12 s = nI z) (hi : i + 2 * q ≤ z) (hno : ¬ jFok (fun k => mem (3 + s) (i + k)) q) : jPi yX10_friends cX10_friends 6 .int 4 [.ref 0, .int (nI s), .int (nI i), .int (nI q), .int (nI k)] np mem (fun v c => v = -1000001 ∧ jeq [30, 31] mem c) := by
  refine jPi.of (own := RX10) rfl rfl (Nat.le_of_ble_eq_true rfl) (fun G X hR hr hE => ?_)
  refine j_iload_n X dX10_friends_0 rfl ?_
  refine s_callSi X hR (c_isNumber np _ _) rfl u290 u288 u289 u2 hyX7_isNumber (by decide) (by decide) (Nat.le_of_ble_eq_true rfl) dX10_friends_1 (fun v_1 m_1 h_1 => ?_)
  obtain ⟨e1, e2⟩ := h_1; have e1 := e1.symm; have e2 := e2.symm; subst e1; subst e2
  refine j_ifb_eq X 27 dX10_friends_4 (by decide) (fun c_4 => ?_) (fun c_4 => ?_)
  · exfalso
    clear hE hr hR X
    (try simp only [lg_cmp_lt, lg_cmp_gt, lg_cmp_le, lg_cmp_ge] at *); (try simp (disch := omega) only [Int64.le_iff_toInt_le, Int64.lt_iff_toInt_lt, Int32.le_iff_toInt_le, Int32.lt_iff_toInt_lt, fa_eq, fa_lit, fa_litL, nI_toInt, pk_lT, Int32.toInt_toInt64, jadd64, jin, jnoneT] at *); omega
  · refine j_iload_n X dX10_friends_7 rfl ?_
    refine j_iconst X dX10_friends_8 1 (by decide) ?_
    refine j_bipush X dX10_friends_9 6 (by decide) ?_
    refine s_callSi X hR (c_withinI np _ _ _ _ (1) (6) rfl rfl) rfl u293 u294 u292 u1 hyX10_within (by decide) (by decide) (Nat.le_of_ble_eq_true rfl) dX10_friends_11 (fun v_11 m_11 h_11 => ?_)
    obtain ⟨e1, e2⟩ := h_11; have e1 := e1.symm; have e2 := e2.symm; subst e1; subst e2
    refine j_ifb_eq X 27 dX10_friends_14 (by decide) (fun c_14 => ?_) (fun c_14 => ?_)
    · exfalso
      clear hE hr hR X
      (try simp only [lg_cmp_lt, lg_cmp_gt, lg_cmp_le, lg_cmp_ge] at *); (try simp (disch := omega) only [Int64.le_iff_toInt_le, Int64.lt_iff_toInt_lt, Int32.le_iff_toInt_le, Int32.lt_iff_toInt_lt, fa_eq, fa_lit, fa_litL, nI_toInt, pk_lT, Int32.toInt_toInt64, jadd64, jin, jnoneT] at *); omega
    · refine j_iload X dX10_friends_17 rfl ?_
      refine j_iconst X dX10_friends_19 0 (by decide) ?_
      refine j_iconst X dX10_friends_20 4 (by decide) ?_
      refine s_callSi X hR (c_withinI np _ _ _ _ (0) (4) rfl rfl) rfl u293 u294 u292 u1 hyX10_within (by decide) (by decide) (Nat.le_of_ble_eq_true rfl) dX10_friends_21 (fun v_21 m_21 h_21 => ?_)
      obtain ⟨e1, e2⟩ := h_21; have e1 := e1.symm; have e2 := e2.symm; subst e1; subst e2
      refine j_ifb_ne X 30 dX10_friends_24 (by decide) (fun c_24 => ?_) (fun c_24 => ?_)
      · refine j_aload_n X dX10_friends_30 rfl ?_
        refine j_getR X 10 0 (by decide) (by decide) rfl u238 (o0 np) (k0 np) _ (p0_0 np) dX10_friends_31 ?_
        refine j_iload_n X dX10_friends_34 rfl ?_
        refine j_iload_n X dX10_friends_35 rfl ?_
        refine j_iconst X dX10_friends_36 2 (by decide) ?_
        refine j_iload_n X dX10_friends_37 rfl ?_
        refine j_imul X dX10_friends_38 ?_
        refine j_nrm (nI (2 * q)) (by simp only [fa_lit, pk_mul]) ?_
        refine s_callVi X hR (c_trouble np _ s z (nI i) (nI (2 * q)) hs hz hm (by rw [nI_toInt (by omega), nI_toInt (by omega)]; omega)) rfl 7 (by decide) (o1 np) (k1 np) rfl u316 u313 u314 u315 u2 hyX7_troubleAt (by decide) (by decide) (Nat.le_of_ble_eq_true rfl) dX10_friends_39 (fun v_39 m_39 h_39 => ?_)
        obtain ⟨e1, e2⟩ := h_39; have e1 := e1.symm; have e2 := e2.symm; subst e1; subst e2
        refine j_istore X dX10_friends_42 (by decide) ?_
        refine j_iload X dX10_friends_44 rfl ?_
        refine j_if_eq X 56 dX10_friends_46 (by decide) (fun c_46 => ?_) (fun c_46 => absurd c_46 (by decide))
        refine j_aload_n X dX10_friends_56 rfl ?_
        refine j_getR X 10 4 (by decide) (by decide) rfl u242 (o0 np) (k0 np) _ (p0_4 np) dX10_friends_57 ?_
        refine j_aload_n X dX10_friends_60 rfl ?_
        refine j_getR X 10 0 (by decide) (by decide) rfl u238 (o0 np) (k0 np) _ (p0_0 np) dX10_friends_61 ?_
        refine j_getR X 7 0 (by decide) (by decide) rfl u41 (o1 np) (k1 np) _ (p1_0 np) dX10_friends_64 ?_
        refine j_iload_n X dX10_friends_67 rfl ?_
        refine j_nrm _ (by first | (simp only [fa_lit, pk_mul, nI_add]; done) | (simp only [fa_lit, pk_mul, nI_add]; rfl) | rfl) ?_
        refine j_aaldIN X (o2 np) (k2 np) (by rw [l2]; omega) (by rw [l2]; decide) (p2_r np (by omega)) dX10_friends_68 ?_
        refine j_iload_n X dX10_friends_69 rfl ?_
        refine j_iload_n X dX10_friends_70 rfl ?_
        refine s_callVi X hR (c_take_bad np _ s i q hs hq (by omega) hno) rfl 2 (by decide) (o29 np) (k29 np) rfl u588 u585 u586 u587 u5 hyX2_take (by decide) (by decide) (Nat.le_of_ble_eq_true rfl) dX10_friends_71 (fun v_71 m_71 h_71 => ?_)
        obtain ⟨e1, hJ⟩ := h_71; have e1 := e1.symm; subst e1
        refine j_if_ne X 80 dX10_friends_74 (by decide) (fun c_74 => absurd c_74 (by decide)) (fun c_74 => ?_)
        refine j_ldc X dX10_friends_77 u295 ?_
        refine s_iret X hE hr dX10_friends_79 rfl ?_
        exact ⟨rfl, hJ⟩
      · exfalso
        clear hE hr hR X
        (try simp only [lg_cmp_lt, lg_cmp_gt, lg_cmp_le, lg_cmp_ge] at *); (try simp (disch := omega) only [Int64.le_iff_toInt_le, Int64.lt_iff_toInt_lt, Int32.le_iff_toInt_le, Int32.lt_iff_toInt_lt, fa_eq, fa_lit, fa_litL, nI_toInt, pk_lT, Int32.toInt_toInt64, jadd64, jin, jnoneT] at *); omega
set_option maxRecDepth 4000 in
set_option maxHeartbeats 1000000 in
theorem c_friends0 (np : Nat) (mem : jMem) (s i q z : Nat) (hs : s < 8) (hq1 : 1 ≤ q) (hq : q ≤ 6) (hz : z ≤ 60) (hm : mem 12 s = nI z) (hi : i + 2 * q ≤ z) (hok : jFok (fun k => mem (3 + s) (i + k)) q) : jPi yX10_friends cX10_friends 6 .int 4 [.ref 0, .int (nI s), .int (nI i), .int (nI q), .int 0] np mem (fun v c => v = nI (jLag (jFx (fun k => mem (3 + s) (i + k))) (jFy (fun k => mem (3 + s) (i + k))) q 0 q) ∧ jeq [30, 31] (jup mem 0 14 0) c) := by
  refine jPi.of (own := RX10) rfl rfl (Nat.le_of_ble_eq_true rfl) (fun G X hR hr hE => ?_)
  refine j_iload_n X dX10_friends_0 rfl ?_
  refine s_callSi X hR (c_isNumber np _ _) rfl u290 u288 u289 u2 hyX7_isNumber (by decide) (by decide) (Nat.le_of_ble_eq_true rfl) dX10_friends_1 (fun v_1 m_1 h_1 => ?_)
  obtain ⟨e1, e2⟩ := h_1; have e1 := e1.symm; have e2 := e2.symm; subst e1; subst e2
  refine j_ifb_eq X 27 dX10_friends_4 (by decide) (fun c_4 => ?_) (fun c_4 => ?_)
  · exfalso
    clear hE hr hR X
    (try simp only [lg_cmp_lt, lg_cmp_gt, lg_cmp_le, lg_cmp_ge] at *); (try simp (disch := omega) only [Int64.le_iff_toInt_le, Int64.lt_iff_toInt_lt, Int32.le_iff_toInt_le, Int32.lt_iff_toInt_lt, fa_eq, fa_lit, fa_litL, nI_toInt, pk_lT, Int32.toInt_toInt64, jadd64, jin, jnoneT] at *); omega
  · refine j_iload_n X dX10_friends_7 rfl ?_
    refine j_iconst X dX10_friends_8 1 (by decide) ?_
    refine j_bipush X dX10_friends_9 6 (by decide) ?_
    refine s_callSi X hR (c_withinI np _ _ _ _ (1) (6) rfl rfl) rfl u293 u294 u292 u1 hyX10_within (by decide) (by decide) (Nat.le_of_ble_eq_true rfl) dX10_friends_11 (fun v_11 m_11 h_11 => ?_)
    obtain ⟨e1, e2⟩ := h_11; have e1 := e1.symm; have e2 := e2.symm; subst e1; subst e2
    refine j_ifb_eq X 27 dX10_friends_14 (by decide) (fun c_14 => ?_) (fun c_14 => ?_)
    · exfalso
      clear hE hr hR X
      (try simp only [lg_cmp_lt, lg_cmp_gt, lg_cmp_le, lg_cmp_ge] at *); (try simp (disch := omega) only [Int64.le_iff_toInt_le, Int64.lt_iff_toInt_lt, Int32.le_iff_toInt_le, Int32.lt_iff_toInt_lt, fa_eq, fa_lit, fa_litL, nI_toInt, pk_lT, Int32.toInt_toInt64, jadd64, jin, jnoneT] at *); omega
    · refine j_iload X dX10_friends_17 rfl ?_
      refine j_iconst X dX10_friends_19 0 (by decide) ?_
      refine j_iconst X dX10_friends_20 4 (by decide) ?_
      refine s_callSi X hR (c_withinI np _ _ _ _ (0) (4) rfl rfl) rfl u293 u294 u292 u1 hyX10_within (by decide) (by decide) (Nat.le_of_ble_eq_true rfl) dX10_friends_21 (fun v_21 m_21 h_21 => ?_)
      obtain ⟨e1, e2⟩ := h_21; have e1 := e1.symm; have e2 := e2.symm; subst e1; subst e2
      refine j_ifb_ne X 30 dX10_friends_24 (by decide) (fun c_24 => ?_) (fun c_24 => ?_)
      · refine j_aload_n X dX10_friends_30 rfl ?_
        refine j_getR X 10 0 (by decide) (by decide) rfl u238 (o0 np) (k0 np) _ (p0_0 np) dX10_friends_31 ?_
        refine j_iload_n X dX10_friends_34 rfl ?_
        refine j_iload_n X dX10_friends_35 rfl ?_
        refine j_iconst X dX10_friends_36 2 (by decide) ?_
        refine j_iload_n X dX10_friends_37 rfl ?_
        refine j_imul X dX10_friends_38 ?_
        refine j_nrm (nI (2 * q)) (by simp only [fa_lit, pk_mul]) ?_
        refine s_callVi X hR (c_trouble np _ s z (nI i) (nI (2 * q)) hs hz hm (by rw [nI_toInt (by omega), nI_toInt (by omega)]; omega)) rfl 7 (by decide) (o1 np) (k1 np) rfl u316 u313 u314 u315 u2 hyX7_troubleAt (by decide) (by decide) (Nat.le_of_ble_eq_true rfl) dX10_friends_39 (fun v_39 m_39 h_39 => ?_)
        obtain ⟨e1, e2⟩ := h_39; have e1 := e1.symm; have e2 := e2.symm; subst e1; subst e2
        refine j_istore X dX10_friends_42 (by decide) ?_
        refine j_iload X dX10_friends_44 rfl ?_
        refine j_if_eq X 56 dX10_friends_46 (by decide) (fun c_46 => ?_) (fun c_46 => absurd c_46 (by decide))
        refine j_aload_n X dX10_friends_56 rfl ?_
        refine j_getR X 10 4 (by decide) (by decide) rfl u242 (o0 np) (k0 np) _ (p0_4 np) dX10_friends_57 ?_
        refine j_aload_n X dX10_friends_60 rfl ?_
        refine j_getR X 10 0 (by decide) (by decide) rfl u238 (o0 np) (k0 np) _ (p0_0 np) dX10_friends_61 ?_
        refine j_getR X 7 0 (by decide) (by decide) rfl u41 (o1 np) (k1 np) _ (p1_0 np) dX10_friends_64 ?_
        refine j_iload_n X dX10_friends_67 rfl ?_
        refine j_nrm _ (by first | (simp only [fa_lit, pk_mul, nI_add]; done) | (simp only [fa_lit, pk_mul, nI_add]; rfl) | rfl) ?_
        refine j_aaldIN X (o2 np) (k2 np) (by rw [l2]; omega) (by rw [l2]; decide) (p2_r np (by omega)) dX10_friends_68 ?_
        refine j_iload_n X dX10_friends_69 rfl ?_
        refine j_iload_n X dX10_friends_70 rfl ?_
        refine s_callVi X hR (c_take np _ s i q hs hq (by omega) hok) rfl 2 (by decide) (o29 np) (k29 np) rfl u588 u585 u586 u587 u5 hyX2_take (by decide) (by decide) (Nat.le_of_ble_eq_true rfl) dX10_friends_71 (fun v_71 m_71 h_71 => ?_)
        obtain ⟨e1, hJ, hT⟩ := h_71; have e1 := e1.symm; subst e1
        have hx : ∀ a, a < q → m_71 30 a = nI ((jFx (fun k => mem (3 + s) (i + k))) a) ∧ (jFx (fun k => mem (3 + s) (i + k))) a ≤ 6 := fun a ha => ⟨(hT a ha).1.trans (jFx_e hok ha).1, (jFx_e hok ha).2.2⟩
        have hy : ∀ a, a < q → m_71 31 a = nI ((jFy (fun k => mem (3 + s) (i + k))) a) ∧ (jFy (fun k => mem (3 + s) (i + k))) a ≤ 256 := fun a ha => ⟨(hT a ha).2.trans (jFy_e hok ha).1, (jFy_e hok ha).2⟩
        refine j_if_ne X 80 dX10_friends_74 (by decide) (fun c_74 => ?_) (fun c_74 => absurd c_74 (by decide))
        refine j_aload_n X dX10_friends_80 rfl ?_
        refine j_iload X dX10_friends_81 rfl ?_
        refine j_if_ne X 98 dX10_friends_83 (by decide) (fun c_83 => absurd c_83 (by decide)) (fun c_83 => ?_)
        refine j_aload_n X dX10_friends_86 rfl ?_
        refine j_getR X 10 4 (by decide) (by decide) rfl u242 (o0 np) (k0 np) _ (p0_4 np) dX10_friends_87 ?_
        refine j_iconst X dX10_friends_90 0 (by decide) ?_
        refine j_iload_n X dX10_friends_91 rfl ?_
        refine s_callVi X hR (c_sumAt np _ q 0 (jFx (fun k => mem (3 + s) (i + k))) (jFy (fun k => mem (3 + s) (i + k))) hq (by omega) hx hy) rfl 2 (by decide) (o29 np) (k29 np) rfl u594 u591 u592 u593 u5 hyX2_sumAt (by decide) (by decide) (Nat.le_of_ble_eq_true rfl) dX10_friends_92 (fun v_92 m_92 h_92 => ?_)
        obtain ⟨e1, e2⟩ := h_92; have e1 := e1.symm; have e2 := e2.symm; subst e1; subst e2
        refine j_goto X 108 dX10_friends_95 (by decide) ?_
        refine s_callVi X hR (c_found np _ _) rfl 10 (by decide) (o0 np) (k0 np) rfl u308 u305 u307 qp1 u1 hyX10_found (by decide) (by decide) (Nat.le_of_ble_eq_true rfl) dX10_friends_108 (fun v_108 m_108 h_108 => ?_)
        obtain ⟨e1, e2⟩ := h_108; have e1 := e1.symm; have e2 := e2.symm; subst e1; subst e2
        refine s_iret X hE hr dX10_friends_111 rfl ?_
        exact ⟨rfl, jeq.cg hJ (by decide)⟩
      · exfalso
        clear hE hr hR X
        (try simp only [lg_cmp_lt, lg_cmp_gt, lg_cmp_le, lg_cmp_ge] at *); (try simp (disch := omega) only [Int64.le_iff_toInt_le, Int64.lt_iff_toInt_lt, Int32.le_iff_toInt_le, Int32.lt_iff_toInt_lt, fa_eq, fa_lit, fa_litL, nI_toInt, pk_lT, Int32.toInt_toInt64, jadd64, jin, jnoneT] at *); omega
set_option maxRecDepth 4000 in
set_option maxHeartbeats 1000000 in
theorem c_friends_few (np : Nat) (mem : jMem) (s i q k z : Nat) (hs : s < 8) (hq1 : 1 ≤ q) (hq : q ≤ 6) (hk : k ≤ 4) (hz : z ≤ 60) (hm : mem 12 s = nI z) (hi : i + 2 * q ≤ z) (hok : jFok (fun k => mem (3 + s) (i + k)) q) (hfew : q < k) : jPi yX10_friends cX10_friends 6 .int 4 [.ref 0, .int (nI s), .int (nI i), .int (nI q), .int (nI k)] np mem (fun v c => v = 257 ∧ jeq [30, 31] (jup mem 0 14 0) c) := by
  refine jPi.of (own := RX10) rfl rfl (Nat.le_of_ble_eq_true rfl) (fun G X hR hr hE => ?_)
  refine j_iload_n X dX10_friends_0 rfl ?_
  refine s_callSi X hR (c_isNumber np _ _) rfl u290 u288 u289 u2 hyX7_isNumber (by decide) (by decide) (Nat.le_of_ble_eq_true rfl) dX10_friends_1 (fun v_1 m_1 h_1 => ?_)
  obtain ⟨e1, e2⟩ := h_1; have e1 := e1.symm; have e2 := e2.symm; subst e1; subst e2
  refine j_ifb_eq X 27 dX10_friends_4 (by decide) (fun c_4 => ?_) (fun c_4 => ?_)
  · exfalso
    clear hE hr hR X
    (try simp only [lg_cmp_lt, lg_cmp_gt, lg_cmp_le, lg_cmp_ge] at *); (try simp (disch := omega) only [Int64.le_iff_toInt_le, Int64.lt_iff_toInt_lt, Int32.le_iff_toInt_le, Int32.lt_iff_toInt_lt, fa_eq, fa_lit, fa_litL, nI_toInt, pk_lT, Int32.toInt_toInt64, jadd64, jin, jnoneT] at *); omega
  · refine j_iload_n X dX10_friends_7 rfl ?_
    refine j_iconst X dX10_friends_8 1 (by decide) ?_
    refine j_bipush X dX10_friends_9 6 (by decide) ?_
    refine s_callSi X hR (c_withinI np _ _ _ _ (1) (6) rfl rfl) rfl u293 u294 u292 u1 hyX10_within (by decide) (by decide) (Nat.le_of_ble_eq_true rfl) dX10_friends_11 (fun v_11 m_11 h_11 => ?_)
    obtain ⟨e1, e2⟩ := h_11; have e1 := e1.symm; have e2 := e2.symm; subst e1; subst e2
    refine j_ifb_eq X 27 dX10_friends_14 (by decide) (fun c_14 => ?_) (fun c_14 => ?_)
    · exfalso
      clear hE hr hR X
      (try simp only [lg_cmp_lt, lg_cmp_gt, lg_cmp_le, lg_cmp_ge] at *); (try simp (disch := omega) only [Int64.le_iff_toInt_le, Int64.lt_iff_toInt_lt, Int32.le_iff_toInt_le, Int32.lt_iff_toInt_lt, fa_eq, fa_lit, fa_litL, nI_toInt, pk_lT, Int32.toInt_toInt64, jadd64, jin, jnoneT] at *); omega
    · refine j_iload X dX10_friends_17 rfl ?_
      refine j_iconst X dX10_friends_19 0 (by decide) ?_
      refine j_iconst X dX10_friends_20 4 (by decide) ?_
      refine s_callSi X hR (c_withinI np _ _ _ _ (0) (4) rfl rfl) rfl u293 u294 u292 u1 hyX10_within (by decide) (by decide) (Nat.le_of_ble_eq_true rfl) dX10_friends_21 (fun v_21 m_21 h_21 => ?_)
      obtain ⟨e1, e2⟩ := h_21; have e1 := e1.symm; have e2 := e2.symm; subst e1; subst e2
      refine j_ifb_ne X 30 dX10_friends_24 (by decide) (fun c_24 => ?_) (fun c_24 => ?_)
      · refine j_aload_n X dX10_friends_30 rfl ?_
        refine j_getR X 10 0 (by decide) (by decide) rfl u238 (o0 np) (k0 np) _ (p0_0 np) dX10_friends_31 ?_
        refine j_iload_n X dX10_friends_34 rfl ?_
        refine j_iload_n X dX10_friends_35 rfl ?_
        refine j_iconst X dX10_friends_36 2 (by decide) ?_
        refine j_iload_n X dX10_friends_37 rfl ?_
        refine j_imul X dX10_friends_38 ?_
        refine j_nrm (nI (2 * q)) (by simp only [fa_lit, pk_mul]) ?_
        refine s_callVi X hR (c_trouble np _ s z (nI i) (nI (2 * q)) hs hz hm (by rw [nI_toInt (by omega), nI_toInt (by omega)]; omega)) rfl 7 (by decide) (o1 np) (k1 np) rfl u316 u313 u314 u315 u2 hyX7_troubleAt (by decide) (by decide) (Nat.le_of_ble_eq_true rfl) dX10_friends_39 (fun v_39 m_39 h_39 => ?_)
        obtain ⟨e1, e2⟩ := h_39; have e1 := e1.symm; have e2 := e2.symm; subst e1; subst e2
        refine j_istore X dX10_friends_42 (by decide) ?_
        refine j_iload X dX10_friends_44 rfl ?_
        refine j_if_eq X 56 dX10_friends_46 (by decide) (fun c_46 => ?_) (fun c_46 => absurd c_46 (by decide))
        refine j_aload_n X dX10_friends_56 rfl ?_
        refine j_getR X 10 4 (by decide) (by decide) rfl u242 (o0 np) (k0 np) _ (p0_4 np) dX10_friends_57 ?_
        refine j_aload_n X dX10_friends_60 rfl ?_
        refine j_getR X 10 0 (by decide) (by decide) rfl u238 (o0 np) (k0 np) _ (p0_0 np) dX10_friends_61 ?_
        refine j_getR X 7 0 (by decide) (by decide) rfl u41 (o1 np) (k1 np) _ (p1_0 np) dX10_friends_64 ?_
        refine j_iload_n X dX10_friends_67 rfl ?_
        refine j_nrm _ (by first | (simp only [fa_lit, pk_mul, nI_add]; done) | (simp only [fa_lit, pk_mul, nI_add]; rfl) | rfl) ?_
        refine j_aaldIN X (o2 np) (k2 np) (by rw [l2]; omega) (by rw [l2]; decide) (p2_r np (by omega)) dX10_friends_68 ?_
        refine j_iload_n X dX10_friends_69 rfl ?_
        refine j_iload_n X dX10_friends_70 rfl ?_
        refine s_callVi X hR (c_take np _ s i q hs hq (by omega) hok) rfl 2 (by decide) (o29 np) (k29 np) rfl u588 u585 u586 u587 u5 hyX2_take (by decide) (by decide) (Nat.le_of_ble_eq_true rfl) dX10_friends_71 (fun v_71 m_71 h_71 => ?_)
        obtain ⟨e1, hJ, hT⟩ := h_71; have e1 := e1.symm; subst e1
        have hx : ∀ a, a < q → m_71 30 a = nI ((jFx (fun k => mem (3 + s) (i + k))) a) ∧ (jFx (fun k => mem (3 + s) (i + k))) a ≤ 6 := fun a ha => ⟨(hT a ha).1.trans (jFx_e hok ha).1, (jFx_e hok ha).2.2⟩
        have hy : ∀ a, a < q → m_71 31 a = nI ((jFy (fun k => mem (3 + s) (i + k))) a) ∧ (jFy (fun k => mem (3 + s) (i + k))) a ≤ 256 := fun a ha => ⟨(hT a ha).2.trans (jFy_e hok ha).1, (jFy_e hok ha).2⟩
        refine j_if_ne X 80 dX10_friends_74 (by decide) (fun c_74 => ?_) (fun c_74 => absurd c_74 (by decide))
        refine j_aload_n X dX10_friends_80 rfl ?_
        refine j_iload X dX10_friends_81 rfl ?_
        refine j_if_ne X 98 dX10_friends_83 (by decide) (fun c_83 => ?_) (fun c_83 => ?_)
        · refine j_aload_n X dX10_friends_98 rfl ?_
          refine j_getR X 10 4 (by decide) (by decide) rfl u242 (o0 np) (k0 np) _ (p0_4 np) dX10_friends_99 ?_
          refine j_iload_n X dX10_friends_102 rfl ?_
          refine j_iload X dX10_friends_103 rfl ?_
          refine s_callVi X hR (c_possible_few np _ q k hq hk hfew) rfl 2 (by decide) (o29 np) (k29 np) rfl u604 u601 u602 u603 u5 hyX2_possible (by decide) (by decide) (Nat.le_of_ble_eq_true rfl) dX10_friends_105 (fun v_105 m_105 h_105 => ?_)
          obtain ⟨e1, e2⟩ := h_105; have e1 := e1.symm; have e2 := e2.symm; subst e1; subst e2
          refine s_callVi X hR (c_found np _ _) rfl 10 (by decide) (o0 np) (k0 np) rfl u308 u305 u307 qp1 u1 hyX10_found (by decide) (by decide) (Nat.le_of_ble_eq_true rfl) dX10_friends_108 (fun v_108 m_108 h_108 => ?_)
          obtain ⟨e1, e2⟩ := h_108; have e1 := e1.symm; have e2 := e2.symm; subst e1; subst e2
          refine s_iret X hE hr dX10_friends_111 rfl ?_
          exact ⟨rfl, jeq.cg hJ (by decide)⟩
        · exfalso
          exact absurd ((nI_eq (by omega) (by omega)).mp (show nI k = nI 0 from c_83)) (by omega)
      · exfalso
        clear hE hr hR X
        (try simp only [lg_cmp_lt, lg_cmp_gt, lg_cmp_le, lg_cmp_ge] at *); (try simp (disch := omega) only [Int64.le_iff_toInt_le, Int64.lt_iff_toInt_lt, Int32.le_iff_toInt_le, Int32.lt_iff_toInt_lt, fa_eq, fa_lit, fa_litL, nI_toInt, pk_lT, Int32.toInt_toInt64, jadd64, jin, jnoneT] at *); omega
set_option maxRecDepth 4000 in
set_option maxHeartbeats 1000000 in
theorem c_friends (np : Nat) (mem : jMem) (s i q k z : Nat) (hs : s < 8) (hq1 : 1 ≤ q) (hq : q ≤ 6) (hk : k ≤ 4) (hz : z ≤ 60) (hm : mem 12 s = nI z) (hi : i + 2 * q ≤ z) (hok : jFok (fun k => mem (3 + s) (i + k)) q) (hk1 : 1 ≤ k) (hkq : k ≤ q) : jPi yX10_friends cX10_friends 6 .int 4 [.ref 0, .int (nI s), .int (nI i), .int (nI q), .int (nI k)] np mem (fun v c => v = jb (jPos (jFx (fun k => mem (3 + s) (i + k))) (jFy (fun k => mem (3 + s) (i + k))) k q = true) ∧ jeq [30, 31] (jup mem 0 14 0) c) := by
  refine jPi.of (own := RX10) rfl rfl (Nat.le_of_ble_eq_true rfl) (fun G X hR hr hE => ?_)
  refine j_iload_n X dX10_friends_0 rfl ?_
  refine s_callSi X hR (c_isNumber np _ _) rfl u290 u288 u289 u2 hyX7_isNumber (by decide) (by decide) (Nat.le_of_ble_eq_true rfl) dX10_friends_1 (fun v_1 m_1 h_1 => ?_)
  obtain ⟨e1, e2⟩ := h_1; have e1 := e1.symm; have e2 := e2.symm; subst e1; subst e2
  refine j_ifb_eq X 27 dX10_friends_4 (by decide) (fun c_4 => ?_) (fun c_4 => ?_)
  · exfalso
    clear hE hr hR X
    (try simp only [lg_cmp_lt, lg_cmp_gt, lg_cmp_le, lg_cmp_ge] at *); (try simp (disch := omega) only [Int64.le_iff_toInt_le, Int64.lt_iff_toInt_lt, Int32.le_iff_toInt_le, Int32.lt_iff_toInt_lt, fa_eq, fa_lit, fa_litL, nI_toInt, pk_lT, Int32.toInt_toInt64, jadd64, jin, jnoneT] at *); omega
  · refine j_iload_n X dX10_friends_7 rfl ?_
    refine j_iconst X dX10_friends_8 1 (by decide) ?_
    refine j_bipush X dX10_friends_9 6 (by decide) ?_
    refine s_callSi X hR (c_withinI np _ _ _ _ (1) (6) rfl rfl) rfl u293 u294 u292 u1 hyX10_within (by decide) (by decide) (Nat.le_of_ble_eq_true rfl) dX10_friends_11 (fun v_11 m_11 h_11 => ?_)
    obtain ⟨e1, e2⟩ := h_11; have e1 := e1.symm; have e2 := e2.symm; subst e1; subst e2
    refine j_ifb_eq X 27 dX10_friends_14 (by decide) (fun c_14 => ?_) (fun c_14 => ?_)
    · exfalso
      clear hE hr hR X
      (try simp only [lg_cmp_lt, lg_cmp_gt, lg_cmp_le, lg_cmp_ge] at *); (try simp (disch := omega) only [Int64.le_iff_toInt_le, Int64.lt_iff_toInt_lt, Int32.le_iff_toInt_le, Int32.lt_iff_toInt_lt, fa_eq, fa_lit, fa_litL, nI_toInt, pk_lT, Int32.toInt_toInt64, jadd64, jin, jnoneT] at *); omega
    · refine j_iload X dX10_friends_17 rfl ?_
      refine j_iconst X dX10_friends_19 0 (by decide) ?_
      refine j_iconst X dX10_friends_20 4 (by decide) ?_
      refine s_callSi X hR (c_withinI np _ _ _ _ (0) (4) rfl rfl) rfl u293 u294 u292 u1 hyX10_within (by decide) (by decide) (Nat.le_of_ble_eq_true rfl) dX10_friends_21 (fun v_21 m_21 h_21 => ?_)
      obtain ⟨e1, e2⟩ := h_21; have e1 := e1.symm; have e2 := e2.symm; subst e1; subst e2
      refine j_ifb_ne X 30 dX10_friends_24 (by decide) (fun c_24 => ?_) (fun c_24 => ?_)
      · refine j_aload_n X dX10_friends_30 rfl ?_
        refine j_getR X 10 0 (by decide) (by decide) rfl u238 (o0 np) (k0 np) _ (p0_0 np) dX10_friends_31 ?_
        refine j_iload_n X dX10_friends_34 rfl ?_
        refine j_iload_n X dX10_friends_35 rfl ?_
        refine j_iconst X dX10_friends_36 2 (by decide) ?_
        refine j_iload_n X dX10_friends_37 rfl ?_
        refine j_imul X dX10_friends_38 ?_
        refine j_nrm (nI (2 * q)) (by simp only [fa_lit, pk_mul]) ?_
        refine s_callVi X hR (c_trouble np _ s z (nI i) (nI (2 * q)) hs hz hm (by rw [nI_toInt (by omega), nI_toInt (by omega)]; omega)) rfl 7 (by decide) (o1 np) (k1 np) rfl u316 u313 u314 u315 u2 hyX7_troubleAt (by decide) (by decide) (Nat.le_of_ble_eq_true rfl) dX10_friends_39 (fun v_39 m_39 h_39 => ?_)
        obtain ⟨e1, e2⟩ := h_39; have e1 := e1.symm; have e2 := e2.symm; subst e1; subst e2
        refine j_istore X dX10_friends_42 (by decide) ?_
        refine j_iload X dX10_friends_44 rfl ?_
        refine j_if_eq X 56 dX10_friends_46 (by decide) (fun c_46 => ?_) (fun c_46 => absurd c_46 (by decide))
        refine j_aload_n X dX10_friends_56 rfl ?_
        refine j_getR X 10 4 (by decide) (by decide) rfl u242 (o0 np) (k0 np) _ (p0_4 np) dX10_friends_57 ?_
        refine j_aload_n X dX10_friends_60 rfl ?_
        refine j_getR X 10 0 (by decide) (by decide) rfl u238 (o0 np) (k0 np) _ (p0_0 np) dX10_friends_61 ?_
        refine j_getR X 7 0 (by decide) (by decide) rfl u41 (o1 np) (k1 np) _ (p1_0 np) dX10_friends_64 ?_
        refine j_iload_n X dX10_friends_67 rfl ?_
        refine j_nrm _ (by first | (simp only [fa_lit, pk_mul, nI_add]; done) | (simp only [fa_lit, pk_mul, nI_add]; rfl) | rfl) ?_
        refine j_aaldIN X (o2 np) (k2 np) (by rw [l2]; omega) (by rw [l2]; decide) (p2_r np (by omega)) dX10_friends_68 ?_
        refine j_iload_n X dX10_friends_69 rfl ?_
        refine j_iload_n X dX10_friends_70 rfl ?_
        refine s_callVi X hR (c_take np _ s i q hs hq (by omega) hok) rfl 2 (by decide) (o29 np) (k29 np) rfl u588 u585 u586 u587 u5 hyX2_take (by decide) (by decide) (Nat.le_of_ble_eq_true rfl) dX10_friends_71 (fun v_71 m_71 h_71 => ?_)
        obtain ⟨e1, hJ, hT⟩ := h_71; have e1 := e1.symm; subst e1
        have hx : ∀ a, a < q → m_71 30 a = nI ((jFx (fun k => mem (3 + s) (i + k))) a) ∧ (jFx (fun k => mem (3 + s) (i + k))) a ≤ 6 := fun a ha => ⟨(hT a ha).1.trans (jFx_e hok ha).1, (jFx_e hok ha).2.2⟩
        have hy : ∀ a, a < q → m_71 31 a = nI ((jFy (fun k => mem (3 + s) (i + k))) a) ∧ (jFy (fun k => mem (3 + s) (i + k))) a ≤ 256 := fun a ha => ⟨(hT a ha).2.trans (jFy_e hok ha).1, (jFy_e hok ha).2⟩
        refine j_if_ne X 80 dX10_friends_74 (by decide) (fun c_74 => ?_) (fun c_74 => absurd c_74 (by decide))
        refine j_aload_n X dX10_friends_80 rfl ?_
        refine j_iload X dX10_friends_81 rfl ?_
        refine j_if_ne X 98 dX10_friends_83 (by decide) (fun c_83 => ?_) (fun c_83 => ?_)
        · refine j_aload_n X dX10_friends_98 rfl ?_
          refine j_getR X 10 4 (by decide) (by decide) rfl u242 (o0 np) (k0 np) _ (p0_4 np) dX10_friends_99 ?_
          refine j_iload_n X dX10_friends_102 rfl ?_
          refine j_iload X dX10_friends_103 rfl ?_
          refine s_callVi X hR (c_possible np _ q k (jFx (fun k => mem (3 + s) (i + k))) (jFy (fun k => mem (3 + s) (i + k))) hq hk hkq hx hy) rfl 2 (by decide) (o29 np) (k29 np) rfl u604 u601 u602 u603 u5 hyX2_possible (by decide) (by decide) (Nat.le_of_ble_eq_true rfl) dX10_friends_105 (fun v_105 m_105 h_105 => ?_)
          obtain ⟨e1, e2⟩ := h_105; have e1 := e1.symm; have e2 := e2.symm; subst e1; subst e2
          refine s_callVi X hR (c_found np _ _) rfl 10 (by decide) (o0 np) (k0 np) rfl u308 u305 u307 qp1 u1 hyX10_found (by decide) (by decide) (Nat.le_of_ble_eq_true rfl) dX10_friends_108 (fun v_108 m_108 h_108 => ?_)
          obtain ⟨e1, e2⟩ := h_108; have e1 := e1.symm; have e2 := e2.symm; subst e1; subst e2
          refine s_iret X hE hr dX10_friends_111 rfl ?_
          exact ⟨rfl, jeq.cg hJ (by decide)⟩
        · exfalso
          exact absurd ((nI_eq (by omega) (by omega)).mp (show nI k = nI 0 from c_83)) (by omega)
      · exfalso
        clear hE hr hR X
        (try simp only [lg_cmp_lt, lg_cmp_gt, lg_cmp_le, lg_cmp_ge] at *); (try simp (disch := omega) only [Int64.le_iff_toInt_le, Int64.lt_iff_toInt_lt, Int32.le_iff_toInt_le, Int32.lt_iff_toInt_lt, fa_eq, fa_lit, fa_litL, nI_toInt, pk_lT, Int32.toInt_toInt64, jadd64, jin, jnoneT] at *); omega
