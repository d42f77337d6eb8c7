def jB1 (x : Int32) : Int32 := x - (((x).toUInt32 >>> ((1 : Int32).toUInt32 &&& Int32.toUInt32 31)).toInt32 &&& 1431655765)
def jB2 (x : Int32) : Int32 := (x &&& 858993459) + (((x).toUInt32 >>> ((2 : Int32).toUInt32 &&& Int32.toUInt32 31)).toInt32 &&& 858993459)
def jB3 (x : Int32) : Int32 := (x + ((x).toUInt32 >>> ((4 : Int32).toUInt32 &&& Int32.toUInt32 31)).toInt32) &&& 252645135
def jB4 (x : Int32) : Int32 := x + ((x).toUInt32 >>> ((8 : Int32).toUInt32 &&& Int32.toUInt32 31)).toInt32
def jB5 (x : Int32) : Int32 := x + ((x).toUInt32 >>> ((16 : Int32).toUInt32 &&& Int32.toUInt32 31)).toInt32
def jBc32 (x : Int32) : Int32 := jB5 (jB4 (jB3 (jB2 (jB1 x)))) &&& 63
theorem jbc32_d : ∀ f, f < 256 → jBc32 (nI f) = nI (pc8 f) := by decide +kernel
theorem jmn8 {q : Nat} (h : q ≤ 8) : (if (8 : Int32) < nI q then (8 : Int32) else nI q) = nI q := if_neg (by rw [show (8 : Int32) = nI 8 from rfl, nI_ltI (by omega) (by omega)]; omega)
theorem jp2 {q : Nat} (h : q ≤ 12) : 1 ≤ 2 ^ q ∧ 2 ^ q ≤ 4096 := ⟨Nat.two_pow_pos q, Nat.pow_le_pow_right (n := 2) (by omega) h⟩
theorem jp2m {q : Nat} : nI (2 ^ q) - 1 = nI (2 ^ q - 1) := by
  rw [show (1 : Int32) = nI 1 from rfl, pk_sub (Nat.two_pow_pos q)]
theorem jrch {k f q : Nat} (hk : k < 2 ^ q) (hf : f < 2 ^ q) : nI (k ||| f) &&& nI (2 ^ q - 1) = nI (k ||| f) := by
  rw [jandN, Nat.and_two_pow_sub_one_eq_mod, Nat.mod_eq_of_lt (Nat.or_lt_two_pow hk hf)]
set_option maxRecDepth 4000 in
set_option maxHeartbeats 1000000 in
theorem c_bitCount (np : Nat) (mem : jMem) (f : Nat) (hf : f < 256) : jPi yJ6_bitCount_0f7a4 cJ6_bitCount_0f7a4 1 .int 1 [.int (nI f)] np mem (fun v c => v = nI (pc8 f) ∧ c = mem) := by
  refine jPi.of (own := RJ6) rfl rfl (Nat.le_of_ble_eq_true rfl) (fun G X hR hr hE => ?_)
  refine j_iload_n X dJ6_bitCount_0f7a4_0 rfl ?_
  refine j_iload_n X dJ6_bitCount_0f7a4_1 rfl ?_
  refine j_iconst X dJ6_bitCount_0f7a4_2 1 (by decide) ?_
  refine j_iushr X dJ6_bitCount_0f7a4_3 ?_
  refine j_ldcw X dJ6_bitCount_0f7a4_4 u795 ?_
  refine j_iand X dJ6_bitCount_0f7a4_7 ?_
  refine j_isub X dJ6_bitCount_0f7a4_8 ?_
  refine j_istore_n X dJ6_bitCount_0f7a4_9 (by decide) ?_
  refine j_iload_n X dJ6_bitCount_0f7a4_10 rfl ?_
  refine j_ldcw X dJ6_bitCount_0f7a4_11 u796 ?_
  refine j_iand X dJ6_bitCount_0f7a4_14 ?_
  refine j_iload_n X dJ6_bitCount_0f7a4_15 rfl ?_
  refine j_iconst X dJ6_bitCount_0f7a4_16 2 (by decide) ?_
  refine j_iushr X dJ6_bitCount_0f7a4_17 ?_
  refine j_ldcw X dJ6_bitCount_0f7a4_18 u796 ?_
  refine j_iand X dJ6_bitCount_0f7a4_21 ?_
  refine j_iadd X dJ6_bitCount_0f7a4_22 ?_
  refine j_istore_n X dJ6_bitCount_0f7a4_23 (by decide) ?_
  refine j_iload_n X dJ6_bitCount_0f7a4_24 rfl ?_
  refine j_iload_n X dJ6_bitCount_0f7a4_25 rfl ?_
  refine j_iconst X dJ6_bitCount_0f7a4_26 4 (by decide) ?_
  refine j_iushr X dJ6_bitCount_0f7a4_27 ?_
  refine j_iadd X dJ6_bitCount_0f7a4_28 ?_
  refine j_ldcw X dJ6_bitCount_0f7a4_29 u797 ?_
  refine j_iand X dJ6_bitCount_0f7a4_32 ?_
  refine j_istore_n X dJ6_bitCount_0f7a4_33 (by decide) ?_
  refine j_iload_n X dJ6_bitCount_0f7a4_34 rfl ?_
  refine j_iload_n X dJ6_bitCount_0f7a4_35 rfl ?_
  refine j_bipush X dJ6_bitCount_0f7a4_36 8 (by decide) ?_
  refine j_iushr X dJ6_bitCount_0f7a4_38 ?_
  refine j_iadd X dJ6_bitCount_0f7a4_39 ?_
  refine j_istore_n X dJ6_bitCount_0f7a4_40 (by decide) ?_
  refine j_iload_n X dJ6_bitCount_0f7a4_41 rfl ?_
  refine j_iload_n X dJ6_bitCount_0f7a4_42 rfl ?_
  refine j_bipush X dJ6_bitCount_0f7a4_43 16 (by decide) ?_
  refine j_iushr X dJ6_bitCount_0f7a4_45 ?_
  refine j_iadd X dJ6_bitCount_0f7a4_46 ?_
  refine j_istore_n X dJ6_bitCount_0f7a4_47 (by decide) ?_
  refine j_iload_n X dJ6_bitCount_0f7a4_48 rfl ?_
  refine j_bipush X dJ6_bitCount_0f7a4_49 63 (by decide) ?_
  refine j_iand X dJ6_bitCount_0f7a4_51 ?_
  refine s_iret X hE hr dJ6_bitCount_0f7a4_52 rfl ?_
  exact ⟨jbc32_d f hf, rfl⟩
set_option maxRecDepth 4000 in
set_option maxHeartbeats 1000000 in
theorem m_least_bad (np : Nat) (mem : jMem) (b dr d w : Int32) (h : ¬ (jin b 0 5 ∧ jin dr 0 3 ∧ jin d 0 999 ∧ jin w 0 1)) : jPi yX11_least cX11_least 12 .int 3 [.ref 66, .int b, .int dr, .int d, .int w] np mem (fun v c => v = -1000001 ∧ c = jup mem 66 0 0) := by
  refine jPi.of (own := RX11) rfl rfl (Nat.le_of_ble_eq_true rfl) (fun G X hR hr hE => ?_)
  refine j_aload_n X dX11_least_0 rfl ?_
  refine j_iconst X dX11_least_1 0 (by decide) ?_
  refine j_putI X 11 0 (by decide) (by decide) rfl rfl rfl rfl u950 (o66 np) (k66 np) dX11_least_2 ?_
  refine j_iload_n X dX11_least_5 rfl ?_
  refine s_callSi X hR (m_isBearer np _ _) rfl u1221 u1219 u1220 u12 hyX11_isBearer (by decide) (by decide) (Nat.le_of_ble_eq_true rfl) dX11_least_6 (fun v_6 m_6 h_6 => ?_)
  obtain ⟨e1, e2⟩ := h_6; have e1 := e1.symm; have e2 := e2.symm; subst e1; subst e2
  refine j_ifb_eq X 37 dX11_least_9 (by decide) (fun c_9 => ?_) (fun c_9 => ?_)
  · refine j_ldc X dX11_least_37 u1089 ?_
    refine s_iret X hE hr dX11_least_39 rfl ?_
    first | exact ⟨rfl, rfl⟩ | (exfalso; clear hE hr hR X; (try simp only [lg_cmp_lt, lg_cmp_gt, lg_cmp_le, lg_cmp_ge] at *); (try simp (disch := omega) only [Int64.le_iff_toInt_le, Int64.lt_iff_toInt_lt, Int32.le_iff_toInt_le, Int32.lt_iff_toInt_lt, fa_eq, fa_lit, fa_litL, nI_toInt, pk_lT, Int32.toInt_toInt64, jadd64, jin, jnoneT] at *); omega)
  · refine j_iload_n X dX11_least_12 rfl ?_
    refine s_callSi X hR (m_isDoor np _ _) rfl u1269 u1267 u1268 u12 hyX11_isDoor (by decide) (by decide) (Nat.le_of_ble_eq_true rfl) dX11_least_13 (fun v_13 m_13 h_13 => ?_)
    obtain ⟨e1, e2⟩ := h_13; have e1 := e1.symm; have e2 := e2.symm; subst e1; subst e2
    refine j_ifb_eq X 37 dX11_least_16 (by decide) (fun c_16 => ?_) (fun c_16 => ?_)
    · refine j_ldc X dX11_least_37 u1089 ?_
      refine s_iret X hE hr dX11_least_39 rfl ?_
      first | exact ⟨rfl, rfl⟩ | (exfalso; clear hE hr hR X; (try simp only [lg_cmp_lt, lg_cmp_gt, lg_cmp_le, lg_cmp_ge] at *); (try simp (disch := omega) only [Int64.le_iff_toInt_le, Int64.lt_iff_toInt_lt, Int32.le_iff_toInt_le, Int32.lt_iff_toInt_lt, fa_eq, fa_lit, fa_litL, nI_toInt, pk_lT, Int32.toInt_toInt64, jadd64, jin, jnoneT] at *); omega)
    · refine j_iload_n X dX11_least_19 rfl ?_
      refine s_callSi X hR (m_isDay np _ _) rfl u1117 u1115 u1116 u12 hyX11_isDay (by decide) (by decide) (Nat.le_of_ble_eq_true rfl) dX11_least_20 (fun v_20 m_20 h_20 => ?_)
      obtain ⟨e1, e2⟩ := h_20; have e1 := e1.symm; have e2 := e2.symm; subst e1; subst e2
      refine j_ifb_eq X 37 dX11_least_23 (by decide) (fun c_23 => ?_) (fun c_23 => ?_)
      · refine j_ldc X dX11_least_37 u1089 ?_
        refine s_iret X hE hr dX11_least_39 rfl ?_
        first | exact ⟨rfl, rfl⟩ | (exfalso; clear hE hr hR X; (try simp only [lg_cmp_lt, lg_cmp_gt, lg_cmp_le, lg_cmp_ge] at *); (try simp (disch := omega) only [Int64.le_iff_toInt_le, Int64.lt_iff_toInt_lt, Int32.le_iff_toInt_le, Int32.lt_iff_toInt_lt, fa_eq, fa_lit, fa_litL, nI_toInt, pk_lT, Int32.toInt_toInt64, jadd64, jin, jnoneT] at *); omega)
      · refine j_iload X dX11_least_26 rfl ?_
        refine j_i2l X dX11_least_28 ?_
        refine j_lconst X dX11_least_29 0 (by decide) ?_
        refine j_lconst X dX11_least_30 1 (by decide) ?_
        refine s_callSi X hR (m_inI np _ _ _ _ 0 1 rfl rfl) rfl u1087 u1085 u1086 u12 hyX11_in (by decide) (by decide) (Nat.le_of_ble_eq_true rfl) dX11_least_31 (fun v_31 m_31 h_31 => ?_)
        obtain ⟨e1, e2⟩ := h_31; have e1 := e1.symm; have e2 := e2.symm; subst e1; subst e2
        refine j_ifb_ne X 40 dX11_least_34 (by decide) (fun c_34 => ?_) (fun c_34 => ?_)
        · exfalso
          clear hE hr hR X
          (try simp only [lg_cmp_lt, lg_cmp_gt, lg_cmp_le, lg_cmp_ge] at *); (try simp (disch := omega) only [Int64.le_iff_toInt_le, Int64.lt_iff_toInt_lt, Int32.le_iff_toInt_le, Int32.lt_iff_toInt_lt, fa_eq, fa_lit, fa_litL, nI_toInt, pk_lT, Int32.toInt_toInt64, jadd64, jin, jnoneT] at *); omega
        · refine j_ldc X dX11_least_37 u1089 ?_
          refine s_iret X hE hr dX11_least_39 rfl ?_
          first | exact ⟨rfl, rfl⟩ | (exfalso; clear hE hr hR X; (try simp only [lg_cmp_lt, lg_cmp_gt, lg_cmp_le, lg_cmp_ge] at *); (try simp (disch := omega) only [Int64.le_iff_toInt_le, Int64.lt_iff_toInt_lt, Int32.le_iff_toInt_le, Int32.lt_iff_toInt_lt, fa_eq, fa_lit, fa_litL, nI_toInt, pk_lT, Int32.toInt_toInt64, jadd64, jin, jnoneT] at *); omega)
set_option maxRecDepth 4000 in
set_option maxHeartbeats 1000000 in
theorem m_least0_none (np : Nat) (mem : jMem) (b d : Int32) (dr q : Nat) (hb : jin b 0 5) (hdr : dr < 4) (hd : jin d 0 999) (hq : q ≤ 8) (hc : mem 81 dr = nI q) (hA : jAny (fun i => decide (¬ mem 82 (8 * dr + i) ≤ 0 ∧ (mem 80 dr >>> (mem 83 (8 * dr + i) &&& 31)) &&& 1 = 0)) q = true) : jPi yX11_least cX11_least 12 .int 3 [.ref 66, .int b, .int (nI dr), .int d, .int 0] np mem (fun v c => v = -1000000 ∧ c = jup mem 66 0 0) := by
  refine jPi.of (own := RX11) rfl rfl (Nat.le_of_ble_eq_true rfl) (fun G X hR hr hE => ?_)
  refine j_aload_n X dX11_least_0 rfl ?_
  refine j_iconst X dX11_least_1 0 (by decide) ?_
  refine j_putI X 11 0 (by decide) (by decide) rfl rfl rfl rfl u950 (o66 np) (k66 np) dX11_least_2 ?_
  refine j_iload_n X dX11_least_5 rfl ?_
  refine s_callSi X hR (m_isBearer np _ _) rfl u1221 u1219 u1220 u12 hyX11_isBearer (by decide) (by decide) (Nat.le_of_ble_eq_true rfl) dX11_least_6 (fun v_6 m_6 h_6 => ?_)
  obtain ⟨e1, e2⟩ := h_6; have e1 := e1.symm; have e2 := e2.symm; subst e1; subst e2
  refine j_ifb_eq X 37 dX11_least_9 (by decide) (fun c_9 => ?_) (fun c_9 => ?_)
  · exfalso
    clear hE hr hR X
    (try simp only [lg_cmp_lt, lg_cmp_gt, lg_cmp_le, lg_cmp_ge] at *); (try simp (disch := omega) only [Int64.le_iff_toInt_le, Int64.lt_iff_toInt_lt, Int32.le_iff_toInt_le, Int32.lt_iff_toInt_lt, fa_eq, fa_lit, fa_litL, nI_toInt, pk_lT, Int32.toInt_toInt64, jadd64, jin, jnoneT] at *); omega
  · refine j_iload_n X dX11_least_12 rfl ?_
    refine s_callSi X hR (m_isDoor np _ _) rfl u1269 u1267 u1268 u12 hyX11_isDoor (by decide) (by decide) (Nat.le_of_ble_eq_true rfl) dX11_least_13 (fun v_13 m_13 h_13 => ?_)
    obtain ⟨e1, e2⟩ := h_13; have e1 := e1.symm; have e2 := e2.symm; subst e1; subst e2
    refine j_ifb_eq X 37 dX11_least_16 (by decide) (fun c_16 => ?_) (fun c_16 => ?_)
    · exfalso
      clear hE hr hR X
      (try simp only [lg_cmp_lt, lg_cmp_gt, lg_cmp_le, lg_cmp_ge] at *); (try simp (disch := omega) only [Int64.le_iff_toInt_le, Int64.lt_iff_toInt_lt, Int32.le_iff_toInt_le, Int32.lt_iff_toInt_lt, fa_eq, fa_lit, fa_litL, nI_toInt, pk_lT, Int32.toInt_toInt64, jadd64, jin, jnoneT] at *); omega
    · refine j_iload_n X dX11_least_19 rfl ?_
      refine s_callSi X hR (m_isDay np _ _) rfl u1117 u1115 u1116 u12 hyX11_isDay (by decide) (by decide) (Nat.le_of_ble_eq_true rfl) dX11_least_20 (fun v_20 m_20 h_20 => ?_)
      obtain ⟨e1, e2⟩ := h_20; have e1 := e1.symm; have e2 := e2.symm; subst e1; subst e2
      refine j_ifb_eq X 37 dX11_least_23 (by decide) (fun c_23 => ?_) (fun c_23 => ?_)
      · exfalso
        clear hE hr hR X
        (try simp only [lg_cmp_lt, lg_cmp_gt, lg_cmp_le, lg_cmp_ge] at *); (try simp (disch := omega) only [Int64.le_iff_toInt_le, Int64.lt_iff_toInt_lt, Int32.le_iff_toInt_le, Int32.lt_iff_toInt_lt, fa_eq, fa_lit, fa_litL, nI_toInt, pk_lT, Int32.toInt_toInt64, jadd64, jin, jnoneT] at *); omega
      · refine j_iload X dX11_least_26 rfl ?_
        refine j_i2l X dX11_least_28 ?_
        refine j_lconst X dX11_least_29 0 (by decide) ?_
        refine j_lconst X dX11_least_30 1 (by decide) ?_
        refine s_callSi X hR (m_inI np _ _ _ _ 0 1 rfl rfl) rfl u1087 u1085 u1086 u12 hyX11_in (by decide) (by decide) (Nat.le_of_ble_eq_true rfl) dX11_least_31 (fun v_31 m_31 h_31 => ?_)
        obtain ⟨e1, e2⟩ := h_31; have e1 := e1.symm; have e2 := e2.symm; subst e1; subst e2
        refine j_ifb_ne X 40 dX11_least_34 (by decide) (fun c_34 => ?_) (fun c_34 => ?_)
        · refine j_aload_n X dX11_least_40 rfl ?_
          refine j_iload_n X dX11_least_41 rfl ?_
          refine s_callVi X hR (m_asksTooMuch np _ dr q hdr hq hc) rfl 11 (by decide) (o66 np) (k66 np) rfl u1358 u1355 u1357 qp60 u12 hyX11_asksTooMuch (by decide) (by decide) (Nat.le_of_ble_eq_true rfl) dX11_least_42 (fun v_42 m_42 h_42 => ?_)
          obtain ⟨e1, e2⟩ := h_42; have e1 := e1.symm; have e2 := e2.symm; subst e1; subst e2
          refine j_ifb_eq X 51 dX11_least_45 (by decide) (fun c_45 => ?_) (fun c_45 => ?_)
          · exact absurd hA c_45
          · refine j_ldc X dX11_least_48 u949 ?_
            refine s_iret X hE hr dX11_least_50 rfl ?_
            first | exact ⟨rfl, rfl⟩ | (exfalso; clear hE hr hR X; (try simp only [lg_cmp_lt, lg_cmp_gt, lg_cmp_le, lg_cmp_ge] at *); (try simp (disch := omega) only [Int64.le_iff_toInt_le, Int64.lt_iff_toInt_lt, Int32.le_iff_toInt_le, Int32.lt_iff_toInt_lt, fa_eq, fa_lit, fa_litL, nI_toInt, pk_lT, Int32.toInt_toInt64, jadd64, jin, jnoneT] at *); omega)
        · exfalso
          clear hE hr hR X
          (try simp only [lg_cmp_lt, lg_cmp_gt, lg_cmp_le, lg_cmp_ge] at *); (try simp (disch := omega) only [Int64.le_iff_toInt_le, Int64.lt_iff_toInt_lt, Int32.le_iff_toInt_le, Int32.lt_iff_toInt_lt, fa_eq, fa_lit, fa_litL, nI_toInt, pk_lT, Int32.toInt_toInt64, jadd64, jin, jnoneT] at *); omega
set_option maxRecDepth 4000 in
set_option maxHeartbeats 1000000 in
theorem m_least0 (np : Nat) (mem : jMem) (b d : Int32) (dr q : Nat) (hb : jin b 0 5) (hdr : dr < 4) (hd : jin d 0 999) (hq : q ≤ 8) (hc : mem 81 dr = nI q) (hn0 : np ≤ 12) (hp : mem 66 9 = nI np) (hA : ¬ jAny (fun i => decide (¬ mem 82 (8 * dr + i) ≤ 0 ∧ (mem 80 dr >>> (mem 83 (8 * dr + i) &&& 31)) &&& 1 = 0)) q = true) (hoo : ∀ p, p < np → ∃ o, o < 4 ∧ mem 74 (9 * p) = nI o) (hof : ∀ k, k < q → ∃ w, w < 4 ∧ mem 83 (8 * dr + k) = nI w) : jPi yX11_least cX11_least 12 .int 3 [.ref 66, .int b, .int (nI dr), .int d, .int 0] np mem (fun v c => jBest (jIs (fun p => decide (mem 74 (9 * p + 1) = b ∧ jHold (mem 74 (9 * p + 3)) (mem 74 (9 * p + 4)) (mem 75 p) (mem 73 (2 * (mem 74 (9 * p)).toNatClampNeg + 1)) (mem 73 (2 * (mem 74 (9 * p)).toNatClampNeg)) (mem 79 dr) d = 0)) (fun p => jBn (fun k => decide (if mem 82 (8 * dr + k) = 0 then mem 74 (9 * p) = mem 83 (8 * dr + k) else (mem 82 (8 * dr + k) = 1 ∨ mem 84 (8 * dr + k) ≤ mem 74 (9 * p + 5 + (mem 83 (8 * dr + k)).toNatClampNeg)))) q) np (2 ^ q - 1)) 0 v ∧ jeq [86] (jup mem 66 0 0) c) := by
  refine jPi.of (own := RX11) rfl rfl (Nat.le_of_ble_eq_true rfl) (fun G X hR hr hE => ?_)
  refine j_aload_n X dX11_least_0 rfl ?_
  refine j_iconst X dX11_least_1 0 (by decide) ?_
  refine j_putI X 11 0 (by decide) (by decide) rfl rfl rfl rfl u950 (o66 np) (k66 np) dX11_least_2 ?_
  refine j_iload_n X dX11_least_5 rfl ?_
  refine s_callSi X hR (m_isBearer np _ _) rfl u1221 u1219 u1220 u12 hyX11_isBearer (by decide) (by decide) (Nat.le_of_ble_eq_true rfl) dX11_least_6 (fun v_6 m_6 h_6 => ?_)
  obtain ⟨e1, e2⟩ := h_6; have e1 := e1.symm; have e2 := e2.symm; subst e1; subst e2
  refine j_ifb_eq X 37 dX11_least_9 (by decide) (fun c_9 => ?_) (fun c_9 => ?_)
  · exfalso
    clear hE hr hR X
    (try simp only [lg_cmp_lt, lg_cmp_gt, lg_cmp_le, lg_cmp_ge] at *); (try simp (disch := omega) only [Int64.le_iff_toInt_le, Int64.lt_iff_toInt_lt, Int32.le_iff_toInt_le, Int32.lt_iff_toInt_lt, fa_eq, fa_lit, fa_litL, nI_toInt, pk_lT, Int32.toInt_toInt64, jadd64, jin, jnoneT] at *); omega
  · refine j_iload_n X dX11_least_12 rfl ?_
    refine s_callSi X hR (m_isDoor np _ _) rfl u1269 u1267 u1268 u12 hyX11_isDoor (by decide) (by decide) (Nat.le_of_ble_eq_true rfl) dX11_least_13 (fun v_13 m_13 h_13 => ?_)
    obtain ⟨e1, e2⟩ := h_13; have e1 := e1.symm; have e2 := e2.symm; subst e1; subst e2
    refine j_ifb_eq X 37 dX11_least_16 (by decide) (fun c_16 => ?_) (fun c_16 => ?_)
    · exfalso
      clear hE hr hR X
      (try simp only [lg_cmp_lt, lg_cmp_gt, lg_cmp_le, lg_cmp_ge] at *); (try simp (disch := omega) only [Int64.le_iff_toInt_le, Int64.lt_iff_toInt_lt, Int32.le_iff_toInt_le, Int32.lt_iff_toInt_lt, fa_eq, fa_lit, fa_litL, nI_toInt, pk_lT, Int32.toInt_toInt64, jadd64, jin, jnoneT] at *); omega
    · refine j_iload_n X dX11_least_19 rfl ?_
      refine s_callSi X hR (m_isDay np _ _) rfl u1117 u1115 u1116 u12 hyX11_isDay (by decide) (by decide) (Nat.le_of_ble_eq_true rfl) dX11_least_20 (fun v_20 m_20 h_20 => ?_)
      obtain ⟨e1, e2⟩ := h_20; have e1 := e1.symm; have e2 := e2.symm; subst e1; subst e2
      refine j_ifb_eq X 37 dX11_least_23 (by decide) (fun c_23 => ?_) (fun c_23 => ?_)
      · exfalso
        clear hE hr hR X
        (try simp only [lg_cmp_lt, lg_cmp_gt, lg_cmp_le, lg_cmp_ge] at *); (try simp (disch := omega) only [Int64.le_iff_toInt_le, Int64.lt_iff_toInt_lt, Int32.le_iff_toInt_le, Int32.lt_iff_toInt_lt, fa_eq, fa_lit, fa_litL, nI_toInt, pk_lT, Int32.toInt_toInt64, jadd64, jin, jnoneT] at *); omega
      · refine j_iload X dX11_least_26 rfl ?_
        refine j_i2l X dX11_least_28 ?_
        refine j_lconst X dX11_least_29 0 (by decide) ?_
        refine j_lconst X dX11_least_30 1 (by decide) ?_
        refine s_callSi X hR (m_inI np _ _ _ _ 0 1 rfl rfl) rfl u1087 u1085 u1086 u12 hyX11_in (by decide) (by decide) (Nat.le_of_ble_eq_true rfl) dX11_least_31 (fun v_31 m_31 h_31 => ?_)
        obtain ⟨e1, e2⟩ := h_31; have e1 := e1.symm; have e2 := e2.symm; subst e1; subst e2
        refine j_ifb_ne X 40 dX11_least_34 (by decide) (fun c_34 => ?_) (fun c_34 => ?_)
        · refine j_aload_n X dX11_least_40 rfl ?_
          refine j_iload_n X dX11_least_41 rfl ?_
          refine s_callVi X hR (m_asksTooMuch np _ dr q hdr hq hc) rfl 11 (by decide) (o66 np) (k66 np) rfl u1358 u1355 u1357 qp60 u12 hyX11_asksTooMuch (by decide) (by decide) (Nat.le_of_ble_eq_true rfl) dX11_least_42 (fun v_42 m_42 h_42 => ?_)
          obtain ⟨e1, e2⟩ := h_42; have e1 := e1.symm; have e2 := e2.symm; subst e1; subst e2
          refine j_ifb_eq X 51 dX11_least_45 (by decide) (fun c_45 => ?_) (fun c_45 => ?_)
          · refine j_iconst X dX11_least_51 0 (by decide) ?_
            refine j_istore X dX11_least_52 (by decide) ?_
            refine j_iconst X dX11_least_54 0 (by decide) ?_
            refine j_istore X dX11_least_55 (by decide) ?_
            have lp57 : ∀ (n : Nat) (p : Nat) (m2 : jMem), p ≤ np → np + 1 ≤ p + n → jeq [86] (jup mem 66 0 0) m2 → (∀ j, j < p → m2 86 j = nI ((fun p => jBn (fun k => decide (if mem 82 (8 * dr + k) = 0 then mem 74 (9 * p) = mem 83 (8 * dr + k) else (mem 82 (8 * dr + k) = 1 ∨ mem 84 (8 * dr + k) ≤ mem 74 (9 * p + 5 + (mem 83 (8 * dr + k)).toNatClampNeg)))) q) j)) → J G RX11 cX11_least 12 0 0 57 (jlv [some (.ref 66), some (.int b), some (.int (nI dr)), some (.int d), some (.int 0), some (.int (jBits (fun p => decide (mem 74 (9 * p + 1) = b ∧ jHold (mem 74 (9 * p + 3)) (mem 74 (9 * p + 4)) (mem 75 p) (mem 73 (2 * (mem 74 (9 * p)).toNatClampNeg + 1)) (mem 73 (2 * (mem 74 (9 * p)).toNatClampNeg)) (mem 79 dr) d = 0)) nI p)), some (.int (nI p))]) [] (jS np) (m2) := by
              intro n
              induction n with
              | zero =>
                intro p m2 hp3 hn hJ hfit
                exact absurd hn (by omega)
              | succ n ih57 =>
                intro p m2 hp3 hn hJ hfit
                have e74 : m2 74 = mem 74 := hJ 74 (by decide)
                have e73 : m2 73 = mem 73 := hJ 73 (by decide)
                have e75 : m2 75 = mem 75 := hJ 75 (by decide)
                have e79 : m2 79 = mem 79 := hJ 79 (by decide)
                have e81 : m2 81 = mem 81 := hJ 81 (by decide)
                have e82 : m2 82 = mem 82 := hJ 82 (by decide)
                have e83 : m2 83 = mem 83 := hJ 83 (by decide)
                have e84 : m2 84 = mem 84 := hJ 84 (by decide)
                have e66 : m2 66 9 = nI np := by rw [hJ 66 (by decide)]; exact hp
                refine j_iload X dX11_least_57 rfl ?_
                refine j_aload_n X dX11_least_59 rfl ?_
                refine j_getF X 11 9 (by decide) (by decide) rfl u959 (o66 np) (k66 np) (m2 66) rfl dX11_least_60 ?_
                refine j_nrm (nI np) e66 ?_
                refine j_icmp_ge X 121 dX11_least_63 (by decide) (fun c_63 => ?_) (fun c_63 => ?_)
                · obtain rfl : np = p := by clear hE hr hR X hof hoo hfit hJ; (try simp only [lg_cmp_lt, lg_cmp_gt, lg_cmp_le, lg_cmp_ge] at *); (try simp (disch := omega) only [Int64.le_iff_toInt_le, Int64.lt_iff_toInt_lt, Int32.le_iff_toInt_le, Int32.lt_iff_toInt_lt, fa_eq, fa_lit, fa_litL, nI_toInt, pk_lT, Int32.toInt_toInt64, jadd64, jin, jnoneT] at *); omega
                  have hp2n := jp2 hn0
                  have hp2q := jp2 (show q ≤ 12 by omega)
                  have hMl := jBn_lt (g := (fun p => decide (mem 74 (9 * p + 1) = b ∧ jHold (mem 74 (9 * p + 3)) (mem 74 (9 * p + 4)) (mem 75 p) (mem 73 (2 * (mem 74 (9 * p)).toNatClampNeg + 1)) (mem 73 (2 * (mem 74 (9 * p)).toNatClampNeg)) (mem 79 dr) d = 0))) np
                  have hfl : ∀ p, (fun p => jBn (fun k => decide (if mem 82 (8 * dr + k) = 0 then mem 74 (9 * p) = mem 83 (8 * dr + k) else (mem 82 (8 * dr + k) = 1 ∨ mem 84 (8 * dr + k) ≤ mem 74 (9 * p + 5 + (mem 83 (8 * dr + k)).toNatClampNeg)))) q) p < 2 ^ q := fun p => jBn_lt q
                  refine j_ldc X dX11_least_121 u949 ?_
                  refine j_istore X dX11_least_123 (by decide) ?_
                  refine j_iconst X dX11_least_125 0 (by decide) ?_
                  refine j_istore X dX11_least_126 (by decide) ?_
                  refine j_iconst X dX11_least_128 0 (by decide) ?_
                  refine j_istore X dX11_least_129 (by decide) ?_
                  have lp131 : ∀ (n : Nat) (k : Nat) (best least : Int32), k ≤ 2 ^ np → 2 ^ np + 1 ≤ k + n → jMS (fun p => decide (mem 74 (9 * p + 1) = b ∧ jHold (mem 74 (9 * p + 3)) (mem 74 (9 * p + 4)) (mem 75 p) (mem 73 (2 * (mem 74 (9 * p)).toNatClampNeg + 1)) (mem 73 (2 * (mem 74 (9 * p)).toNatClampNeg)) (mem 79 dr) d = 0)) (fun p => jBn (fun k => decide (if mem 82 (8 * dr + k) = 0 then mem 74 (9 * p) = mem 83 (8 * dr + k) else (mem 82 (8 * dr + k) = 1 ∨ mem 84 (8 * dr + k) ≤ mem 74 (9 * p + 5 + (mem 83 (8 * dr + k)).toNatClampNeg)))) q) np (2 ^ q - 1) k best least → J G RX11 cX11_least 12 0 0 131 (jlv [some (.ref 66), some (.int b), some (.int (nI dr)), some (.int d), some (.int 0), some (.int (nI (jBn (fun p => decide (mem 74 (9 * p + 1) = b ∧ jHold (mem 74 (9 * p + 3)) (mem 74 (9 * p + 4)) (mem 75 p) (mem 73 (2 * (mem 74 (9 * p)).toNatClampNeg + 1)) (mem 73 (2 * (mem 74 (9 * p)).toNatClampNeg)) (mem 79 dr) d = 0)) np))), some (.int best), some (.int least), some (.int (nI k))]) [] (jS np) (m2) := by
                    intro n
                    induction n with
                    | zero =>
                      intro k best least hk3 hnk hM
                      exact absurd hnk (by omega)
                    | succ n ih131 =>
                      intro k best least hk3 hnk hM
                      refine j_iload X dX11_least_131 rfl ?_
                      refine j_iconst X dX11_least_133 1 (by decide) ?_
                      refine j_aload_n X dX11_least_134 rfl ?_
                      refine j_getF X 11 9 (by decide) (by decide) rfl u959 (o66 np) (k66 np) (m2 66) rfl dX11_least_135 ?_
                      refine j_nrm (nI np) e66 ?_
                      refine j_ishl X dX11_least_138 ?_
                      refine j_nrm (nI (2 ^ np)) (j1l (by omega)) ?_
                      refine j_icmp_ge X 259 dX11_least_139 (by decide) (fun c_139 => ?_) (fun c_139 => ?_)
                      · obtain rfl : k = 2 ^ np := by
                          rcases Nat.lt_or_ge k (2 ^ np) with z | z
                          · exact absurd c_139 (nI_ge z (by omega))
                          · omega
                        have hEnd := jMS_end hn0 hM
                        refine j_iload X dX11_least_259 rfl ?_
                        refine j_ldc X dX11_least_261 u949 ?_
                        refine j_icmp_eq X 271 dX11_least_263 (by decide) (fun c_263 => ?_) (fun c_263 => ?_)
                        · refine j_iload X dX11_least_271 rfl ?_
                          refine j_goto X 278 dX11_least_273 (by decide) ?_
                          refine s_iret X hE hr dX11_least_278 rfl ?_
                          refine ⟨?_, hJ⟩
                          rcases hEnd with ⟨z1, z2⟩ | ⟨z1, z2, z3⟩
                          · first | exact absurd z1 c_263 | exact Or.inl ⟨z1, z2⟩
                          · first | exact absurd c_263 z1 | exact z2 | exact z3
                        · refine j_iload X dX11_least_266 rfl ?_
                          refine j_if_ne X 276 dX11_least_268 (by decide) (fun c_268 => absurd c_268 (by decide)) (fun c_268 => ?_)
                          refine j_iload X dX11_least_271 rfl ?_
                          refine j_goto X 278 dX11_least_273 (by decide) ?_
                          refine s_iret X hE hr dX11_least_278 rfl ?_
                          refine ⟨?_, hJ⟩
                          rcases hEnd with ⟨z1, z2⟩ | ⟨z1, z2, z3⟩
                          · first | exact absurd z1 c_263 | exact Or.inl ⟨z1, z2⟩
                          · first | exact absurd c_263 z1 | exact z2 | exact z3
                      · have hk2 : k < 2 ^ np := by
                          rcases Nat.lt_or_ge k (2 ^ np) with z | z
                          · exact z
                          · exact absurd ((nI_leI (by omega) (by omega)).mpr z) c_139
                        refine j_iload X dX11_least_142 rfl ?_
                        refine j_iload X dX11_least_144 rfl ?_
                        refine j_iconst X dX11_least_146 (-1) (by decide) ?_
                        refine j_ixor X dX11_least_147 ?_
                        refine j_iand X dX11_least_148 ?_
                        refine j_if_ne X 253 dX11_least_149 (by decide) (fun c_149 => ?_) (fun c_149 => ?_)
                        · refine j_iinc X dX11_least_253 rfl 1 rfl ?_
                          refine j_goto X 131 dX11_least_256 (by decide) ?_
                          refine j_lv [some (.ref 66), some (.int b), some (.int (nI dr)), some (.int d), some (.int 0), some (.int (nI (jBn (fun p => decide (mem 74 (9 * p + 1) = b ∧ jHold (mem 74 (9 * p + 3)) (mem 74 (9 * p + 4)) (mem 75 p) (mem 73 (2 * (mem 74 (9 * p)).toNatClampNeg + 1)) (mem 73 (2 * (mem 74 (9 * p)).toNatClampNeg)) (mem 79 dr) d = 0)) np))), some (.int _), some (.int _), some (.int (nI (k + 1)))] ⟨rfl, rfl, rfl, rfl, rfl, rfl, rfl, rfl, (congrArg (fun z => some (Value.int z)) (nI_1 _)), trivial⟩ ?_
                          exact ih131 (k + 1) _ _ (by omega) (by omega) (by
              first
                | exact jMS_no hM (fun z => c_149 ((jsubset (by omega) (by omega)).mpr (fun p hp4 => by
                    rw [jBn_bit, Bool.and_eq_true]
                    have hp5 : p < np := by
                      rcases Nat.lt_or_ge p np with y | y
                      · exact y
                      · rw [Nat.testBit_lt_two_pow (Nat.lt_of_lt_of_le hk2 (Nat.pow_le_pow_right (by omega) y))] at hp4
                        cases hp4
                    exact ⟨decide_eq_true hp5, z.1 p hp5 hp4⟩)))
                | exact jMS_no hM (fun z => c_228 (congrArg nI z.2))
                | exact jMS_take hn0 (by omega) hM ⟨fun p hp4 hp5 => by
                    have hz := (jsubset (by omega) (by omega)).mp c_149 p hp5
                    rw [jBn_bit, Bool.and_eq_true] at hz
                    exact hz.2, (nI_eq (by omega) (by omega)).mp c_228⟩ (by first | exact Or.inl c_235 | exact Or.inr (Int32.not_le.mp c_242))
                | exact jMS_keep hn0 hM c_235 c_242)
                        · refine j_iconst X dX11_least_152 0 (by decide) ?_
                          refine j_istore X dX11_least_153 (by decide) ?_
                          refine j_iconst X dX11_least_155 0 (by decide) ?_
                          refine j_istore X dX11_least_156 (by decide) ?_
                          refine j_iconst X dX11_least_158 0 (by decide) ?_
                          refine j_istore X dX11_least_159 (by decide) ?_
                          have lp161 : ∀ (n : Nat) (j : Nat), j ≤ np → np + 1 ≤ j + n → J G RX11 cX11_least 12 0 0 161 (jlv [some (.ref 66), some (.int b), some (.int (nI dr)), some (.int d), some (.int 0), some (.int (nI (jBn (fun p => decide (mem 74 (9 * p + 1) = b ∧ jHold (mem 74 (9 * p + 3)) (mem 74 (9 * p + 4)) (mem 75 p) (mem 73 (2 * (mem 74 (9 * p)).toNatClampNeg + 1)) (mem 73 (2 * (mem 74 (9 * p)).toNatClampNeg)) (mem 79 dr) d = 0)) np))), some (.int best), some (.int least), some (.int (nI k)), some (.int (nI (oS (fun p => jBn (fun k => decide (if mem 82 (8 * dr + k) = 0 then mem 74 (9 * p) = mem 83 (8 * dr + k) else (mem 82 (8 * dr + k) = 1 ∨ mem 84 (8 * dr + k) ≤ mem 74 (9 * p + 5 + (mem 83 (8 * dr + k)).toNatClampNeg)))) q) k j))), some (.int (nI (wS (fun p => jBn (fun k => decide (if mem 82 (8 * dr + k) = 0 then mem 74 (9 * p) = mem 83 (8 * dr + k) else (mem 82 (8 * dr + k) = 1 ∨ mem 84 (8 * dr + k) ≤ mem 74 (9 * p + 5 + (mem 83 (8 * dr + k)).toNatClampNeg)))) q) k j))), some (.int (nI j))]) [] (jS np) (m2) := by
                            intro n
                            induction n with
                            | zero =>
                              intro j hj3 hnj
                              exact absurd hnj (by omega)
                            | succ n ih161 =>
                              intro j hj3 hnj
                              refine j_iload X dX11_least_161 rfl ?_
                              refine j_aload_n X dX11_least_163 rfl ?_
                              refine j_getF X 11 9 (by decide) (by decide) rfl u959 (o66 np) (k66 np) (m2 66) rfl dX11_least_164 ?_
                              refine j_nrm (nI np) e66 ?_
                              refine j_icmp_ge X 216 dX11_least_167 (by decide) (fun c_167 => ?_) (fun c_167 => ?_)
                              · obtain rfl : np = j := by clear hE hr hR X hof hoo hfit hJ hM; (try simp only [lg_cmp_lt, lg_cmp_gt, lg_cmp_le, lg_cmp_ge] at *); (try simp (disch := omega) only [Int64.le_iff_toInt_le, Int64.lt_iff_toInt_lt, Int32.le_iff_toInt_le, Int32.lt_iff_toInt_lt, fa_eq, fa_lit, fa_litL, nI_toInt, pk_lT, Int32.toInt_toInt64, jadd64, jin, jnoneT] at *); omega
                                have hol := oS_lt (S := k) (F := (fun p => jBn (fun k => decide (if mem 82 (8 * dr + k) = 0 then mem 74 (9 * p) = mem 83 (8 * dr + k) else (mem 82 (8 * dr + k) = 1 ∨ mem 84 (8 * dr + k) ≤ mem 74 (9 * p + 5 + (mem 83 (8 * dr + k)).toNatClampNeg)))) q)) np (fun p _ => hfl p)
                                refine j_iload X dX11_least_216 rfl ?_
                                refine j_iconst X dX11_least_218 1 (by decide) ?_
                                refine j_aload_n X dX11_least_219 rfl ?_
                                refine j_getR X 11 17 (by decide) (by decide) rfl u967 (o66 np) (k66 np) _ (p66_17 np) dX11_least_220 ?_
                                refine j_iload_n X dX11_least_223 rfl ?_
                                refine j_nrm _ (by first | (simp only [fa_lit, pk_mul, nI_add]; done) | (simp only [fa_lit, pk_mul, nI_add]; rfl) | rfl) ?_
                                refine j_ialdN X (o81 np) (k81 np) (by rw [l81]; omega) (by rw [l81]; decide) (m2 81) rfl dX11_least_224 ?_
                                refine j_nrm (nI q) (by rw [e81]; exact hc) ?_
                                refine j_ishl X dX11_least_225 ?_
                                refine j_nrm (nI (2 ^ q)) (j1l (by omega)) ?_
                                refine j_iconst X dX11_least_226 1 (by decide) ?_
                                refine j_isub X dX11_least_227 ?_
                                refine j_nrm (nI (2 ^ q - 1)) jp2m ?_
                                refine j_icmp_ne X 253 dX11_least_228 (by decide) (fun c_228 => ?_) (fun c_228 => ?_)
                                · refine j_iinc X dX11_least_253 rfl 1 rfl ?_
                                  refine j_goto X 131 dX11_least_256 (by decide) ?_
                                  refine j_lv [some (.ref 66), some (.int b), some (.int (nI dr)), some (.int d), some (.int 0), some (.int (nI (jBn (fun p => decide (mem 74 (9 * p + 1) = b ∧ jHold (mem 74 (9 * p + 3)) (mem 74 (9 * p + 4)) (mem 75 p) (mem 73 (2 * (mem 74 (9 * p)).toNatClampNeg + 1)) (mem 73 (2 * (mem 74 (9 * p)).toNatClampNeg)) (mem 79 dr) d = 0)) np))), some (.int _), some (.int _), some (.int (nI (k + 1)))] ⟨rfl, rfl, rfl, rfl, rfl, rfl, rfl, rfl, (congrArg (fun z => some (Value.int z)) (nI_1 _)), trivial⟩ ?_
                                  exact ih131 (k + 1) _ _ (by omega) (by omega) (by
              first
                | exact jMS_no hM (fun z => c_149 ((jsubset (by omega) (by omega)).mpr (fun p hp4 => by
                    rw [jBn_bit, Bool.and_eq_true]
                    have hp5 : p < np := by
                      rcases Nat.lt_or_ge p np with y | y
                      · exact y
                      · rw [Nat.testBit_lt_two_pow (Nat.lt_of_lt_of_le hk2 (Nat.pow_le_pow_right (by omega) y))] at hp4
                        cases hp4
                    exact ⟨decide_eq_true hp5, z.1 p hp5 hp4⟩)))
                | exact jMS_no hM (fun z => c_228 (congrArg nI z.2))
                | exact jMS_take hn0 (by omega) hM ⟨fun p hp4 hp5 => by
                    have hz := (jsubset (by omega) (by omega)).mp c_149 p hp5
                    rw [jBn_bit, Bool.and_eq_true] at hz
                    exact hz.2, (nI_eq (by omega) (by omega)).mp c_228⟩ (by first | exact Or.inl c_235 | exact Or.inr (Int32.not_le.mp c_242))
                | exact jMS_keep hn0 hM c_235 c_242)
                                · refine j_iload X dX11_least_231 rfl ?_
                                  refine j_ldc X dX11_least_233 u949 ?_
                                  refine j_icmp_eq X 245 dX11_least_235 (by decide) (fun c_235 => ?_) (fun c_235 => ?_)
                                  · refine j_iload X dX11_least_245 rfl ?_
                                    refine j_istore X dX11_least_247 (by decide) ?_
                                    refine j_iload X dX11_least_249 rfl ?_
                                    refine j_istore X dX11_least_251 (by decide) ?_
                                    refine j_iinc X dX11_least_253 rfl 1 rfl ?_
                                    refine j_goto X 131 dX11_least_256 (by decide) ?_
                                    refine j_lv [some (.ref 66), some (.int b), some (.int (nI dr)), some (.int d), some (.int 0), some (.int (nI (jBn (fun p => decide (mem 74 (9 * p + 1) = b ∧ jHold (mem 74 (9 * p + 3)) (mem 74 (9 * p + 4)) (mem 75 p) (mem 73 (2 * (mem 74 (9 * p)).toNatClampNeg + 1)) (mem 73 (2 * (mem 74 (9 * p)).toNatClampNeg)) (mem 79 dr) d = 0)) np))), some (.int _), some (.int _), some (.int (nI (k + 1)))] ⟨rfl, rfl, rfl, rfl, rfl, rfl, rfl, rfl, (congrArg (fun z => some (Value.int z)) (nI_1 _)), trivial⟩ ?_
                                    exact ih131 (k + 1) _ _ (by omega) (by omega) (by
              first
                | exact jMS_no hM (fun z => c_149 ((jsubset (by omega) (by omega)).mpr (fun p hp4 => by
                    rw [jBn_bit, Bool.and_eq_true]
                    have hp5 : p < np := by
                      rcases Nat.lt_or_ge p np with y | y
                      · exact y
                      · rw [Nat.testBit_lt_two_pow (Nat.lt_of_lt_of_le hk2 (Nat.pow_le_pow_right (by omega) y))] at hp4
                        cases hp4
                    exact ⟨decide_eq_true hp5, z.1 p hp5 hp4⟩)))
                | exact jMS_no hM (fun z => c_228 (congrArg nI z.2))
                | exact jMS_take hn0 (by omega) hM ⟨fun p hp4 hp5 => by
                    have hz := (jsubset (by omega) (by omega)).mp c_149 p hp5
                    rw [jBn_bit, Bool.and_eq_true] at hz
                    exact hz.2, (nI_eq (by omega) (by omega)).mp c_228⟩ (by first | exact Or.inl c_235 | exact Or.inr (Int32.not_le.mp c_242))
                | exact jMS_keep hn0 hM c_235 c_242)
                                  · refine j_iload X dX11_least_238 rfl ?_
                                    refine j_iload X dX11_least_240 rfl ?_
                                    refine j_icmp_ge X 253 dX11_least_242 (by decide) (fun c_242 => ?_) (fun c_242 => ?_)
                                    · refine j_iinc X dX11_least_253 rfl 1 rfl ?_
                                      refine j_goto X 131 dX11_least_256 (by decide) ?_
                                      refine j_lv [some (.ref 66), some (.int b), some (.int (nI dr)), some (.int d), some (.int 0), some (.int (nI (jBn (fun p => decide (mem 74 (9 * p + 1) = b ∧ jHold (mem 74 (9 * p + 3)) (mem 74 (9 * p + 4)) (mem 75 p) (mem 73 (2 * (mem 74 (9 * p)).toNatClampNeg + 1)) (mem 73 (2 * (mem 74 (9 * p)).toNatClampNeg)) (mem 79 dr) d = 0)) np))), some (.int _), some (.int _), some (.int (nI (k + 1)))] ⟨rfl, rfl, rfl, rfl, rfl, rfl, rfl, rfl, (congrArg (fun z => some (Value.int z)) (nI_1 _)), trivial⟩ ?_
                                      exact ih131 (k + 1) _ _ (by omega) (by omega) (by
              first
                | exact jMS_no hM (fun z => c_149 ((jsubset (by omega) (by omega)).mpr (fun p hp4 => by
                    rw [jBn_bit, Bool.and_eq_true]
                    have hp5 : p < np := by
                      rcases Nat.lt_or_ge p np with y | y
                      · exact y
                      · rw [Nat.testBit_lt_two_pow (Nat.lt_of_lt_of_le hk2 (Nat.pow_le_pow_right (by omega) y))] at hp4
                        cases hp4
                    exact ⟨decide_eq_true hp5, z.1 p hp5 hp4⟩)))
                | exact jMS_no hM (fun z => c_228 (congrArg nI z.2))
                | exact jMS_take hn0 (by omega) hM ⟨fun p hp4 hp5 => by
                    have hz := (jsubset (by omega) (by omega)).mp c_149 p hp5
                    rw [jBn_bit, Bool.and_eq_true] at hz
                    exact hz.2, (nI_eq (by omega) (by omega)).mp c_228⟩ (by first | exact Or.inl c_235 | exact Or.inr (Int32.not_le.mp c_242))
                | exact jMS_keep hn0 hM c_235 c_242)
                                    · refine j_iload X dX11_least_245 rfl ?_
                                      refine j_istore X dX11_least_247 (by decide) ?_
                                      refine j_iload X dX11_least_249 rfl ?_
                                      refine j_istore X dX11_least_251 (by decide) ?_
                                      refine j_iinc X dX11_least_253 rfl 1 rfl ?_
                                      refine j_goto X 131 dX11_least_256 (by decide) ?_
                                      refine j_lv [some (.ref 66), some (.int b), some (.int (nI dr)), some (.int d), some (.int 0), some (.int (nI (jBn (fun p => decide (mem 74 (9 * p + 1) = b ∧ jHold (mem 74 (9 * p + 3)) (mem 74 (9 * p + 4)) (mem 75 p) (mem 73 (2 * (mem 74 (9 * p)).toNatClampNeg + 1)) (mem 73 (2 * (mem 74 (9 * p)).toNatClampNeg)) (mem 79 dr) d = 0)) np))), some (.int _), some (.int _), some (.int (nI (k + 1)))] ⟨rfl, rfl, rfl, rfl, rfl, rfl, rfl, rfl, (congrArg (fun z => some (Value.int z)) (nI_1 _)), trivial⟩ ?_
                                      exact ih131 (k + 1) _ _ (by omega) (by omega) (by
              first
                | exact jMS_no hM (fun z => c_149 ((jsubset (by omega) (by omega)).mpr (fun p hp4 => by
                    rw [jBn_bit, Bool.and_eq_true]
                    have hp5 : p < np := by
                      rcases Nat.lt_or_ge p np with y | y
                      · exact y
                      · rw [Nat.testBit_lt_two_pow (Nat.lt_of_lt_of_le hk2 (Nat.pow_le_pow_right (by omega) y))] at hp4
                        cases hp4
                    exact ⟨decide_eq_true hp5, z.1 p hp5 hp4⟩)))
                | exact jMS_no hM (fun z => c_228 (congrArg nI z.2))
                | exact jMS_take hn0 (by omega) hM ⟨fun p hp4 hp5 => by
                    have hz := (jsubset (by omega) (by omega)).mp c_149 p hp5
                    rw [jBn_bit, Bool.and_eq_true] at hz
                    exact hz.2, (nI_eq (by omega) (by omega)).mp c_228⟩ (by first | exact Or.inl c_235 | exact Or.inr (Int32.not_le.mp c_242))
                | exact jMS_keep hn0 hM c_235 c_242)
                              · have hj2 : j < np := by clear hE hr hR X hof hoo hfit hJ hM; (try simp only [lg_cmp_lt, lg_cmp_gt, lg_cmp_le, lg_cmp_ge] at *); (try simp (disch := omega) only [Int64.le_iff_toInt_le, Int64.lt_iff_toInt_lt, Int32.le_iff_toInt_le, Int32.lt_iff_toInt_lt, fa_eq, fa_lit, fa_litL, nI_toInt, pk_lT, Int32.toInt_toInt64, jadd64, jin, jnoneT] at *); omega
                                refine j_iload X dX11_least_170 rfl ?_
                                refine j_iload X dX11_least_172 rfl ?_
                                refine j_ishr X dX11_least_174 ?_
                                refine j_iconst X dX11_least_175 1 (by decide) ?_
                                refine j_iand X dX11_least_176 ?_
                                refine j_iconst X dX11_least_177 1 (by decide) ?_
                                refine j_icmp_ne X 210 dX11_least_178 (by decide) (fun c_178 => ?_) (fun c_178 => ?_)
                                · refine j_iinc X dX11_least_210 rfl 1 rfl ?_
                                  refine j_goto X 161 dX11_least_213 (by decide) ?_
                                  refine j_lv [some (.ref 66), some (.int b), some (.int (nI dr)), some (.int d), some (.int 0), some (.int (nI (jBn (fun p => decide (mem 74 (9 * p + 1) = b ∧ jHold (mem 74 (9 * p + 3)) (mem 74 (9 * p + 4)) (mem 75 p) (mem 73 (2 * (mem 74 (9 * p)).toNatClampNeg + 1)) (mem 73 (2 * (mem 74 (9 * p)).toNatClampNeg)) (mem 79 dr) d = 0)) np))), some (.int best), some (.int least), some (.int (nI k)), some (.int (nI (oS (fun p => jBn (fun k => decide (if mem 82 (8 * dr + k) = 0 then mem 74 (9 * p) = mem 83 (8 * dr + k) else (mem 82 (8 * dr + k) = 1 ∨ mem 84 (8 * dr + k) ≤ mem 74 (9 * p + 5 + (mem 83 (8 * dr + k)).toNatClampNeg)))) q) k (j + 1)))), some (.int (nI (wS (fun p => jBn (fun k => decide (if mem 82 (8 * dr + k) = 0 then mem 74 (9 * p) = mem 83 (8 * dr + k) else (mem 82 (8 * dr + k) = 1 ∨ mem 84 (8 * dr + k) ≤ mem 74 (9 * p + 5 + (mem 83 (8 * dr + k)).toNatClampNeg)))) q) k (j + 1)))), some (.int (nI (j + 1)))] ⟨rfl, rfl, rfl, rfl, rfl, rfl, rfl, rfl, rfl, (congrArg (fun z => some (Value.int z)) (congrArg nI (by first | exact (show oS (fun p => jBn (fun k => decide (if mem 82 (8 * dr + k) = 0 then mem 74 (9 * p) = mem 83 (8 * dr + k) else (mem 82 (8 * dr + k) = 1 ∨ mem 84 (8 * dr + k) ≤ mem 74 (9 * p + 5 + (mem 83 (8 * dr + k)).toNatClampNeg)))) q) k (j + 1) = _ from if_pos ((jbit (by omega) (by omega)).mp c_178)).symm | exact (show oS (fun p => jBn (fun k => decide (if mem 82 (8 * dr + k) = 0 then mem 74 (9 * p) = mem 83 (8 * dr + k) else (mem 82 (8 * dr + k) = 1 ∨ mem 84 (8 * dr + k) ≤ mem 74 (9 * p + 5 + (mem 83 (8 * dr + k)).toNatClampNeg)))) q) k (j + 1) = _ from if_neg (fun z => c_178 ((jbit (by omega) (by omega)).mpr z))).symm))), (congrArg (fun z => some (Value.int z)) (congrArg nI (by first | exact (show wS (fun p => jBn (fun k => decide (if mem 82 (8 * dr + k) = 0 then mem 74 (9 * p) = mem 83 (8 * dr + k) else (mem 82 (8 * dr + k) = 1 ∨ mem 84 (8 * dr + k) ≤ mem 74 (9 * p + 5 + (mem 83 (8 * dr + k)).toNatClampNeg)))) q) k (j + 1) = _ from if_pos ((jbit (by omega) (by omega)).mp c_178)).symm | exact (show wS (fun p => jBn (fun k => decide (if mem 82 (8 * dr + k) = 0 then mem 74 (9 * p) = mem 83 (8 * dr + k) else (mem 82 (8 * dr + k) = 1 ∨ mem 84 (8 * dr + k) ≤ mem 74 (9 * p + 5 + (mem 83 (8 * dr + k)).toNatClampNeg)))) q) k (j + 1) = _ from if_neg (fun z => c_178 ((jbit (by omega) (by omega)).mpr z))).symm))), (congrArg (fun z => some (Value.int z)) (nI_1 _)), trivial⟩ ?_
                                  exact ih161 (j + 1) (by omega) (by omega)
                                · refine j_iload X dX11_least_181 rfl ?_
                                  refine j_aload_n X dX11_least_183 rfl ?_
                                  refine j_getR X 11 33 (by decide) (by decide) rfl u983 (o66 np) (k66 np) _ (p66_33 np) dX11_least_184 ?_
                                  refine j_iload X dX11_least_187 rfl ?_
                                  refine j_nrm _ (by first | (simp only [fa_lit, pk_mul, nI_add]; done) | (simp only [fa_lit, pk_mul, nI_add]; rfl) | rfl) ?_
                                  refine j_ialdN X (o86 np) (k86 np) (by rw [l86]; omega) (by rw [l86]; decide) (m2 86) rfl dX11_least_189 ?_
                                  refine j_nrm (nI ((fun p => jBn (fun k => decide (if mem 82 (8 * dr + k) = 0 then mem 74 (9 * p) = mem 83 (8 * dr + k) else (mem 82 (8 * dr + k) = 1 ∨ mem 84 (8 * dr + k) ≤ mem 74 (9 * p + 5 + (mem 83 (8 * dr + k)).toNatClampNeg)))) q) j)) (hfit j hj2) ?_
                                  refine j_ior X dX11_least_190 ?_
                                  refine j_nrm (nI (oS (fun p => jBn (fun k => decide (if mem 82 (8 * dr + k) = 0 then mem 74 (9 * p) = mem 83 (8 * dr + k) else (mem 82 (8 * dr + k) = 1 ∨ mem 84 (8 * dr + k) ≤ mem 74 (9 * p + 5 + (mem 83 (8 * dr + k)).toNatClampNeg)))) q) k j ||| (fun p => jBn (fun k => decide (if mem 82 (8 * dr + k) = 0 then mem 74 (9 * p) = mem 83 (8 * dr + k) else (mem 82 (8 * dr + k) = 1 ∨ mem 84 (8 * dr + k) ≤ mem 74 (9 * p + 5 + (mem 83 (8 * dr + k)).toNatClampNeg)))) q) j)) (jorN _ _) ?_
                                  refine j_istore X dX11_least_191 (by decide) ?_
                                  refine j_iload X dX11_least_193 rfl ?_
                                  refine j_iconst X dX11_least_195 1 (by decide) ?_
                                  refine j_aload_n X dX11_least_196 rfl ?_
                                  refine j_getR X 11 33 (by decide) (by decide) rfl u983 (o66 np) (k66 np) _ (p66_33 np) dX11_least_197 ?_
                                  refine j_iload X dX11_least_200 rfl ?_
                                  refine j_nrm _ (by first | (simp only [fa_lit, pk_mul, nI_add]; done) | (simp only [fa_lit, pk_mul, nI_add]; rfl) | rfl) ?_
                                  refine j_ialdN X (o86 np) (k86 np) (by rw [l86]; omega) (by rw [l86]; decide) (m2 86) rfl dX11_least_202 ?_
                                  refine j_nrm (nI ((fun p => jBn (fun k => decide (if mem 82 (8 * dr + k) = 0 then mem 74 (9 * p) = mem 83 (8 * dr + k) else (mem 82 (8 * dr + k) = 1 ∨ mem 84 (8 * dr + k) ≤ mem 74 (9 * p + 5 + (mem 83 (8 * dr + k)).toNatClampNeg)))) q) j)) (hfit j hj2) ?_
                                  refine s_callSi X hR (m_bits np _ _) rfl u1369 u1367 u1368 u12 hyX11_bits (by decide) (by decide) (Nat.le_of_ble_eq_true rfl) dX11_least_203 (fun v_203 m_203 h_203 => ?_)
                                  obtain ⟨e1, e2⟩ := h_203; have e1 := e1.symm; have e2 := e2.symm; subst e1; subst e2
                                  refine j_nrm (nI (pc8 ((fun p => jBn (fun k => decide (if mem 82 (8 * dr + k) = 0 then mem 74 (9 * p) = mem 83 (8 * dr + k) else (mem 82 (8 * dr + k) = 1 ∨ mem 84 (8 * dr + k) ≤ mem 74 (9 * p + 5 + (mem 83 (8 * dr + k)).toNatClampNeg)))) q) j))) (jBc_d _ (Nat.lt_of_lt_of_le (hfl j) (Nat.pow_le_pow_right (by omega) hq : 2 ^ q ≤ 2 ^ 8))) ?_
                                  refine j_iadd X dX11_least_206 ?_
                                  refine j_iadd X dX11_least_207 ?_
                                  refine j_nrm (nI (wS (fun p => jBn (fun k => decide (if mem 82 (8 * dr + k) = 0 then mem 74 (9 * p) = mem 83 (8 * dr + k) else (mem 82 (8 * dr + k) = 1 ∨ mem 84 (8 * dr + k) ≤ mem 74 (9 * p + 5 + (mem 83 (8 * dr + k)).toNatClampNeg)))) q) k j + (1 + pc8 ((fun p => jBn (fun k => decide (if mem 82 (8 * dr + k) = 0 then mem 74 (9 * p) = mem 83 (8 * dr + k) else (mem 82 (8 * dr + k) = 1 ∨ mem 84 (8 * dr + k) ≤ mem 74 (9 * p + 5 + (mem 83 (8 * dr + k)).toNatClampNeg)))) q) j)))) (by rw [show (1 : Int32) = nI 1 from rfl, nI_add, nI_add]) ?_
                                  refine j_istore X dX11_least_208 (by decide) ?_
                                  refine j_iinc X dX11_least_210 rfl 1 rfl ?_
                                  refine j_goto X 161 dX11_least_213 (by decide) ?_
                                  refine j_lv [some (.ref 66), some (.int b), some (.int (nI dr)), some (.int d), some (.int 0), some (.int (nI (jBn (fun p => decide (mem 74 (9 * p + 1) = b ∧ jHold (mem 74 (9 * p + 3)) (mem 74 (9 * p + 4)) (mem 75 p) (mem 73 (2 * (mem 74 (9 * p)).toNatClampNeg + 1)) (mem 73 (2 * (mem 74 (9 * p)).toNatClampNeg)) (mem 79 dr) d = 0)) np))), some (.int best), some (.int least), some (.int (nI k)), some (.int (nI (oS (fun p => jBn (fun k => decide (if mem 82 (8 * dr + k) = 0 then mem 74 (9 * p) = mem 83 (8 * dr + k) else (mem 82 (8 * dr + k) = 1 ∨ mem 84 (8 * dr + k) ≤ mem 74 (9 * p + 5 + (mem 83 (8 * dr + k)).toNatClampNeg)))) q) k (j + 1)))), some (.int (nI (wS (fun p => jBn (fun k => decide (if mem 82 (8 * dr + k) = 0 then mem 74 (9 * p) = mem 83 (8 * dr + k) else (mem 82 (8 * dr + k) = 1 ∨ mem 84 (8 * dr + k) ≤ mem 74 (9 * p + 5 + (mem 83 (8 * dr + k)).toNatClampNeg)))) q) k (j + 1)))), some (.int (nI (j + 1)))] ⟨rfl, rfl, rfl, rfl, rfl, rfl, rfl, rfl, rfl, (congrArg (fun z => some (Value.int z)) (congrArg nI (by first | exact (show oS (fun p => jBn (fun k => decide (if mem 82 (8 * dr + k) = 0 then mem 74 (9 * p) = mem 83 (8 * dr + k) else (mem 82 (8 * dr + k) = 1 ∨ mem 84 (8 * dr + k) ≤ mem 74 (9 * p + 5 + (mem 83 (8 * dr + k)).toNatClampNeg)))) q) k (j + 1) = _ from if_pos ((jbit (by omega) (by omega)).mp c_178)).symm | exact (show oS (fun p => jBn (fun k => decide (if mem 82 (8 * dr + k) = 0 then mem 74 (9 * p) = mem 83 (8 * dr + k) else (mem 82 (8 * dr + k) = 1 ∨ mem 84 (8 * dr + k) ≤ mem 74 (9 * p + 5 + (mem 83 (8 * dr + k)).toNatClampNeg)))) q) k (j + 1) = _ from if_neg (fun z => c_178 ((jbit (by omega) (by omega)).mpr z))).symm))), (congrArg (fun z => some (Value.int z)) (congrArg nI (by first | exact (show wS (fun p => jBn (fun k => decide (if mem 82 (8 * dr + k) = 0 then mem 74 (9 * p) = mem 83 (8 * dr + k) else (mem 82 (8 * dr + k) = 1 ∨ mem 84 (8 * dr + k) ≤ mem 74 (9 * p + 5 + (mem 83 (8 * dr + k)).toNatClampNeg)))) q) k (j + 1) = _ from if_pos ((jbit (by omega) (by omega)).mp c_178)).symm | exact (show wS (fun p => jBn (fun k => decide (if mem 82 (8 * dr + k) = 0 then mem 74 (9 * p) = mem 83 (8 * dr + k) else (mem 82 (8 * dr + k) = 1 ∨ mem 84 (8 * dr + k) ≤ mem 74 (9 * p + 5 + (mem 83 (8 * dr + k)).toNatClampNeg)))) q) k (j + 1) = _ from if_neg (fun z => c_178 ((jbit (by omega) (by omega)).mpr z))).symm))), (congrArg (fun z => some (Value.int z)) (nI_1 _)), trivial⟩ ?_
                                  exact ih161 (j + 1) (by omega) (by omega)
                          refine j_lv [some (.ref 66), some (.int b), some (.int (nI dr)), some (.int d), some (.int 0), some (.int (nI (jBn (fun p => decide (mem 74 (9 * p + 1) = b ∧ jHold (mem 74 (9 * p + 3)) (mem 74 (9 * p + 4)) (mem 75 p) (mem 73 (2 * (mem 74 (9 * p)).toNatClampNeg + 1)) (mem 73 (2 * (mem 74 (9 * p)).toNatClampNeg)) (mem 79 dr) d = 0)) np))), some (.int best), some (.int least), some (.int (nI k)), some (.int (nI (oS (fun p => jBn (fun k => decide (if mem 82 (8 * dr + k) = 0 then mem 74 (9 * p) = mem 83 (8 * dr + k) else (mem 82 (8 * dr + k) = 1 ∨ mem 84 (8 * dr + k) ≤ mem 74 (9 * p + 5 + (mem 83 (8 * dr + k)).toNatClampNeg)))) q) k 0))), some (.int (nI (wS (fun p => jBn (fun k => decide (if mem 82 (8 * dr + k) = 0 then mem 74 (9 * p) = mem 83 (8 * dr + k) else (mem 82 (8 * dr + k) = 1 ∨ mem 84 (8 * dr + k) ≤ mem 74 (9 * p + 5 + (mem 83 (8 * dr + k)).toNatClampNeg)))) q) k 0))), some (.int (nI 0))] ⟨rfl, rfl, rfl, rfl, rfl, rfl, rfl, rfl, rfl, rfl, rfl, rfl, trivial⟩ ?_
                          exact lp161 (np + 1) 0 (by omega) (by omega)
                  refine j_lv [some (.ref 66), some (.int b), some (.int (nI dr)), some (.int d), some (.int 0), some (.int (nI (jBn (fun p => decide (mem 74 (9 * p + 1) = b ∧ jHold (mem 74 (9 * p + 3)) (mem 74 (9 * p + 4)) (mem 75 p) (mem 73 (2 * (mem 74 (9 * p)).toNatClampNeg + 1)) (mem 73 (2 * (mem 74 (9 * p)).toNatClampNeg)) (mem 79 dr) d = 0)) np))), some (.int (-1000000)), some (.int 0), some (.int (nI 0))] ⟨rfl, rfl, rfl, rfl, rfl, (congrArg (fun z => some (Value.int z)) (jBits_n _ (by omega))), rfl, rfl, rfl, trivial⟩ ?_
                  exact lp131 (2 ^ np + 1) 0 _ _ (by omega) (by omega) (Or.inl ⟨rfl, fun S hS => absurd hS (by omega)⟩)
                · have hk2 : p < np := by clear hE hr hR X hof hoo hfit hJ; (try simp only [lg_cmp_lt, lg_cmp_gt, lg_cmp_le, lg_cmp_ge] at *); (try simp (disch := omega) only [Int64.le_iff_toInt_le, Int64.lt_iff_toInt_lt, Int32.le_iff_toInt_le, Int32.lt_iff_toInt_lt, fa_eq, fa_lit, fa_litL, nI_toInt, pk_lT, Int32.toInt_toInt64, jadd64, jin, jnoneT] at *); omega
                  obtain ⟨o, ho1, ho2⟩ := hoo p hk2
                  have hg1 : (fun p => decide (mem 74 (9 * p + 1) = b ∧ jHold (mem 74 (9 * p + 3)) (mem 74 (9 * p + 4)) (mem 75 p) (mem 73 (2 * (mem 74 (9 * p)).toNatClampNeg + 1)) (mem 73 (2 * (mem 74 (9 * p)).toNatClampNeg)) (mem 79 dr) d = 0)) p = decide (mem 74 (9 * p + 1) = b ∧ jHold (mem 74 (9 * p + 3)) (mem 74 (9 * p + 4)) (mem 75 p) (mem 73 (2 * o + 1)) (mem 73 (2 * o)) (mem 79 dr) d = 0) := by simp only [ho2, nI_clamp (show o < 2 ^ 31 by omega)]
                  refine j_iload X dX11_least_66 rfl ?_
                  refine j_aload_n X dX11_least_68 rfl ?_
                  refine j_iload X dX11_least_69 rfl ?_
                  refine j_iconst X dX11_least_71 1 (by decide) ?_
                  refine s_callVi X hR (m_of np _ p 1 (by omega) (by omega)) rfl 11 (by decide) (o66 np) (k66 np) rfl u1180 u1177 u1179 qp44 u12 hyX11_of (by decide) (by decide) (Nat.le_of_ble_eq_true rfl) dX11_least_72 (fun v_72 m_72 h_72 => ?_)
                  obtain ⟨e1, e2⟩ := h_72; have e1 := e1.symm; have e2 := e2.symm; subst e1; subst e2
                  refine j_nrm (mem 74 (9 * p + 1)) (by rw [e74]) ?_
                  refine j_iload_n X dX11_least_75 rfl ?_
                  refine j_icmp_ne X 97 dX11_least_76 (by decide) (fun c_76 => ?_) (fun c_76 => ?_)
                  · refine j_iconst X dX11_least_97 0 (by decide) ?_
                    refine j_ior X dX11_least_98 ?_
                    refine j_istore X dX11_least_99 (by decide) ?_
                    refine j_aload_n X dX11_least_101 rfl ?_
                    refine j_getR X 11 33 (by decide) (by decide) rfl u983 (o66 np) (k66 np) _ (p66_33 np) dX11_least_102 ?_
                    refine j_iload X dX11_least_105 rfl ?_
                    refine j_aload_n X dX11_least_107 rfl ?_
                    refine j_iload X dX11_least_108 rfl ?_
                    refine j_iload_n X dX11_least_110 rfl ?_
                    refine s_callVi X hR (m_fitsOf np _ p dr q (by omega) hdr hq (by rw [e81]; exact hc) (fun k hk => by rw [e83]; exact hof k hk)) rfl 11 (by decide) (o66 np) (k66 np) rfl u1366 u1363 u1365 qp61 u12 hyX11_fitsOf (by decide) (by decide) (Nat.le_of_ble_eq_true rfl) dX11_least_111 (fun v_111 m_111 h_111 => ?_)
                    obtain ⟨e1, e2⟩ := h_111; have e1 := e1.symm; have e2 := e2.symm; subst e1; subst e2
                    refine j_nrm (nI ((fun p => jBn (fun k => decide (if mem 82 (8 * dr + k) = 0 then mem 74 (9 * p) = mem 83 (8 * dr + k) else (mem 82 (8 * dr + k) = 1 ∨ mem 84 (8 * dr + k) ≤ mem 74 (9 * p + 5 + (mem 83 (8 * dr + k)).toNatClampNeg)))) q) p)) (by simp only [e74, e73, e75, e79, e81, e82, e83, e84]; exact jBits_n q (by omega)) ?_
                    refine j_nrm2 _ (by first | (simp only [fa_lit, pk_mul, nI_add]; done) | (simp only [fa_lit, pk_mul, nI_add]; rfl) | rfl) ?_
                    refine j_iastN X (o86 np) (k86 np) (by rw [l86]; omega) (by rw [l86]; decide) dX11_least_114 ?_
                    refine j_iinc X dX11_least_115 rfl 1 rfl ?_
                    refine j_goto X 57 dX11_least_118 (by decide) ?_
                    refine j_lv [some (.ref 66), some (.int b), some (.int (nI dr)), some (.int d), some (.int 0), some (.int (jBits (fun p => decide (mem 74 (9 * p + 1) = b ∧ jHold (mem 74 (9 * p + 3)) (mem 74 (9 * p + 4)) (mem 75 p) (mem 73 (2 * (mem 74 (9 * p)).toNatClampNeg + 1)) (mem 73 (2 * (mem 74 (9 * p)).toNatClampNeg)) (mem 79 dr) d = 0)) nI (p + 1))), some (.int (nI (p + 1)))] ⟨rfl, rfl, rfl, rfl, rfl, (congrArg (fun z => some (Value.int z)) (by first | exact jBits_t (g := (fun p => decide (mem 74 (9 * p + 1) = b ∧ jHold (mem 74 (9 * p + 3)) (mem 74 (9 * p + 4)) (mem 75 p) (mem 73 (2 * (mem 74 (9 * p)).toNatClampNeg + 1)) (mem 73 (2 * (mem 74 (9 * p)).toNatClampNeg)) (mem 79 dr) d = 0))) (b := nI) (hg1.trans (decide_eq_true ⟨c_76, c_87⟩)) | exact jBits_f (g := (fun p => decide (mem 74 (9 * p + 1) = b ∧ jHold (mem 74 (9 * p + 3)) (mem 74 (9 * p + 4)) (mem 75 p) (mem 73 (2 * (mem 74 (9 * p)).toNatClampNeg + 1)) (mem 73 (2 * (mem 74 (9 * p)).toNatClampNeg)) (mem 79 dr) d = 0))) (b := nI) (fun z => c_87 (of_decide_eq_true (hg1.symm.trans z)).2) | exact jBits_f (g := (fun p => decide (mem 74 (9 * p + 1) = b ∧ jHold (mem 74 (9 * p + 3)) (mem 74 (9 * p + 4)) (mem 75 p) (mem 73 (2 * (mem 74 (9 * p)).toNatClampNeg + 1)) (mem 73 (2 * (mem 74 (9 * p)).toNatClampNeg)) (mem 79 dr) d = 0))) (b := nI) (fun z => c_76 (of_decide_eq_true (hg1.symm.trans z)).1))), (congrArg (fun z => some (Value.int z)) (nI_1 _)), trivial⟩ ?_
                    exact ih57 (p + 1) _ (by omega) (by omega) (jeq.up hJ (by decide)) (fun j hj => by
              by_cases e : j = p
              · subst e
                simp [jup, va_up]
              · have := hfit j (by omega)
                simp only [jup, va_up, e, if_true, if_false]
                exact this)
                  · refine j_aload_n X dX11_least_79 rfl ?_
                    refine j_iload X dX11_least_80 rfl ?_
                    refine j_iload_n X dX11_least_82 rfl ?_
                    refine j_iload_n X dX11_least_83 rfl ?_
                    refine s_callVi X hR (m_holdsAt np _ p dr o d (by omega) hdr ho1 (by rw [e74]; exact ho2)) rfl 11 (by decide) (o66 np) (k66 np) rfl u1281 u1278 u1280 qp49 u12 hyX11_holdsAt (by decide) (by decide) (Nat.le_of_ble_eq_true rfl) dX11_least_84 (fun v_84 m_84 h_84 => ?_)
                    obtain ⟨e1, e2⟩ := h_84; have e1 := e1.symm; have e2 := e2.symm; subst e1; subst e2
                    refine j_nrm (jHold (mem 74 (9 * p + 3)) (mem 74 (9 * p + 4)) (mem 75 p) (mem 73 (2 * o + 1)) (mem 73 (2 * o)) (mem 79 dr) d) (by simp only [e74, e73, e75, e79, e81, e82, e83, e84]) ?_
                    refine j_if_ne X 97 dX11_least_87 (by decide) (fun c_87 => ?_) (fun c_87 => ?_)
                    · refine j_iconst X dX11_least_97 0 (by decide) ?_
                      refine j_ior X dX11_least_98 ?_
                      refine j_istore X dX11_least_99 (by decide) ?_
                      refine j_aload_n X dX11_least_101 rfl ?_
                      refine j_getR X 11 33 (by decide) (by decide) rfl u983 (o66 np) (k66 np) _ (p66_33 np) dX11_least_102 ?_
                      refine j_iload X dX11_least_105 rfl ?_
                      refine j_aload_n X dX11_least_107 rfl ?_
                      refine j_iload X dX11_least_108 rfl ?_
                      refine j_iload_n X dX11_least_110 rfl ?_
                      refine s_callVi X hR (m_fitsOf np _ p dr q (by omega) hdr hq (by rw [e81]; exact hc) (fun k hk => by rw [e83]; exact hof k hk)) rfl 11 (by decide) (o66 np) (k66 np) rfl u1366 u1363 u1365 qp61 u12 hyX11_fitsOf (by decide) (by decide) (Nat.le_of_ble_eq_true rfl) dX11_least_111 (fun v_111 m_111 h_111 => ?_)
                      obtain ⟨e1, e2⟩ := h_111; have e1 := e1.symm; have e2 := e2.symm; subst e1; subst e2
                      refine j_nrm (nI ((fun p => jBn (fun k => decide (if mem 82 (8 * dr + k) = 0 then mem 74 (9 * p) = mem 83 (8 * dr + k) else (mem 82 (8 * dr + k) = 1 ∨ mem 84 (8 * dr + k) ≤ mem 74 (9 * p + 5 + (mem 83 (8 * dr + k)).toNatClampNeg)))) q) p)) (by simp only [e74, e73, e75, e79, e81, e82, e83, e84]; exact jBits_n q (by omega)) ?_
                      refine j_nrm2 _ (by first | (simp only [fa_lit, pk_mul, nI_add]; done) | (simp only [fa_lit, pk_mul, nI_add]; rfl) | rfl) ?_
                      refine j_iastN X (o86 np) (k86 np) (by rw [l86]; omega) (by rw [l86]; decide) dX11_least_114 ?_
                      refine j_iinc X dX11_least_115 rfl 1 rfl ?_
                      refine j_goto X 57 dX11_least_118 (by decide) ?_
                      refine j_lv [some (.ref 66), some (.int b), some (.int (nI dr)), some (.int d), some (.int 0), some (.int (jBits (fun p => decide (mem 74 (9 * p + 1) = b ∧ jHold (mem 74 (9 * p + 3)) (mem 74 (9 * p + 4)) (mem 75 p) (mem 73 (2 * (mem 74 (9 * p)).toNatClampNeg + 1)) (mem 73 (2 * (mem 74 (9 * p)).toNatClampNeg)) (mem 79 dr) d = 0)) nI (p + 1))), some (.int (nI (p + 1)))] ⟨rfl, rfl, rfl, rfl, rfl, (congrArg (fun z => some (Value.int z)) (by first | exact jBits_t (g := (fun p => decide (mem 74 (9 * p + 1) = b ∧ jHold (mem 74 (9 * p + 3)) (mem 74 (9 * p + 4)) (mem 75 p) (mem 73 (2 * (mem 74 (9 * p)).toNatClampNeg + 1)) (mem 73 (2 * (mem 74 (9 * p)).toNatClampNeg)) (mem 79 dr) d = 0))) (b := nI) (hg1.trans (decide_eq_true ⟨c_76, c_87⟩)) | exact jBits_f (g := (fun p => decide (mem 74 (9 * p + 1) = b ∧ jHold (mem 74 (9 * p + 3)) (mem 74 (9 * p + 4)) (mem 75 p) (mem 73 (2 * (mem 74 (9 * p)).toNatClampNeg + 1)) (mem 73 (2 * (mem 74 (9 * p)).toNatClampNeg)) (mem 79 dr) d = 0))) (b := nI) (fun z => c_87 (of_decide_eq_true (hg1.symm.trans z)).2) | exact jBits_f (g := (fun p => decide (mem 74 (9 * p + 1) = b ∧ jHold (mem 74 (9 * p + 3)) (mem 74 (9 * p + 4)) (mem 75 p) (mem 73 (2 * (mem 74 (9 * p)).toNatClampNeg + 1)) (mem 73 (2 * (mem 74 (9 * p)).toNatClampNeg)) (mem 79 dr) d = 0))) (b := nI) (fun z => c_76 (of_decide_eq_true (hg1.symm.trans z)).1))), (congrArg (fun z => some (Value.int z)) (nI_1 _)), trivial⟩ ?_
                      exact ih57 (p + 1) _ (by omega) (by omega) (jeq.up hJ (by decide)) (fun j hj => by
              by_cases e : j = p
              · subst e
                simp [jup, va_up]
              · have := hfit j (by omega)
                simp only [jup, va_up, e, if_true, if_false]
                exact this)
                    · refine j_iconst X dX11_least_90 1 (by decide) ?_
                      refine j_iload X dX11_least_91 rfl ?_
                      refine j_ishl X dX11_least_93 ?_
                      refine j_goto X 98 dX11_least_94 (by decide) ?_
                      refine j_ior X dX11_least_98 ?_
                      refine j_istore X dX11_least_99 (by decide) ?_
                      refine j_aload_n X dX11_least_101 rfl ?_
                      refine j_getR X 11 33 (by decide) (by decide) rfl u983 (o66 np) (k66 np) _ (p66_33 np) dX11_least_102 ?_
                      refine j_iload X dX11_least_105 rfl ?_
                      refine j_aload_n X dX11_least_107 rfl ?_
                      refine j_iload X dX11_least_108 rfl ?_
                      refine j_iload_n X dX11_least_110 rfl ?_
                      refine s_callVi X hR (m_fitsOf np _ p dr q (by omega) hdr hq (by rw [e81]; exact hc) (fun k hk => by rw [e83]; exact hof k hk)) rfl 11 (by decide) (o66 np) (k66 np) rfl u1366 u1363 u1365 qp61 u12 hyX11_fitsOf (by decide) (by decide) (Nat.le_of_ble_eq_true rfl) dX11_least_111 (fun v_111 m_111 h_111 => ?_)
                      obtain ⟨e1, e2⟩ := h_111; have e1 := e1.symm; have e2 := e2.symm; subst e1; subst e2
                      refine j_nrm (nI ((fun p => jBn (fun k => decide (if mem 82 (8 * dr + k) = 0 then mem 74 (9 * p) = mem 83 (8 * dr + k) else (mem 82 (8 * dr + k) = 1 ∨ mem 84 (8 * dr + k) ≤ mem 74 (9 * p + 5 + (mem 83 (8 * dr + k)).toNatClampNeg)))) q) p)) (by simp only [e74, e73, e75, e79, e81, e82, e83, e84]; exact jBits_n q (by omega)) ?_
                      refine j_nrm2 _ (by first | (simp only [fa_lit, pk_mul, nI_add]; done) | (simp only [fa_lit, pk_mul, nI_add]; rfl) | rfl) ?_
                      refine j_iastN X (o86 np) (k86 np) (by rw [l86]; omega) (by rw [l86]; decide) dX11_least_114 ?_
                      refine j_iinc X dX11_least_115 rfl 1 rfl ?_
                      refine j_goto X 57 dX11_least_118 (by decide) ?_
                      refine j_lv [some (.ref 66), some (.int b), some (.int (nI dr)), some (.int d), some (.int 0), some (.int (jBits (fun p => decide (mem 74 (9 * p + 1) = b ∧ jHold (mem 74 (9 * p + 3)) (mem 74 (9 * p + 4)) (mem 75 p) (mem 73 (2 * (mem 74 (9 * p)).toNatClampNeg + 1)) (mem 73 (2 * (mem 74 (9 * p)).toNatClampNeg)) (mem 79 dr) d = 0)) nI (p + 1))), some (.int (nI (p + 1)))] ⟨rfl, rfl, rfl, rfl, rfl, (congrArg (fun z => some (Value.int z)) (by first | exact jBits_t (g := (fun p => decide (mem 74 (9 * p + 1) = b ∧ jHold (mem 74 (9 * p + 3)) (mem 74 (9 * p + 4)) (mem 75 p) (mem 73 (2 * (mem 74 (9 * p)).toNatClampNeg + 1)) (mem 73 (2 * (mem 74 (9 * p)).toNatClampNeg)) (mem 79 dr) d = 0))) (b := nI) (hg1.trans (decide_eq_true ⟨c_76, c_87⟩)) | exact jBits_f (g := (fun p => decide (mem 74 (9 * p + 1) = b ∧ jHold (mem 74 (9 * p + 3)) (mem 74 (9 * p + 4)) (mem 75 p) (mem 73 (2 * (mem 74 (9 * p)).toNatClampNeg + 1)) (mem 73 (2 * (mem 74 (9 * p)).toNatClampNeg)) (mem 79 dr) d = 0))) (b := nI) (fun z => c_87 (of_decide_eq_true (hg1.symm.trans z)).2) | exact jBits_f (g := (fun p => decide (mem 74 (9 * p + 1) = b ∧ jHold (mem 74 (9 * p + 3)) (mem 74 (9 * p + 4)) (mem 75 p) (mem 73 (2 * (mem 74 (9 * p)).toNatClampNeg + 1)) (mem 73 (2 * (mem 74 (9 * p)).toNatClampNeg)) (mem 79 dr) d = 0))) (b := nI) (fun z => c_76 (of_decide_eq_true (hg1.symm.trans z)).1))), (congrArg (fun z => some (Value.int z)) (nI_1 _)), trivial⟩ ?_
                      exact ih57 (p + 1) _ (by omega) (by omega) (jeq.up hJ (by decide)) (fun j hj => by
              by_cases e : j = p
              · subst e
                simp [jup, va_up]
              · have := hfit j (by omega)
                simp only [jup, va_up, e, if_true, if_false]
                exact this)
            refine j_lv [some (.ref 66), some (.int b), some (.int (nI dr)), some (.int d), some (.int 0), some (.int (jBits (fun p => decide (mem 74 (9 * p + 1) = b ∧ jHold (mem 74 (9 * p + 3)) (mem 74 (9 * p + 4)) (mem 75 p) (mem 73 (2 * (mem 74 (9 * p)).toNatClampNeg + 1)) (mem 73 (2 * (mem 74 (9 * p)).toNatClampNeg)) (mem 79 dr) d = 0)) nI 0)), some (.int (nI 0))] ⟨rfl, rfl, rfl, rfl, rfl, rfl, rfl, trivial⟩ ?_
            exact lp57 (np + 1) 0 _ (by omega) (by omega) jeq.rf (fun j hj => absurd hj (by omega))
          · exact absurd c_45 hA
        · exfalso
          clear hE hr hR X
          (try simp only [lg_cmp_lt, lg_cmp_gt, lg_cmp_le, lg_cmp_ge] at *); (try simp (disch := omega) only [Int64.le_iff_toInt_le, Int64.lt_iff_toInt_lt, Int32.le_iff_toInt_le, Int32.lt_iff_toInt_lt, fa_eq, fa_lit, fa_litL, nI_toInt, pk_lT, Int32.toInt_toInt64, jadd64, jin, jnoneT] at *); omega
set_option maxRecDepth 4000 in
set_option maxHeartbeats 1000000 in
theorem m_least1_none (np : Nat) (mem : jMem) (b d : Int32) (dr q : Nat) (hb : jin b 0 5) (hdr : dr < 4) (hd : jin d 0 999) (hq : q ≤ 8) (hc : mem 81 dr = nI q) (hA : jAny (fun i => decide (¬ mem 82 (8 * dr + i) ≤ 0 ∧ (mem 80 dr >>> (mem 83 (8 * dr + i) &&& 31)) &&& 1 = 0)) q = true) : jPi yX11_least cX11_least 12 .int 3 [.ref 66, .int b, .int (nI dr), .int d, .int 1] np mem (fun v c => v = -1000000 ∧ c = jup mem 66 0 0) := by
  refine jPi.of (own := RX11) rfl rfl (Nat.le_of_ble_eq_true rfl) (fun G X hR hr hE => ?_)
  refine j_aload_n X dX11_least_0 rfl ?_
  refine j_iconst X dX11_least_1 0 (by decide) ?_
  refine j_putI X 11 0 (by decide) (by decide) rfl rfl rfl rfl u950 (o66 np) (k66 np) dX11_least_2 ?_
  refine j_iload_n X dX11_least_5 rfl ?_
  refine s_callSi X hR (m_isBearer np _ _) rfl u1221 u1219 u1220 u12 hyX11_isBearer (by decide) (by decide) (Nat.le_of_ble_eq_true rfl) dX11_least_6 (fun v_6 m_6 h_6 => ?_)
  obtain ⟨e1, e2⟩ := h_6; have e1 := e1.symm; have e2 := e2.symm; subst e1; subst e2
  refine j_ifb_eq X 37 dX11_least_9 (by decide) (fun c_9 => ?_) (fun c_9 => ?_)
  · exfalso
    clear hE hr hR X
    (try simp only [lg_cmp_lt, lg_cmp_gt, lg_cmp_le, lg_cmp_ge] at *); (try simp (disch := omega) only [Int64.le_iff_toInt_le, Int64.lt_iff_toInt_lt, Int32.le_iff_toInt_le, Int32.lt_iff_toInt_lt, fa_eq, fa_lit, fa_litL, nI_toInt, pk_lT, Int32.toInt_toInt64, jadd64, jin, jnoneT] at *); omega
  · refine j_iload_n X dX11_least_12 rfl ?_
    refine s_callSi X hR (m_isDoor np _ _) rfl u1269 u1267 u1268 u12 hyX11_isDoor (by decide) (by decide) (Nat.le_of_ble_eq_true rfl) dX11_least_13 (fun v_13 m_13 h_13 => ?_)
    obtain ⟨e1, e2⟩ := h_13; have e1 := e1.symm; have e2 := e2.symm; subst e1; subst e2
    refine j_ifb_eq X 37 dX11_least_16 (by decide) (fun c_16 => ?_) (fun c_16 => ?_)
    · exfalso
      clear hE hr hR X
      (try simp only [lg_cmp_lt, lg_cmp_gt, lg_cmp_le, lg_cmp_ge] at *); (try simp (disch := omega) only [Int64.le_iff_toInt_le, Int64.lt_iff_toInt_lt, Int32.le_iff_toInt_le, Int32.lt_iff_toInt_lt, fa_eq, fa_lit, fa_litL, nI_toInt, pk_lT, Int32.toInt_toInt64, jadd64, jin, jnoneT] at *); omega
    · refine j_iload_n X dX11_least_19 rfl ?_
      refine s_callSi X hR (m_isDay np _ _) rfl u1117 u1115 u1116 u12 hyX11_isDay (by decide) (by decide) (Nat.le_of_ble_eq_true rfl) dX11_least_20 (fun v_20 m_20 h_20 => ?_)
      obtain ⟨e1, e2⟩ := h_20; have e1 := e1.symm; have e2 := e2.symm; subst e1; subst e2
      refine j_ifb_eq X 37 dX11_least_23 (by decide) (fun c_23 => ?_) (fun c_23 => ?_)
      · exfalso
        clear hE hr hR X
        (try simp only [lg_cmp_lt, lg_cmp_gt, lg_cmp_le, lg_cmp_ge] at *); (try simp (disch := omega) only [Int64.le_iff_toInt_le, Int64.lt_iff_toInt_lt, Int32.le_iff_toInt_le, Int32.lt_iff_toInt_lt, fa_eq, fa_lit, fa_litL, nI_toInt, pk_lT, Int32.toInt_toInt64, jadd64, jin, jnoneT] at *); omega
      · refine j_iload X dX11_least_26 rfl ?_
        refine j_i2l X dX11_least_28 ?_
        refine j_lconst X dX11_least_29 0 (by decide) ?_
        refine j_lconst X dX11_least_30 1 (by decide) ?_
        refine s_callSi X hR (m_inI np _ _ _ _ 0 1 rfl rfl) rfl u1087 u1085 u1086 u12 hyX11_in (by decide) (by decide) (Nat.le_of_ble_eq_true rfl) dX11_least_31 (fun v_31 m_31 h_31 => ?_)
        obtain ⟨e1, e2⟩ := h_31; have e1 := e1.symm; have e2 := e2.symm; subst e1; subst e2
        refine j_ifb_ne X 40 dX11_least_34 (by decide) (fun c_34 => ?_) (fun c_34 => ?_)
        · refine j_aload_n X dX11_least_40 rfl ?_
          refine j_iload_n X dX11_least_41 rfl ?_
          refine s_callVi X hR (m_asksTooMuch np _ dr q hdr hq hc) rfl 11 (by decide) (o66 np) (k66 np) rfl u1358 u1355 u1357 qp60 u12 hyX11_asksTooMuch (by decide) (by decide) (Nat.le_of_ble_eq_true rfl) dX11_least_42 (fun v_42 m_42 h_42 => ?_)
          obtain ⟨e1, e2⟩ := h_42; have e1 := e1.symm; have e2 := e2.symm; subst e1; subst e2
          refine j_ifb_eq X 51 dX11_least_45 (by decide) (fun c_45 => ?_) (fun c_45 => ?_)
          · exact absurd hA c_45
          · refine j_ldc X dX11_least_48 u949 ?_
            refine s_iret X hE hr dX11_least_50 rfl ?_
            first | exact ⟨rfl, rfl⟩ | (exfalso; clear hE hr hR X; (try simp only [lg_cmp_lt, lg_cmp_gt, lg_cmp_le, lg_cmp_ge] at *); (try simp (disch := omega) only [Int64.le_iff_toInt_le, Int64.lt_iff_toInt_lt, Int32.le_iff_toInt_le, Int32.lt_iff_toInt_lt, fa_eq, fa_lit, fa_litL, nI_toInt, pk_lT, Int32.toInt_toInt64, jadd64, jin, jnoneT] at *); omega)
        · exfalso
          clear hE hr hR X
          (try simp only [lg_cmp_lt, lg_cmp_gt, lg_cmp_le, lg_cmp_ge] at *); (try simp (disch := omega) only [Int64.le_iff_toInt_le, Int64.lt_iff_toInt_lt, Int32.le_iff_toInt_le, Int32.lt_iff_toInt_lt, fa_eq, fa_lit, fa_litL, nI_toInt, pk_lT, Int32.toInt_toInt64, jadd64, jin, jnoneT] at *); omega
set_option maxRecDepth 4000 in
set_option maxHeartbeats 1000000 in
theorem m_least1 (np : Nat) (mem : jMem) (b d : Int32) (dr q : Nat) (hb : jin b 0 5) (hdr : dr < 4) (hd : jin d 0 999) (hq : q ≤ 8) (hc : mem 81 dr = nI q) (hn0 : np ≤ 12) (hp : mem 66 9 = nI np) (hA : ¬ jAny (fun i => decide (¬ mem 82 (8 * dr + i) ≤ 0 ∧ (mem 80 dr >>> (mem 83 (8 * dr + i) &&& 31)) &&& 1 = 0)) q = true) (hoo : ∀ p, p < np → ∃ o, o < 4 ∧ mem 74 (9 * p) = nI o) (hof : ∀ k, k < q → ∃ w, w < 4 ∧ mem 83 (8 * dr + k) = nI w) : jPi yX11_least cX11_least 12 .int 3 [.ref 66, .int b, .int (nI dr), .int d, .int 1] np mem (fun v c => jBest (jIs (fun p => decide (mem 74 (9 * p + 1) = b ∧ jHold (mem 74 (9 * p + 3)) (mem 74 (9 * p + 4)) (mem 75 p) (mem 73 (2 * (mem 74 (9 * p)).toNatClampNeg + 1)) (mem 73 (2 * (mem 74 (9 * p)).toNatClampNeg)) (mem 79 dr) d = 0)) (fun p => jBn (fun k => decide (if mem 82 (8 * dr + k) = 0 then mem 74 (9 * p) = mem 83 (8 * dr + k) else (mem 82 (8 * dr + k) = 1 ∨ mem 84 (8 * dr + k) ≤ mem 74 (9 * p + 5 + (mem 83 (8 * dr + k)).toNatClampNeg)))) q) np (2 ^ q - 1)) 1 v ∧ jeq [86] (jup mem 66 0 0) c) := by
  refine jPi.of (own := RX11) rfl rfl (Nat.le_of_ble_eq_true rfl) (fun G X hR hr hE => ?_)
  refine j_aload_n X dX11_least_0 rfl ?_
  refine j_iconst X dX11_least_1 0 (by decide) ?_
  refine j_putI X 11 0 (by decide) (by decide) rfl rfl rfl rfl u950 (o66 np) (k66 np) dX11_least_2 ?_
  refine j_iload_n X dX11_least_5 rfl ?_
  refine s_callSi X hR (m_isBearer np _ _) rfl u1221 u1219 u1220 u12 hyX11_isBearer (by decide) (by decide) (Nat.le_of_ble_eq_true rfl) dX11_least_6 (fun v_6 m_6 h_6 => ?_)
  obtain ⟨e1, e2⟩ := h_6; have e1 := e1.symm; have e2 := e2.symm; subst e1; subst e2
  refine j_ifb_eq X 37 dX11_least_9 (by decide) (fun c_9 => ?_) (fun c_9 => ?_)
  · exfalso
    clear hE hr hR X
    (try simp only [lg_cmp_lt, lg_cmp_gt, lg_cmp_le, lg_cmp_ge] at *); (try simp (disch := omega) only [Int64.le_iff_toInt_le, Int64.lt_iff_toInt_lt, Int32.le_iff_toInt_le, Int32.lt_iff_toInt_lt, fa_eq, fa_lit, fa_litL, nI_toInt, pk_lT, Int32.toInt_toInt64, jadd64, jin, jnoneT] at *); omega
  · refine j_iload_n X dX11_least_12 rfl ?_
    refine s_callSi X hR (m_isDoor np _ _) rfl u1269 u1267 u1268 u12 hyX11_isDoor (by decide) (by decide) (Nat.le_of_ble_eq_true rfl) dX11_least_13 (fun v_13 m_13 h_13 => ?_)
    obtain ⟨e1, e2⟩ := h_13; have e1 := e1.symm; have e2 := e2.symm; subst e1; subst e2
    refine j_ifb_eq X 37 dX11_least_16 (by decide) (fun c_16 => ?_) (fun c_16 => ?_)
    · exfalso
      clear hE hr hR X
      (try simp only [lg_cmp_lt, lg_cmp_gt, lg_cmp_le, lg_cmp_ge] at *); (try simp (disch := omega) only [Int64.le_iff_toInt_le, Int64.lt_iff_toInt_lt, Int32.le_iff_toInt_le, Int32.lt_iff_toInt_lt, fa_eq, fa_lit, fa_litL, nI_toInt, pk_lT, Int32.toInt_toInt64, jadd64, jin, jnoneT] at *); omega
    · refine j_iload_n X dX11_least_19 rfl ?_
      refine s_callSi X hR (m_isDay np _ _) rfl u1117 u1115 u1116 u12 hyX11_isDay (by decide) (by decide) (Nat.le_of_ble_eq_true rfl) dX11_least_20 (fun v_20 m_20 h_20 => ?_)
      obtain ⟨e1, e2⟩ := h_20; have e1 := e1.symm; have e2 := e2.symm; subst e1; subst e2
      refine j_ifb_eq X 37 dX11_least_23 (by decide) (fun c_23 => ?_) (fun c_23 => ?_)
      · exfalso
        clear hE hr hR X
        (try simp only [lg_cmp_lt, lg_cmp_gt, lg_cmp_le, lg_cmp_ge] at *); (try simp (disch := omega) only [Int64.le_iff_toInt_le, Int64.lt_iff_toInt_lt, Int32.le_iff_toInt_le, Int32.lt_iff_toInt_lt, fa_eq, fa_lit, fa_litL, nI_toInt, pk_lT, Int32.toInt_toInt64, jadd64, jin, jnoneT] at *); omega
      · refine j_iload X dX11_least_26 rfl ?_
        refine j_i2l X dX11_least_28 ?_
        refine j_lconst X dX11_least_29 0 (by decide) ?_
        refine j_lconst X dX11_least_30 1 (by decide) ?_
        refine s_callSi X hR (m_inI np _ _ _ _ 0 1 rfl rfl) rfl u1087 u1085 u1086 u12 hyX11_in (by decide) (by decide) (Nat.le_of_ble_eq_true rfl) dX11_least_31 (fun v_31 m_31 h_31 => ?_)
        obtain ⟨e1, e2⟩ := h_31; have e1 := e1.symm; have e2 := e2.symm; subst e1; subst e2
        refine j_ifb_ne X 40 dX11_least_34 (by decide) (fun c_34 => ?_) (fun c_34 => ?_)
        · refine j_aload_n X dX11_least_40 rfl ?_
          refine j_iload_n X dX11_least_41 rfl ?_
          refine s_callVi X hR (m_asksTooMuch np _ dr q hdr hq hc) rfl 11 (by decide) (o66 np) (k66 np) rfl u1358 u1355 u1357 qp60 u12 hyX11_asksTooMuch (by decide) (by decide) (Nat.le_of_ble_eq_true rfl) dX11_least_42 (fun v_42 m_42 h_42 => ?_)
          obtain ⟨e1, e2⟩ := h_42; have e1 := e1.symm; have e2 := e2.symm; subst e1; subst e2
          refine j_ifb_eq X 51 dX11_least_45 (by decide) (fun c_45 => ?_) (fun c_45 => ?_)
          · refine j_iconst X dX11_least_51 0 (by decide) ?_
            refine j_istore X dX11_least_52 (by decide) ?_
            refine j_iconst X dX11_least_54 0 (by decide) ?_
            refine j_istore X dX11_least_55 (by decide) ?_
            have lp57 : ∀ (n : Nat) (p : Nat) (m2 : jMem), p ≤ np → np + 1 ≤ p + n → jeq [86] (jup mem 66 0 0) m2 → (∀ j, j < p → m2 86 j = nI ((fun p => jBn (fun k => decide (if mem 82 (8 * dr + k) = 0 then mem 74 (9 * p) = mem 83 (8 * dr + k) else (mem 82 (8 * dr + k) = 1 ∨ mem 84 (8 * dr + k) ≤ mem 74 (9 * p + 5 + (mem 83 (8 * dr + k)).toNatClampNeg)))) q) j)) → J G RX11 cX11_least 12 0 0 57 (jlv [some (.ref 66), some (.int b), some (.int (nI dr)), some (.int d), some (.int 1), some (.int (jBits (fun p => decide (mem 74 (9 * p + 1) = b ∧ jHold (mem 74 (9 * p + 3)) (mem 74 (9 * p + 4)) (mem 75 p) (mem 73 (2 * (mem 74 (9 * p)).toNatClampNeg + 1)) (mem 73 (2 * (mem 74 (9 * p)).toNatClampNeg)) (mem 79 dr) d = 0)) nI p)), some (.int (nI p))]) [] (jS np) (m2) := by
              intro n
              induction n with
              | zero =>
                intro p m2 hp3 hn hJ hfit
                exact absurd hn (by omega)
              | succ n ih57 =>
                intro p m2 hp3 hn hJ hfit
                have e74 : m2 74 = mem 74 := hJ 74 (by decide)
                have e73 : m2 73 = mem 73 := hJ 73 (by decide)
                have e75 : m2 75 = mem 75 := hJ 75 (by decide)
                have e79 : m2 79 = mem 79 := hJ 79 (by decide)
                have e81 : m2 81 = mem 81 := hJ 81 (by decide)
                have e82 : m2 82 = mem 82 := hJ 82 (by decide)
                have e83 : m2 83 = mem 83 := hJ 83 (by decide)
                have e84 : m2 84 = mem 84 := hJ 84 (by decide)
                have e66 : m2 66 9 = nI np := by rw [hJ 66 (by decide)]; exact hp
                refine j_iload X dX11_least_57 rfl ?_
                refine j_aload_n X dX11_least_59 rfl ?_
                refine j_getF X 11 9 (by decide) (by decide) rfl u959 (o66 np) (k66 np) (m2 66) rfl dX11_least_60 ?_
                refine j_nrm (nI np) e66 ?_
                refine j_icmp_ge X 121 dX11_least_63 (by decide) (fun c_63 => ?_) (fun c_63 => ?_)
                · obtain rfl : np = p := by clear hE hr hR X hof hoo hfit hJ; (try simp only [lg_cmp_lt, lg_cmp_gt, lg_cmp_le, lg_cmp_ge] at *); (try simp (disch := omega) only [Int64.le_iff_toInt_le, Int64.lt_iff_toInt_lt, Int32.le_iff_toInt_le, Int32.lt_iff_toInt_lt, fa_eq, fa_lit, fa_litL, nI_toInt, pk_lT, Int32.toInt_toInt64, jadd64, jin, jnoneT] at *); omega
                  have hp2n := jp2 hn0
                  have hp2q := jp2 (show q ≤ 12 by omega)
                  have hMl := jBn_lt (g := (fun p => decide (mem 74 (9 * p + 1) = b ∧ jHold (mem 74 (9 * p + 3)) (mem 74 (9 * p + 4)) (mem 75 p) (mem 73 (2 * (mem 74 (9 * p)).toNatClampNeg + 1)) (mem 73 (2 * (mem 74 (9 * p)).toNatClampNeg)) (mem 79 dr) d = 0))) np
                  have hfl : ∀ p, (fun p => jBn (fun k => decide (if mem 82 (8 * dr + k) = 0 then mem 74 (9 * p) = mem 83 (8 * dr + k) else (mem 82 (8 * dr + k) = 1 ∨ mem 84 (8 * dr + k) ≤ mem 74 (9 * p + 5 + (mem 83 (8 * dr + k)).toNatClampNeg)))) q) p < 2 ^ q := fun p => jBn_lt q
                  refine j_ldc X dX11_least_121 u949 ?_
                  refine j_istore X dX11_least_123 (by decide) ?_
                  refine j_iconst X dX11_least_125 0 (by decide) ?_
                  refine j_istore X dX11_least_126 (by decide) ?_
                  refine j_iconst X dX11_least_128 0 (by decide) ?_
                  refine j_istore X dX11_least_129 (by decide) ?_
                  have lp131 : ∀ (n : Nat) (k : Nat) (best least : Int32), k ≤ 2 ^ np → 2 ^ np + 1 ≤ k + n → jMS (fun p => decide (mem 74 (9 * p + 1) = b ∧ jHold (mem 74 (9 * p + 3)) (mem 74 (9 * p + 4)) (mem 75 p) (mem 73 (2 * (mem 74 (9 * p)).toNatClampNeg + 1)) (mem 73 (2 * (mem 74 (9 * p)).toNatClampNeg)) (mem 79 dr) d = 0)) (fun p => jBn (fun k => decide (if mem 82 (8 * dr + k) = 0 then mem 74 (9 * p) = mem 83 (8 * dr + k) else (mem 82 (8 * dr + k) = 1 ∨ mem 84 (8 * dr + k) ≤ mem 74 (9 * p + 5 + (mem 83 (8 * dr + k)).toNatClampNeg)))) q) np (2 ^ q - 1) k best least → J G RX11 cX11_least 12 0 0 131 (jlv [some (.ref 66), some (.int b), some (.int (nI dr)), some (.int d), some (.int 1), some (.int (nI (jBn (fun p => decide (mem 74 (9 * p + 1) = b ∧ jHold (mem 74 (9 * p + 3)) (mem 74 (9 * p + 4)) (mem 75 p) (mem 73 (2 * (mem 74 (9 * p)).toNatClampNeg + 1)) (mem 73 (2 * (mem 74 (9 * p)).toNatClampNeg)) (mem 79 dr) d = 0)) np))), some (.int best), some (.int least), some (.int (nI k))]) [] (jS np) (m2) := by
                    intro n
                    induction n with
                    | zero =>
                      intro k best least hk3 hnk hM
                      exact absurd hnk (by omega)
                    | succ n ih131 =>
                      intro k best least hk3 hnk hM
                      refine j_iload X dX11_least_131 rfl ?_
                      refine j_iconst X dX11_least_133 1 (by decide) ?_
                      refine j_aload_n X dX11_least_134 rfl ?_
                      refine j_getF X 11 9 (by decide) (by decide) rfl u959 (o66 np) (k66 np) (m2 66) rfl dX11_least_135 ?_
                      refine j_nrm (nI np) e66 ?_
                      refine j_ishl X dX11_least_138 ?_
                      refine j_nrm (nI (2 ^ np)) (j1l (by omega)) ?_
                      refine j_icmp_ge X 259 dX11_least_139 (by decide) (fun c_139 => ?_) (fun c_139 => ?_)
                      · obtain rfl : k = 2 ^ np := by
                          rcases Nat.lt_or_ge k (2 ^ np) with z | z
                          · exact absurd c_139 (nI_ge z (by omega))
                          · omega
                        have hEnd := jMS_end hn0 hM
                        refine j_iload X dX11_least_259 rfl ?_
                        refine j_ldc X dX11_least_261 u949 ?_
                        refine j_icmp_eq X 271 dX11_least_263 (by decide) (fun c_263 => ?_) (fun c_263 => ?_)
                        · refine j_iload X dX11_least_271 rfl ?_
                          refine j_goto X 278 dX11_least_273 (by decide) ?_
                          refine s_iret X hE hr dX11_least_278 rfl ?_
                          refine ⟨?_, hJ⟩
                          rcases hEnd with ⟨z1, z2⟩ | ⟨z1, z2, z3⟩
                          · first | exact absurd z1 c_263 | exact Or.inl ⟨z1, z2⟩
                          · first | exact absurd c_263 z1 | exact z2 | exact z3
                        · refine j_iload X dX11_least_266 rfl ?_
                          refine j_if_ne X 276 dX11_least_268 (by decide) (fun c_268 => ?_) (fun c_268 => absurd c_268 (by decide))
                          refine j_iload X dX11_least_276 rfl ?_
                          refine s_iret X hE hr dX11_least_278 rfl ?_
                          refine ⟨?_, hJ⟩
                          rcases hEnd with ⟨z1, z2⟩ | ⟨z1, z2, z3⟩
                          · first | exact absurd z1 c_263 | exact Or.inl ⟨z1, z2⟩
                          · first | exact absurd c_263 z1 | exact z2 | exact z3
                      · have hk2 : k < 2 ^ np := by
                          rcases Nat.lt_or_ge k (2 ^ np) with z | z
                          · exact z
                          · exact absurd ((nI_leI (by omega) (by omega)).mpr z) c_139
                        refine j_iload X dX11_least_142 rfl ?_
                        refine j_iload X dX11_least_144 rfl ?_
                        refine j_iconst X dX11_least_146 (-1) (by decide) ?_
                        refine j_ixor X dX11_least_147 ?_
                        refine j_iand X dX11_least_148 ?_
                        refine j_if_ne X 253 dX11_least_149 (by decide) (fun c_149 => ?_) (fun c_149 => ?_)
                        · refine j_iinc X dX11_least_253 rfl 1 rfl ?_
                          refine j_goto X 131 dX11_least_256 (by decide) ?_
                          refine j_lv [some (.ref 66), some (.int b), some (.int (nI dr)), some (.int d), some (.int 1), some (.int (nI (jBn (fun p => decide (mem 74 (9 * p + 1) = b ∧ jHold (mem 74 (9 * p + 3)) (mem 74 (9 * p + 4)) (mem 75 p) (mem 73 (2 * (mem 74 (9 * p)).toNatClampNeg + 1)) (mem 73 (2 * (mem 74 (9 * p)).toNatClampNeg)) (mem 79 dr) d = 0)) np))), some (.int _), some (.int _), some (.int (nI (k + 1)))] ⟨rfl, rfl, rfl, rfl, rfl, rfl, rfl, rfl, (congrArg (fun z => some (Value.int z)) (nI_1 _)), trivial⟩ ?_
                          exact ih131 (k + 1) _ _ (by omega) (by omega) (by
              first
                | exact jMS_no hM (fun z => c_149 ((jsubset (by omega) (by omega)).mpr (fun p hp4 => by
                    rw [jBn_bit, Bool.and_eq_true]
                    have hp5 : p < np := by
                      rcases Nat.lt_or_ge p np with y | y
                      · exact y
                      · rw [Nat.testBit_lt_two_pow (Nat.lt_of_lt_of_le hk2 (Nat.pow_le_pow_right (by omega) y))] at hp4
                        cases hp4
                    exact ⟨decide_eq_true hp5, z.1 p hp5 hp4⟩)))
                | exact jMS_no hM (fun z => c_228 (congrArg nI z.2))
                | exact jMS_take hn0 (by omega) hM ⟨fun p hp4 hp5 => by
                    have hz := (jsubset (by omega) (by omega)).mp c_149 p hp5
                    rw [jBn_bit, Bool.and_eq_true] at hz
                    exact hz.2, (nI_eq (by omega) (by omega)).mp c_228⟩ (by first | exact Or.inl c_235 | exact Or.inr (Int32.not_le.mp c_242))
                | exact jMS_keep hn0 hM c_235 c_242)
                        · refine j_iconst X dX11_least_152 0 (by decide) ?_
                          refine j_istore X dX11_least_153 (by decide) ?_
                          refine j_iconst X dX11_least_155 0 (by decide) ?_
                          refine j_istore X dX11_least_156 (by decide) ?_
                          refine j_iconst X dX11_least_158 0 (by decide) ?_
                          refine j_istore X dX11_least_159 (by decide) ?_
                          have lp161 : ∀ (n : Nat) (j : Nat), j ≤ np → np + 1 ≤ j + n → J G RX11 cX11_least 12 0 0 161 (jlv [some (.ref 66), some (.int b), some (.int (nI dr)), some (.int d), some (.int 1), some (.int (nI (jBn (fun p => decide (mem 74 (9 * p + 1) = b ∧ jHold (mem 74 (9 * p + 3)) (mem 74 (9 * p + 4)) (mem 75 p) (mem 73 (2 * (mem 74 (9 * p)).toNatClampNeg + 1)) (mem 73 (2 * (mem 74 (9 * p)).toNatClampNeg)) (mem 79 dr) d = 0)) np))), some (.int best), some (.int least), some (.int (nI k)), some (.int (nI (oS (fun p => jBn (fun k => decide (if mem 82 (8 * dr + k) = 0 then mem 74 (9 * p) = mem 83 (8 * dr + k) else (mem 82 (8 * dr + k) = 1 ∨ mem 84 (8 * dr + k) ≤ mem 74 (9 * p + 5 + (mem 83 (8 * dr + k)).toNatClampNeg)))) q) k j))), some (.int (nI (wS (fun p => jBn (fun k => decide (if mem 82 (8 * dr + k) = 0 then mem 74 (9 * p) = mem 83 (8 * dr + k) else (mem 82 (8 * dr + k) = 1 ∨ mem 84 (8 * dr + k) ≤ mem 74 (9 * p + 5 + (mem 83 (8 * dr + k)).toNatClampNeg)))) q) k j))), some (.int (nI j))]) [] (jS np) (m2) := by
                            intro n
                            induction n with
                            | zero =>
                              intro j hj3 hnj
                              exact absurd hnj (by omega)
                            | succ n ih161 =>
                              intro j hj3 hnj
                              refine j_iload X dX11_least_161 rfl ?_
                              refine j_aload_n X dX11_least_163 rfl ?_
                              refine j_getF X 11 9 (by decide) (by decide) rfl u959 (o66 np) (k66 np) (m2 66) rfl dX11_least_164 ?_
                              refine j_nrm (nI np) e66 ?_
                              refine j_icmp_ge X 216 dX11_least_167 (by decide) (fun c_167 => ?_) (fun c_167 => ?_)
                              · obtain rfl : np = j := by clear hE hr hR X hof hoo hfit hJ hM; (try simp only [lg_cmp_lt, lg_cmp_gt, lg_cmp_le, lg_cmp_ge] at *); (try simp (disch := omega) only [Int64.le_iff_toInt_le, Int64.lt_iff_toInt_lt, Int32.le_iff_toInt_le, Int32.lt_iff_toInt_lt, fa_eq, fa_lit, fa_litL, nI_toInt, pk_lT, Int32.toInt_toInt64, jadd64, jin, jnoneT] at *); omega
                                have hol := oS_lt (S := k) (F := (fun p => jBn (fun k => decide (if mem 82 (8 * dr + k) = 0 then mem 74 (9 * p) = mem 83 (8 * dr + k) else (mem 82 (8 * dr + k) = 1 ∨ mem 84 (8 * dr + k) ≤ mem 74 (9 * p + 5 + (mem 83 (8 * dr + k)).toNatClampNeg)))) q)) np (fun p _ => hfl p)
                                refine j_iload X dX11_least_216 rfl ?_
                                refine j_iconst X dX11_least_218 1 (by decide) ?_
                                refine j_aload_n X dX11_least_219 rfl ?_
                                refine j_getR X 11 17 (by decide) (by decide) rfl u967 (o66 np) (k66 np) _ (p66_17 np) dX11_least_220 ?_
                                refine j_iload_n X dX11_least_223 rfl ?_
                                refine j_nrm _ (by first | (simp only [fa_lit, pk_mul, nI_add]; done) | (simp only [fa_lit, pk_mul, nI_add]; rfl) | rfl) ?_
                                refine j_ialdN X (o81 np) (k81 np) (by rw [l81]; omega) (by rw [l81]; decide) (m2 81) rfl dX11_least_224 ?_
                                refine j_nrm (nI q) (by rw [e81]; exact hc) ?_
                                refine j_ishl X dX11_least_225 ?_
                                refine j_nrm (nI (2 ^ q)) (j1l (by omega)) ?_
                                refine j_iconst X dX11_least_226 1 (by decide) ?_
                                refine j_isub X dX11_least_227 ?_
                                refine j_nrm (nI (2 ^ q - 1)) jp2m ?_
                                refine j_icmp_ne X 253 dX11_least_228 (by decide) (fun c_228 => ?_) (fun c_228 => ?_)
                                · refine j_iinc X dX11_least_253 rfl 1 rfl ?_
                                  refine j_goto X 131 dX11_least_256 (by decide) ?_
                                  refine j_lv [some (.ref 66), some (.int b), some (.int (nI dr)), some (.int d), some (.int 1), some (.int (nI (jBn (fun p => decide (mem 74 (9 * p + 1) = b ∧ jHold (mem 74 (9 * p + 3)) (mem 74 (9 * p + 4)) (mem 75 p) (mem 73 (2 * (mem 74 (9 * p)).toNatClampNeg + 1)) (mem 73 (2 * (mem 74 (9 * p)).toNatClampNeg)) (mem 79 dr) d = 0)) np))), some (.int _), some (.int _), some (.int (nI (k + 1)))] ⟨rfl, rfl, rfl, rfl, rfl, rfl, rfl, rfl, (congrArg (fun z => some (Value.int z)) (nI_1 _)), trivial⟩ ?_
                                  exact ih131 (k + 1) _ _ (by omega) (by omega) (by
              first
                | exact jMS_no hM (fun z => c_149 ((jsubset (by omega) (by omega)).mpr (fun p hp4 => by
                    rw [jBn_bit, Bool.and_eq_true]
                    have hp5 : p < np := by
                      rcases Nat.lt_or_ge p np with y | y
                      · exact y
                      · rw [Nat.testBit_lt_two_pow (Nat.lt_of_lt_of_le hk2 (Nat.pow_le_pow_right (by omega) y))] at hp4
                        cases hp4
                    exact ⟨decide_eq_true hp5, z.1 p hp5 hp4⟩)))
                | exact jMS_no hM (fun z => c_228 (congrArg nI z.2))
                | exact jMS_take hn0 (by omega) hM ⟨fun p hp4 hp5 => by
                    have hz := (jsubset (by omega) (by omega)).mp c_149 p hp5
                    rw [jBn_bit, Bool.and_eq_true] at hz
                    exact hz.2, (nI_eq (by omega) (by omega)).mp c_228⟩ (by first | exact Or.inl c_235 | exact Or.inr (Int32.not_le.mp c_242))
                | exact jMS_keep hn0 hM c_235 c_242)
                                · refine j_iload X dX11_least_231 rfl ?_
                                  refine j_ldc X dX11_least_233 u949 ?_
                                  refine j_icmp_eq X 245 dX11_least_235 (by decide) (fun c_235 => ?_) (fun c_235 => ?_)
                                  · refine j_iload X dX11_least_245 rfl ?_
                                    refine j_istore X dX11_least_247 (by decide) ?_
                                    refine j_iload X dX11_least_249 rfl ?_
                                    refine j_istore X dX11_least_251 (by decide) ?_
                                    refine j_iinc X dX11_least_253 rfl 1 rfl ?_
                                    refine j_goto X 131 dX11_least_256 (by decide) ?_
                                    refine j_lv [some (.ref 66), some (.int b), some (.int (nI dr)), some (.int d), some (.int 1), some (.int (nI (jBn (fun p => decide (mem 74 (9 * p + 1) = b ∧ jHold (mem 74 (9 * p + 3)) (mem 74 (9 * p + 4)) (mem 75 p) (mem 73 (2 * (mem 74 (9 * p)).toNatClampNeg + 1)) (mem 73 (2 * (mem 74 (9 * p)).toNatClampNeg)) (mem 79 dr) d = 0)) np))), some (.int _), some (.int _), some (.int (nI (k + 1)))] ⟨rfl, rfl, rfl, rfl, rfl, rfl, rfl, rfl, (congrArg (fun z => some (Value.int z)) (nI_1 _)), trivial⟩ ?_
                                    exact ih131 (k + 1) _ _ (by omega) (by omega) (by
              first
                | exact jMS_no hM (fun z => c_149 ((jsubset (by omega) (by omega)).mpr (fun p hp4 => by
                    rw [jBn_bit, Bool.and_eq_true]
                    have hp5 : p < np := by
                      rcases Nat.lt_or_ge p np with y | y
                      · exact y
                      · rw [Nat.testBit_lt_two_pow (Nat.lt_of_lt_of_le hk2 (Nat.pow_le_pow_right (by omega) y))] at hp4
                        cases hp4
                    exact ⟨decide_eq_true hp5, z.1 p hp5 hp4⟩)))
                | exact jMS_no hM (fun z => c_228 (congrArg nI z.2))
                | exact jMS_take hn0 (by omega) hM ⟨fun p hp4 hp5 => by
                    have hz := (jsubset (by omega) (by omega)).mp c_149 p hp5
                    rw [jBn_bit, Bool.and_eq_true] at hz
                    exact hz.2, (nI_eq (by omega) (by omega)).mp c_228⟩ (by first | exact Or.inl c_235 | exact Or.inr (Int32.not_le.mp c_242))
                | exact jMS_keep hn0 hM c_235 c_242)
                                  · refine j_iload X dX11_least_238 rfl ?_
                                    refine j_iload X dX11_least_240 rfl ?_
                                    refine j_icmp_ge X 253 dX11_least_242 (by decide) (fun c_242 => ?_) (fun c_242 => ?_)
                                    · refine j_iinc X dX11_least_253 rfl 1 rfl ?_
                                      refine j_goto X 131 dX11_least_256 (by decide) ?_
                                      refine j_lv [some (.ref 66), some (.int b), some (.int (nI dr)), some (.int d), some (.int 1), some (.int (nI (jBn (fun p => decide (mem 74 (9 * p + 1) = b ∧ jHold (mem 74 (9 * p + 3)) (mem 74 (9 * p + 4)) (mem 75 p) (mem 73 (2 * (mem 74 (9 * p)).toNatClampNeg + 1)) (mem 73 (2 * (mem 74 (9 * p)).toNatClampNeg)) (mem 79 dr) d = 0)) np))), some (.int _), some (.int _), some (.int (nI (k + 1)))] ⟨rfl, rfl, rfl, rfl, rfl, rfl, rfl, rfl, (congrArg (fun z => some (Value.int z)) (nI_1 _)), trivial⟩ ?_
                                      exact ih131 (k + 1) _ _ (by omega) (by omega) (by
              first
                | exact jMS_no hM (fun z => c_149 ((jsubset (by omega) (by omega)).mpr (fun p hp4 => by
                    rw [jBn_bit, Bool.and_eq_true]
                    have hp5 : p < np := by
                      rcases Nat.lt_or_ge p np with y | y
                      · exact y
                      · rw [Nat.testBit_lt_two_pow (Nat.lt_of_lt_of_le hk2 (Nat.pow_le_pow_right (by omega) y))] at hp4
                        cases hp4
                    exact ⟨decide_eq_true hp5, z.1 p hp5 hp4⟩)))
                | exact jMS_no hM (fun z => c_228 (congrArg nI z.2))
                | exact jMS_take hn0 (by omega) hM ⟨fun p hp4 hp5 => by
                    have hz := (jsubset (by omega) (by omega)).mp c_149 p hp5
                    rw [jBn_bit, Bool.and_eq_true] at hz
                    exact hz.2, (nI_eq (by omega) (by omega)).mp c_228⟩ (by first | exact Or.inl c_235 | exact Or.inr (Int32.not_le.mp c_242))
                | exact jMS_keep hn0 hM c_235 c_242)
                                    · refine j_iload X dX11_least_245 rfl ?_
                                      refine j_istore X dX11_least_247 (by decide) ?_
                                      refine j_iload X dX11_least_249 rfl ?_
                                      refine j_istore X dX11_least_251 (by decide) ?_
                                      refine j_iinc X dX11_least_253 rfl 1 rfl ?_
                                      refine j_goto X 131 dX11_least_256 (by decide) ?_
                                      refine j_lv [some (.ref 66), some (.int b), some (.int (nI dr)), some (.int d), some (.int 1), some (.int (nI (jBn (fun p => decide (mem 74 (9 * p + 1) = b ∧ jHold (mem 74 (9 * p + 3)) (mem 74 (9 * p + 4)) (mem 75 p) (mem 73 (2 * (mem 74 (9 * p)).toNatClampNeg + 1)) (mem 73 (2 * (mem 74 (9 * p)).toNatClampNeg)) (mem 79 dr) d = 0)) np))), some (.int _), some (.int _), some (.int (nI (k + 1)))] ⟨rfl, rfl, rfl, rfl, rfl, rfl, rfl, rfl, (congrArg (fun z => some (Value.int z)) (nI_1 _)), trivial⟩ ?_
                                      exact ih131 (k + 1) _ _ (by omega) (by omega) (by
              first
                | exact jMS_no hM (fun z => c_149 ((jsubset (by omega) (by omega)).mpr (fun p hp4 => by
                    rw [jBn_bit, Bool.and_eq_true]
                    have hp5 : p < np := by
                      rcases Nat.lt_or_ge p np with y | y
                      · exact y
                      · rw [Nat.testBit_lt_two_pow (Nat.lt_of_lt_of_le hk2 (Nat.pow_le_pow_right (by omega) y))] at hp4
                        cases hp4
                    exact ⟨decide_eq_true hp5, z.1 p hp5 hp4⟩)))
                | exact jMS_no hM (fun z => c_228 (congrArg nI z.2))
                | exact jMS_take hn0 (by omega) hM ⟨fun p hp4 hp5 => by
                    have hz := (jsubset (by omega) (by omega)).mp c_149 p hp5
                    rw [jBn_bit, Bool.and_eq_true] at hz
                    exact hz.2, (nI_eq (by omega) (by omega)).mp c_228⟩ (by first | exact Or.inl c_235 | exact Or.inr (Int32.not_le.mp c_242))
                | exact jMS_keep hn0 hM c_235 c_242)
                              · have hj2 : j < np := by clear hE hr hR X hof hoo hfit hJ hM; (try simp only [lg_cmp_lt, lg_cmp_gt, lg_cmp_le, lg_cmp_ge] at *); (try simp (disch := omega) only [Int64.le_iff_toInt_le, Int64.lt_iff_toInt_lt, Int32.le_iff_toInt_le, Int32.lt_iff_toInt_lt, fa_eq, fa_lit, fa_litL, nI_toInt, pk_lT, Int32.toInt_toInt64, jadd64, jin, jnoneT] at *); omega
                                refine j_iload X dX11_least_170 rfl ?_
                                refine j_iload X dX11_least_172 rfl ?_
                                refine j_ishr X dX11_least_174 ?_
                                refine j_iconst X dX11_least_175 1 (by decide) ?_
                                refine j_iand X dX11_least_176 ?_
                                refine j_iconst X dX11_least_177 1 (by decide) ?_
                                refine j_icmp_ne X 210 dX11_least_178 (by decide) (fun c_178 => ?_) (fun c_178 => ?_)
                                · refine j_iinc X dX11_least_210 rfl 1 rfl ?_
                                  refine j_goto X 161 dX11_least_213 (by decide) ?_
                                  refine j_lv [some (.ref 66), some (.int b), some (.int (nI dr)), some (.int d), some (.int 1), some (.int (nI (jBn (fun p => decide (mem 74 (9 * p + 1) = b ∧ jHold (mem 74 (9 * p + 3)) (mem 74 (9 * p + 4)) (mem 75 p) (mem 73 (2 * (mem 74 (9 * p)).toNatClampNeg + 1)) (mem 73 (2 * (mem 74 (9 * p)).toNatClampNeg)) (mem 79 dr) d = 0)) np))), some (.int best), some (.int least), some (.int (nI k)), some (.int (nI (oS (fun p => jBn (fun k => decide (if mem 82 (8 * dr + k) = 0 then mem 74 (9 * p) = mem 83 (8 * dr + k) else (mem 82 (8 * dr + k) = 1 ∨ mem 84 (8 * dr + k) ≤ mem 74 (9 * p + 5 + (mem 83 (8 * dr + k)).toNatClampNeg)))) q) k (j + 1)))), some (.int (nI (wS (fun p => jBn (fun k => decide (if mem 82 (8 * dr + k) = 0 then mem 74 (9 * p) = mem 83 (8 * dr + k) else (mem 82 (8 * dr + k) = 1 ∨ mem 84 (8 * dr + k) ≤ mem 74 (9 * p + 5 + (mem 83 (8 * dr + k)).toNatClampNeg)))) q) k (j + 1)))), some (.int (nI (j + 1)))] ⟨rfl, rfl, rfl, rfl, rfl, rfl, rfl, rfl, rfl, (congrArg (fun z => some (Value.int z)) (congrArg nI (by first | exact (show oS (fun p => jBn (fun k => decide (if mem 82 (8 * dr + k) = 0 then mem 74 (9 * p) = mem 83 (8 * dr + k) else (mem 82 (8 * dr + k) = 1 ∨ mem 84 (8 * dr + k) ≤ mem 74 (9 * p + 5 + (mem 83 (8 * dr + k)).toNatClampNeg)))) q) k (j + 1) = _ from if_pos ((jbit (by omega) (by omega)).mp c_178)).symm | exact (show oS (fun p => jBn (fun k => decide (if mem 82 (8 * dr + k) = 0 then mem 74 (9 * p) = mem 83 (8 * dr + k) else (mem 82 (8 * dr + k) = 1 ∨ mem 84 (8 * dr + k) ≤ mem 74 (9 * p + 5 + (mem 83 (8 * dr + k)).toNatClampNeg)))) q) k (j + 1) = _ from if_neg (fun z => c_178 ((jbit (by omega) (by omega)).mpr z))).symm))), (congrArg (fun z => some (Value.int z)) (congrArg nI (by first | exact (show wS (fun p => jBn (fun k => decide (if mem 82 (8 * dr + k) = 0 then mem 74 (9 * p) = mem 83 (8 * dr + k) else (mem 82 (8 * dr + k) = 1 ∨ mem 84 (8 * dr + k) ≤ mem 74 (9 * p + 5 + (mem 83 (8 * dr + k)).toNatClampNeg)))) q) k (j + 1) = _ from if_pos ((jbit (by omega) (by omega)).mp c_178)).symm | exact (show wS (fun p => jBn (fun k => decide (if mem 82 (8 * dr + k) = 0 then mem 74 (9 * p) = mem 83 (8 * dr + k) else (mem 82 (8 * dr + k) = 1 ∨ mem 84 (8 * dr + k) ≤ mem 74 (9 * p + 5 + (mem 83 (8 * dr + k)).toNatClampNeg)))) q) k (j + 1) = _ from if_neg (fun z => c_178 ((jbit (by omega) (by omega)).mpr z))).symm))), (congrArg (fun z => some (Value.int z)) (nI_1 _)), trivial⟩ ?_
                                  exact ih161 (j + 1) (by omega) (by omega)
                                · refine j_iload X dX11_least_181 rfl ?_
                                  refine j_aload_n X dX11_least_183 rfl ?_
                                  refine j_getR X 11 33 (by decide) (by decide) rfl u983 (o66 np) (k66 np) _ (p66_33 np) dX11_least_184 ?_
                                  refine j_iload X dX11_least_187 rfl ?_
                                  refine j_nrm _ (by first | (simp only [fa_lit, pk_mul, nI_add]; done) | (simp only [fa_lit, pk_mul, nI_add]; rfl) | rfl) ?_
                                  refine j_ialdN X (o86 np) (k86 np) (by rw [l86]; omega) (by rw [l86]; decide) (m2 86) rfl dX11_least_189 ?_
                                  refine j_nrm (nI ((fun p => jBn (fun k => decide (if mem 82 (8 * dr + k) = 0 then mem 74 (9 * p) = mem 83 (8 * dr + k) else (mem 82 (8 * dr + k) = 1 ∨ mem 84 (8 * dr + k) ≤ mem 74 (9 * p + 5 + (mem 83 (8 * dr + k)).toNatClampNeg)))) q) j)) (hfit j hj2) ?_
                                  refine j_ior X dX11_least_190 ?_
                                  refine j_nrm (nI (oS (fun p => jBn (fun k => decide (if mem 82 (8 * dr + k) = 0 then mem 74 (9 * p) = mem 83 (8 * dr + k) else (mem 82 (8 * dr + k) = 1 ∨ mem 84 (8 * dr + k) ≤ mem 74 (9 * p + 5 + (mem 83 (8 * dr + k)).toNatClampNeg)))) q) k j ||| (fun p => jBn (fun k => decide (if mem 82 (8 * dr + k) = 0 then mem 74 (9 * p) = mem 83 (8 * dr + k) else (mem 82 (8 * dr + k) = 1 ∨ mem 84 (8 * dr + k) ≤ mem 74 (9 * p + 5 + (mem 83 (8 * dr + k)).toNatClampNeg)))) q) j)) (jorN _ _) ?_
                                  refine j_istore X dX11_least_191 (by decide) ?_
                                  refine j_iload X dX11_least_193 rfl ?_
                                  refine j_iconst X dX11_least_195 1 (by decide) ?_
                                  refine j_aload_n X dX11_least_196 rfl ?_
                                  refine j_getR X 11 33 (by decide) (by decide) rfl u983 (o66 np) (k66 np) _ (p66_33 np) dX11_least_197 ?_
                                  refine j_iload X dX11_least_200 rfl ?_
                                  refine j_nrm _ (by first | (simp only [fa_lit, pk_mul, nI_add]; done) | (simp only [fa_lit, pk_mul, nI_add]; rfl) | rfl) ?_
                                  refine j_ialdN X (o86 np) (k86 np) (by rw [l86]; omega) (by rw [l86]; decide) (m2 86) rfl dX11_least_202 ?_
                                  refine j_nrm (nI ((fun p => jBn (fun k => decide (if mem 82 (8 * dr + k) = 0 then mem 74 (9 * p) = mem 83 (8 * dr + k) else (mem 82 (8 * dr + k) = 1 ∨ mem 84 (8 * dr + k) ≤ mem 74 (9 * p + 5 + (mem 83 (8 * dr + k)).toNatClampNeg)))) q) j)) (hfit j hj2) ?_
                                  refine s_callSi X hR (m_bits np _ _) rfl u1369 u1367 u1368 u12 hyX11_bits (by decide) (by decide) (Nat.le_of_ble_eq_true rfl) dX11_least_203 (fun v_203 m_203 h_203 => ?_)
                                  obtain ⟨e1, e2⟩ := h_203; have e1 := e1.symm; have e2 := e2.symm; subst e1; subst e2
                                  refine j_nrm (nI (pc8 ((fun p => jBn (fun k => decide (if mem 82 (8 * dr + k) = 0 then mem 74 (9 * p) = mem 83 (8 * dr + k) else (mem 82 (8 * dr + k) = 1 ∨ mem 84 (8 * dr + k) ≤ mem 74 (9 * p + 5 + (mem 83 (8 * dr + k)).toNatClampNeg)))) q) j))) (jBc_d _ (Nat.lt_of_lt_of_le (hfl j) (Nat.pow_le_pow_right (by omega) hq : 2 ^ q ≤ 2 ^ 8))) ?_
                                  refine j_iadd X dX11_least_206 ?_
                                  refine j_iadd X dX11_least_207 ?_
                                  refine j_nrm (nI (wS (fun p => jBn (fun k => decide (if mem 82 (8 * dr + k) = 0 then mem 74 (9 * p) = mem 83 (8 * dr + k) else (mem 82 (8 * dr + k) = 1 ∨ mem 84 (8 * dr + k) ≤ mem 74 (9 * p + 5 + (mem 83 (8 * dr + k)).toNatClampNeg)))) q) k j + (1 + pc8 ((fun p => jBn (fun k => decide (if mem 82 (8 * dr + k) = 0 then mem 74 (9 * p) = mem 83 (8 * dr + k) else (mem 82 (8 * dr + k) = 1 ∨ mem 84 (8 * dr + k) ≤ mem 74 (9 * p + 5 + (mem 83 (8 * dr + k)).toNatClampNeg)))) q) j)))) (by rw [show (1 : Int32) = nI 1 from rfl, nI_add, nI_add]) ?_
                                  refine j_istore X dX11_least_208 (by decide) ?_
                                  refine j_iinc X dX11_least_210 rfl 1 rfl ?_
                                  refine j_goto X 161 dX11_least_213 (by decide) ?_
                                  refine j_lv [some (.ref 66), some (.int b), some (.int (nI dr)), some (.int d), some (.int 1), some (.int (nI (jBn (fun p => decide (mem 74 (9 * p + 1) = b ∧ jHold (mem 74 (9 * p + 3)) (mem 74 (9 * p + 4)) (mem 75 p) (mem 73 (2 * (mem 74 (9 * p)).toNatClampNeg + 1)) (mem 73 (2 * (mem 74 (9 * p)).toNatClampNeg)) (mem 79 dr) d = 0)) np))), some (.int best), some (.int least), some (.int (nI k)), some (.int (nI (oS (fun p => jBn (fun k => decide (if mem 82 (8 * dr + k) = 0 then mem 74 (9 * p) = mem 83 (8 * dr + k) else (mem 82 (8 * dr + k) = 1 ∨ mem 84 (8 * dr + k) ≤ mem 74 (9 * p + 5 + (mem 83 (8 * dr + k)).toNatClampNeg)))) q) k (j + 1)))), some (.int (nI (wS (fun p => jBn (fun k => decide (if mem 82 (8 * dr + k) = 0 then mem 74 (9 * p) = mem 83 (8 * dr + k) else (mem 82 (8 * dr + k) = 1 ∨ mem 84 (8 * dr + k) ≤ mem 74 (9 * p + 5 + (mem 83 (8 * dr + k)).toNatClampNeg)))) q) k (j + 1)))), some (.int (nI (j + 1)))] ⟨rfl, rfl, rfl, rfl, rfl, rfl, rfl, rfl, rfl, (congrArg (fun z => some (Value.int z)) (congrArg nI (by first | exact (show oS (fun p => jBn (fun k => decide (if mem 82 (8 * dr + k) = 0 then mem 74 (9 * p) = mem 83 (8 * dr + k) else (mem 82 (8 * dr + k) = 1 ∨ mem 84 (8 * dr + k) ≤ mem 74 (9 * p + 5 + (mem 83 (8 * dr + k)).toNatClampNeg)))) q) k (j + 1) = _ from if_pos ((jbit (by omega) (by omega)).mp c_178)).symm | exact (show oS (fun p => jBn (fun k => decide (if mem 82 (8 * dr + k) = 0 then mem 74 (9 * p) = mem 83 (8 * dr + k) else (mem 82 (8 * dr + k) = 1 ∨ mem 84 (8 * dr + k) ≤ mem 74 (9 * p + 5 + (mem 83 (8 * dr + k)).toNatClampNeg)))) q) k (j + 1) = _ from if_neg (fun z => c_178 ((jbit (by omega) (by omega)).mpr z))).symm))), (congrArg (fun z => some (Value.int z)) (congrArg nI (by first | exact (show wS (fun p => jBn (fun k => decide (if mem 82 (8 * dr + k) = 0 then mem 74 (9 * p) = mem 83 (8 * dr + k) else (mem 82 (8 * dr + k) = 1 ∨ mem 84 (8 * dr + k) ≤ mem 74 (9 * p + 5 + (mem 83 (8 * dr + k)).toNatClampNeg)))) q) k (j + 1) = _ from if_pos ((jbit (by omega) (by omega)).mp c_178)).symm | exact (show wS (fun p => jBn (fun k => decide (if mem 82 (8 * dr + k) = 0 then mem 74 (9 * p) = mem 83 (8 * dr + k) else (mem 82 (8 * dr + k) = 1 ∨ mem 84 (8 * dr + k) ≤ mem 74 (9 * p + 5 + (mem 83 (8 * dr + k)).toNatClampNeg)))) q) k (j + 1) = _ from if_neg (fun z => c_178 ((jbit (by omega) (by omega)).mpr z))).symm))), (congrArg (fun z => some (Value.int z)) (nI_1 _)), trivial⟩ ?_
                                  exact ih161 (j + 1) (by omega) (by omega)
                          refine j_lv [some (.ref 66), some (.int b), some (.int (nI dr)), some (.int d), some (.int 1), some (.int (nI (jBn (fun p => decide (mem 74 (9 * p + 1) = b ∧ jHold (mem 74 (9 * p + 3)) (mem 74 (9 * p + 4)) (mem 75 p) (mem 73 (2 * (mem 74 (9 * p)).toNatClampNeg + 1)) (mem 73 (2 * (mem 74 (9 * p)).toNatClampNeg)) (mem 79 dr) d = 0)) np))), some (.int best), some (.int least), some (.int (nI k)), some (.int (nI (oS (fun p => jBn (fun k => decide (if mem 82 (8 * dr + k) = 0 then mem 74 (9 * p) = mem 83 (8 * dr + k) else (mem 82 (8 * dr + k) = 1 ∨ mem 84 (8 * dr + k) ≤ mem 74 (9 * p + 5 + (mem 83 (8 * dr + k)).toNatClampNeg)))) q) k 0))), some (.int (nI (wS (fun p => jBn (fun k => decide (if mem 82 (8 * dr + k) = 0 then mem 74 (9 * p) = mem 83 (8 * dr + k) else (mem 82 (8 * dr + k) = 1 ∨ mem 84 (8 * dr + k) ≤ mem 74 (9 * p + 5 + (mem 83 (8 * dr + k)).toNatClampNeg)))) q) k 0))), some (.int (nI 0))] ⟨rfl, rfl, rfl, rfl, rfl, rfl, rfl, rfl, rfl, rfl, rfl, rfl, trivial⟩ ?_
                          exact lp161 (np + 1) 0 (by omega) (by omega)
                  refine j_lv [some (.ref 66), some (.int b), some (.int (nI dr)), some (.int d), some (.int 1), some (.int (nI (jBn (fun p => decide (mem 74 (9 * p + 1) = b ∧ jHold (mem 74 (9 * p + 3)) (mem 74 (9 * p + 4)) (mem 75 p) (mem 73 (2 * (mem 74 (9 * p)).toNatClampNeg + 1)) (mem 73 (2 * (mem 74 (9 * p)).toNatClampNeg)) (mem 79 dr) d = 0)) np))), some (.int (-1000000)), some (.int 0), some (.int (nI 0))] ⟨rfl, rfl, rfl, rfl, rfl, (congrArg (fun z => some (Value.int z)) (jBits_n _ (by omega))), rfl, rfl, rfl, trivial⟩ ?_
                  exact lp131 (2 ^ np + 1) 0 _ _ (by omega) (by omega) (Or.inl ⟨rfl, fun S hS => absurd hS (by omega)⟩)
                · have hk2 : p < np := by clear hE hr hR X hof hoo hfit hJ; (try simp only [lg_cmp_lt, lg_cmp_gt, lg_cmp_le, lg_cmp_ge] at *); (try simp (disch := omega) only [Int64.le_iff_toInt_le, Int64.lt_iff_toInt_lt, Int32.le_iff_toInt_le, Int32.lt_iff_toInt_lt, fa_eq, fa_lit, fa_litL, nI_toInt, pk_lT, Int32.toInt_toInt64, jadd64, jin, jnoneT] at *); omega
                  obtain ⟨o, ho1, ho2⟩ := hoo p hk2
                  have hg1 : (fun p => decide (mem 74 (9 * p + 1) = b ∧ jHold (mem 74 (9 * p + 3)) (mem 74 (9 * p + 4)) (mem 75 p) (mem 73 (2 * (mem 74 (9 * p)).toNatClampNeg + 1)) (mem 73 (2 * (mem 74 (9 * p)).toNatClampNeg)) (mem 79 dr) d = 0)) p = decide (mem 74 (9 * p + 1) = b ∧ jHold (mem 74 (9 * p + 3)) (mem 74 (9 * p + 4)) (mem 75 p) (mem 73 (2 * o + 1)) (mem 73 (2 * o)) (mem 79 dr) d = 0) := by simp only [ho2, nI_clamp (show o < 2 ^ 31 by omega)]
                  refine j_iload X dX11_least_66 rfl ?_
                  refine j_aload_n X dX11_least_68 rfl ?_
                  refine j_iload X dX11_least_69 rfl ?_
                  refine j_iconst X dX11_least_71 1 (by decide) ?_
                  refine s_callVi X hR (m_of np _ p 1 (by omega) (by omega)) rfl 11 (by decide) (o66 np) (k66 np) rfl u1180 u1177 u1179 qp44 u12 hyX11_of (by decide) (by decide) (Nat.le_of_ble_eq_true rfl) dX11_least_72 (fun v_72 m_72 h_72 => ?_)
                  obtain ⟨e1, e2⟩ := h_72; have e1 := e1.symm; have e2 := e2.symm; subst e1; subst e2
                  refine j_nrm (mem 74 (9 * p + 1)) (by rw [e74]) ?_
                  refine j_iload_n X dX11_least_75 rfl ?_
                  refine j_icmp_ne X 97 dX11_least_76 (by decide) (fun c_76 => ?_) (fun c_76 => ?_)
                  · refine j_iconst X dX11_least_97 0 (by decide) ?_
                    refine j_ior X dX11_least_98 ?_
                    refine j_istore X dX11_least_99 (by decide) ?_
                    refine j_aload_n X dX11_least_101 rfl ?_
                    refine j_getR X 11 33 (by decide) (by decide) rfl u983 (o66 np) (k66 np) _ (p66_33 np) dX11_least_102 ?_
                    refine j_iload X dX11_least_105 rfl ?_
                    refine j_aload_n X dX11_least_107 rfl ?_
                    refine j_iload X dX11_least_108 rfl ?_
                    refine j_iload_n X dX11_least_110 rfl ?_
                    refine s_callVi X hR (m_fitsOf np _ p dr q (by omega) hdr hq (by rw [e81]; exact hc) (fun k hk => by rw [e83]; exact hof k hk)) rfl 11 (by decide) (o66 np) (k66 np) rfl u1366 u1363 u1365 qp61 u12 hyX11_fitsOf (by decide) (by decide) (Nat.le_of_ble_eq_true rfl) dX11_least_111 (fun v_111 m_111 h_111 => ?_)
                    obtain ⟨e1, e2⟩ := h_111; have e1 := e1.symm; have e2 := e2.symm; subst e1; subst e2
                    refine j_nrm (nI ((fun p => jBn (fun k => decide (if mem 82 (8 * dr + k) = 0 then mem 74 (9 * p) = mem 83 (8 * dr + k) else (mem 82 (8 * dr + k) = 1 ∨ mem 84 (8 * dr + k) ≤ mem 74 (9 * p + 5 + (mem 83 (8 * dr + k)).toNatClampNeg)))) q) p)) (by simp only [e74, e73, e75, e79, e81, e82, e83, e84]; exact jBits_n q (by omega)) ?_
                    refine j_nrm2 _ (by first | (simp only [fa_lit, pk_mul, nI_add]; done) | (simp only [fa_lit, pk_mul, nI_add]; rfl) | rfl) ?_
                    refine j_iastN X (o86 np) (k86 np) (by rw [l86]; omega) (by rw [l86]; decide) dX11_least_114 ?_
                    refine j_iinc X dX11_least_115 rfl 1 rfl ?_
                    refine j_goto X 57 dX11_least_118 (by decide) ?_
                    refine j_lv [some (.ref 66), some (.int b), some (.int (nI dr)), some (.int d), some (.int 1), some (.int (jBits (fun p => decide (mem 74 (9 * p + 1) = b ∧ jHold (mem 74 (9 * p + 3)) (mem 74 (9 * p + 4)) (mem 75 p) (mem 73 (2 * (mem 74 (9 * p)).toNatClampNeg + 1)) (mem 73 (2 * (mem 74 (9 * p)).toNatClampNeg)) (mem 79 dr) d = 0)) nI (p + 1))), some (.int (nI (p + 1)))] ⟨rfl, rfl, rfl, rfl, rfl, (congrArg (fun z => some (Value.int z)) (by first | exact jBits_t (g := (fun p => decide (mem 74 (9 * p + 1) = b ∧ jHold (mem 74 (9 * p + 3)) (mem 74 (9 * p + 4)) (mem 75 p) (mem 73 (2 * (mem 74 (9 * p)).toNatClampNeg + 1)) (mem 73 (2 * (mem 74 (9 * p)).toNatClampNeg)) (mem 79 dr) d = 0))) (b := nI) (hg1.trans (decide_eq_true ⟨c_76, c_87⟩)) | exact jBits_f (g := (fun p => decide (mem 74 (9 * p + 1) = b ∧ jHold (mem 74 (9 * p + 3)) (mem 74 (9 * p + 4)) (mem 75 p) (mem 73 (2 * (mem 74 (9 * p)).toNatClampNeg + 1)) (mem 73 (2 * (mem 74 (9 * p)).toNatClampNeg)) (mem 79 dr) d = 0))) (b := nI) (fun z => c_87 (of_decide_eq_true (hg1.symm.trans z)).2) | exact jBits_f (g := (fun p => decide (mem 74 (9 * p + 1) = b ∧ jHold (mem 74 (9 * p + 3)) (mem 74 (9 * p + 4)) (mem 75 p) (mem 73 (2 * (mem 74 (9 * p)).toNatClampNeg + 1)) (mem 73 (2 * (mem 74 (9 * p)).toNatClampNeg)) (mem 79 dr) d = 0))) (b := nI) (fun z => c_76 (of_decide_eq_true (hg1.symm.trans z)).1))), (congrArg (fun z => some (Value.int z)) (nI_1 _)), trivial⟩ ?_
                    exact ih57 (p + 1) _ (by omega) (by omega) (jeq.up hJ (by decide)) (fun j hj => by
              by_cases e : j = p
              · subst e
                simp [jup, va_up]
              · have := hfit j (by omega)
                simp only [jup, va_up, e, if_true, if_false]
                exact this)
                  · refine j_aload_n X dX11_least_79 rfl ?_
                    refine j_iload X dX11_least_80 rfl ?_
                    refine j_iload_n X dX11_least_82 rfl ?_
                    refine j_iload_n X dX11_least_83 rfl ?_
                    refine s_callVi X hR (m_holdsAt np _ p dr o d (by omega) hdr ho1 (by rw [e74]; exact ho2)) rfl 11 (by decide) (o66 np) (k66 np) rfl u1281 u1278 u1280 qp49 u12 hyX11_holdsAt (by decide) (by decide) (Nat.le_of_ble_eq_true rfl) dX11_least_84 (fun v_84 m_84 h_84 => ?_)
                    obtain ⟨e1, e2⟩ := h_84; have e1 := e1.symm; have e2 := e2.symm; subst e1; subst e2
                    refine j_nrm (jHold (mem 74 (9 * p + 3)) (mem 74 (9 * p + 4)) (mem 75 p) (mem 73 (2 * o + 1)) (mem 73 (2 * o)) (mem 79 dr) d) (by simp only [e74, e73, e75, e79, e81, e82, e83, e84]) ?_
                    refine j_if_ne X 97 dX11_least_87 (by decide) (fun c_87 => ?_) (fun c_87 => ?_)
                    · refine j_iconst X dX11_least_97 0 (by decide) ?_
                      refine j_ior X dX11_least_98 ?_
                      refine j_istore X dX11_least_99 (by decide) ?_
                      refine j_aload_n X dX11_least_101 rfl ?_
                      refine j_getR X 11 33 (by decide) (by decide) rfl u983 (o66 np) (k66 np) _ (p66_33 np) dX11_least_102 ?_
                      refine j_iload X dX11_least_105 rfl ?_
                      refine j_aload_n X dX11_least_107 rfl ?_
                      refine j_iload X dX11_least_108 rfl ?_
                      refine j_iload_n X dX11_least_110 rfl ?_
                      refine s_callVi X hR (m_fitsOf np _ p dr q (by omega) hdr hq (by rw [e81]; exact hc) (fun k hk => by rw [e83]; exact hof k hk)) rfl 11 (by decide) (o66 np) (k66 np) rfl u1366 u1363 u1365 qp61 u12 hyX11_fitsOf (by decide) (by decide) (Nat.le_of_ble_eq_true rfl) dX11_least_111 (fun v_111 m_111 h_111 => ?_)
                      obtain ⟨e1, e2⟩ := h_111; have e1 := e1.symm; have e2 := e2.symm; subst e1; subst e2
                      refine j_nrm (nI ((fun p => jBn (fun k => decide (if mem 82 (8 * dr + k) = 0 then mem 74 (9 * p) = mem 83 (8 * dr + k) else (mem 82 (8 * dr + k) = 1 ∨ mem 84 (8 * dr + k) ≤ mem 74 (9 * p + 5 + (mem 83 (8 * dr + k)).toNatClampNeg)))) q) p)) (by simp only [e74, e73, e75, e79, e81, e82, e83, e84]; exact jBits_n q (by omega)) ?_
                      refine j_nrm2 _ (by first | (simp only [fa_lit, pk_mul, nI_add]; done) | (simp only [fa_lit, pk_mul, nI_add]; rfl) | rfl) ?_
                      refine j_iastN X (o86 np) (k86 np) (by rw [l86]; omega) (by rw [l86]; decide) dX11_least_114 ?_
                      refine j_iinc X dX11_least_115 rfl 1 rfl ?_
                      refine j_goto X 57 dX11_least_118 (by decide) ?_
                      refine j_lv [some (.ref 66), some (.int b), some (.int (nI dr)), some (.int d), some (.int 1), some (.int (jBits (fun p => decide (mem 74 (9 * p + 1) = b ∧ jHold (mem 74 (9 * p + 3)) (mem 74 (9 * p + 4)) (mem 75 p) (mem 73 (2 * (mem 74 (9 * p)).toNatClampNeg + 1)) (mem 73 (2 * (mem 74 (9 * p)).toNatClampNeg)) (mem 79 dr) d = 0)) nI (p + 1))), some (.int (nI (p + 1)))] ⟨rfl, rfl, rfl, rfl, rfl, (congrArg (fun z => some (Value.int z)) (by first | exact jBits_t (g := (fun p => decide (mem 74 (9 * p + 1) = b ∧ jHold (mem 74 (9 * p + 3)) (mem 74 (9 * p + 4)) (mem 75 p) (mem 73 (2 * (mem 74 (9 * p)).toNatClampNeg + 1)) (mem 73 (2 * (mem 74 (9 * p)).toNatClampNeg)) (mem 79 dr) d = 0))) (b := nI) (hg1.trans (decide_eq_true ⟨c_76, c_87⟩)) | exact jBits_f (g := (fun p => decide (mem 74 (9 * p + 1) = b ∧ jHold (mem 74 (9 * p + 3)) (mem 74 (9 * p + 4)) (mem 75 p) (mem 73 (2 * (mem 74 (9 * p)).toNatClampNeg + 1)) (mem 73 (2 * (mem 74 (9 * p)).toNatClampNeg)) (mem 79 dr) d = 0))) (b := nI) (fun z => c_87 (of_decide_eq_true (hg1.symm.trans z)).2) | exact jBits_f (g := (fun p => decide (mem 74 (9 * p + 1) = b ∧ jHold (mem 74 (9 * p + 3)) (mem 74 (9 * p + 4)) (mem 75 p) (mem 73 (2 * (mem 74 (9 * p)).toNatClampNeg + 1)) (mem 73 (2 * (mem 74 (9 * p)).toNatClampNeg)) (mem 79 dr) d = 0))) (b := nI) (fun z => c_76 (of_decide_eq_true (hg1.symm.trans z)).1))), (congrArg (fun z => some (Value.int z)) (nI_1 _)), trivial⟩ ?_
                      exact ih57 (p + 1) _ (by omega) (by omega) (jeq.up hJ (by decide)) (fun j hj => by
              by_cases e : j = p
              · subst e
                simp [jup, va_up]
              · have := hfit j (by omega)
                simp only [jup, va_up, e, if_true, if_false]
                exact this)
                    · refine j_iconst X dX11_least_90 1 (by decide) ?_
                      refine j_iload X dX11_least_91 rfl ?_
                      refine j_ishl X dX11_least_93 ?_
                      refine j_goto X 98 dX11_least_94 (by decide) ?_
                      refine j_ior X dX11_least_98 ?_
                      refine j_istore X dX11_least_99 (by decide) ?_
                      refine j_aload_n X dX11_least_101 rfl ?_
                      refine j_getR X 11 33 (by decide) (by decide) rfl u983 (o66 np) (k66 np) _ (p66_33 np) dX11_least_102 ?_
                      refine j_iload X dX11_least_105 rfl ?_
                      refine j_aload_n X dX11_least_107 rfl ?_
                      refine j_iload X dX11_least_108 rfl ?_
                      refine j_iload_n X dX11_least_110 rfl ?_
                      refine s_callVi X hR (m_fitsOf np _ p dr q (by omega) hdr hq (by rw [e81]; exact hc) (fun k hk => by rw [e83]; exact hof k hk)) rfl 11 (by decide) (o66 np) (k66 np) rfl u1366 u1363 u1365 qp61 u12 hyX11_fitsOf (by decide) (by decide) (Nat.le_of_ble_eq_true rfl) dX11_least_111 (fun v_111 m_111 h_111 => ?_)
                      obtain ⟨e1, e2⟩ := h_111; have e1 := e1.symm; have e2 := e2.symm; subst e1; subst e2
                      refine j_nrm (nI ((fun p => jBn (fun k => decide (if mem 82 (8 * dr + k) = 0 then mem 74 (9 * p) = mem 83 (8 * dr + k) else (mem 82 (8 * dr + k) = 1 ∨ mem 84 (8 * dr + k) ≤ mem 74 (9 * p + 5 + (mem 83 (8 * dr + k)).toNatClampNeg)))) q) p)) (by simp only [e74, e73, e75, e79, e81, e82, e83, e84]; exact jBits_n q (by omega)) ?_
                      refine j_nrm2 _ (by first | (simp only [fa_lit, pk_mul, nI_add]; done) | (simp only [fa_lit, pk_mul, nI_add]; rfl) | rfl) ?_
                      refine j_iastN X (o86 np) (k86 np) (by rw [l86]; omega) (by rw [l86]; decide) dX11_least_114 ?_
                      refine j_iinc X dX11_least_115 rfl 1 rfl ?_
                      refine j_goto X 57 dX11_least_118 (by decide) ?_
                      refine j_lv [some (.ref 66), some (.int b), some (.int (nI dr)), some (.int d), some (.int 1), some (.int (jBits (fun p => decide (mem 74 (9 * p + 1) = b ∧ jHold (mem 74 (9 * p + 3)) (mem 74 (9 * p + 4)) (mem 75 p) (mem 73 (2 * (mem 74 (9 * p)).toNatClampNeg + 1)) (mem 73 (2 * (mem 74 (9 * p)).toNatClampNeg)) (mem 79 dr) d = 0)) nI (p + 1))), some (.int (nI (p + 1)))] ⟨rfl, rfl, rfl, rfl, rfl, (congrArg (fun z => some (Value.int z)) (by first | exact jBits_t (g := (fun p => decide (mem 74 (9 * p + 1) = b ∧ jHold (mem 74 (9 * p + 3)) (mem 74 (9 * p + 4)) (mem 75 p) (mem 73 (2 * (mem 74 (9 * p)).toNatClampNeg + 1)) (mem 73 (2 * (mem 74 (9 * p)).toNatClampNeg)) (mem 79 dr) d = 0))) (b := nI) (hg1.trans (decide_eq_true ⟨c_76, c_87⟩)) | exact jBits_f (g := (fun p => decide (mem 74 (9 * p + 1) = b ∧ jHold (mem 74 (9 * p + 3)) (mem 74 (9 * p + 4)) (mem 75 p) (mem 73 (2 * (mem 74 (9 * p)).toNatClampNeg + 1)) (mem 73 (2 * (mem 74 (9 * p)).toNatClampNeg)) (mem 79 dr) d = 0))) (b := nI) (fun z => c_87 (of_decide_eq_true (hg1.symm.trans z)).2) | exact jBits_f (g := (fun p => decide (mem 74 (9 * p + 1) = b ∧ jHold (mem 74 (9 * p + 3)) (mem 74 (9 * p + 4)) (mem 75 p) (mem 73 (2 * (mem 74 (9 * p)).toNatClampNeg + 1)) (mem 73 (2 * (mem 74 (9 * p)).toNatClampNeg)) (mem 79 dr) d = 0))) (b := nI) (fun z => c_76 (of_decide_eq_true (hg1.symm.trans z)).1))), (congrArg (fun z => some (Value.int z)) (nI_1 _)), trivial⟩ ?_
                      exact ih57 (p + 1) _ (by omega) (by omega) (jeq.up hJ (by decide)) (fun j hj => by
              by_cases e : j = p
              · subst e
                simp [jup, va_up]
              · have := hfit j (by omega)
                simp only [jup, va_up, e, if_true, if_false]
                exact this)
            refine j_lv [some (.ref 66), some (.int b), some (.int (nI dr)), some (.int d), some (.int 1), some (.int (jBits (fun p => decide (mem 74 (9 * p + 1) = b ∧ jHold (mem 74 (9 * p + 3)) (mem 74 (9 * p + 4)) (mem 75 p) (mem 73 (2 * (mem 74 (9 * p)).toNatClampNeg + 1)) (mem 73 (2 * (mem 74 (9 * p)).toNatClampNeg)) (mem 79 dr) d = 0)) nI 0)), some (.int (nI 0))] ⟨rfl, rfl, rfl, rfl, rfl, rfl, rfl, trivial⟩ ?_
            exact lp57 (np + 1) 0 _ (by omega) (by omega) jeq.rf (fun j hj => absurd hj (by omega))
          · exact absurd c_45 hA
        · exfalso
          clear hE hr hR X
          (try simp only [lg_cmp_lt, lg_cmp_gt, lg_cmp_le, lg_cmp_ge] at *); (try simp (disch := omega) only [Int64.le_iff_toInt_le, Int64.lt_iff_toInt_lt, Int32.le_iff_toInt_le, Int32.lt_iff_toInt_lt, fa_eq, fa_lit, fa_litL, nI_toInt, pk_lT, Int32.toInt_toInt64, jadd64, jin, jnoneT] at *); omega
