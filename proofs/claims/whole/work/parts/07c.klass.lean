def jsv (B : Int) (x E : Int32) : Int32 := if 0 ≤ x.toInt ∧ x.toInt ≤ B then E else -1
def jsj (a b : Int32) : Int32 := if a < 0 ∨ b < 0 then -1 else jJoin a b
theorem jsv_t {B : Int} {x E : Int32} (h : jin x 0 B) : jsv B x E = E := if_pos h
theorem jsv_f {B : Int} {x E : Int32} (h : ¬ jin x 0 B) : jsv B x E = -1 := if_neg h
theorem jsj_t {a b : Int32} (ha : jin a 0 65520) (hb : jin b 0 65520) : jsj a b = jJoin a b := by
  have h1 := ha.1
  have h2 := hb.1
  refine if_neg (fun z => ?_)
  rcases z with z | z <;> rw [Int32.lt_iff_toInt_lt] at z <;> simp at z <;> omega
theorem jsj_1 {b : Int32} : jsj (-1) b = -1 := if_pos (Or.inl (by decide))
theorem jsj_2 {a : Int32} : jsj a (-1) = -1 := if_pos (Or.inr (by decide))
theorem jin_999 {x : Int32} (h : jin x 0 999) : jin x 0 65520 := ⟨h.1, by have := h.2; omega⟩
set_option maxRecDepth 4000 in
set_option maxHeartbeats 1000000 in
theorem c_paperAt (np : Nat) (mem : jMem) (p : Nat) (hn : np ≤ 12) (hp : mem 0 12 = nI np) (hp2 : p < np) : jPa yX10_paperAt cX10_paperAt 2 "PaperPocket$Paper" 1 [.ref 0, .int (nI p)] np mem (fun v c => v = .ref (92 + 2 * p) ∧ c = mem) := by
  refine jPa.of (own := RX10) rfl rfl (Nat.le_of_ble_eq_true rfl) (fun G X hR hr hE => ?_)
  refine j_iload_n X dX10_paperAt_0 rfl ?_
  refine j_if_lt X 27 dX10_paperAt_1 (by decide) (fun c_1 => ?_) (fun c_1 => ?_)
  · exfalso
    clear hE hr hR X
    (try simp only [lg_cmp_lt, lg_cmp_gt, lg_cmp_le, lg_cmp_ge] at *); (try simp (disch := omega) only [Int64.le_iff_toInt_le, Int64.lt_iff_toInt_lt, Int32.le_iff_toInt_le, Int32.lt_iff_toInt_lt, fa_eq, fa_lit, fa_litL, nI_toInt, pk_lT, Int32.toInt_toInt64, jadd64, jin, jnoneT] at *); omega
  · refine j_iload_n X dX10_paperAt_4 rfl ?_
    refine j_aload_n X dX10_paperAt_5 rfl ?_
    refine j_getF X 10 12 (by decide) (by decide) rfl u250 (o0 np) (k0 np) (mem 0) rfl dX10_paperAt_6 ?_
    refine j_nrm (nI np) hp ?_
    refine j_icmp_ge X 27 dX10_paperAt_9 (by decide) (fun c_9 => ?_) (fun c_9 => ?_)
    · exfalso
      clear hE hr hR X
      (try simp only [lg_cmp_lt, lg_cmp_gt, lg_cmp_le, lg_cmp_ge] at *); (try simp (disch := omega) only [Int64.le_iff_toInt_le, Int64.lt_iff_toInt_lt, Int32.le_iff_toInt_le, Int32.lt_iff_toInt_lt, fa_eq, fa_lit, fa_litL, nI_toInt, pk_lT, Int32.toInt_toInt64, jadd64, jin, jnoneT] at *); omega
    · refine j_iload_n X dX10_paperAt_12 rfl ?_
      refine j_bipush X dX10_paperAt_13 12 (by decide) ?_
      refine j_icmp_ge X 27 dX10_paperAt_15 (by decide) (fun c_15 => ?_) (fun c_15 => ?_)
      · exfalso
        clear hE hr hR X
        (try simp only [lg_cmp_lt, lg_cmp_gt, lg_cmp_le, lg_cmp_ge] at *); (try simp (disch := omega) only [Int64.le_iff_toInt_le, Int64.lt_iff_toInt_lt, Int32.le_iff_toInt_le, Int32.lt_iff_toInt_lt, fa_eq, fa_lit, fa_litL, nI_toInt, pk_lT, Int32.toInt_toInt64, jadd64, jin, jnoneT] at *); omega
      · refine j_aload_n X dX10_paperAt_18 rfl ?_
        refine j_getR X 10 2 (by decide) (by decide) rfl u240 (o0 np) (k0 np) _ (p0_2 np) dX10_paperAt_19 ?_
        refine j_iload_n X dX10_paperAt_22 rfl ?_
        refine j_nrm _ (by first | (simp only [fa_lit, pk_mul, nI_add]; done) | (simp only [fa_lit, pk_mul, nI_add]; rfl) | rfl) ?_
        refine j_aaldPN X (o27 np) (k27 np) (by rw [l27]; omega) (by rw [l27]; decide) (pP_r np hp2) dX10_paperAt_23 ?_
        refine j_goto X 28 dX10_paperAt_24 (by decide) ?_
        refine s_aret X hE hr dX10_paperAt_28 (Or.inr ⟨_, rfl⟩) ?_
        exact ⟨rfl, rfl⟩
set_option maxRecDepth 4000 in
set_option maxHeartbeats 1000000 in
theorem c_paperAt_null (np : Nat) (mem : jMem) (p : Int32) (hn : np ≤ 12) (hp : mem 0 12 = nI np) (h : ¬ jin p 0 ((np : Int) - 1)) : jPa yX10_paperAt cX10_paperAt 2 "PaperPocket$Paper" 1 [.ref 0, .int p] np mem (fun v c => v = .null ∧ c = mem) := by
  refine jPa.of (own := RX10) rfl rfl (Nat.le_of_ble_eq_true rfl) (fun G X hR hr hE => ?_)
  refine j_iload_n X dX10_paperAt_0 rfl ?_
  refine j_if_lt X 27 dX10_paperAt_1 (by decide) (fun c_1 => ?_) (fun c_1 => ?_)
  · refine j_null X dX10_paperAt_27 ?_
    refine s_aret X hE hr dX10_paperAt_28 (Or.inl rfl) ?_
    exact ⟨rfl, rfl⟩
  · refine j_iload_n X dX10_paperAt_4 rfl ?_
    refine j_aload_n X dX10_paperAt_5 rfl ?_
    refine j_getF X 10 12 (by decide) (by decide) rfl u250 (o0 np) (k0 np) (mem 0) rfl dX10_paperAt_6 ?_
    refine j_nrm (nI np) hp ?_
    refine j_icmp_ge X 27 dX10_paperAt_9 (by decide) (fun c_9 => ?_) (fun c_9 => ?_)
    · refine j_null X dX10_paperAt_27 ?_
      refine s_aret X hE hr dX10_paperAt_28 (Or.inl rfl) ?_
      exact ⟨rfl, rfl⟩
    · refine j_iload_n X dX10_paperAt_12 rfl ?_
      refine j_bipush X dX10_paperAt_13 12 (by decide) ?_
      refine j_icmp_ge X 27 dX10_paperAt_15 (by decide) (fun c_15 => ?_) (fun c_15 => ?_)
      · refine j_null X dX10_paperAt_27 ?_
        refine s_aret X hE hr dX10_paperAt_28 (Or.inl rfl) ?_
        exact ⟨rfl, rfl⟩
      · exfalso
        clear hE hr hR X
        (try simp only [lg_cmp_lt, lg_cmp_gt, lg_cmp_le, lg_cmp_ge] at *); (try simp (disch := omega) only [Int64.le_iff_toInt_le, Int64.lt_iff_toInt_lt, Int32.le_iff_toInt_le, Int32.lt_iff_toInt_lt, fa_eq, fa_lit, fa_litL, nI_toInt, pk_lT, Int32.toInt_toInt64, jadd64, jin, jnoneT] at *); omega
set_option maxRecDepth 4000 in
set_option maxHeartbeats 1000000 in
theorem c_sheet_bad (np : Nat) (mem : jMem) (s l z : Int32) (h : ¬ (jin s 0 7 ∧ jin l 0 2 ∧ z.toInt ≤ 60)) : jPi yX10_sheet cX10_sheet 4 .int 3 [.ref 0, .int s, .int l, .int z] np mem (fun v c => v = -1000001 ∧ c = mem) := by
  refine jPi.of (own := RX10) rfl rfl (Nat.le_of_ble_eq_true rfl) (fun G X hR hr hE => ?_)
  refine j_iload_n X dX10_sheet_0 rfl ?_
  refine s_callSi X hR (c_isNumber np _ _) rfl u290 u288 u289 u2 hyX7_isNumber (by decide) (by decide) (Nat.le_of_ble_eq_true rfl) dX10_sheet_1 (fun v_1 m_1 h_1 => ?_)
  obtain ⟨e1, e2⟩ := h_1; have e1 := e1.symm; have e2 := e2.symm; subst e1; subst e2
  refine j_ifb_eq X 22 dX10_sheet_4 (by decide) (fun c_4 => ?_) (fun c_4 => ?_)
  · refine j_ldc X dX10_sheet_22 u295 ?_
    refine s_iret X hE hr dX10_sheet_24 rfl ?_
    first | exact ⟨rfl, rfl⟩ | (exfalso; clear hE hr hR X; (try simp only [lg_cmp_lt, lg_cmp_gt, lg_cmp_le, lg_cmp_ge] at *); (try simp (disch := omega) only [Int64.le_iff_toInt_le, Int64.lt_iff_toInt_lt, Int32.le_iff_toInt_le, Int32.lt_iff_toInt_lt, fa_eq, fa_lit, fa_litL, nI_toInt, pk_lT, Int32.toInt_toInt64, jadd64, jin, jnoneT] at *); omega)
  · refine j_iload_n X dX10_sheet_7 rfl ?_
    refine j_iconst X dX10_sheet_8 0 (by decide) ?_
    refine j_iconst X dX10_sheet_9 2 (by decide) ?_
    refine s_callSi X hR (c_withinI np _ _ _ _ (0) (2) rfl rfl) rfl u293 u294 u292 u1 hyX10_within (by decide) (by decide) (Nat.le_of_ble_eq_true rfl) dX10_sheet_10 (fun v_10 m_10 h_10 => ?_)
    obtain ⟨e1, e2⟩ := h_10; have e1 := e1.symm; have e2 := e2.symm; subst e1; subst e2
    refine j_ifb_eq X 22 dX10_sheet_13 (by decide) (fun c_13 => ?_) (fun c_13 => ?_)
    · refine j_ldc X dX10_sheet_22 u295 ?_
      refine s_iret X hE hr dX10_sheet_24 rfl ?_
      first | exact ⟨rfl, rfl⟩ | (exfalso; clear hE hr hR X; (try simp only [lg_cmp_lt, lg_cmp_gt, lg_cmp_le, lg_cmp_ge] at *); (try simp (disch := omega) only [Int64.le_iff_toInt_le, Int64.lt_iff_toInt_lt, Int32.le_iff_toInt_le, Int32.lt_iff_toInt_lt, fa_eq, fa_lit, fa_litL, nI_toInt, pk_lT, Int32.toInt_toInt64, jadd64, jin, jnoneT] at *); omega)
    · refine j_iload_n X dX10_sheet_16 rfl ?_
      refine j_bipush X dX10_sheet_17 60 (by decide) ?_
      refine j_icmp_le X 25 dX10_sheet_19 (by decide) (fun c_19 => ?_) (fun c_19 => ?_)
      · exfalso
        clear hE hr hR X
        (try simp only [lg_cmp_lt, lg_cmp_gt, lg_cmp_le, lg_cmp_ge] at *); (try simp (disch := omega) only [Int64.le_iff_toInt_le, Int64.lt_iff_toInt_lt, Int32.le_iff_toInt_le, Int32.lt_iff_toInt_lt, fa_eq, fa_lit, fa_litL, nI_toInt, pk_lT, Int32.toInt_toInt64, jadd64, jin, jnoneT] at *); omega
      · refine j_ldc X dX10_sheet_22 u295 ?_
        refine s_iret X hE hr dX10_sheet_24 rfl ?_
        first | exact ⟨rfl, rfl⟩ | (exfalso; clear hE hr hR X; (try simp only [lg_cmp_lt, lg_cmp_gt, lg_cmp_le, lg_cmp_ge] at *); (try simp (disch := omega) only [Int64.le_iff_toInt_le, Int64.lt_iff_toInt_lt, Int32.le_iff_toInt_le, Int32.lt_iff_toInt_lt, fa_eq, fa_lit, fa_litL, nI_toInt, pk_lT, Int32.toInt_toInt64, jadd64, jin, jnoneT] at *); omega)
set_option maxRecDepth 4000 in
set_option maxHeartbeats 1000000 in
theorem c_sheet_size (np : Nat) (mem : jMem) (s l z : Int32) (h : jin s 0 7 ∧ jin l 0 2 ∧ z.toInt ≤ 60) (hz : z.toInt < 0) : jPi yX10_sheet cX10_sheet 4 .int 3 [.ref 0, .int s, .int l, .int z] np mem (fun v c => v = -1000010 - 4 ∧ c = jup mem 0 14 4) := by
  refine jPi.of (own := RX10) rfl rfl (Nat.le_of_ble_eq_true rfl) (fun G X hR hr hE => ?_)
  refine j_iload_n X dX10_sheet_0 rfl ?_
  refine s_callSi X hR (c_isNumber np _ _) rfl u290 u288 u289 u2 hyX7_isNumber (by decide) (by decide) (Nat.le_of_ble_eq_true rfl) dX10_sheet_1 (fun v_1 m_1 h_1 => ?_)
  obtain ⟨e1, e2⟩ := h_1; have e1 := e1.symm; have e2 := e2.symm; subst e1; subst e2
  refine j_ifb_eq X 22 dX10_sheet_4 (by decide) (fun c_4 => ?_) (fun c_4 => ?_)
  · exfalso
    clear hE hr hR X
    (try simp only [lg_cmp_lt, lg_cmp_gt, lg_cmp_le, lg_cmp_ge] at *); (try simp (disch := omega) only [Int64.le_iff_toInt_le, Int64.lt_iff_toInt_lt, Int32.le_iff_toInt_le, Int32.lt_iff_toInt_lt, fa_eq, fa_lit, fa_litL, nI_toInt, pk_lT, Int32.toInt_toInt64, jadd64, jin, jnoneT] at *); omega
  · refine j_iload_n X dX10_sheet_7 rfl ?_
    refine j_iconst X dX10_sheet_8 0 (by decide) ?_
    refine j_iconst X dX10_sheet_9 2 (by decide) ?_
    refine s_callSi X hR (c_withinI np _ _ _ _ (0) (2) rfl rfl) rfl u293 u294 u292 u1 hyX10_within (by decide) (by decide) (Nat.le_of_ble_eq_true rfl) dX10_sheet_10 (fun v_10 m_10 h_10 => ?_)
    obtain ⟨e1, e2⟩ := h_10; have e1 := e1.symm; have e2 := e2.symm; subst e1; subst e2
    refine j_ifb_eq X 22 dX10_sheet_13 (by decide) (fun c_13 => ?_) (fun c_13 => ?_)
    · exfalso
      clear hE hr hR X
      (try simp only [lg_cmp_lt, lg_cmp_gt, lg_cmp_le, lg_cmp_ge] at *); (try simp (disch := omega) only [Int64.le_iff_toInt_le, Int64.lt_iff_toInt_lt, Int32.le_iff_toInt_le, Int32.lt_iff_toInt_lt, fa_eq, fa_lit, fa_litL, nI_toInt, pk_lT, Int32.toInt_toInt64, jadd64, jin, jnoneT] at *); omega
    · refine j_iload_n X dX10_sheet_16 rfl ?_
      refine j_bipush X dX10_sheet_17 60 (by decide) ?_
      refine j_icmp_le X 25 dX10_sheet_19 (by decide) (fun c_19 => ?_) (fun c_19 => ?_)
      · refine j_iload_n X dX10_sheet_25 rfl ?_
        refine j_if_ge X 35 dX10_sheet_26 (by decide) (fun c_26 => ?_) (fun c_26 => ?_)
        · exfalso
          clear hE hr hR X
          (try simp only [lg_cmp_lt, lg_cmp_gt, lg_cmp_le, lg_cmp_ge] at *); (try simp (disch := omega) only [Int64.le_iff_toInt_le, Int64.lt_iff_toInt_lt, Int32.le_iff_toInt_le, Int32.lt_iff_toInt_lt, fa_eq, fa_lit, fa_litL, nI_toInt, pk_lT, Int32.toInt_toInt64, jadd64, jin, jnoneT] at *); omega
        · refine j_aload_n X dX10_sheet_29 rfl ?_
          refine j_iconst X dX10_sheet_30 4 (by decide) ?_
          refine s_callVi X hR (c_finding np _ _) rfl 10 (by decide) (o0 np) (k0 np) rfl u299 u296 u298 qp0 u1 hyX10_finding (by decide) (by decide) (Nat.le_of_ble_eq_true rfl) dX10_sheet_31 (fun v_31 m_31 h_31 => ?_)
          obtain ⟨e1, e2⟩ := h_31; have e1 := e1.symm; have e2 := e2.symm; subst e1; subst e2
          refine s_iret X hE hr dX10_sheet_34 rfl ?_
          first | exact ⟨rfl, rfl⟩ | (exfalso; clear hE hr hR X; (try simp only [lg_cmp_lt, lg_cmp_gt, lg_cmp_le, lg_cmp_ge] at *); (try simp (disch := omega) only [Int64.le_iff_toInt_le, Int64.lt_iff_toInt_lt, Int32.le_iff_toInt_le, Int32.lt_iff_toInt_lt, fa_eq, fa_lit, fa_litL, nI_toInt, pk_lT, Int32.toInt_toInt64, jadd64, jin, jnoneT] at *); omega)
      · exfalso
        clear hE hr hR X
        (try simp only [lg_cmp_lt, lg_cmp_gt, lg_cmp_le, lg_cmp_ge] at *); (try simp (disch := omega) only [Int64.le_iff_toInt_le, Int64.lt_iff_toInt_lt, Int32.le_iff_toInt_le, Int32.lt_iff_toInt_lt, fa_eq, fa_lit, fa_litL, nI_toInt, pk_lT, Int32.toInt_toInt64, jadd64, jin, jnoneT] at *); omega
set_option maxRecDepth 4000 in
set_option maxHeartbeats 1000000 in
theorem c_sheet (np : Nat) (mem : jMem) (s : Nat) (l z : Int32) (hs : s < 8) (hl : jin l 0 2) (hz : jin z 0 60) : jPi yX10_sheet cX10_sheet 4 .int 3 [.ref 0, .int (nI s), .int l, .int z] np mem (fun v c => v = z ∧ c = jup (jfill (jup (jup mem 11 s l) 12 s z) (3 + s) 0 60 0) 0 14 0) := by
  refine jPi.of (own := RX10) rfl rfl (Nat.le_of_ble_eq_true rfl) (fun G X hR hr hE => ?_)
  refine j_iload_n X dX10_sheet_0 rfl ?_
  refine s_callSi X hR (c_isNumber np _ _) rfl u290 u288 u289 u2 hyX7_isNumber (by decide) (by decide) (Nat.le_of_ble_eq_true rfl) dX10_sheet_1 (fun v_1 m_1 h_1 => ?_)
  obtain ⟨e1, e2⟩ := h_1; have e1 := e1.symm; have e2 := e2.symm; subst e1; subst e2
  refine j_ifb_eq X 22 dX10_sheet_4 (by decide) (fun c_4 => ?_) (fun c_4 => ?_)
  · exfalso
    clear hE hr hR X
    (try simp only [lg_cmp_lt, lg_cmp_gt, lg_cmp_le, lg_cmp_ge] at *); (try simp (disch := omega) only [Int64.le_iff_toInt_le, Int64.lt_iff_toInt_lt, Int32.le_iff_toInt_le, Int32.lt_iff_toInt_lt, fa_eq, fa_lit, fa_litL, nI_toInt, pk_lT, Int32.toInt_toInt64, jadd64, jin, jnoneT] at *); omega
  · refine j_iload_n X dX10_sheet_7 rfl ?_
    refine j_iconst X dX10_sheet_8 0 (by decide) ?_
    refine j_iconst X dX10_sheet_9 2 (by decide) ?_
    refine s_callSi X hR (c_withinI np _ _ _ _ (0) (2) rfl rfl) rfl u293 u294 u292 u1 hyX10_within (by decide) (by decide) (Nat.le_of_ble_eq_true rfl) dX10_sheet_10 (fun v_10 m_10 h_10 => ?_)
    obtain ⟨e1, e2⟩ := h_10; have e1 := e1.symm; have e2 := e2.symm; subst e1; subst e2
    refine j_ifb_eq X 22 dX10_sheet_13 (by decide) (fun c_13 => ?_) (fun c_13 => ?_)
    · exfalso
      clear hE hr hR X
      (try simp only [lg_cmp_lt, lg_cmp_gt, lg_cmp_le, lg_cmp_ge] at *); (try simp (disch := omega) only [Int64.le_iff_toInt_le, Int64.lt_iff_toInt_lt, Int32.le_iff_toInt_le, Int32.lt_iff_toInt_lt, fa_eq, fa_lit, fa_litL, nI_toInt, pk_lT, Int32.toInt_toInt64, jadd64, jin, jnoneT] at *); omega
    · refine j_iload_n X dX10_sheet_16 rfl ?_
      refine j_bipush X dX10_sheet_17 60 (by decide) ?_
      refine j_icmp_le X 25 dX10_sheet_19 (by decide) (fun c_19 => ?_) (fun c_19 => ?_)
      · refine j_iload_n X dX10_sheet_25 rfl ?_
        refine j_if_ge X 35 dX10_sheet_26 (by decide) (fun c_26 => ?_) (fun c_26 => ?_)
        · refine j_aload_n X dX10_sheet_35 rfl ?_
          refine j_getR X 10 0 (by decide) (by decide) rfl u238 (o0 np) (k0 np) _ (p0_0 np) dX10_sheet_36 ?_
          refine j_iload_n X dX10_sheet_39 rfl ?_
          refine j_iload_n X dX10_sheet_40 rfl ?_
          refine j_iload_n X dX10_sheet_41 rfl ?_
          refine s_callVv X hR (c_make np _ s l z hs) rfl 7 (by decide) (o1 np) (k1 np) rfl u304 u301 u302 u303 u2 hyX7_make (by decide) (by decide) (Nat.le_of_ble_eq_true rfl) dX10_sheet_42 (fun m_42 h_42 => ?_)
          have h_42 := h_42.symm; subst h_42
          refine j_aload_n X dX10_sheet_45 rfl ?_
          refine j_iload_n X dX10_sheet_46 rfl ?_
          refine s_callVi X hR (c_found np _ _) rfl 10 (by decide) (o0 np) (k0 np) rfl u308 u305 u307 qp1 u1 hyX10_found (by decide) (by decide) (Nat.le_of_ble_eq_true rfl) dX10_sheet_47 (fun v_47 m_47 h_47 => ?_)
          obtain ⟨e1, e2⟩ := h_47; have e1 := e1.symm; have e2 := e2.symm; subst e1; subst e2
          refine s_iret X hE hr dX10_sheet_50 rfl ?_
          first | exact ⟨rfl, rfl⟩ | (exfalso; clear hE hr hR X; (try simp only [lg_cmp_lt, lg_cmp_gt, lg_cmp_le, lg_cmp_ge] at *); (try simp (disch := omega) only [Int64.le_iff_toInt_le, Int64.lt_iff_toInt_lt, Int32.le_iff_toInt_le, Int32.lt_iff_toInt_lt, fa_eq, fa_lit, fa_litL, nI_toInt, pk_lT, Int32.toInt_toInt64, jadd64, jin, jnoneT] at *); omega)
        · exfalso
          clear hE hr hR X
          (try simp only [lg_cmp_lt, lg_cmp_gt, lg_cmp_le, lg_cmp_ge] at *); (try simp (disch := omega) only [Int64.le_iff_toInt_le, Int64.lt_iff_toInt_lt, Int32.le_iff_toInt_le, Int32.lt_iff_toInt_lt, fa_eq, fa_lit, fa_litL, nI_toInt, pk_lT, Int32.toInt_toInt64, jadd64, jin, jnoneT] at *); omega
      · exfalso
        clear hE hr hR X
        (try simp only [lg_cmp_lt, lg_cmp_gt, lg_cmp_le, lg_cmp_ge] at *); (try simp (disch := omega) only [Int64.le_iff_toInt_le, Int64.lt_iff_toInt_lt, Int32.le_iff_toInt_le, Int32.lt_iff_toInt_lt, fa_eq, fa_lit, fa_litL, nI_toInt, pk_lT, Int32.toInt_toInt64, jadd64, jin, jnoneT] at *); omega
set_option maxRecDepth 4000 in
set_option maxHeartbeats 1000000 in
theorem c_set_bad (np : Nat) (mem : jMem) (s i w : Int32) (h : ¬ jin s 0 7) : jPi yX10_set cX10_set 5 .int 3 [.ref 0, .int s, .int i, .int w] np mem (fun v c => v = -1000001 ∧ c = mem) := by
  refine jPi.of (own := RX10) rfl rfl (Nat.le_of_ble_eq_true rfl) (fun G X hR hr hE => ?_)
  refine j_iload_n X dX10_set_0 rfl ?_
  refine s_callSi X hR (c_isNumber np _ _) rfl u290 u288 u289 u2 hyX7_isNumber (by decide) (by decide) (Nat.le_of_ble_eq_true rfl) dX10_set_1 (fun v_1 m_1 h_1 => ?_)
  obtain ⟨e1, e2⟩ := h_1; have e1 := e1.symm; have e2 := e2.symm; subst e1; subst e2
  refine j_ifb_ne X 10 dX10_set_4 (by decide) (fun c_4 => ?_) (fun c_4 => ?_)
  · exfalso
    clear hE hr hR X
    (try simp only [lg_cmp_lt, lg_cmp_gt, lg_cmp_le, lg_cmp_ge] at *); (try simp (disch := omega) only [Int64.le_iff_toInt_le, Int64.lt_iff_toInt_lt, Int32.le_iff_toInt_le, Int32.lt_iff_toInt_lt, fa_eq, fa_lit, fa_litL, nI_toInt, pk_lT, Int32.toInt_toInt64, jadd64, jin, jnoneT] at *); omega
  · refine j_ldc X dX10_set_7 u295 ?_
    refine s_iret X hE hr dX10_set_9 rfl ?_
    first | exact ⟨rfl, rfl⟩ | (exfalso; clear hE hr hR X; (try simp only [lg_cmp_lt, lg_cmp_gt, lg_cmp_le, lg_cmp_ge] at *); (try simp (disch := omega) only [Int64.le_iff_toInt_le, Int64.lt_iff_toInt_lt, Int32.le_iff_toInt_le, Int32.lt_iff_toInt_lt, fa_eq, fa_lit, fa_litL, nI_toInt, pk_lT, Int32.toInt_toInt64, jadd64, jin, jnoneT] at *); omega)
set_option maxRecDepth 4000 in
set_option maxHeartbeats 1000000 in
theorem c_set_null (np : Nat) (mem : jMem) (s : Nat) (i w : Int32) (hs : s < 8) (hm : mem 12 s = -1) : jPi yX10_set cX10_set 5 .int 3 [.ref 0, .int (nI s), .int i, .int w] np mem (fun v c => v = -1000010 - 1 ∧ c = jup mem 0 14 1) := by
  refine jPi.of (own := RX10) rfl rfl (Nat.le_of_ble_eq_true rfl) (fun G X hR hr hE => ?_)
  refine j_iload_n X dX10_set_0 rfl ?_
  refine s_callSi X hR (c_isNumber np _ _) rfl u290 u288 u289 u2 hyX7_isNumber (by decide) (by decide) (Nat.le_of_ble_eq_true rfl) dX10_set_1 (fun v_1 m_1 h_1 => ?_)
  obtain ⟨e1, e2⟩ := h_1; have e1 := e1.symm; have e2 := e2.symm; subst e1; subst e2
  refine j_ifb_ne X 10 dX10_set_4 (by decide) (fun c_4 => ?_) (fun c_4 => ?_)
  · refine j_aload_n X dX10_set_10 rfl ?_
    refine j_getR X 10 0 (by decide) (by decide) rfl u238 (o0 np) (k0 np) _ (p0_0 np) dX10_set_11 ?_
    refine j_iload_n X dX10_set_14 rfl ?_
    refine j_iload_n X dX10_set_15 rfl ?_
    refine j_iconst X dX10_set_16 1 (by decide) ?_
    refine s_callVi X hR (c_trouble_null np _ s i 1 hs hm) rfl 7 (by decide) (o1 np) (k1 np) rfl u316 u313 u314 u315 u2 hyX7_troubleAt (by decide) (by decide) (Nat.le_of_ble_eq_true rfl) dX10_set_17 (fun v_17 m_17 h_17 => ?_)
    obtain ⟨e1, e2⟩ := h_17; have e1 := e1.symm; have e2 := e2.symm; subst e1; subst e2
    refine j_istore X dX10_set_20 (by decide) ?_
    refine j_iload X dX10_set_22 rfl ?_
    refine j_if_eq X 34 dX10_set_24 (by decide) (fun c_24 => ?_) (fun c_24 => ?_)
    · exact absurd c_24 (by decide)
    · refine j_aload_n X dX10_set_27 rfl ?_
      refine j_iload X dX10_set_28 rfl ?_
      refine s_callVi X hR (c_finding np _ _) rfl 10 (by decide) (o0 np) (k0 np) rfl u299 u296 u298 qp0 u1 hyX10_finding (by decide) (by decide) (Nat.le_of_ble_eq_true rfl) dX10_set_30 (fun v_30 m_30 h_30 => ?_)
      obtain ⟨e1, e2⟩ := h_30; have e1 := e1.symm; have e2 := e2.symm; subst e1; subst e2
      refine s_iret X hE hr dX10_set_33 rfl ?_
      first | exact ⟨rfl, rfl⟩ | (exfalso; clear hE hr hR X; (try simp only [lg_cmp_lt, lg_cmp_gt, lg_cmp_le, lg_cmp_ge] at *); (try simp (disch := omega) only [Int64.le_iff_toInt_le, Int64.lt_iff_toInt_lt, Int32.le_iff_toInt_le, Int32.lt_iff_toInt_lt, fa_eq, fa_lit, fa_litL, nI_toInt, pk_lT, Int32.toInt_toInt64, jadd64, jin, jnoneT] at *); omega)
  · exfalso
    clear hE hr hR X
    (try simp only [lg_cmp_lt, lg_cmp_gt, lg_cmp_le, lg_cmp_ge] at *); (try simp (disch := omega) only [Int64.le_iff_toInt_le, Int64.lt_iff_toInt_lt, Int32.le_iff_toInt_le, Int32.lt_iff_toInt_lt, fa_eq, fa_lit, fa_litL, nI_toInt, pk_lT, Int32.toInt_toInt64, jadd64, jin, jnoneT] at *); omega
set_option maxRecDepth 4000 in
set_option maxHeartbeats 1000000 in
theorem c_set_place (np : Nat) (mem : jMem) (s : Nat) (i w : Int32) (z : Nat) (hs : s < 8) (hz : z ≤ 60) (hm : mem 12 s = nI z) (hi : ¬ jin i 0 ((z : Int) - 1)) : jPi yX10_set cX10_set 5 .int 3 [.ref 0, .int (nI s), .int i, .int w] np mem (fun v c => v = -1000010 - 2 ∧ c = jup mem 0 14 2) := by
  refine jPi.of (own := RX10) rfl rfl (Nat.le_of_ble_eq_true rfl) (fun G X hR hr hE => ?_)
  refine j_iload_n X dX10_set_0 rfl ?_
  refine s_callSi X hR (c_isNumber np _ _) rfl u290 u288 u289 u2 hyX7_isNumber (by decide) (by decide) (Nat.le_of_ble_eq_true rfl) dX10_set_1 (fun v_1 m_1 h_1 => ?_)
  obtain ⟨e1, e2⟩ := h_1; have e1 := e1.symm; have e2 := e2.symm; subst e1; subst e2
  refine j_ifb_ne X 10 dX10_set_4 (by decide) (fun c_4 => ?_) (fun c_4 => ?_)
  · refine j_aload_n X dX10_set_10 rfl ?_
    refine j_getR X 10 0 (by decide) (by decide) rfl u238 (o0 np) (k0 np) _ (p0_0 np) dX10_set_11 ?_
    refine j_iload_n X dX10_set_14 rfl ?_
    refine j_iload_n X dX10_set_15 rfl ?_
    refine j_iconst X dX10_set_16 1 (by decide) ?_
    refine s_callVi X hR (c_trouble_place np _ s z i 1 hs hz hm (fun g => hi ⟨g.1, by have := g.2.2; rw [show (1 : Int32).toInt = 1 from rfl] at this; omega⟩)) rfl 7 (by decide) (o1 np) (k1 np) rfl u316 u313 u314 u315 u2 hyX7_troubleAt (by decide) (by decide) (Nat.le_of_ble_eq_true rfl) dX10_set_17 (fun v_17 m_17 h_17 => ?_)
    obtain ⟨e1, e2⟩ := h_17; have e1 := e1.symm; have e2 := e2.symm; subst e1; subst e2
    refine j_istore X dX10_set_20 (by decide) ?_
    refine j_iload X dX10_set_22 rfl ?_
    refine j_if_eq X 34 dX10_set_24 (by decide) (fun c_24 => ?_) (fun c_24 => ?_)
    · exact absurd c_24 (by decide)
    · refine j_aload_n X dX10_set_27 rfl ?_
      refine j_iload X dX10_set_28 rfl ?_
      refine s_callVi X hR (c_finding np _ _) rfl 10 (by decide) (o0 np) (k0 np) rfl u299 u296 u298 qp0 u1 hyX10_finding (by decide) (by decide) (Nat.le_of_ble_eq_true rfl) dX10_set_30 (fun v_30 m_30 h_30 => ?_)
      obtain ⟨e1, e2⟩ := h_30; have e1 := e1.symm; have e2 := e2.symm; subst e1; subst e2
      refine s_iret X hE hr dX10_set_33 rfl ?_
      first | exact ⟨rfl, rfl⟩ | (exfalso; clear hE hr hR X; (try simp only [lg_cmp_lt, lg_cmp_gt, lg_cmp_le, lg_cmp_ge] at *); (try simp (disch := omega) only [Int64.le_iff_toInt_le, Int64.lt_iff_toInt_lt, Int32.le_iff_toInt_le, Int32.lt_iff_toInt_lt, fa_eq, fa_lit, fa_litL, nI_toInt, pk_lT, Int32.toInt_toInt64, jadd64, jin, jnoneT] at *); omega)
  · exfalso
    clear hE hr hR X
    (try simp only [lg_cmp_lt, lg_cmp_gt, lg_cmp_le, lg_cmp_ge] at *); (try simp (disch := omega) only [Int64.le_iff_toInt_le, Int64.lt_iff_toInt_lt, Int32.le_iff_toInt_le, Int32.lt_iff_toInt_lt, fa_eq, fa_lit, fa_litL, nI_toInt, pk_lT, Int32.toInt_toInt64, jadd64, jin, jnoneT] at *); omega
set_option maxRecDepth 4000 in
set_option maxHeartbeats 1000000 in
theorem c_set (np : Nat) (mem : jMem) (s i z : Nat) (w : Int32) (hs : s < 8) (hz : z ≤ 60) (hm : mem 12 s = nI z) (hi : i < z) : jPi yX10_set cX10_set 5 .int 3 [.ref 0, .int (nI s), .int (nI i), .int w] np mem (fun v c => v = jCv (mem 11 s) w ∧ c = jup (jup mem (3 + s) i (jCv (mem 11 s) w)) 0 14 0) := by
  refine jPi.of (own := RX10) rfl rfl (Nat.le_of_ble_eq_true rfl) (fun G X hR hr hE => ?_)
  refine j_iload_n X dX10_set_0 rfl ?_
  refine s_callSi X hR (c_isNumber np _ _) rfl u290 u288 u289 u2 hyX7_isNumber (by decide) (by decide) (Nat.le_of_ble_eq_true rfl) dX10_set_1 (fun v_1 m_1 h_1 => ?_)
  obtain ⟨e1, e2⟩ := h_1; have e1 := e1.symm; have e2 := e2.symm; subst e1; subst e2
  refine j_ifb_ne X 10 dX10_set_4 (by decide) (fun c_4 => ?_) (fun c_4 => ?_)
  · refine j_aload_n X dX10_set_10 rfl ?_
    refine j_getR X 10 0 (by decide) (by decide) rfl u238 (o0 np) (k0 np) _ (p0_0 np) dX10_set_11 ?_
    refine j_iload_n X dX10_set_14 rfl ?_
    refine j_iload_n X dX10_set_15 rfl ?_
    refine j_iconst X dX10_set_16 1 (by decide) ?_
    refine s_callVi X hR (c_trouble np _ s z (nI i) 1 hs hz hm (by rw [nI_toInt (by omega), show (1 : Int32).toInt = 1 from rfl]; omega)) rfl 7 (by decide) (o1 np) (k1 np) rfl u316 u313 u314 u315 u2 hyX7_troubleAt (by decide) (by decide) (Nat.le_of_ble_eq_true rfl) dX10_set_17 (fun v_17 m_17 h_17 => ?_)
    obtain ⟨e1, e2⟩ := h_17; have e1 := e1.symm; have e2 := e2.symm; subst e1; subst e2
    refine j_istore X dX10_set_20 (by decide) ?_
    refine j_iload X dX10_set_22 rfl ?_
    refine j_if_eq X 34 dX10_set_24 (by decide) (fun c_24 => ?_) (fun c_24 => ?_)
    · refine j_aload_n X dX10_set_34 rfl ?_
      refine j_aload_n X dX10_set_35 rfl ?_
      refine j_getR X 10 0 (by decide) (by decide) rfl u238 (o0 np) (k0 np) _ (p0_0 np) dX10_set_36 ?_
      refine j_iload_n X dX10_set_39 rfl ?_
      refine j_iload_n X dX10_set_40 rfl ?_
      refine j_iload_n X dX10_set_41 rfl ?_
      refine s_callVi X hR (c_put np _ s i w hs (by omega)) rfl 7 (by decide) (o1 np) (k1 np) rfl u328 u325 u326 u327 u2 hyX7_put (by decide) (by decide) (Nat.le_of_ble_eq_true rfl) dX10_set_42 (fun v_42 m_42 h_42 => ?_)
      obtain ⟨e1, e2⟩ := h_42; have e1 := e1.symm; have e2 := e2.symm; subst e1; subst e2
      refine s_callVi X hR (c_found np _ _) rfl 10 (by decide) (o0 np) (k0 np) rfl u308 u305 u307 qp1 u1 hyX10_found (by decide) (by decide) (Nat.le_of_ble_eq_true rfl) dX10_set_45 (fun v_45 m_45 h_45 => ?_)
      obtain ⟨e1, e2⟩ := h_45; have e1 := e1.symm; have e2 := e2.symm; subst e1; subst e2
      refine s_iret X hE hr dX10_set_48 rfl ?_
      exact ⟨rfl, rfl⟩
    · exact absurd rfl c_24
  · exfalso
    clear hE hr hR X
    (try simp only [lg_cmp_lt, lg_cmp_gt, lg_cmp_le, lg_cmp_ge] at *); (try simp (disch := omega) only [Int64.le_iff_toInt_le, Int64.lt_iff_toInt_lt, Int32.le_iff_toInt_le, Int32.lt_iff_toInt_lt, fa_eq, fa_lit, fa_litL, nI_toInt, pk_lT, Int32.toInt_toInt64, jadd64, jin, jnoneT] at *); omega
set_option maxRecDepth 4000 in
set_option maxHeartbeats 1000000 in
theorem c_copy_bad (np : Nat) (mem : jMem) (a i b j q : Int32) (h : ¬ (jin a 0 7 ∧ jin b 0 7)) : jPi yX10_copy cX10_copy 6 .int 3 [.ref 0, .int a, .int i, .int b, .int j, .int q] np mem (fun v c => v = -1000001 ∧ c = mem) := by
  refine jPi.of (own := RX10) rfl rfl (Nat.le_of_ble_eq_true rfl) (fun G X hR hr hE => ?_)
  refine j_iload_n X dX10_copy_0 rfl ?_
  refine s_callSi X hR (c_isNumber np _ _) rfl u290 u288 u289 u2 hyX7_isNumber (by decide) (by decide) (Nat.le_of_ble_eq_true rfl) dX10_copy_1 (fun v_1 m_1 h_1 => ?_)
  obtain ⟨e1, e2⟩ := h_1; have e1 := e1.symm; have e2 := e2.symm; subst e1; subst e2
  refine j_ifb_eq X 14 dX10_copy_4 (by decide) (fun c_4 => ?_) (fun c_4 => ?_)
  · refine j_ldc X dX10_copy_14 u295 ?_
    refine s_iret X hE hr dX10_copy_16 rfl ?_
    first | exact ⟨rfl, rfl⟩ | (exfalso; clear hE hr hR X; (try simp only [lg_cmp_lt, lg_cmp_gt, lg_cmp_le, lg_cmp_ge] at *); (try simp (disch := omega) only [Int64.le_iff_toInt_le, Int64.lt_iff_toInt_lt, Int32.le_iff_toInt_le, Int32.lt_iff_toInt_lt, fa_eq, fa_lit, fa_litL, nI_toInt, pk_lT, Int32.toInt_toInt64, jadd64, jin, jnoneT] at *); omega)
  · refine j_iload_n X dX10_copy_7 rfl ?_
    refine s_callSi X hR (c_isNumber np _ _) rfl u290 u288 u289 u2 hyX7_isNumber (by decide) (by decide) (Nat.le_of_ble_eq_true rfl) dX10_copy_8 (fun v_8 m_8 h_8 => ?_)
    obtain ⟨e1, e2⟩ := h_8; have e1 := e1.symm; have e2 := e2.symm; subst e1; subst e2
    refine j_ifb_ne X 17 dX10_copy_11 (by decide) (fun c_11 => ?_) (fun c_11 => ?_)
    · exfalso
      clear hE hr hR X
      (try simp only [lg_cmp_lt, lg_cmp_gt, lg_cmp_le, lg_cmp_ge] at *); (try simp (disch := omega) only [Int64.le_iff_toInt_le, Int64.lt_iff_toInt_lt, Int32.le_iff_toInt_le, Int32.lt_iff_toInt_lt, fa_eq, fa_lit, fa_litL, nI_toInt, pk_lT, Int32.toInt_toInt64, jadd64, jin, jnoneT] at *); omega
    · refine j_ldc X dX10_copy_14 u295 ?_
      refine s_iret X hE hr dX10_copy_16 rfl ?_
      first | exact ⟨rfl, rfl⟩ | (exfalso; clear hE hr hR X; (try simp only [lg_cmp_lt, lg_cmp_gt, lg_cmp_le, lg_cmp_ge] at *); (try simp (disch := omega) only [Int64.le_iff_toInt_le, Int64.lt_iff_toInt_lt, Int32.le_iff_toInt_le, Int32.lt_iff_toInt_lt, fa_eq, fa_lit, fa_litL, nI_toInt, pk_lT, Int32.toInt_toInt64, jadd64, jin, jnoneT] at *); omega)
set_option maxRecDepth 4000 in
set_option maxHeartbeats 1000000 in
theorem c_copy_null (np : Nat) (mem : jMem) (a b : Nat) (i j q : Int32) (ha : a < 8) (hb : b < 8) (hl : mem 12 a = -1 ∨ mem 12 b = -1) : jPi yX10_copy cX10_copy 6 .int 3 [.ref 0, .int (nI a), .int i, .int (nI b), .int j, .int q] np mem (fun v c => v = -1000010 - 1 ∧ c = jup mem 0 14 1) := by
  refine jPi.of (own := RX10) rfl rfl (Nat.le_of_ble_eq_true rfl) (fun G X hR hr hE => ?_)
  refine j_iload_n X dX10_copy_0 rfl ?_
  refine s_callSi X hR (c_isNumber np _ _) rfl u290 u288 u289 u2 hyX7_isNumber (by decide) (by decide) (Nat.le_of_ble_eq_true rfl) dX10_copy_1 (fun v_1 m_1 h_1 => ?_)
  obtain ⟨e1, e2⟩ := h_1; have e1 := e1.symm; have e2 := e2.symm; subst e1; subst e2
  refine j_ifb_eq X 14 dX10_copy_4 (by decide) (fun c_4 => ?_) (fun c_4 => ?_)
  · exfalso
    clear hE hr hR X
    (try simp only [lg_cmp_lt, lg_cmp_gt, lg_cmp_le, lg_cmp_ge] at *); (try simp (disch := omega) only [Int64.le_iff_toInt_le, Int64.lt_iff_toInt_lt, Int32.le_iff_toInt_le, Int32.lt_iff_toInt_lt, fa_eq, fa_lit, fa_litL, nI_toInt, pk_lT, Int32.toInt_toInt64, jadd64, jin, jnoneT] at *); omega
  · refine j_iload_n X dX10_copy_7 rfl ?_
    refine s_callSi X hR (c_isNumber np _ _) rfl u290 u288 u289 u2 hyX7_isNumber (by decide) (by decide) (Nat.le_of_ble_eq_true rfl) dX10_copy_8 (fun v_8 m_8 h_8 => ?_)
    obtain ⟨e1, e2⟩ := h_8; have e1 := e1.symm; have e2 := e2.symm; subst e1; subst e2
    refine j_ifb_ne X 17 dX10_copy_11 (by decide) (fun c_11 => ?_) (fun c_11 => ?_)
    · refine j_aload_n X dX10_copy_17 rfl ?_
      refine j_getR X 10 0 (by decide) (by decide) rfl u238 (o0 np) (k0 np) _ (p0_0 np) dX10_copy_18 ?_
      refine j_iload_n X dX10_copy_21 rfl ?_
      refine s_callVi X hR (c_isMissing np _ a ha) rfl 7 (by decide) (o1 np) (k1 np) rfl u320 u333 u318 u319 u2 hyX7_isMissing (by decide) (by decide) (Nat.le_of_ble_eq_true rfl) dX10_copy_22 (fun v_22 m_22 h_22 => ?_)
      obtain ⟨e1, e2⟩ := h_22; have e1 := e1.symm; have e2 := e2.symm; subst e1; subst e2
      refine j_ifb_ne X 39 dX10_copy_25 (by decide) (fun c_25 => ?_) (fun c_25 => ?_)
      · refine j_aload_n X dX10_copy_39 rfl ?_
        refine j_iconst X dX10_copy_40 1 (by decide) ?_
        refine s_callVi X hR (c_finding np _ _) rfl 10 (by decide) (o0 np) (k0 np) rfl u299 u296 u298 qp0 u1 hyX10_finding (by decide) (by decide) (Nat.le_of_ble_eq_true rfl) dX10_copy_41 (fun v_41 m_41 h_41 => ?_)
        obtain ⟨e1, e2⟩ := h_41; have e1 := e1.symm; have e2 := e2.symm; subst e1; subst e2
        refine s_iret X hE hr dX10_copy_44 rfl ?_
        first | exact ⟨rfl, rfl⟩ | (exfalso; clear hE hr hR X; (try simp only [lg_cmp_lt, lg_cmp_gt, lg_cmp_le, lg_cmp_ge] at *); (try simp (disch := omega) only [Int64.le_iff_toInt_le, Int64.lt_iff_toInt_lt, Int32.le_iff_toInt_le, Int32.lt_iff_toInt_lt, fa_eq, fa_lit, fa_litL, nI_toInt, pk_lT, Int32.toInt_toInt64, jadd64, jin, jnoneT] at *); omega)
      · refine j_aload_n X dX10_copy_28 rfl ?_
        refine j_getR X 10 0 (by decide) (by decide) rfl u238 (o0 np) (k0 np) _ (p0_0 np) dX10_copy_29 ?_
        refine j_iload_n X dX10_copy_32 rfl ?_
        refine s_callVi X hR (c_isMissing np _ b hb) rfl 7 (by decide) (o1 np) (k1 np) rfl u320 u333 u318 u319 u2 hyX7_isMissing (by decide) (by decide) (Nat.le_of_ble_eq_true rfl) dX10_copy_33 (fun v_33 m_33 h_33 => ?_)
        obtain ⟨e1, e2⟩ := h_33; have e1 := e1.symm; have e2 := e2.symm; subst e1; subst e2
        refine j_ifb_eq X 45 dX10_copy_36 (by decide) (fun c_36 => ?_) (fun c_36 => ?_)
        · exact absurd hl (fun z => z.elim c_25 c_36)
        · refine j_aload_n X dX10_copy_39 rfl ?_
          refine j_iconst X dX10_copy_40 1 (by decide) ?_
          refine s_callVi X hR (c_finding np _ _) rfl 10 (by decide) (o0 np) (k0 np) rfl u299 u296 u298 qp0 u1 hyX10_finding (by decide) (by decide) (Nat.le_of_ble_eq_true rfl) dX10_copy_41 (fun v_41 m_41 h_41 => ?_)
          obtain ⟨e1, e2⟩ := h_41; have e1 := e1.symm; have e2 := e2.symm; subst e1; subst e2
          refine s_iret X hE hr dX10_copy_44 rfl ?_
          first | exact ⟨rfl, rfl⟩ | (exfalso; clear hE hr hR X; (try simp only [lg_cmp_lt, lg_cmp_gt, lg_cmp_le, lg_cmp_ge] at *); (try simp (disch := omega) only [Int64.le_iff_toInt_le, Int64.lt_iff_toInt_lt, Int32.le_iff_toInt_le, Int32.lt_iff_toInt_lt, fa_eq, fa_lit, fa_litL, nI_toInt, pk_lT, Int32.toInt_toInt64, jadd64, jin, jnoneT] at *); omega)
    · exfalso
      clear hE hr hR X
      (try simp only [lg_cmp_lt, lg_cmp_gt, lg_cmp_le, lg_cmp_ge] at *); (try simp (disch := omega) only [Int64.le_iff_toInt_le, Int64.lt_iff_toInt_lt, Int32.le_iff_toInt_le, Int32.lt_iff_toInt_lt, fa_eq, fa_lit, fa_litL, nI_toInt, pk_lT, Int32.toInt_toInt64, jadd64, jin, jnoneT] at *); omega
set_option maxRecDepth 4000 in
set_option maxHeartbeats 1000000 in
theorem c_copy_store (np : Nat) (mem : jMem) (a b z y : Nat) (i j q : Int32) (ha : a < 8) (hb : b < 8) (hz : z ≤ 60) (hy : y ≤ 60) (hma : mem 12 a = nI z) (hmb : mem 12 b = nI y) (hne : ¬ mem 11 a = mem 11 b) : jPi yX10_copy cX10_copy 6 .int 3 [.ref 0, .int (nI a), .int i, .int (nI b), .int j, .int q] np mem (fun v c => v = -1000010 - 5 ∧ c = jup mem 0 14 5) := by
  refine jPi.of (own := RX10) rfl rfl (Nat.le_of_ble_eq_true rfl) (fun G X hR hr hE => ?_)
  refine j_iload_n X dX10_copy_0 rfl ?_
  refine s_callSi X hR (c_isNumber np _ _) rfl u290 u288 u289 u2 hyX7_isNumber (by decide) (by decide) (Nat.le_of_ble_eq_true rfl) dX10_copy_1 (fun v_1 m_1 h_1 => ?_)
  obtain ⟨e1, e2⟩ := h_1; have e1 := e1.symm; have e2 := e2.symm; subst e1; subst e2
  refine j_ifb_eq X 14 dX10_copy_4 (by decide) (fun c_4 => ?_) (fun c_4 => ?_)
  · exfalso
    clear hE hr hR X
    (try simp only [lg_cmp_lt, lg_cmp_gt, lg_cmp_le, lg_cmp_ge] at *); (try simp (disch := omega) only [Int64.le_iff_toInt_le, Int64.lt_iff_toInt_lt, Int32.le_iff_toInt_le, Int32.lt_iff_toInt_lt, fa_eq, fa_lit, fa_litL, nI_toInt, pk_lT, Int32.toInt_toInt64, jadd64, jin, jnoneT] at *); omega
  · refine j_iload_n X dX10_copy_7 rfl ?_
    refine s_callSi X hR (c_isNumber np _ _) rfl u290 u288 u289 u2 hyX7_isNumber (by decide) (by decide) (Nat.le_of_ble_eq_true rfl) dX10_copy_8 (fun v_8 m_8 h_8 => ?_)
    obtain ⟨e1, e2⟩ := h_8; have e1 := e1.symm; have e2 := e2.symm; subst e1; subst e2
    refine j_ifb_ne X 17 dX10_copy_11 (by decide) (fun c_11 => ?_) (fun c_11 => ?_)
    · refine j_aload_n X dX10_copy_17 rfl ?_
      refine j_getR X 10 0 (by decide) (by decide) rfl u238 (o0 np) (k0 np) _ (p0_0 np) dX10_copy_18 ?_
      refine j_iload_n X dX10_copy_21 rfl ?_
      refine s_callVi X hR (c_isMissing np _ a ha) rfl 7 (by decide) (o1 np) (k1 np) rfl u320 u333 u318 u319 u2 hyX7_isMissing (by decide) (by decide) (Nat.le_of_ble_eq_true rfl) dX10_copy_22 (fun v_22 m_22 h_22 => ?_)
      obtain ⟨e1, e2⟩ := h_22; have e1 := e1.symm; have e2 := e2.symm; subst e1; subst e2
      refine j_ifb_ne X 39 dX10_copy_25 (by decide) (fun c_25 => ?_) (fun c_25 => ?_)
      · first | exact absurd (hma.symm.trans c_25) (jnm1 (by omega)) | exact absurd (hmb.symm.trans c_36) (jnm1 (by omega))
      · refine j_aload_n X dX10_copy_28 rfl ?_
        refine j_getR X 10 0 (by decide) (by decide) rfl u238 (o0 np) (k0 np) _ (p0_0 np) dX10_copy_29 ?_
        refine j_iload_n X dX10_copy_32 rfl ?_
        refine s_callVi X hR (c_isMissing np _ b hb) rfl 7 (by decide) (o1 np) (k1 np) rfl u320 u333 u318 u319 u2 hyX7_isMissing (by decide) (by decide) (Nat.le_of_ble_eq_true rfl) dX10_copy_33 (fun v_33 m_33 h_33 => ?_)
        obtain ⟨e1, e2⟩ := h_33; have e1 := e1.symm; have e2 := e2.symm; subst e1; subst e2
        refine j_ifb_eq X 45 dX10_copy_36 (by decide) (fun c_36 => ?_) (fun c_36 => ?_)
        · refine j_aload_n X dX10_copy_45 rfl ?_
          refine j_getR X 10 0 (by decide) (by decide) rfl u238 (o0 np) (k0 np) _ (p0_0 np) dX10_copy_46 ?_
          refine j_getR X 7 1 (by decide) (by decide) rfl u43 (o1 np) (k1 np) _ (p1_1 np) dX10_copy_49 ?_
          refine j_iload_n X dX10_copy_52 rfl ?_
          refine j_nrm _ (by first | (simp only [fa_lit, pk_mul, nI_add]; done) | (simp only [fa_lit, pk_mul, nI_add]; rfl) | rfl) ?_
          refine j_ialdN X (o11 np) (k11 np) (by rw [l11]; omega) (by rw [l11]; decide) (mem 11) rfl dX10_copy_53 ?_
          refine j_aload_n X dX10_copy_54 rfl ?_
          refine j_getR X 10 0 (by decide) (by decide) rfl u238 (o0 np) (k0 np) _ (p0_0 np) dX10_copy_55 ?_
          refine j_getR X 7 1 (by decide) (by decide) rfl u43 (o1 np) (k1 np) _ (p1_1 np) dX10_copy_58 ?_
          refine j_iload_n X dX10_copy_61 rfl ?_
          refine j_nrm _ (by first | (simp only [fa_lit, pk_mul, nI_add]; done) | (simp only [fa_lit, pk_mul, nI_add]; rfl) | rfl) ?_
          refine j_ialdN X (o11 np) (k11 np) (by rw [l11]; omega) (by rw [l11]; decide) (mem 11) rfl dX10_copy_62 ?_
          refine j_icmp_eq X 72 dX10_copy_63 (by decide) (fun c_63 => ?_) (fun c_63 => ?_)
          · exact absurd c_63 hne
          · refine j_aload_n X dX10_copy_66 rfl ?_
            refine j_iconst X dX10_copy_67 5 (by decide) ?_
            refine s_callVi X hR (c_finding np _ _) rfl 10 (by decide) (o0 np) (k0 np) rfl u299 u296 u298 qp0 u1 hyX10_finding (by decide) (by decide) (Nat.le_of_ble_eq_true rfl) dX10_copy_68 (fun v_68 m_68 h_68 => ?_)
            obtain ⟨e1, e2⟩ := h_68; have e1 := e1.symm; have e2 := e2.symm; subst e1; subst e2
            refine s_iret X hE hr dX10_copy_71 rfl ?_
            first | exact ⟨rfl, rfl⟩ | (exfalso; clear hE hr hR X; (try simp only [lg_cmp_lt, lg_cmp_gt, lg_cmp_le, lg_cmp_ge] at *); (try simp (disch := omega) only [Int64.le_iff_toInt_le, Int64.lt_iff_toInt_lt, Int32.le_iff_toInt_le, Int32.lt_iff_toInt_lt, fa_eq, fa_lit, fa_litL, nI_toInt, pk_lT, Int32.toInt_toInt64, jadd64, jin, jnoneT] at *); omega)
        · first | exact absurd (hma.symm.trans c_25) (jnm1 (by omega)) | exact absurd (hmb.symm.trans c_36) (jnm1 (by omega))
    · exfalso
      clear hE hr hR X
      (try simp only [lg_cmp_lt, lg_cmp_gt, lg_cmp_le, lg_cmp_ge] at *); (try simp (disch := omega) only [Int64.le_iff_toInt_le, Int64.lt_iff_toInt_lt, Int32.le_iff_toInt_le, Int32.lt_iff_toInt_lt, fa_eq, fa_lit, fa_litL, nI_toInt, pk_lT, Int32.toInt_toInt64, jadd64, jin, jnoneT] at *); omega
set_option maxRecDepth 4000 in
set_option maxHeartbeats 1000000 in
theorem c_copy_place (np : Nat) (mem : jMem) (a b z y : Nat) (i j q : Int32) (ha : a < 8) (hb : b < 8) (hz : z ≤ 60) (hy : y ≤ 60) (hma : mem 12 a = nI z) (hmb : mem 12 b = nI y) (hne : mem 11 a = mem 11 b) (hp : i.toInt < 0 ∨ j.toInt < 0 ∨ q.toInt < 0 ∨ i.toInt + q.toInt > z ∨ j.toInt + q.toInt > y) : jPi yX10_copy cX10_copy 6 .int 3 [.ref 0, .int (nI a), .int i, .int (nI b), .int j, .int q] np mem (fun v c => v = -1000010 - 2 ∧ c = jup mem 0 14 2) := by
  refine jPi.of (own := RX10) rfl rfl (Nat.le_of_ble_eq_true rfl) (fun G X hR hr hE => ?_)
  refine j_iload_n X dX10_copy_0 rfl ?_
  refine s_callSi X hR (c_isNumber np _ _) rfl u290 u288 u289 u2 hyX7_isNumber (by decide) (by decide) (Nat.le_of_ble_eq_true rfl) dX10_copy_1 (fun v_1 m_1 h_1 => ?_)
  obtain ⟨e1, e2⟩ := h_1; have e1 := e1.symm; have e2 := e2.symm; subst e1; subst e2
  refine j_ifb_eq X 14 dX10_copy_4 (by decide) (fun c_4 => ?_) (fun c_4 => ?_)
  · exfalso
    clear hE hr hR X
    (try simp only [lg_cmp_lt, lg_cmp_gt, lg_cmp_le, lg_cmp_ge] at *); (try simp (disch := omega) only [Int64.le_iff_toInt_le, Int64.lt_iff_toInt_lt, Int32.le_iff_toInt_le, Int32.lt_iff_toInt_lt, fa_eq, fa_lit, fa_litL, nI_toInt, pk_lT, Int32.toInt_toInt64, jadd64, jin, jnoneT] at *); omega
  · refine j_iload_n X dX10_copy_7 rfl ?_
    refine s_callSi X hR (c_isNumber np _ _) rfl u290 u288 u289 u2 hyX7_isNumber (by decide) (by decide) (Nat.le_of_ble_eq_true rfl) dX10_copy_8 (fun v_8 m_8 h_8 => ?_)
    obtain ⟨e1, e2⟩ := h_8; have e1 := e1.symm; have e2 := e2.symm; subst e1; subst e2
    refine j_ifb_ne X 17 dX10_copy_11 (by decide) (fun c_11 => ?_) (fun c_11 => ?_)
    · refine j_aload_n X dX10_copy_17 rfl ?_
      refine j_getR X 10 0 (by decide) (by decide) rfl u238 (o0 np) (k0 np) _ (p0_0 np) dX10_copy_18 ?_
      refine j_iload_n X dX10_copy_21 rfl ?_
      refine s_callVi X hR (c_isMissing np _ a ha) rfl 7 (by decide) (o1 np) (k1 np) rfl u320 u333 u318 u319 u2 hyX7_isMissing (by decide) (by decide) (Nat.le_of_ble_eq_true rfl) dX10_copy_22 (fun v_22 m_22 h_22 => ?_)
      obtain ⟨e1, e2⟩ := h_22; have e1 := e1.symm; have e2 := e2.symm; subst e1; subst e2
      refine j_ifb_ne X 39 dX10_copy_25 (by decide) (fun c_25 => ?_) (fun c_25 => ?_)
      · first | exact absurd (hma.symm.trans c_25) (jnm1 (by omega)) | exact absurd (hmb.symm.trans c_36) (jnm1 (by omega))
      · refine j_aload_n X dX10_copy_28 rfl ?_
        refine j_getR X 10 0 (by decide) (by decide) rfl u238 (o0 np) (k0 np) _ (p0_0 np) dX10_copy_29 ?_
        refine j_iload_n X dX10_copy_32 rfl ?_
        refine s_callVi X hR (c_isMissing np _ b hb) rfl 7 (by decide) (o1 np) (k1 np) rfl u320 u333 u318 u319 u2 hyX7_isMissing (by decide) (by decide) (Nat.le_of_ble_eq_true rfl) dX10_copy_33 (fun v_33 m_33 h_33 => ?_)
        obtain ⟨e1, e2⟩ := h_33; have e1 := e1.symm; have e2 := e2.symm; subst e1; subst e2
        refine j_ifb_eq X 45 dX10_copy_36 (by decide) (fun c_36 => ?_) (fun c_36 => ?_)
        · refine j_aload_n X dX10_copy_45 rfl ?_
          refine j_getR X 10 0 (by decide) (by decide) rfl u238 (o0 np) (k0 np) _ (p0_0 np) dX10_copy_46 ?_
          refine j_getR X 7 1 (by decide) (by decide) rfl u43 (o1 np) (k1 np) _ (p1_1 np) dX10_copy_49 ?_
          refine j_iload_n X dX10_copy_52 rfl ?_
          refine j_nrm _ (by first | (simp only [fa_lit, pk_mul, nI_add]; done) | (simp only [fa_lit, pk_mul, nI_add]; rfl) | rfl) ?_
          refine j_ialdN X (o11 np) (k11 np) (by rw [l11]; omega) (by rw [l11]; decide) (mem 11) rfl dX10_copy_53 ?_
          refine j_aload_n X dX10_copy_54 rfl ?_
          refine j_getR X 10 0 (by decide) (by decide) rfl u238 (o0 np) (k0 np) _ (p0_0 np) dX10_copy_55 ?_
          refine j_getR X 7 1 (by decide) (by decide) rfl u43 (o1 np) (k1 np) _ (p1_1 np) dX10_copy_58 ?_
          refine j_iload_n X dX10_copy_61 rfl ?_
          refine j_nrm _ (by first | (simp only [fa_lit, pk_mul, nI_add]; done) | (simp only [fa_lit, pk_mul, nI_add]; rfl) | rfl) ?_
          refine j_ialdN X (o11 np) (k11 np) (by rw [l11]; omega) (by rw [l11]; decide) (mem 11) rfl dX10_copy_62 ?_
          refine j_icmp_eq X 72 dX10_copy_63 (by decide) (fun c_63 => ?_) (fun c_63 => ?_)
          · refine j_aload_n X dX10_copy_72 rfl ?_
            refine j_getR X 10 0 (by decide) (by decide) rfl u238 (o0 np) (k0 np) _ (p0_0 np) dX10_copy_73 ?_
            refine j_iload_n X dX10_copy_76 rfl ?_
            refine j_iload_n X dX10_copy_77 rfl ?_
            refine j_iload X dX10_copy_78 rfl ?_
            refine s_callVi X hR (c_reaches np _ a z i q ha hz hma) rfl 7 (by decide) (o1 np) (k1 np) rfl u324 u334 u322 u323 u2 hyX7_reaches (by decide) (by decide) (Nat.le_of_ble_eq_true rfl) dX10_copy_80 (fun v_80 m_80 h_80 => ?_)
            obtain ⟨e1, e2⟩ := h_80; have e1 := e1.symm; have e2 := e2.symm; subst e1; subst e2
            refine j_ifb_eq X 101 dX10_copy_83 (by decide) (fun c_83 => ?_) (fun c_83 => ?_)
            · refine j_aload_n X dX10_copy_101 rfl ?_
              refine j_iconst X dX10_copy_102 2 (by decide) ?_
              refine s_callVi X hR (c_finding np _ _) rfl 10 (by decide) (o0 np) (k0 np) rfl u299 u296 u298 qp0 u1 hyX10_finding (by decide) (by decide) (Nat.le_of_ble_eq_true rfl) dX10_copy_103 (fun v_103 m_103 h_103 => ?_)
              obtain ⟨e1, e2⟩ := h_103; have e1 := e1.symm; have e2 := e2.symm; subst e1; subst e2
              refine s_iret X hE hr dX10_copy_106 rfl ?_
              first | exact ⟨rfl, rfl⟩ | (exfalso; clear hE hr hR X; (try simp only [lg_cmp_lt, lg_cmp_gt, lg_cmp_le, lg_cmp_ge] at *); (try simp (disch := omega) only [Int64.le_iff_toInt_le, Int64.lt_iff_toInt_lt, Int32.le_iff_toInt_le, Int32.lt_iff_toInt_lt, fa_eq, fa_lit, fa_litL, nI_toInt, pk_lT, Int32.toInt_toInt64, jadd64, jin, jnoneT] at *); omega)
            · refine j_aload_n X dX10_copy_86 rfl ?_
              refine j_getR X 10 0 (by decide) (by decide) rfl u238 (o0 np) (k0 np) _ (p0_0 np) dX10_copy_87 ?_
              refine j_iload_n X dX10_copy_90 rfl ?_
              refine j_iload X dX10_copy_91 rfl ?_
              refine j_iload X dX10_copy_93 rfl ?_
              refine s_callVi X hR (c_reaches np _ b y j q hb hy hmb) rfl 7 (by decide) (o1 np) (k1 np) rfl u324 u334 u322 u323 u2 hyX7_reaches (by decide) (by decide) (Nat.le_of_ble_eq_true rfl) dX10_copy_95 (fun v_95 m_95 h_95 => ?_)
              obtain ⟨e1, e2⟩ := h_95; have e1 := e1.symm; have e2 := e2.symm; subst e1; subst e2
              refine j_ifb_ne X 107 dX10_copy_98 (by decide) (fun c_98 => ?_) (fun c_98 => ?_)
              · exfalso
                omega
              · refine j_aload_n X dX10_copy_101 rfl ?_
                refine j_iconst X dX10_copy_102 2 (by decide) ?_
                refine s_callVi X hR (c_finding np _ _) rfl 10 (by decide) (o0 np) (k0 np) rfl u299 u296 u298 qp0 u1 hyX10_finding (by decide) (by decide) (Nat.le_of_ble_eq_true rfl) dX10_copy_103 (fun v_103 m_103 h_103 => ?_)
                obtain ⟨e1, e2⟩ := h_103; have e1 := e1.symm; have e2 := e2.symm; subst e1; subst e2
                refine s_iret X hE hr dX10_copy_106 rfl ?_
                first | exact ⟨rfl, rfl⟩ | (exfalso; clear hE hr hR X; (try simp only [lg_cmp_lt, lg_cmp_gt, lg_cmp_le, lg_cmp_ge] at *); (try simp (disch := omega) only [Int64.le_iff_toInt_le, Int64.lt_iff_toInt_lt, Int32.le_iff_toInt_le, Int32.lt_iff_toInt_lt, fa_eq, fa_lit, fa_litL, nI_toInt, pk_lT, Int32.toInt_toInt64, jadd64, jin, jnoneT] at *); omega)
          · exact absurd hne c_63
        · first | exact absurd (hma.symm.trans c_25) (jnm1 (by omega)) | exact absurd (hmb.symm.trans c_36) (jnm1 (by omega))
    · exfalso
      clear hE hr hR X
      (try simp only [lg_cmp_lt, lg_cmp_gt, lg_cmp_le, lg_cmp_ge] at *); (try simp (disch := omega) only [Int64.le_iff_toInt_le, Int64.lt_iff_toInt_lt, Int32.le_iff_toInt_le, Int32.lt_iff_toInt_lt, fa_eq, fa_lit, fa_litL, nI_toInt, pk_lT, Int32.toInt_toInt64, jadd64, jin, jnoneT] at *); omega
set_option maxRecDepth 4000 in
set_option maxHeartbeats 1000000 in
theorem c_copy (np : Nat) (mem : jMem) (a i b j q z y : Nat) (ha : a < 8) (hb : b < 8) (hz : z ≤ 60) (hy : y ≤ 60) (hma : mem 12 a = nI z) (hmb : mem 12 b = nI y) (hne : mem 11 a = mem 11 b) (hi : i + q ≤ z) (hj : j + q ≤ y) : jPi yX10_copy cX10_copy 6 .int 3 [.ref 0, .int (nI a), .int (nI i), .int (nI b), .int (nI j), .int (nI q)] np mem (fun v c => v = nI q ∧ c = jup (va_up mem (3 + b) (va_cpy (mem (3 + a)) (mem (3 + b)) i j q)) 0 14 0) := by
  refine jPi.of (own := RX10) rfl rfl (Nat.le_of_ble_eq_true rfl) (fun G X hR hr hE => ?_)
  refine j_iload_n X dX10_copy_0 rfl ?_
  refine s_callSi X hR (c_isNumber np _ _) rfl u290 u288 u289 u2 hyX7_isNumber (by decide) (by decide) (Nat.le_of_ble_eq_true rfl) dX10_copy_1 (fun v_1 m_1 h_1 => ?_)
  obtain ⟨e1, e2⟩ := h_1; have e1 := e1.symm; have e2 := e2.symm; subst e1; subst e2
  refine j_ifb_eq X 14 dX10_copy_4 (by decide) (fun c_4 => ?_) (fun c_4 => ?_)
  · exfalso
    clear hE hr hR X
    (try simp only [lg_cmp_lt, lg_cmp_gt, lg_cmp_le, lg_cmp_ge] at *); (try simp (disch := omega) only [Int64.le_iff_toInt_le, Int64.lt_iff_toInt_lt, Int32.le_iff_toInt_le, Int32.lt_iff_toInt_lt, fa_eq, fa_lit, fa_litL, nI_toInt, pk_lT, Int32.toInt_toInt64, jadd64, jin, jnoneT] at *); omega
  · refine j_iload_n X dX10_copy_7 rfl ?_
    refine s_callSi X hR (c_isNumber np _ _) rfl u290 u288 u289 u2 hyX7_isNumber (by decide) (by decide) (Nat.le_of_ble_eq_true rfl) dX10_copy_8 (fun v_8 m_8 h_8 => ?_)
    obtain ⟨e1, e2⟩ := h_8; have e1 := e1.symm; have e2 := e2.symm; subst e1; subst e2
    refine j_ifb_ne X 17 dX10_copy_11 (by decide) (fun c_11 => ?_) (fun c_11 => ?_)
    · refine j_aload_n X dX10_copy_17 rfl ?_
      refine j_getR X 10 0 (by decide) (by decide) rfl u238 (o0 np) (k0 np) _ (p0_0 np) dX10_copy_18 ?_
      refine j_iload_n X dX10_copy_21 rfl ?_
      refine s_callVi X hR (c_isMissing np _ a ha) rfl 7 (by decide) (o1 np) (k1 np) rfl u320 u333 u318 u319 u2 hyX7_isMissing (by decide) (by decide) (Nat.le_of_ble_eq_true rfl) dX10_copy_22 (fun v_22 m_22 h_22 => ?_)
      obtain ⟨e1, e2⟩ := h_22; have e1 := e1.symm; have e2 := e2.symm; subst e1; subst e2
      refine j_ifb_ne X 39 dX10_copy_25 (by decide) (fun c_25 => ?_) (fun c_25 => ?_)
      · first | exact absurd (hma.symm.trans c_25) (jnm1 (by omega)) | exact absurd (hmb.symm.trans c_36) (jnm1 (by omega))
      · refine j_aload_n X dX10_copy_28 rfl ?_
        refine j_getR X 10 0 (by decide) (by decide) rfl u238 (o0 np) (k0 np) _ (p0_0 np) dX10_copy_29 ?_
        refine j_iload_n X dX10_copy_32 rfl ?_
        refine s_callVi X hR (c_isMissing np _ b hb) rfl 7 (by decide) (o1 np) (k1 np) rfl u320 u333 u318 u319 u2 hyX7_isMissing (by decide) (by decide) (Nat.le_of_ble_eq_true rfl) dX10_copy_33 (fun v_33 m_33 h_33 => ?_)
        obtain ⟨e1, e2⟩ := h_33; have e1 := e1.symm; have e2 := e2.symm; subst e1; subst e2
        refine j_ifb_eq X 45 dX10_copy_36 (by decide) (fun c_36 => ?_) (fun c_36 => ?_)
        · refine j_aload_n X dX10_copy_45 rfl ?_
          refine j_getR X 10 0 (by decide) (by decide) rfl u238 (o0 np) (k0 np) _ (p0_0 np) dX10_copy_46 ?_
          refine j_getR X 7 1 (by decide) (by decide) rfl u43 (o1 np) (k1 np) _ (p1_1 np) dX10_copy_49 ?_
          refine j_iload_n X dX10_copy_52 rfl ?_
          refine j_nrm _ (by first | (simp only [fa_lit, pk_mul, nI_add]; done) | (simp only [fa_lit, pk_mul, nI_add]; rfl) | rfl) ?_
          refine j_ialdN X (o11 np) (k11 np) (by rw [l11]; omega) (by rw [l11]; decide) (mem 11) rfl dX10_copy_53 ?_
          refine j_aload_n X dX10_copy_54 rfl ?_
          refine j_getR X 10 0 (by decide) (by decide) rfl u238 (o0 np) (k0 np) _ (p0_0 np) dX10_copy_55 ?_
          refine j_getR X 7 1 (by decide) (by decide) rfl u43 (o1 np) (k1 np) _ (p1_1 np) dX10_copy_58 ?_
          refine j_iload_n X dX10_copy_61 rfl ?_
          refine j_nrm _ (by first | (simp only [fa_lit, pk_mul, nI_add]; done) | (simp only [fa_lit, pk_mul, nI_add]; rfl) | rfl) ?_
          refine j_ialdN X (o11 np) (k11 np) (by rw [l11]; omega) (by rw [l11]; decide) (mem 11) rfl dX10_copy_62 ?_
          refine j_icmp_eq X 72 dX10_copy_63 (by decide) (fun c_63 => ?_) (fun c_63 => ?_)
          · refine j_aload_n X dX10_copy_72 rfl ?_
            refine j_getR X 10 0 (by decide) (by decide) rfl u238 (o0 np) (k0 np) _ (p0_0 np) dX10_copy_73 ?_
            refine j_iload_n X dX10_copy_76 rfl ?_
            refine j_iload_n X dX10_copy_77 rfl ?_
            refine j_iload X dX10_copy_78 rfl ?_
            refine s_callVi X hR (c_reaches np _ a z (nI i) (nI q) ha hz hma) rfl 7 (by decide) (o1 np) (k1 np) rfl u324 u334 u322 u323 u2 hyX7_reaches (by decide) (by decide) (Nat.le_of_ble_eq_true rfl) dX10_copy_80 (fun v_80 m_80 h_80 => ?_)
            obtain ⟨e1, e2⟩ := h_80; have e1 := e1.symm; have e2 := e2.symm; subst e1; subst e2
            refine j_ifb_eq X 101 dX10_copy_83 (by decide) (fun c_83 => ?_) (fun c_83 => ?_)
            · exfalso
              clear hE hr hR X
              (try simp only [lg_cmp_lt, lg_cmp_gt, lg_cmp_le, lg_cmp_ge] at *); (try simp (disch := omega) only [Int64.le_iff_toInt_le, Int64.lt_iff_toInt_lt, Int32.le_iff_toInt_le, Int32.lt_iff_toInt_lt, fa_eq, fa_lit, fa_litL, nI_toInt, pk_lT, Int32.toInt_toInt64, jadd64, jin, jnoneT] at *); omega
            · refine j_aload_n X dX10_copy_86 rfl ?_
              refine j_getR X 10 0 (by decide) (by decide) rfl u238 (o0 np) (k0 np) _ (p0_0 np) dX10_copy_87 ?_
              refine j_iload_n X dX10_copy_90 rfl ?_
              refine j_iload X dX10_copy_91 rfl ?_
              refine j_iload X dX10_copy_93 rfl ?_
              refine s_callVi X hR (c_reaches np _ b y (nI j) (nI q) hb hy hmb) rfl 7 (by decide) (o1 np) (k1 np) rfl u324 u334 u322 u323 u2 hyX7_reaches (by decide) (by decide) (Nat.le_of_ble_eq_true rfl) dX10_copy_95 (fun v_95 m_95 h_95 => ?_)
              obtain ⟨e1, e2⟩ := h_95; have e1 := e1.symm; have e2 := e2.symm; subst e1; subst e2
              refine j_ifb_ne X 107 dX10_copy_98 (by decide) (fun c_98 => ?_) (fun c_98 => ?_)
              · refine j_aload_n X dX10_copy_107 rfl ?_
                refine j_getR X 10 0 (by decide) (by decide) rfl u238 (o0 np) (k0 np) _ (p0_0 np) dX10_copy_108 ?_
                refine j_getR X 7 0 (by decide) (by decide) rfl u41 (o1 np) (k1 np) _ (p1_0 np) dX10_copy_111 ?_
                refine j_iload_n X dX10_copy_114 rfl ?_
                refine j_nrm _ (by first | (simp only [fa_lit, pk_mul, nI_add]; done) | (simp only [fa_lit, pk_mul, nI_add]; rfl) | rfl) ?_
                refine j_aaldIN X (o2 np) (k2 np) (by rw [l2]; omega) (by rw [l2]; decide) (p2_r np (by omega)) dX10_copy_115 ?_
                refine j_iload_n X dX10_copy_116 rfl ?_
                refine j_aload_n X dX10_copy_117 rfl ?_
                refine j_getR X 10 0 (by decide) (by decide) rfl u238 (o0 np) (k0 np) _ (p0_0 np) dX10_copy_118 ?_
                refine j_getR X 7 0 (by decide) (by decide) rfl u41 (o1 np) (k1 np) _ (p1_0 np) dX10_copy_121 ?_
                refine j_iload_n X dX10_copy_124 rfl ?_
                refine j_nrm _ (by first | (simp only [fa_lit, pk_mul, nI_add]; done) | (simp only [fa_lit, pk_mul, nI_add]; rfl) | rfl) ?_
                refine j_aaldIN X (o2 np) (k2 np) (by rw [l2]; omega) (by rw [l2]; decide) (p2_r np (by omega)) dX10_copy_125 ?_
                refine j_iload X dX10_copy_126 rfl ?_
                refine j_iload X dX10_copy_128 rfl ?_
                refine j_acopy X hR (by decide) u335 (Nat.le_of_ble_eq_true rfl) (o2_r np (by omega)) (k2_r np (by omega)) (o2_r np (by omega)) (k2_r np (by omega)) (by rw [l2_r np (by omega)]; omega) (by rw [l2_r np (by omega)]; omega) (by rw [l2_r np (by omega)]; decide) (by rw [l2_r np (by omega)]; decide) dX10_copy_130 ?_
                refine j_aload_n X dX10_copy_133 rfl ?_
                refine j_iload X dX10_copy_134 rfl ?_
                refine s_callVi X hR (c_found np _ _) rfl 10 (by decide) (o0 np) (k0 np) rfl u308 u305 u307 qp1 u1 hyX10_found (by decide) (by decide) (Nat.le_of_ble_eq_true rfl) dX10_copy_136 (fun v_136 m_136 h_136 => ?_)
                obtain ⟨e1, e2⟩ := h_136; have e1 := e1.symm; have e2 := e2.symm; subst e1; subst e2
                refine s_iret X hE hr dX10_copy_139 rfl ?_
                first | exact ⟨rfl, rfl⟩ | (exfalso; clear hE hr hR X; (try simp only [lg_cmp_lt, lg_cmp_gt, lg_cmp_le, lg_cmp_ge] at *); (try simp (disch := omega) only [Int64.le_iff_toInt_le, Int64.lt_iff_toInt_lt, Int32.le_iff_toInt_le, Int32.lt_iff_toInt_lt, fa_eq, fa_lit, fa_litL, nI_toInt, pk_lT, Int32.toInt_toInt64, jadd64, jin, jnoneT] at *); omega)
              · exfalso
                clear hE hr hR X
                (try simp only [lg_cmp_lt, lg_cmp_gt, lg_cmp_le, lg_cmp_ge] at *); (try simp (disch := omega) only [Int64.le_iff_toInt_le, Int64.lt_iff_toInt_lt, Int32.le_iff_toInt_le, Int32.lt_iff_toInt_lt, fa_eq, fa_lit, fa_litL, nI_toInt, pk_lT, Int32.toInt_toInt64, jadd64, jin, jnoneT] at *); omega
          · exact absurd hne c_63
        · first | exact absurd (hma.symm.trans c_25) (jnm1 (by omega)) | exact absurd (hmb.symm.trans c_36) (jnm1 (by omega))
    · exfalso
      clear hE hr hR X
      (try simp only [lg_cmp_lt, lg_cmp_gt, lg_cmp_le, lg_cmp_ge] at *); (try simp (disch := omega) only [Int64.le_iff_toInt_le, Int64.lt_iff_toInt_lt, Int32.le_iff_toInt_le, Int32.lt_iff_toInt_lt, fa_eq, fa_lit, fa_litL, nI_toInt, pk_lT, Int32.toInt_toInt64, jadd64, jin, jnoneT] at *); omega
set_option maxRecDepth 4000 in
set_option maxHeartbeats 1000000 in
theorem c_drop_bad (np : Nat) (mem : jMem) (s : Int32) (h : ¬ jin s 0 7) : jPi yX10_drop cX10_drop 2 .int 3 [.ref 0, .int s] np mem (fun v c => v = -1000001 ∧ c = mem) := by
  refine jPi.of (own := RX10) rfl rfl (Nat.le_of_ble_eq_true rfl) (fun G X hR hr hE => ?_)
  refine j_iload_n X dX10_drop_0 rfl ?_
  refine s_callSi X hR (c_isNumber np _ _) rfl u290 u288 u289 u2 hyX7_isNumber (by decide) (by decide) (Nat.le_of_ble_eq_true rfl) dX10_drop_1 (fun v_1 m_1 h_1 => ?_)
  obtain ⟨e1, e2⟩ := h_1; have e1 := e1.symm; have e2 := e2.symm; subst e1; subst e2
  refine j_ifb_ne X 10 dX10_drop_4 (by decide) (fun c_4 => ?_) (fun c_4 => ?_)
  · exfalso
    clear hE hr hR X
    (try simp only [lg_cmp_lt, lg_cmp_gt, lg_cmp_le, lg_cmp_ge] at *); (try simp (disch := omega) only [Int64.le_iff_toInt_le, Int64.lt_iff_toInt_lt, Int32.le_iff_toInt_le, Int32.lt_iff_toInt_lt, fa_eq, fa_lit, fa_litL, nI_toInt, pk_lT, Int32.toInt_toInt64, jadd64, jin, jnoneT] at *); omega
  · refine j_ldc X dX10_drop_7 u295 ?_
    refine s_iret X hE hr dX10_drop_9 rfl ?_
    first | exact ⟨rfl, rfl⟩ | (exfalso; clear hE hr hR X; (try simp only [lg_cmp_lt, lg_cmp_gt, lg_cmp_le, lg_cmp_ge] at *); (try simp (disch := omega) only [Int64.le_iff_toInt_le, Int64.lt_iff_toInt_lt, Int32.le_iff_toInt_le, Int32.lt_iff_toInt_lt, fa_eq, fa_lit, fa_litL, nI_toInt, pk_lT, Int32.toInt_toInt64, jadd64, jin, jnoneT] at *); omega)
set_option maxRecDepth 4000 in
set_option maxHeartbeats 1000000 in
theorem c_drop_null (np : Nat) (mem : jMem) (s : Nat) (hs : s < 8) (hm : mem 12 s = -1) : jPi yX10_drop cX10_drop 2 .int 3 [.ref 0, .int (nI s)] np mem (fun v c => v = -1000010 - 1 ∧ c = jup mem 0 14 1) := by
  refine jPi.of (own := RX10) rfl rfl (Nat.le_of_ble_eq_true rfl) (fun G X hR hr hE => ?_)
  refine j_iload_n X dX10_drop_0 rfl ?_
  refine s_callSi X hR (c_isNumber np _ _) rfl u290 u288 u289 u2 hyX7_isNumber (by decide) (by decide) (Nat.le_of_ble_eq_true rfl) dX10_drop_1 (fun v_1 m_1 h_1 => ?_)
  obtain ⟨e1, e2⟩ := h_1; have e1 := e1.symm; have e2 := e2.symm; subst e1; subst e2
  refine j_ifb_ne X 10 dX10_drop_4 (by decide) (fun c_4 => ?_) (fun c_4 => ?_)
  · refine j_aload_n X dX10_drop_10 rfl ?_
    refine j_getR X 10 0 (by decide) (by decide) rfl u238 (o0 np) (k0 np) _ (p0_0 np) dX10_drop_11 ?_
    refine j_iload_n X dX10_drop_14 rfl ?_
    refine s_callVi X hR (c_isMissing np _ s hs) rfl 7 (by decide) (o1 np) (k1 np) rfl u320 u333 u318 u319 u2 hyX7_isMissing (by decide) (by decide) (Nat.le_of_ble_eq_true rfl) dX10_drop_15 (fun v_15 m_15 h_15 => ?_)
    obtain ⟨e1, e2⟩ := h_15; have e1 := e1.symm; have e2 := e2.symm; subst e1; subst e2
    refine j_ifb_eq X 27 dX10_drop_18 (by decide) (fun c_18 => ?_) (fun c_18 => ?_)
    · exact absurd hm c_18
    · refine j_aload_n X dX10_drop_21 rfl ?_
      refine j_iconst X dX10_drop_22 1 (by decide) ?_
      refine s_callVi X hR (c_finding np _ _) rfl 10 (by decide) (o0 np) (k0 np) rfl u299 u296 u298 qp0 u1 hyX10_finding (by decide) (by decide) (Nat.le_of_ble_eq_true rfl) dX10_drop_23 (fun v_23 m_23 h_23 => ?_)
      obtain ⟨e1, e2⟩ := h_23; have e1 := e1.symm; have e2 := e2.symm; subst e1; subst e2
      refine s_iret X hE hr dX10_drop_26 rfl ?_
      first | exact ⟨rfl, rfl⟩ | (exfalso; clear hE hr hR X; (try simp only [lg_cmp_lt, lg_cmp_gt, lg_cmp_le, lg_cmp_ge] at *); (try simp (disch := omega) only [Int64.le_iff_toInt_le, Int64.lt_iff_toInt_lt, Int32.le_iff_toInt_le, Int32.lt_iff_toInt_lt, fa_eq, fa_lit, fa_litL, nI_toInt, pk_lT, Int32.toInt_toInt64, jadd64, jin, jnoneT] at *); omega)
  · exfalso
    clear hE hr hR X
    (try simp only [lg_cmp_lt, lg_cmp_gt, lg_cmp_le, lg_cmp_ge] at *); (try simp (disch := omega) only [Int64.le_iff_toInt_le, Int64.lt_iff_toInt_lt, Int32.le_iff_toInt_le, Int32.lt_iff_toInt_lt, fa_eq, fa_lit, fa_litL, nI_toInt, pk_lT, Int32.toInt_toInt64, jadd64, jin, jnoneT] at *); omega
set_option maxRecDepth 4000 in
set_option maxHeartbeats 1000000 in
theorem c_drop (np : Nat) (mem : jMem) (s : Nat) (hs : s < 8) (hm : ¬ mem 12 s = -1) : jPi yX10_drop cX10_drop 2 .int 3 [.ref 0, .int (nI s)] np mem (fun v c => v = mem 12 s ∧ c = jup (jup mem 12 s (-1)) 0 14 0) := by
  refine jPi.of (own := RX10) rfl rfl (Nat.le_of_ble_eq_true rfl) (fun G X hR hr hE => ?_)
  refine j_iload_n X dX10_drop_0 rfl ?_
  refine s_callSi X hR (c_isNumber np _ _) rfl u290 u288 u289 u2 hyX7_isNumber (by decide) (by decide) (Nat.le_of_ble_eq_true rfl) dX10_drop_1 (fun v_1 m_1 h_1 => ?_)
  obtain ⟨e1, e2⟩ := h_1; have e1 := e1.symm; have e2 := e2.symm; subst e1; subst e2
  refine j_ifb_ne X 10 dX10_drop_4 (by decide) (fun c_4 => ?_) (fun c_4 => ?_)
  · refine j_aload_n X dX10_drop_10 rfl ?_
    refine j_getR X 10 0 (by decide) (by decide) rfl u238 (o0 np) (k0 np) _ (p0_0 np) dX10_drop_11 ?_
    refine j_iload_n X dX10_drop_14 rfl ?_
    refine s_callVi X hR (c_isMissing np _ s hs) rfl 7 (by decide) (o1 np) (k1 np) rfl u320 u333 u318 u319 u2 hyX7_isMissing (by decide) (by decide) (Nat.le_of_ble_eq_true rfl) dX10_drop_15 (fun v_15 m_15 h_15 => ?_)
    obtain ⟨e1, e2⟩ := h_15; have e1 := e1.symm; have e2 := e2.symm; subst e1; subst e2
    refine j_ifb_eq X 27 dX10_drop_18 (by decide) (fun c_18 => ?_) (fun c_18 => ?_)
    · refine j_aload_n X dX10_drop_27 rfl ?_
      refine j_aload_n X dX10_drop_28 rfl ?_
      refine j_getR X 10 0 (by decide) (by decide) rfl u238 (o0 np) (k0 np) _ (p0_0 np) dX10_drop_29 ?_
      refine j_iload_n X dX10_drop_32 rfl ?_
      refine s_callVi X hR (c_forget np _ s hs) rfl 7 (by decide) (o1 np) (k1 np) rfl u345 u342 u343 u344 u2 hyX7_forget (by decide) (by decide) (Nat.le_of_ble_eq_true rfl) dX10_drop_33 (fun v_33 m_33 h_33 => ?_)
      obtain ⟨e1, e2⟩ := h_33; have e1 := e1.symm; have e2 := e2.symm; subst e1; subst e2
      refine s_callVi X hR (c_found np _ _) rfl 10 (by decide) (o0 np) (k0 np) rfl u308 u305 u307 qp1 u1 hyX10_found (by decide) (by decide) (Nat.le_of_ble_eq_true rfl) dX10_drop_36 (fun v_36 m_36 h_36 => ?_)
      obtain ⟨e1, e2⟩ := h_36; have e1 := e1.symm; have e2 := e2.symm; subst e1; subst e2
      refine s_iret X hE hr dX10_drop_39 rfl ?_
      first | exact ⟨rfl, rfl⟩ | (exfalso; clear hE hr hR X; (try simp only [lg_cmp_lt, lg_cmp_gt, lg_cmp_le, lg_cmp_ge] at *); (try simp (disch := omega) only [Int64.le_iff_toInt_le, Int64.lt_iff_toInt_lt, Int32.le_iff_toInt_le, Int32.lt_iff_toInt_lt, fa_eq, fa_lit, fa_litL, nI_toInt, pk_lT, Int32.toInt_toInt64, jadd64, jin, jnoneT] at *); omega)
    · exact absurd c_18 hm
  · exfalso
    clear hE hr hR X
    (try simp only [lg_cmp_lt, lg_cmp_gt, lg_cmp_le, lg_cmp_ge] at *); (try simp (disch := omega) only [Int64.le_iff_toInt_le, Int64.lt_iff_toInt_lt, Int32.le_iff_toInt_le, Int32.lt_iff_toInt_lt, fa_eq, fa_lit, fa_litL, nI_toInt, pk_lT, Int32.toInt_toInt64, jadd64, jin, jnoneT] at *); omega
set_option maxRecDepth 4000 in
set_option maxHeartbeats 1000000 in
theorem c_key_bad (np : Nat) (mem : jMem) (o d w : Int32) (h : ¬ (jin o 0 3 ∧ jin d 0 999 ∧ jin w 1 65520)) : jPi yX10_key cX10_key 4 .int 3 [.ref 0, .int o, .int d, .int w] np mem (fun v c => v = -1000001 ∧ c = mem) := by
  refine jPi.of (own := RX10) rfl rfl (Nat.le_of_ble_eq_true rfl) (fun G X hR hr hE => ?_)
  refine j_iload_n X dX10_key_0 rfl ?_
  refine s_callSi X hR (c_isOffice np _ _) rfl u352 u350 u351 u1 hyX10_isOffice (by decide) (by decide) (Nat.le_of_ble_eq_true rfl) dX10_key_1 (fun v_1 m_1 h_1 => ?_)
  obtain ⟨e1, e2⟩ := h_1; have e1 := e1.symm; have e2 := e2.symm; subst e1; subst e2
  refine j_ifb_eq X 24 dX10_key_4 (by decide) (fun c_4 => ?_) (fun c_4 => ?_)
  · refine j_ldc X dX10_key_24 u295 ?_
    refine s_iret X hE hr dX10_key_26 rfl ?_
    first | exact ⟨rfl, rfl⟩ | (exfalso; clear hE hr hR X; (try simp only [lg_cmp_lt, lg_cmp_gt, lg_cmp_le, lg_cmp_ge] at *); (try simp (disch := omega) only [Int64.le_iff_toInt_le, Int64.lt_iff_toInt_lt, Int32.le_iff_toInt_le, Int32.lt_iff_toInt_lt, fa_eq, fa_lit, fa_litL, nI_toInt, pk_lT, Int32.toInt_toInt64, jadd64, jin, jnoneT] at *); omega)
  · refine j_iload_n X dX10_key_7 rfl ?_
    refine s_callSi X hR (c_isDay np _ _) rfl u355 u353 u354 u1 hyX10_isDay (by decide) (by decide) (Nat.le_of_ble_eq_true rfl) dX10_key_8 (fun v_8 m_8 h_8 => ?_)
    obtain ⟨e1, e2⟩ := h_8; have e1 := e1.symm; have e2 := e2.symm; subst e1; subst e2
    refine j_ifb_eq X 24 dX10_key_11 (by decide) (fun c_11 => ?_) (fun c_11 => ?_)
    · refine j_ldc X dX10_key_24 u295 ?_
      refine s_iret X hE hr dX10_key_26 rfl ?_
      first | exact ⟨rfl, rfl⟩ | (exfalso; clear hE hr hR X; (try simp only [lg_cmp_lt, lg_cmp_gt, lg_cmp_le, lg_cmp_ge] at *); (try simp (disch := omega) only [Int64.le_iff_toInt_le, Int64.lt_iff_toInt_lt, Int32.le_iff_toInt_le, Int32.lt_iff_toInt_lt, fa_eq, fa_lit, fa_litL, nI_toInt, pk_lT, Int32.toInt_toInt64, jadd64, jin, jnoneT] at *); omega)
    · refine j_iload_n X dX10_key_14 rfl ?_
      refine j_iconst X dX10_key_15 1 (by decide) ?_
      refine j_ldc X dX10_key_16 u356 ?_
      refine s_callSi X hR (c_withinI np _ _ _ _ (1) (65520) rfl rfl) rfl u293 u294 u292 u1 hyX10_within (by decide) (by decide) (Nat.le_of_ble_eq_true rfl) dX10_key_18 (fun v_18 m_18 h_18 => ?_)
      obtain ⟨e1, e2⟩ := h_18; have e1 := e1.symm; have e2 := e2.symm; subst e1; subst e2
      refine j_ifb_ne X 27 dX10_key_21 (by decide) (fun c_21 => ?_) (fun c_21 => ?_)
      · exfalso
        clear hE hr hR X
        (try simp only [lg_cmp_lt, lg_cmp_gt, lg_cmp_le, lg_cmp_ge] at *); (try simp (disch := omega) only [Int64.le_iff_toInt_le, Int64.lt_iff_toInt_lt, Int32.le_iff_toInt_le, Int32.lt_iff_toInt_lt, fa_eq, fa_lit, fa_litL, nI_toInt, pk_lT, Int32.toInt_toInt64, jadd64, jin, jnoneT] at *); omega
      · refine j_ldc X dX10_key_24 u295 ?_
        refine s_iret X hE hr dX10_key_26 rfl ?_
        first | exact ⟨rfl, rfl⟩ | (exfalso; clear hE hr hR X; (try simp only [lg_cmp_lt, lg_cmp_gt, lg_cmp_le, lg_cmp_ge] at *); (try simp (disch := omega) only [Int64.le_iff_toInt_le, Int64.lt_iff_toInt_lt, Int32.le_iff_toInt_le, Int32.lt_iff_toInt_lt, fa_eq, fa_lit, fa_litL, nI_toInt, pk_lT, Int32.toInt_toInt64, jadd64, jin, jnoneT] at *); omega)
set_option maxRecDepth 4000 in
set_option maxHeartbeats 1000000 in
theorem c_key_full (np : Nat) (mem : jMem) (o : Nat) (d w : Int32) (ho : o < 4) (hd : jin d 0 999) (hw : jin w 1 65520) (hc : mem 24 o = nI 6) : jPi yX10_key cX10_key 4 .int 3 [.ref 0, .int (nI o), .int d, .int w] np mem (fun v c => v = -1000003 ∧ c = mem) := by
  refine jPi.of (own := RX10) rfl rfl (Nat.le_of_ble_eq_true rfl) (fun G X hR hr hE => ?_)
  refine j_iload_n X dX10_key_0 rfl ?_
  refine s_callSi X hR (c_isOffice np _ _) rfl u352 u350 u351 u1 hyX10_isOffice (by decide) (by decide) (Nat.le_of_ble_eq_true rfl) dX10_key_1 (fun v_1 m_1 h_1 => ?_)
  obtain ⟨e1, e2⟩ := h_1; have e1 := e1.symm; have e2 := e2.symm; subst e1; subst e2
  refine j_ifb_eq X 24 dX10_key_4 (by decide) (fun c_4 => ?_) (fun c_4 => ?_)
  · exfalso
    clear hE hr hR X
    (try simp only [lg_cmp_lt, lg_cmp_gt, lg_cmp_le, lg_cmp_ge] at *); (try simp (disch := omega) only [Int64.le_iff_toInt_le, Int64.lt_iff_toInt_lt, Int32.le_iff_toInt_le, Int32.lt_iff_toInt_lt, fa_eq, fa_lit, fa_litL, nI_toInt, pk_lT, Int32.toInt_toInt64, jadd64, jin, jnoneT] at *); omega
  · refine j_iload_n X dX10_key_7 rfl ?_
    refine s_callSi X hR (c_isDay np _ _) rfl u355 u353 u354 u1 hyX10_isDay (by decide) (by decide) (Nat.le_of_ble_eq_true rfl) dX10_key_8 (fun v_8 m_8 h_8 => ?_)
    obtain ⟨e1, e2⟩ := h_8; have e1 := e1.symm; have e2 := e2.symm; subst e1; subst e2
    refine j_ifb_eq X 24 dX10_key_11 (by decide) (fun c_11 => ?_) (fun c_11 => ?_)
    · exfalso
      clear hE hr hR X
      (try simp only [lg_cmp_lt, lg_cmp_gt, lg_cmp_le, lg_cmp_ge] at *); (try simp (disch := omega) only [Int64.le_iff_toInt_le, Int64.lt_iff_toInt_lt, Int32.le_iff_toInt_le, Int32.lt_iff_toInt_lt, fa_eq, fa_lit, fa_litL, nI_toInt, pk_lT, Int32.toInt_toInt64, jadd64, jin, jnoneT] at *); omega
    · refine j_iload_n X dX10_key_14 rfl ?_
      refine j_iconst X dX10_key_15 1 (by decide) ?_
      refine j_ldc X dX10_key_16 u356 ?_
      refine s_callSi X hR (c_withinI np _ _ _ _ (1) (65520) rfl rfl) rfl u293 u294 u292 u1 hyX10_within (by decide) (by decide) (Nat.le_of_ble_eq_true rfl) dX10_key_18 (fun v_18 m_18 h_18 => ?_)
      obtain ⟨e1, e2⟩ := h_18; have e1 := e1.symm; have e2 := e2.symm; subst e1; subst e2
      refine j_ifb_ne X 27 dX10_key_21 (by decide) (fun c_21 => ?_) (fun c_21 => ?_)
      · refine j_aload_n X dX10_key_27 rfl ?_
        refine j_getR X 10 1 (by decide) (by decide) rfl u239 (o0 np) (k0 np) _ (p0_1 np) dX10_key_28 ?_
        refine j_iload_n X dX10_key_31 rfl ?_
        refine j_iload_n X dX10_key_32 rfl ?_
        refine j_iload_n X dX10_key_33 rfl ?_
        refine s_callVi X hR (c_addKey_full np _ o d w ho hc) rfl 5 (by decide) (o13 np) (k13 np) rfl u360 u357 u358 u359 u4 hyX5_addKey (by decide) (by decide) (Nat.le_of_ble_eq_true rfl) dX10_key_34 (fun v_34 m_34 h_34 => ?_)
        obtain ⟨e1, e2⟩ := h_34; have e1 := e1.symm; have e2 := e2.symm; subst e1; subst e2
        refine j_if_eq X 52 dX10_key_37 (by decide) (fun c_37 => ?_) (fun c_37 => absurd rfl c_37)
        refine j_ldc X dX10_key_52 u361 ?_
        refine s_iret X hE hr dX10_key_54 rfl ?_
        first | exact ⟨rfl, rfl⟩ | (exfalso; clear hE hr hR X; (try simp only [lg_cmp_lt, lg_cmp_gt, lg_cmp_le, lg_cmp_ge] at *); (try simp (disch := omega) only [Int64.le_iff_toInt_le, Int64.lt_iff_toInt_lt, Int32.le_iff_toInt_le, Int32.lt_iff_toInt_lt, fa_eq, fa_lit, fa_litL, nI_toInt, pk_lT, Int32.toInt_toInt64, jadd64, jin, jnoneT] at *); omega)
      · exfalso
        clear hE hr hR X
        (try simp only [lg_cmp_lt, lg_cmp_gt, lg_cmp_le, lg_cmp_ge] at *); (try simp (disch := omega) only [Int64.le_iff_toInt_le, Int64.lt_iff_toInt_lt, Int32.le_iff_toInt_le, Int32.lt_iff_toInt_lt, fa_eq, fa_lit, fa_litL, nI_toInt, pk_lT, Int32.toInt_toInt64, jadd64, jin, jnoneT] at *); omega
set_option maxRecDepth 4000 in
set_option maxHeartbeats 1000000 in
theorem c_key (np : Nat) (mem : jMem) (o q : Nat) (d w : Int32) (ho : o < 4) (hd : jin d 0 999) (hw : jin w 1 65520) (hq : q < 6) (hc : mem 24 o = nI q) : jPi yX10_key cX10_key 4 .int 3 [.ref 0, .int (nI o), .int d, .int w] np mem (fun v c => v = nI (q + 1) ∧ c = jup (jup (jup mem (15 + o) q d) (20 + o) q w) 24 o (nI (q + 1))) := by
  refine jPi.of (own := RX10) rfl rfl (Nat.le_of_ble_eq_true rfl) (fun G X hR hr hE => ?_)
  refine j_iload_n X dX10_key_0 rfl ?_
  refine s_callSi X hR (c_isOffice np _ _) rfl u352 u350 u351 u1 hyX10_isOffice (by decide) (by decide) (Nat.le_of_ble_eq_true rfl) dX10_key_1 (fun v_1 m_1 h_1 => ?_)
  obtain ⟨e1, e2⟩ := h_1; have e1 := e1.symm; have e2 := e2.symm; subst e1; subst e2
  refine j_ifb_eq X 24 dX10_key_4 (by decide) (fun c_4 => ?_) (fun c_4 => ?_)
  · exfalso
    clear hE hr hR X
    (try simp only [lg_cmp_lt, lg_cmp_gt, lg_cmp_le, lg_cmp_ge] at *); (try simp (disch := omega) only [Int64.le_iff_toInt_le, Int64.lt_iff_toInt_lt, Int32.le_iff_toInt_le, Int32.lt_iff_toInt_lt, fa_eq, fa_lit, fa_litL, nI_toInt, pk_lT, Int32.toInt_toInt64, jadd64, jin, jnoneT] at *); omega
  · refine j_iload_n X dX10_key_7 rfl ?_
    refine s_callSi X hR (c_isDay np _ _) rfl u355 u353 u354 u1 hyX10_isDay (by decide) (by decide) (Nat.le_of_ble_eq_true rfl) dX10_key_8 (fun v_8 m_8 h_8 => ?_)
    obtain ⟨e1, e2⟩ := h_8; have e1 := e1.symm; have e2 := e2.symm; subst e1; subst e2
    refine j_ifb_eq X 24 dX10_key_11 (by decide) (fun c_11 => ?_) (fun c_11 => ?_)
    · exfalso
      clear hE hr hR X
      (try simp only [lg_cmp_lt, lg_cmp_gt, lg_cmp_le, lg_cmp_ge] at *); (try simp (disch := omega) only [Int64.le_iff_toInt_le, Int64.lt_iff_toInt_lt, Int32.le_iff_toInt_le, Int32.lt_iff_toInt_lt, fa_eq, fa_lit, fa_litL, nI_toInt, pk_lT, Int32.toInt_toInt64, jadd64, jin, jnoneT] at *); omega
    · refine j_iload_n X dX10_key_14 rfl ?_
      refine j_iconst X dX10_key_15 1 (by decide) ?_
      refine j_ldc X dX10_key_16 u356 ?_
      refine s_callSi X hR (c_withinI np _ _ _ _ (1) (65520) rfl rfl) rfl u293 u294 u292 u1 hyX10_within (by decide) (by decide) (Nat.le_of_ble_eq_true rfl) dX10_key_18 (fun v_18 m_18 h_18 => ?_)
      obtain ⟨e1, e2⟩ := h_18; have e1 := e1.symm; have e2 := e2.symm; subst e1; subst e2
      refine j_ifb_ne X 27 dX10_key_21 (by decide) (fun c_21 => ?_) (fun c_21 => ?_)
      · refine j_aload_n X dX10_key_27 rfl ?_
        refine j_getR X 10 1 (by decide) (by decide) rfl u239 (o0 np) (k0 np) _ (p0_1 np) dX10_key_28 ?_
        refine j_iload_n X dX10_key_31 rfl ?_
        refine j_iload_n X dX10_key_32 rfl ?_
        refine j_iload_n X dX10_key_33 rfl ?_
        refine s_callVi X hR (c_addKey np _ o q d w ho hq hc) rfl 5 (by decide) (o13 np) (k13 np) rfl u360 u357 u358 u359 u4 hyX5_addKey (by decide) (by decide) (Nat.le_of_ble_eq_true rfl) dX10_key_34 (fun v_34 m_34 h_34 => ?_)
        obtain ⟨e1, e2⟩ := h_34; have e1 := e1.symm; have e2 := e2.symm; subst e1; subst e2
        refine j_if_eq X 52 dX10_key_37 (by decide) (fun c_37 => absurd c_37 (by decide)) (fun c_37 => ?_)
        refine j_aload_n X dX10_key_40 rfl ?_
        refine j_getR X 10 1 (by decide) (by decide) rfl u239 (o0 np) (k0 np) _ (p0_1 np) dX10_key_41 ?_
        refine j_getR X 5 2 (by decide) (by decide) rfl u64 (o13 np) (k13 np) _ (p13_2 np) dX10_key_44 ?_
        refine j_iload_n X dX10_key_47 rfl ?_
        refine j_nrm _ (by first | (simp only [fa_lit, pk_mul, nI_add]; done) | (simp only [fa_lit, pk_mul, nI_add]; rfl) | rfl) ?_
        refine j_ialdN X (o24 np) (k24 np) (by rw [l24]; omega) (by rw [l24]; decide) _ rfl dX10_key_48 ?_
        refine j_nrm (nI (q + 1)) (by simp [jup, va_up]) ?_
        refine j_goto X 54 dX10_key_49 (by decide) ?_
        refine s_iret X hE hr dX10_key_54 rfl ?_
        first | exact ⟨rfl, rfl⟩ | (exfalso; clear hE hr hR X; (try simp only [lg_cmp_lt, lg_cmp_gt, lg_cmp_le, lg_cmp_ge] at *); (try simp (disch := omega) only [Int64.le_iff_toInt_le, Int64.lt_iff_toInt_lt, Int32.le_iff_toInt_le, Int32.lt_iff_toInt_lt, fa_eq, fa_lit, fa_litL, nI_toInt, pk_lT, Int32.toInt_toInt64, jadd64, jin, jnoneT] at *); omega)
      · exfalso
        clear hE hr hR X
        (try simp only [lg_cmp_lt, lg_cmp_gt, lg_cmp_le, lg_cmp_ge] at *); (try simp (disch := omega) only [Int64.le_iff_toInt_le, Int64.lt_iff_toInt_lt, Int32.le_iff_toInt_le, Int32.lt_iff_toInt_lt, fa_eq, fa_lit, fa_litL, nI_toInt, pk_lT, Int32.toInt_toInt64, jadd64, jin, jnoneT] at *); omega
set_option maxRecDepth 4000 in
set_option maxHeartbeats 1000000 in
theorem c_keyOn_bad (np : Nat) (mem : jMem) (o d : Int32) (h : ¬ (jin o 0 3 ∧ jin d 0 999)) : jPi yX10_keyOn cX10_keyOn 3 .int 3 [.ref 0, .int o, .int d] np mem (fun v c => v = -1000001 ∧ c = mem) := by
  refine jPi.of (own := RX10) rfl rfl (Nat.le_of_ble_eq_true rfl) (fun G X hR hr hE => ?_)
  refine j_iload_n X dX10_keyOn_0 rfl ?_
  refine s_callSi X hR (c_isOffice np _ _) rfl u352 u350 u351 u1 hyX10_isOffice (by decide) (by decide) (Nat.le_of_ble_eq_true rfl) dX10_keyOn_1 (fun v_1 m_1 h_1 => ?_)
  obtain ⟨e1, e2⟩ := h_1; have e1 := e1.symm; have e2 := e2.symm; subst e1; subst e2
  refine j_ifb_eq X 26 dX10_keyOn_4 (by decide) (fun c_4 => ?_) (fun c_4 => ?_)
  · refine j_ldc X dX10_keyOn_26 u295 ?_
    refine s_iret X hE hr dX10_keyOn_28 rfl ?_
    first | exact ⟨rfl, rfl⟩ | (exfalso; clear hE hr hR X; (try simp only [lg_cmp_lt, lg_cmp_gt, lg_cmp_le, lg_cmp_ge] at *); (try simp (disch := omega) only [Int64.le_iff_toInt_le, Int64.lt_iff_toInt_lt, Int32.le_iff_toInt_le, Int32.lt_iff_toInt_lt, fa_eq, fa_lit, fa_litL, nI_toInt, pk_lT, Int32.toInt_toInt64, jadd64, jin, jnoneT] at *); omega)
  · refine j_iload_n X dX10_keyOn_7 rfl ?_
    refine s_callSi X hR (c_isDay np _ _) rfl u355 u353 u354 u1 hyX10_isDay (by decide) (by decide) (Nat.le_of_ble_eq_true rfl) dX10_keyOn_8 (fun v_8 m_8 h_8 => ?_)
    obtain ⟨e1, e2⟩ := h_8; have e1 := e1.symm; have e2 := e2.symm; subst e1; subst e2
    refine j_ifb_eq X 26 dX10_keyOn_11 (by decide) (fun c_11 => ?_) (fun c_11 => ?_)
    · refine j_ldc X dX10_keyOn_26 u295 ?_
      refine s_iret X hE hr dX10_keyOn_28 rfl ?_
      first | exact ⟨rfl, rfl⟩ | (exfalso; clear hE hr hR X; (try simp only [lg_cmp_lt, lg_cmp_gt, lg_cmp_le, lg_cmp_ge] at *); (try simp (disch := omega) only [Int64.le_iff_toInt_le, Int64.lt_iff_toInt_lt, Int32.le_iff_toInt_le, Int32.lt_iff_toInt_lt, fa_eq, fa_lit, fa_litL, nI_toInt, pk_lT, Int32.toInt_toInt64, jadd64, jin, jnoneT] at *); omega)
    · exfalso
      clear hE hr hR X
      (try simp only [lg_cmp_lt, lg_cmp_gt, lg_cmp_le, lg_cmp_ge] at *); (try simp (disch := omega) only [Int64.le_iff_toInt_le, Int64.lt_iff_toInt_lt, Int32.le_iff_toInt_le, Int32.lt_iff_toInt_lt, fa_eq, fa_lit, fa_litL, nI_toInt, pk_lT, Int32.toInt_toInt64, jadd64, jin, jnoneT] at *); omega
set_option maxRecDepth 4000 in
set_option maxHeartbeats 1000000 in
theorem c_keyOn (np : Nat) (mem : jMem) (o q : Nat) (d : Int32) (ho : o < 4) (hd : jin d 0 999) (hq : q ≤ 6) (hc : mem 24 o = nI q) (hd2 : ∀ j, j < q → 0 ≤ (mem (15 + o) j).toInt) : jPi yX10_keyOn cX10_keyOn 3 .int 3 [.ref 0, .int (nI o), .int d] np mem (fun v c => v = jKey (mem (15 + o)) (mem (20 + o)) q (nI o) d ∧ c = mem) := by
  refine jPi.of (own := RX10) rfl rfl (Nat.le_of_ble_eq_true rfl) (fun G X hR hr hE => ?_)
  refine j_iload_n X dX10_keyOn_0 rfl ?_
  refine s_callSi X hR (c_isOffice np _ _) rfl u352 u350 u351 u1 hyX10_isOffice (by decide) (by decide) (Nat.le_of_ble_eq_true rfl) dX10_keyOn_1 (fun v_1 m_1 h_1 => ?_)
  obtain ⟨e1, e2⟩ := h_1; have e1 := e1.symm; have e2 := e2.symm; subst e1; subst e2
  refine j_ifb_eq X 26 dX10_keyOn_4 (by decide) (fun c_4 => ?_) (fun c_4 => ?_)
  · exfalso
    clear hE hr hR X
    (try simp only [lg_cmp_lt, lg_cmp_gt, lg_cmp_le, lg_cmp_ge] at *); (try simp (disch := omega) only [Int64.le_iff_toInt_le, Int64.lt_iff_toInt_lt, Int32.le_iff_toInt_le, Int32.lt_iff_toInt_lt, fa_eq, fa_lit, fa_litL, nI_toInt, pk_lT, Int32.toInt_toInt64, jadd64, jin, jnoneT] at *); omega
  · refine j_iload_n X dX10_keyOn_7 rfl ?_
    refine s_callSi X hR (c_isDay np _ _) rfl u355 u353 u354 u1 hyX10_isDay (by decide) (by decide) (Nat.le_of_ble_eq_true rfl) dX10_keyOn_8 (fun v_8 m_8 h_8 => ?_)
    obtain ⟨e1, e2⟩ := h_8; have e1 := e1.symm; have e2 := e2.symm; subst e1; subst e2
    refine j_ifb_eq X 26 dX10_keyOn_11 (by decide) (fun c_11 => ?_) (fun c_11 => ?_)
    · exfalso
      clear hE hr hR X
      (try simp only [lg_cmp_lt, lg_cmp_gt, lg_cmp_le, lg_cmp_ge] at *); (try simp (disch := omega) only [Int64.le_iff_toInt_le, Int64.lt_iff_toInt_lt, Int32.le_iff_toInt_le, Int32.lt_iff_toInt_lt, fa_eq, fa_lit, fa_litL, nI_toInt, pk_lT, Int32.toInt_toInt64, jadd64, jin, jnoneT] at *); omega
    · refine j_aload_n X dX10_keyOn_14 rfl ?_
      refine j_getR X 10 1 (by decide) (by decide) rfl u239 (o0 np) (k0 np) _ (p0_1 np) dX10_keyOn_15 ?_
      refine j_iload_n X dX10_keyOn_18 rfl ?_
      refine j_iload_n X dX10_keyOn_19 rfl ?_
      refine s_callVi X hR (c_keyAt np _ o q d ho hq hc hd2) rfl 5 (by decide) (o13 np) (k13 np) rfl u369 u366 u367 u368 u4 hyX5_keyAt (by decide) (by decide) (Nat.le_of_ble_eq_true rfl) dX10_keyOn_20 (fun v_20 m_20 h_20 => ?_)
      obtain ⟨e1, e2⟩ := h_20; have e1 := e1.symm; have e2 := e2.symm; subst e1; subst e2
      refine j_goto X 28 dX10_keyOn_23 (by decide) ?_
      refine s_iret X hE hr dX10_keyOn_28 rfl ?_
      first | exact ⟨rfl, rfl⟩ | (exfalso; clear hE hr hR X; (try simp only [lg_cmp_lt, lg_cmp_gt, lg_cmp_le, lg_cmp_ge] at *); (try simp (disch := omega) only [Int64.le_iff_toInt_le, Int64.lt_iff_toInt_lt, Int32.le_iff_toInt_le, Int32.lt_iff_toInt_lt, fa_eq, fa_lit, fa_litL, nI_toInt, pk_lT, Int32.toInt_toInt64, jadd64, jin, jnoneT] at *); omega)
set_option maxRecDepth 4000 in
set_option maxHeartbeats 1000000 in
theorem c_close_bad (np : Nat) (mem : jMem) (o w d : Int32) (h : ¬ (jin o 0 3 ∧ jin w 0 1 ∧ jin d 0 999)) : jPi yX10_close cX10_close 5 .int 3 [.ref 0, .int o, .int w, .int d] np mem (fun v c => v = -1000001 ∧ c = mem) := by
  refine jPi.of (own := RX10) rfl rfl (Nat.le_of_ble_eq_true rfl) (fun G X hR hr hE => ?_)
  refine j_iload_n X dX10_close_0 rfl ?_
  refine s_callSi X hR (c_isOffice np _ _) rfl u352 u350 u351 u1 hyX10_isOffice (by decide) (by decide) (Nat.le_of_ble_eq_true rfl) dX10_close_1 (fun v_1 m_1 h_1 => ?_)
  obtain ⟨e1, e2⟩ := h_1; have e1 := e1.symm; have e2 := e2.symm; subst e1; subst e2
  refine j_ifb_eq X 23 dX10_close_4 (by decide) (fun c_4 => ?_) (fun c_4 => ?_)
  · refine j_ldc X dX10_close_23 u295 ?_
    refine s_iret X hE hr dX10_close_25 rfl ?_
    first | exact ⟨rfl, rfl⟩ | (exfalso; clear hE hr hR X; (try simp only [lg_cmp_lt, lg_cmp_gt, lg_cmp_le, lg_cmp_ge] at *); (try simp (disch := omega) only [Int64.le_iff_toInt_le, Int64.lt_iff_toInt_lt, Int32.le_iff_toInt_le, Int32.lt_iff_toInt_lt, fa_eq, fa_lit, fa_litL, nI_toInt, pk_lT, Int32.toInt_toInt64, jadd64, jin, jnoneT] at *); omega)
  · refine j_iload_n X dX10_close_7 rfl ?_
    refine j_iconst X dX10_close_8 0 (by decide) ?_
    refine j_iconst X dX10_close_9 1 (by decide) ?_
    refine s_callSi X hR (c_withinI np _ _ _ _ (0) (1) rfl rfl) rfl u293 u294 u292 u1 hyX10_within (by decide) (by decide) (Nat.le_of_ble_eq_true rfl) dX10_close_10 (fun v_10 m_10 h_10 => ?_)
    obtain ⟨e1, e2⟩ := h_10; have e1 := e1.symm; have e2 := e2.symm; subst e1; subst e2
    refine j_ifb_eq X 23 dX10_close_13 (by decide) (fun c_13 => ?_) (fun c_13 => ?_)
    · refine j_ldc X dX10_close_23 u295 ?_
      refine s_iret X hE hr dX10_close_25 rfl ?_
      first | exact ⟨rfl, rfl⟩ | (exfalso; clear hE hr hR X; (try simp only [lg_cmp_lt, lg_cmp_gt, lg_cmp_le, lg_cmp_ge] at *); (try simp (disch := omega) only [Int64.le_iff_toInt_le, Int64.lt_iff_toInt_lt, Int32.le_iff_toInt_le, Int32.lt_iff_toInt_lt, fa_eq, fa_lit, fa_litL, nI_toInt, pk_lT, Int32.toInt_toInt64, jadd64, jin, jnoneT] at *); omega)
    · refine j_iload_n X dX10_close_16 rfl ?_
      refine s_callSi X hR (c_isDay np _ _) rfl u355 u353 u354 u1 hyX10_isDay (by decide) (by decide) (Nat.le_of_ble_eq_true rfl) dX10_close_17 (fun v_17 m_17 h_17 => ?_)
      obtain ⟨e1, e2⟩ := h_17; have e1 := e1.symm; have e2 := e2.symm; subst e1; subst e2
      refine j_ifb_ne X 26 dX10_close_20 (by decide) (fun c_20 => ?_) (fun c_20 => ?_)
      · exfalso
        clear hE hr hR X
        (try simp only [lg_cmp_lt, lg_cmp_gt, lg_cmp_le, lg_cmp_ge] at *); (try simp (disch := omega) only [Int64.le_iff_toInt_le, Int64.lt_iff_toInt_lt, Int32.le_iff_toInt_le, Int32.lt_iff_toInt_lt, fa_eq, fa_lit, fa_litL, nI_toInt, pk_lT, Int32.toInt_toInt64, jadd64, jin, jnoneT] at *); omega
      · refine j_ldc X dX10_close_23 u295 ?_
        refine s_iret X hE hr dX10_close_25 rfl ?_
        first | exact ⟨rfl, rfl⟩ | (exfalso; clear hE hr hR X; (try simp only [lg_cmp_lt, lg_cmp_gt, lg_cmp_le, lg_cmp_ge] at *); (try simp (disch := omega) only [Int64.le_iff_toInt_le, Int64.lt_iff_toInt_lt, Int32.le_iff_toInt_le, Int32.lt_iff_toInt_lt, fa_eq, fa_lit, fa_litL, nI_toInt, pk_lT, Int32.toInt_toInt64, jadd64, jin, jnoneT] at *); omega)
set_option maxRecDepth 4000 in
set_option maxHeartbeats 1000000 in
theorem c_close0_state (np : Nat) (mem : jMem) (o : Nat) (d : Int32) (ho : o < 4) (hd : jin d 0 999) (hc : ¬ mem 25 o = 1000) : jPi yX10_close cX10_close 5 .int 3 [.ref 0, .int (nI o), .int 0, .int d] np mem (fun v c => v = -1000002 ∧ c = mem) := by
  refine jPi.of (own := RX10) rfl rfl (Nat.le_of_ble_eq_true rfl) (fun G X hR hr hE => ?_)
  refine j_iload_n X dX10_close_0 rfl ?_
  refine s_callSi X hR (c_isOffice np _ _) rfl u352 u350 u351 u1 hyX10_isOffice (by decide) (by decide) (Nat.le_of_ble_eq_true rfl) dX10_close_1 (fun v_1 m_1 h_1 => ?_)
  obtain ⟨e1, e2⟩ := h_1; have e1 := e1.symm; have e2 := e2.symm; subst e1; subst e2
  refine j_ifb_eq X 23 dX10_close_4 (by decide) (fun c_4 => ?_) (fun c_4 => ?_)
  · exfalso
    clear hE hr hR X
    (try simp only [lg_cmp_lt, lg_cmp_gt, lg_cmp_le, lg_cmp_ge] at *); (try simp (disch := omega) only [Int64.le_iff_toInt_le, Int64.lt_iff_toInt_lt, Int32.le_iff_toInt_le, Int32.lt_iff_toInt_lt, fa_eq, fa_lit, fa_litL, nI_toInt, pk_lT, Int32.toInt_toInt64, jadd64, jin, jnoneT] at *); omega
  · refine j_iload_n X dX10_close_7 rfl ?_
    refine j_iconst X dX10_close_8 0 (by decide) ?_
    refine j_iconst X dX10_close_9 1 (by decide) ?_
    refine s_callSi X hR (c_withinI np _ _ _ _ (0) (1) rfl rfl) rfl u293 u294 u292 u1 hyX10_within (by decide) (by decide) (Nat.le_of_ble_eq_true rfl) dX10_close_10 (fun v_10 m_10 h_10 => ?_)
    obtain ⟨e1, e2⟩ := h_10; have e1 := e1.symm; have e2 := e2.symm; subst e1; subst e2
    refine j_ifb_eq X 23 dX10_close_13 (by decide) (fun c_13 => ?_) (fun c_13 => ?_)
    · exfalso
      clear hE hr hR X
      (try simp only [lg_cmp_lt, lg_cmp_gt, lg_cmp_le, lg_cmp_ge] at *); (try simp (disch := omega) only [Int64.le_iff_toInt_le, Int64.lt_iff_toInt_lt, Int32.le_iff_toInt_le, Int32.lt_iff_toInt_lt, fa_eq, fa_lit, fa_litL, nI_toInt, pk_lT, Int32.toInt_toInt64, jadd64, jin, jnoneT] at *); omega
    · refine j_iload_n X dX10_close_16 rfl ?_
      refine s_callSi X hR (c_isDay np _ _) rfl u355 u353 u354 u1 hyX10_isDay (by decide) (by decide) (Nat.le_of_ble_eq_true rfl) dX10_close_17 (fun v_17 m_17 h_17 => ?_)
      obtain ⟨e1, e2⟩ := h_17; have e1 := e1.symm; have e2 := e2.symm; subst e1; subst e2
      refine j_ifb_ne X 26 dX10_close_20 (by decide) (fun c_20 => ?_) (fun c_20 => ?_)
      · refine j_iload_n X dX10_close_26 rfl ?_
        refine j_if_ne X 40 dX10_close_27 (by decide) (fun c_27 => absurd c_27 (by decide)) (fun c_27 => ?_)
        refine j_aload_n X dX10_close_30 rfl ?_
        refine j_getR X 10 1 (by decide) (by decide) rfl u239 (o0 np) (k0 np) _ (p0_1 np) dX10_close_31 ?_
        refine j_getR X 5 3 (by decide) (by decide) rfl u66 (o13 np) (k13 np) _ (p13_3 np) dX10_close_34 ?_
        refine j_goto X 47 dX10_close_37 (by decide) ?_
        refine j_astore X dX10_close_47 (by decide) ?_
        refine j_aload X dX10_close_49 rfl ?_
        refine j_iload_n X dX10_close_51 rfl ?_
        refine j_nrm _ (by first | (simp only [fa_lit, pk_mul, nI_add]; done) | (simp only [fa_lit, pk_mul, nI_add]; rfl) | rfl) ?_
        refine j_ialdN X (o25 np) (k25 np) (by rw [l25]; omega) (by rw [l25]; decide) (mem 25) rfl dX10_close_52 ?_
        refine j_sipush X dX10_close_53 1000 (by decide) ?_
        refine j_icmp_eq X 62 dX10_close_56 (by decide) (fun c_56 => ?_) (fun c_56 => ?_)
        · exact absurd c_56 hc
        · refine j_ldc X dX10_close_59 u374 ?_
          refine s_iret X hE hr dX10_close_61 rfl ?_
          first | exact ⟨rfl, rfl⟩ | (exfalso; clear hE hr hR X; (try simp only [lg_cmp_lt, lg_cmp_gt, lg_cmp_le, lg_cmp_ge] at *); (try simp (disch := omega) only [Int64.le_iff_toInt_le, Int64.lt_iff_toInt_lt, Int32.le_iff_toInt_le, Int32.lt_iff_toInt_lt, fa_eq, fa_lit, fa_litL, nI_toInt, pk_lT, Int32.toInt_toInt64, jadd64, jin, jnoneT] at *); omega)
      · exfalso
        clear hE hr hR X
        (try simp only [lg_cmp_lt, lg_cmp_gt, lg_cmp_le, lg_cmp_ge] at *); (try simp (disch := omega) only [Int64.le_iff_toInt_le, Int64.lt_iff_toInt_lt, Int32.le_iff_toInt_le, Int32.lt_iff_toInt_lt, fa_eq, fa_lit, fa_litL, nI_toInt, pk_lT, Int32.toInt_toInt64, jadd64, jin, jnoneT] at *); omega
set_option maxRecDepth 4000 in
set_option maxHeartbeats 1000000 in
theorem c_close0 (np : Nat) (mem : jMem) (o : Nat) (d : Int32) (ho : o < 4) (hd : jin d 0 999) (hc : mem 25 o = 1000) : jPi yX10_close cX10_close 5 .int 3 [.ref 0, .int (nI o), .int 0, .int d] np mem (fun v c => v = 1 ∧ c = jup mem 25 o d) := by
  refine jPi.of (own := RX10) rfl rfl (Nat.le_of_ble_eq_true rfl) (fun G X hR hr hE => ?_)
  refine j_iload_n X dX10_close_0 rfl ?_
  refine s_callSi X hR (c_isOffice np _ _) rfl u352 u350 u351 u1 hyX10_isOffice (by decide) (by decide) (Nat.le_of_ble_eq_true rfl) dX10_close_1 (fun v_1 m_1 h_1 => ?_)
  obtain ⟨e1, e2⟩ := h_1; have e1 := e1.symm; have e2 := e2.symm; subst e1; subst e2
  refine j_ifb_eq X 23 dX10_close_4 (by decide) (fun c_4 => ?_) (fun c_4 => ?_)
  · exfalso
    clear hE hr hR X
    (try simp only [lg_cmp_lt, lg_cmp_gt, lg_cmp_le, lg_cmp_ge] at *); (try simp (disch := omega) only [Int64.le_iff_toInt_le, Int64.lt_iff_toInt_lt, Int32.le_iff_toInt_le, Int32.lt_iff_toInt_lt, fa_eq, fa_lit, fa_litL, nI_toInt, pk_lT, Int32.toInt_toInt64, jadd64, jin, jnoneT] at *); omega
  · refine j_iload_n X dX10_close_7 rfl ?_
    refine j_iconst X dX10_close_8 0 (by decide) ?_
    refine j_iconst X dX10_close_9 1 (by decide) ?_
    refine s_callSi X hR (c_withinI np _ _ _ _ (0) (1) rfl rfl) rfl u293 u294 u292 u1 hyX10_within (by decide) (by decide) (Nat.le_of_ble_eq_true rfl) dX10_close_10 (fun v_10 m_10 h_10 => ?_)
    obtain ⟨e1, e2⟩ := h_10; have e1 := e1.symm; have e2 := e2.symm; subst e1; subst e2
    refine j_ifb_eq X 23 dX10_close_13 (by decide) (fun c_13 => ?_) (fun c_13 => ?_)
    · exfalso
      clear hE hr hR X
      (try simp only [lg_cmp_lt, lg_cmp_gt, lg_cmp_le, lg_cmp_ge] at *); (try simp (disch := omega) only [Int64.le_iff_toInt_le, Int64.lt_iff_toInt_lt, Int32.le_iff_toInt_le, Int32.lt_iff_toInt_lt, fa_eq, fa_lit, fa_litL, nI_toInt, pk_lT, Int32.toInt_toInt64, jadd64, jin, jnoneT] at *); omega
    · refine j_iload_n X dX10_close_16 rfl ?_
      refine s_callSi X hR (c_isDay np _ _) rfl u355 u353 u354 u1 hyX10_isDay (by decide) (by decide) (Nat.le_of_ble_eq_true rfl) dX10_close_17 (fun v_17 m_17 h_17 => ?_)
      obtain ⟨e1, e2⟩ := h_17; have e1 := e1.symm; have e2 := e2.symm; subst e1; subst e2
      refine j_ifb_ne X 26 dX10_close_20 (by decide) (fun c_20 => ?_) (fun c_20 => ?_)
      · refine j_iload_n X dX10_close_26 rfl ?_
        refine j_if_ne X 40 dX10_close_27 (by decide) (fun c_27 => absurd c_27 (by decide)) (fun c_27 => ?_)
        refine j_aload_n X dX10_close_30 rfl ?_
        refine j_getR X 10 1 (by decide) (by decide) rfl u239 (o0 np) (k0 np) _ (p0_1 np) dX10_close_31 ?_
        refine j_getR X 5 3 (by decide) (by decide) rfl u66 (o13 np) (k13 np) _ (p13_3 np) dX10_close_34 ?_
        refine j_goto X 47 dX10_close_37 (by decide) ?_
        refine j_astore X dX10_close_47 (by decide) ?_
        refine j_aload X dX10_close_49 rfl ?_
        refine j_iload_n X dX10_close_51 rfl ?_
        refine j_nrm _ (by first | (simp only [fa_lit, pk_mul, nI_add]; done) | (simp only [fa_lit, pk_mul, nI_add]; rfl) | rfl) ?_
        refine j_ialdN X (o25 np) (k25 np) (by rw [l25]; omega) (by rw [l25]; decide) (mem 25) rfl dX10_close_52 ?_
        refine j_sipush X dX10_close_53 1000 (by decide) ?_
        refine j_icmp_eq X 62 dX10_close_56 (by decide) (fun c_56 => ?_) (fun c_56 => ?_)
        · refine j_aload X dX10_close_62 rfl ?_
          refine j_iload_n X dX10_close_64 rfl ?_
          refine j_iload_n X dX10_close_65 rfl ?_
          refine j_nrm2 _ (by first | (simp only [fa_lit, pk_mul, nI_add]; done) | (simp only [fa_lit, pk_mul, nI_add]; rfl) | rfl) ?_
          refine j_iastN X (o25 np) (k25 np) (by rw [l25]; omega) (by rw [l25]; decide) dX10_close_66 ?_
          refine j_iconst X dX10_close_67 1 (by decide) ?_
          refine s_iret X hE hr dX10_close_68 rfl ?_
          first | exact ⟨rfl, rfl⟩ | (exfalso; clear hE hr hR X; (try simp only [lg_cmp_lt, lg_cmp_gt, lg_cmp_le, lg_cmp_ge] at *); (try simp (disch := omega) only [Int64.le_iff_toInt_le, Int64.lt_iff_toInt_lt, Int32.le_iff_toInt_le, Int32.lt_iff_toInt_lt, fa_eq, fa_lit, fa_litL, nI_toInt, pk_lT, Int32.toInt_toInt64, jadd64, jin, jnoneT] at *); omega)
        · exact absurd hc c_56
      · exfalso
        clear hE hr hR X
        (try simp only [lg_cmp_lt, lg_cmp_gt, lg_cmp_le, lg_cmp_ge] at *); (try simp (disch := omega) only [Int64.le_iff_toInt_le, Int64.lt_iff_toInt_lt, Int32.le_iff_toInt_le, Int32.lt_iff_toInt_lt, fa_eq, fa_lit, fa_litL, nI_toInt, pk_lT, Int32.toInt_toInt64, jadd64, jin, jnoneT] at *); omega
set_option maxRecDepth 4000 in
set_option maxHeartbeats 1000000 in
theorem c_close1_state (np : Nat) (mem : jMem) (o : Nat) (d : Int32) (ho : o < 4) (hd : jin d 0 999) (hc : ¬ mem 26 o = 1000) : jPi yX10_close cX10_close 5 .int 3 [.ref 0, .int (nI o), .int 1, .int d] np mem (fun v c => v = -1000002 ∧ c = mem) := by
  refine jPi.of (own := RX10) rfl rfl (Nat.le_of_ble_eq_true rfl) (fun G X hR hr hE => ?_)
  refine j_iload_n X dX10_close_0 rfl ?_
  refine s_callSi X hR (c_isOffice np _ _) rfl u352 u350 u351 u1 hyX10_isOffice (by decide) (by decide) (Nat.le_of_ble_eq_true rfl) dX10_close_1 (fun v_1 m_1 h_1 => ?_)
  obtain ⟨e1, e2⟩ := h_1; have e1 := e1.symm; have e2 := e2.symm; subst e1; subst e2
  refine j_ifb_eq X 23 dX10_close_4 (by decide) (fun c_4 => ?_) (fun c_4 => ?_)
  · exfalso
    clear hE hr hR X
    (try simp only [lg_cmp_lt, lg_cmp_gt, lg_cmp_le, lg_cmp_ge] at *); (try simp (disch := omega) only [Int64.le_iff_toInt_le, Int64.lt_iff_toInt_lt, Int32.le_iff_toInt_le, Int32.lt_iff_toInt_lt, fa_eq, fa_lit, fa_litL, nI_toInt, pk_lT, Int32.toInt_toInt64, jadd64, jin, jnoneT] at *); omega
  · refine j_iload_n X dX10_close_7 rfl ?_
    refine j_iconst X dX10_close_8 0 (by decide) ?_
    refine j_iconst X dX10_close_9 1 (by decide) ?_
    refine s_callSi X hR (c_withinI np _ _ _ _ (0) (1) rfl rfl) rfl u293 u294 u292 u1 hyX10_within (by decide) (by decide) (Nat.le_of_ble_eq_true rfl) dX10_close_10 (fun v_10 m_10 h_10 => ?_)
    obtain ⟨e1, e2⟩ := h_10; have e1 := e1.symm; have e2 := e2.symm; subst e1; subst e2
    refine j_ifb_eq X 23 dX10_close_13 (by decide) (fun c_13 => ?_) (fun c_13 => ?_)
    · exfalso
      clear hE hr hR X
      (try simp only [lg_cmp_lt, lg_cmp_gt, lg_cmp_le, lg_cmp_ge] at *); (try simp (disch := omega) only [Int64.le_iff_toInt_le, Int64.lt_iff_toInt_lt, Int32.le_iff_toInt_le, Int32.lt_iff_toInt_lt, fa_eq, fa_lit, fa_litL, nI_toInt, pk_lT, Int32.toInt_toInt64, jadd64, jin, jnoneT] at *); omega
    · refine j_iload_n X dX10_close_16 rfl ?_
      refine s_callSi X hR (c_isDay np _ _) rfl u355 u353 u354 u1 hyX10_isDay (by decide) (by decide) (Nat.le_of_ble_eq_true rfl) dX10_close_17 (fun v_17 m_17 h_17 => ?_)
      obtain ⟨e1, e2⟩ := h_17; have e1 := e1.symm; have e2 := e2.symm; subst e1; subst e2
      refine j_ifb_ne X 26 dX10_close_20 (by decide) (fun c_20 => ?_) (fun c_20 => ?_)
      · refine j_iload_n X dX10_close_26 rfl ?_
        refine j_if_ne X 40 dX10_close_27 (by decide) (fun c_27 => ?_) (fun c_27 => absurd c_27 (by decide))
        refine j_aload_n X dX10_close_40 rfl ?_
        refine j_getR X 10 1 (by decide) (by decide) rfl u239 (o0 np) (k0 np) _ (p0_1 np) dX10_close_41 ?_
        refine j_getR X 5 4 (by decide) (by decide) rfl u68 (o13 np) (k13 np) _ (p13_4 np) dX10_close_44 ?_
        refine j_astore X dX10_close_47 (by decide) ?_
        refine j_aload X dX10_close_49 rfl ?_
        refine j_iload_n X dX10_close_51 rfl ?_
        refine j_nrm _ (by first | (simp only [fa_lit, pk_mul, nI_add]; done) | (simp only [fa_lit, pk_mul, nI_add]; rfl) | rfl) ?_
        refine j_ialdN X (o26 np) (k26 np) (by rw [l26]; omega) (by rw [l26]; decide) (mem 26) rfl dX10_close_52 ?_
        refine j_sipush X dX10_close_53 1000 (by decide) ?_
        refine j_icmp_eq X 62 dX10_close_56 (by decide) (fun c_56 => ?_) (fun c_56 => ?_)
        · exact absurd c_56 hc
        · refine j_ldc X dX10_close_59 u374 ?_
          refine s_iret X hE hr dX10_close_61 rfl ?_
          first | exact ⟨rfl, rfl⟩ | (exfalso; clear hE hr hR X; (try simp only [lg_cmp_lt, lg_cmp_gt, lg_cmp_le, lg_cmp_ge] at *); (try simp (disch := omega) only [Int64.le_iff_toInt_le, Int64.lt_iff_toInt_lt, Int32.le_iff_toInt_le, Int32.lt_iff_toInt_lt, fa_eq, fa_lit, fa_litL, nI_toInt, pk_lT, Int32.toInt_toInt64, jadd64, jin, jnoneT] at *); omega)
      · exfalso
        clear hE hr hR X
        (try simp only [lg_cmp_lt, lg_cmp_gt, lg_cmp_le, lg_cmp_ge] at *); (try simp (disch := omega) only [Int64.le_iff_toInt_le, Int64.lt_iff_toInt_lt, Int32.le_iff_toInt_le, Int32.lt_iff_toInt_lt, fa_eq, fa_lit, fa_litL, nI_toInt, pk_lT, Int32.toInt_toInt64, jadd64, jin, jnoneT] at *); omega
set_option maxRecDepth 4000 in
set_option maxHeartbeats 1000000 in
theorem c_close1 (np : Nat) (mem : jMem) (o : Nat) (d : Int32) (ho : o < 4) (hd : jin d 0 999) (hc : mem 26 o = 1000) : jPi yX10_close cX10_close 5 .int 3 [.ref 0, .int (nI o), .int 1, .int d] np mem (fun v c => v = 1 ∧ c = jup mem 26 o d) := by
  refine jPi.of (own := RX10) rfl rfl (Nat.le_of_ble_eq_true rfl) (fun G X hR hr hE => ?_)
  refine j_iload_n X dX10_close_0 rfl ?_
  refine s_callSi X hR (c_isOffice np _ _) rfl u352 u350 u351 u1 hyX10_isOffice (by decide) (by decide) (Nat.le_of_ble_eq_true rfl) dX10_close_1 (fun v_1 m_1 h_1 => ?_)
  obtain ⟨e1, e2⟩ := h_1; have e1 := e1.symm; have e2 := e2.symm; subst e1; subst e2
  refine j_ifb_eq X 23 dX10_close_4 (by decide) (fun c_4 => ?_) (fun c_4 => ?_)
  · exfalso
    clear hE hr hR X
    (try simp only [lg_cmp_lt, lg_cmp_gt, lg_cmp_le, lg_cmp_ge] at *); (try simp (disch := omega) only [Int64.le_iff_toInt_le, Int64.lt_iff_toInt_lt, Int32.le_iff_toInt_le, Int32.lt_iff_toInt_lt, fa_eq, fa_lit, fa_litL, nI_toInt, pk_lT, Int32.toInt_toInt64, jadd64, jin, jnoneT] at *); omega
  · refine j_iload_n X dX10_close_7 rfl ?_
    refine j_iconst X dX10_close_8 0 (by decide) ?_
    refine j_iconst X dX10_close_9 1 (by decide) ?_
    refine s_callSi X hR (c_withinI np _ _ _ _ (0) (1) rfl rfl) rfl u293 u294 u292 u1 hyX10_within (by decide) (by decide) (Nat.le_of_ble_eq_true rfl) dX10_close_10 (fun v_10 m_10 h_10 => ?_)
    obtain ⟨e1, e2⟩ := h_10; have e1 := e1.symm; have e2 := e2.symm; subst e1; subst e2
    refine j_ifb_eq X 23 dX10_close_13 (by decide) (fun c_13 => ?_) (fun c_13 => ?_)
    · exfalso
      clear hE hr hR X
      (try simp only [lg_cmp_lt, lg_cmp_gt, lg_cmp_le, lg_cmp_ge] at *); (try simp (disch := omega) only [Int64.le_iff_toInt_le, Int64.lt_iff_toInt_lt, Int32.le_iff_toInt_le, Int32.lt_iff_toInt_lt, fa_eq, fa_lit, fa_litL, nI_toInt, pk_lT, Int32.toInt_toInt64, jadd64, jin, jnoneT] at *); omega
    · refine j_iload_n X dX10_close_16 rfl ?_
      refine s_callSi X hR (c_isDay np _ _) rfl u355 u353 u354 u1 hyX10_isDay (by decide) (by decide) (Nat.le_of_ble_eq_true rfl) dX10_close_17 (fun v_17 m_17 h_17 => ?_)
      obtain ⟨e1, e2⟩ := h_17; have e1 := e1.symm; have e2 := e2.symm; subst e1; subst e2
      refine j_ifb_ne X 26 dX10_close_20 (by decide) (fun c_20 => ?_) (fun c_20 => ?_)
      · refine j_iload_n X dX10_close_26 rfl ?_
        refine j_if_ne X 40 dX10_close_27 (by decide) (fun c_27 => ?_) (fun c_27 => absurd c_27 (by decide))
        refine j_aload_n X dX10_close_40 rfl ?_
        refine j_getR X 10 1 (by decide) (by decide) rfl u239 (o0 np) (k0 np) _ (p0_1 np) dX10_close_41 ?_
        refine j_getR X 5 4 (by decide) (by decide) rfl u68 (o13 np) (k13 np) _ (p13_4 np) dX10_close_44 ?_
        refine j_astore X dX10_close_47 (by decide) ?_
        refine j_aload X dX10_close_49 rfl ?_
        refine j_iload_n X dX10_close_51 rfl ?_
        refine j_nrm _ (by first | (simp only [fa_lit, pk_mul, nI_add]; done) | (simp only [fa_lit, pk_mul, nI_add]; rfl) | rfl) ?_
        refine j_ialdN X (o26 np) (k26 np) (by rw [l26]; omega) (by rw [l26]; decide) (mem 26) rfl dX10_close_52 ?_
        refine j_sipush X dX10_close_53 1000 (by decide) ?_
        refine j_icmp_eq X 62 dX10_close_56 (by decide) (fun c_56 => ?_) (fun c_56 => ?_)
        · refine j_aload X dX10_close_62 rfl ?_
          refine j_iload_n X dX10_close_64 rfl ?_
          refine j_iload_n X dX10_close_65 rfl ?_
          refine j_nrm2 _ (by first | (simp only [fa_lit, pk_mul, nI_add]; done) | (simp only [fa_lit, pk_mul, nI_add]; rfl) | rfl) ?_
          refine j_iastN X (o26 np) (k26 np) (by rw [l26]; omega) (by rw [l26]; decide) dX10_close_66 ?_
          refine j_iconst X dX10_close_67 1 (by decide) ?_
          refine s_iret X hE hr dX10_close_68 rfl ?_
          first | exact ⟨rfl, rfl⟩ | (exfalso; clear hE hr hR X; (try simp only [lg_cmp_lt, lg_cmp_gt, lg_cmp_le, lg_cmp_ge] at *); (try simp (disch := omega) only [Int64.le_iff_toInt_le, Int64.lt_iff_toInt_lt, Int32.le_iff_toInt_le, Int32.lt_iff_toInt_lt, fa_eq, fa_lit, fa_litL, nI_toInt, pk_lT, Int32.toInt_toInt64, jadd64, jin, jnoneT] at *); omega)
        · exact absurd hc c_56
      · exfalso
        clear hE hr hR X
        (try simp only [lg_cmp_lt, lg_cmp_gt, lg_cmp_le, lg_cmp_ge] at *); (try simp (disch := omega) only [Int64.le_iff_toInt_le, Int64.lt_iff_toInt_lt, Int32.le_iff_toInt_le, Int32.lt_iff_toInt_lt, fa_eq, fa_lit, fa_litL, nI_toInt, pk_lT, Int32.toInt_toInt64, jadd64, jin, jnoneT] at *); omega
set_option maxRecDepth 4000 in
set_option maxHeartbeats 1000000 in
theorem c_keyOf (np : Nat) (mem : jMem) (p : Nat) (hp2 : p < np) (o q : Nat) (ho : o < 4) (hpo : mem (92 + 2 * p) 1 = nI o) (hq : q ≤ 6) (hc : mem 24 o = nI q) (hd2 : ∀ j, j < q → 0 ≤ (mem (15 + o) j).toInt) : jPi yX10_keyOf cX10_keyOf 2 .int 2 [.ref 0, .ref (92 + 2 * p)] np mem (fun v c => v = (jKey (mem (15 + o)) (mem (20 + o)) q (nI o) (mem (92 + 2 * p) 4)) ∧ c = mem) := by
  refine jPi.of (own := RX10) rfl rfl (Nat.le_of_ble_eq_true rfl) (fun G X hR hr hE => ?_)
  refine j_aload_n X dX10_keyOf_0 rfl ?_
  refine j_getR X 10 1 (by decide) (by decide) rfl u239 (o0 np) (k0 np) _ (p0_1 np) dX10_keyOf_1 ?_
  refine j_aload_n X dX10_keyOf_4 rfl ?_
  refine j_getF X 6 1 (by decide) (by decide) rfl u395 (oP np (by omega)) (kP np _) (mem (92 + 2 * p)) rfl dX10_keyOf_5 ?_
  refine j_nrm (nI o) hpo ?_
  refine j_aload_n X dX10_keyOf_8 rfl ?_
  refine j_getF X 6 4 (by decide) (by decide) rfl u401 (oP np (by omega)) (kP np _) (mem (92 + 2 * p)) rfl dX10_keyOf_9 ?_
  refine s_callVi X hR (c_keyAt np _ o q _ ho hq hc hd2) rfl 5 (by decide) (o13 np) (k13 np) rfl u369 u366 u367 u368 u4 hyX5_keyAt (by decide) (by decide) (Nat.le_of_ble_eq_true rfl) dX10_keyOf_12 (fun v_12 m_12 h_12 => ?_)
  obtain ⟨e1, e2⟩ := h_12; have e1 := e1.symm; have e2 := e2.symm; subst e1; subst e2
  refine s_iret X hE hr dX10_keyOf_15 rfl ?_
  first | exact ⟨rfl, rfl⟩ | (exfalso; clear hE hr hR X; (try simp only [lg_cmp_lt, lg_cmp_gt, lg_cmp_le, lg_cmp_ge] at *); (try simp (disch := omega) only [Int64.le_iff_toInt_le, Int64.lt_iff_toInt_lt, Int32.le_iff_toInt_le, Int32.lt_iff_toInt_lt, fa_eq, fa_lit, fa_litL, nI_toInt, pk_lT, Int32.toInt_toInt64, jadd64, jin, jnoneT] at *); omega)
set_option maxRecDepth 4000 in
set_option maxHeartbeats 1000000 in
theorem c_told_bad (np : Nat) (mem : jMem) (p w : Int32) (hn : np ≤ 12) (hp : mem 0 12 = nI np) (h : ¬ jin p 0 ((np : Int) - 1)) : jPi yX10_told cX10_told 4 .int 5 [.ref 0, .int p, .int w] np mem (fun v c => v = -1000001 ∧ c = mem) := by
  refine jPi.of (own := RX10) rfl rfl (Nat.le_of_ble_eq_true rfl) (fun G X hR hr hE => ?_)
  refine j_aload_n X dX10_told_0 rfl ?_
  refine j_iload_n X dX10_told_1 rfl ?_
  refine s_callVa X hR (c_paperAt_null np _ p hn hp h) rfl 10 (by decide) (o0 np) (k0 np) rfl u435 u432 u434 qp2 u1 hyX10_paperAt (by decide) (by decide) (Nat.le_of_ble_eq_true rfl) dX10_told_2 (fun v_2 m_2 h_2 => ?_)
  obtain ⟨e1, e2⟩ := h_2; have e1 := e1.symm; have e2 := e2.symm; subst e1; subst e2
  refine j_astore_nN X dX10_told_5 (by decide) ?_
  refine j_aload_nN X dX10_told_6 rfl ?_
  refine j_ifnullN X 20 dX10_told_7 (by decide) ?_
  refine j_ldc X dX10_told_20 u295 ?_
  refine s_iret X hE hr dX10_told_22 rfl ?_
  first | exact ⟨rfl, rfl⟩ | (exfalso; clear hE hr hR X; (try simp only [lg_cmp_lt, lg_cmp_gt, lg_cmp_le, lg_cmp_ge] at *); (try simp (disch := omega) only [Int64.le_iff_toInt_le, Int64.lt_iff_toInt_lt, Int32.le_iff_toInt_le, Int32.lt_iff_toInt_lt, fa_eq, fa_lit, fa_litL, nI_toInt, pk_lT, Int32.toInt_toInt64, jadd64, jin, jnoneT] at *); omega)
set_option maxRecDepth 4000 in
set_option maxHeartbeats 1000000 in
theorem c_told_bad2 (np : Nat) (mem : jMem) (p : Nat) (w : Int32) (hn : np ≤ 12) (hp : mem 0 12 = nI np) (hp2 : p < np) (h : ¬ jin w 0 15) : jPi yX10_told cX10_told 4 .int 5 [.ref 0, .int (nI p), .int w] np mem (fun v c => v = -1000001 ∧ c = mem) := by
  refine jPi.of (own := RX10) rfl rfl (Nat.le_of_ble_eq_true rfl) (fun G X hR hr hE => ?_)
  refine j_aload_n X dX10_told_0 rfl ?_
  refine j_iload_n X dX10_told_1 rfl ?_
  refine s_callVa X hR (c_paperAt np _ p hn hp hp2) rfl 10 (by decide) (o0 np) (k0 np) rfl u435 u432 u434 qp2 u1 hyX10_paperAt (by decide) (by decide) (Nat.le_of_ble_eq_true rfl) dX10_told_2 (fun v_2 m_2 h_2 => ?_)
  obtain ⟨e1, e2⟩ := h_2; have e1 := e1.symm; have e2 := e2.symm; subst e1; subst e2
  refine j_astore_n X dX10_told_5 (by decide) ?_
  refine j_aload_n X dX10_told_6 rfl ?_
  refine j_ifnullR X 20 dX10_told_7 (by decide) ?_
  refine j_iload_n X dX10_told_10 rfl ?_
  refine j_iconst X dX10_told_11 0 (by decide) ?_
  refine j_bipush X dX10_told_12 15 (by decide) ?_
  refine s_callSi X hR (c_withinI np _ _ _ _ (0) (15) rfl rfl) rfl u293 u294 u292 u1 hyX10_within (by decide) (by decide) (Nat.le_of_ble_eq_true rfl) dX10_told_14 (fun v_14 m_14 h_14 => ?_)
  obtain ⟨e1, e2⟩ := h_14; have e1 := e1.symm; have e2 := e2.symm; subst e1; subst e2
  refine j_ifb_ne X 23 dX10_told_17 (by decide) (fun c_17 => ?_) (fun c_17 => ?_)
  · exfalso
    clear hE hr hR X
    (try simp only [lg_cmp_lt, lg_cmp_gt, lg_cmp_le, lg_cmp_ge] at *); (try simp (disch := omega) only [Int64.le_iff_toInt_le, Int64.lt_iff_toInt_lt, Int32.le_iff_toInt_le, Int32.lt_iff_toInt_lt, fa_eq, fa_lit, fa_litL, nI_toInt, pk_lT, Int32.toInt_toInt64, jadd64, jin, jnoneT] at *); omega
  · refine j_ldc X dX10_told_20 u295 ?_
    refine s_iret X hE hr dX10_told_22 rfl ?_
    first | exact ⟨rfl, rfl⟩ | (exfalso; clear hE hr hR X; (try simp only [lg_cmp_lt, lg_cmp_gt, lg_cmp_le, lg_cmp_ge] at *); (try simp (disch := omega) only [Int64.le_iff_toInt_le, Int64.lt_iff_toInt_lt, Int32.le_iff_toInt_le, Int32.lt_iff_toInt_lt, fa_eq, fa_lit, fa_litL, nI_toInt, pk_lT, Int32.toInt_toInt64, jadd64, jin, jnoneT] at *); omega)
set_option maxRecDepth 4000 in
set_option maxHeartbeats 1000000 in
theorem c_told0 (np : Nat) (mem : jMem) (p : Nat) (hn : np ≤ 12) (hp : mem 0 12 = nI np) (hp2 : p < np) (hN : mem (92 + 2 * p) 0 = nI p) : jPi yX10_told cX10_told 4 .int 5 [.ref 0, .int (nI p), .int 0] np mem (fun v c => v = mem (93 + 2 * p) 0 ∧ c = mem) := by
  refine jPi.of (own := RX10) rfl rfl (Nat.le_of_ble_eq_true rfl) (fun G X hR hr hE => ?_)
  refine j_aload_n X dX10_told_0 rfl ?_
  refine j_iload_n X dX10_told_1 rfl ?_
  refine s_callVa X hR (c_paperAt np _ p hn hp hp2) rfl 10 (by decide) (o0 np) (k0 np) rfl u435 u432 u434 qp2 u1 hyX10_paperAt (by decide) (by decide) (Nat.le_of_ble_eq_true rfl) dX10_told_2 (fun v_2 m_2 h_2 => ?_)
  obtain ⟨e1, e2⟩ := h_2; have e1 := e1.symm; have e2 := e2.symm; subst e1; subst e2
  refine j_astore_n X dX10_told_5 (by decide) ?_
  refine j_aload_n X dX10_told_6 rfl ?_
  refine j_ifnullR X 20 dX10_told_7 (by decide) ?_
  refine j_iload_n X dX10_told_10 rfl ?_
  refine j_iconst X dX10_told_11 0 (by decide) ?_
  refine j_bipush X dX10_told_12 15 (by decide) ?_
  refine s_callSi X hR (c_withinI np _ _ _ _ (0) (15) rfl rfl) rfl u293 u294 u292 u1 hyX10_within (by decide) (by decide) (Nat.le_of_ble_eq_true rfl) dX10_told_14 (fun v_14 m_14 h_14 => ?_)
  obtain ⟨e1, e2⟩ := h_14; have e1 := e1.symm; have e2 := e2.symm; subst e1; subst e2
  refine j_ifb_ne X 23 dX10_told_17 (by decide) (fun c_17 => ?_) (fun c_17 => ?_)
  · refine j_iload_n X dX10_told_23 rfl ?_
    refine j_iconst X dX10_told_24 4 (by decide) ?_
    refine j_icmp_ge X 35 dX10_told_25 (by decide) (fun c_25 => absurd c_25 (by decide)) (fun c_25 => ?_)
    refine j_aload_n X dX10_told_28 rfl ?_
    refine j_getR X 6 6 (by decide) (by decide) rfl u408 (oP np (by omega)) (kP np _) _ (pP_f np _) dX10_told_29 ?_
    refine j_iload_n X dX10_told_32 rfl ?_
    refine j_nrm _ (by first | (simp only [fa_lit, pk_mul, nI_add]; done) | (simp only [fa_lit, pk_mul, nI_add]; rfl) | rfl) ?_
    refine j_ialdN X (oPf np (by omega)) (kPf np _) (by rw [lPf]; omega) (by rw [lPf]; decide) (mem (93 + 2 * p)) rfl dX10_told_33 ?_
    refine s_iret X hE hr dX10_told_34 rfl ?_
    first | exact ⟨rfl, rfl⟩ | (exfalso; clear hE hr hR X; (try simp only [lg_cmp_lt, lg_cmp_gt, lg_cmp_le, lg_cmp_ge] at *); (try simp (disch := omega) only [Int64.le_iff_toInt_le, Int64.lt_iff_toInt_lt, Int32.le_iff_toInt_le, Int32.lt_iff_toInt_lt, fa_eq, fa_lit, fa_litL, nI_toInt, pk_lT, Int32.toInt_toInt64, jadd64, jin, jnoneT] at *); omega)
  · exfalso
    clear hE hr hR X
    (try simp only [lg_cmp_lt, lg_cmp_gt, lg_cmp_le, lg_cmp_ge] at *); (try simp (disch := omega) only [Int64.le_iff_toInt_le, Int64.lt_iff_toInt_lt, Int32.le_iff_toInt_le, Int32.lt_iff_toInt_lt, fa_eq, fa_lit, fa_litL, nI_toInt, pk_lT, Int32.toInt_toInt64, jadd64, jin, jnoneT] at *); omega
set_option maxRecDepth 4000 in
set_option maxHeartbeats 1000000 in
theorem c_told1 (np : Nat) (mem : jMem) (p : Nat) (hn : np ≤ 12) (hp : mem 0 12 = nI np) (hp2 : p < np) (hN : mem (92 + 2 * p) 0 = nI p) : jPi yX10_told cX10_told 4 .int 5 [.ref 0, .int (nI p), .int 1] np mem (fun v c => v = mem (93 + 2 * p) 1 ∧ c = mem) := by
  refine jPi.of (own := RX10) rfl rfl (Nat.le_of_ble_eq_true rfl) (fun G X hR hr hE => ?_)
  refine j_aload_n X dX10_told_0 rfl ?_
  refine j_iload_n X dX10_told_1 rfl ?_
  refine s_callVa X hR (c_paperAt np _ p hn hp hp2) rfl 10 (by decide) (o0 np) (k0 np) rfl u435 u432 u434 qp2 u1 hyX10_paperAt (by decide) (by decide) (Nat.le_of_ble_eq_true rfl) dX10_told_2 (fun v_2 m_2 h_2 => ?_)
  obtain ⟨e1, e2⟩ := h_2; have e1 := e1.symm; have e2 := e2.symm; subst e1; subst e2
  refine j_astore_n X dX10_told_5 (by decide) ?_
  refine j_aload_n X dX10_told_6 rfl ?_
  refine j_ifnullR X 20 dX10_told_7 (by decide) ?_
  refine j_iload_n X dX10_told_10 rfl ?_
  refine j_iconst X dX10_told_11 0 (by decide) ?_
  refine j_bipush X dX10_told_12 15 (by decide) ?_
  refine s_callSi X hR (c_withinI np _ _ _ _ (0) (15) rfl rfl) rfl u293 u294 u292 u1 hyX10_within (by decide) (by decide) (Nat.le_of_ble_eq_true rfl) dX10_told_14 (fun v_14 m_14 h_14 => ?_)
  obtain ⟨e1, e2⟩ := h_14; have e1 := e1.symm; have e2 := e2.symm; subst e1; subst e2
  refine j_ifb_ne X 23 dX10_told_17 (by decide) (fun c_17 => ?_) (fun c_17 => ?_)
  · refine j_iload_n X dX10_told_23 rfl ?_
    refine j_iconst X dX10_told_24 4 (by decide) ?_
    refine j_icmp_ge X 35 dX10_told_25 (by decide) (fun c_25 => absurd c_25 (by decide)) (fun c_25 => ?_)
    refine j_aload_n X dX10_told_28 rfl ?_
    refine j_getR X 6 6 (by decide) (by decide) rfl u408 (oP np (by omega)) (kP np _) _ (pP_f np _) dX10_told_29 ?_
    refine j_iload_n X dX10_told_32 rfl ?_
    refine j_nrm _ (by first | (simp only [fa_lit, pk_mul, nI_add]; done) | (simp only [fa_lit, pk_mul, nI_add]; rfl) | rfl) ?_
    refine j_ialdN X (oPf np (by omega)) (kPf np _) (by rw [lPf]; omega) (by rw [lPf]; decide) (mem (93 + 2 * p)) rfl dX10_told_33 ?_
    refine s_iret X hE hr dX10_told_34 rfl ?_
    first | exact ⟨rfl, rfl⟩ | (exfalso; clear hE hr hR X; (try simp only [lg_cmp_lt, lg_cmp_gt, lg_cmp_le, lg_cmp_ge] at *); (try simp (disch := omega) only [Int64.le_iff_toInt_le, Int64.lt_iff_toInt_lt, Int32.le_iff_toInt_le, Int32.lt_iff_toInt_lt, fa_eq, fa_lit, fa_litL, nI_toInt, pk_lT, Int32.toInt_toInt64, jadd64, jin, jnoneT] at *); omega)
  · exfalso
    clear hE hr hR X
    (try simp only [lg_cmp_lt, lg_cmp_gt, lg_cmp_le, lg_cmp_ge] at *); (try simp (disch := omega) only [Int64.le_iff_toInt_le, Int64.lt_iff_toInt_lt, Int32.le_iff_toInt_le, Int32.lt_iff_toInt_lt, fa_eq, fa_lit, fa_litL, nI_toInt, pk_lT, Int32.toInt_toInt64, jadd64, jin, jnoneT] at *); omega
set_option maxRecDepth 4000 in
set_option maxHeartbeats 1000000 in
theorem c_told2 (np : Nat) (mem : jMem) (p : Nat) (hn : np ≤ 12) (hp : mem 0 12 = nI np) (hp2 : p < np) (hN : mem (92 + 2 * p) 0 = nI p) : jPi yX10_told cX10_told 4 .int 5 [.ref 0, .int (nI p), .int 2] np mem (fun v c => v = mem (93 + 2 * p) 2 ∧ c = mem) := by
  refine jPi.of (own := RX10) rfl rfl (Nat.le_of_ble_eq_true rfl) (fun G X hR hr hE => ?_)
  refine j_aload_n X dX10_told_0 rfl ?_
  refine j_iload_n X dX10_told_1 rfl ?_
  refine s_callVa X hR (c_paperAt np _ p hn hp hp2) rfl 10 (by decide) (o0 np) (k0 np) rfl u435 u432 u434 qp2 u1 hyX10_paperAt (by decide) (by decide) (Nat.le_of_ble_eq_true rfl) dX10_told_2 (fun v_2 m_2 h_2 => ?_)
  obtain ⟨e1, e2⟩ := h_2; have e1 := e1.symm; have e2 := e2.symm; subst e1; subst e2
  refine j_astore_n X dX10_told_5 (by decide) ?_
  refine j_aload_n X dX10_told_6 rfl ?_
  refine j_ifnullR X 20 dX10_told_7 (by decide) ?_
  refine j_iload_n X dX10_told_10 rfl ?_
  refine j_iconst X dX10_told_11 0 (by decide) ?_
  refine j_bipush X dX10_told_12 15 (by decide) ?_
  refine s_callSi X hR (c_withinI np _ _ _ _ (0) (15) rfl rfl) rfl u293 u294 u292 u1 hyX10_within (by decide) (by decide) (Nat.le_of_ble_eq_true rfl) dX10_told_14 (fun v_14 m_14 h_14 => ?_)
  obtain ⟨e1, e2⟩ := h_14; have e1 := e1.symm; have e2 := e2.symm; subst e1; subst e2
  refine j_ifb_ne X 23 dX10_told_17 (by decide) (fun c_17 => ?_) (fun c_17 => ?_)
  · refine j_iload_n X dX10_told_23 rfl ?_
    refine j_iconst X dX10_told_24 4 (by decide) ?_
    refine j_icmp_ge X 35 dX10_told_25 (by decide) (fun c_25 => absurd c_25 (by decide)) (fun c_25 => ?_)
    refine j_aload_n X dX10_told_28 rfl ?_
    refine j_getR X 6 6 (by decide) (by decide) rfl u408 (oP np (by omega)) (kP np _) _ (pP_f np _) dX10_told_29 ?_
    refine j_iload_n X dX10_told_32 rfl ?_
    refine j_nrm _ (by first | (simp only [fa_lit, pk_mul, nI_add]; done) | (simp only [fa_lit, pk_mul, nI_add]; rfl) | rfl) ?_
    refine j_ialdN X (oPf np (by omega)) (kPf np _) (by rw [lPf]; omega) (by rw [lPf]; decide) (mem (93 + 2 * p)) rfl dX10_told_33 ?_
    refine s_iret X hE hr dX10_told_34 rfl ?_
    first | exact ⟨rfl, rfl⟩ | (exfalso; clear hE hr hR X; (try simp only [lg_cmp_lt, lg_cmp_gt, lg_cmp_le, lg_cmp_ge] at *); (try simp (disch := omega) only [Int64.le_iff_toInt_le, Int64.lt_iff_toInt_lt, Int32.le_iff_toInt_le, Int32.lt_iff_toInt_lt, fa_eq, fa_lit, fa_litL, nI_toInt, pk_lT, Int32.toInt_toInt64, jadd64, jin, jnoneT] at *); omega)
  · exfalso
    clear hE hr hR X
    (try simp only [lg_cmp_lt, lg_cmp_gt, lg_cmp_le, lg_cmp_ge] at *); (try simp (disch := omega) only [Int64.le_iff_toInt_le, Int64.lt_iff_toInt_lt, Int32.le_iff_toInt_le, Int32.lt_iff_toInt_lt, fa_eq, fa_lit, fa_litL, nI_toInt, pk_lT, Int32.toInt_toInt64, jadd64, jin, jnoneT] at *); omega
set_option maxRecDepth 4000 in
set_option maxHeartbeats 1000000 in
theorem c_told3 (np : Nat) (mem : jMem) (p : Nat) (hn : np ≤ 12) (hp : mem 0 12 = nI np) (hp2 : p < np) (hN : mem (92 + 2 * p) 0 = nI p) : jPi yX10_told cX10_told 4 .int 5 [.ref 0, .int (nI p), .int 3] np mem (fun v c => v = mem (93 + 2 * p) 3 ∧ c = mem) := by
  refine jPi.of (own := RX10) rfl rfl (Nat.le_of_ble_eq_true rfl) (fun G X hR hr hE => ?_)
  refine j_aload_n X dX10_told_0 rfl ?_
  refine j_iload_n X dX10_told_1 rfl ?_
  refine s_callVa X hR (c_paperAt np _ p hn hp hp2) rfl 10 (by decide) (o0 np) (k0 np) rfl u435 u432 u434 qp2 u1 hyX10_paperAt (by decide) (by decide) (Nat.le_of_ble_eq_true rfl) dX10_told_2 (fun v_2 m_2 h_2 => ?_)
  obtain ⟨e1, e2⟩ := h_2; have e1 := e1.symm; have e2 := e2.symm; subst e1; subst e2
  refine j_astore_n X dX10_told_5 (by decide) ?_
  refine j_aload_n X dX10_told_6 rfl ?_
  refine j_ifnullR X 20 dX10_told_7 (by decide) ?_
  refine j_iload_n X dX10_told_10 rfl ?_
  refine j_iconst X dX10_told_11 0 (by decide) ?_
  refine j_bipush X dX10_told_12 15 (by decide) ?_
  refine s_callSi X hR (c_withinI np _ _ _ _ (0) (15) rfl rfl) rfl u293 u294 u292 u1 hyX10_within (by decide) (by decide) (Nat.le_of_ble_eq_true rfl) dX10_told_14 (fun v_14 m_14 h_14 => ?_)
  obtain ⟨e1, e2⟩ := h_14; have e1 := e1.symm; have e2 := e2.symm; subst e1; subst e2
  refine j_ifb_ne X 23 dX10_told_17 (by decide) (fun c_17 => ?_) (fun c_17 => ?_)
  · refine j_iload_n X dX10_told_23 rfl ?_
    refine j_iconst X dX10_told_24 4 (by decide) ?_
    refine j_icmp_ge X 35 dX10_told_25 (by decide) (fun c_25 => absurd c_25 (by decide)) (fun c_25 => ?_)
    refine j_aload_n X dX10_told_28 rfl ?_
    refine j_getR X 6 6 (by decide) (by decide) rfl u408 (oP np (by omega)) (kP np _) _ (pP_f np _) dX10_told_29 ?_
    refine j_iload_n X dX10_told_32 rfl ?_
    refine j_nrm _ (by first | (simp only [fa_lit, pk_mul, nI_add]; done) | (simp only [fa_lit, pk_mul, nI_add]; rfl) | rfl) ?_
    refine j_ialdN X (oPf np (by omega)) (kPf np _) (by rw [lPf]; omega) (by rw [lPf]; decide) (mem (93 + 2 * p)) rfl dX10_told_33 ?_
    refine s_iret X hE hr dX10_told_34 rfl ?_
    first | exact ⟨rfl, rfl⟩ | (exfalso; clear hE hr hR X; (try simp only [lg_cmp_lt, lg_cmp_gt, lg_cmp_le, lg_cmp_ge] at *); (try simp (disch := omega) only [Int64.le_iff_toInt_le, Int64.lt_iff_toInt_lt, Int32.le_iff_toInt_le, Int32.lt_iff_toInt_lt, fa_eq, fa_lit, fa_litL, nI_toInt, pk_lT, Int32.toInt_toInt64, jadd64, jin, jnoneT] at *); omega)
  · exfalso
    clear hE hr hR X
    (try simp only [lg_cmp_lt, lg_cmp_gt, lg_cmp_le, lg_cmp_ge] at *); (try simp (disch := omega) only [Int64.le_iff_toInt_le, Int64.lt_iff_toInt_lt, Int32.le_iff_toInt_le, Int32.lt_iff_toInt_lt, fa_eq, fa_lit, fa_litL, nI_toInt, pk_lT, Int32.toInt_toInt64, jadd64, jin, jnoneT] at *); omega
set_option maxRecDepth 4000 in
set_option maxHeartbeats 1000000 in
theorem c_told4 (np : Nat) (mem : jMem) (p : Nat) (hn : np ≤ 12) (hp : mem 0 12 = nI np) (hp2 : p < np) (hN : mem (92 + 2 * p) 0 = nI p) : jPi yX10_told cX10_told 4 .int 5 [.ref 0, .int (nI p), .int 4] np mem (fun v c => v = (jJoin (jLeaf (nI p) 0 (mem (93 + 2 * p) 0)) (jLeaf (nI p) 1 (mem (93 + 2 * p) 1))) ∧ c = mem) := by
  refine jPi.of (own := RX10) rfl rfl (Nat.le_of_ble_eq_true rfl) (fun G X hR hr hE => ?_)
  refine j_aload_n X dX10_told_0 rfl ?_
  refine j_iload_n X dX10_told_1 rfl ?_
  refine s_callVa X hR (c_paperAt np _ p hn hp hp2) rfl 10 (by decide) (o0 np) (k0 np) rfl u435 u432 u434 qp2 u1 hyX10_paperAt (by decide) (by decide) (Nat.le_of_ble_eq_true rfl) dX10_told_2 (fun v_2 m_2 h_2 => ?_)
  obtain ⟨e1, e2⟩ := h_2; have e1 := e1.symm; have e2 := e2.symm; subst e1; subst e2
  refine j_astore_n X dX10_told_5 (by decide) ?_
  refine j_aload_n X dX10_told_6 rfl ?_
  refine j_ifnullR X 20 dX10_told_7 (by decide) ?_
  refine j_iload_n X dX10_told_10 rfl ?_
  refine j_iconst X dX10_told_11 0 (by decide) ?_
  refine j_bipush X dX10_told_12 15 (by decide) ?_
  refine s_callSi X hR (c_withinI np _ _ _ _ (0) (15) rfl rfl) rfl u293 u294 u292 u1 hyX10_within (by decide) (by decide) (Nat.le_of_ble_eq_true rfl) dX10_told_14 (fun v_14 m_14 h_14 => ?_)
  obtain ⟨e1, e2⟩ := h_14; have e1 := e1.symm; have e2 := e2.symm; subst e1; subst e2
  refine j_ifb_ne X 23 dX10_told_17 (by decide) (fun c_17 => ?_) (fun c_17 => ?_)
  · refine j_iload_n X dX10_told_23 rfl ?_
    refine j_iconst X dX10_told_24 4 (by decide) ?_
    refine j_icmp_ge X 35 dX10_told_25 (by decide) (fun c_25 => ?_) (fun c_25 => absurd c_25 (by decide))
    refine j_iload_n X dX10_told_35 rfl ?_
    refine j_bipush X dX10_told_36 12 (by decide) ?_
    refine j_icmp_lt X 50 dX10_told_38 (by decide) (fun c_38 => ?_) (fun c_38 => absurd c_38 (by decide))
    refine j_iload_n X dX10_told_50 rfl ?_
    refine j_tabIn X (off := 41) 92 dX10_told_51 (by decide) (by decide) (by decide) (by decide) ?_
    refine j_aload_n X dX10_told_92 rfl ?_
    refine j_iconst X dX10_told_93 0 (by decide) ?_
    refine s_callVi X hR (c_half0 np _ p _ hp2 hN rfl) rfl 6 (by decide) (oP np (by omega)) (kP np _) rfl u452 u449 u450 u451 u14 hyX6_half (by decide) (by decide) (Nat.le_of_ble_eq_true rfl) dX10_told_94 (fun v_94 m_94 h_94 => ?_)
    obtain ⟨e1, e2⟩ := h_94; have e1 := e1.symm; have e2 := e2.symm; subst e1; subst e2
    refine s_iret X hE hr dX10_told_97 rfl ?_
    first | exact ⟨rfl, rfl⟩ | (exfalso; clear hE hr hR X; (try simp only [lg_cmp_lt, lg_cmp_gt, lg_cmp_le, lg_cmp_ge] at *); (try simp (disch := omega) only [Int64.le_iff_toInt_le, Int64.lt_iff_toInt_lt, Int32.le_iff_toInt_le, Int32.lt_iff_toInt_lt, fa_eq, fa_lit, fa_litL, nI_toInt, pk_lT, Int32.toInt_toInt64, jadd64, jin, jnoneT] at *); omega)
  · exfalso
    clear hE hr hR X
    (try simp only [lg_cmp_lt, lg_cmp_gt, lg_cmp_le, lg_cmp_ge] at *); (try simp (disch := omega) only [Int64.le_iff_toInt_le, Int64.lt_iff_toInt_lt, Int32.le_iff_toInt_le, Int32.lt_iff_toInt_lt, fa_eq, fa_lit, fa_litL, nI_toInt, pk_lT, Int32.toInt_toInt64, jadd64, jin, jnoneT] at *); omega
set_option maxRecDepth 4000 in
set_option maxHeartbeats 1000000 in
theorem c_told5 (np : Nat) (mem : jMem) (p : Nat) (hn : np ≤ 12) (hp : mem 0 12 = nI np) (hp2 : p < np) (hN : mem (92 + 2 * p) 0 = nI p) : jPi yX10_told cX10_told 4 .int 5 [.ref 0, .int (nI p), .int 5] np mem (fun v c => v = (jJoin (jLeaf (nI p) 2 (mem (93 + 2 * p) 2)) (jLeaf (nI p) 3 (mem (93 + 2 * p) 3))) ∧ c = mem) := by
  refine jPi.of (own := RX10) rfl rfl (Nat.le_of_ble_eq_true rfl) (fun G X hR hr hE => ?_)
  refine j_aload_n X dX10_told_0 rfl ?_
  refine j_iload_n X dX10_told_1 rfl ?_
  refine s_callVa X hR (c_paperAt np _ p hn hp hp2) rfl 10 (by decide) (o0 np) (k0 np) rfl u435 u432 u434 qp2 u1 hyX10_paperAt (by decide) (by decide) (Nat.le_of_ble_eq_true rfl) dX10_told_2 (fun v_2 m_2 h_2 => ?_)
  obtain ⟨e1, e2⟩ := h_2; have e1 := e1.symm; have e2 := e2.symm; subst e1; subst e2
  refine j_astore_n X dX10_told_5 (by decide) ?_
  refine j_aload_n X dX10_told_6 rfl ?_
  refine j_ifnullR X 20 dX10_told_7 (by decide) ?_
  refine j_iload_n X dX10_told_10 rfl ?_
  refine j_iconst X dX10_told_11 0 (by decide) ?_
  refine j_bipush X dX10_told_12 15 (by decide) ?_
  refine s_callSi X hR (c_withinI np _ _ _ _ (0) (15) rfl rfl) rfl u293 u294 u292 u1 hyX10_within (by decide) (by decide) (Nat.le_of_ble_eq_true rfl) dX10_told_14 (fun v_14 m_14 h_14 => ?_)
  obtain ⟨e1, e2⟩ := h_14; have e1 := e1.symm; have e2 := e2.symm; subst e1; subst e2
  refine j_ifb_ne X 23 dX10_told_17 (by decide) (fun c_17 => ?_) (fun c_17 => ?_)
  · refine j_iload_n X dX10_told_23 rfl ?_
    refine j_iconst X dX10_told_24 4 (by decide) ?_
    refine j_icmp_ge X 35 dX10_told_25 (by decide) (fun c_25 => ?_) (fun c_25 => absurd c_25 (by decide))
    refine j_iload_n X dX10_told_35 rfl ?_
    refine j_bipush X dX10_told_36 12 (by decide) ?_
    refine j_icmp_lt X 50 dX10_told_38 (by decide) (fun c_38 => ?_) (fun c_38 => absurd c_38 (by decide))
    refine j_iload_n X dX10_told_50 rfl ?_
    refine j_tabIn X (off := 47) 98 dX10_told_51 (by decide) (by decide) (by decide) (by decide) ?_
    refine j_aload_n X dX10_told_98 rfl ?_
    refine j_iconst X dX10_told_99 1 (by decide) ?_
    refine s_callVi X hR (c_half1 np _ p _ hp2 hN rfl) rfl 6 (by decide) (oP np (by omega)) (kP np _) rfl u452 u449 u450 u451 u14 hyX6_half (by decide) (by decide) (Nat.le_of_ble_eq_true rfl) dX10_told_100 (fun v_100 m_100 h_100 => ?_)
    obtain ⟨e1, e2⟩ := h_100; have e1 := e1.symm; have e2 := e2.symm; subst e1; subst e2
    refine s_iret X hE hr dX10_told_103 rfl ?_
    first | exact ⟨rfl, rfl⟩ | (exfalso; clear hE hr hR X; (try simp only [lg_cmp_lt, lg_cmp_gt, lg_cmp_le, lg_cmp_ge] at *); (try simp (disch := omega) only [Int64.le_iff_toInt_le, Int64.lt_iff_toInt_lt, Int32.le_iff_toInt_le, Int32.lt_iff_toInt_lt, fa_eq, fa_lit, fa_litL, nI_toInt, pk_lT, Int32.toInt_toInt64, jadd64, jin, jnoneT] at *); omega)
  · exfalso
    clear hE hr hR X
    (try simp only [lg_cmp_lt, lg_cmp_gt, lg_cmp_le, lg_cmp_ge] at *); (try simp (disch := omega) only [Int64.le_iff_toInt_le, Int64.lt_iff_toInt_lt, Int32.le_iff_toInt_le, Int32.lt_iff_toInt_lt, fa_eq, fa_lit, fa_litL, nI_toInt, pk_lT, Int32.toInt_toInt64, jadd64, jin, jnoneT] at *); omega
set_option maxRecDepth 4000 in
set_option maxHeartbeats 1000000 in
theorem c_told6 (np : Nat) (mem : jMem) (p : Nat) (hn : np ≤ 12) (hp : mem 0 12 = nI np) (hp2 : p < np) (hN : mem (92 + 2 * p) 0 = nI p) : jPi yX10_told cX10_told 4 .int 5 [.ref 0, .int (nI p), .int 6] np mem (fun v c => v = jRootC (mem (93 + 2 * p)) p ∧ c = mem) := by
  refine jPi.of (own := RX10) rfl rfl (Nat.le_of_ble_eq_true rfl) (fun G X hR hr hE => ?_)
  refine j_aload_n X dX10_told_0 rfl ?_
  refine j_iload_n X dX10_told_1 rfl ?_
  refine s_callVa X hR (c_paperAt np _ p hn hp hp2) rfl 10 (by decide) (o0 np) (k0 np) rfl u435 u432 u434 qp2 u1 hyX10_paperAt (by decide) (by decide) (Nat.le_of_ble_eq_true rfl) dX10_told_2 (fun v_2 m_2 h_2 => ?_)
  obtain ⟨e1, e2⟩ := h_2; have e1 := e1.symm; have e2 := e2.symm; subst e1; subst e2
  refine j_astore_n X dX10_told_5 (by decide) ?_
  refine j_aload_n X dX10_told_6 rfl ?_
  refine j_ifnullR X 20 dX10_told_7 (by decide) ?_
  refine j_iload_n X dX10_told_10 rfl ?_
  refine j_iconst X dX10_told_11 0 (by decide) ?_
  refine j_bipush X dX10_told_12 15 (by decide) ?_
  refine s_callSi X hR (c_withinI np _ _ _ _ (0) (15) rfl rfl) rfl u293 u294 u292 u1 hyX10_within (by decide) (by decide) (Nat.le_of_ble_eq_true rfl) dX10_told_14 (fun v_14 m_14 h_14 => ?_)
  obtain ⟨e1, e2⟩ := h_14; have e1 := e1.symm; have e2 := e2.symm; subst e1; subst e2
  refine j_ifb_ne X 23 dX10_told_17 (by decide) (fun c_17 => ?_) (fun c_17 => ?_)
  · refine j_iload_n X dX10_told_23 rfl ?_
    refine j_iconst X dX10_told_24 4 (by decide) ?_
    refine j_icmp_ge X 35 dX10_told_25 (by decide) (fun c_25 => ?_) (fun c_25 => absurd c_25 (by decide))
    refine j_iload_n X dX10_told_35 rfl ?_
    refine j_bipush X dX10_told_36 12 (by decide) ?_
    refine j_icmp_lt X 50 dX10_told_38 (by decide) (fun c_38 => ?_) (fun c_38 => absurd c_38 (by decide))
    refine j_iload_n X dX10_told_50 rfl ?_
    refine j_tabIn X (off := 53) 104 dX10_told_51 (by decide) (by decide) (by decide) (by decide) ?_
    refine j_aload_n X dX10_told_104 rfl ?_
    refine s_callVi X hR (c_root np _ p _ hp2 hN rfl) rfl 6 (by decide) (oP np (by omega)) (kP np _) rfl u469 u466 u467 u468 u14 hyX6_root (by decide) (by decide) (Nat.le_of_ble_eq_true rfl) dX10_told_105 (fun v_105 m_105 h_105 => ?_)
    obtain ⟨e1, e2⟩ := h_105; have e1 := e1.symm; have e2 := e2.symm; subst e1; subst e2
    refine s_iret X hE hr dX10_told_108 rfl ?_
    first | exact ⟨rfl, rfl⟩ | (exfalso; clear hE hr hR X; (try simp only [lg_cmp_lt, lg_cmp_gt, lg_cmp_le, lg_cmp_ge] at *); (try simp (disch := omega) only [Int64.le_iff_toInt_le, Int64.lt_iff_toInt_lt, Int32.le_iff_toInt_le, Int32.lt_iff_toInt_lt, fa_eq, fa_lit, fa_litL, nI_toInt, pk_lT, Int32.toInt_toInt64, jadd64, jin, jnoneT] at *); omega)
  · exfalso
    clear hE hr hR X
    (try simp only [lg_cmp_lt, lg_cmp_gt, lg_cmp_le, lg_cmp_ge] at *); (try simp (disch := omega) only [Int64.le_iff_toInt_le, Int64.lt_iff_toInt_lt, Int32.le_iff_toInt_le, Int32.lt_iff_toInt_lt, fa_eq, fa_lit, fa_litL, nI_toInt, pk_lT, Int32.toInt_toInt64, jadd64, jin, jnoneT] at *); omega
set_option maxRecDepth 4000 in
set_option maxHeartbeats 1000000 in
theorem c_told7 (np : Nat) (mem : jMem) (p : Nat) (hn : np ≤ 12) (hp : mem 0 12 = nI np) (hp2 : p < np) (hN : mem (92 + 2 * p) 0 = nI p) (o q : Nat) (ho : o < 4) (hpo : mem (92 + 2 * p) 1 = nI o) (hq : q ≤ 6) (hc : mem 24 o = nI q) (hd2 : ∀ j, j < q → 0 ≤ (mem (15 + o) j).toInt) : jPi yX10_told cX10_told 4 .int 5 [.ref 0, .int (nI p), .int 7] np mem (fun v c => v = jSeal (jRootC (mem (93 + 2 * p)) p) (jKey (mem (15 + o)) (mem (20 + o)) q (nI o) (mem (92 + 2 * p) 4)) ∧ c = mem) := by
  refine jPi.of (own := RX10) rfl rfl (Nat.le_of_ble_eq_true rfl) (fun G X hR hr hE => ?_)
  refine j_aload_n X dX10_told_0 rfl ?_
  refine j_iload_n X dX10_told_1 rfl ?_
  refine s_callVa X hR (c_paperAt np _ p hn hp hp2) rfl 10 (by decide) (o0 np) (k0 np) rfl u435 u432 u434 qp2 u1 hyX10_paperAt (by decide) (by decide) (Nat.le_of_ble_eq_true rfl) dX10_told_2 (fun v_2 m_2 h_2 => ?_)
  obtain ⟨e1, e2⟩ := h_2; have e1 := e1.symm; have e2 := e2.symm; subst e1; subst e2
  refine j_astore_n X dX10_told_5 (by decide) ?_
  refine j_aload_n X dX10_told_6 rfl ?_
  refine j_ifnullR X 20 dX10_told_7 (by decide) ?_
  refine j_iload_n X dX10_told_10 rfl ?_
  refine j_iconst X dX10_told_11 0 (by decide) ?_
  refine j_bipush X dX10_told_12 15 (by decide) ?_
  refine s_callSi X hR (c_withinI np _ _ _ _ (0) (15) rfl rfl) rfl u293 u294 u292 u1 hyX10_within (by decide) (by decide) (Nat.le_of_ble_eq_true rfl) dX10_told_14 (fun v_14 m_14 h_14 => ?_)
  obtain ⟨e1, e2⟩ := h_14; have e1 := e1.symm; have e2 := e2.symm; subst e1; subst e2
  refine j_ifb_ne X 23 dX10_told_17 (by decide) (fun c_17 => ?_) (fun c_17 => ?_)
  · refine j_iload_n X dX10_told_23 rfl ?_
    refine j_iconst X dX10_told_24 4 (by decide) ?_
    refine j_icmp_ge X 35 dX10_told_25 (by decide) (fun c_25 => ?_) (fun c_25 => absurd c_25 (by decide))
    refine j_iload_n X dX10_told_35 rfl ?_
    refine j_bipush X dX10_told_36 12 (by decide) ?_
    refine j_icmp_lt X 50 dX10_told_38 (by decide) (fun c_38 => ?_) (fun c_38 => absurd c_38 (by decide))
    refine j_iload_n X dX10_told_50 rfl ?_
    refine j_tabIn X (off := 58) 109 dX10_told_51 (by decide) (by decide) (by decide) (by decide) ?_
    refine j_aload_n X dX10_told_109 rfl ?_
    refine s_callVi X hR (c_root np _ p _ hp2 hN rfl) rfl 6 (by decide) (oP np (by omega)) (kP np _) rfl u469 u466 u467 u468 u14 hyX6_root (by decide) (by decide) (Nat.le_of_ble_eq_true rfl) dX10_told_110 (fun v_110 m_110 h_110 => ?_)
    obtain ⟨e1, e2⟩ := h_110; have e1 := e1.symm; have e2 := e2.symm; subst e1; subst e2
    refine j_aload_n X dX10_told_113 rfl ?_
    refine j_aload_n X dX10_told_114 rfl ?_
    refine s_callVi X hR (c_keyOf np _ p hp2 o q ho hpo hq hc hd2) rfl 10 (by decide) (o0 np) (k0 np) rfl u474 u471 u473 qp3 u1 hyX10_keyOf (by decide) (by decide) (Nat.le_of_ble_eq_true rfl) dX10_told_115 (fun v_115 m_115 h_115 => ?_)
    obtain ⟨e1, e2⟩ := h_115; have e1 := e1.symm; have e2 := e2.symm; subst e1; subst e2
    refine s_callSi X hR (c_seal np _ _ _) rfl u477 u475 u476 u1 hyX10_seal (by decide) (by decide) (Nat.le_of_ble_eq_true rfl) dX10_told_118 (fun v_118 m_118 h_118 => ?_)
    obtain ⟨e1, e2⟩ := h_118; have e1 := e1.symm; have e2 := e2.symm; subst e1; subst e2
    refine s_iret X hE hr dX10_told_121 rfl ?_
    first | exact ⟨rfl, rfl⟩ | (exfalso; clear hE hr hR X; (try simp only [lg_cmp_lt, lg_cmp_gt, lg_cmp_le, lg_cmp_ge] at *); (try simp (disch := omega) only [Int64.le_iff_toInt_le, Int64.lt_iff_toInt_lt, Int32.le_iff_toInt_le, Int32.lt_iff_toInt_lt, fa_eq, fa_lit, fa_litL, nI_toInt, pk_lT, Int32.toInt_toInt64, jadd64, jin, jnoneT] at *); omega)
  · exfalso
    clear hE hr hR X
    (try simp only [lg_cmp_lt, lg_cmp_gt, lg_cmp_le, lg_cmp_ge] at *); (try simp (disch := omega) only [Int64.le_iff_toInt_le, Int64.lt_iff_toInt_lt, Int32.le_iff_toInt_le, Int32.lt_iff_toInt_lt, fa_eq, fa_lit, fa_litL, nI_toInt, pk_lT, Int32.toInt_toInt64, jadd64, jin, jnoneT] at *); omega
set_option maxRecDepth 4000 in
set_option maxHeartbeats 1000000 in
theorem c_told8 (np : Nat) (mem : jMem) (p : Nat) (hn : np ≤ 12) (hp : mem 0 12 = nI np) (hp2 : p < np) (hN : mem (92 + 2 * p) 0 = nI p) : jPi yX10_told cX10_told 4 .int 5 [.ref 0, .int (nI p), .int 8] np mem (fun v c => v = mem (92 + 2 * p) 1 ∧ c = mem) := by
  refine jPi.of (own := RX10) rfl rfl (Nat.le_of_ble_eq_true rfl) (fun G X hR hr hE => ?_)
  refine j_aload_n X dX10_told_0 rfl ?_
  refine j_iload_n X dX10_told_1 rfl ?_
  refine s_callVa X hR (c_paperAt np _ p hn hp hp2) rfl 10 (by decide) (o0 np) (k0 np) rfl u435 u432 u434 qp2 u1 hyX10_paperAt (by decide) (by decide) (Nat.le_of_ble_eq_true rfl) dX10_told_2 (fun v_2 m_2 h_2 => ?_)
  obtain ⟨e1, e2⟩ := h_2; have e1 := e1.symm; have e2 := e2.symm; subst e1; subst e2
  refine j_astore_n X dX10_told_5 (by decide) ?_
  refine j_aload_n X dX10_told_6 rfl ?_
  refine j_ifnullR X 20 dX10_told_7 (by decide) ?_
  refine j_iload_n X dX10_told_10 rfl ?_
  refine j_iconst X dX10_told_11 0 (by decide) ?_
  refine j_bipush X dX10_told_12 15 (by decide) ?_
  refine s_callSi X hR (c_withinI np _ _ _ _ (0) (15) rfl rfl) rfl u293 u294 u292 u1 hyX10_within (by decide) (by decide) (Nat.le_of_ble_eq_true rfl) dX10_told_14 (fun v_14 m_14 h_14 => ?_)
  obtain ⟨e1, e2⟩ := h_14; have e1 := e1.symm; have e2 := e2.symm; subst e1; subst e2
  refine j_ifb_ne X 23 dX10_told_17 (by decide) (fun c_17 => ?_) (fun c_17 => ?_)
  · refine j_iload_n X dX10_told_23 rfl ?_
    refine j_iconst X dX10_told_24 4 (by decide) ?_
    refine j_icmp_ge X 35 dX10_told_25 (by decide) (fun c_25 => ?_) (fun c_25 => absurd c_25 (by decide))
    refine j_iload_n X dX10_told_35 rfl ?_
    refine j_bipush X dX10_told_36 12 (by decide) ?_
    refine j_icmp_lt X 50 dX10_told_38 (by decide) (fun c_38 => ?_) (fun c_38 => absurd c_38 (by decide))
    refine j_iload_n X dX10_told_50 rfl ?_
    refine j_tabIn X (off := 71) 122 dX10_told_51 (by decide) (by decide) (by decide) (by decide) ?_
    refine j_aload_n X dX10_told_122 rfl ?_
    refine j_getF X 6 1 (by decide) (by decide) rfl u395 (oP np (by omega)) (kP np _) (mem (92 + 2 * p)) rfl dX10_told_123 ?_
    refine s_iret X hE hr dX10_told_126 rfl ?_
    first | exact ⟨rfl, rfl⟩ | (exfalso; clear hE hr hR X; (try simp only [lg_cmp_lt, lg_cmp_gt, lg_cmp_le, lg_cmp_ge] at *); (try simp (disch := omega) only [Int64.le_iff_toInt_le, Int64.lt_iff_toInt_lt, Int32.le_iff_toInt_le, Int32.lt_iff_toInt_lt, fa_eq, fa_lit, fa_litL, nI_toInt, pk_lT, Int32.toInt_toInt64, jadd64, jin, jnoneT] at *); omega)
  · exfalso
    clear hE hr hR X
    (try simp only [lg_cmp_lt, lg_cmp_gt, lg_cmp_le, lg_cmp_ge] at *); (try simp (disch := omega) only [Int64.le_iff_toInt_le, Int64.lt_iff_toInt_lt, Int32.le_iff_toInt_le, Int32.lt_iff_toInt_lt, fa_eq, fa_lit, fa_litL, nI_toInt, pk_lT, Int32.toInt_toInt64, jadd64, jin, jnoneT] at *); omega
set_option maxRecDepth 4000 in
set_option maxHeartbeats 1000000 in
theorem c_told9 (np : Nat) (mem : jMem) (p : Nat) (hn : np ≤ 12) (hp : mem 0 12 = nI np) (hp2 : p < np) (hN : mem (92 + 2 * p) 0 = nI p) : jPi yX10_told cX10_told 4 .int 5 [.ref 0, .int (nI p), .int 9] np mem (fun v c => v = mem (92 + 2 * p) 2 ∧ c = mem) := by
  refine jPi.of (own := RX10) rfl rfl (Nat.le_of_ble_eq_true rfl) (fun G X hR hr hE => ?_)
  refine j_aload_n X dX10_told_0 rfl ?_
  refine j_iload_n X dX10_told_1 rfl ?_
  refine s_callVa X hR (c_paperAt np _ p hn hp hp2) rfl 10 (by decide) (o0 np) (k0 np) rfl u435 u432 u434 qp2 u1 hyX10_paperAt (by decide) (by decide) (Nat.le_of_ble_eq_true rfl) dX10_told_2 (fun v_2 m_2 h_2 => ?_)
  obtain ⟨e1, e2⟩ := h_2; have e1 := e1.symm; have e2 := e2.symm; subst e1; subst e2
  refine j_astore_n X dX10_told_5 (by decide) ?_
  refine j_aload_n X dX10_told_6 rfl ?_
  refine j_ifnullR X 20 dX10_told_7 (by decide) ?_
  refine j_iload_n X dX10_told_10 rfl ?_
  refine j_iconst X dX10_told_11 0 (by decide) ?_
  refine j_bipush X dX10_told_12 15 (by decide) ?_
  refine s_callSi X hR (c_withinI np _ _ _ _ (0) (15) rfl rfl) rfl u293 u294 u292 u1 hyX10_within (by decide) (by decide) (Nat.le_of_ble_eq_true rfl) dX10_told_14 (fun v_14 m_14 h_14 => ?_)
  obtain ⟨e1, e2⟩ := h_14; have e1 := e1.symm; have e2 := e2.symm; subst e1; subst e2
  refine j_ifb_ne X 23 dX10_told_17 (by decide) (fun c_17 => ?_) (fun c_17 => ?_)
  · refine j_iload_n X dX10_told_23 rfl ?_
    refine j_iconst X dX10_told_24 4 (by decide) ?_
    refine j_icmp_ge X 35 dX10_told_25 (by decide) (fun c_25 => ?_) (fun c_25 => absurd c_25 (by decide))
    refine j_iload_n X dX10_told_35 rfl ?_
    refine j_bipush X dX10_told_36 12 (by decide) ?_
    refine j_icmp_lt X 50 dX10_told_38 (by decide) (fun c_38 => ?_) (fun c_38 => absurd c_38 (by decide))
    refine j_iload_n X dX10_told_50 rfl ?_
    refine j_tabIn X (off := 76) 127 dX10_told_51 (by decide) (by decide) (by decide) (by decide) ?_
    refine j_aload_n X dX10_told_127 rfl ?_
    refine j_getF X 6 2 (by decide) (by decide) rfl u397 (oP np (by omega)) (kP np _) (mem (92 + 2 * p)) rfl dX10_told_128 ?_
    refine s_iret X hE hr dX10_told_131 rfl ?_
    first | exact ⟨rfl, rfl⟩ | (exfalso; clear hE hr hR X; (try simp only [lg_cmp_lt, lg_cmp_gt, lg_cmp_le, lg_cmp_ge] at *); (try simp (disch := omega) only [Int64.le_iff_toInt_le, Int64.lt_iff_toInt_lt, Int32.le_iff_toInt_le, Int32.lt_iff_toInt_lt, fa_eq, fa_lit, fa_litL, nI_toInt, pk_lT, Int32.toInt_toInt64, jadd64, jin, jnoneT] at *); omega)
  · exfalso
    clear hE hr hR X
    (try simp only [lg_cmp_lt, lg_cmp_gt, lg_cmp_le, lg_cmp_ge] at *); (try simp (disch := omega) only [Int64.le_iff_toInt_le, Int64.lt_iff_toInt_lt, Int32.le_iff_toInt_le, Int32.lt_iff_toInt_lt, fa_eq, fa_lit, fa_litL, nI_toInt, pk_lT, Int32.toInt_toInt64, jadd64, jin, jnoneT] at *); omega
set_option maxRecDepth 4000 in
set_option maxHeartbeats 1000000 in
theorem c_told10 (np : Nat) (mem : jMem) (p : Nat) (hn : np ≤ 12) (hp : mem 0 12 = nI np) (hp2 : p < np) (hN : mem (92 + 2 * p) 0 = nI p) : jPi yX10_told cX10_told 4 .int 5 [.ref 0, .int (nI p), .int 10] np mem (fun v c => v = mem (92 + 2 * p) 4 ∧ c = mem) := by
  refine jPi.of (own := RX10) rfl rfl (Nat.le_of_ble_eq_true rfl) (fun G X hR hr hE => ?_)
  refine j_aload_n X dX10_told_0 rfl ?_
  refine j_iload_n X dX10_told_1 rfl ?_
  refine s_callVa X hR (c_paperAt np _ p hn hp hp2) rfl 10 (by decide) (o0 np) (k0 np) rfl u435 u432 u434 qp2 u1 hyX10_paperAt (by decide) (by decide) (Nat.le_of_ble_eq_true rfl) dX10_told_2 (fun v_2 m_2 h_2 => ?_)
  obtain ⟨e1, e2⟩ := h_2; have e1 := e1.symm; have e2 := e2.symm; subst e1; subst e2
  refine j_astore_n X dX10_told_5 (by decide) ?_
  refine j_aload_n X dX10_told_6 rfl ?_
  refine j_ifnullR X 20 dX10_told_7 (by decide) ?_
  refine j_iload_n X dX10_told_10 rfl ?_
  refine j_iconst X dX10_told_11 0 (by decide) ?_
  refine j_bipush X dX10_told_12 15 (by decide) ?_
  refine s_callSi X hR (c_withinI np _ _ _ _ (0) (15) rfl rfl) rfl u293 u294 u292 u1 hyX10_within (by decide) (by decide) (Nat.le_of_ble_eq_true rfl) dX10_told_14 (fun v_14 m_14 h_14 => ?_)
  obtain ⟨e1, e2⟩ := h_14; have e1 := e1.symm; have e2 := e2.symm; subst e1; subst e2
  refine j_ifb_ne X 23 dX10_told_17 (by decide) (fun c_17 => ?_) (fun c_17 => ?_)
  · refine j_iload_n X dX10_told_23 rfl ?_
    refine j_iconst X dX10_told_24 4 (by decide) ?_
    refine j_icmp_ge X 35 dX10_told_25 (by decide) (fun c_25 => ?_) (fun c_25 => absurd c_25 (by decide))
    refine j_iload_n X dX10_told_35 rfl ?_
    refine j_bipush X dX10_told_36 12 (by decide) ?_
    refine j_icmp_lt X 50 dX10_told_38 (by decide) (fun c_38 => ?_) (fun c_38 => absurd c_38 (by decide))
    refine j_iload_n X dX10_told_50 rfl ?_
    refine j_tabIn X (off := 81) 132 dX10_told_51 (by decide) (by decide) (by decide) (by decide) ?_
    refine j_aload_n X dX10_told_132 rfl ?_
    refine j_getF X 6 4 (by decide) (by decide) rfl u401 (oP np (by omega)) (kP np _) (mem (92 + 2 * p)) rfl dX10_told_133 ?_
    refine s_iret X hE hr dX10_told_136 rfl ?_
    first | exact ⟨rfl, rfl⟩ | (exfalso; clear hE hr hR X; (try simp only [lg_cmp_lt, lg_cmp_gt, lg_cmp_le, lg_cmp_ge] at *); (try simp (disch := omega) only [Int64.le_iff_toInt_le, Int64.lt_iff_toInt_lt, Int32.le_iff_toInt_le, Int32.lt_iff_toInt_lt, fa_eq, fa_lit, fa_litL, nI_toInt, pk_lT, Int32.toInt_toInt64, jadd64, jin, jnoneT] at *); omega)
  · exfalso
    clear hE hr hR X
    (try simp only [lg_cmp_lt, lg_cmp_gt, lg_cmp_le, lg_cmp_ge] at *); (try simp (disch := omega) only [Int64.le_iff_toInt_le, Int64.lt_iff_toInt_lt, Int32.le_iff_toInt_le, Int32.lt_iff_toInt_lt, fa_eq, fa_lit, fa_litL, nI_toInt, pk_lT, Int32.toInt_toInt64, jadd64, jin, jnoneT] at *); omega
set_option maxRecDepth 4000 in
set_option maxHeartbeats 1000000 in
theorem c_told11 (np : Nat) (mem : jMem) (p : Nat) (hn : np ≤ 12) (hp : mem 0 12 = nI np) (hp2 : p < np) (hN : mem (92 + 2 * p) 0 = nI p) : jPi yX10_told cX10_told 4 .int 5 [.ref 0, .int (nI p), .int 11] np mem (fun v c => v = mem (92 + 2 * p) 5 ∧ c = mem) := by
  refine jPi.of (own := RX10) rfl rfl (Nat.le_of_ble_eq_true rfl) (fun G X hR hr hE => ?_)
  refine j_aload_n X dX10_told_0 rfl ?_
  refine j_iload_n X dX10_told_1 rfl ?_
  refine s_callVa X hR (c_paperAt np _ p hn hp hp2) rfl 10 (by decide) (o0 np) (k0 np) rfl u435 u432 u434 qp2 u1 hyX10_paperAt (by decide) (by decide) (Nat.le_of_ble_eq_true rfl) dX10_told_2 (fun v_2 m_2 h_2 => ?_)
  obtain ⟨e1, e2⟩ := h_2; have e1 := e1.symm; have e2 := e2.symm; subst e1; subst e2
  refine j_astore_n X dX10_told_5 (by decide) ?_
  refine j_aload_n X dX10_told_6 rfl ?_
  refine j_ifnullR X 20 dX10_told_7 (by decide) ?_
  refine j_iload_n X dX10_told_10 rfl ?_
  refine j_iconst X dX10_told_11 0 (by decide) ?_
  refine j_bipush X dX10_told_12 15 (by decide) ?_
  refine s_callSi X hR (c_withinI np _ _ _ _ (0) (15) rfl rfl) rfl u293 u294 u292 u1 hyX10_within (by decide) (by decide) (Nat.le_of_ble_eq_true rfl) dX10_told_14 (fun v_14 m_14 h_14 => ?_)
  obtain ⟨e1, e2⟩ := h_14; have e1 := e1.symm; have e2 := e2.symm; subst e1; subst e2
  refine j_ifb_ne X 23 dX10_told_17 (by decide) (fun c_17 => ?_) (fun c_17 => ?_)
  · refine j_iload_n X dX10_told_23 rfl ?_
    refine j_iconst X dX10_told_24 4 (by decide) ?_
    refine j_icmp_ge X 35 dX10_told_25 (by decide) (fun c_25 => ?_) (fun c_25 => absurd c_25 (by decide))
    refine j_iload_n X dX10_told_35 rfl ?_
    refine j_bipush X dX10_told_36 12 (by decide) ?_
    refine j_icmp_lt X 50 dX10_told_38 (by decide) (fun c_38 => ?_) (fun c_38 => absurd c_38 (by decide))
    refine j_iload_n X dX10_told_50 rfl ?_
    refine j_tabOut X 137 dX10_told_51 (by decide) (by decide) ?_
    refine j_aload_n X dX10_told_137 rfl ?_
    refine j_getF X 6 5 (by decide) (by decide) rfl u404 (oP np (by omega)) (kP np _) (mem (92 + 2 * p)) rfl dX10_told_138 ?_
    refine s_iret X hE hr dX10_told_141 rfl ?_
    first | exact ⟨rfl, rfl⟩ | (exfalso; clear hE hr hR X; (try simp only [lg_cmp_lt, lg_cmp_gt, lg_cmp_le, lg_cmp_ge] at *); (try simp (disch := omega) only [Int64.le_iff_toInt_le, Int64.lt_iff_toInt_lt, Int32.le_iff_toInt_le, Int32.lt_iff_toInt_lt, fa_eq, fa_lit, fa_litL, nI_toInt, pk_lT, Int32.toInt_toInt64, jadd64, jin, jnoneT] at *); omega)
  · exfalso
    clear hE hr hR X
    (try simp only [lg_cmp_lt, lg_cmp_gt, lg_cmp_le, lg_cmp_ge] at *); (try simp (disch := omega) only [Int64.le_iff_toInt_le, Int64.lt_iff_toInt_lt, Int32.le_iff_toInt_le, Int32.lt_iff_toInt_lt, fa_eq, fa_lit, fa_litL, nI_toInt, pk_lT, Int32.toInt_toInt64, jadd64, jin, jnoneT] at *); omega
set_option maxRecDepth 4000 in
set_option maxHeartbeats 1000000 in
theorem c_told12 (np : Nat) (mem : jMem) (p : Nat) (hn : np ≤ 12) (hp : mem 0 12 = nI np) (hp2 : p < np) (hN : mem (92 + 2 * p) 0 = nI p) (w : Nat) (hw : mem (93 + 2 * p) 0 = nI w) (hw2 : w ≤ 999) : jPi yX10_told cX10_told 4 .int 5 [.ref 0, .int (nI p), .int 12] np mem (fun v c => v = jSteps (101 * nI p + 17 * 0 + 1) (w + 1) ∧ c = mem) := by
  refine jPi.of (own := RX10) rfl rfl (Nat.le_of_ble_eq_true rfl) (fun G X hR hr hE => ?_)
  refine j_aload_n X dX10_told_0 rfl ?_
  refine j_iload_n X dX10_told_1 rfl ?_
  refine s_callVa X hR (c_paperAt np _ p hn hp hp2) rfl 10 (by decide) (o0 np) (k0 np) rfl u435 u432 u434 qp2 u1 hyX10_paperAt (by decide) (by decide) (Nat.le_of_ble_eq_true rfl) dX10_told_2 (fun v_2 m_2 h_2 => ?_)
  obtain ⟨e1, e2⟩ := h_2; have e1 := e1.symm; have e2 := e2.symm; subst e1; subst e2
  refine j_astore_n X dX10_told_5 (by decide) ?_
  refine j_aload_n X dX10_told_6 rfl ?_
  refine j_ifnullR X 20 dX10_told_7 (by decide) ?_
  refine j_iload_n X dX10_told_10 rfl ?_
  refine j_iconst X dX10_told_11 0 (by decide) ?_
  refine j_bipush X dX10_told_12 15 (by decide) ?_
  refine s_callSi X hR (c_withinI np _ _ _ _ (0) (15) rfl rfl) rfl u293 u294 u292 u1 hyX10_within (by decide) (by decide) (Nat.le_of_ble_eq_true rfl) dX10_told_14 (fun v_14 m_14 h_14 => ?_)
  obtain ⟨e1, e2⟩ := h_14; have e1 := e1.symm; have e2 := e2.symm; subst e1; subst e2
  refine j_ifb_ne X 23 dX10_told_17 (by decide) (fun c_17 => ?_) (fun c_17 => ?_)
  · refine j_iload_n X dX10_told_23 rfl ?_
    refine j_iconst X dX10_told_24 4 (by decide) ?_
    refine j_icmp_ge X 35 dX10_told_25 (by decide) (fun c_25 => ?_) (fun c_25 => absurd c_25 (by decide))
    refine j_iload_n X dX10_told_35 rfl ?_
    refine j_bipush X dX10_told_36 12 (by decide) ?_
    refine j_icmp_lt X 50 dX10_told_38 (by decide) (fun c_38 => absurd c_38 (by decide)) (fun c_38 => ?_)
    refine j_aload_n X dX10_told_41 rfl ?_
    refine j_iload_n X dX10_told_42 rfl ?_
    refine j_bipush X dX10_told_43 12 (by decide) ?_
    refine j_isub X dX10_told_45 ?_
    refine j_nrm 0 (by decide) ?_
    refine s_callVi X hR (c_chainEnd0 np _ p w _ hp2 hN rfl hn hw hw2) rfl 6 (by decide) (oP np (by omega)) (kP np _) rfl u439 u436 u437 u438 u14 hyX6_chainEnd (by decide) (by decide) (Nat.le_of_ble_eq_true rfl) dX10_told_46 (fun v_46 m_46 h_46 => ?_)
    obtain ⟨e1, e2⟩ := h_46; have e1 := e1.symm; have e2 := e2.symm; subst e1; subst e2
    refine s_iret X hE hr dX10_told_49 rfl ?_
    first | exact ⟨rfl, rfl⟩ | (exfalso; clear hE hr hR X; (try simp only [lg_cmp_lt, lg_cmp_gt, lg_cmp_le, lg_cmp_ge] at *); (try simp (disch := omega) only [Int64.le_iff_toInt_le, Int64.lt_iff_toInt_lt, Int32.le_iff_toInt_le, Int32.lt_iff_toInt_lt, fa_eq, fa_lit, fa_litL, nI_toInt, pk_lT, Int32.toInt_toInt64, jadd64, jin, jnoneT] at *); omega)
  · exfalso
    clear hE hr hR X
    (try simp only [lg_cmp_lt, lg_cmp_gt, lg_cmp_le, lg_cmp_ge] at *); (try simp (disch := omega) only [Int64.le_iff_toInt_le, Int64.lt_iff_toInt_lt, Int32.le_iff_toInt_le, Int32.lt_iff_toInt_lt, fa_eq, fa_lit, fa_litL, nI_toInt, pk_lT, Int32.toInt_toInt64, jadd64, jin, jnoneT] at *); omega
set_option maxRecDepth 4000 in
set_option maxHeartbeats 1000000 in
theorem c_told13 (np : Nat) (mem : jMem) (p : Nat) (hn : np ≤ 12) (hp : mem 0 12 = nI np) (hp2 : p < np) (hN : mem (92 + 2 * p) 0 = nI p) (w : Nat) (hw : mem (93 + 2 * p) 1 = nI w) (hw2 : w ≤ 999) : jPi yX10_told cX10_told 4 .int 5 [.ref 0, .int (nI p), .int 13] np mem (fun v c => v = jSteps (101 * nI p + 17 * 1 + 1) (w + 1) ∧ c = mem) := by
  refine jPi.of (own := RX10) rfl rfl (Nat.le_of_ble_eq_true rfl) (fun G X hR hr hE => ?_)
  refine j_aload_n X dX10_told_0 rfl ?_
  refine j_iload_n X dX10_told_1 rfl ?_
  refine s_callVa X hR (c_paperAt np _ p hn hp hp2) rfl 10 (by decide) (o0 np) (k0 np) rfl u435 u432 u434 qp2 u1 hyX10_paperAt (by decide) (by decide) (Nat.le_of_ble_eq_true rfl) dX10_told_2 (fun v_2 m_2 h_2 => ?_)
  obtain ⟨e1, e2⟩ := h_2; have e1 := e1.symm; have e2 := e2.symm; subst e1; subst e2
  refine j_astore_n X dX10_told_5 (by decide) ?_
  refine j_aload_n X dX10_told_6 rfl ?_
  refine j_ifnullR X 20 dX10_told_7 (by decide) ?_
  refine j_iload_n X dX10_told_10 rfl ?_
  refine j_iconst X dX10_told_11 0 (by decide) ?_
  refine j_bipush X dX10_told_12 15 (by decide) ?_
  refine s_callSi X hR (c_withinI np _ _ _ _ (0) (15) rfl rfl) rfl u293 u294 u292 u1 hyX10_within (by decide) (by decide) (Nat.le_of_ble_eq_true rfl) dX10_told_14 (fun v_14 m_14 h_14 => ?_)
  obtain ⟨e1, e2⟩ := h_14; have e1 := e1.symm; have e2 := e2.symm; subst e1; subst e2
  refine j_ifb_ne X 23 dX10_told_17 (by decide) (fun c_17 => ?_) (fun c_17 => ?_)
  · refine j_iload_n X dX10_told_23 rfl ?_
    refine j_iconst X dX10_told_24 4 (by decide) ?_
    refine j_icmp_ge X 35 dX10_told_25 (by decide) (fun c_25 => ?_) (fun c_25 => absurd c_25 (by decide))
    refine j_iload_n X dX10_told_35 rfl ?_
    refine j_bipush X dX10_told_36 12 (by decide) ?_
    refine j_icmp_lt X 50 dX10_told_38 (by decide) (fun c_38 => absurd c_38 (by decide)) (fun c_38 => ?_)
    refine j_aload_n X dX10_told_41 rfl ?_
    refine j_iload_n X dX10_told_42 rfl ?_
    refine j_bipush X dX10_told_43 12 (by decide) ?_
    refine j_isub X dX10_told_45 ?_
    refine j_nrm 1 (by decide) ?_
    refine s_callVi X hR (c_chainEnd1 np _ p w _ hp2 hN rfl hn hw hw2) rfl 6 (by decide) (oP np (by omega)) (kP np _) rfl u439 u436 u437 u438 u14 hyX6_chainEnd (by decide) (by decide) (Nat.le_of_ble_eq_true rfl) dX10_told_46 (fun v_46 m_46 h_46 => ?_)
    obtain ⟨e1, e2⟩ := h_46; have e1 := e1.symm; have e2 := e2.symm; subst e1; subst e2
    refine s_iret X hE hr dX10_told_49 rfl ?_
    first | exact ⟨rfl, rfl⟩ | (exfalso; clear hE hr hR X; (try simp only [lg_cmp_lt, lg_cmp_gt, lg_cmp_le, lg_cmp_ge] at *); (try simp (disch := omega) only [Int64.le_iff_toInt_le, Int64.lt_iff_toInt_lt, Int32.le_iff_toInt_le, Int32.lt_iff_toInt_lt, fa_eq, fa_lit, fa_litL, nI_toInt, pk_lT, Int32.toInt_toInt64, jadd64, jin, jnoneT] at *); omega)
  · exfalso
    clear hE hr hR X
    (try simp only [lg_cmp_lt, lg_cmp_gt, lg_cmp_le, lg_cmp_ge] at *); (try simp (disch := omega) only [Int64.le_iff_toInt_le, Int64.lt_iff_toInt_lt, Int32.le_iff_toInt_le, Int32.lt_iff_toInt_lt, fa_eq, fa_lit, fa_litL, nI_toInt, pk_lT, Int32.toInt_toInt64, jadd64, jin, jnoneT] at *); omega
set_option maxRecDepth 4000 in
set_option maxHeartbeats 1000000 in
theorem c_told14 (np : Nat) (mem : jMem) (p : Nat) (hn : np ≤ 12) (hp : mem 0 12 = nI np) (hp2 : p < np) (hN : mem (92 + 2 * p) 0 = nI p) (w : Nat) (hw : mem (93 + 2 * p) 2 = nI w) (hw2 : w ≤ 999) : jPi yX10_told cX10_told 4 .int 5 [.ref 0, .int (nI p), .int 14] np mem (fun v c => v = jSteps (101 * nI p + 17 * 2 + 1) (w + 1) ∧ c = mem) := by
  refine jPi.of (own := RX10) rfl rfl (Nat.le_of_ble_eq_true rfl) (fun G X hR hr hE => ?_)
  refine j_aload_n X dX10_told_0 rfl ?_
  refine j_iload_n X dX10_told_1 rfl ?_
  refine s_callVa X hR (c_paperAt np _ p hn hp hp2) rfl 10 (by decide) (o0 np) (k0 np) rfl u435 u432 u434 qp2 u1 hyX10_paperAt (by decide) (by decide) (Nat.le_of_ble_eq_true rfl) dX10_told_2 (fun v_2 m_2 h_2 => ?_)
  obtain ⟨e1, e2⟩ := h_2; have e1 := e1.symm; have e2 := e2.symm; subst e1; subst e2
  refine j_astore_n X dX10_told_5 (by decide) ?_
  refine j_aload_n X dX10_told_6 rfl ?_
  refine j_ifnullR X 20 dX10_told_7 (by decide) ?_
  refine j_iload_n X dX10_told_10 rfl ?_
  refine j_iconst X dX10_told_11 0 (by decide) ?_
  refine j_bipush X dX10_told_12 15 (by decide) ?_
  refine s_callSi X hR (c_withinI np _ _ _ _ (0) (15) rfl rfl) rfl u293 u294 u292 u1 hyX10_within (by decide) (by decide) (Nat.le_of_ble_eq_true rfl) dX10_told_14 (fun v_14 m_14 h_14 => ?_)
  obtain ⟨e1, e2⟩ := h_14; have e1 := e1.symm; have e2 := e2.symm; subst e1; subst e2
  refine j_ifb_ne X 23 dX10_told_17 (by decide) (fun c_17 => ?_) (fun c_17 => ?_)
  · refine j_iload_n X dX10_told_23 rfl ?_
    refine j_iconst X dX10_told_24 4 (by decide) ?_
    refine j_icmp_ge X 35 dX10_told_25 (by decide) (fun c_25 => ?_) (fun c_25 => absurd c_25 (by decide))
    refine j_iload_n X dX10_told_35 rfl ?_
    refine j_bipush X dX10_told_36 12 (by decide) ?_
    refine j_icmp_lt X 50 dX10_told_38 (by decide) (fun c_38 => absurd c_38 (by decide)) (fun c_38 => ?_)
    refine j_aload_n X dX10_told_41 rfl ?_
    refine j_iload_n X dX10_told_42 rfl ?_
    refine j_bipush X dX10_told_43 12 (by decide) ?_
    refine j_isub X dX10_told_45 ?_
    refine j_nrm 2 (by decide) ?_
    refine s_callVi X hR (c_chainEnd2 np _ p w _ hp2 hN rfl hn hw hw2) rfl 6 (by decide) (oP np (by omega)) (kP np _) rfl u439 u436 u437 u438 u14 hyX6_chainEnd (by decide) (by decide) (Nat.le_of_ble_eq_true rfl) dX10_told_46 (fun v_46 m_46 h_46 => ?_)
    obtain ⟨e1, e2⟩ := h_46; have e1 := e1.symm; have e2 := e2.symm; subst e1; subst e2
    refine s_iret X hE hr dX10_told_49 rfl ?_
    first | exact ⟨rfl, rfl⟩ | (exfalso; clear hE hr hR X; (try simp only [lg_cmp_lt, lg_cmp_gt, lg_cmp_le, lg_cmp_ge] at *); (try simp (disch := omega) only [Int64.le_iff_toInt_le, Int64.lt_iff_toInt_lt, Int32.le_iff_toInt_le, Int32.lt_iff_toInt_lt, fa_eq, fa_lit, fa_litL, nI_toInt, pk_lT, Int32.toInt_toInt64, jadd64, jin, jnoneT] at *); omega)
  · exfalso
    clear hE hr hR X
    (try simp only [lg_cmp_lt, lg_cmp_gt, lg_cmp_le, lg_cmp_ge] at *); (try simp (disch := omega) only [Int64.le_iff_toInt_le, Int64.lt_iff_toInt_lt, Int32.le_iff_toInt_le, Int32.lt_iff_toInt_lt, fa_eq, fa_lit, fa_litL, nI_toInt, pk_lT, Int32.toInt_toInt64, jadd64, jin, jnoneT] at *); omega
set_option maxRecDepth 4000 in
set_option maxHeartbeats 1000000 in
theorem c_told15 (np : Nat) (mem : jMem) (p : Nat) (hn : np ≤ 12) (hp : mem 0 12 = nI np) (hp2 : p < np) (hN : mem (92 + 2 * p) 0 = nI p) (w : Nat) (hw : mem (93 + 2 * p) 3 = nI w) (hw2 : w ≤ 999) : jPi yX10_told cX10_told 4 .int 5 [.ref 0, .int (nI p), .int 15] np mem (fun v c => v = jSteps (101 * nI p + 17 * 3 + 1) (w + 1) ∧ c = mem) := by
  refine jPi.of (own := RX10) rfl rfl (Nat.le_of_ble_eq_true rfl) (fun G X hR hr hE => ?_)
  refine j_aload_n X dX10_told_0 rfl ?_
  refine j_iload_n X dX10_told_1 rfl ?_
  refine s_callVa X hR (c_paperAt np _ p hn hp hp2) rfl 10 (by decide) (o0 np) (k0 np) rfl u435 u432 u434 qp2 u1 hyX10_paperAt (by decide) (by decide) (Nat.le_of_ble_eq_true rfl) dX10_told_2 (fun v_2 m_2 h_2 => ?_)
  obtain ⟨e1, e2⟩ := h_2; have e1 := e1.symm; have e2 := e2.symm; subst e1; subst e2
  refine j_astore_n X dX10_told_5 (by decide) ?_
  refine j_aload_n X dX10_told_6 rfl ?_
  refine j_ifnullR X 20 dX10_told_7 (by decide) ?_
  refine j_iload_n X dX10_told_10 rfl ?_
  refine j_iconst X dX10_told_11 0 (by decide) ?_
  refine j_bipush X dX10_told_12 15 (by decide) ?_
  refine s_callSi X hR (c_withinI np _ _ _ _ (0) (15) rfl rfl) rfl u293 u294 u292 u1 hyX10_within (by decide) (by decide) (Nat.le_of_ble_eq_true rfl) dX10_told_14 (fun v_14 m_14 h_14 => ?_)
  obtain ⟨e1, e2⟩ := h_14; have e1 := e1.symm; have e2 := e2.symm; subst e1; subst e2
  refine j_ifb_ne X 23 dX10_told_17 (by decide) (fun c_17 => ?_) (fun c_17 => ?_)
  · refine j_iload_n X dX10_told_23 rfl ?_
    refine j_iconst X dX10_told_24 4 (by decide) ?_
    refine j_icmp_ge X 35 dX10_told_25 (by decide) (fun c_25 => ?_) (fun c_25 => absurd c_25 (by decide))
    refine j_iload_n X dX10_told_35 rfl ?_
    refine j_bipush X dX10_told_36 12 (by decide) ?_
    refine j_icmp_lt X 50 dX10_told_38 (by decide) (fun c_38 => absurd c_38 (by decide)) (fun c_38 => ?_)
    refine j_aload_n X dX10_told_41 rfl ?_
    refine j_iload_n X dX10_told_42 rfl ?_
    refine j_bipush X dX10_told_43 12 (by decide) ?_
    refine j_isub X dX10_told_45 ?_
    refine j_nrm 3 (by decide) ?_
    refine s_callVi X hR (c_chainEnd3 np _ p w _ hp2 hN rfl hn hw hw2) rfl 6 (by decide) (oP np (by omega)) (kP np _) rfl u439 u436 u437 u438 u14 hyX6_chainEnd (by decide) (by decide) (Nat.le_of_ble_eq_true rfl) dX10_told_46 (fun v_46 m_46 h_46 => ?_)
    obtain ⟨e1, e2⟩ := h_46; have e1 := e1.symm; have e2 := e2.symm; subst e1; subst e2
    refine s_iret X hE hr dX10_told_49 rfl ?_
    first | exact ⟨rfl, rfl⟩ | (exfalso; clear hE hr hR X; (try simp only [lg_cmp_lt, lg_cmp_gt, lg_cmp_le, lg_cmp_ge] at *); (try simp (disch := omega) only [Int64.le_iff_toInt_le, Int64.lt_iff_toInt_lt, Int32.le_iff_toInt_le, Int32.lt_iff_toInt_lt, fa_eq, fa_lit, fa_litL, nI_toInt, pk_lT, Int32.toInt_toInt64, jadd64, jin, jnoneT] at *); omega)
  · exfalso
    clear hE hr hR X
    (try simp only [lg_cmp_lt, lg_cmp_gt, lg_cmp_le, lg_cmp_ge] at *); (try simp (disch := omega) only [Int64.le_iff_toInt_le, Int64.lt_iff_toInt_lt, Int32.le_iff_toInt_le, Int32.lt_iff_toInt_lt, fa_eq, fa_lit, fa_litL, nI_toInt, pk_lT, Int32.toInt_toInt64, jadd64, jin, jnoneT] at *); omega
