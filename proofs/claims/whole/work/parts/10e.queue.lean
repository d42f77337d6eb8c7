theorem c_extend : ∀ r, jExt r
  | 0 => fun np mem q dp P pre now sum v ord c l H => c_extend0 np mem q dp P pre now sum v ord c l H
  | r + 1 => fun np mem q dp P pre now sum v ord c l H => c_extendS np mem q dp P pre now sum v ord c l r (c_extend r) H
theorem qC_full : ∀ q, q ≤ 7 → qC 0 q = q := by decide +kernel
theorem qT_00 {c : Nat → Nat} : ∀ q, qT c 0 0 q = 0
  | 0 => rfl
  | q + 1 => by
    show qT c 0 0 q + (if (0 : Nat).testBit q = true then 0 else 0 - c q) = 0
    rw [qT_00 q, Nat.zero_testBit, if_neg (by simp), Nat.zero_sub]
theorem jQR_lt {c l : Nat → Nat} {q : Nat} (hc : ∀ w, c w ≤ 999) (hl : ∀ w, l w ≤ 99) (h1 : 1 ≤ q) (h7 : q ≤ 7) : (jQR c l q).1 ≤ 20000 := by
  obtain ⟨rest, hR⟩ := qP_hd q h1 h7
  unfold jQR jQst
  rw [hR]
  have h2 := qS_le (W := qSum c l) rest (qS (qSum c l) (2147483647, []) (List.range q))
  have h3 : qSum c l (List.range q) ≤ 1800 * 7 := by
    have := (qW_le0 hc hl (p := List.range q) (by rw [List.length_range]; exact h7)).2
    rw [List.length_range] at this
    unfold qSum
    omega
  have h4 : qS (qSum c l) (2147483647, []) (List.range q) = (qSum c l (List.range q), List.range q) := if_pos (by show _ < 2147483647; omega)
  rw [h4] at h2
  show (rest.foldl (qS (qSum c l)) (qS (qSum c l) (2147483647, []) (List.range q))).1 ≤ 20000
  rw [h4]
  have h5 : (rest.foldl (qS (qSum c l)) (qSum c l (List.range q), List.range q)).1 ≤ qSum c l (List.range q) := h2
  omega
set_option maxRecDepth 4000 in
set_option maxHeartbeats 1000000 in
theorem c_findBest (np : Nat) (mem : jMem) (q : Nat) (c l : Nat → Nat) (hq1 : 1 ≤ q) (hq : q ≤ 7) (hW : mem 58 5 = nI q) (hc : ∀ w, c w ≤ 999) (hl : ∀ w, l w ≤ 99) (hcm : ∀ w, w < q → mem 59 w = nI (c w)) (hlm : ∀ w, w < q → mem 60 w = nI (l w)) : jPv yX4_findBest cX4_findBest 1 11 [.ref 58] np mem (fun c2 => jeq [58, 61, 62] mem c2 ∧ c2 58 4 = nI (jQR c l q).1 ∧ jQb q (jQR c l q).2 (c2 62)) := by
  refine jPv.of (own := RX4) rfl rfl (Nat.le_of_ble_eq_true rfl) (fun G X hR hr hE => ?_)
  refine j_aload_n X dX4_findBest_0 rfl ?_
  refine j_ldc X dX4_findBest_1 u836 ?_
  refine j_putI X 4 4 (by decide) (by decide) rfl rfl rfl rfl u207 (o58 np) (k58 np) dX4_findBest_3 ?_
  refine j_aload_n X dX4_findBest_6 rfl ?_
  refine j_iconst X dX4_findBest_7 0 (by decide) ?_
  refine j_iconst X dX4_findBest_8 0 (by decide) ?_
  refine j_iconst X dX4_findBest_9 0 (by decide) ?_
  refine j_iconst X dX4_findBest_10 0 (by decide) ?_
  refine s_callVv X hR ((c_extend q) np _ q 0 0 [] 0 0 2147483647 [] c l ⟨by omega, hq, hW, rfl, fun i hi => absurd hi (by omega), by omega, qC_full q hq, rfl, hc, hl, hcm, hlm, by simp [jup, va_up]; rfl, by omega, by rw [qT_00]; omega, Or.inl rfl⟩) rfl 4 (by decide) (o58 np) (k58 np) rfl u840 u837 u839 qp23 u10 hyX4_extend (by decide) (by omega) (Nat.le_of_ble_eq_true rfl) dX4_findBest_11 (fun m_11 h_11 => ?_)
  obtain ⟨hJ5, hS5, hS4, hB5, -⟩ := h_11
  have hS4 : m_11 58 4 = nI (jQR c l q).1 := hS4
  have hB5 : (jQR c l q).1 = 2147483647 ∨ jQb q (jQR c l q).2 (m_11 62) := hB5
  have hlt := jQR_lt hc hl hq1 hq
  refine s_vret X hE hr dX4_findBest_14 ?_
  exact ⟨jeq.tr (jeq.up jeq.rf (by decide)) hJ5, hS4, hB5.resolve_left (by omega)⟩
set_option maxRecDepth 4000 in
set_option maxHeartbeats 1000000 in
theorem c_queue_bad (np : Nat) (mem : jMem) (s i q k : Int32) (h : ¬ (jin s 0 7 ∧ jin q 1 7 ∧ jin k (-1) (q.toInt - 1))) : jPi yX10_queue cX10_queue 6 .int 12 [.ref 0, .int s, .int i, .int q, .int k] np mem (fun v c => v = -1000001 ∧ c = mem) := by
  refine jPi.of (own := RX10) rfl rfl (Nat.le_of_ble_eq_true rfl) (fun G X hR hr hE => ?_)
  refine j_iload_n X dX10_queue_0 rfl ?_
  refine s_callSi X hR (c_isNumber np _ _) rfl u290 u288 u289 u2 hyX7_isNumber (by decide) (by decide) (Nat.le_of_ble_eq_true rfl) dX10_queue_1 (fun v_1 m_1 h_1 => ?_)
  obtain ⟨e1, e2⟩ := h_1; have e1 := e1.symm; have e2 := e2.symm; subst e1; subst e2
  refine j_ifb_eq X 29 dX10_queue_4 (by decide) (fun c_4 => ?_) (fun c_4 => ?_)
  · refine j_ldc X dX10_queue_29 u295 ?_
    refine s_iret X hE hr dX10_queue_31 rfl ?_
    first | exact ⟨rfl, rfl⟩ | (exfalso; clear hE hr hR X; (try simp only [lg_cmp_lt, lg_cmp_gt, lg_cmp_le, lg_cmp_ge] at *); (try simp (disch := omega) only [Int64.le_iff_toInt_le, Int64.lt_iff_toInt_lt, Int32.le_iff_toInt_le, Int32.lt_iff_toInt_lt, fa_eq, fa_lit, fa_litL, nI_toInt, pk_lT, Int32.toInt_toInt64, jadd64, jin, jnoneT] at *); omega)
  · refine j_iload_n X dX10_queue_7 rfl ?_
    refine j_iconst X dX10_queue_8 1 (by decide) ?_
    refine j_bipush X dX10_queue_9 7 (by decide) ?_
    refine s_callSi X hR (c_withinI np _ _ _ _ (1) (7) rfl rfl) rfl u293 u294 u292 u1 hyX10_within (by decide) (by decide) (Nat.le_of_ble_eq_true rfl) dX10_queue_11 (fun v_11 m_11 h_11 => ?_)
    obtain ⟨e1, e2⟩ := h_11; have e1 := e1.symm; have e2 := e2.symm; subst e1; subst e2
    refine j_ifb_eq X 29 dX10_queue_14 (by decide) (fun c_14 => ?_) (fun c_14 => ?_)
    · refine j_ldc X dX10_queue_29 u295 ?_
      refine s_iret X hE hr dX10_queue_31 rfl ?_
      first | exact ⟨rfl, rfl⟩ | (exfalso; clear hE hr hR X; (try simp only [lg_cmp_lt, lg_cmp_gt, lg_cmp_le, lg_cmp_ge] at *); (try simp (disch := omega) only [Int64.le_iff_toInt_le, Int64.lt_iff_toInt_lt, Int32.le_iff_toInt_le, Int32.lt_iff_toInt_lt, fa_eq, fa_lit, fa_litL, nI_toInt, pk_lT, Int32.toInt_toInt64, jadd64, jin, jnoneT] at *); omega)
    · refine j_iload X dX10_queue_17 rfl ?_
      refine j_iconst X dX10_queue_19 (-1) (by decide) ?_
      refine j_iload_n X dX10_queue_20 rfl ?_
      refine j_iconst X dX10_queue_21 1 (by decide) ?_
      refine j_isub X dX10_queue_22 ?_
      refine s_callSi X hR (c_withinI np _ _ _ _ (-1) (q.toInt - 1) (by decide) (jsubq c_14).2) rfl u293 u294 u292 u1 hyX10_within (by decide) (by decide) (Nat.le_of_ble_eq_true rfl) dX10_queue_23 (fun v_23 m_23 h_23 => ?_)
      obtain ⟨e1, e2⟩ := h_23; have e1 := e1.symm; have e2 := e2.symm; subst e1; subst e2
      refine j_ifb_ne X 32 dX10_queue_26 (by decide) (fun c_26 => ?_) (fun c_26 => ?_)
      · exact absurd ⟨c_4, c_14, c_26⟩ h
      · refine j_ldc X dX10_queue_29 u295 ?_
        refine s_iret X hE hr dX10_queue_31 rfl ?_
        first | exact ⟨rfl, rfl⟩ | (exfalso; clear hE hr hR X; (try simp only [lg_cmp_lt, lg_cmp_gt, lg_cmp_le, lg_cmp_ge] at *); (try simp (disch := omega) only [Int64.le_iff_toInt_le, Int64.lt_iff_toInt_lt, Int32.le_iff_toInt_le, Int32.lt_iff_toInt_lt, fa_eq, fa_lit, fa_litL, nI_toInt, pk_lT, Int32.toInt_toInt64, jadd64, jin, jnoneT] at *); omega)
set_option maxRecDepth 4000 in
set_option maxHeartbeats 1000000 in
theorem c_queue_sum_null (np : Nat) (mem : jMem) (s q : Nat) (i : Int32) (hs : s < 8) (hq1 : 1 ≤ q) (hq : q ≤ 7) (hm : mem 12 s = -1) : jPi yX10_queue cX10_queue 6 .int 12 [.ref 0, .int (nI s), .int i, .int (nI q), .int (-1)] np mem (fun v c => v = -1000010 - 1 ∧ c = jup mem 0 14 1) := by
  refine jPi.of (own := RX10) rfl rfl (Nat.le_of_ble_eq_true rfl) (fun G X hR hr hE => ?_)
  refine j_iload_n X dX10_queue_0 rfl ?_
  refine s_callSi X hR (c_isNumber np _ _) rfl u290 u288 u289 u2 hyX7_isNumber (by decide) (by decide) (Nat.le_of_ble_eq_true rfl) dX10_queue_1 (fun v_1 m_1 h_1 => ?_)
  obtain ⟨e1, e2⟩ := h_1; have e1 := e1.symm; have e2 := e2.symm; subst e1; subst e2
  refine j_ifb_eq X 29 dX10_queue_4 (by decide) (fun c_4 => ?_) (fun c_4 => ?_)
  · exfalso
    clear hE hr hR X
    have e1 : (-1 : Int32).toInt = -1 := by decide
    (try simp only [lg_cmp_lt, lg_cmp_gt, lg_cmp_le, lg_cmp_ge] at *); (try simp (disch := omega) only [Int64.le_iff_toInt_le, Int64.lt_iff_toInt_lt, Int32.le_iff_toInt_le, Int32.lt_iff_toInt_lt, fa_eq, fa_lit, fa_litL, nI_toInt, pk_lT, Int32.toInt_toInt64, jadd64, jin, jnoneT] at *); omega
  · refine j_iload_n X dX10_queue_7 rfl ?_
    refine j_iconst X dX10_queue_8 1 (by decide) ?_
    refine j_bipush X dX10_queue_9 7 (by decide) ?_
    refine s_callSi X hR (c_withinI np _ _ _ _ (1) (7) rfl rfl) rfl u293 u294 u292 u1 hyX10_within (by decide) (by decide) (Nat.le_of_ble_eq_true rfl) dX10_queue_11 (fun v_11 m_11 h_11 => ?_)
    obtain ⟨e1, e2⟩ := h_11; have e1 := e1.symm; have e2 := e2.symm; subst e1; subst e2
    refine j_ifb_eq X 29 dX10_queue_14 (by decide) (fun c_14 => ?_) (fun c_14 => ?_)
    · exfalso
      clear hE hr hR X
      have e1 : (-1 : Int32).toInt = -1 := by decide
      (try simp only [lg_cmp_lt, lg_cmp_gt, lg_cmp_le, lg_cmp_ge] at *); (try simp (disch := omega) only [Int64.le_iff_toInt_le, Int64.lt_iff_toInt_lt, Int32.le_iff_toInt_le, Int32.lt_iff_toInt_lt, fa_eq, fa_lit, fa_litL, nI_toInt, pk_lT, Int32.toInt_toInt64, jadd64, jin, jnoneT] at *); omega
    · refine j_iload X dX10_queue_17 rfl ?_
      refine j_iconst X dX10_queue_19 (-1) (by decide) ?_
      refine j_iload_n X dX10_queue_20 rfl ?_
      refine j_iconst X dX10_queue_21 1 (by decide) ?_
      refine j_isub X dX10_queue_22 ?_
      refine s_callSi X hR (c_withinI np _ _ _ _ (-1) ((nI q).toInt - 1) (by decide) (jsubq (q := nI q) ⟨by rw [nI_toInt (by omega)]; omega, by rw [nI_toInt (by omega)]; omega⟩).2) rfl u293 u294 u292 u1 hyX10_within (by decide) (by decide) (Nat.le_of_ble_eq_true rfl) dX10_queue_23 (fun v_23 m_23 h_23 => ?_)
      obtain ⟨e1, e2⟩ := h_23; have e1 := e1.symm; have e2 := e2.symm; subst e1; subst e2
      refine j_ifb_ne X 32 dX10_queue_26 (by decide) (fun c_26 => ?_) (fun c_26 => ?_)
      · refine j_aload_n X dX10_queue_32 rfl ?_
        refine j_getR X 10 0 (by decide) (by decide) rfl u238 (o0 np) (k0 np) _ (p0_0 np) dX10_queue_33 ?_
        refine j_iload_n X dX10_queue_36 rfl ?_
        refine j_iload_n X dX10_queue_37 rfl ?_
        refine j_iconst X dX10_queue_38 2 (by decide) ?_
        refine j_iload_n X dX10_queue_39 rfl ?_
        refine j_imul X dX10_queue_40 ?_
        refine j_nrm (nI (2 * q)) (by simp only [fa_lit, pk_mul]) ?_
        refine s_callVi X hR (c_trouble_null np _ s i _ hs hm) rfl 7 (by decide) (o1 np) (k1 np) rfl u316 u313 u314 u315 u2 hyX7_troubleAt (by decide) (by decide) (Nat.le_of_ble_eq_true rfl) dX10_queue_41 (fun v_41 m_41 h_41 => ?_)
        obtain ⟨e1, e2⟩ := h_41; have e1 := e1.symm; have e2 := e2.symm; subst e1; subst e2
        refine j_istore X dX10_queue_44 (by decide) ?_
        refine j_iload X dX10_queue_46 rfl ?_
        refine j_if_eq X 58 dX10_queue_48 (by decide) (fun c_48 => absurd c_48 (by decide)) (fun c_48 => ?_)
        refine j_aload_n X dX10_queue_51 rfl ?_
        refine j_iload X dX10_queue_52 rfl ?_
        refine s_callVi X hR (c_finding np _ _) rfl 10 (by decide) (o0 np) (k0 np) rfl u299 u296 u298 qp0 u1 hyX10_finding (by decide) (by decide) (Nat.le_of_ble_eq_true rfl) dX10_queue_54 (fun v_54 m_54 h_54 => ?_)
        obtain ⟨e1, e2⟩ := h_54; have e1 := e1.symm; have e2 := e2.symm; subst e1; subst e2
        refine s_iret X hE hr dX10_queue_57 rfl ?_
        first | exact ⟨rfl, rfl⟩ | (exfalso; clear hE hr hR X; (try simp only [lg_cmp_lt, lg_cmp_gt, lg_cmp_le, lg_cmp_ge] at *); (try simp (disch := omega) only [Int64.le_iff_toInt_le, Int64.lt_iff_toInt_lt, Int32.le_iff_toInt_le, Int32.lt_iff_toInt_lt, fa_eq, fa_lit, fa_litL, nI_toInt, pk_lT, Int32.toInt_toInt64, jadd64, jin, jnoneT] at *); omega)
      · exfalso
        clear hE hr hR X
        have e1 : (-1 : Int32).toInt = -1 := by decide
        (try simp only [lg_cmp_lt, lg_cmp_gt, lg_cmp_le, lg_cmp_ge] at *); (try simp (disch := omega) only [Int64.le_iff_toInt_le, Int64.lt_iff_toInt_lt, Int32.le_iff_toInt_le, Int32.lt_iff_toInt_lt, fa_eq, fa_lit, fa_litL, nI_toInt, pk_lT, Int32.toInt_toInt64, jadd64, jin, jnoneT] at *); omega
set_option maxRecDepth 4000 in
set_option maxHeartbeats 1000000 in
theorem c_queue_sum_place (np : Nat) (mem : jMem) (s q z : Nat) (i : Int32) (hs : s < 8) (hq1 : 1 ≤ q) (hq : q ≤ 7) (hz : z ≤ 60) (hm : mem 12 s = nI z) (hi : ¬ (0 ≤ i.toInt ∧ i.toInt + (nI (2 * q)).toInt ≤ z)) : jPi yX10_queue cX10_queue 6 .int 12 [.ref 0, .int (nI s), .int i, .int (nI q), .int (-1)] np mem (fun v c => v = -1000010 - 2 ∧ c = jup mem 0 14 2) := by
  refine jPi.of (own := RX10) rfl rfl (Nat.le_of_ble_eq_true rfl) (fun G X hR hr hE => ?_)
  refine j_iload_n X dX10_queue_0 rfl ?_
  refine s_callSi X hR (c_isNumber np _ _) rfl u290 u288 u289 u2 hyX7_isNumber (by decide) (by decide) (Nat.le_of_ble_eq_true rfl) dX10_queue_1 (fun v_1 m_1 h_1 => ?_)
  obtain ⟨e1, e2⟩ := h_1; have e1 := e1.symm; have e2 := e2.symm; subst e1; subst e2
  refine j_ifb_eq X 29 dX10_queue_4 (by decide) (fun c_4 => ?_) (fun c_4 => ?_)
  · exfalso
    clear hE hr hR X
    have e1 : (-1 : Int32).toInt = -1 := by decide
    (try simp only [lg_cmp_lt, lg_cmp_gt, lg_cmp_le, lg_cmp_ge] at *); (try simp (disch := omega) only [Int64.le_iff_toInt_le, Int64.lt_iff_toInt_lt, Int32.le_iff_toInt_le, Int32.lt_iff_toInt_lt, fa_eq, fa_lit, fa_litL, nI_toInt, pk_lT, Int32.toInt_toInt64, jadd64, jin, jnoneT] at *); omega
  · refine j_iload_n X dX10_queue_7 rfl ?_
    refine j_iconst X dX10_queue_8 1 (by decide) ?_
    refine j_bipush X dX10_queue_9 7 (by decide) ?_
    refine s_callSi X hR (c_withinI np _ _ _ _ (1) (7) rfl rfl) rfl u293 u294 u292 u1 hyX10_within (by decide) (by decide) (Nat.le_of_ble_eq_true rfl) dX10_queue_11 (fun v_11 m_11 h_11 => ?_)
    obtain ⟨e1, e2⟩ := h_11; have e1 := e1.symm; have e2 := e2.symm; subst e1; subst e2
    refine j_ifb_eq X 29 dX10_queue_14 (by decide) (fun c_14 => ?_) (fun c_14 => ?_)
    · exfalso
      clear hE hr hR X
      have e1 : (-1 : Int32).toInt = -1 := by decide
      (try simp only [lg_cmp_lt, lg_cmp_gt, lg_cmp_le, lg_cmp_ge] at *); (try simp (disch := omega) only [Int64.le_iff_toInt_le, Int64.lt_iff_toInt_lt, Int32.le_iff_toInt_le, Int32.lt_iff_toInt_lt, fa_eq, fa_lit, fa_litL, nI_toInt, pk_lT, Int32.toInt_toInt64, jadd64, jin, jnoneT] at *); omega
    · refine j_iload X dX10_queue_17 rfl ?_
      refine j_iconst X dX10_queue_19 (-1) (by decide) ?_
      refine j_iload_n X dX10_queue_20 rfl ?_
      refine j_iconst X dX10_queue_21 1 (by decide) ?_
      refine j_isub X dX10_queue_22 ?_
      refine s_callSi X hR (c_withinI np _ _ _ _ (-1) ((nI q).toInt - 1) (by decide) (jsubq (q := nI q) ⟨by rw [nI_toInt (by omega)]; omega, by rw [nI_toInt (by omega)]; omega⟩).2) rfl u293 u294 u292 u1 hyX10_within (by decide) (by decide) (Nat.le_of_ble_eq_true rfl) dX10_queue_23 (fun v_23 m_23 h_23 => ?_)
      obtain ⟨e1, e2⟩ := h_23; have e1 := e1.symm; have e2 := e2.symm; subst e1; subst e2
      refine j_ifb_ne X 32 dX10_queue_26 (by decide) (fun c_26 => ?_) (fun c_26 => ?_)
      · refine j_aload_n X dX10_queue_32 rfl ?_
        refine j_getR X 10 0 (by decide) (by decide) rfl u238 (o0 np) (k0 np) _ (p0_0 np) dX10_queue_33 ?_
        refine j_iload_n X dX10_queue_36 rfl ?_
        refine j_iload_n X dX10_queue_37 rfl ?_
        refine j_iconst X dX10_queue_38 2 (by decide) ?_
        refine j_iload_n X dX10_queue_39 rfl ?_
        refine j_imul X dX10_queue_40 ?_
        refine j_nrm (nI (2 * q)) (by simp only [fa_lit, pk_mul]) ?_
        refine s_callVi X hR (c_trouble_place np _ s z i _ hs hz hm (fun g => hi ⟨g.1, g.2.2⟩)) rfl 7 (by decide) (o1 np) (k1 np) rfl u316 u313 u314 u315 u2 hyX7_troubleAt (by decide) (by decide) (Nat.le_of_ble_eq_true rfl) dX10_queue_41 (fun v_41 m_41 h_41 => ?_)
        obtain ⟨e1, e2⟩ := h_41; have e1 := e1.symm; have e2 := e2.symm; subst e1; subst e2
        refine j_istore X dX10_queue_44 (by decide) ?_
        refine j_iload X dX10_queue_46 rfl ?_
        refine j_if_eq X 58 dX10_queue_48 (by decide) (fun c_48 => absurd c_48 (by decide)) (fun c_48 => ?_)
        refine j_aload_n X dX10_queue_51 rfl ?_
        refine j_iload X dX10_queue_52 rfl ?_
        refine s_callVi X hR (c_finding np _ _) rfl 10 (by decide) (o0 np) (k0 np) rfl u299 u296 u298 qp0 u1 hyX10_finding (by decide) (by decide) (Nat.le_of_ble_eq_true rfl) dX10_queue_54 (fun v_54 m_54 h_54 => ?_)
        obtain ⟨e1, e2⟩ := h_54; have e1 := e1.symm; have e2 := e2.symm; subst e1; subst e2
        refine s_iret X hE hr dX10_queue_57 rfl ?_
        first | exact ⟨rfl, rfl⟩ | (exfalso; clear hE hr hR X; (try simp only [lg_cmp_lt, lg_cmp_gt, lg_cmp_le, lg_cmp_ge] at *); (try simp (disch := omega) only [Int64.le_iff_toInt_le, Int64.lt_iff_toInt_lt, Int32.le_iff_toInt_le, Int32.lt_iff_toInt_lt, fa_eq, fa_lit, fa_litL, nI_toInt, pk_lT, Int32.toInt_toInt64, jadd64, jin, jnoneT] at *); omega)
      · exfalso
        clear hE hr hR X
        have e1 : (-1 : Int32).toInt = -1 := by decide
        (try simp only [lg_cmp_lt, lg_cmp_gt, lg_cmp_le, lg_cmp_ge] at *); (try simp (disch := omega) only [Int64.le_iff_toInt_le, Int64.lt_iff_toInt_lt, Int32.le_iff_toInt_le, Int32.lt_iff_toInt_lt, fa_eq, fa_lit, fa_litL, nI_toInt, pk_lT, Int32.toInt_toInt64, jadd64, jin, jnoneT] at *); omega
set_option maxRecDepth 4000 in
set_option maxHeartbeats 1000000 in
theorem c_queue_sum_item (np : Nat) (mem : jMem) (s i q z : Nat) (hs : s < 8) (hq1 : 1 ≤ q) (hq : q ≤ 7) (hz : z ≤ 60) (hm : mem 12 s = nI z) (hi : i + 2 * q ≤ z) (hno : ¬ jQok (fun k => mem (3 + s) (i + k)) q) : jPi yX10_queue cX10_queue 6 .int 12 [.ref 0, .int (nI s), .int (nI i), .int (nI q), .int (-1)] np mem (fun v c => v = -1000001 ∧ jeq [58, 59, 60] mem c) := by
  refine jPi.of (own := RX10) rfl rfl (Nat.le_of_ble_eq_true rfl) (fun G X hR hr hE => ?_)
  refine j_iload_n X dX10_queue_0 rfl ?_
  refine s_callSi X hR (c_isNumber np _ _) rfl u290 u288 u289 u2 hyX7_isNumber (by decide) (by decide) (Nat.le_of_ble_eq_true rfl) dX10_queue_1 (fun v_1 m_1 h_1 => ?_)
  obtain ⟨e1, e2⟩ := h_1; have e1 := e1.symm; have e2 := e2.symm; subst e1; subst e2
  refine j_ifb_eq X 29 dX10_queue_4 (by decide) (fun c_4 => ?_) (fun c_4 => ?_)
  · exfalso
    clear hE hr hR X
    have e1 : (-1 : Int32).toInt = -1 := by decide
    (try simp only [lg_cmp_lt, lg_cmp_gt, lg_cmp_le, lg_cmp_ge] at *); (try simp (disch := omega) only [Int64.le_iff_toInt_le, Int64.lt_iff_toInt_lt, Int32.le_iff_toInt_le, Int32.lt_iff_toInt_lt, fa_eq, fa_lit, fa_litL, nI_toInt, pk_lT, Int32.toInt_toInt64, jadd64, jin, jnoneT] at *); omega
  · refine j_iload_n X dX10_queue_7 rfl ?_
    refine j_iconst X dX10_queue_8 1 (by decide) ?_
    refine j_bipush X dX10_queue_9 7 (by decide) ?_
    refine s_callSi X hR (c_withinI np _ _ _ _ (1) (7) rfl rfl) rfl u293 u294 u292 u1 hyX10_within (by decide) (by decide) (Nat.le_of_ble_eq_true rfl) dX10_queue_11 (fun v_11 m_11 h_11 => ?_)
    obtain ⟨e1, e2⟩ := h_11; have e1 := e1.symm; have e2 := e2.symm; subst e1; subst e2
    refine j_ifb_eq X 29 dX10_queue_14 (by decide) (fun c_14 => ?_) (fun c_14 => ?_)
    · exfalso
      clear hE hr hR X
      have e1 : (-1 : Int32).toInt = -1 := by decide
      (try simp only [lg_cmp_lt, lg_cmp_gt, lg_cmp_le, lg_cmp_ge] at *); (try simp (disch := omega) only [Int64.le_iff_toInt_le, Int64.lt_iff_toInt_lt, Int32.le_iff_toInt_le, Int32.lt_iff_toInt_lt, fa_eq, fa_lit, fa_litL, nI_toInt, pk_lT, Int32.toInt_toInt64, jadd64, jin, jnoneT] at *); omega
    · refine j_iload X dX10_queue_17 rfl ?_
      refine j_iconst X dX10_queue_19 (-1) (by decide) ?_
      refine j_iload_n X dX10_queue_20 rfl ?_
      refine j_iconst X dX10_queue_21 1 (by decide) ?_
      refine j_isub X dX10_queue_22 ?_
      refine s_callSi X hR (c_withinI np _ _ _ _ (-1) ((nI q).toInt - 1) (by decide) (jsubq (q := nI q) ⟨by rw [nI_toInt (by omega)]; omega, by rw [nI_toInt (by omega)]; omega⟩).2) rfl u293 u294 u292 u1 hyX10_within (by decide) (by decide) (Nat.le_of_ble_eq_true rfl) dX10_queue_23 (fun v_23 m_23 h_23 => ?_)
      obtain ⟨e1, e2⟩ := h_23; have e1 := e1.symm; have e2 := e2.symm; subst e1; subst e2
      refine j_ifb_ne X 32 dX10_queue_26 (by decide) (fun c_26 => ?_) (fun c_26 => ?_)
      · refine j_aload_n X dX10_queue_32 rfl ?_
        refine j_getR X 10 0 (by decide) (by decide) rfl u238 (o0 np) (k0 np) _ (p0_0 np) dX10_queue_33 ?_
        refine j_iload_n X dX10_queue_36 rfl ?_
        refine j_iload_n X dX10_queue_37 rfl ?_
        refine j_iconst X dX10_queue_38 2 (by decide) ?_
        refine j_iload_n X dX10_queue_39 rfl ?_
        refine j_imul X dX10_queue_40 ?_
        refine j_nrm (nI (2 * q)) (by simp only [fa_lit, pk_mul]) ?_
        refine s_callVi X hR (c_trouble np _ s z (nI i) (nI (2 * q)) hs hz hm (by rw [nI_toInt (by omega), nI_toInt (by omega)]; omega)) rfl 7 (by decide) (o1 np) (k1 np) rfl u316 u313 u314 u315 u2 hyX7_troubleAt (by decide) (by decide) (Nat.le_of_ble_eq_true rfl) dX10_queue_41 (fun v_41 m_41 h_41 => ?_)
        obtain ⟨e1, e2⟩ := h_41; have e1 := e1.symm; have e2 := e2.symm; subst e1; subst e2
        refine j_istore X dX10_queue_44 (by decide) ?_
        refine j_iload X dX10_queue_46 rfl ?_
        refine j_if_eq X 58 dX10_queue_48 (by decide) (fun c_48 => ?_) (fun c_48 => absurd c_48 (by decide))
        refine j_aload_n X dX10_queue_58 rfl ?_
        refine j_getR X 10 9 (by decide) (by decide) rfl u247 (o0 np) (k0 np) _ (p0_9 np) dX10_queue_59 ?_
        refine j_aload_n X dX10_queue_62 rfl ?_
        refine j_getR X 10 0 (by decide) (by decide) rfl u238 (o0 np) (k0 np) _ (p0_0 np) dX10_queue_63 ?_
        refine j_getR X 7 0 (by decide) (by decide) rfl u41 (o1 np) (k1 np) _ (p1_0 np) dX10_queue_66 ?_
        refine j_iload_n X dX10_queue_69 rfl ?_
        refine j_nrm _ (by first | (simp only [fa_lit, pk_mul, nI_add]; done) | (simp only [fa_lit, pk_mul, nI_add]; rfl) | rfl) ?_
        refine j_aaldIN X (o2 np) (k2 np) (by rw [l2]; omega) (by rw [l2]; decide) (p2_r np (by omega)) dX10_queue_70 ?_
        refine j_iload_n X dX10_queue_71 rfl ?_
        refine j_iload_n X dX10_queue_72 rfl ?_
        refine s_callVi X hR (c_ltake_bad np _ s i q hs hq (by omega) hno) rfl 4 (by decide) (o58 np) (k58 np) rfl u830 u827 u828 u829 u10 hyX4_take (by decide) (by decide) (Nat.le_of_ble_eq_true rfl) dX10_queue_73 (fun v_73 m_73 h_73 => ?_)
        obtain ⟨e1, hJ⟩ := h_73; have e1 := e1.symm; subst e1
        refine j_if_ne X 82 dX10_queue_76 (by decide) (fun c_76 => absurd c_76 (by decide)) (fun c_76 => ?_)
        refine j_ldc X dX10_queue_79 u295 ?_
        refine s_iret X hE hr dX10_queue_81 rfl ?_
        exact ⟨rfl, hJ⟩
      · exfalso
        clear hE hr hR X
        have e1 : (-1 : Int32).toInt = -1 := by decide
        (try simp only [lg_cmp_lt, lg_cmp_gt, lg_cmp_le, lg_cmp_ge] at *); (try simp (disch := omega) only [Int64.le_iff_toInt_le, Int64.lt_iff_toInt_lt, Int32.le_iff_toInt_le, Int32.lt_iff_toInt_lt, fa_eq, fa_lit, fa_litL, nI_toInt, pk_lT, Int32.toInt_toInt64, jadd64, jin, jnoneT] at *); omega
set_option maxRecDepth 4000 in
set_option maxHeartbeats 1000000 in
theorem c_queue_sum (np : Nat) (mem : jMem) (s i q z : Nat) (hs : s < 8) (hq1 : 1 ≤ q) (hq : q ≤ 7) (hz : z ≤ 60) (hm : mem 12 s = nI z) (hi : i + 2 * q ≤ z) (hok : jQok (fun k => mem (3 + s) (i + k)) q) : jPi yX10_queue cX10_queue 6 .int 12 [.ref 0, .int (nI s), .int (nI i), .int (nI q), .int (-1)] np mem (fun v c => v = nI (jQR (jQcm (fun k => mem (3 + s) (i + k)) q) (jQlm (fun k => mem (3 + s) (i + k)) q) q).1 ∧ jeq [58, 59, 60, 61, 62] (jup mem 0 14 0) c) := by
  refine jPi.of (own := RX10) rfl rfl (Nat.le_of_ble_eq_true rfl) (fun G X hR hr hE => ?_)
  refine j_iload_n X dX10_queue_0 rfl ?_
  refine s_callSi X hR (c_isNumber np _ _) rfl u290 u288 u289 u2 hyX7_isNumber (by decide) (by decide) (Nat.le_of_ble_eq_true rfl) dX10_queue_1 (fun v_1 m_1 h_1 => ?_)
  obtain ⟨e1, e2⟩ := h_1; have e1 := e1.symm; have e2 := e2.symm; subst e1; subst e2
  refine j_ifb_eq X 29 dX10_queue_4 (by decide) (fun c_4 => ?_) (fun c_4 => ?_)
  · exfalso
    clear hE hr hR X
    have e1 : (-1 : Int32).toInt = -1 := by decide
    (try simp only [lg_cmp_lt, lg_cmp_gt, lg_cmp_le, lg_cmp_ge] at *); (try simp (disch := omega) only [Int64.le_iff_toInt_le, Int64.lt_iff_toInt_lt, Int32.le_iff_toInt_le, Int32.lt_iff_toInt_lt, fa_eq, fa_lit, fa_litL, nI_toInt, pk_lT, Int32.toInt_toInt64, jadd64, jin, jnoneT] at *); omega
  · refine j_iload_n X dX10_queue_7 rfl ?_
    refine j_iconst X dX10_queue_8 1 (by decide) ?_
    refine j_bipush X dX10_queue_9 7 (by decide) ?_
    refine s_callSi X hR (c_withinI np _ _ _ _ (1) (7) rfl rfl) rfl u293 u294 u292 u1 hyX10_within (by decide) (by decide) (Nat.le_of_ble_eq_true rfl) dX10_queue_11 (fun v_11 m_11 h_11 => ?_)
    obtain ⟨e1, e2⟩ := h_11; have e1 := e1.symm; have e2 := e2.symm; subst e1; subst e2
    refine j_ifb_eq X 29 dX10_queue_14 (by decide) (fun c_14 => ?_) (fun c_14 => ?_)
    · exfalso
      clear hE hr hR X
      have e1 : (-1 : Int32).toInt = -1 := by decide
      (try simp only [lg_cmp_lt, lg_cmp_gt, lg_cmp_le, lg_cmp_ge] at *); (try simp (disch := omega) only [Int64.le_iff_toInt_le, Int64.lt_iff_toInt_lt, Int32.le_iff_toInt_le, Int32.lt_iff_toInt_lt, fa_eq, fa_lit, fa_litL, nI_toInt, pk_lT, Int32.toInt_toInt64, jadd64, jin, jnoneT] at *); omega
    · refine j_iload X dX10_queue_17 rfl ?_
      refine j_iconst X dX10_queue_19 (-1) (by decide) ?_
      refine j_iload_n X dX10_queue_20 rfl ?_
      refine j_iconst X dX10_queue_21 1 (by decide) ?_
      refine j_isub X dX10_queue_22 ?_
      refine s_callSi X hR (c_withinI np _ _ _ _ (-1) ((nI q).toInt - 1) (by decide) (jsubq (q := nI q) ⟨by rw [nI_toInt (by omega)]; omega, by rw [nI_toInt (by omega)]; omega⟩).2) rfl u293 u294 u292 u1 hyX10_within (by decide) (by decide) (Nat.le_of_ble_eq_true rfl) dX10_queue_23 (fun v_23 m_23 h_23 => ?_)
      obtain ⟨e1, e2⟩ := h_23; have e1 := e1.symm; have e2 := e2.symm; subst e1; subst e2
      refine j_ifb_ne X 32 dX10_queue_26 (by decide) (fun c_26 => ?_) (fun c_26 => ?_)
      · refine j_aload_n X dX10_queue_32 rfl ?_
        refine j_getR X 10 0 (by decide) (by decide) rfl u238 (o0 np) (k0 np) _ (p0_0 np) dX10_queue_33 ?_
        refine j_iload_n X dX10_queue_36 rfl ?_
        refine j_iload_n X dX10_queue_37 rfl ?_
        refine j_iconst X dX10_queue_38 2 (by decide) ?_
        refine j_iload_n X dX10_queue_39 rfl ?_
        refine j_imul X dX10_queue_40 ?_
        refine j_nrm (nI (2 * q)) (by simp only [fa_lit, pk_mul]) ?_
        refine s_callVi X hR (c_trouble np _ s z (nI i) (nI (2 * q)) hs hz hm (by rw [nI_toInt (by omega), nI_toInt (by omega)]; omega)) rfl 7 (by decide) (o1 np) (k1 np) rfl u316 u313 u314 u315 u2 hyX7_troubleAt (by decide) (by decide) (Nat.le_of_ble_eq_true rfl) dX10_queue_41 (fun v_41 m_41 h_41 => ?_)
        obtain ⟨e1, e2⟩ := h_41; have e1 := e1.symm; have e2 := e2.symm; subst e1; subst e2
        refine j_istore X dX10_queue_44 (by decide) ?_
        refine j_iload X dX10_queue_46 rfl ?_
        refine j_if_eq X 58 dX10_queue_48 (by decide) (fun c_48 => ?_) (fun c_48 => absurd c_48 (by decide))
        refine j_aload_n X dX10_queue_58 rfl ?_
        refine j_getR X 10 9 (by decide) (by decide) rfl u247 (o0 np) (k0 np) _ (p0_9 np) dX10_queue_59 ?_
        refine j_aload_n X dX10_queue_62 rfl ?_
        refine j_getR X 10 0 (by decide) (by decide) rfl u238 (o0 np) (k0 np) _ (p0_0 np) dX10_queue_63 ?_
        refine j_getR X 7 0 (by decide) (by decide) rfl u41 (o1 np) (k1 np) _ (p1_0 np) dX10_queue_66 ?_
        refine j_iload_n X dX10_queue_69 rfl ?_
        refine j_nrm _ (by first | (simp only [fa_lit, pk_mul, nI_add]; done) | (simp only [fa_lit, pk_mul, nI_add]; rfl) | rfl) ?_
        refine j_aaldIN X (o2 np) (k2 np) (by rw [l2]; omega) (by rw [l2]; decide) (p2_r np (by omega)) dX10_queue_70 ?_
        refine j_iload_n X dX10_queue_71 rfl ?_
        refine j_iload_n X dX10_queue_72 rfl ?_
        refine s_callVi X hR (c_ltake np _ s i q hs hq (by omega) hok) rfl 4 (by decide) (o58 np) (k58 np) rfl u830 u827 u828 u829 u10 hyX4_take (by decide) (by decide) (Nat.le_of_ble_eq_true rfl) dX10_queue_73 (fun v_73 m_73 h_73 => ?_)
        obtain ⟨e1, hJ, hW, hT⟩ := h_73; have e1 := e1.symm; subst e1
        refine j_if_ne X 82 dX10_queue_76 (by decide) (fun c_76 => ?_) (fun c_76 => absurd c_76 (by decide))
        refine j_aload_n X dX10_queue_82 rfl ?_
        refine j_getR X 10 9 (by decide) (by decide) rfl u247 (o0 np) (k0 np) _ (p0_9 np) dX10_queue_83 ?_
        refine s_callVv X hR (c_findBest np _ q (jQcm (fun k => mem (3 + s) (i + k)) q) (jQlm (fun k => mem (3 + s) (i + k)) q) hq1 hq hW (jQcm_le hok) (jQlm_le hok) (fun w hw => (hT w hw).1.trans (jQcm_e hok hw)) (fun w hw => (hT w hw).2.trans (jQlm_e hok hw))) rfl 4 (by decide) (o58 np) (k58 np) rfl u835 u832 u833 u834 u10 hyX4_findBest (by decide) (by decide) (Nat.le_of_ble_eq_true rfl) dX10_queue_86 (fun m_86 h_86 => ?_)
        obtain ⟨hJ5, hS4, hB5⟩ := h_86
        refine j_aload_n X dX10_queue_89 rfl ?_
        refine j_iload X dX10_queue_90 rfl ?_
        refine j_iconst X dX10_queue_92 (-1) (by decide) ?_
        refine j_icmp_ne X 106 dX10_queue_93 (by decide) (fun c_93 => absurd c_93 (by decide)) (fun c_93 => ?_)
        refine j_aload_n X dX10_queue_96 rfl ?_
        refine j_getR X 10 9 (by decide) (by decide) rfl u247 (o0 np) (k0 np) _ (p0_9 np) dX10_queue_97 ?_
        refine j_getF X 4 4 (by decide) (by decide) rfl u208 (o58 np) (k58 np) (m_86 58) rfl dX10_queue_100 ?_
        refine j_nrm _ hS4 ?_
        refine j_goto X 116 dX10_queue_103 (by decide) ?_
        refine s_callVi X hR (c_found np _ _) rfl 10 (by decide) (o0 np) (k0 np) rfl u308 u305 u307 qp1 u1 hyX10_found (by decide) (by decide) (Nat.le_of_ble_eq_true rfl) dX10_queue_116 (fun v_116 m_116 h_116 => ?_)
        obtain ⟨e1, e2⟩ := h_116; have e1 := e1.symm; have e2 := e2.symm; subst e1; subst e2
        refine s_iret X hE hr dX10_queue_119 rfl ?_
        exact ⟨rfl, jeq.cg ((hJ.mo (T := [58, 59, 60, 61, 62]) (by simp)).tr (hJ5.mo (by simp))) (by decide)⟩
      · exfalso
        clear hE hr hR X
        have e1 : (-1 : Int32).toInt = -1 := by decide
        (try simp only [lg_cmp_lt, lg_cmp_gt, lg_cmp_le, lg_cmp_ge] at *); (try simp (disch := omega) only [Int64.le_iff_toInt_le, Int64.lt_iff_toInt_lt, Int32.le_iff_toInt_le, Int32.lt_iff_toInt_lt, fa_eq, fa_lit, fa_litL, nI_toInt, pk_lT, Int32.toInt_toInt64, jadd64, jin, jnoneT] at *); omega
set_option maxRecDepth 4000 in
set_option maxHeartbeats 1000000 in
theorem c_queue_at_null (np : Nat) (mem : jMem) (s q k : Nat) (i : Int32) (hs : s < 8) (hq1 : 1 ≤ q) (hq : q ≤ 7) (hkq : k < q) (hm : mem 12 s = -1) : jPi yX10_queue cX10_queue 6 .int 12 [.ref 0, .int (nI s), .int i, .int (nI q), .int (nI k)] np mem (fun v c => v = -1000010 - 1 ∧ c = jup mem 0 14 1) := by
  refine jPi.of (own := RX10) rfl rfl (Nat.le_of_ble_eq_true rfl) (fun G X hR hr hE => ?_)
  refine j_iload_n X dX10_queue_0 rfl ?_
  refine s_callSi X hR (c_isNumber np _ _) rfl u290 u288 u289 u2 hyX7_isNumber (by decide) (by decide) (Nat.le_of_ble_eq_true rfl) dX10_queue_1 (fun v_1 m_1 h_1 => ?_)
  obtain ⟨e1, e2⟩ := h_1; have e1 := e1.symm; have e2 := e2.symm; subst e1; subst e2
  refine j_ifb_eq X 29 dX10_queue_4 (by decide) (fun c_4 => ?_) (fun c_4 => ?_)
  · exfalso
    clear hE hr hR X
    have e1 : (-1 : Int32).toInt = -1 := by decide
    (try simp only [lg_cmp_lt, lg_cmp_gt, lg_cmp_le, lg_cmp_ge] at *); (try simp (disch := omega) only [Int64.le_iff_toInt_le, Int64.lt_iff_toInt_lt, Int32.le_iff_toInt_le, Int32.lt_iff_toInt_lt, fa_eq, fa_lit, fa_litL, nI_toInt, pk_lT, Int32.toInt_toInt64, jadd64, jin, jnoneT] at *); omega
  · refine j_iload_n X dX10_queue_7 rfl ?_
    refine j_iconst X dX10_queue_8 1 (by decide) ?_
    refine j_bipush X dX10_queue_9 7 (by decide) ?_
    refine s_callSi X hR (c_withinI np _ _ _ _ (1) (7) rfl rfl) rfl u293 u294 u292 u1 hyX10_within (by decide) (by decide) (Nat.le_of_ble_eq_true rfl) dX10_queue_11 (fun v_11 m_11 h_11 => ?_)
    obtain ⟨e1, e2⟩ := h_11; have e1 := e1.symm; have e2 := e2.symm; subst e1; subst e2
    refine j_ifb_eq X 29 dX10_queue_14 (by decide) (fun c_14 => ?_) (fun c_14 => ?_)
    · exfalso
      clear hE hr hR X
      have e1 : (-1 : Int32).toInt = -1 := by decide
      (try simp only [lg_cmp_lt, lg_cmp_gt, lg_cmp_le, lg_cmp_ge] at *); (try simp (disch := omega) only [Int64.le_iff_toInt_le, Int64.lt_iff_toInt_lt, Int32.le_iff_toInt_le, Int32.lt_iff_toInt_lt, fa_eq, fa_lit, fa_litL, nI_toInt, pk_lT, Int32.toInt_toInt64, jadd64, jin, jnoneT] at *); omega
    · refine j_iload X dX10_queue_17 rfl ?_
      refine j_iconst X dX10_queue_19 (-1) (by decide) ?_
      refine j_iload_n X dX10_queue_20 rfl ?_
      refine j_iconst X dX10_queue_21 1 (by decide) ?_
      refine j_isub X dX10_queue_22 ?_
      refine s_callSi X hR (c_withinI np _ _ _ _ (-1) ((nI q).toInt - 1) (by decide) (jsubq (q := nI q) ⟨by rw [nI_toInt (by omega)]; omega, by rw [nI_toInt (by omega)]; omega⟩).2) rfl u293 u294 u292 u1 hyX10_within (by decide) (by decide) (Nat.le_of_ble_eq_true rfl) dX10_queue_23 (fun v_23 m_23 h_23 => ?_)
      obtain ⟨e1, e2⟩ := h_23; have e1 := e1.symm; have e2 := e2.symm; subst e1; subst e2
      refine j_ifb_ne X 32 dX10_queue_26 (by decide) (fun c_26 => ?_) (fun c_26 => ?_)
      · refine j_aload_n X dX10_queue_32 rfl ?_
        refine j_getR X 10 0 (by decide) (by decide) rfl u238 (o0 np) (k0 np) _ (p0_0 np) dX10_queue_33 ?_
        refine j_iload_n X dX10_queue_36 rfl ?_
        refine j_iload_n X dX10_queue_37 rfl ?_
        refine j_iconst X dX10_queue_38 2 (by decide) ?_
        refine j_iload_n X dX10_queue_39 rfl ?_
        refine j_imul X dX10_queue_40 ?_
        refine j_nrm (nI (2 * q)) (by simp only [fa_lit, pk_mul]) ?_
        refine s_callVi X hR (c_trouble_null np _ s i _ hs hm) rfl 7 (by decide) (o1 np) (k1 np) rfl u316 u313 u314 u315 u2 hyX7_troubleAt (by decide) (by decide) (Nat.le_of_ble_eq_true rfl) dX10_queue_41 (fun v_41 m_41 h_41 => ?_)
        obtain ⟨e1, e2⟩ := h_41; have e1 := e1.symm; have e2 := e2.symm; subst e1; subst e2
        refine j_istore X dX10_queue_44 (by decide) ?_
        refine j_iload X dX10_queue_46 rfl ?_
        refine j_if_eq X 58 dX10_queue_48 (by decide) (fun c_48 => absurd c_48 (by decide)) (fun c_48 => ?_)
        refine j_aload_n X dX10_queue_51 rfl ?_
        refine j_iload X dX10_queue_52 rfl ?_
        refine s_callVi X hR (c_finding np _ _) rfl 10 (by decide) (o0 np) (k0 np) rfl u299 u296 u298 qp0 u1 hyX10_finding (by decide) (by decide) (Nat.le_of_ble_eq_true rfl) dX10_queue_54 (fun v_54 m_54 h_54 => ?_)
        obtain ⟨e1, e2⟩ := h_54; have e1 := e1.symm; have e2 := e2.symm; subst e1; subst e2
        refine s_iret X hE hr dX10_queue_57 rfl ?_
        first | exact ⟨rfl, rfl⟩ | (exfalso; clear hE hr hR X; (try simp only [lg_cmp_lt, lg_cmp_gt, lg_cmp_le, lg_cmp_ge] at *); (try simp (disch := omega) only [Int64.le_iff_toInt_le, Int64.lt_iff_toInt_lt, Int32.le_iff_toInt_le, Int32.lt_iff_toInt_lt, fa_eq, fa_lit, fa_litL, nI_toInt, pk_lT, Int32.toInt_toInt64, jadd64, jin, jnoneT] at *); omega)
      · exfalso
        clear hE hr hR X
        have e1 : (-1 : Int32).toInt = -1 := by decide
        (try simp only [lg_cmp_lt, lg_cmp_gt, lg_cmp_le, lg_cmp_ge] at *); (try simp (disch := omega) only [Int64.le_iff_toInt_le, Int64.lt_iff_toInt_lt, Int32.le_iff_toInt_le, Int32.lt_iff_toInt_lt, fa_eq, fa_lit, fa_litL, nI_toInt, pk_lT, Int32.toInt_toInt64, jadd64, jin, jnoneT] at *); omega
set_option maxRecDepth 4000 in
set_option maxHeartbeats 1000000 in
theorem c_queue_at_place (np : Nat) (mem : jMem) (s q z k : Nat) (i : Int32) (hs : s < 8) (hq1 : 1 ≤ q) (hq : q ≤ 7) (hkq : k < q) (hz : z ≤ 60) (hm : mem 12 s = nI z) (hi : ¬ (0 ≤ i.toInt ∧ i.toInt + (nI (2 * q)).toInt ≤ z)) : jPi yX10_queue cX10_queue 6 .int 12 [.ref 0, .int (nI s), .int i, .int (nI q), .int (nI k)] np mem (fun v c => v = -1000010 - 2 ∧ c = jup mem 0 14 2) := by
  refine jPi.of (own := RX10) rfl rfl (Nat.le_of_ble_eq_true rfl) (fun G X hR hr hE => ?_)
  refine j_iload_n X dX10_queue_0 rfl ?_
  refine s_callSi X hR (c_isNumber np _ _) rfl u290 u288 u289 u2 hyX7_isNumber (by decide) (by decide) (Nat.le_of_ble_eq_true rfl) dX10_queue_1 (fun v_1 m_1 h_1 => ?_)
  obtain ⟨e1, e2⟩ := h_1; have e1 := e1.symm; have e2 := e2.symm; subst e1; subst e2
  refine j_ifb_eq X 29 dX10_queue_4 (by decide) (fun c_4 => ?_) (fun c_4 => ?_)
  · exfalso
    clear hE hr hR X
    have e1 : (-1 : Int32).toInt = -1 := by decide
    (try simp only [lg_cmp_lt, lg_cmp_gt, lg_cmp_le, lg_cmp_ge] at *); (try simp (disch := omega) only [Int64.le_iff_toInt_le, Int64.lt_iff_toInt_lt, Int32.le_iff_toInt_le, Int32.lt_iff_toInt_lt, fa_eq, fa_lit, fa_litL, nI_toInt, pk_lT, Int32.toInt_toInt64, jadd64, jin, jnoneT] at *); omega
  · refine j_iload_n X dX10_queue_7 rfl ?_
    refine j_iconst X dX10_queue_8 1 (by decide) ?_
    refine j_bipush X dX10_queue_9 7 (by decide) ?_
    refine s_callSi X hR (c_withinI np _ _ _ _ (1) (7) rfl rfl) rfl u293 u294 u292 u1 hyX10_within (by decide) (by decide) (Nat.le_of_ble_eq_true rfl) dX10_queue_11 (fun v_11 m_11 h_11 => ?_)
    obtain ⟨e1, e2⟩ := h_11; have e1 := e1.symm; have e2 := e2.symm; subst e1; subst e2
    refine j_ifb_eq X 29 dX10_queue_14 (by decide) (fun c_14 => ?_) (fun c_14 => ?_)
    · exfalso
      clear hE hr hR X
      have e1 : (-1 : Int32).toInt = -1 := by decide
      (try simp only [lg_cmp_lt, lg_cmp_gt, lg_cmp_le, lg_cmp_ge] at *); (try simp (disch := omega) only [Int64.le_iff_toInt_le, Int64.lt_iff_toInt_lt, Int32.le_iff_toInt_le, Int32.lt_iff_toInt_lt, fa_eq, fa_lit, fa_litL, nI_toInt, pk_lT, Int32.toInt_toInt64, jadd64, jin, jnoneT] at *); omega
    · refine j_iload X dX10_queue_17 rfl ?_
      refine j_iconst X dX10_queue_19 (-1) (by decide) ?_
      refine j_iload_n X dX10_queue_20 rfl ?_
      refine j_iconst X dX10_queue_21 1 (by decide) ?_
      refine j_isub X dX10_queue_22 ?_
      refine s_callSi X hR (c_withinI np _ _ _ _ (-1) ((nI q).toInt - 1) (by decide) (jsubq (q := nI q) ⟨by rw [nI_toInt (by omega)]; omega, by rw [nI_toInt (by omega)]; omega⟩).2) rfl u293 u294 u292 u1 hyX10_within (by decide) (by decide) (Nat.le_of_ble_eq_true rfl) dX10_queue_23 (fun v_23 m_23 h_23 => ?_)
      obtain ⟨e1, e2⟩ := h_23; have e1 := e1.symm; have e2 := e2.symm; subst e1; subst e2
      refine j_ifb_ne X 32 dX10_queue_26 (by decide) (fun c_26 => ?_) (fun c_26 => ?_)
      · refine j_aload_n X dX10_queue_32 rfl ?_
        refine j_getR X 10 0 (by decide) (by decide) rfl u238 (o0 np) (k0 np) _ (p0_0 np) dX10_queue_33 ?_
        refine j_iload_n X dX10_queue_36 rfl ?_
        refine j_iload_n X dX10_queue_37 rfl ?_
        refine j_iconst X dX10_queue_38 2 (by decide) ?_
        refine j_iload_n X dX10_queue_39 rfl ?_
        refine j_imul X dX10_queue_40 ?_
        refine j_nrm (nI (2 * q)) (by simp only [fa_lit, pk_mul]) ?_
        refine s_callVi X hR (c_trouble_place np _ s z i _ hs hz hm (fun g => hi ⟨g.1, g.2.2⟩)) rfl 7 (by decide) (o1 np) (k1 np) rfl u316 u313 u314 u315 u2 hyX7_troubleAt (by decide) (by decide) (Nat.le_of_ble_eq_true rfl) dX10_queue_41 (fun v_41 m_41 h_41 => ?_)
        obtain ⟨e1, e2⟩ := h_41; have e1 := e1.symm; have e2 := e2.symm; subst e1; subst e2
        refine j_istore X dX10_queue_44 (by decide) ?_
        refine j_iload X dX10_queue_46 rfl ?_
        refine j_if_eq X 58 dX10_queue_48 (by decide) (fun c_48 => absurd c_48 (by decide)) (fun c_48 => ?_)
        refine j_aload_n X dX10_queue_51 rfl ?_
        refine j_iload X dX10_queue_52 rfl ?_
        refine s_callVi X hR (c_finding np _ _) rfl 10 (by decide) (o0 np) (k0 np) rfl u299 u296 u298 qp0 u1 hyX10_finding (by decide) (by decide) (Nat.le_of_ble_eq_true rfl) dX10_queue_54 (fun v_54 m_54 h_54 => ?_)
        obtain ⟨e1, e2⟩ := h_54; have e1 := e1.symm; have e2 := e2.symm; subst e1; subst e2
        refine s_iret X hE hr dX10_queue_57 rfl ?_
        first | exact ⟨rfl, rfl⟩ | (exfalso; clear hE hr hR X; (try simp only [lg_cmp_lt, lg_cmp_gt, lg_cmp_le, lg_cmp_ge] at *); (try simp (disch := omega) only [Int64.le_iff_toInt_le, Int64.lt_iff_toInt_lt, Int32.le_iff_toInt_le, Int32.lt_iff_toInt_lt, fa_eq, fa_lit, fa_litL, nI_toInt, pk_lT, Int32.toInt_toInt64, jadd64, jin, jnoneT] at *); omega)
      · exfalso
        clear hE hr hR X
        have e1 : (-1 : Int32).toInt = -1 := by decide
        (try simp only [lg_cmp_lt, lg_cmp_gt, lg_cmp_le, lg_cmp_ge] at *); (try simp (disch := omega) only [Int64.le_iff_toInt_le, Int64.lt_iff_toInt_lt, Int32.le_iff_toInt_le, Int32.lt_iff_toInt_lt, fa_eq, fa_lit, fa_litL, nI_toInt, pk_lT, Int32.toInt_toInt64, jadd64, jin, jnoneT] at *); omega
set_option maxRecDepth 4000 in
set_option maxHeartbeats 1000000 in
theorem c_queue_at_item (np : Nat) (mem : jMem) (s i q z k : Nat) (hs : s < 8) (hq1 : 1 ≤ q) (hq : q ≤ 7) (hkq : k < q) (hz : z ≤ 60) (hm : mem 12 s = nI z) (hi : i + 2 * q ≤ z) (hno : ¬ jQok (fun k => mem (3 + s) (i + k)) q) : jPi yX10_queue cX10_queue 6 .int 12 [.ref 0, .int (nI s), .int (nI i), .int (nI q), .int (nI k)] np mem (fun v c => v = -1000001 ∧ jeq [58, 59, 60] mem c) := by
  refine jPi.of (own := RX10) rfl rfl (Nat.le_of_ble_eq_true rfl) (fun G X hR hr hE => ?_)
  refine j_iload_n X dX10_queue_0 rfl ?_
  refine s_callSi X hR (c_isNumber np _ _) rfl u290 u288 u289 u2 hyX7_isNumber (by decide) (by decide) (Nat.le_of_ble_eq_true rfl) dX10_queue_1 (fun v_1 m_1 h_1 => ?_)
  obtain ⟨e1, e2⟩ := h_1; have e1 := e1.symm; have e2 := e2.symm; subst e1; subst e2
  refine j_ifb_eq X 29 dX10_queue_4 (by decide) (fun c_4 => ?_) (fun c_4 => ?_)
  · exfalso
    clear hE hr hR X
    have e1 : (-1 : Int32).toInt = -1 := by decide
    (try simp only [lg_cmp_lt, lg_cmp_gt, lg_cmp_le, lg_cmp_ge] at *); (try simp (disch := omega) only [Int64.le_iff_toInt_le, Int64.lt_iff_toInt_lt, Int32.le_iff_toInt_le, Int32.lt_iff_toInt_lt, fa_eq, fa_lit, fa_litL, nI_toInt, pk_lT, Int32.toInt_toInt64, jadd64, jin, jnoneT] at *); omega
  · refine j_iload_n X dX10_queue_7 rfl ?_
    refine j_iconst X dX10_queue_8 1 (by decide) ?_
    refine j_bipush X dX10_queue_9 7 (by decide) ?_
    refine s_callSi X hR (c_withinI np _ _ _ _ (1) (7) rfl rfl) rfl u293 u294 u292 u1 hyX10_within (by decide) (by decide) (Nat.le_of_ble_eq_true rfl) dX10_queue_11 (fun v_11 m_11 h_11 => ?_)
    obtain ⟨e1, e2⟩ := h_11; have e1 := e1.symm; have e2 := e2.symm; subst e1; subst e2
    refine j_ifb_eq X 29 dX10_queue_14 (by decide) (fun c_14 => ?_) (fun c_14 => ?_)
    · exfalso
      clear hE hr hR X
      have e1 : (-1 : Int32).toInt = -1 := by decide
      (try simp only [lg_cmp_lt, lg_cmp_gt, lg_cmp_le, lg_cmp_ge] at *); (try simp (disch := omega) only [Int64.le_iff_toInt_le, Int64.lt_iff_toInt_lt, Int32.le_iff_toInt_le, Int32.lt_iff_toInt_lt, fa_eq, fa_lit, fa_litL, nI_toInt, pk_lT, Int32.toInt_toInt64, jadd64, jin, jnoneT] at *); omega
    · refine j_iload X dX10_queue_17 rfl ?_
      refine j_iconst X dX10_queue_19 (-1) (by decide) ?_
      refine j_iload_n X dX10_queue_20 rfl ?_
      refine j_iconst X dX10_queue_21 1 (by decide) ?_
      refine j_isub X dX10_queue_22 ?_
      refine s_callSi X hR (c_withinI np _ _ _ _ (-1) ((nI q).toInt - 1) (by decide) (jsubq (q := nI q) ⟨by rw [nI_toInt (by omega)]; omega, by rw [nI_toInt (by omega)]; omega⟩).2) rfl u293 u294 u292 u1 hyX10_within (by decide) (by decide) (Nat.le_of_ble_eq_true rfl) dX10_queue_23 (fun v_23 m_23 h_23 => ?_)
      obtain ⟨e1, e2⟩ := h_23; have e1 := e1.symm; have e2 := e2.symm; subst e1; subst e2
      refine j_ifb_ne X 32 dX10_queue_26 (by decide) (fun c_26 => ?_) (fun c_26 => ?_)
      · refine j_aload_n X dX10_queue_32 rfl ?_
        refine j_getR X 10 0 (by decide) (by decide) rfl u238 (o0 np) (k0 np) _ (p0_0 np) dX10_queue_33 ?_
        refine j_iload_n X dX10_queue_36 rfl ?_
        refine j_iload_n X dX10_queue_37 rfl ?_
        refine j_iconst X dX10_queue_38 2 (by decide) ?_
        refine j_iload_n X dX10_queue_39 rfl ?_
        refine j_imul X dX10_queue_40 ?_
        refine j_nrm (nI (2 * q)) (by simp only [fa_lit, pk_mul]) ?_
        refine s_callVi X hR (c_trouble np _ s z (nI i) (nI (2 * q)) hs hz hm (by rw [nI_toInt (by omega), nI_toInt (by omega)]; omega)) rfl 7 (by decide) (o1 np) (k1 np) rfl u316 u313 u314 u315 u2 hyX7_troubleAt (by decide) (by decide) (Nat.le_of_ble_eq_true rfl) dX10_queue_41 (fun v_41 m_41 h_41 => ?_)
        obtain ⟨e1, e2⟩ := h_41; have e1 := e1.symm; have e2 := e2.symm; subst e1; subst e2
        refine j_istore X dX10_queue_44 (by decide) ?_
        refine j_iload X dX10_queue_46 rfl ?_
        refine j_if_eq X 58 dX10_queue_48 (by decide) (fun c_48 => ?_) (fun c_48 => absurd c_48 (by decide))
        refine j_aload_n X dX10_queue_58 rfl ?_
        refine j_getR X 10 9 (by decide) (by decide) rfl u247 (o0 np) (k0 np) _ (p0_9 np) dX10_queue_59 ?_
        refine j_aload_n X dX10_queue_62 rfl ?_
        refine j_getR X 10 0 (by decide) (by decide) rfl u238 (o0 np) (k0 np) _ (p0_0 np) dX10_queue_63 ?_
        refine j_getR X 7 0 (by decide) (by decide) rfl u41 (o1 np) (k1 np) _ (p1_0 np) dX10_queue_66 ?_
        refine j_iload_n X dX10_queue_69 rfl ?_
        refine j_nrm _ (by first | (simp only [fa_lit, pk_mul, nI_add]; done) | (simp only [fa_lit, pk_mul, nI_add]; rfl) | rfl) ?_
        refine j_aaldIN X (o2 np) (k2 np) (by rw [l2]; omega) (by rw [l2]; decide) (p2_r np (by omega)) dX10_queue_70 ?_
        refine j_iload_n X dX10_queue_71 rfl ?_
        refine j_iload_n X dX10_queue_72 rfl ?_
        refine s_callVi X hR (c_ltake_bad np _ s i q hs hq (by omega) hno) rfl 4 (by decide) (o58 np) (k58 np) rfl u830 u827 u828 u829 u10 hyX4_take (by decide) (by decide) (Nat.le_of_ble_eq_true rfl) dX10_queue_73 (fun v_73 m_73 h_73 => ?_)
        obtain ⟨e1, hJ⟩ := h_73; have e1 := e1.symm; subst e1
        refine j_if_ne X 82 dX10_queue_76 (by decide) (fun c_76 => absurd c_76 (by decide)) (fun c_76 => ?_)
        refine j_ldc X dX10_queue_79 u295 ?_
        refine s_iret X hE hr dX10_queue_81 rfl ?_
        exact ⟨rfl, hJ⟩
      · exfalso
        clear hE hr hR X
        have e1 : (-1 : Int32).toInt = -1 := by decide
        (try simp only [lg_cmp_lt, lg_cmp_gt, lg_cmp_le, lg_cmp_ge] at *); (try simp (disch := omega) only [Int64.le_iff_toInt_le, Int64.lt_iff_toInt_lt, Int32.le_iff_toInt_le, Int32.lt_iff_toInt_lt, fa_eq, fa_lit, fa_litL, nI_toInt, pk_lT, Int32.toInt_toInt64, jadd64, jin, jnoneT] at *); omega
set_option maxRecDepth 4000 in
set_option maxHeartbeats 1000000 in
theorem c_queue_at (np : Nat) (mem : jMem) (s i q z k : Nat) (hs : s < 8) (hq1 : 1 ≤ q) (hq : q ≤ 7) (hkq : k < q) (hz : z ≤ 60) (hm : mem 12 s = nI z) (hi : i + 2 * q ≤ z) (hok : jQok (fun k => mem (3 + s) (i + k)) q) : jPi yX10_queue cX10_queue 6 .int 12 [.ref 0, .int (nI s), .int (nI i), .int (nI q), .int (nI k)] np mem (fun v c => v = nI (nF (jQR (jQcm (fun k => mem (3 + s) (i + k)) q) (jQlm (fun k => mem (3 + s) (i + k)) q) q).2 k) ∧ jeq [58, 59, 60, 61, 62] (jup mem 0 14 0) c) := by
  refine jPi.of (own := RX10) rfl rfl (Nat.le_of_ble_eq_true rfl) (fun G X hR hr hE => ?_)
  refine j_iload_n X dX10_queue_0 rfl ?_
  refine s_callSi X hR (c_isNumber np _ _) rfl u290 u288 u289 u2 hyX7_isNumber (by decide) (by decide) (Nat.le_of_ble_eq_true rfl) dX10_queue_1 (fun v_1 m_1 h_1 => ?_)
  obtain ⟨e1, e2⟩ := h_1; have e1 := e1.symm; have e2 := e2.symm; subst e1; subst e2
  refine j_ifb_eq X 29 dX10_queue_4 (by decide) (fun c_4 => ?_) (fun c_4 => ?_)
  · exfalso
    clear hE hr hR X
    have e1 : (-1 : Int32).toInt = -1 := by decide
    (try simp only [lg_cmp_lt, lg_cmp_gt, lg_cmp_le, lg_cmp_ge] at *); (try simp (disch := omega) only [Int64.le_iff_toInt_le, Int64.lt_iff_toInt_lt, Int32.le_iff_toInt_le, Int32.lt_iff_toInt_lt, fa_eq, fa_lit, fa_litL, nI_toInt, pk_lT, Int32.toInt_toInt64, jadd64, jin, jnoneT] at *); omega
  · refine j_iload_n X dX10_queue_7 rfl ?_
    refine j_iconst X dX10_queue_8 1 (by decide) ?_
    refine j_bipush X dX10_queue_9 7 (by decide) ?_
    refine s_callSi X hR (c_withinI np _ _ _ _ (1) (7) rfl rfl) rfl u293 u294 u292 u1 hyX10_within (by decide) (by decide) (Nat.le_of_ble_eq_true rfl) dX10_queue_11 (fun v_11 m_11 h_11 => ?_)
    obtain ⟨e1, e2⟩ := h_11; have e1 := e1.symm; have e2 := e2.symm; subst e1; subst e2
    refine j_ifb_eq X 29 dX10_queue_14 (by decide) (fun c_14 => ?_) (fun c_14 => ?_)
    · exfalso
      clear hE hr hR X
      have e1 : (-1 : Int32).toInt = -1 := by decide
      (try simp only [lg_cmp_lt, lg_cmp_gt, lg_cmp_le, lg_cmp_ge] at *); (try simp (disch := omega) only [Int64.le_iff_toInt_le, Int64.lt_iff_toInt_lt, Int32.le_iff_toInt_le, Int32.lt_iff_toInt_lt, fa_eq, fa_lit, fa_litL, nI_toInt, pk_lT, Int32.toInt_toInt64, jadd64, jin, jnoneT] at *); omega
    · refine j_iload X dX10_queue_17 rfl ?_
      refine j_iconst X dX10_queue_19 (-1) (by decide) ?_
      refine j_iload_n X dX10_queue_20 rfl ?_
      refine j_iconst X dX10_queue_21 1 (by decide) ?_
      refine j_isub X dX10_queue_22 ?_
      refine s_callSi X hR (c_withinI np _ _ _ _ (-1) ((nI q).toInt - 1) (by decide) (jsubq (q := nI q) ⟨by rw [nI_toInt (by omega)]; omega, by rw [nI_toInt (by omega)]; omega⟩).2) rfl u293 u294 u292 u1 hyX10_within (by decide) (by decide) (Nat.le_of_ble_eq_true rfl) dX10_queue_23 (fun v_23 m_23 h_23 => ?_)
      obtain ⟨e1, e2⟩ := h_23; have e1 := e1.symm; have e2 := e2.symm; subst e1; subst e2
      refine j_ifb_ne X 32 dX10_queue_26 (by decide) (fun c_26 => ?_) (fun c_26 => ?_)
      · refine j_aload_n X dX10_queue_32 rfl ?_
        refine j_getR X 10 0 (by decide) (by decide) rfl u238 (o0 np) (k0 np) _ (p0_0 np) dX10_queue_33 ?_
        refine j_iload_n X dX10_queue_36 rfl ?_
        refine j_iload_n X dX10_queue_37 rfl ?_
        refine j_iconst X dX10_queue_38 2 (by decide) ?_
        refine j_iload_n X dX10_queue_39 rfl ?_
        refine j_imul X dX10_queue_40 ?_
        refine j_nrm (nI (2 * q)) (by simp only [fa_lit, pk_mul]) ?_
        refine s_callVi X hR (c_trouble np _ s z (nI i) (nI (2 * q)) hs hz hm (by rw [nI_toInt (by omega), nI_toInt (by omega)]; omega)) rfl 7 (by decide) (o1 np) (k1 np) rfl u316 u313 u314 u315 u2 hyX7_troubleAt (by decide) (by decide) (Nat.le_of_ble_eq_true rfl) dX10_queue_41 (fun v_41 m_41 h_41 => ?_)
        obtain ⟨e1, e2⟩ := h_41; have e1 := e1.symm; have e2 := e2.symm; subst e1; subst e2
        refine j_istore X dX10_queue_44 (by decide) ?_
        refine j_iload X dX10_queue_46 rfl ?_
        refine j_if_eq X 58 dX10_queue_48 (by decide) (fun c_48 => ?_) (fun c_48 => absurd c_48 (by decide))
        refine j_aload_n X dX10_queue_58 rfl ?_
        refine j_getR X 10 9 (by decide) (by decide) rfl u247 (o0 np) (k0 np) _ (p0_9 np) dX10_queue_59 ?_
        refine j_aload_n X dX10_queue_62 rfl ?_
        refine j_getR X 10 0 (by decide) (by decide) rfl u238 (o0 np) (k0 np) _ (p0_0 np) dX10_queue_63 ?_
        refine j_getR X 7 0 (by decide) (by decide) rfl u41 (o1 np) (k1 np) _ (p1_0 np) dX10_queue_66 ?_
        refine j_iload_n X dX10_queue_69 rfl ?_
        refine j_nrm _ (by first | (simp only [fa_lit, pk_mul, nI_add]; done) | (simp only [fa_lit, pk_mul, nI_add]; rfl) | rfl) ?_
        refine j_aaldIN X (o2 np) (k2 np) (by rw [l2]; omega) (by rw [l2]; decide) (p2_r np (by omega)) dX10_queue_70 ?_
        refine j_iload_n X dX10_queue_71 rfl ?_
        refine j_iload_n X dX10_queue_72 rfl ?_
        refine s_callVi X hR (c_ltake np _ s i q hs hq (by omega) hok) rfl 4 (by decide) (o58 np) (k58 np) rfl u830 u827 u828 u829 u10 hyX4_take (by decide) (by decide) (Nat.le_of_ble_eq_true rfl) dX10_queue_73 (fun v_73 m_73 h_73 => ?_)
        obtain ⟨e1, hJ, hW, hT⟩ := h_73; have e1 := e1.symm; subst e1
        refine j_if_ne X 82 dX10_queue_76 (by decide) (fun c_76 => ?_) (fun c_76 => absurd c_76 (by decide))
        refine j_aload_n X dX10_queue_82 rfl ?_
        refine j_getR X 10 9 (by decide) (by decide) rfl u247 (o0 np) (k0 np) _ (p0_9 np) dX10_queue_83 ?_
        refine s_callVv X hR (c_findBest np _ q (jQcm (fun k => mem (3 + s) (i + k)) q) (jQlm (fun k => mem (3 + s) (i + k)) q) hq1 hq hW (jQcm_le hok) (jQlm_le hok) (fun w hw => (hT w hw).1.trans (jQcm_e hok hw)) (fun w hw => (hT w hw).2.trans (jQlm_e hok hw))) rfl 4 (by decide) (o58 np) (k58 np) rfl u835 u832 u833 u834 u10 hyX4_findBest (by decide) (by decide) (Nat.le_of_ble_eq_true rfl) dX10_queue_86 (fun m_86 h_86 => ?_)
        obtain ⟨hJ5, hS4, hB5⟩ := h_86
        refine j_aload_n X dX10_queue_89 rfl ?_
        refine j_iload X dX10_queue_90 rfl ?_
        refine j_iconst X dX10_queue_92 (-1) (by decide) ?_
        refine j_icmp_ne X 106 dX10_queue_93 (by decide) (fun c_93 => ?_) (fun c_93 => absurd (c_93 : nI k = -1) (jnm1 (by omega)))
        refine j_aload_n X dX10_queue_106 rfl ?_
        refine j_getR X 10 9 (by decide) (by decide) rfl u247 (o0 np) (k0 np) _ (p0_9 np) dX10_queue_107 ?_
        refine j_getR X 4 3 (by decide) (by decide) rfl u206 (o58 np) (k58 np) _ (p58_3 np) dX10_queue_110 ?_
        refine j_iload X dX10_queue_113 rfl ?_
        refine j_nrm _ (by first | (simp only [fa_lit, pk_mul, nI_add]; done) | (simp only [fa_lit, pk_mul, nI_add]; rfl) | rfl) ?_
        refine j_ialdN X (o62 np) (k62 np) (by rw [l62]; omega) (by rw [l62]; decide) (m_86 62) rfl dX10_queue_115 ?_
        refine j_nrm _ (hB5 k hkq) ?_
        refine s_callVi X hR (c_found np _ _) rfl 10 (by decide) (o0 np) (k0 np) rfl u308 u305 u307 qp1 u1 hyX10_found (by decide) (by decide) (Nat.le_of_ble_eq_true rfl) dX10_queue_116 (fun v_116 m_116 h_116 => ?_)
        obtain ⟨e1, e2⟩ := h_116; have e1 := e1.symm; have e2 := e2.symm; subst e1; subst e2
        refine s_iret X hE hr dX10_queue_119 rfl ?_
        exact ⟨rfl, jeq.cg ((hJ.mo (T := [58, 59, 60, 61, 62]) (by simp)).tr (hJ5.mo (by simp))) (by decide)⟩
      · exfalso
        clear hE hr hR X
        have e1 : (-1 : Int32).toInt = -1 := by decide
        (try simp only [lg_cmp_lt, lg_cmp_gt, lg_cmp_le, lg_cmp_ge] at *); (try simp (disch := omega) only [Int64.le_iff_toInt_le, Int64.lt_iff_toInt_lt, Int32.le_iff_toInt_le, Int32.lt_iff_toInt_lt, fa_eq, fa_lit, fa_litL, nI_toInt, pk_lT, Int32.toInt_toInt64, jadd64, jin, jnoneT] at *); omega
