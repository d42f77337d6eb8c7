theorem jPcnt {g : Nat → Prop} [DecidablePred g] {k : Nat} {x : Int32} (h : (g k ∧ x = 1) ∨ (¬ g k ∧ x = 0)) : nI (jCnt g k) + x = nI (jCnt g (k + 1)) := by
  rcases h with ⟨h, rfl⟩ | ⟨h, rfl⟩
  · exact jCnt_t h
  · exact jCnt_f h
theorem jKind5 {a b c : Int32} (hc : c ≠ 5) (h : jKind a b c = 5) : a ≠ -1000000 ∧ a ≤ b := by
  unfold jKind at h
  by_cases q : a ≠ -1000000 ∧ a ≤ b
  · exact q
  · rw [if_neg q] at h
    exact absurd h hc
set_option maxRecDepth 4000 in
set_option maxHeartbeats 1000000 in
theorem m_ask_bad (np : Nat) (mem : jMem) (p w : Int32) (hn : np ≤ 12) (hp : mem 66 9 = nI np) (h : ¬ (jin p 0 ((np : Int) - 1) ∧ jin w 0 1)) : jPi yX11_ask cX11_ask 3 .int 6 [.ref 66, .int p, .int w] np mem (fun v c => v = -1000001 ∧ c = jup mem 66 0 0) := by
  refine jPi.of (own := RX11) rfl rfl (Nat.le_of_ble_eq_true rfl) (fun G X hR hr hE => ?_)
  refine j_aload_n X dX11_ask_0 rfl ?_
  refine j_iconst X dX11_ask_1 0 (by decide) ?_
  refine j_putI X 11 0 (by decide) (by decide) rfl rfl rfl rfl u950 (o66 np) (k66 np) dX11_ask_2 ?_
  refine j_aload_n X dX11_ask_5 rfl ?_
  refine j_iload_n X dX11_ask_6 rfl ?_
  refine s_callVi X hR (m_isPaper np _ _ hn hp) rfl 11 (by decide) (o66 np) (k66 np) rfl u1151 u1148 u1150 qp39 u12 hyX11_isPaper (by decide) (by decide) (Nat.le_of_ble_eq_true rfl) dX11_ask_7 (fun v_7 m_7 h_7 => ?_)
  obtain ⟨e1, e2⟩ := h_7; have e1 := e1.symm; have e2 := e2.symm; subst e1; subst e2
  refine j_ifb_eq X 23 dX11_ask_10 (by decide) (fun c_10 => ?_) (fun c_10 => ?_)
  · refine j_ldc X dX11_ask_23 u1089 ?_
    refine s_iret X hE hr dX11_ask_25 rfl ?_
    first | exact ⟨rfl, rfl⟩ | (exfalso; clear hE hr hR X; (try simp only [lg_cmp_lt, lg_cmp_gt, lg_cmp_le, lg_cmp_ge] at *); (try simp (disch := omega) only [Int64.le_iff_toInt_le, Int64.lt_iff_toInt_lt, Int32.le_iff_toInt_le, Int32.lt_iff_toInt_lt, fa_eq, fa_lit, fa_litL, nI_toInt, pk_lT, Int32.toInt_toInt64, jadd64, jin, jnoneT] at *); omega)
  · refine j_iload_n X dX11_ask_13 rfl ?_
    refine j_i2l X dX11_ask_14 ?_
    refine j_lconst X dX11_ask_15 0 (by decide) ?_
    refine j_lconst X dX11_ask_16 1 (by decide) ?_
    refine s_callSi X hR (m_inI np _ _ _ _ 0 1 rfl rfl) rfl u1087 u1085 u1086 u12 hyX11_in (by decide) (by decide) (Nat.le_of_ble_eq_true rfl) dX11_ask_17 (fun v_17 m_17 h_17 => ?_)
    obtain ⟨e1, e2⟩ := h_17; have e1 := e1.symm; have e2 := e2.symm; subst e1; subst e2
    refine j_ifb_ne X 26 dX11_ask_20 (by decide) (fun c_20 => ?_) (fun c_20 => ?_)
    · exfalso
      clear hE hr hR X
      (try simp only [lg_cmp_lt, lg_cmp_gt, lg_cmp_le, lg_cmp_ge] at *); (try simp (disch := omega) only [Int64.le_iff_toInt_le, Int64.lt_iff_toInt_lt, Int32.le_iff_toInt_le, Int32.lt_iff_toInt_lt, fa_eq, fa_lit, fa_litL, nI_toInt, pk_lT, Int32.toInt_toInt64, jadd64, jin, jnoneT] at *); omega
    · refine j_ldc X dX11_ask_23 u1089 ?_
      refine s_iret X hE hr dX11_ask_25 rfl ?_
      first | exact ⟨rfl, rfl⟩ | (exfalso; clear hE hr hR X; (try simp only [lg_cmp_lt, lg_cmp_gt, lg_cmp_le, lg_cmp_ge] at *); (try simp (disch := omega) only [Int64.le_iff_toInt_le, Int64.lt_iff_toInt_lt, Int32.le_iff_toInt_le, Int32.lt_iff_toInt_lt, fa_eq, fa_lit, fa_litL, nI_toInt, pk_lT, Int32.toInt_toInt64, jadd64, jin, jnoneT] at *); omega)
set_option maxRecDepth 4000 in
set_option maxHeartbeats 1000000 in
theorem m_ask0_0 (np : Nat) (mem : jMem) (p : Nat) (hn : np ≤ 12) (hp : mem 66 9 = nI np) (hp2 : p < np) (hk : jKind (mem 75 p) (mem 66 39) (mem 74 (9 * p + 2)) = 0) : jPi yX11_ask cX11_ask 3 .int 6 [.ref 66, .int (nI p), .int 0] np mem (fun v c => v = (mem 74 (9 * p + 4) - mem 74 (9 * p + 3) + 1) ∧ c = (jBeg (jup (jup mem 66 0 0) 66 41 0) 0 10)) := by
  refine jPi.of (own := RX11) rfl rfl (Nat.le_of_ble_eq_true rfl) (fun G X hR hr hE => ?_)
  refine j_aload_n X dX11_ask_0 rfl ?_
  refine j_iconst X dX11_ask_1 0 (by decide) ?_
  refine j_putI X 11 0 (by decide) (by decide) rfl rfl rfl rfl u950 (o66 np) (k66 np) dX11_ask_2 ?_
  refine j_aload_n X dX11_ask_5 rfl ?_
  refine j_iload_n X dX11_ask_6 rfl ?_
  refine s_callVi X hR (m_isPaper np _ _ hn hp) rfl 11 (by decide) (o66 np) (k66 np) rfl u1151 u1148 u1150 qp39 u12 hyX11_isPaper (by decide) (by decide) (Nat.le_of_ble_eq_true rfl) dX11_ask_7 (fun v_7 m_7 h_7 => ?_)
  obtain ⟨e1, e2⟩ := h_7; have e1 := e1.symm; have e2 := e2.symm; subst e1; subst e2
  refine j_ifb_eq X 23 dX11_ask_10 (by decide) (fun c_10 => ?_) (fun c_10 => ?_)
  · exfalso
    clear hE hr hR X
    (try simp only [lg_cmp_lt, lg_cmp_gt, lg_cmp_le, lg_cmp_ge] at *); (try simp (disch := omega) only [Int64.le_iff_toInt_le, Int64.lt_iff_toInt_lt, Int32.le_iff_toInt_le, Int32.lt_iff_toInt_lt, fa_eq, fa_lit, fa_litL, nI_toInt, pk_lT, Int32.toInt_toInt64, jadd64, jin, jnoneT] at *); omega
  · refine j_iload_n X dX11_ask_13 rfl ?_
    refine j_i2l X dX11_ask_14 ?_
    refine j_lconst X dX11_ask_15 0 (by decide) ?_
    refine j_lconst X dX11_ask_16 1 (by decide) ?_
    refine s_callSi X hR (m_inI np _ _ _ _ 0 1 rfl rfl) rfl u1087 u1085 u1086 u12 hyX11_in (by decide) (by decide) (Nat.le_of_ble_eq_true rfl) dX11_ask_17 (fun v_17 m_17 h_17 => ?_)
    obtain ⟨e1, e2⟩ := h_17; have e1 := e1.symm; have e2 := e2.symm; subst e1; subst e2
    refine j_ifb_ne X 26 dX11_ask_20 (by decide) (fun c_20 => ?_) (fun c_20 => ?_)
    · refine j_aload_n X dX11_ask_26 rfl ?_
      refine j_iconst X dX11_ask_27 0 (by decide) ?_
      refine j_putI X 11 41 (by decide) (by decide) rfl rfl rfl rfl u991 (o66 np) (k66 np) dX11_ask_28 ?_
      refine j_iload_n X dX11_ask_31 rfl ?_
      refine j_if_ne X 48 dX11_ask_32 (by decide) (fun c_32 => absurd c_32 (by decide)) (fun c_32 => ?_)
      refine j_aload_n X dX11_ask_35 rfl ?_
      refine j_iload_n X dX11_ask_36 rfl ?_
      refine j_aload_n X dX11_ask_37 rfl ?_
      refine j_iload_n X dX11_ask_38 rfl ?_
      refine s_callVi X hR (m_kindOf np _ p (by omega)) rfl 11 (by decide) (o66 np) (k66 np) rfl u1407 u1404 u1406 qp65 u12 hyX11_kindOf (by decide) (by decide) (Nat.le_of_ble_eq_true rfl) dX11_ask_39 (fun v_39 m_39 h_39 => ?_)
      obtain ⟨e1, e2⟩ := h_39; have e1 := e1.symm; have e2 := e2.symm; subst e1; subst e2
      refine j_nrm 0 hk ?_
      refine s_callVi X hR (m_sizeOf0 np _ p 0 (by omega) rfl (by omega)) rfl 11 (by decide) (o66 np) (k66 np) rfl u1422 u1419 u1421 qp66 u12 hyX11_sizeOf (by decide) (by decide) (Nat.le_of_ble_eq_true rfl) dX11_ask_42 (fun v_42 m_42 h_42 => ?_)
      obtain ⟨e1, e2⟩ := h_42; have e1 := e1.symm; have e2 := e2.symm; subst e1; subst e2
      refine j_goto X 58 dX11_ask_45 (by decide) ?_
      refine s_iret X hE hr dX11_ask_58 rfl ?_
      first | exact ⟨rfl, rfl⟩ | (exfalso; clear hE hr hR X; (try simp only [lg_cmp_lt, lg_cmp_gt, lg_cmp_le, lg_cmp_ge] at *); (try simp (disch := omega) only [Int64.le_iff_toInt_le, Int64.lt_iff_toInt_lt, Int32.le_iff_toInt_le, Int32.lt_iff_toInt_lt, fa_eq, fa_lit, fa_litL, nI_toInt, pk_lT, Int32.toInt_toInt64, jadd64, jin, jnoneT] at *); omega)
    · exfalso
      clear hE hr hR X
      (try simp only [lg_cmp_lt, lg_cmp_gt, lg_cmp_le, lg_cmp_ge] at *); (try simp (disch := omega) only [Int64.le_iff_toInt_le, Int64.lt_iff_toInt_lt, Int32.le_iff_toInt_le, Int32.lt_iff_toInt_lt, fa_eq, fa_lit, fa_litL, nI_toInt, pk_lT, Int32.toInt_toInt64, jadd64, jin, jnoneT] at *); omega
set_option maxRecDepth 4000 in
set_option maxHeartbeats 1000000 in
theorem m_ask0_1 (np : Nat) (mem : jMem) (p : Nat) (hn : np ≤ 12) (hp : mem 66 9 = nI np) (hp2 : p < np) (hk : jKind (mem 75 p) (mem 66 39) (mem 74 (9 * p + 2)) = 0) : jPi yX11_ask cX11_ask 3 .int 6 [.ref 66, .int (nI p), .int 1] np mem (fun v c => v = nI p ∧ c = (jBeg (jup (jup mem 66 0 0) 66 41 0) 0 20)) := by
  refine jPi.of (own := RX11) rfl rfl (Nat.le_of_ble_eq_true rfl) (fun G X hR hr hE => ?_)
  refine j_aload_n X dX11_ask_0 rfl ?_
  refine j_iconst X dX11_ask_1 0 (by decide) ?_
  refine j_putI X 11 0 (by decide) (by decide) rfl rfl rfl rfl u950 (o66 np) (k66 np) dX11_ask_2 ?_
  refine j_aload_n X dX11_ask_5 rfl ?_
  refine j_iload_n X dX11_ask_6 rfl ?_
  refine s_callVi X hR (m_isPaper np _ _ hn hp) rfl 11 (by decide) (o66 np) (k66 np) rfl u1151 u1148 u1150 qp39 u12 hyX11_isPaper (by decide) (by decide) (Nat.le_of_ble_eq_true rfl) dX11_ask_7 (fun v_7 m_7 h_7 => ?_)
  obtain ⟨e1, e2⟩ := h_7; have e1 := e1.symm; have e2 := e2.symm; subst e1; subst e2
  refine j_ifb_eq X 23 dX11_ask_10 (by decide) (fun c_10 => ?_) (fun c_10 => ?_)
  · exfalso
    clear hE hr hR X
    (try simp only [lg_cmp_lt, lg_cmp_gt, lg_cmp_le, lg_cmp_ge] at *); (try simp (disch := omega) only [Int64.le_iff_toInt_le, Int64.lt_iff_toInt_lt, Int32.le_iff_toInt_le, Int32.lt_iff_toInt_lt, fa_eq, fa_lit, fa_litL, nI_toInt, pk_lT, Int32.toInt_toInt64, jadd64, jin, jnoneT] at *); omega
  · refine j_iload_n X dX11_ask_13 rfl ?_
    refine j_i2l X dX11_ask_14 ?_
    refine j_lconst X dX11_ask_15 0 (by decide) ?_
    refine j_lconst X dX11_ask_16 1 (by decide) ?_
    refine s_callSi X hR (m_inI np _ _ _ _ 0 1 rfl rfl) rfl u1087 u1085 u1086 u12 hyX11_in (by decide) (by decide) (Nat.le_of_ble_eq_true rfl) dX11_ask_17 (fun v_17 m_17 h_17 => ?_)
    obtain ⟨e1, e2⟩ := h_17; have e1 := e1.symm; have e2 := e2.symm; subst e1; subst e2
    refine j_ifb_ne X 26 dX11_ask_20 (by decide) (fun c_20 => ?_) (fun c_20 => ?_)
    · refine j_aload_n X dX11_ask_26 rfl ?_
      refine j_iconst X dX11_ask_27 0 (by decide) ?_
      refine j_putI X 11 41 (by decide) (by decide) rfl rfl rfl rfl u991 (o66 np) (k66 np) dX11_ask_28 ?_
      refine j_iload_n X dX11_ask_31 rfl ?_
      refine j_if_ne X 48 dX11_ask_32 (by decide) (fun c_32 => ?_) (fun c_32 => absurd c_32 (by decide))
      refine j_aload_n X dX11_ask_48 rfl ?_
      refine j_iload_n X dX11_ask_49 rfl ?_
      refine j_aload_n X dX11_ask_50 rfl ?_
      refine j_iload_n X dX11_ask_51 rfl ?_
      refine s_callVi X hR (m_kindOf np _ p (by omega)) rfl 11 (by decide) (o66 np) (k66 np) rfl u1407 u1404 u1406 qp65 u12 hyX11_kindOf (by decide) (by decide) (Nat.le_of_ble_eq_true rfl) dX11_ask_52 (fun v_52 m_52 h_52 => ?_)
      obtain ⟨e1, e2⟩ := h_52; have e1 := e1.symm; have e2 := e2.symm; subst e1; subst e2
      refine j_nrm 0 hk ?_
      refine s_callVi X hR (m_markOf0 np _ p 0 (by omega) rfl (by omega)) rfl 11 (by decide) (o66 np) (k66 np) rfl u1438 u1435 u1437 qp70 u12 hyX11_markOf (by decide) (by decide) (Nat.le_of_ble_eq_true rfl) dX11_ask_55 (fun v_55 m_55 h_55 => ?_)
      obtain ⟨e1, e2⟩ := h_55; have e1 := e1.symm; have e2 := e2.symm; subst e1; subst e2
      refine s_iret X hE hr dX11_ask_58 rfl ?_
      first | exact ⟨rfl, rfl⟩ | (exfalso; clear hE hr hR X; (try simp only [lg_cmp_lt, lg_cmp_gt, lg_cmp_le, lg_cmp_ge] at *); (try simp (disch := omega) only [Int64.le_iff_toInt_le, Int64.lt_iff_toInt_lt, Int32.le_iff_toInt_le, Int32.lt_iff_toInt_lt, fa_eq, fa_lit, fa_litL, nI_toInt, pk_lT, Int32.toInt_toInt64, jadd64, jin, jnoneT] at *); omega)
    · exfalso
      clear hE hr hR X
      (try simp only [lg_cmp_lt, lg_cmp_gt, lg_cmp_le, lg_cmp_ge] at *); (try simp (disch := omega) only [Int64.le_iff_toInt_le, Int64.lt_iff_toInt_lt, Int32.le_iff_toInt_le, Int32.lt_iff_toInt_lt, fa_eq, fa_lit, fa_litL, nI_toInt, pk_lT, Int32.toInt_toInt64, jadd64, jin, jnoneT] at *); omega
set_option maxRecDepth 4000 in
set_option maxHeartbeats 1000000 in
theorem m_ask1_0 (np : Nat) (mem : jMem) (p : Nat) (hn : np ≤ 12) (hp : mem 66 9 = nI np) (hp2 : p < np) (hk : jKind (mem 75 p) (mem 66 39) (mem 74 (9 * p + 2)) = 1) : jPi yX11_ask cX11_ask 3 .int 6 [.ref 66, .int (nI p), .int 0] np mem (fun v c => v = (mem 74 (9 * p + 4) - mem 74 (9 * p + 3) + 1) + mem 74 (9 * p + 5) ∧ c = (jBeg (jBeg (jup (jup mem 66 0 0) 66 41 0) 0 11) 1 10)) := by
  refine jPi.of (own := RX11) rfl rfl (Nat.le_of_ble_eq_true rfl) (fun G X hR hr hE => ?_)
  refine j_aload_n X dX11_ask_0 rfl ?_
  refine j_iconst X dX11_ask_1 0 (by decide) ?_
  refine j_putI X 11 0 (by decide) (by decide) rfl rfl rfl rfl u950 (o66 np) (k66 np) dX11_ask_2 ?_
  refine j_aload_n X dX11_ask_5 rfl ?_
  refine j_iload_n X dX11_ask_6 rfl ?_
  refine s_callVi X hR (m_isPaper np _ _ hn hp) rfl 11 (by decide) (o66 np) (k66 np) rfl u1151 u1148 u1150 qp39 u12 hyX11_isPaper (by decide) (by decide) (Nat.le_of_ble_eq_true rfl) dX11_ask_7 (fun v_7 m_7 h_7 => ?_)
  obtain ⟨e1, e2⟩ := h_7; have e1 := e1.symm; have e2 := e2.symm; subst e1; subst e2
  refine j_ifb_eq X 23 dX11_ask_10 (by decide) (fun c_10 => ?_) (fun c_10 => ?_)
  · exfalso
    clear hE hr hR X
    (try simp only [lg_cmp_lt, lg_cmp_gt, lg_cmp_le, lg_cmp_ge] at *); (try simp (disch := omega) only [Int64.le_iff_toInt_le, Int64.lt_iff_toInt_lt, Int32.le_iff_toInt_le, Int32.lt_iff_toInt_lt, fa_eq, fa_lit, fa_litL, nI_toInt, pk_lT, Int32.toInt_toInt64, jadd64, jin, jnoneT] at *); omega
  · refine j_iload_n X dX11_ask_13 rfl ?_
    refine j_i2l X dX11_ask_14 ?_
    refine j_lconst X dX11_ask_15 0 (by decide) ?_
    refine j_lconst X dX11_ask_16 1 (by decide) ?_
    refine s_callSi X hR (m_inI np _ _ _ _ 0 1 rfl rfl) rfl u1087 u1085 u1086 u12 hyX11_in (by decide) (by decide) (Nat.le_of_ble_eq_true rfl) dX11_ask_17 (fun v_17 m_17 h_17 => ?_)
    obtain ⟨e1, e2⟩ := h_17; have e1 := e1.symm; have e2 := e2.symm; subst e1; subst e2
    refine j_ifb_ne X 26 dX11_ask_20 (by decide) (fun c_20 => ?_) (fun c_20 => ?_)
    · refine j_aload_n X dX11_ask_26 rfl ?_
      refine j_iconst X dX11_ask_27 0 (by decide) ?_
      refine j_putI X 11 41 (by decide) (by decide) rfl rfl rfl rfl u991 (o66 np) (k66 np) dX11_ask_28 ?_
      refine j_iload_n X dX11_ask_31 rfl ?_
      refine j_if_ne X 48 dX11_ask_32 (by decide) (fun c_32 => absurd c_32 (by decide)) (fun c_32 => ?_)
      refine j_aload_n X dX11_ask_35 rfl ?_
      refine j_iload_n X dX11_ask_36 rfl ?_
      refine j_aload_n X dX11_ask_37 rfl ?_
      refine j_iload_n X dX11_ask_38 rfl ?_
      refine s_callVi X hR (m_kindOf np _ p (by omega)) rfl 11 (by decide) (o66 np) (k66 np) rfl u1407 u1404 u1406 qp65 u12 hyX11_kindOf (by decide) (by decide) (Nat.le_of_ble_eq_true rfl) dX11_ask_39 (fun v_39 m_39 h_39 => ?_)
      obtain ⟨e1, e2⟩ := h_39; have e1 := e1.symm; have e2 := e2.symm; subst e1; subst e2
      refine j_nrm 1 hk ?_
      refine s_callVi X hR (m_sizeOf1 np _ p 0 (by omega) rfl (by omega)) rfl 11 (by decide) (o66 np) (k66 np) rfl u1422 u1419 u1421 qp66 u12 hyX11_sizeOf (by decide) (by decide) (Nat.le_of_ble_eq_true rfl) dX11_ask_42 (fun v_42 m_42 h_42 => ?_)
      obtain ⟨e1, e2⟩ := h_42; have e1 := e1.symm; have e2 := e2.symm; subst e1; subst e2
      refine j_goto X 58 dX11_ask_45 (by decide) ?_
      refine s_iret X hE hr dX11_ask_58 rfl ?_
      first | exact ⟨rfl, rfl⟩ | (exfalso; clear hE hr hR X; (try simp only [lg_cmp_lt, lg_cmp_gt, lg_cmp_le, lg_cmp_ge] at *); (try simp (disch := omega) only [Int64.le_iff_toInt_le, Int64.lt_iff_toInt_lt, Int32.le_iff_toInt_le, Int32.lt_iff_toInt_lt, fa_eq, fa_lit, fa_litL, nI_toInt, pk_lT, Int32.toInt_toInt64, jadd64, jin, jnoneT] at *); omega)
    · exfalso
      clear hE hr hR X
      (try simp only [lg_cmp_lt, lg_cmp_gt, lg_cmp_le, lg_cmp_ge] at *); (try simp (disch := omega) only [Int64.le_iff_toInt_le, Int64.lt_iff_toInt_lt, Int32.le_iff_toInt_le, Int32.lt_iff_toInt_lt, fa_eq, fa_lit, fa_litL, nI_toInt, pk_lT, Int32.toInt_toInt64, jadd64, jin, jnoneT] at *); omega
set_option maxRecDepth 4000 in
set_option maxHeartbeats 1000000 in
theorem m_ask1_1 (np : Nat) (mem : jMem) (p : Nat) (hn : np ≤ 12) (hp : mem 66 9 = nI np) (hp2 : p < np) (hk : jKind (mem 75 p) (mem 66 39) (mem 74 (9 * p + 2)) = 1) : jPi yX11_ask cX11_ask 3 .int 6 [.ref 66, .int (nI p), .int 1] np mem (fun v c => v = nI p ∧ c = (jBeg (jup (jup mem 66 0 0) 66 41 0) 0 20)) := by
  refine jPi.of (own := RX11) rfl rfl (Nat.le_of_ble_eq_true rfl) (fun G X hR hr hE => ?_)
  refine j_aload_n X dX11_ask_0 rfl ?_
  refine j_iconst X dX11_ask_1 0 (by decide) ?_
  refine j_putI X 11 0 (by decide) (by decide) rfl rfl rfl rfl u950 (o66 np) (k66 np) dX11_ask_2 ?_
  refine j_aload_n X dX11_ask_5 rfl ?_
  refine j_iload_n X dX11_ask_6 rfl ?_
  refine s_callVi X hR (m_isPaper np _ _ hn hp) rfl 11 (by decide) (o66 np) (k66 np) rfl u1151 u1148 u1150 qp39 u12 hyX11_isPaper (by decide) (by decide) (Nat.le_of_ble_eq_true rfl) dX11_ask_7 (fun v_7 m_7 h_7 => ?_)
  obtain ⟨e1, e2⟩ := h_7; have e1 := e1.symm; have e2 := e2.symm; subst e1; subst e2
  refine j_ifb_eq X 23 dX11_ask_10 (by decide) (fun c_10 => ?_) (fun c_10 => ?_)
  · exfalso
    clear hE hr hR X
    (try simp only [lg_cmp_lt, lg_cmp_gt, lg_cmp_le, lg_cmp_ge] at *); (try simp (disch := omega) only [Int64.le_iff_toInt_le, Int64.lt_iff_toInt_lt, Int32.le_iff_toInt_le, Int32.lt_iff_toInt_lt, fa_eq, fa_lit, fa_litL, nI_toInt, pk_lT, Int32.toInt_toInt64, jadd64, jin, jnoneT] at *); omega
  · refine j_iload_n X dX11_ask_13 rfl ?_
    refine j_i2l X dX11_ask_14 ?_
    refine j_lconst X dX11_ask_15 0 (by decide) ?_
    refine j_lconst X dX11_ask_16 1 (by decide) ?_
    refine s_callSi X hR (m_inI np _ _ _ _ 0 1 rfl rfl) rfl u1087 u1085 u1086 u12 hyX11_in (by decide) (by decide) (Nat.le_of_ble_eq_true rfl) dX11_ask_17 (fun v_17 m_17 h_17 => ?_)
    obtain ⟨e1, e2⟩ := h_17; have e1 := e1.symm; have e2 := e2.symm; subst e1; subst e2
    refine j_ifb_ne X 26 dX11_ask_20 (by decide) (fun c_20 => ?_) (fun c_20 => ?_)
    · refine j_aload_n X dX11_ask_26 rfl ?_
      refine j_iconst X dX11_ask_27 0 (by decide) ?_
      refine j_putI X 11 41 (by decide) (by decide) rfl rfl rfl rfl u991 (o66 np) (k66 np) dX11_ask_28 ?_
      refine j_iload_n X dX11_ask_31 rfl ?_
      refine j_if_ne X 48 dX11_ask_32 (by decide) (fun c_32 => ?_) (fun c_32 => absurd c_32 (by decide))
      refine j_aload_n X dX11_ask_48 rfl ?_
      refine j_iload_n X dX11_ask_49 rfl ?_
      refine j_aload_n X dX11_ask_50 rfl ?_
      refine j_iload_n X dX11_ask_51 rfl ?_
      refine s_callVi X hR (m_kindOf np _ p (by omega)) rfl 11 (by decide) (o66 np) (k66 np) rfl u1407 u1404 u1406 qp65 u12 hyX11_kindOf (by decide) (by decide) (Nat.le_of_ble_eq_true rfl) dX11_ask_52 (fun v_52 m_52 h_52 => ?_)
      obtain ⟨e1, e2⟩ := h_52; have e1 := e1.symm; have e2 := e2.symm; subst e1; subst e2
      refine j_nrm 1 hk ?_
      refine s_callVi X hR (m_markOf1 np _ p 0 (by omega) rfl (by omega)) rfl 11 (by decide) (o66 np) (k66 np) rfl u1438 u1435 u1437 qp70 u12 hyX11_markOf (by decide) (by decide) (Nat.le_of_ble_eq_true rfl) dX11_ask_55 (fun v_55 m_55 h_55 => ?_)
      obtain ⟨e1, e2⟩ := h_55; have e1 := e1.symm; have e2 := e2.symm; subst e1; subst e2
      refine s_iret X hE hr dX11_ask_58 rfl ?_
      first | exact ⟨rfl, rfl⟩ | (exfalso; clear hE hr hR X; (try simp only [lg_cmp_lt, lg_cmp_gt, lg_cmp_le, lg_cmp_ge] at *); (try simp (disch := omega) only [Int64.le_iff_toInt_le, Int64.lt_iff_toInt_lt, Int32.le_iff_toInt_le, Int32.lt_iff_toInt_lt, fa_eq, fa_lit, fa_litL, nI_toInt, pk_lT, Int32.toInt_toInt64, jadd64, jin, jnoneT] at *); omega)
    · exfalso
      clear hE hr hR X
      (try simp only [lg_cmp_lt, lg_cmp_gt, lg_cmp_le, lg_cmp_ge] at *); (try simp (disch := omega) only [Int64.le_iff_toInt_le, Int64.lt_iff_toInt_lt, Int32.le_iff_toInt_le, Int32.lt_iff_toInt_lt, fa_eq, fa_lit, fa_litL, nI_toInt, pk_lT, Int32.toInt_toInt64, jadd64, jin, jnoneT] at *); omega
set_option maxRecDepth 4000 in
set_option maxHeartbeats 1000000 in
theorem m_ask2_0 (np : Nat) (mem : jMem) (p : Nat) (hn : np ≤ 12) (hp : mem 66 9 = nI np) (hp2 : p < np) (hk : jKind (mem 75 p) (mem 66 39) (mem 74 (9 * p + 2)) = 2) : jPi yX11_ask cX11_ask 3 .int 6 [.ref 66, .int (nI p), .int 0] np mem (fun v c => v = 2 * ((mem 74 (9 * p + 4) - mem 74 (9 * p + 3) + 1) + mem 74 (9 * p + 5)) ∧ c = (jBeg (jBeg (jBeg (jup (jup mem 66 0 0) 66 41 0) 0 12) 1 11) 2 10)) := by
  refine jPi.of (own := RX11) rfl rfl (Nat.le_of_ble_eq_true rfl) (fun G X hR hr hE => ?_)
  refine j_aload_n X dX11_ask_0 rfl ?_
  refine j_iconst X dX11_ask_1 0 (by decide) ?_
  refine j_putI X 11 0 (by decide) (by decide) rfl rfl rfl rfl u950 (o66 np) (k66 np) dX11_ask_2 ?_
  refine j_aload_n X dX11_ask_5 rfl ?_
  refine j_iload_n X dX11_ask_6 rfl ?_
  refine s_callVi X hR (m_isPaper np _ _ hn hp) rfl 11 (by decide) (o66 np) (k66 np) rfl u1151 u1148 u1150 qp39 u12 hyX11_isPaper (by decide) (by decide) (Nat.le_of_ble_eq_true rfl) dX11_ask_7 (fun v_7 m_7 h_7 => ?_)
  obtain ⟨e1, e2⟩ := h_7; have e1 := e1.symm; have e2 := e2.symm; subst e1; subst e2
  refine j_ifb_eq X 23 dX11_ask_10 (by decide) (fun c_10 => ?_) (fun c_10 => ?_)
  · exfalso
    clear hE hr hR X
    (try simp only [lg_cmp_lt, lg_cmp_gt, lg_cmp_le, lg_cmp_ge] at *); (try simp (disch := omega) only [Int64.le_iff_toInt_le, Int64.lt_iff_toInt_lt, Int32.le_iff_toInt_le, Int32.lt_iff_toInt_lt, fa_eq, fa_lit, fa_litL, nI_toInt, pk_lT, Int32.toInt_toInt64, jadd64, jin, jnoneT] at *); omega
  · refine j_iload_n X dX11_ask_13 rfl ?_
    refine j_i2l X dX11_ask_14 ?_
    refine j_lconst X dX11_ask_15 0 (by decide) ?_
    refine j_lconst X dX11_ask_16 1 (by decide) ?_
    refine s_callSi X hR (m_inI np _ _ _ _ 0 1 rfl rfl) rfl u1087 u1085 u1086 u12 hyX11_in (by decide) (by decide) (Nat.le_of_ble_eq_true rfl) dX11_ask_17 (fun v_17 m_17 h_17 => ?_)
    obtain ⟨e1, e2⟩ := h_17; have e1 := e1.symm; have e2 := e2.symm; subst e1; subst e2
    refine j_ifb_ne X 26 dX11_ask_20 (by decide) (fun c_20 => ?_) (fun c_20 => ?_)
    · refine j_aload_n X dX11_ask_26 rfl ?_
      refine j_iconst X dX11_ask_27 0 (by decide) ?_
      refine j_putI X 11 41 (by decide) (by decide) rfl rfl rfl rfl u991 (o66 np) (k66 np) dX11_ask_28 ?_
      refine j_iload_n X dX11_ask_31 rfl ?_
      refine j_if_ne X 48 dX11_ask_32 (by decide) (fun c_32 => absurd c_32 (by decide)) (fun c_32 => ?_)
      refine j_aload_n X dX11_ask_35 rfl ?_
      refine j_iload_n X dX11_ask_36 rfl ?_
      refine j_aload_n X dX11_ask_37 rfl ?_
      refine j_iload_n X dX11_ask_38 rfl ?_
      refine s_callVi X hR (m_kindOf np _ p (by omega)) rfl 11 (by decide) (o66 np) (k66 np) rfl u1407 u1404 u1406 qp65 u12 hyX11_kindOf (by decide) (by decide) (Nat.le_of_ble_eq_true rfl) dX11_ask_39 (fun v_39 m_39 h_39 => ?_)
      obtain ⟨e1, e2⟩ := h_39; have e1 := e1.symm; have e2 := e2.symm; subst e1; subst e2
      refine j_nrm 2 hk ?_
      refine s_callVi X hR (m_sizeOf2 np _ p 0 (by omega) rfl (by omega)) rfl 11 (by decide) (o66 np) (k66 np) rfl u1422 u1419 u1421 qp66 u12 hyX11_sizeOf (by decide) (by decide) (Nat.le_of_ble_eq_true rfl) dX11_ask_42 (fun v_42 m_42 h_42 => ?_)
      obtain ⟨e1, e2⟩ := h_42; have e1 := e1.symm; have e2 := e2.symm; subst e1; subst e2
      refine j_goto X 58 dX11_ask_45 (by decide) ?_
      refine s_iret X hE hr dX11_ask_58 rfl ?_
      first | exact ⟨rfl, rfl⟩ | (exfalso; clear hE hr hR X; (try simp only [lg_cmp_lt, lg_cmp_gt, lg_cmp_le, lg_cmp_ge] at *); (try simp (disch := omega) only [Int64.le_iff_toInt_le, Int64.lt_iff_toInt_lt, Int32.le_iff_toInt_le, Int32.lt_iff_toInt_lt, fa_eq, fa_lit, fa_litL, nI_toInt, pk_lT, Int32.toInt_toInt64, jadd64, jin, jnoneT] at *); omega)
    · exfalso
      clear hE hr hR X
      (try simp only [lg_cmp_lt, lg_cmp_gt, lg_cmp_le, lg_cmp_ge] at *); (try simp (disch := omega) only [Int64.le_iff_toInt_le, Int64.lt_iff_toInt_lt, Int32.le_iff_toInt_le, Int32.lt_iff_toInt_lt, fa_eq, fa_lit, fa_litL, nI_toInt, pk_lT, Int32.toInt_toInt64, jadd64, jin, jnoneT] at *); omega
set_option maxRecDepth 4000 in
set_option maxHeartbeats 1000000 in
theorem m_ask2_1 (np : Nat) (mem : jMem) (p : Nat) (hn : np ≤ 12) (hp : mem 66 9 = nI np) (hp2 : p < np) (hk : jKind (mem 75 p) (mem 66 39) (mem 74 (9 * p + 2)) = 2) : jPi yX11_ask cX11_ask 3 .int 6 [.ref 66, .int (nI p), .int 1] np mem (fun v c => v = nI p + 2 * ((mem 74 (9 * p + 4) - mem 74 (9 * p + 3) + 1) + mem 74 (9 * p + 5)) ∧ c = (jBeg (jBeg (jBeg (jBeg (jBeg (jup (jup mem 66 0 0) 66 41 0) 0 21) 1 20) 2 12) 3 11) 4 10)) := by
  refine jPi.of (own := RX11) rfl rfl (Nat.le_of_ble_eq_true rfl) (fun G X hR hr hE => ?_)
  refine j_aload_n X dX11_ask_0 rfl ?_
  refine j_iconst X dX11_ask_1 0 (by decide) ?_
  refine j_putI X 11 0 (by decide) (by decide) rfl rfl rfl rfl u950 (o66 np) (k66 np) dX11_ask_2 ?_
  refine j_aload_n X dX11_ask_5 rfl ?_
  refine j_iload_n X dX11_ask_6 rfl ?_
  refine s_callVi X hR (m_isPaper np _ _ hn hp) rfl 11 (by decide) (o66 np) (k66 np) rfl u1151 u1148 u1150 qp39 u12 hyX11_isPaper (by decide) (by decide) (Nat.le_of_ble_eq_true rfl) dX11_ask_7 (fun v_7 m_7 h_7 => ?_)
  obtain ⟨e1, e2⟩ := h_7; have e1 := e1.symm; have e2 := e2.symm; subst e1; subst e2
  refine j_ifb_eq X 23 dX11_ask_10 (by decide) (fun c_10 => ?_) (fun c_10 => ?_)
  · exfalso
    clear hE hr hR X
    (try simp only [lg_cmp_lt, lg_cmp_gt, lg_cmp_le, lg_cmp_ge] at *); (try simp (disch := omega) only [Int64.le_iff_toInt_le, Int64.lt_iff_toInt_lt, Int32.le_iff_toInt_le, Int32.lt_iff_toInt_lt, fa_eq, fa_lit, fa_litL, nI_toInt, pk_lT, Int32.toInt_toInt64, jadd64, jin, jnoneT] at *); omega
  · refine j_iload_n X dX11_ask_13 rfl ?_
    refine j_i2l X dX11_ask_14 ?_
    refine j_lconst X dX11_ask_15 0 (by decide) ?_
    refine j_lconst X dX11_ask_16 1 (by decide) ?_
    refine s_callSi X hR (m_inI np _ _ _ _ 0 1 rfl rfl) rfl u1087 u1085 u1086 u12 hyX11_in (by decide) (by decide) (Nat.le_of_ble_eq_true rfl) dX11_ask_17 (fun v_17 m_17 h_17 => ?_)
    obtain ⟨e1, e2⟩ := h_17; have e1 := e1.symm; have e2 := e2.symm; subst e1; subst e2
    refine j_ifb_ne X 26 dX11_ask_20 (by decide) (fun c_20 => ?_) (fun c_20 => ?_)
    · refine j_aload_n X dX11_ask_26 rfl ?_
      refine j_iconst X dX11_ask_27 0 (by decide) ?_
      refine j_putI X 11 41 (by decide) (by decide) rfl rfl rfl rfl u991 (o66 np) (k66 np) dX11_ask_28 ?_
      refine j_iload_n X dX11_ask_31 rfl ?_
      refine j_if_ne X 48 dX11_ask_32 (by decide) (fun c_32 => ?_) (fun c_32 => absurd c_32 (by decide))
      refine j_aload_n X dX11_ask_48 rfl ?_
      refine j_iload_n X dX11_ask_49 rfl ?_
      refine j_aload_n X dX11_ask_50 rfl ?_
      refine j_iload_n X dX11_ask_51 rfl ?_
      refine s_callVi X hR (m_kindOf np _ p (by omega)) rfl 11 (by decide) (o66 np) (k66 np) rfl u1407 u1404 u1406 qp65 u12 hyX11_kindOf (by decide) (by decide) (Nat.le_of_ble_eq_true rfl) dX11_ask_52 (fun v_52 m_52 h_52 => ?_)
      obtain ⟨e1, e2⟩ := h_52; have e1 := e1.symm; have e2 := e2.symm; subst e1; subst e2
      refine j_nrm 2 hk ?_
      refine s_callVi X hR (m_markOf2 np _ p 0 (by omega) rfl (by omega)) rfl 11 (by decide) (o66 np) (k66 np) rfl u1438 u1435 u1437 qp70 u12 hyX11_markOf (by decide) (by decide) (Nat.le_of_ble_eq_true rfl) dX11_ask_55 (fun v_55 m_55 h_55 => ?_)
      obtain ⟨e1, e2⟩ := h_55; have e1 := e1.symm; have e2 := e2.symm; subst e1; subst e2
      refine s_iret X hE hr dX11_ask_58 rfl ?_
      first | exact ⟨rfl, rfl⟩ | (exfalso; clear hE hr hR X; (try simp only [lg_cmp_lt, lg_cmp_gt, lg_cmp_le, lg_cmp_ge] at *); (try simp (disch := omega) only [Int64.le_iff_toInt_le, Int64.lt_iff_toInt_lt, Int32.le_iff_toInt_le, Int32.lt_iff_toInt_lt, fa_eq, fa_lit, fa_litL, nI_toInt, pk_lT, Int32.toInt_toInt64, jadd64, jin, jnoneT] at *); omega)
    · exfalso
      clear hE hr hR X
      (try simp only [lg_cmp_lt, lg_cmp_gt, lg_cmp_le, lg_cmp_ge] at *); (try simp (disch := omega) only [Int64.le_iff_toInt_le, Int64.lt_iff_toInt_lt, Int32.le_iff_toInt_le, Int32.lt_iff_toInt_lt, fa_eq, fa_lit, fa_litL, nI_toInt, pk_lT, Int32.toInt_toInt64, jadd64, jin, jnoneT] at *); omega
set_option maxRecDepth 4000 in
set_option maxHeartbeats 1000000 in
theorem m_ask3_0 (np : Nat) (mem : jMem) (p : Nat) (hn : np ≤ 12) (hp : mem 66 9 = nI np) (hp2 : p < np) (hk : jKind (mem 75 p) (mem 66 39) (mem 74 (9 * p + 2)) = 3) : jPi yX11_ask cX11_ask 3 .int 6 [.ref 66, .int (nI p), .int 0] np mem (fun v c => v = (mem 74 (9 * p + 4) - mem 74 (9 * p + 3) + 1) + (nI p + jMax4 (mem 74 (9 * p + 5)) (mem 74 (9 * p + 6)) (mem 74 (9 * p + 7)) (mem 74 (9 * p + 8))) ∧ c = (jBeg (jBeg (jBeg (jBeg (jup (jup mem 66 0 0) 66 41 0) 0 13) 1 10) 2 22) 3 20)) := by
  refine jPi.of (own := RX11) rfl rfl (Nat.le_of_ble_eq_true rfl) (fun G X hR hr hE => ?_)
  refine j_aload_n X dX11_ask_0 rfl ?_
  refine j_iconst X dX11_ask_1 0 (by decide) ?_
  refine j_putI X 11 0 (by decide) (by decide) rfl rfl rfl rfl u950 (o66 np) (k66 np) dX11_ask_2 ?_
  refine j_aload_n X dX11_ask_5 rfl ?_
  refine j_iload_n X dX11_ask_6 rfl ?_
  refine s_callVi X hR (m_isPaper np _ _ hn hp) rfl 11 (by decide) (o66 np) (k66 np) rfl u1151 u1148 u1150 qp39 u12 hyX11_isPaper (by decide) (by decide) (Nat.le_of_ble_eq_true rfl) dX11_ask_7 (fun v_7 m_7 h_7 => ?_)
  obtain ⟨e1, e2⟩ := h_7; have e1 := e1.symm; have e2 := e2.symm; subst e1; subst e2
  refine j_ifb_eq X 23 dX11_ask_10 (by decide) (fun c_10 => ?_) (fun c_10 => ?_)
  · exfalso
    clear hE hr hR X
    (try simp only [lg_cmp_lt, lg_cmp_gt, lg_cmp_le, lg_cmp_ge] at *); (try simp (disch := omega) only [Int64.le_iff_toInt_le, Int64.lt_iff_toInt_lt, Int32.le_iff_toInt_le, Int32.lt_iff_toInt_lt, fa_eq, fa_lit, fa_litL, nI_toInt, pk_lT, Int32.toInt_toInt64, jadd64, jin, jnoneT] at *); omega
  · refine j_iload_n X dX11_ask_13 rfl ?_
    refine j_i2l X dX11_ask_14 ?_
    refine j_lconst X dX11_ask_15 0 (by decide) ?_
    refine j_lconst X dX11_ask_16 1 (by decide) ?_
    refine s_callSi X hR (m_inI np _ _ _ _ 0 1 rfl rfl) rfl u1087 u1085 u1086 u12 hyX11_in (by decide) (by decide) (Nat.le_of_ble_eq_true rfl) dX11_ask_17 (fun v_17 m_17 h_17 => ?_)
    obtain ⟨e1, e2⟩ := h_17; have e1 := e1.symm; have e2 := e2.symm; subst e1; subst e2
    refine j_ifb_ne X 26 dX11_ask_20 (by decide) (fun c_20 => ?_) (fun c_20 => ?_)
    · refine j_aload_n X dX11_ask_26 rfl ?_
      refine j_iconst X dX11_ask_27 0 (by decide) ?_
      refine j_putI X 11 41 (by decide) (by decide) rfl rfl rfl rfl u991 (o66 np) (k66 np) dX11_ask_28 ?_
      refine j_iload_n X dX11_ask_31 rfl ?_
      refine j_if_ne X 48 dX11_ask_32 (by decide) (fun c_32 => absurd c_32 (by decide)) (fun c_32 => ?_)
      refine j_aload_n X dX11_ask_35 rfl ?_
      refine j_iload_n X dX11_ask_36 rfl ?_
      refine j_aload_n X dX11_ask_37 rfl ?_
      refine j_iload_n X dX11_ask_38 rfl ?_
      refine s_callVi X hR (m_kindOf np _ p (by omega)) rfl 11 (by decide) (o66 np) (k66 np) rfl u1407 u1404 u1406 qp65 u12 hyX11_kindOf (by decide) (by decide) (Nat.le_of_ble_eq_true rfl) dX11_ask_39 (fun v_39 m_39 h_39 => ?_)
      obtain ⟨e1, e2⟩ := h_39; have e1 := e1.symm; have e2 := e2.symm; subst e1; subst e2
      refine j_nrm 3 hk ?_
      refine s_callVi X hR (m_sizeOf3 np _ p 0 (by omega) rfl (by omega)) rfl 11 (by decide) (o66 np) (k66 np) rfl u1422 u1419 u1421 qp66 u12 hyX11_sizeOf (by decide) (by decide) (Nat.le_of_ble_eq_true rfl) dX11_ask_42 (fun v_42 m_42 h_42 => ?_)
      obtain ⟨e1, e2⟩ := h_42; have e1 := e1.symm; have e2 := e2.symm; subst e1; subst e2
      refine j_goto X 58 dX11_ask_45 (by decide) ?_
      refine s_iret X hE hr dX11_ask_58 rfl ?_
      first | exact ⟨rfl, rfl⟩ | (exfalso; clear hE hr hR X; (try simp only [lg_cmp_lt, lg_cmp_gt, lg_cmp_le, lg_cmp_ge] at *); (try simp (disch := omega) only [Int64.le_iff_toInt_le, Int64.lt_iff_toInt_lt, Int32.le_iff_toInt_le, Int32.lt_iff_toInt_lt, fa_eq, fa_lit, fa_litL, nI_toInt, pk_lT, Int32.toInt_toInt64, jadd64, jin, jnoneT] at *); omega)
    · exfalso
      clear hE hr hR X
      (try simp only [lg_cmp_lt, lg_cmp_gt, lg_cmp_le, lg_cmp_ge] at *); (try simp (disch := omega) only [Int64.le_iff_toInt_le, Int64.lt_iff_toInt_lt, Int32.le_iff_toInt_le, Int32.lt_iff_toInt_lt, fa_eq, fa_lit, fa_litL, nI_toInt, pk_lT, Int32.toInt_toInt64, jadd64, jin, jnoneT] at *); omega
set_option maxRecDepth 4000 in
set_option maxHeartbeats 1000000 in
theorem m_ask3_1 (np : Nat) (mem : jMem) (p : Nat) (hn : np ≤ 12) (hp : mem 66 9 = nI np) (hp2 : p < np) (hk : jKind (mem 75 p) (mem 66 39) (mem 74 (9 * p + 2)) = 3) : jPi yX11_ask cX11_ask 3 .int 6 [.ref 66, .int (nI p), .int 1] np mem (fun v c => v = nI p + jMax4 (mem 74 (9 * p + 5)) (mem 74 (9 * p + 6)) (mem 74 (9 * p + 7)) (mem 74 (9 * p + 8)) ∧ c = (jBeg (jBeg (jup (jup mem 66 0 0) 66 41 0) 0 22) 1 20)) := by
  refine jPi.of (own := RX11) rfl rfl (Nat.le_of_ble_eq_true rfl) (fun G X hR hr hE => ?_)
  refine j_aload_n X dX11_ask_0 rfl ?_
  refine j_iconst X dX11_ask_1 0 (by decide) ?_
  refine j_putI X 11 0 (by decide) (by decide) rfl rfl rfl rfl u950 (o66 np) (k66 np) dX11_ask_2 ?_
  refine j_aload_n X dX11_ask_5 rfl ?_
  refine j_iload_n X dX11_ask_6 rfl ?_
  refine s_callVi X hR (m_isPaper np _ _ hn hp) rfl 11 (by decide) (o66 np) (k66 np) rfl u1151 u1148 u1150 qp39 u12 hyX11_isPaper (by decide) (by decide) (Nat.le_of_ble_eq_true rfl) dX11_ask_7 (fun v_7 m_7 h_7 => ?_)
  obtain ⟨e1, e2⟩ := h_7; have e1 := e1.symm; have e2 := e2.symm; subst e1; subst e2
  refine j_ifb_eq X 23 dX11_ask_10 (by decide) (fun c_10 => ?_) (fun c_10 => ?_)
  · exfalso
    clear hE hr hR X
    (try simp only [lg_cmp_lt, lg_cmp_gt, lg_cmp_le, lg_cmp_ge] at *); (try simp (disch := omega) only [Int64.le_iff_toInt_le, Int64.lt_iff_toInt_lt, Int32.le_iff_toInt_le, Int32.lt_iff_toInt_lt, fa_eq, fa_lit, fa_litL, nI_toInt, pk_lT, Int32.toInt_toInt64, jadd64, jin, jnoneT] at *); omega
  · refine j_iload_n X dX11_ask_13 rfl ?_
    refine j_i2l X dX11_ask_14 ?_
    refine j_lconst X dX11_ask_15 0 (by decide) ?_
    refine j_lconst X dX11_ask_16 1 (by decide) ?_
    refine s_callSi X hR (m_inI np _ _ _ _ 0 1 rfl rfl) rfl u1087 u1085 u1086 u12 hyX11_in (by decide) (by decide) (Nat.le_of_ble_eq_true rfl) dX11_ask_17 (fun v_17 m_17 h_17 => ?_)
    obtain ⟨e1, e2⟩ := h_17; have e1 := e1.symm; have e2 := e2.symm; subst e1; subst e2
    refine j_ifb_ne X 26 dX11_ask_20 (by decide) (fun c_20 => ?_) (fun c_20 => ?_)
    · refine j_aload_n X dX11_ask_26 rfl ?_
      refine j_iconst X dX11_ask_27 0 (by decide) ?_
      refine j_putI X 11 41 (by decide) (by decide) rfl rfl rfl rfl u991 (o66 np) (k66 np) dX11_ask_28 ?_
      refine j_iload_n X dX11_ask_31 rfl ?_
      refine j_if_ne X 48 dX11_ask_32 (by decide) (fun c_32 => ?_) (fun c_32 => absurd c_32 (by decide))
      refine j_aload_n X dX11_ask_48 rfl ?_
      refine j_iload_n X dX11_ask_49 rfl ?_
      refine j_aload_n X dX11_ask_50 rfl ?_
      refine j_iload_n X dX11_ask_51 rfl ?_
      refine s_callVi X hR (m_kindOf np _ p (by omega)) rfl 11 (by decide) (o66 np) (k66 np) rfl u1407 u1404 u1406 qp65 u12 hyX11_kindOf (by decide) (by decide) (Nat.le_of_ble_eq_true rfl) dX11_ask_52 (fun v_52 m_52 h_52 => ?_)
      obtain ⟨e1, e2⟩ := h_52; have e1 := e1.symm; have e2 := e2.symm; subst e1; subst e2
      refine j_nrm 3 hk ?_
      refine s_callVi X hR (m_markOf3 np _ p 0 (by omega) rfl (by omega)) rfl 11 (by decide) (o66 np) (k66 np) rfl u1438 u1435 u1437 qp70 u12 hyX11_markOf (by decide) (by decide) (Nat.le_of_ble_eq_true rfl) dX11_ask_55 (fun v_55 m_55 h_55 => ?_)
      obtain ⟨e1, e2⟩ := h_55; have e1 := e1.symm; have e2 := e2.symm; subst e1; subst e2
      refine s_iret X hE hr dX11_ask_58 rfl ?_
      first | exact ⟨rfl, rfl⟩ | (exfalso; clear hE hr hR X; (try simp only [lg_cmp_lt, lg_cmp_gt, lg_cmp_le, lg_cmp_ge] at *); (try simp (disch := omega) only [Int64.le_iff_toInt_le, Int64.lt_iff_toInt_lt, Int32.le_iff_toInt_le, Int32.lt_iff_toInt_lt, fa_eq, fa_lit, fa_litL, nI_toInt, pk_lT, Int32.toInt_toInt64, jadd64, jin, jnoneT] at *); omega)
    · exfalso
      clear hE hr hR X
      (try simp only [lg_cmp_lt, lg_cmp_gt, lg_cmp_le, lg_cmp_ge] at *); (try simp (disch := omega) only [Int64.le_iff_toInt_le, Int64.lt_iff_toInt_lt, Int32.le_iff_toInt_le, Int32.lt_iff_toInt_lt, fa_eq, fa_lit, fa_litL, nI_toInt, pk_lT, Int32.toInt_toInt64, jadd64, jin, jnoneT] at *); omega
set_option maxRecDepth 4000 in
set_option maxHeartbeats 1000000 in
theorem m_ask4_0 (np : Nat) (mem : jMem) (p : Nat) (hn : np ≤ 12) (hp : mem 66 9 = nI np) (hp2 : p < np) (hk : jKind (mem 75 p) (mem 66 39) (mem 74 (9 * p + 2)) = 4) : jPi yX11_ask cX11_ask 3 .int 6 [.ref 66, .int (nI p), .int 0] np mem (fun v c => v = (mem 74 (9 * p + 4) - mem 74 (9 * p + 3) + 1) ∧ c = (jBeg (jup (jup mem 66 0 0) 66 41 0) 0 10)) := by
  refine jPi.of (own := RX11) rfl rfl (Nat.le_of_ble_eq_true rfl) (fun G X hR hr hE => ?_)
  refine j_aload_n X dX11_ask_0 rfl ?_
  refine j_iconst X dX11_ask_1 0 (by decide) ?_
  refine j_putI X 11 0 (by decide) (by decide) rfl rfl rfl rfl u950 (o66 np) (k66 np) dX11_ask_2 ?_
  refine j_aload_n X dX11_ask_5 rfl ?_
  refine j_iload_n X dX11_ask_6 rfl ?_
  refine s_callVi X hR (m_isPaper np _ _ hn hp) rfl 11 (by decide) (o66 np) (k66 np) rfl u1151 u1148 u1150 qp39 u12 hyX11_isPaper (by decide) (by decide) (Nat.le_of_ble_eq_true rfl) dX11_ask_7 (fun v_7 m_7 h_7 => ?_)
  obtain ⟨e1, e2⟩ := h_7; have e1 := e1.symm; have e2 := e2.symm; subst e1; subst e2
  refine j_ifb_eq X 23 dX11_ask_10 (by decide) (fun c_10 => ?_) (fun c_10 => ?_)
  · exfalso
    clear hE hr hR X
    (try simp only [lg_cmp_lt, lg_cmp_gt, lg_cmp_le, lg_cmp_ge] at *); (try simp (disch := omega) only [Int64.le_iff_toInt_le, Int64.lt_iff_toInt_lt, Int32.le_iff_toInt_le, Int32.lt_iff_toInt_lt, fa_eq, fa_lit, fa_litL, nI_toInt, pk_lT, Int32.toInt_toInt64, jadd64, jin, jnoneT] at *); omega
  · refine j_iload_n X dX11_ask_13 rfl ?_
    refine j_i2l X dX11_ask_14 ?_
    refine j_lconst X dX11_ask_15 0 (by decide) ?_
    refine j_lconst X dX11_ask_16 1 (by decide) ?_
    refine s_callSi X hR (m_inI np _ _ _ _ 0 1 rfl rfl) rfl u1087 u1085 u1086 u12 hyX11_in (by decide) (by decide) (Nat.le_of_ble_eq_true rfl) dX11_ask_17 (fun v_17 m_17 h_17 => ?_)
    obtain ⟨e1, e2⟩ := h_17; have e1 := e1.symm; have e2 := e2.symm; subst e1; subst e2
    refine j_ifb_ne X 26 dX11_ask_20 (by decide) (fun c_20 => ?_) (fun c_20 => ?_)
    · refine j_aload_n X dX11_ask_26 rfl ?_
      refine j_iconst X dX11_ask_27 0 (by decide) ?_
      refine j_putI X 11 41 (by decide) (by decide) rfl rfl rfl rfl u991 (o66 np) (k66 np) dX11_ask_28 ?_
      refine j_iload_n X dX11_ask_31 rfl ?_
      refine j_if_ne X 48 dX11_ask_32 (by decide) (fun c_32 => absurd c_32 (by decide)) (fun c_32 => ?_)
      refine j_aload_n X dX11_ask_35 rfl ?_
      refine j_iload_n X dX11_ask_36 rfl ?_
      refine j_aload_n X dX11_ask_37 rfl ?_
      refine j_iload_n X dX11_ask_38 rfl ?_
      refine s_callVi X hR (m_kindOf np _ p (by omega)) rfl 11 (by decide) (o66 np) (k66 np) rfl u1407 u1404 u1406 qp65 u12 hyX11_kindOf (by decide) (by decide) (Nat.le_of_ble_eq_true rfl) dX11_ask_39 (fun v_39 m_39 h_39 => ?_)
      obtain ⟨e1, e2⟩ := h_39; have e1 := e1.symm; have e2 := e2.symm; subst e1; subst e2
      refine j_nrm 4 hk ?_
      refine s_callVi X hR (m_sizeOf4 np _ p 0 (by omega) rfl (by omega)) rfl 11 (by decide) (o66 np) (k66 np) rfl u1422 u1419 u1421 qp66 u12 hyX11_sizeOf (by decide) (by decide) (Nat.le_of_ble_eq_true rfl) dX11_ask_42 (fun v_42 m_42 h_42 => ?_)
      obtain ⟨e1, e2⟩ := h_42; have e1 := e1.symm; have e2 := e2.symm; subst e1; subst e2
      refine j_goto X 58 dX11_ask_45 (by decide) ?_
      refine s_iret X hE hr dX11_ask_58 rfl ?_
      first | exact ⟨rfl, rfl⟩ | (exfalso; clear hE hr hR X; (try simp only [lg_cmp_lt, lg_cmp_gt, lg_cmp_le, lg_cmp_ge] at *); (try simp (disch := omega) only [Int64.le_iff_toInt_le, Int64.lt_iff_toInt_lt, Int32.le_iff_toInt_le, Int32.lt_iff_toInt_lt, fa_eq, fa_lit, fa_litL, nI_toInt, pk_lT, Int32.toInt_toInt64, jadd64, jin, jnoneT] at *); omega)
    · exfalso
      clear hE hr hR X
      (try simp only [lg_cmp_lt, lg_cmp_gt, lg_cmp_le, lg_cmp_ge] at *); (try simp (disch := omega) only [Int64.le_iff_toInt_le, Int64.lt_iff_toInt_lt, Int32.le_iff_toInt_le, Int32.lt_iff_toInt_lt, fa_eq, fa_lit, fa_litL, nI_toInt, pk_lT, Int32.toInt_toInt64, jadd64, jin, jnoneT] at *); omega
set_option maxRecDepth 4000 in
set_option maxHeartbeats 1000000 in
theorem m_ask4_1 (np : Nat) (mem : jMem) (p : Nat) (hn : np ≤ 12) (hp : mem 66 9 = nI np) (hp2 : p < np) (hk : jKind (mem 75 p) (mem 66 39) (mem 74 (9 * p + 2)) = 4) : jPi yX11_ask cX11_ask 3 .int 6 [.ref 66, .int (nI p), .int 1] np mem (fun v c => v = nI p + 1000 ∧ c = (jBeg (jBeg (jup (jup mem 66 0 0) 66 41 0) 0 23) 1 20)) := by
  refine jPi.of (own := RX11) rfl rfl (Nat.le_of_ble_eq_true rfl) (fun G X hR hr hE => ?_)
  refine j_aload_n X dX11_ask_0 rfl ?_
  refine j_iconst X dX11_ask_1 0 (by decide) ?_
  refine j_putI X 11 0 (by decide) (by decide) rfl rfl rfl rfl u950 (o66 np) (k66 np) dX11_ask_2 ?_
  refine j_aload_n X dX11_ask_5 rfl ?_
  refine j_iload_n X dX11_ask_6 rfl ?_
  refine s_callVi X hR (m_isPaper np _ _ hn hp) rfl 11 (by decide) (o66 np) (k66 np) rfl u1151 u1148 u1150 qp39 u12 hyX11_isPaper (by decide) (by decide) (Nat.le_of_ble_eq_true rfl) dX11_ask_7 (fun v_7 m_7 h_7 => ?_)
  obtain ⟨e1, e2⟩ := h_7; have e1 := e1.symm; have e2 := e2.symm; subst e1; subst e2
  refine j_ifb_eq X 23 dX11_ask_10 (by decide) (fun c_10 => ?_) (fun c_10 => ?_)
  · exfalso
    clear hE hr hR X
    (try simp only [lg_cmp_lt, lg_cmp_gt, lg_cmp_le, lg_cmp_ge] at *); (try simp (disch := omega) only [Int64.le_iff_toInt_le, Int64.lt_iff_toInt_lt, Int32.le_iff_toInt_le, Int32.lt_iff_toInt_lt, fa_eq, fa_lit, fa_litL, nI_toInt, pk_lT, Int32.toInt_toInt64, jadd64, jin, jnoneT] at *); omega
  · refine j_iload_n X dX11_ask_13 rfl ?_
    refine j_i2l X dX11_ask_14 ?_
    refine j_lconst X dX11_ask_15 0 (by decide) ?_
    refine j_lconst X dX11_ask_16 1 (by decide) ?_
    refine s_callSi X hR (m_inI np _ _ _ _ 0 1 rfl rfl) rfl u1087 u1085 u1086 u12 hyX11_in (by decide) (by decide) (Nat.le_of_ble_eq_true rfl) dX11_ask_17 (fun v_17 m_17 h_17 => ?_)
    obtain ⟨e1, e2⟩ := h_17; have e1 := e1.symm; have e2 := e2.symm; subst e1; subst e2
    refine j_ifb_ne X 26 dX11_ask_20 (by decide) (fun c_20 => ?_) (fun c_20 => ?_)
    · refine j_aload_n X dX11_ask_26 rfl ?_
      refine j_iconst X dX11_ask_27 0 (by decide) ?_
      refine j_putI X 11 41 (by decide) (by decide) rfl rfl rfl rfl u991 (o66 np) (k66 np) dX11_ask_28 ?_
      refine j_iload_n X dX11_ask_31 rfl ?_
      refine j_if_ne X 48 dX11_ask_32 (by decide) (fun c_32 => ?_) (fun c_32 => absurd c_32 (by decide))
      refine j_aload_n X dX11_ask_48 rfl ?_
      refine j_iload_n X dX11_ask_49 rfl ?_
      refine j_aload_n X dX11_ask_50 rfl ?_
      refine j_iload_n X dX11_ask_51 rfl ?_
      refine s_callVi X hR (m_kindOf np _ p (by omega)) rfl 11 (by decide) (o66 np) (k66 np) rfl u1407 u1404 u1406 qp65 u12 hyX11_kindOf (by decide) (by decide) (Nat.le_of_ble_eq_true rfl) dX11_ask_52 (fun v_52 m_52 h_52 => ?_)
      obtain ⟨e1, e2⟩ := h_52; have e1 := e1.symm; have e2 := e2.symm; subst e1; subst e2
      refine j_nrm 4 hk ?_
      refine s_callVi X hR (m_markOf4 np _ p 0 (by omega) rfl (by omega)) rfl 11 (by decide) (o66 np) (k66 np) rfl u1438 u1435 u1437 qp70 u12 hyX11_markOf (by decide) (by decide) (Nat.le_of_ble_eq_true rfl) dX11_ask_55 (fun v_55 m_55 h_55 => ?_)
      obtain ⟨e1, e2⟩ := h_55; have e1 := e1.symm; have e2 := e2.symm; subst e1; subst e2
      refine s_iret X hE hr dX11_ask_58 rfl ?_
      first | exact ⟨rfl, rfl⟩ | (exfalso; clear hE hr hR X; (try simp only [lg_cmp_lt, lg_cmp_gt, lg_cmp_le, lg_cmp_ge] at *); (try simp (disch := omega) only [Int64.le_iff_toInt_le, Int64.lt_iff_toInt_lt, Int32.le_iff_toInt_le, Int32.lt_iff_toInt_lt, fa_eq, fa_lit, fa_litL, nI_toInt, pk_lT, Int32.toInt_toInt64, jadd64, jin, jnoneT] at *); omega)
    · exfalso
      clear hE hr hR X
      (try simp only [lg_cmp_lt, lg_cmp_gt, lg_cmp_le, lg_cmp_ge] at *); (try simp (disch := omega) only [Int64.le_iff_toInt_le, Int64.lt_iff_toInt_lt, Int32.le_iff_toInt_le, Int32.lt_iff_toInt_lt, fa_eq, fa_lit, fa_litL, nI_toInt, pk_lT, Int32.toInt_toInt64, jadd64, jin, jnoneT] at *); omega
set_option maxRecDepth 4000 in
set_option maxHeartbeats 1000000 in
theorem m_ask5_0 (np : Nat) (mem : jMem) (p : Nat) (hn : np ≤ 12) (hp : mem 66 9 = nI np) (hp2 : p < np) (hk : jKind (mem 75 p) (mem 66 39) (mem 74 (9 * p + 2)) = 5) : jPi yX11_ask cX11_ask 3 .int 6 [.ref 66, .int (nI p), .int 0] np mem (fun v c => v = -(mem 74 (9 * p + 4) - mem 74 (9 * p + 3) + 1) ∧ c = (jBeg (jBeg (jup (jup mem 66 0 0) 66 41 0) 0 14) 1 10)) := by
  refine jPi.of (own := RX11) rfl rfl (Nat.le_of_ble_eq_true rfl) (fun G X hR hr hE => ?_)
  refine j_aload_n X dX11_ask_0 rfl ?_
  refine j_iconst X dX11_ask_1 0 (by decide) ?_
  refine j_putI X 11 0 (by decide) (by decide) rfl rfl rfl rfl u950 (o66 np) (k66 np) dX11_ask_2 ?_
  refine j_aload_n X dX11_ask_5 rfl ?_
  refine j_iload_n X dX11_ask_6 rfl ?_
  refine s_callVi X hR (m_isPaper np _ _ hn hp) rfl 11 (by decide) (o66 np) (k66 np) rfl u1151 u1148 u1150 qp39 u12 hyX11_isPaper (by decide) (by decide) (Nat.le_of_ble_eq_true rfl) dX11_ask_7 (fun v_7 m_7 h_7 => ?_)
  obtain ⟨e1, e2⟩ := h_7; have e1 := e1.symm; have e2 := e2.symm; subst e1; subst e2
  refine j_ifb_eq X 23 dX11_ask_10 (by decide) (fun c_10 => ?_) (fun c_10 => ?_)
  · exfalso
    clear hE hr hR X
    (try simp only [lg_cmp_lt, lg_cmp_gt, lg_cmp_le, lg_cmp_ge] at *); (try simp (disch := omega) only [Int64.le_iff_toInt_le, Int64.lt_iff_toInt_lt, Int32.le_iff_toInt_le, Int32.lt_iff_toInt_lt, fa_eq, fa_lit, fa_litL, nI_toInt, pk_lT, Int32.toInt_toInt64, jadd64, jin, jnoneT] at *); omega
  · refine j_iload_n X dX11_ask_13 rfl ?_
    refine j_i2l X dX11_ask_14 ?_
    refine j_lconst X dX11_ask_15 0 (by decide) ?_
    refine j_lconst X dX11_ask_16 1 (by decide) ?_
    refine s_callSi X hR (m_inI np _ _ _ _ 0 1 rfl rfl) rfl u1087 u1085 u1086 u12 hyX11_in (by decide) (by decide) (Nat.le_of_ble_eq_true rfl) dX11_ask_17 (fun v_17 m_17 h_17 => ?_)
    obtain ⟨e1, e2⟩ := h_17; have e1 := e1.symm; have e2 := e2.symm; subst e1; subst e2
    refine j_ifb_ne X 26 dX11_ask_20 (by decide) (fun c_20 => ?_) (fun c_20 => ?_)
    · refine j_aload_n X dX11_ask_26 rfl ?_
      refine j_iconst X dX11_ask_27 0 (by decide) ?_
      refine j_putI X 11 41 (by decide) (by decide) rfl rfl rfl rfl u991 (o66 np) (k66 np) dX11_ask_28 ?_
      refine j_iload_n X dX11_ask_31 rfl ?_
      refine j_if_ne X 48 dX11_ask_32 (by decide) (fun c_32 => absurd c_32 (by decide)) (fun c_32 => ?_)
      refine j_aload_n X dX11_ask_35 rfl ?_
      refine j_iload_n X dX11_ask_36 rfl ?_
      refine j_aload_n X dX11_ask_37 rfl ?_
      refine j_iload_n X dX11_ask_38 rfl ?_
      refine s_callVi X hR (m_kindOf np _ p (by omega)) rfl 11 (by decide) (o66 np) (k66 np) rfl u1407 u1404 u1406 qp65 u12 hyX11_kindOf (by decide) (by decide) (Nat.le_of_ble_eq_true rfl) dX11_ask_39 (fun v_39 m_39 h_39 => ?_)
      obtain ⟨e1, e2⟩ := h_39; have e1 := e1.symm; have e2 := e2.symm; subst e1; subst e2
      refine j_nrm 5 hk ?_
      refine s_callVi X hR (m_sizeOf5 np _ p 0 (by omega) rfl (by omega)) rfl 11 (by decide) (o66 np) (k66 np) rfl u1422 u1419 u1421 qp66 u12 hyX11_sizeOf (by decide) (by decide) (Nat.le_of_ble_eq_true rfl) dX11_ask_42 (fun v_42 m_42 h_42 => ?_)
      obtain ⟨e1, e2⟩ := h_42; have e1 := e1.symm; have e2 := e2.symm; subst e1; subst e2
      refine j_goto X 58 dX11_ask_45 (by decide) ?_
      refine s_iret X hE hr dX11_ask_58 rfl ?_
      first | exact ⟨rfl, rfl⟩ | (exfalso; clear hE hr hR X; (try simp only [lg_cmp_lt, lg_cmp_gt, lg_cmp_le, lg_cmp_ge] at *); (try simp (disch := omega) only [Int64.le_iff_toInt_le, Int64.lt_iff_toInt_lt, Int32.le_iff_toInt_le, Int32.lt_iff_toInt_lt, fa_eq, fa_lit, fa_litL, nI_toInt, pk_lT, Int32.toInt_toInt64, jadd64, jin, jnoneT] at *); omega)
    · exfalso
      clear hE hr hR X
      (try simp only [lg_cmp_lt, lg_cmp_gt, lg_cmp_le, lg_cmp_ge] at *); (try simp (disch := omega) only [Int64.le_iff_toInt_le, Int64.lt_iff_toInt_lt, Int32.le_iff_toInt_le, Int32.lt_iff_toInt_lt, fa_eq, fa_lit, fa_litL, nI_toInt, pk_lT, Int32.toInt_toInt64, jadd64, jin, jnoneT] at *); omega
set_option maxRecDepth 4000 in
set_option maxHeartbeats 1000000 in
theorem m_ask5_1 (np : Nat) (mem : jMem) (p : Nat) (hn : np ≤ 12) (hp : mem 66 9 = nI np) (hp2 : p < np) (hk : jKind (mem 75 p) (mem 66 39) (mem 74 (9 * p + 2)) = 5) : jPi yX11_ask cX11_ask 3 .int 6 [.ref 66, .int (nI p), .int 1] np mem (fun v c => v = nI p ∧ c = (jBeg (jup (jup mem 66 0 0) 66 41 0) 0 20)) := by
  refine jPi.of (own := RX11) rfl rfl (Nat.le_of_ble_eq_true rfl) (fun G X hR hr hE => ?_)
  refine j_aload_n X dX11_ask_0 rfl ?_
  refine j_iconst X dX11_ask_1 0 (by decide) ?_
  refine j_putI X 11 0 (by decide) (by decide) rfl rfl rfl rfl u950 (o66 np) (k66 np) dX11_ask_2 ?_
  refine j_aload_n X dX11_ask_5 rfl ?_
  refine j_iload_n X dX11_ask_6 rfl ?_
  refine s_callVi X hR (m_isPaper np _ _ hn hp) rfl 11 (by decide) (o66 np) (k66 np) rfl u1151 u1148 u1150 qp39 u12 hyX11_isPaper (by decide) (by decide) (Nat.le_of_ble_eq_true rfl) dX11_ask_7 (fun v_7 m_7 h_7 => ?_)
  obtain ⟨e1, e2⟩ := h_7; have e1 := e1.symm; have e2 := e2.symm; subst e1; subst e2
  refine j_ifb_eq X 23 dX11_ask_10 (by decide) (fun c_10 => ?_) (fun c_10 => ?_)
  · exfalso
    clear hE hr hR X
    (try simp only [lg_cmp_lt, lg_cmp_gt, lg_cmp_le, lg_cmp_ge] at *); (try simp (disch := omega) only [Int64.le_iff_toInt_le, Int64.lt_iff_toInt_lt, Int32.le_iff_toInt_le, Int32.lt_iff_toInt_lt, fa_eq, fa_lit, fa_litL, nI_toInt, pk_lT, Int32.toInt_toInt64, jadd64, jin, jnoneT] at *); omega
  · refine j_iload_n X dX11_ask_13 rfl ?_
    refine j_i2l X dX11_ask_14 ?_
    refine j_lconst X dX11_ask_15 0 (by decide) ?_
    refine j_lconst X dX11_ask_16 1 (by decide) ?_
    refine s_callSi X hR (m_inI np _ _ _ _ 0 1 rfl rfl) rfl u1087 u1085 u1086 u12 hyX11_in (by decide) (by decide) (Nat.le_of_ble_eq_true rfl) dX11_ask_17 (fun v_17 m_17 h_17 => ?_)
    obtain ⟨e1, e2⟩ := h_17; have e1 := e1.symm; have e2 := e2.symm; subst e1; subst e2
    refine j_ifb_ne X 26 dX11_ask_20 (by decide) (fun c_20 => ?_) (fun c_20 => ?_)
    · refine j_aload_n X dX11_ask_26 rfl ?_
      refine j_iconst X dX11_ask_27 0 (by decide) ?_
      refine j_putI X 11 41 (by decide) (by decide) rfl rfl rfl rfl u991 (o66 np) (k66 np) dX11_ask_28 ?_
      refine j_iload_n X dX11_ask_31 rfl ?_
      refine j_if_ne X 48 dX11_ask_32 (by decide) (fun c_32 => ?_) (fun c_32 => absurd c_32 (by decide))
      refine j_aload_n X dX11_ask_48 rfl ?_
      refine j_iload_n X dX11_ask_49 rfl ?_
      refine j_aload_n X dX11_ask_50 rfl ?_
      refine j_iload_n X dX11_ask_51 rfl ?_
      refine s_callVi X hR (m_kindOf np _ p (by omega)) rfl 11 (by decide) (o66 np) (k66 np) rfl u1407 u1404 u1406 qp65 u12 hyX11_kindOf (by decide) (by decide) (Nat.le_of_ble_eq_true rfl) dX11_ask_52 (fun v_52 m_52 h_52 => ?_)
      obtain ⟨e1, e2⟩ := h_52; have e1 := e1.symm; have e2 := e2.symm; subst e1; subst e2
      refine j_nrm 5 hk ?_
      refine s_callVi X hR (m_markOf5 np _ p 0 (by omega) rfl (by omega)) rfl 11 (by decide) (o66 np) (k66 np) rfl u1438 u1435 u1437 qp70 u12 hyX11_markOf (by decide) (by decide) (Nat.le_of_ble_eq_true rfl) dX11_ask_55 (fun v_55 m_55 h_55 => ?_)
      obtain ⟨e1, e2⟩ := h_55; have e1 := e1.symm; have e2 := e2.symm; subst e1; subst e2
      refine s_iret X hE hr dX11_ask_58 rfl ?_
      first | exact ⟨rfl, rfl⟩ | (exfalso; clear hE hr hR X; (try simp only [lg_cmp_lt, lg_cmp_gt, lg_cmp_le, lg_cmp_ge] at *); (try simp (disch := omega) only [Int64.le_iff_toInt_le, Int64.lt_iff_toInt_lt, Int32.le_iff_toInt_le, Int32.lt_iff_toInt_lt, fa_eq, fa_lit, fa_litL, nI_toInt, pk_lT, Int32.toInt_toInt64, jadd64, jin, jnoneT] at *); omega)
    · exfalso
      clear hE hr hR X
      (try simp only [lg_cmp_lt, lg_cmp_gt, lg_cmp_le, lg_cmp_ge] at *); (try simp (disch := omega) only [Int64.le_iff_toInt_le, Int64.lt_iff_toInt_lt, Int32.le_iff_toInt_le, Int32.lt_iff_toInt_lt, fa_eq, fa_lit, fa_litL, nI_toInt, pk_lT, Int32.toInt_toInt64, jadd64, jin, jnoneT] at *); omega
set_option maxRecDepth 4000 in
set_option maxHeartbeats 1000000 in
theorem m_trace_none (np : Nat) (mem : jMem) (i : Int32) (t : Nat) (ht : mem 66 41 = nI t) (ht2 : t ≤ 16) (h : ¬ jin i 0 ((t : Int) - 1)) : jPi yX11_trace cX11_trace 2 .int 2 [.ref 66, .int i] np mem (fun v c => v = -1000000 ∧ c = jup mem 66 0 0) := by
  refine jPi.of (own := RX11) rfl rfl (Nat.le_of_ble_eq_true rfl) (fun G X hR hr hE => ?_)
  refine j_aload_n X dX11_trace_0 rfl ?_
  refine j_iconst X dX11_trace_1 0 (by decide) ?_
  refine j_putI X 11 0 (by decide) (by decide) rfl rfl rfl rfl u950 (o66 np) (k66 np) dX11_trace_2 ?_
  refine j_iload_n X dX11_trace_5 rfl ?_
  refine j_i2l X dX11_trace_6 ?_
  refine j_lconst X dX11_trace_7 0 (by decide) ?_
  refine j_aload_n X dX11_trace_8 rfl ?_
  refine j_getF X 11 41 (by decide) (by decide) rfl u991 (o66 np) (k66 np) _ rfl dX11_trace_9 ?_
  refine j_nrm (nI t) ht ?_
  refine j_iconst X dX11_trace_12 1 (by decide) ?_
  refine j_isub X dX11_trace_13 ?_
  refine j_i2l X dX11_trace_14 ?_
  refine s_callSi X hR (m_inI np _ _ _ _ 0 ((t : Int) - 1) rfl (jsub1 (by omega))) rfl u1087 u1085 u1086 u12 hyX11_in (by decide) (by decide) (Nat.le_of_ble_eq_true rfl) dX11_trace_15 (fun v_15 m_15 h_15 => ?_)
  obtain ⟨e1, e2⟩ := h_15; have e1 := e1.symm; have e2 := e2.symm; subst e1; subst e2
  refine j_ifb_eq X 30 dX11_trace_18 (by decide) (fun c_18 => ?_) (fun c_18 => ?_)
  · refine j_ldc X dX11_trace_30 u949 ?_
    refine s_iret X hE hr dX11_trace_32 rfl ?_
    first | exact ⟨rfl, rfl⟩ | (exfalso; clear hE hr hR X; (try simp only [lg_cmp_lt, lg_cmp_gt, lg_cmp_le, lg_cmp_ge] at *); (try simp (disch := omega) only [Int64.le_iff_toInt_le, Int64.lt_iff_toInt_lt, Int32.le_iff_toInt_le, Int32.lt_iff_toInt_lt, fa_eq, fa_lit, fa_litL, nI_toInt, pk_lT, Int32.toInt_toInt64, jadd64, jin, jnoneT] at *); omega)
  · exfalso
    clear hE hr hR X
    (try simp only [lg_cmp_lt, lg_cmp_gt, lg_cmp_le, lg_cmp_ge] at *); (try simp (disch := omega) only [Int64.le_iff_toInt_le, Int64.lt_iff_toInt_lt, Int32.le_iff_toInt_le, Int32.lt_iff_toInt_lt, fa_eq, fa_lit, fa_litL, nI_toInt, pk_lT, Int32.toInt_toInt64, jadd64, jin, jnoneT] at *); omega
set_option maxRecDepth 4000 in
set_option maxHeartbeats 1000000 in
theorem m_trace (np : Nat) (mem : jMem) (i t : Nat) (ht : mem 66 41 = nI t) (ht2 : t ≤ 16) (h : i < t) : jPi yX11_trace cX11_trace 2 .int 2 [.ref 66, .int (nI i)] np mem (fun v c => v = mem 91 i ∧ c = jup mem 66 0 0) := by
  refine jPi.of (own := RX11) rfl rfl (Nat.le_of_ble_eq_true rfl) (fun G X hR hr hE => ?_)
  refine j_aload_n X dX11_trace_0 rfl ?_
  refine j_iconst X dX11_trace_1 0 (by decide) ?_
  refine j_putI X 11 0 (by decide) (by decide) rfl rfl rfl rfl u950 (o66 np) (k66 np) dX11_trace_2 ?_
  refine j_iload_n X dX11_trace_5 rfl ?_
  refine j_i2l X dX11_trace_6 ?_
  refine j_lconst X dX11_trace_7 0 (by decide) ?_
  refine j_aload_n X dX11_trace_8 rfl ?_
  refine j_getF X 11 41 (by decide) (by decide) rfl u991 (o66 np) (k66 np) _ rfl dX11_trace_9 ?_
  refine j_nrm (nI t) ht ?_
  refine j_iconst X dX11_trace_12 1 (by decide) ?_
  refine j_isub X dX11_trace_13 ?_
  refine j_i2l X dX11_trace_14 ?_
  refine s_callSi X hR (m_inI np _ _ _ _ 0 ((t : Int) - 1) rfl (jsub1 (by omega))) rfl u1087 u1085 u1086 u12 hyX11_in (by decide) (by decide) (Nat.le_of_ble_eq_true rfl) dX11_trace_15 (fun v_15 m_15 h_15 => ?_)
  obtain ⟨e1, e2⟩ := h_15; have e1 := e1.symm; have e2 := e2.symm; subst e1; subst e2
  refine j_ifb_eq X 30 dX11_trace_18 (by decide) (fun c_18 => ?_) (fun c_18 => ?_)
  · exfalso
    clear hE hr hR X
    (try simp only [lg_cmp_lt, lg_cmp_gt, lg_cmp_le, lg_cmp_ge] at *); (try simp (disch := omega) only [Int64.le_iff_toInt_le, Int64.lt_iff_toInt_lt, Int32.le_iff_toInt_le, Int32.lt_iff_toInt_lt, fa_eq, fa_lit, fa_litL, nI_toInt, pk_lT, Int32.toInt_toInt64, jadd64, jin, jnoneT] at *); omega
  · refine j_aload_n X dX11_trace_21 rfl ?_
    refine j_getR X 11 40 (by decide) (by decide) rfl u990 (o66 np) (k66 np) _ (p66_40 np) dX11_trace_22 ?_
    refine j_iload_n X dX11_trace_25 rfl ?_
    refine j_nrm _ (by first | (simp only [fa_lit, pk_mul, nI_add]; done) | (simp only [fa_lit, pk_mul, nI_add]; rfl) | rfl) ?_
    refine j_ialdN X (o91 np) (k91 np) (by rw [l91]; omega) (by rw [l91]; decide) (mem 91) rfl dX11_trace_26 ?_
    refine j_goto X 32 dX11_trace_27 (by decide) ?_
    refine s_iret X hE hr dX11_trace_32 rfl ?_
    first | exact ⟨rfl, rfl⟩ | (exfalso; clear hE hr hR X; (try simp only [lg_cmp_lt, lg_cmp_gt, lg_cmp_le, lg_cmp_ge] at *); (try simp (disch := omega) only [Int64.le_iff_toInt_le, Int64.lt_iff_toInt_lt, Int32.le_iff_toInt_le, Int32.lt_iff_toInt_lt, fa_eq, fa_lit, fa_litL, nI_toInt, pk_lT, Int32.toInt_toInt64, jadd64, jin, jnoneT] at *); omega)
set_option maxRecDepth 4000 in
set_option maxHeartbeats 1000000 in
theorem m_status (np : Nat) (mem : jMem)   : jPi yX11_status cX11_status 1 .int 1 [.ref 66] np mem (fun v c => v = mem 66 1 ∧ c = jup mem 66 0 0) := by
  refine jPi.of (own := RX11) rfl rfl (Nat.le_of_ble_eq_true rfl) (fun G X hR hr hE => ?_)
  refine j_aload_n X dX11_status_0 rfl ?_
  refine j_iconst X dX11_status_1 0 (by decide) ?_
  refine j_putI X 11 0 (by decide) (by decide) rfl rfl rfl rfl u950 (o66 np) (k66 np) dX11_status_2 ?_
  refine j_aload_n X dX11_status_5 rfl ?_
  refine j_getF X 11 1 (by decide) (by decide) rfl u951 (o66 np) (k66 np) _ rfl dX11_status_6 ?_
  refine s_iret X hE hr dX11_status_9 rfl ?_
  exact ⟨rfl, rfl⟩
set_option maxRecDepth 4000 in
set_option maxHeartbeats 1000000 in
theorem m_fault (np : Nat) (mem : jMem)   : jPi yX11_fault cX11_fault 1 .int 1 [.ref 66] np mem (fun v c => v = mem 66 23 ∧ c = jup mem 66 0 0) := by
  refine jPi.of (own := RX11) rfl rfl (Nat.le_of_ble_eq_true rfl) (fun G X hR hr hE => ?_)
  refine j_aload_n X dX11_fault_0 rfl ?_
  refine j_iconst X dX11_fault_1 0 (by decide) ?_
  refine j_putI X 11 0 (by decide) (by decide) rfl rfl rfl rfl u950 (o66 np) (k66 np) dX11_fault_2 ?_
  refine j_aload_n X dX11_fault_5 rfl ?_
  refine j_getF X 11 23 (by decide) (by decide) rfl u973 (o66 np) (k66 np) _ rfl dX11_fault_6 ?_
  refine s_iret X hE hr dX11_fault_9 rfl ?_
  exact ⟨rfl, rfl⟩
set_option maxRecDepth 4000 in
set_option maxHeartbeats 1000000 in
theorem m_count1 (np : Nat) (mem : jMem)   : jPi yX11_count cX11_count 4 .int 3 [.ref 66, .int 1] np mem (fun v c => v = mem 66 9 ∧ c = jup mem 66 0 0) := by
  refine jPi.of (own := RX11) rfl rfl (Nat.le_of_ble_eq_true rfl) (fun G X hR hr hE => ?_)
  refine j_aload_n X dX11_count_0 rfl ?_
  refine j_iconst X dX11_count_1 0 (by decide) ?_
  refine j_putI X 11 0 (by decide) (by decide) rfl rfl rfl rfl u950 (o66 np) (k66 np) dX11_count_2 ?_
  refine j_iconst X dX11_count_5 0 (by decide) ?_
  refine j_istore_n X dX11_count_6 (by decide) ?_
  refine j_iload_n X dX11_count_7 rfl ?_
  refine j_tabIn X (off := 73) 81 dX11_count_8 (by decide) (by decide) (by decide) (by decide) ?_
  refine j_aload_n X dX11_count_81 rfl ?_
  refine j_getF X 11 9 (by decide) (by decide) rfl u959 (o66 np) (k66 np) _ rfl dX11_count_82 ?_
  refine s_iret X hE hr dX11_count_85 rfl ?_
  exact ⟨rfl, rfl⟩
set_option maxRecDepth 4000 in
set_option maxHeartbeats 1000000 in
theorem m_count3 (np : Nat) (mem : jMem)   : jPi yX11_count cX11_count 4 .int 3 [.ref 66, .int 3] np mem (fun v c => v = mem 70 0 + mem 70 1 + mem 70 2 + mem 70 3 ∧ c = jup mem 66 0 0) := by
  refine jPi.of (own := RX11) rfl rfl (Nat.le_of_ble_eq_true rfl) (fun G X hR hr hE => ?_)
  refine j_aload_n X dX11_count_0 rfl ?_
  refine j_iconst X dX11_count_1 0 (by decide) ?_
  refine j_putI X 11 0 (by decide) (by decide) rfl rfl rfl rfl u950 (o66 np) (k66 np) dX11_count_2 ?_
  refine j_iconst X dX11_count_5 0 (by decide) ?_
  refine j_istore_n X dX11_count_6 (by decide) ?_
  refine j_iload_n X dX11_count_7 rfl ?_
  refine j_tabIn X (off := 113) 121 dX11_count_8 (by decide) (by decide) (by decide) (by decide) ?_
  refine j_aload_n X dX11_count_121 rfl ?_
  refine j_getR X 11 5 (by decide) (by decide) rfl u955 (o66 np) (k66 np) _ (p66_5 np) dX11_count_122 ?_
  refine j_iconst X dX11_count_125 0 (by decide) ?_
  refine j_nrm _ (by first | (simp only [fa_lit, pk_mul, nI_add]; done) | (simp only [fa_lit, pk_mul, nI_add]; rfl) | rfl) ?_
  refine j_ialdN X (o70 np) (k70 np) (by rw [l70]; omega) (by rw [l70]; decide) (mem 70) rfl dX11_count_126 ?_
  refine j_aload_n X dX11_count_127 rfl ?_
  refine j_getR X 11 5 (by decide) (by decide) rfl u955 (o66 np) (k66 np) _ (p66_5 np) dX11_count_128 ?_
  refine j_iconst X dX11_count_131 1 (by decide) ?_
  refine j_nrm _ (by first | (simp only [fa_lit, pk_mul, nI_add]; done) | (simp only [fa_lit, pk_mul, nI_add]; rfl) | rfl) ?_
  refine j_ialdN X (o70 np) (k70 np) (by rw [l70]; omega) (by rw [l70]; decide) (mem 70) rfl dX11_count_132 ?_
  refine j_iadd X dX11_count_133 ?_
  refine j_aload_n X dX11_count_134 rfl ?_
  refine j_getR X 11 5 (by decide) (by decide) rfl u955 (o66 np) (k66 np) _ (p66_5 np) dX11_count_135 ?_
  refine j_iconst X dX11_count_138 2 (by decide) ?_
  refine j_nrm _ (by first | (simp only [fa_lit, pk_mul, nI_add]; done) | (simp only [fa_lit, pk_mul, nI_add]; rfl) | rfl) ?_
  refine j_ialdN X (o70 np) (k70 np) (by rw [l70]; omega) (by rw [l70]; decide) (mem 70) rfl dX11_count_139 ?_
  refine j_iadd X dX11_count_140 ?_
  refine j_aload_n X dX11_count_141 rfl ?_
  refine j_getR X 11 5 (by decide) (by decide) rfl u955 (o66 np) (k66 np) _ (p66_5 np) dX11_count_142 ?_
  refine j_iconst X dX11_count_145 3 (by decide) ?_
  refine j_nrm _ (by first | (simp only [fa_lit, pk_mul, nI_add]; done) | (simp only [fa_lit, pk_mul, nI_add]; rfl) | rfl) ?_
  refine j_ialdN X (o70 np) (k70 np) (by rw [l70]; omega) (by rw [l70]; decide) (mem 70) rfl dX11_count_146 ?_
  refine j_iadd X dX11_count_147 ?_
  refine s_iret X hE hr dX11_count_148 rfl ?_
  exact ⟨rfl, rfl⟩
set_option maxRecDepth 4000 in
set_option maxHeartbeats 1000000 in
theorem m_count4 (np : Nat) (mem : jMem)   : jPi yX11_count cX11_count 4 .int 3 [.ref 66, .int 4] np mem (fun v c => v = mem 66 34 ∧ c = jup mem 66 0 0) := by
  refine jPi.of (own := RX11) rfl rfl (Nat.le_of_ble_eq_true rfl) (fun G X hR hr hE => ?_)
  refine j_aload_n X dX11_count_0 rfl ?_
  refine j_iconst X dX11_count_1 0 (by decide) ?_
  refine j_putI X 11 0 (by decide) (by decide) rfl rfl rfl rfl u950 (o66 np) (k66 np) dX11_count_2 ?_
  refine j_iconst X dX11_count_5 0 (by decide) ?_
  refine j_istore_n X dX11_count_6 (by decide) ?_
  refine j_iload_n X dX11_count_7 rfl ?_
  refine j_tabIn X (off := 141) 149 dX11_count_8 (by decide) (by decide) (by decide) (by decide) ?_
  refine j_aload_n X dX11_count_149 rfl ?_
  refine j_getF X 11 34 (by decide) (by decide) rfl u984 (o66 np) (k66 np) _ rfl dX11_count_150 ?_
  refine s_iret X hE hr dX11_count_153 rfl ?_
  exact ⟨rfl, rfl⟩
set_option maxRecDepth 4000 in
set_option maxHeartbeats 1000000 in
theorem m_count5 (np : Nat) (mem : jMem)   : jPi yX11_count cX11_count 4 .int 3 [.ref 66, .int 5] np mem (fun v c => v = mem 66 22 ∧ c = jup mem 66 0 0) := by
  refine jPi.of (own := RX11) rfl rfl (Nat.le_of_ble_eq_true rfl) (fun G X hR hr hE => ?_)
  refine j_aload_n X dX11_count_0 rfl ?_
  refine j_iconst X dX11_count_1 0 (by decide) ?_
  refine j_putI X 11 0 (by decide) (by decide) rfl rfl rfl rfl u950 (o66 np) (k66 np) dX11_count_2 ?_
  refine j_iconst X dX11_count_5 0 (by decide) ?_
  refine j_istore_n X dX11_count_6 (by decide) ?_
  refine j_iload_n X dX11_count_7 rfl ?_
  refine j_tabIn X (off := 146) 154 dX11_count_8 (by decide) (by decide) (by decide) (by decide) ?_
  refine j_aload_n X dX11_count_154 rfl ?_
  refine j_getF X 11 22 (by decide) (by decide) rfl u972 (o66 np) (k66 np) _ rfl dX11_count_155 ?_
  refine s_iret X hE hr dX11_count_158 rfl ?_
  exact ⟨rfl, rfl⟩
set_option maxRecDepth 4000 in
set_option maxHeartbeats 1000000 in
theorem m_count_bad (np : Nat) (mem : jMem) (w : Int32) (h : ¬ jin w 0 5) : jPi yX11_count cX11_count 4 .int 3 [.ref 66, .int w] np mem (fun v c => v = -1000001 ∧ c = jup mem 66 0 0) := by
  refine jPi.of (own := RX11) rfl rfl (Nat.le_of_ble_eq_true rfl) (fun G X hR hr hE => ?_)
  refine j_aload_n X dX11_count_0 rfl ?_
  refine j_iconst X dX11_count_1 0 (by decide) ?_
  refine j_putI X 11 0 (by decide) (by decide) rfl rfl rfl rfl u950 (o66 np) (k66 np) dX11_count_2 ?_
  refine j_iconst X dX11_count_5 0 (by decide) ?_
  refine j_istore_n X dX11_count_6 (by decide) ?_
  refine j_iload_n X dX11_count_7 rfl ?_
  refine j_tabOut X 159 dX11_count_8 (by omega) (by decide) ?_
  refine j_ldc X dX11_count_159 u1089 ?_
  exact s_iret X hE hr dX11_count_161 rfl ⟨rfl, rfl⟩
set_option maxRecDepth 4000 in
set_option maxHeartbeats 1000000 in
theorem m_count0 (np : Nat) (mem : jMem)   : jPi yX11_count cX11_count 4 .int 3 [.ref 66, .int 0] np mem (fun v c => v = nI (jCnt (fun s => 0 ≤ (mem 67 s).toInt) 8) ∧ c = jup mem 66 0 0) := by
  refine jPi.of (own := RX11) rfl rfl (Nat.le_of_ble_eq_true rfl) (fun G X hR hr hE => ?_)
  refine j_aload_n X dX11_count_0 rfl ?_
  refine j_iconst X dX11_count_1 0 (by decide) ?_
  refine j_putI X 11 0 (by decide) (by decide) rfl rfl rfl rfl u950 (o66 np) (k66 np) dX11_count_2 ?_
  refine j_iconst X dX11_count_5 0 (by decide) ?_
  refine j_istore_n X dX11_count_6 (by decide) ?_
  refine j_iload_n X dX11_count_7 rfl ?_
  refine j_tabIn X (off := 40) 48 dX11_count_8 (by decide) (by decide) (by decide) (by decide) ?_
  refine j_iconst X dX11_count_48 0 (by decide) ?_
  refine j_istore_n X dX11_count_49 (by decide) ?_
  have lp50 : ∀ (n : Nat) (k : Nat), k ≤ 8 → 9 ≤ k + n → J G RX11 cX11_count 4 0 0 50 (jlv [some (.ref 66), some (.int 0), some (.int (nI (jCnt (fun s => 0 ≤ (mem 67 s).toInt) k))), some (.int (nI k))]) [] (jS np) (jup mem 66 0 0) := by
    intro n
    induction n with
    | zero =>
      intro k hk hn
      exact absurd hn (by omega)
    | succ n ih50 =>
      intro k hk hn
      refine j_iload_n X dX11_count_50 rfl ?_
      refine j_bipush X dX11_count_51 8 (by decide) ?_
      refine j_icmp_ge X 79 dX11_count_53 (by decide) (fun c_53 => ?_) (fun c_53 => ?_)
      · obtain rfl : k = 8 := by clear hE hr hR X; (try simp only [lg_cmp_lt, lg_cmp_gt, lg_cmp_le, lg_cmp_ge] at *); (try simp (disch := omega) only [Int64.le_iff_toInt_le, Int64.lt_iff_toInt_lt, Int32.le_iff_toInt_le, Int32.lt_iff_toInt_lt, fa_eq, fa_lit, fa_litL, nI_toInt, pk_lT, Int32.toInt_toInt64, jadd64, jin, jnoneT] at *); omega
        refine j_iload_n X dX11_count_79 rfl ?_
        refine s_iret X hE hr dX11_count_80 rfl ?_
        first | exact ⟨rfl, rfl⟩ | (exfalso; clear hE hr hR X; (try simp only [lg_cmp_lt, lg_cmp_gt, lg_cmp_le, lg_cmp_ge] at *); (try simp (disch := omega) only [Int64.le_iff_toInt_le, Int64.lt_iff_toInt_lt, Int32.le_iff_toInt_le, Int32.lt_iff_toInt_lt, fa_eq, fa_lit, fa_litL, nI_toInt, pk_lT, Int32.toInt_toInt64, jadd64, jin, jnoneT] at *); omega)
      · have hk2 : k < 8 := by clear hE hr hR X; (try simp only [lg_cmp_lt, lg_cmp_gt, lg_cmp_le, lg_cmp_ge] at *); (try simp (disch := omega) only [Int64.le_iff_toInt_le, Int64.lt_iff_toInt_lt, Int32.le_iff_toInt_le, Int32.lt_iff_toInt_lt, fa_eq, fa_lit, fa_litL, nI_toInt, pk_lT, Int32.toInt_toInt64, jadd64, jin, jnoneT] at *); omega
        refine j_iload_n X dX11_count_56 rfl ?_
        refine j_aload_n X dX11_count_57 rfl ?_
        refine j_getR X 11 2 (by decide) (by decide) rfl u952 (o66 np) (k66 np) _ (p66_2 np) dX11_count_58 ?_
        refine j_iload_n X dX11_count_61 rfl ?_
        refine j_nrm _ (by first | (simp only [fa_lit, pk_mul, nI_add]; done) | (simp only [fa_lit, pk_mul, nI_add]; rfl) | rfl) ?_
        refine j_ialdN X (o67 np) (k67 np) (by rw [l67]; omega) (by rw [l67]; decide) (mem 67) rfl dX11_count_62 ?_
        refine j_if_lt X 70 dX11_count_63 (by decide) (fun c_63 => ?_) (fun c_63 => ?_)
        · refine j_iconst X dX11_count_70 0 (by decide) ?_
          refine j_iadd X dX11_count_71 ?_
          refine j_istore_n X dX11_count_72 (by decide) ?_
          refine j_iinc X dX11_count_73 rfl 1 rfl ?_
          refine j_goto X 50 dX11_count_76 (by decide) ?_
          refine j_lv [some (.ref 66), some (.int 0), some (.int (nI (jCnt (fun s => 0 ≤ (mem 67 s).toInt) (k + 1)))), some (.int (nI (k + 1)))] ⟨rfl, rfl, (congrArg (fun z => some (Value.int z)) (jPcnt (by first | exact Or.inl ⟨by (try simp only [lg_cmp_lt, lg_cmp_gt, lg_cmp_le, lg_cmp_ge] at *); (try simp (disch := omega) only [Int64.le_iff_toInt_le, Int64.lt_iff_toInt_lt, Int32.le_iff_toInt_le, Int32.lt_iff_toInt_lt, fa_eq, fa_lit, fa_litL, nI_toInt, pk_lT, Int32.toInt_toInt64, jadd64, jin, jnoneT] at *); omega, rfl⟩ | exact Or.inr ⟨by (try simp only [lg_cmp_lt, lg_cmp_gt, lg_cmp_le, lg_cmp_ge] at *); (try simp (disch := omega) only [Int64.le_iff_toInt_le, Int64.lt_iff_toInt_lt, Int32.le_iff_toInt_le, Int32.lt_iff_toInt_lt, fa_eq, fa_lit, fa_litL, nI_toInt, pk_lT, Int32.toInt_toInt64, jadd64, jin, jnoneT] at *); omega, rfl⟩))), (by rw [← nI_1]; rfl), trivial⟩ ?_
          exact ih50 (k + 1) (by omega) (by omega)
        · refine j_iconst X dX11_count_66 1 (by decide) ?_
          refine j_goto X 71 dX11_count_67 (by decide) ?_
          refine j_iadd X dX11_count_71 ?_
          refine j_istore_n X dX11_count_72 (by decide) ?_
          refine j_iinc X dX11_count_73 rfl 1 rfl ?_
          refine j_goto X 50 dX11_count_76 (by decide) ?_
          refine j_lv [some (.ref 66), some (.int 0), some (.int (nI (jCnt (fun s => 0 ≤ (mem 67 s).toInt) (k + 1)))), some (.int (nI (k + 1)))] ⟨rfl, rfl, (congrArg (fun z => some (Value.int z)) (jPcnt (by first | exact Or.inl ⟨by (try simp only [lg_cmp_lt, lg_cmp_gt, lg_cmp_le, lg_cmp_ge] at *); (try simp (disch := omega) only [Int64.le_iff_toInt_le, Int64.lt_iff_toInt_lt, Int32.le_iff_toInt_le, Int32.lt_iff_toInt_lt, fa_eq, fa_lit, fa_litL, nI_toInt, pk_lT, Int32.toInt_toInt64, jadd64, jin, jnoneT] at *); omega, rfl⟩ | exact Or.inr ⟨by (try simp only [lg_cmp_lt, lg_cmp_gt, lg_cmp_le, lg_cmp_ge] at *); (try simp (disch := omega) only [Int64.le_iff_toInt_le, Int64.lt_iff_toInt_lt, Int32.le_iff_toInt_le, Int32.lt_iff_toInt_lt, fa_eq, fa_lit, fa_litL, nI_toInt, pk_lT, Int32.toInt_toInt64, jadd64, jin, jnoneT] at *); omega, rfl⟩))), (by rw [← nI_1]; rfl), trivial⟩ ?_
          exact ih50 (k + 1) (by omega) (by omega)
  refine j_lv [some (.ref 66), some (.int 0), some (.int (nI (jCnt (fun s => 0 ≤ (mem 67 s).toInt) 0))), some (.int (nI 0))] ⟨rfl, rfl, rfl, rfl, trivial⟩ ?_
  exact lp50 9 0 (by omega) (by omega)
set_option maxRecDepth 4000 in
set_option maxHeartbeats 1000000 in
theorem m_count2 (np : Nat) (mem : jMem)  (hn0 : np ≤ 12) (hp : mem 66 9 = nI np) (hso : ∀ p, p < np → mem 74 (9 * p + 2) ≠ 5) : jPi yX11_count cX11_count 4 .int 3 [.ref 66, .int 2] np mem (fun v c => v = nI (jCnt (fun p => mem 75 p ≠ -1000000 ∧ mem 75 p ≤ mem 66 39) np) ∧ c = jup mem 66 0 0) := by
  refine jPi.of (own := RX11) rfl rfl (Nat.le_of_ble_eq_true rfl) (fun G X hR hr hE => ?_)
  refine j_aload_n X dX11_count_0 rfl ?_
  refine j_iconst X dX11_count_1 0 (by decide) ?_
  refine j_putI X 11 0 (by decide) (by decide) rfl rfl rfl rfl u950 (o66 np) (k66 np) dX11_count_2 ?_
  refine j_iconst X dX11_count_5 0 (by decide) ?_
  refine j_istore_n X dX11_count_6 (by decide) ?_
  refine j_iload_n X dX11_count_7 rfl ?_
  refine j_tabIn X (off := 78) 86 dX11_count_8 (by decide) (by decide) (by decide) (by decide) ?_
  refine j_iconst X dX11_count_86 0 (by decide) ?_
  refine j_istore_n X dX11_count_87 (by decide) ?_
  have lp88 : ∀ (n : Nat) (k : Nat), k ≤ np → np + 1 ≤ k + n → J G RX11 cX11_count 4 0 0 88 (jlv [some (.ref 66), some (.int 2), some (.int (nI (jCnt (fun p => mem 75 p ≠ -1000000 ∧ mem 75 p ≤ mem 66 39) k))), some (.int (nI k))]) [] (jS np) (jup mem 66 0 0) := by
    intro n
    induction n with
    | zero =>
      intro k hk hn
      exact absurd hn (by omega)
    | succ n ih88 =>
      intro k hk hn
      refine j_iload_n X dX11_count_88 rfl ?_
      refine j_aload_n X dX11_count_89 rfl ?_
      refine j_getF X 11 9 (by decide) (by decide) rfl u959 (o66 np) (k66 np) _ rfl dX11_count_90 ?_
      refine j_nrm (nI np) hp ?_
      refine j_icmp_ge X 119 dX11_count_93 (by decide) (fun c_93 => ?_) (fun c_93 => ?_)
      · obtain rfl : k = np := by clear hE hr hR X; (try simp only [lg_cmp_lt, lg_cmp_gt, lg_cmp_le, lg_cmp_ge] at *); (try simp (disch := omega) only [Int64.le_iff_toInt_le, Int64.lt_iff_toInt_lt, Int32.le_iff_toInt_le, Int32.lt_iff_toInt_lt, fa_eq, fa_lit, fa_litL, nI_toInt, pk_lT, Int32.toInt_toInt64, jadd64, jin, jnoneT] at *); omega
        refine j_iload_n X dX11_count_119 rfl ?_
        refine s_iret X hE hr dX11_count_120 rfl ?_
        first | exact ⟨rfl, rfl⟩ | (exfalso; clear hE hr hR X; (try simp only [lg_cmp_lt, lg_cmp_gt, lg_cmp_le, lg_cmp_ge] at *); (try simp (disch := omega) only [Int64.le_iff_toInt_le, Int64.lt_iff_toInt_lt, Int32.le_iff_toInt_le, Int32.lt_iff_toInt_lt, fa_eq, fa_lit, fa_litL, nI_toInt, pk_lT, Int32.toInt_toInt64, jadd64, jin, jnoneT] at *); omega)
      · have hk2 : k < np := by clear hE hr hR X; (try simp only [lg_cmp_lt, lg_cmp_gt, lg_cmp_le, lg_cmp_ge] at *); (try simp (disch := omega) only [Int64.le_iff_toInt_le, Int64.lt_iff_toInt_lt, Int32.le_iff_toInt_le, Int32.lt_iff_toInt_lt, fa_eq, fa_lit, fa_litL, nI_toInt, pk_lT, Int32.toInt_toInt64, jadd64, jin, jnoneT] at *); omega
        refine j_iload_n X dX11_count_96 rfl ?_
        refine j_aload_n X dX11_count_97 rfl ?_
        refine j_iload_n X dX11_count_98 rfl ?_
        refine s_callVi X hR (m_kindOf np _ k (by omega)) rfl 11 (by decide) (o66 np) (k66 np) rfl u1407 u1404 u1406 qp65 u12 hyX11_kindOf (by decide) (by decide) (Nat.le_of_ble_eq_true rfl) dX11_count_99 (fun v_99 m_99 h_99 => ?_)
        obtain ⟨e1, e2⟩ := h_99; have e1 := e1.symm; have e2 := e2.symm; subst e1; subst e2
        refine j_iconst X dX11_count_102 5 (by decide) ?_
        refine j_icmp_ne X 110 dX11_count_103 (by decide) (fun c_103 => ?_) (fun c_103 => ?_)
        · refine j_iconst X dX11_count_110 0 (by decide) ?_
          refine j_iadd X dX11_count_111 ?_
          refine j_istore_n X dX11_count_112 (by decide) ?_
          refine j_iinc X dX11_count_113 rfl 1 rfl ?_
          refine j_goto X 88 dX11_count_116 (by decide) ?_
          refine j_lv [some (.ref 66), some (.int 2), some (.int (nI (jCnt (fun p => mem 75 p ≠ -1000000 ∧ mem 75 p ≤ mem 66 39) (k + 1)))), some (.int (nI (k + 1)))] ⟨rfl, rfl, (congrArg (fun z => some (Value.int z)) (jPcnt (by first | exact Or.inl ⟨by exact jKind5 (hso k hk2) c_103, rfl⟩ | exact Or.inr ⟨by exact fun z => absurd (if_pos z) c_103, rfl⟩))), (by rw [← nI_1]; rfl), trivial⟩ ?_
          exact ih88 (k + 1) (by omega) (by omega)
        · refine j_iconst X dX11_count_106 1 (by decide) ?_
          refine j_goto X 111 dX11_count_107 (by decide) ?_
          refine j_iadd X dX11_count_111 ?_
          refine j_istore_n X dX11_count_112 (by decide) ?_
          refine j_iinc X dX11_count_113 rfl 1 rfl ?_
          refine j_goto X 88 dX11_count_116 (by decide) ?_
          refine j_lv [some (.ref 66), some (.int 2), some (.int (nI (jCnt (fun p => mem 75 p ≠ -1000000 ∧ mem 75 p ≤ mem 66 39) (k + 1)))), some (.int (nI (k + 1)))] ⟨rfl, rfl, (congrArg (fun z => some (Value.int z)) (jPcnt (by first | exact Or.inl ⟨by exact jKind5 (hso k hk2) c_103, rfl⟩ | exact Or.inr ⟨by exact fun z => absurd (if_pos z) c_103, rfl⟩))), (by rw [← nI_1]; rfl), trivial⟩ ?_
          exact ih88 (k + 1) (by omega) (by omega)
  refine j_lv [some (.ref 66), some (.int 2), some (.int (nI (jCnt (fun p => mem 75 p ≠ -1000000 ∧ mem 75 p ≤ mem 66 39) 0))), some (.int (nI 0))] ⟨rfl, rfl, rfl, rfl, trivial⟩ ?_
  exact lp88 (np + 1) 0 (by omega) (by omega)
set_option maxRecDepth 4000 in
set_option maxHeartbeats 1000000 in
theorem m_asksTooMuch (np : Nat) (mem : jMem) (d q : Nat) (hd : d < 4) (hq : q ≤ 8) (hc : mem 81 d = nI q) : jPi yX11_asksTooMuch cX11_asksTooMuch 4 .boolean 1 [.ref 66, .int (nI d)] np mem (fun v c => v = jb (jAny (fun i => decide (¬ mem 82 (8 * d + i) ≤ 0 ∧ (mem 80 d >>> (mem 83 (8 * d + i) &&& 31)) &&& 1 = 0)) q = true) ∧ c = mem) := by
  refine jPi.of (own := RX11) rfl rfl (Nat.le_of_ble_eq_true rfl) (fun G X hR hr hE => ?_)
  refine j_iconst X dX11_asksTooMuch_0 0 (by decide) ?_
  refine j_istore_n X dX11_asksTooMuch_1 (by decide) ?_
  refine j_bipush X dX11_asksTooMuch_2 8 (by decide) ?_
  refine j_iload_n X dX11_asksTooMuch_4 rfl ?_
  refine j_imul X dX11_asksTooMuch_5 ?_
  refine j_istore_n X dX11_asksTooMuch_6 (by decide) ?_
  have lp7 : ∀ (n : Nat) (k : Nat), k ≤ q → q + 1 ≤ k + n → J G RX11 cX11_asksTooMuch 4 0 0 7 (jlv [some (.ref 66), some (.int (nI d)), some (.int (jb (jAny (fun i => decide (¬ mem 82 (8 * d + i) ≤ 0 ∧ (mem 80 d >>> (mem 83 (8 * d + i) &&& 31)) &&& 1 = 0)) k = true))), some (.int (nI (8 * d + k)))]) [] (jS np) (mem) := by
    intro n
    induction n with
    | zero =>
      intro k hk hn
      exact absurd hn (by omega)
    | succ n ih7 =>
      intro k hk hn
      refine j_iload_n X dX11_asksTooMuch_7 rfl ?_
      refine j_bipush X dX11_asksTooMuch_8 8 (by decide) ?_
      refine j_iload_n X dX11_asksTooMuch_10 rfl ?_
      refine j_imul X dX11_asksTooMuch_11 ?_
      refine j_aload_n X dX11_asksTooMuch_12 rfl ?_
      refine j_getR X 11 17 (by decide) (by decide) rfl u967 (o66 np) (k66 np) _ (p66_17 np) dX11_asksTooMuch_13 ?_
      refine j_iload_n X dX11_asksTooMuch_16 rfl ?_
      refine j_nrm _ (by first | (simp only [fa_lit, pk_mul, nI_add]; done) | (simp only [fa_lit, pk_mul, nI_add]; rfl) | rfl) ?_
      refine j_ialdN X (o81 np) (k81 np) (by rw [l81]; omega) (by rw [l81]; decide) (mem 81) rfl dX11_asksTooMuch_17 ?_
      refine j_nrm (nI q) hc ?_
      refine j_iadd X dX11_asksTooMuch_18 ?_
      refine j_nrm (nI (8 * d + q)) (by simp only [fa_lit, pk_mul, nI_add]) ?_
      refine j_icmp_ge X 65 dX11_asksTooMuch_19 (by decide) (fun c_19 => ?_) (fun c_19 => ?_)
      · obtain rfl : k = q := by clear hE hr hR X; (try simp only [lg_cmp_lt, lg_cmp_gt, lg_cmp_le, lg_cmp_ge] at *); (try simp (disch := omega) only [Int64.le_iff_toInt_le, Int64.lt_iff_toInt_lt, Int32.le_iff_toInt_le, Int32.lt_iff_toInt_lt, fa_eq, fa_lit, fa_litL, nI_toInt, pk_lT, Int32.toInt_toInt64, jadd64, jin, jnoneT] at *); omega
        refine j_iload_n X dX11_asksTooMuch_65 rfl ?_
        refine s_iret X hE hr dX11_asksTooMuch_66 (by first | exact jb_nar | rfl) ?_
        first | exact ⟨rfl, rfl⟩ | (exfalso; clear hE hr hR X; (try simp only [lg_cmp_lt, lg_cmp_gt, lg_cmp_le, lg_cmp_ge] at *); (try simp (disch := omega) only [Int64.le_iff_toInt_le, Int64.lt_iff_toInt_lt, Int32.le_iff_toInt_le, Int32.lt_iff_toInt_lt, fa_eq, fa_lit, fa_litL, nI_toInt, pk_lT, Int32.toInt_toInt64, jadd64, jin, jnoneT] at *); omega)
      · have hk2 : k < q := by clear hE hr hR X; (try simp only [lg_cmp_lt, lg_cmp_gt, lg_cmp_le, lg_cmp_ge] at *); (try simp (disch := omega) only [Int64.le_iff_toInt_le, Int64.lt_iff_toInt_lt, Int32.le_iff_toInt_le, Int32.lt_iff_toInt_lt, fa_eq, fa_lit, fa_litL, nI_toInt, pk_lT, Int32.toInt_toInt64, jadd64, jin, jnoneT] at *); omega
        refine j_iload_n X dX11_asksTooMuch_22 rfl ?_
        refine j_ifb_ne X 53 dX11_asksTooMuch_23 (by decide) (fun c_23 => ?_) (fun c_23 => ?_)
        · refine j_iconst X dX11_asksTooMuch_53 1 (by decide) ?_
          refine j_goto X 58 dX11_asksTooMuch_54 (by decide) ?_
          refine j_istore_n X dX11_asksTooMuch_58 (by decide) ?_
          refine j_iinc X dX11_asksTooMuch_59 rfl 1 rfl ?_
          refine j_goto X 7 dX11_asksTooMuch_62 (by decide) ?_
          refine j_lv [some (.ref 66), some (.int (nI d)), some (.int (jb (jAny (fun i => decide (¬ mem 82 (8 * d + i) ≤ 0 ∧ (mem 80 d >>> (mem 83 (8 * d + i) &&& 31)) &&& 1 = 0)) (k + 1) = true))), some (.int (nI (8 * d + (k + 1))))] ⟨rfl, rfl, (congrArg (fun z => some (Value.int z)) (by first | exact (jb_t (jAny_t1 c_23)).symm | exact (jb_t (jAny_t2 (decide_eq_true ⟨c_32, c_50⟩))).symm | exact (jb_f (jAny_f c_23 (fun z => absurd c_32 (of_decide_eq_true z).1))).symm | exact (jb_f (jAny_f c_23 (fun z => c_50 (of_decide_eq_true z).2))).symm)), (by rw [← Nat.add_assoc, ← nI_1]; rfl), trivial⟩ ?_
          exact ih7 (k + 1) (by omega) (by omega)
        · refine j_aload_n X dX11_asksTooMuch_26 rfl ?_
          refine j_getR X 11 18 (by decide) (by decide) rfl u968 (o66 np) (k66 np) _ (p66_18 np) dX11_asksTooMuch_27 ?_
          refine j_iload_n X dX11_asksTooMuch_30 rfl ?_
          refine j_nrm _ (by first | (simp only [fa_lit, pk_mul, nI_add]; done) | (simp only [fa_lit, pk_mul, nI_add]; rfl) | rfl) ?_
          refine j_ialdN X (o82 np) (k82 np) (by rw [l82]; omega) (by rw [l82]; decide) (mem 82) rfl dX11_asksTooMuch_31 ?_
          refine j_if_le X 57 dX11_asksTooMuch_32 (by decide) (fun c_32 => ?_) (fun c_32 => ?_)
          · refine j_iconst X dX11_asksTooMuch_57 0 (by decide) ?_
            refine j_istore_n X dX11_asksTooMuch_58 (by decide) ?_
            refine j_iinc X dX11_asksTooMuch_59 rfl 1 rfl ?_
            refine j_goto X 7 dX11_asksTooMuch_62 (by decide) ?_
            refine j_lv [some (.ref 66), some (.int (nI d)), some (.int (jb (jAny (fun i => decide (¬ mem 82 (8 * d + i) ≤ 0 ∧ (mem 80 d >>> (mem 83 (8 * d + i) &&& 31)) &&& 1 = 0)) (k + 1) = true))), some (.int (nI (8 * d + (k + 1))))] ⟨rfl, rfl, (congrArg (fun z => some (Value.int z)) (by first | exact (jb_t (jAny_t1 c_23)).symm | exact (jb_t (jAny_t2 (decide_eq_true ⟨c_32, c_50⟩))).symm | exact (jb_f (jAny_f c_23 (fun z => absurd c_32 (of_decide_eq_true z).1))).symm | exact (jb_f (jAny_f c_23 (fun z => c_50 (of_decide_eq_true z).2))).symm)), (by rw [← Nat.add_assoc, ← nI_1]; rfl), trivial⟩ ?_
            exact ih7 (k + 1) (by omega) (by omega)
          · refine j_aload_n X dX11_asksTooMuch_35 rfl ?_
            refine j_getR X 11 16 (by decide) (by decide) rfl u966 (o66 np) (k66 np) _ (p66_16 np) dX11_asksTooMuch_36 ?_
            refine j_iload_n X dX11_asksTooMuch_39 rfl ?_
            refine j_nrm _ (by first | (simp only [fa_lit, pk_mul, nI_add]; done) | (simp only [fa_lit, pk_mul, nI_add]; rfl) | rfl) ?_
            refine j_ialdN X (o80 np) (k80 np) (by rw [l80]; omega) (by rw [l80]; decide) (mem 80) rfl dX11_asksTooMuch_40 ?_
            refine j_aload_n X dX11_asksTooMuch_41 rfl ?_
            refine j_getR X 11 19 (by decide) (by decide) rfl u969 (o66 np) (k66 np) _ (p66_19 np) dX11_asksTooMuch_42 ?_
            refine j_iload_n X dX11_asksTooMuch_45 rfl ?_
            refine j_nrm _ (by first | (simp only [fa_lit, pk_mul, nI_add]; done) | (simp only [fa_lit, pk_mul, nI_add]; rfl) | rfl) ?_
            refine j_ialdN X (o83 np) (k83 np) (by rw [l83]; omega) (by rw [l83]; decide) (mem 83) rfl dX11_asksTooMuch_46 ?_
            refine j_ishr X dX11_asksTooMuch_47 ?_
            refine j_iconst X dX11_asksTooMuch_48 1 (by decide) ?_
            refine j_iand X dX11_asksTooMuch_49 ?_
            refine j_if_ne X 57 dX11_asksTooMuch_50 (by decide) (fun c_50 => ?_) (fun c_50 => ?_)
            · refine j_iconst X dX11_asksTooMuch_57 0 (by decide) ?_
              refine j_istore_n X dX11_asksTooMuch_58 (by decide) ?_
              refine j_iinc X dX11_asksTooMuch_59 rfl 1 rfl ?_
              refine j_goto X 7 dX11_asksTooMuch_62 (by decide) ?_
              refine j_lv [some (.ref 66), some (.int (nI d)), some (.int (jb (jAny (fun i => decide (¬ mem 82 (8 * d + i) ≤ 0 ∧ (mem 80 d >>> (mem 83 (8 * d + i) &&& 31)) &&& 1 = 0)) (k + 1) = true))), some (.int (nI (8 * d + (k + 1))))] ⟨rfl, rfl, (congrArg (fun z => some (Value.int z)) (by first | exact (jb_t (jAny_t1 c_23)).symm | exact (jb_t (jAny_t2 (decide_eq_true ⟨c_32, c_50⟩))).symm | exact (jb_f (jAny_f c_23 (fun z => absurd c_32 (of_decide_eq_true z).1))).symm | exact (jb_f (jAny_f c_23 (fun z => c_50 (of_decide_eq_true z).2))).symm)), (by rw [← Nat.add_assoc, ← nI_1]; rfl), trivial⟩ ?_
              exact ih7 (k + 1) (by omega) (by omega)
            · refine j_iconst X dX11_asksTooMuch_53 1 (by decide) ?_
              refine j_goto X 58 dX11_asksTooMuch_54 (by decide) ?_
              refine j_istore_n X dX11_asksTooMuch_58 (by decide) ?_
              refine j_iinc X dX11_asksTooMuch_59 rfl 1 rfl ?_
              refine j_goto X 7 dX11_asksTooMuch_62 (by decide) ?_
              refine j_lv [some (.ref 66), some (.int (nI d)), some (.int (jb (jAny (fun i => decide (¬ mem 82 (8 * d + i) ≤ 0 ∧ (mem 80 d >>> (mem 83 (8 * d + i) &&& 31)) &&& 1 = 0)) (k + 1) = true))), some (.int (nI (8 * d + (k + 1))))] ⟨rfl, rfl, (congrArg (fun z => some (Value.int z)) (by first | exact (jb_t (jAny_t1 c_23)).symm | exact (jb_t (jAny_t2 (decide_eq_true ⟨c_32, c_50⟩))).symm | exact (jb_f (jAny_f c_23 (fun z => absurd c_32 (of_decide_eq_true z).1))).symm | exact (jb_f (jAny_f c_23 (fun z => c_50 (of_decide_eq_true z).2))).symm)), (by rw [← Nat.add_assoc, ← nI_1]; rfl), trivial⟩ ?_
              exact ih7 (k + 1) (by omega) (by omega)
  refine j_lv [some (.ref 66), some (.int (nI d)), some (.int (jb (jAny (fun i => decide (¬ mem 82 (8 * d + i) ≤ 0 ∧ (mem 80 d >>> (mem 83 (8 * d + i) &&& 31)) &&& 1 = 0)) 0 = true))), some (.int (nI (8 * d + 0)))] ⟨rfl, rfl, rfl, (by simp only [fa_lit, pk_mul]; rfl), trivial⟩ ?_
  exact lp7 (q + 1) 0 (by omega) (by omega)
set_option maxRecDepth 4000 in
set_option maxHeartbeats 1000000 in
theorem m_door_bad (np : Nat) (mem : jMem) (d w : Int32) (h : ¬ (jin d 0 3 ∧ jin w 0 2)) : jPi yX11_door cX11_door 3 .int 3 [.ref 66, .int d, .int w] np mem (fun v c => v = -1000001 ∧ c = jup mem 66 0 0) := by
  refine jPi.of (own := RX11) rfl rfl (Nat.le_of_ble_eq_true rfl) (fun G X hR hr hE => ?_)
  refine j_aload_n X dX11_door_0 rfl ?_
  refine j_iconst X dX11_door_1 0 (by decide) ?_
  refine j_putI X 11 0 (by decide) (by decide) rfl rfl rfl rfl u950 (o66 np) (k66 np) dX11_door_2 ?_
  refine j_iload_n X dX11_door_5 rfl ?_
  refine s_callSi X hR (m_isDoor np _ _) rfl u1269 u1267 u1268 u12 hyX11_isDoor (by decide) (by decide) (Nat.le_of_ble_eq_true rfl) dX11_door_6 (fun v_6 m_6 h_6 => ?_)
  obtain ⟨e1, e2⟩ := h_6; have e1 := e1.symm; have e2 := e2.symm; subst e1; subst e2
  refine j_ifb_eq X 24 dX11_door_9 (by decide) (fun c_9 => ?_) (fun c_9 => ?_)
  · refine j_ldc X dX11_door_24 u1089 ?_
    refine j_goto X 69 dX11_door_26 (by decide) ?_
    refine s_iret X hE hr dX11_door_69 rfl ?_
    first | exact ⟨rfl, rfl⟩ | (exfalso; clear hE hr hR X; (try simp only [lg_cmp_lt, lg_cmp_gt, lg_cmp_le, lg_cmp_ge] at *); (try simp (disch := omega) only [Int64.le_iff_toInt_le, Int64.lt_iff_toInt_lt, Int32.le_iff_toInt_le, Int32.lt_iff_toInt_lt, fa_eq, fa_lit, fa_litL, nI_toInt, pk_lT, Int32.toInt_toInt64, jadd64, jin, jnoneT] at *); omega)
  · refine j_iload_n X dX11_door_12 rfl ?_
    refine j_i2l X dX11_door_13 ?_
    refine j_lconst X dX11_door_14 0 (by decide) ?_
    refine j_ldc2 X dX11_door_15 u1088 ?_
    refine s_callSi X hR (m_inI np _ _ _ _ 0 2 rfl rfl) rfl u1087 u1085 u1086 u12 hyX11_in (by decide) (by decide) (Nat.le_of_ble_eq_true rfl) dX11_door_18 (fun v_18 m_18 h_18 => ?_)
    obtain ⟨e1, e2⟩ := h_18; have e1 := e1.symm; have e2 := e2.symm; subst e1; subst e2
    refine j_ifb_ne X 29 dX11_door_21 (by decide) (fun c_21 => ?_) (fun c_21 => ?_)
    · exfalso
      clear hE hr hR X
      (try simp only [lg_cmp_lt, lg_cmp_gt, lg_cmp_le, lg_cmp_ge] at *); (try simp (disch := omega) only [Int64.le_iff_toInt_le, Int64.lt_iff_toInt_lt, Int32.le_iff_toInt_le, Int32.lt_iff_toInt_lt, fa_eq, fa_lit, fa_litL, nI_toInt, pk_lT, Int32.toInt_toInt64, jadd64, jin, jnoneT] at *); omega
    · refine j_ldc X dX11_door_24 u1089 ?_
      refine j_goto X 69 dX11_door_26 (by decide) ?_
      refine s_iret X hE hr dX11_door_69 rfl ?_
      first | exact ⟨rfl, rfl⟩ | (exfalso; clear hE hr hR X; (try simp only [lg_cmp_lt, lg_cmp_gt, lg_cmp_le, lg_cmp_ge] at *); (try simp (disch := omega) only [Int64.le_iff_toInt_le, Int64.lt_iff_toInt_lt, Int32.le_iff_toInt_le, Int32.lt_iff_toInt_lt, fa_eq, fa_lit, fa_litL, nI_toInt, pk_lT, Int32.toInt_toInt64, jadd64, jin, jnoneT] at *); omega)
set_option maxRecDepth 4000 in
set_option maxHeartbeats 1000000 in
theorem m_door0 (np : Nat) (mem : jMem) (d : Nat) (hd : d < 4) : jPi yX11_door cX11_door 3 .int 3 [.ref 66, .int (nI d), .int 0] np mem (fun v c => v = mem 81 d ∧ c = jup mem 66 0 0) := by
  refine jPi.of (own := RX11) rfl rfl (Nat.le_of_ble_eq_true rfl) (fun G X hR hr hE => ?_)
  refine j_aload_n X dX11_door_0 rfl ?_
  refine j_iconst X dX11_door_1 0 (by decide) ?_
  refine j_putI X 11 0 (by decide) (by decide) rfl rfl rfl rfl u950 (o66 np) (k66 np) dX11_door_2 ?_
  refine j_iload_n X dX11_door_5 rfl ?_
  refine s_callSi X hR (m_isDoor np _ _) rfl u1269 u1267 u1268 u12 hyX11_isDoor (by decide) (by decide) (Nat.le_of_ble_eq_true rfl) dX11_door_6 (fun v_6 m_6 h_6 => ?_)
  obtain ⟨e1, e2⟩ := h_6; have e1 := e1.symm; have e2 := e2.symm; subst e1; subst e2
  refine j_ifb_eq X 24 dX11_door_9 (by decide) (fun c_9 => ?_) (fun c_9 => ?_)
  · exfalso
    clear hE hr hR X
    (try simp only [lg_cmp_lt, lg_cmp_gt, lg_cmp_le, lg_cmp_ge] at *); (try simp (disch := omega) only [Int64.le_iff_toInt_le, Int64.lt_iff_toInt_lt, Int32.le_iff_toInt_le, Int32.lt_iff_toInt_lt, fa_eq, fa_lit, fa_litL, nI_toInt, pk_lT, Int32.toInt_toInt64, jadd64, jin, jnoneT] at *); omega
  · refine j_iload_n X dX11_door_12 rfl ?_
    refine j_i2l X dX11_door_13 ?_
    refine j_lconst X dX11_door_14 0 (by decide) ?_
    refine j_ldc2 X dX11_door_15 u1088 ?_
    refine s_callSi X hR (m_inI np _ _ _ _ 0 2 rfl rfl) rfl u1087 u1085 u1086 u12 hyX11_in (by decide) (by decide) (Nat.le_of_ble_eq_true rfl) dX11_door_18 (fun v_18 m_18 h_18 => ?_)
    obtain ⟨e1, e2⟩ := h_18; have e1 := e1.symm; have e2 := e2.symm; subst e1; subst e2
    refine j_ifb_ne X 29 dX11_door_21 (by decide) (fun c_21 => ?_) (fun c_21 => ?_)
    · refine j_iload_n X dX11_door_29 rfl ?_
      refine j_if_ne X 42 dX11_door_30 (by decide) (fun c_30 => absurd c_30 (by decide)) (fun c_30 => ?_)
      refine j_aload_n X dX11_door_33 rfl ?_
      refine j_getR X 11 17 (by decide) (by decide) rfl u967 (o66 np) (k66 np) _ (p66_17 np) dX11_door_34 ?_
      refine j_iload_n X dX11_door_37 rfl ?_
      refine j_nrm _ (by first | (simp only [fa_lit, pk_mul, nI_add]; done) | (simp only [fa_lit, pk_mul, nI_add]; rfl) | rfl) ?_
      refine j_ialdN X (o81 np) (k81 np) (by rw [l81]; omega) (by rw [l81]; decide) (mem 81) rfl dX11_door_38 ?_
      refine j_goto X 69 dX11_door_39 (by decide) ?_
      refine s_iret X hE hr dX11_door_69 rfl ?_
      first | exact ⟨rfl, rfl⟩ | (exfalso; clear hE hr hR X; (try simp only [lg_cmp_lt, lg_cmp_gt, lg_cmp_le, lg_cmp_ge] at *); (try simp (disch := omega) only [Int64.le_iff_toInt_le, Int64.lt_iff_toInt_lt, Int32.le_iff_toInt_le, Int32.lt_iff_toInt_lt, fa_eq, fa_lit, fa_litL, nI_toInt, pk_lT, Int32.toInt_toInt64, jadd64, jin, jnoneT] at *); omega)
    · exfalso
      clear hE hr hR X
      (try simp only [lg_cmp_lt, lg_cmp_gt, lg_cmp_le, lg_cmp_ge] at *); (try simp (disch := omega) only [Int64.le_iff_toInt_le, Int64.lt_iff_toInt_lt, Int32.le_iff_toInt_le, Int32.lt_iff_toInt_lt, fa_eq, fa_lit, fa_litL, nI_toInt, pk_lT, Int32.toInt_toInt64, jadd64, jin, jnoneT] at *); omega
set_option maxRecDepth 4000 in
set_option maxHeartbeats 1000000 in
theorem m_door1 (np : Nat) (mem : jMem) (d : Nat) (hd : d < 4) : jPi yX11_door cX11_door 3 .int 3 [.ref 66, .int (nI d), .int 1] np mem (fun v c => v = mem 80 d ∧ c = jup mem 66 0 0) := by
  refine jPi.of (own := RX11) rfl rfl (Nat.le_of_ble_eq_true rfl) (fun G X hR hr hE => ?_)
  refine j_aload_n X dX11_door_0 rfl ?_
  refine j_iconst X dX11_door_1 0 (by decide) ?_
  refine j_putI X 11 0 (by decide) (by decide) rfl rfl rfl rfl u950 (o66 np) (k66 np) dX11_door_2 ?_
  refine j_iload_n X dX11_door_5 rfl ?_
  refine s_callSi X hR (m_isDoor np _ _) rfl u1269 u1267 u1268 u12 hyX11_isDoor (by decide) (by decide) (Nat.le_of_ble_eq_true rfl) dX11_door_6 (fun v_6 m_6 h_6 => ?_)
  obtain ⟨e1, e2⟩ := h_6; have e1 := e1.symm; have e2 := e2.symm; subst e1; subst e2
  refine j_ifb_eq X 24 dX11_door_9 (by decide) (fun c_9 => ?_) (fun c_9 => ?_)
  · exfalso
    clear hE hr hR X
    (try simp only [lg_cmp_lt, lg_cmp_gt, lg_cmp_le, lg_cmp_ge] at *); (try simp (disch := omega) only [Int64.le_iff_toInt_le, Int64.lt_iff_toInt_lt, Int32.le_iff_toInt_le, Int32.lt_iff_toInt_lt, fa_eq, fa_lit, fa_litL, nI_toInt, pk_lT, Int32.toInt_toInt64, jadd64, jin, jnoneT] at *); omega
  · refine j_iload_n X dX11_door_12 rfl ?_
    refine j_i2l X dX11_door_13 ?_
    refine j_lconst X dX11_door_14 0 (by decide) ?_
    refine j_ldc2 X dX11_door_15 u1088 ?_
    refine s_callSi X hR (m_inI np _ _ _ _ 0 2 rfl rfl) rfl u1087 u1085 u1086 u12 hyX11_in (by decide) (by decide) (Nat.le_of_ble_eq_true rfl) dX11_door_18 (fun v_18 m_18 h_18 => ?_)
    obtain ⟨e1, e2⟩ := h_18; have e1 := e1.symm; have e2 := e2.symm; subst e1; subst e2
    refine j_ifb_ne X 29 dX11_door_21 (by decide) (fun c_21 => ?_) (fun c_21 => ?_)
    · refine j_iload_n X dX11_door_29 rfl ?_
      refine j_if_ne X 42 dX11_door_30 (by decide) (fun c_30 => ?_) (fun c_30 => absurd c_30 (by decide))
      refine j_iload_n X dX11_door_42 rfl ?_
      refine j_iconst X dX11_door_43 1 (by decide) ?_
      refine j_icmp_ne X 56 dX11_door_44 (by decide) (fun c_44 => absurd c_44 (by decide)) (fun c_44 => ?_)
      refine j_aload_n X dX11_door_47 rfl ?_
      refine j_getR X 11 16 (by decide) (by decide) rfl u966 (o66 np) (k66 np) _ (p66_16 np) dX11_door_48 ?_
      refine j_iload_n X dX11_door_51 rfl ?_
      refine j_nrm _ (by first | (simp only [fa_lit, pk_mul, nI_add]; done) | (simp only [fa_lit, pk_mul, nI_add]; rfl) | rfl) ?_
      refine j_ialdN X (o80 np) (k80 np) (by rw [l80]; omega) (by rw [l80]; decide) (mem 80) rfl dX11_door_52 ?_
      refine j_goto X 69 dX11_door_53 (by decide) ?_
      refine s_iret X hE hr dX11_door_69 rfl ?_
      first | exact ⟨rfl, rfl⟩ | (exfalso; clear hE hr hR X; (try simp only [lg_cmp_lt, lg_cmp_gt, lg_cmp_le, lg_cmp_ge] at *); (try simp (disch := omega) only [Int64.le_iff_toInt_le, Int64.lt_iff_toInt_lt, Int32.le_iff_toInt_le, Int32.lt_iff_toInt_lt, fa_eq, fa_lit, fa_litL, nI_toInt, pk_lT, Int32.toInt_toInt64, jadd64, jin, jnoneT] at *); omega)
    · exfalso
      clear hE hr hR X
      (try simp only [lg_cmp_lt, lg_cmp_gt, lg_cmp_le, lg_cmp_ge] at *); (try simp (disch := omega) only [Int64.le_iff_toInt_le, Int64.lt_iff_toInt_lt, Int32.le_iff_toInt_le, Int32.lt_iff_toInt_lt, fa_eq, fa_lit, fa_litL, nI_toInt, pk_lT, Int32.toInt_toInt64, jadd64, jin, jnoneT] at *); omega
set_option maxRecDepth 4000 in
set_option maxHeartbeats 1000000 in
theorem m_door2 (np : Nat) (mem : jMem) (d q : Nat) (hd : d < 4) (hq : q ≤ 8) (hc : mem 81 d = nI q) : jPi yX11_door cX11_door 3 .int 3 [.ref 66, .int (nI d), .int 2] np mem (fun v c => v = jb (jAny (fun i => decide (¬ mem 82 (8 * d + i) ≤ 0 ∧ (mem 80 d >>> (mem 83 (8 * d + i) &&& 31)) &&& 1 = 0)) q = true) ∧ c = jup mem 66 0 0) := by
  refine jPi.of (own := RX11) rfl rfl (Nat.le_of_ble_eq_true rfl) (fun G X hR hr hE => ?_)
  refine j_aload_n X dX11_door_0 rfl ?_
  refine j_iconst X dX11_door_1 0 (by decide) ?_
  refine j_putI X 11 0 (by decide) (by decide) rfl rfl rfl rfl u950 (o66 np) (k66 np) dX11_door_2 ?_
  refine j_iload_n X dX11_door_5 rfl ?_
  refine s_callSi X hR (m_isDoor np _ _) rfl u1269 u1267 u1268 u12 hyX11_isDoor (by decide) (by decide) (Nat.le_of_ble_eq_true rfl) dX11_door_6 (fun v_6 m_6 h_6 => ?_)
  obtain ⟨e1, e2⟩ := h_6; have e1 := e1.symm; have e2 := e2.symm; subst e1; subst e2
  refine j_ifb_eq X 24 dX11_door_9 (by decide) (fun c_9 => ?_) (fun c_9 => ?_)
  · exfalso
    clear hE hr hR X
    (try simp only [lg_cmp_lt, lg_cmp_gt, lg_cmp_le, lg_cmp_ge] at *); (try simp (disch := omega) only [Int64.le_iff_toInt_le, Int64.lt_iff_toInt_lt, Int32.le_iff_toInt_le, Int32.lt_iff_toInt_lt, fa_eq, fa_lit, fa_litL, nI_toInt, pk_lT, Int32.toInt_toInt64, jadd64, jin, jnoneT] at *); omega
  · refine j_iload_n X dX11_door_12 rfl ?_
    refine j_i2l X dX11_door_13 ?_
    refine j_lconst X dX11_door_14 0 (by decide) ?_
    refine j_ldc2 X dX11_door_15 u1088 ?_
    refine s_callSi X hR (m_inI np _ _ _ _ 0 2 rfl rfl) rfl u1087 u1085 u1086 u12 hyX11_in (by decide) (by decide) (Nat.le_of_ble_eq_true rfl) dX11_door_18 (fun v_18 m_18 h_18 => ?_)
    obtain ⟨e1, e2⟩ := h_18; have e1 := e1.symm; have e2 := e2.symm; subst e1; subst e2
    refine j_ifb_ne X 29 dX11_door_21 (by decide) (fun c_21 => ?_) (fun c_21 => ?_)
    · refine j_iload_n X dX11_door_29 rfl ?_
      refine j_if_ne X 42 dX11_door_30 (by decide) (fun c_30 => ?_) (fun c_30 => absurd c_30 (by decide))
      refine j_iload_n X dX11_door_42 rfl ?_
      refine j_iconst X dX11_door_43 1 (by decide) ?_
      refine j_icmp_ne X 56 dX11_door_44 (by decide) (fun c_44 => ?_) (fun c_44 => absurd c_44 (by decide))
      refine j_aload_n X dX11_door_56 rfl ?_
      refine j_iload_n X dX11_door_57 rfl ?_
      refine s_callVi X hR (m_asksTooMuch np _ d q hd hq hc) rfl 11 (by decide) (o66 np) (k66 np) rfl u1358 u1355 u1357 qp60 u12 hyX11_asksTooMuch (by decide) (by decide) (Nat.le_of_ble_eq_true rfl) dX11_door_58 (fun v_58 m_58 h_58 => ?_)
      obtain ⟨e1, e2⟩ := h_58; have e1 := e1.symm; have e2 := e2.symm; subst e1; subst e2
      refine j_ifb_eq X 68 dX11_door_61 (by decide) (fun c_61 => ?_) (fun c_61 => ?_)
      · refine j_iconst X dX11_door_68 0 (by decide) ?_
        refine s_iret X hE hr dX11_door_69 rfl ?_
        first | exact ⟨(jb_t c_61).symm, rfl⟩ | exact ⟨(jb_f c_61).symm, rfl⟩ | (exfalso; clear hE hr hR X; (try simp only [lg_cmp_lt, lg_cmp_gt, lg_cmp_le, lg_cmp_ge] at *); (try simp (disch := omega) only [Int64.le_iff_toInt_le, Int64.lt_iff_toInt_lt, Int32.le_iff_toInt_le, Int32.lt_iff_toInt_lt, fa_eq, fa_lit, fa_litL, nI_toInt, pk_lT, Int32.toInt_toInt64, jadd64, jin, jnoneT] at *); omega)
      · refine j_iconst X dX11_door_64 1 (by decide) ?_
        refine j_goto X 69 dX11_door_65 (by decide) ?_
        refine s_iret X hE hr dX11_door_69 rfl ?_
        first | exact ⟨(jb_t c_61).symm, rfl⟩ | exact ⟨(jb_f c_61).symm, rfl⟩ | (exfalso; clear hE hr hR X; (try simp only [lg_cmp_lt, lg_cmp_gt, lg_cmp_le, lg_cmp_ge] at *); (try simp (disch := omega) only [Int64.le_iff_toInt_le, Int64.lt_iff_toInt_lt, Int32.le_iff_toInt_le, Int32.lt_iff_toInt_lt, fa_eq, fa_lit, fa_litL, nI_toInt, pk_lT, Int32.toInt_toInt64, jadd64, jin, jnoneT] at *); omega)
    · exfalso
      clear hE hr hR X
      (try simp only [lg_cmp_lt, lg_cmp_gt, lg_cmp_le, lg_cmp_ge] at *); (try simp (disch := omega) only [Int64.le_iff_toInt_le, Int64.lt_iff_toInt_lt, Int32.le_iff_toInt_le, Int32.lt_iff_toInt_lt, fa_eq, fa_lit, fa_litL, nI_toInt, pk_lT, Int32.toInt_toInt64, jadd64, jin, jnoneT] at *); omega
set_option maxRecDepth 4000 in
set_option maxHeartbeats 1000000 in
theorem m_seen_bad (np : Nat) (mem : jMem) (d p s : Int32) (hn : np ≤ 12) (hp : mem 66 9 = nI np) (h : ¬ (jin d 0 3 ∧ jin p 0 ((np : Int) - 1) ∧ jin s 0 15)) : jPi yX11_seen cX11_seen 4 .int 3 [.ref 66, .int d, .int p, .int s] np mem (fun v c => v = -1000001 ∧ c = jup mem 66 0 0) := by
  refine jPi.of (own := RX11) rfl rfl (Nat.le_of_ble_eq_true rfl) (fun G X hR hr hE => ?_)
  refine j_aload_n X dX11_seen_0 rfl ?_
  refine j_iconst X dX11_seen_1 0 (by decide) ?_
  refine j_putI X 11 0 (by decide) (by decide) rfl rfl rfl rfl u950 (o66 np) (k66 np) dX11_seen_2 ?_
  refine j_iload_n X dX11_seen_5 rfl ?_
  refine s_callSi X hR (m_isDoor np _ _) rfl u1269 u1267 u1268 u12 hyX11_isDoor (by decide) (by decide) (Nat.le_of_ble_eq_true rfl) dX11_seen_6 (fun v_6 m_6 h_6 => ?_)
  obtain ⟨e1, e2⟩ := h_6; have e1 := e1.symm; have e2 := e2.symm; subst e1; subst e2
  refine j_ifb_eq X 32 dX11_seen_9 (by decide) (fun c_9 => ?_) (fun c_9 => ?_)
  · refine j_ldc X dX11_seen_32 u1089 ?_
    refine s_iret X hE hr dX11_seen_34 rfl ?_
    first | exact ⟨rfl, rfl⟩ | (exfalso; clear hE hr hR X; (try simp only [lg_cmp_lt, lg_cmp_gt, lg_cmp_le, lg_cmp_ge] at *); (try simp (disch := omega) only [Int64.le_iff_toInt_le, Int64.lt_iff_toInt_lt, Int32.le_iff_toInt_le, Int32.lt_iff_toInt_lt, fa_eq, fa_lit, fa_litL, nI_toInt, pk_lT, Int32.toInt_toInt64, jadd64, jin, jnoneT] at *); omega)
  · refine j_aload_n X dX11_seen_12 rfl ?_
    refine j_iload_n X dX11_seen_13 rfl ?_
    refine s_callVi X hR (m_isPaper np _ _ hn hp) rfl 11 (by decide) (o66 np) (k66 np) rfl u1151 u1148 u1150 qp39 u12 hyX11_isPaper (by decide) (by decide) (Nat.le_of_ble_eq_true rfl) dX11_seen_14 (fun v_14 m_14 h_14 => ?_)
    obtain ⟨e1, e2⟩ := h_14; have e1 := e1.symm; have e2 := e2.symm; subst e1; subst e2
    refine j_ifb_eq X 32 dX11_seen_17 (by decide) (fun c_17 => ?_) (fun c_17 => ?_)
    · refine j_ldc X dX11_seen_32 u1089 ?_
      refine s_iret X hE hr dX11_seen_34 rfl ?_
      first | exact ⟨rfl, rfl⟩ | (exfalso; clear hE hr hR X; (try simp only [lg_cmp_lt, lg_cmp_gt, lg_cmp_le, lg_cmp_ge] at *); (try simp (disch := omega) only [Int64.le_iff_toInt_le, Int64.lt_iff_toInt_lt, Int32.le_iff_toInt_le, Int32.lt_iff_toInt_lt, fa_eq, fa_lit, fa_litL, nI_toInt, pk_lT, Int32.toInt_toInt64, jadd64, jin, jnoneT] at *); omega)
    · refine j_iload_n X dX11_seen_20 rfl ?_
      refine j_i2l X dX11_seen_21 ?_
      refine j_lconst X dX11_seen_22 0 (by decide) ?_
      refine j_ldc2 X dX11_seen_23 u1152 ?_
      refine s_callSi X hR (m_inI np _ _ _ _ 0 15 rfl rfl) rfl u1087 u1085 u1086 u12 hyX11_in (by decide) (by decide) (Nat.le_of_ble_eq_true rfl) dX11_seen_26 (fun v_26 m_26 h_26 => ?_)
      obtain ⟨e1, e2⟩ := h_26; have e1 := e1.symm; have e2 := e2.symm; subst e1; subst e2
      refine j_ifb_ne X 35 dX11_seen_29 (by decide) (fun c_29 => ?_) (fun c_29 => ?_)
      · exfalso
        clear hE hr hR X
        (try simp only [lg_cmp_lt, lg_cmp_gt, lg_cmp_le, lg_cmp_ge] at *); (try simp (disch := omega) only [Int64.le_iff_toInt_le, Int64.lt_iff_toInt_lt, Int32.le_iff_toInt_le, Int32.lt_iff_toInt_lt, fa_eq, fa_lit, fa_litL, nI_toInt, pk_lT, Int32.toInt_toInt64, jadd64, jin, jnoneT] at *); omega
      · refine j_ldc X dX11_seen_32 u1089 ?_
        refine s_iret X hE hr dX11_seen_34 rfl ?_
        first | exact ⟨rfl, rfl⟩ | (exfalso; clear hE hr hR X; (try simp only [lg_cmp_lt, lg_cmp_gt, lg_cmp_le, lg_cmp_ge] at *); (try simp (disch := omega) only [Int64.le_iff_toInt_le, Int64.lt_iff_toInt_lt, Int32.le_iff_toInt_le, Int32.lt_iff_toInt_lt, fa_eq, fa_lit, fa_litL, nI_toInt, pk_lT, Int32.toInt_toInt64, jadd64, jin, jnoneT] at *); omega)
set_option maxRecDepth 4000 in
set_option maxHeartbeats 1000000 in
theorem m_seen_full (np : Nat) (mem : jMem) (d p s : Int32) (hn : np ≤ 12) (hp : mem 66 9 = nI np)(hd : jin d 0 3) (hpp : jin p 0 ((np : Int) - 1)) (hs : jin s 0 15) (hc : mem 66 34 = nI 30) : jPi yX11_seen cX11_seen 4 .int 3 [.ref 66, .int d, .int p, .int s] np mem (fun v c => v = -1000003 ∧ c = jup mem 66 0 0) := by
  refine jPi.of (own := RX11) rfl rfl (Nat.le_of_ble_eq_true rfl) (fun G X hR hr hE => ?_)
  refine j_aload_n X dX11_seen_0 rfl ?_
  refine j_iconst X dX11_seen_1 0 (by decide) ?_
  refine j_putI X 11 0 (by decide) (by decide) rfl rfl rfl rfl u950 (o66 np) (k66 np) dX11_seen_2 ?_
  refine j_iload_n X dX11_seen_5 rfl ?_
  refine s_callSi X hR (m_isDoor np _ _) rfl u1269 u1267 u1268 u12 hyX11_isDoor (by decide) (by decide) (Nat.le_of_ble_eq_true rfl) dX11_seen_6 (fun v_6 m_6 h_6 => ?_)
  obtain ⟨e1, e2⟩ := h_6; have e1 := e1.symm; have e2 := e2.symm; subst e1; subst e2
  refine j_ifb_eq X 32 dX11_seen_9 (by decide) (fun c_9 => ?_) (fun c_9 => ?_)
  · exfalso
    clear hE hr hR X
    (try simp only [lg_cmp_lt, lg_cmp_gt, lg_cmp_le, lg_cmp_ge] at *); (try simp (disch := omega) only [Int64.le_iff_toInt_le, Int64.lt_iff_toInt_lt, Int32.le_iff_toInt_le, Int32.lt_iff_toInt_lt, fa_eq, fa_lit, fa_litL, nI_toInt, pk_lT, Int32.toInt_toInt64, jadd64, jin, jnoneT] at *); omega
  · refine j_aload_n X dX11_seen_12 rfl ?_
    refine j_iload_n X dX11_seen_13 rfl ?_
    refine s_callVi X hR (m_isPaper np _ _ hn hp) rfl 11 (by decide) (o66 np) (k66 np) rfl u1151 u1148 u1150 qp39 u12 hyX11_isPaper (by decide) (by decide) (Nat.le_of_ble_eq_true rfl) dX11_seen_14 (fun v_14 m_14 h_14 => ?_)
    obtain ⟨e1, e2⟩ := h_14; have e1 := e1.symm; have e2 := e2.symm; subst e1; subst e2
    refine j_ifb_eq X 32 dX11_seen_17 (by decide) (fun c_17 => ?_) (fun c_17 => ?_)
    · exfalso
      clear hE hr hR X
      (try simp only [lg_cmp_lt, lg_cmp_gt, lg_cmp_le, lg_cmp_ge] at *); (try simp (disch := omega) only [Int64.le_iff_toInt_le, Int64.lt_iff_toInt_lt, Int32.le_iff_toInt_le, Int32.lt_iff_toInt_lt, fa_eq, fa_lit, fa_litL, nI_toInt, pk_lT, Int32.toInt_toInt64, jadd64, jin, jnoneT] at *); omega
    · refine j_iload_n X dX11_seen_20 rfl ?_
      refine j_i2l X dX11_seen_21 ?_
      refine j_lconst X dX11_seen_22 0 (by decide) ?_
      refine j_ldc2 X dX11_seen_23 u1152 ?_
      refine s_callSi X hR (m_inI np _ _ _ _ 0 15 rfl rfl) rfl u1087 u1085 u1086 u12 hyX11_in (by decide) (by decide) (Nat.le_of_ble_eq_true rfl) dX11_seen_26 (fun v_26 m_26 h_26 => ?_)
      obtain ⟨e1, e2⟩ := h_26; have e1 := e1.symm; have e2 := e2.symm; subst e1; subst e2
      refine j_ifb_ne X 35 dX11_seen_29 (by decide) (fun c_29 => ?_) (fun c_29 => ?_)
      · refine j_aload_n X dX11_seen_35 rfl ?_
        refine j_getF X 11 34 (by decide) (by decide) rfl u984 (o66 np) (k66 np) _ rfl dX11_seen_36 ?_
        refine j_bipush X dX11_seen_39 30 (by decide) ?_
        refine j_icmp_ne X 47 dX11_seen_41 (by decide) (fun c_41 => ?_) (fun c_41 => ?_)
        · exact absurd hc c_41
        · refine j_ldc X dX11_seen_44 u1120 ?_
          refine s_iret X hE hr dX11_seen_46 rfl ?_
          first | exact ⟨rfl, rfl⟩ | (exfalso; clear hE hr hR X; (try simp only [lg_cmp_lt, lg_cmp_gt, lg_cmp_le, lg_cmp_ge] at *); (try simp (disch := omega) only [Int64.le_iff_toInt_le, Int64.lt_iff_toInt_lt, Int32.le_iff_toInt_le, Int32.lt_iff_toInt_lt, fa_eq, fa_lit, fa_litL, nI_toInt, pk_lT, Int32.toInt_toInt64, jadd64, jin, jnoneT] at *); omega)
      · exfalso
        clear hE hr hR X
        (try simp only [lg_cmp_lt, lg_cmp_gt, lg_cmp_le, lg_cmp_ge] at *); (try simp (disch := omega) only [Int64.le_iff_toInt_le, Int64.lt_iff_toInt_lt, Int32.le_iff_toInt_le, Int32.lt_iff_toInt_lt, fa_eq, fa_lit, fa_litL, nI_toInt, pk_lT, Int32.toInt_toInt64, jadd64, jin, jnoneT] at *); omega
set_option maxRecDepth 4000 in
set_option maxHeartbeats 1000000 in
theorem m_seen (np : Nat) (mem : jMem) (d p s : Int32) (q : Nat) (hn : np ≤ 12) (hp : mem 66 9 = nI np)(hd : jin d 0 3) (hpp : jin p 0 ((np : Int) - 1)) (hs : jin s 0 15) (hc : mem 66 34 = nI q) (hq : q < 30) : jPi yX11_seen cX11_seen 4 .int 3 [.ref 66, .int d, .int p, .int s] np mem (fun v c => v = nI (q + 1) ∧ c = jup (jup (jup (jup mem 66 0 0) 87 q p) 88 q s) 66 34 (nI (q + 1))) := by
  refine jPi.of (own := RX11) rfl rfl (Nat.le_of_ble_eq_true rfl) (fun G X hR hr hE => ?_)
  refine j_aload_n X dX11_seen_0 rfl ?_
  refine j_iconst X dX11_seen_1 0 (by decide) ?_
  refine j_putI X 11 0 (by decide) (by decide) rfl rfl rfl rfl u950 (o66 np) (k66 np) dX11_seen_2 ?_
  refine j_iload_n X dX11_seen_5 rfl ?_
  refine s_callSi X hR (m_isDoor np _ _) rfl u1269 u1267 u1268 u12 hyX11_isDoor (by decide) (by decide) (Nat.le_of_ble_eq_true rfl) dX11_seen_6 (fun v_6 m_6 h_6 => ?_)
  obtain ⟨e1, e2⟩ := h_6; have e1 := e1.symm; have e2 := e2.symm; subst e1; subst e2
  refine j_ifb_eq X 32 dX11_seen_9 (by decide) (fun c_9 => ?_) (fun c_9 => ?_)
  · exfalso
    clear hE hr hR X
    (try simp only [lg_cmp_lt, lg_cmp_gt, lg_cmp_le, lg_cmp_ge] at *); (try simp (disch := omega) only [Int64.le_iff_toInt_le, Int64.lt_iff_toInt_lt, Int32.le_iff_toInt_le, Int32.lt_iff_toInt_lt, fa_eq, fa_lit, fa_litL, nI_toInt, pk_lT, Int32.toInt_toInt64, jadd64, jin, jnoneT] at *); omega
  · refine j_aload_n X dX11_seen_12 rfl ?_
    refine j_iload_n X dX11_seen_13 rfl ?_
    refine s_callVi X hR (m_isPaper np _ _ hn hp) rfl 11 (by decide) (o66 np) (k66 np) rfl u1151 u1148 u1150 qp39 u12 hyX11_isPaper (by decide) (by decide) (Nat.le_of_ble_eq_true rfl) dX11_seen_14 (fun v_14 m_14 h_14 => ?_)
    obtain ⟨e1, e2⟩ := h_14; have e1 := e1.symm; have e2 := e2.symm; subst e1; subst e2
    refine j_ifb_eq X 32 dX11_seen_17 (by decide) (fun c_17 => ?_) (fun c_17 => ?_)
    · exfalso
      clear hE hr hR X
      (try simp only [lg_cmp_lt, lg_cmp_gt, lg_cmp_le, lg_cmp_ge] at *); (try simp (disch := omega) only [Int64.le_iff_toInt_le, Int64.lt_iff_toInt_lt, Int32.le_iff_toInt_le, Int32.lt_iff_toInt_lt, fa_eq, fa_lit, fa_litL, nI_toInt, pk_lT, Int32.toInt_toInt64, jadd64, jin, jnoneT] at *); omega
    · refine j_iload_n X dX11_seen_20 rfl ?_
      refine j_i2l X dX11_seen_21 ?_
      refine j_lconst X dX11_seen_22 0 (by decide) ?_
      refine j_ldc2 X dX11_seen_23 u1152 ?_
      refine s_callSi X hR (m_inI np _ _ _ _ 0 15 rfl rfl) rfl u1087 u1085 u1086 u12 hyX11_in (by decide) (by decide) (Nat.le_of_ble_eq_true rfl) dX11_seen_26 (fun v_26 m_26 h_26 => ?_)
      obtain ⟨e1, e2⟩ := h_26; have e1 := e1.symm; have e2 := e2.symm; subst e1; subst e2
      refine j_ifb_ne X 35 dX11_seen_29 (by decide) (fun c_29 => ?_) (fun c_29 => ?_)
      · refine j_aload_n X dX11_seen_35 rfl ?_
        refine j_getF X 11 34 (by decide) (by decide) rfl u984 (o66 np) (k66 np) _ rfl dX11_seen_36 ?_
        refine j_bipush X dX11_seen_39 30 (by decide) ?_
        refine j_icmp_ne X 47 dX11_seen_41 (by decide) (fun c_41 => ?_) (fun c_41 => ?_)
        · refine j_aload_n X dX11_seen_47 rfl ?_
          refine j_getR X 11 35 (by decide) (by decide) rfl u985 (o66 np) (k66 np) _ (p66_35 np) dX11_seen_48 ?_
          refine j_aload_n X dX11_seen_51 rfl ?_
          refine j_getF X 11 34 (by decide) (by decide) rfl u984 (o66 np) (k66 np) _ rfl dX11_seen_52 ?_
          refine j_nrm (nI q) hc ?_
          refine j_iload_n X dX11_seen_55 rfl ?_
          refine j_nrm2 _ (by first | (simp only [fa_lit, pk_mul, nI_add]; done) | (simp only [fa_lit, pk_mul, nI_add]; rfl) | rfl) ?_
          refine j_iastN X (o87 np) (k87 np) (by rw [l87]; omega) (by rw [l87]; decide) dX11_seen_56 ?_
          refine j_aload_n X dX11_seen_57 rfl ?_
          refine j_getR X 11 36 (by decide) (by decide) rfl u986 (o66 np) (k66 np) _ (p66_36 np) dX11_seen_58 ?_
          refine j_aload_n X dX11_seen_61 rfl ?_
          refine j_getF X 11 34 (by decide) (by decide) rfl u984 (o66 np) (k66 np) _ rfl dX11_seen_62 ?_
          refine j_nrm (nI q) hc ?_
          refine j_iload_n X dX11_seen_65 rfl ?_
          refine j_nrm2 _ (by first | (simp only [fa_lit, pk_mul, nI_add]; done) | (simp only [fa_lit, pk_mul, nI_add]; rfl) | rfl) ?_
          refine j_iastN X (o88 np) (k88 np) (by rw [l88]; omega) (by rw [l88]; decide) dX11_seen_66 ?_
          refine j_aload_n X dX11_seen_67 rfl ?_
          refine j_dup X dX11_seen_68 rfl ?_
          refine j_getF X 11 34 (by decide) (by decide) rfl u984 (o66 np) (k66 np) _ rfl dX11_seen_69 ?_
          refine j_nrm (nI q) hc ?_
          refine j_iconst X dX11_seen_72 1 (by decide) ?_
          refine j_iadd X dX11_seen_73 ?_
          refine j_nrm _ (nI_1 q) ?_
          refine j_putI X 11 34 (by decide) (by decide) rfl rfl rfl rfl u984 (o66 np) (k66 np) dX11_seen_74 ?_
          refine j_aload_n X dX11_seen_77 rfl ?_
          refine j_getF X 11 34 (by decide) (by decide) rfl u984 (o66 np) (k66 np) _ rfl dX11_seen_78 ?_
          refine s_iret X hE hr dX11_seen_81 rfl ?_
          first | exact ⟨rfl, rfl⟩ | (exfalso; clear hE hr hR X; (try simp only [lg_cmp_lt, lg_cmp_gt, lg_cmp_le, lg_cmp_ge] at *); (try simp (disch := omega) only [Int64.le_iff_toInt_le, Int64.lt_iff_toInt_lt, Int32.le_iff_toInt_le, Int32.lt_iff_toInt_lt, fa_eq, fa_lit, fa_litL, nI_toInt, pk_lT, Int32.toInt_toInt64, jadd64, jin, jnoneT] at *); omega)
        · exact absurd (c_41.symm.trans hc) (by rw [fa_lit, nI_eq (by omega) (by omega)]; omega)
      · exfalso
        clear hE hr hR X
        (try simp only [lg_cmp_lt, lg_cmp_gt, lg_cmp_le, lg_cmp_ge] at *); (try simp (disch := omega) only [Int64.le_iff_toInt_le, Int64.lt_iff_toInt_lt, Int32.le_iff_toInt_le, Int32.lt_iff_toInt_lt, fa_eq, fa_lit, fa_litL, nI_toInt, pk_lT, Int32.toInt_toInt64, jadd64, jin, jnoneT] at *); omega
set_option maxRecDepth 4000 in
set_option maxHeartbeats 1000000 in
theorem m_fitsOf (np : Nat) (mem : jMem) (p d q : Nat) (hp : p < 12) (hd : d < 4) (hq : q ≤ 8) (hc : mem 81 d = nI q) (hof : ∀ k, k < q → ∃ w, w < 4 ∧ mem 83 (8 * d + k) = nI w) : jPi yX11_fitsOf cX11_fitsOf 7 .int 2 [.ref 66, .int (nI p), .int (nI d)] np mem (fun v c => v = jBits (fun k => decide (if mem 82 (8 * d + k) = 0 then mem 74 (9 * p) = mem 83 (8 * d + k) else (mem 82 (8 * d + k) = 1 ∨ mem 84 (8 * d + k) ≤ mem 74 (9 * p + 5 + (mem 83 (8 * d + k)).toNatClampNeg)))) nI q ∧ c = mem) := by
  refine jPi.of (own := RX11) rfl rfl (Nat.le_of_ble_eq_true rfl) (fun G X hR hr hE => ?_)
  refine j_iconst X dX11_fitsOf_0 0 (by decide) ?_
  refine j_istore_n X dX11_fitsOf_1 (by decide) ?_
  refine j_iconst X dX11_fitsOf_2 0 (by decide) ?_
  refine j_istore X dX11_fitsOf_3 (by decide) ?_
  have lp5 : ∀ (n : Nat) (k : Nat), k ≤ q → q + 1 ≤ k + n → J G RX11 cX11_fitsOf 7 0 0 5 (jlv [some (.ref 66), some (.int (nI p)), some (.int (nI d)), some (.int (jBits (fun k => decide (if mem 82 (8 * d + k) = 0 then mem 74 (9 * p) = mem 83 (8 * d + k) else (mem 82 (8 * d + k) = 1 ∨ mem 84 (8 * d + k) ≤ mem 74 (9 * p + 5 + (mem 83 (8 * d + k)).toNatClampNeg)))) nI k)), some (.int (nI k))]) [] (jS np) (mem) := by
    intro n
    induction n with
    | zero =>
      intro k hk hn
      exact absurd hn (by omega)
    | succ n ih5 =>
      intro k hk hn
      refine j_iload X dX11_fitsOf_5 rfl ?_
      refine j_aload_n X dX11_fitsOf_7 rfl ?_
      refine j_getR X 11 17 (by decide) (by decide) rfl u967 (o66 np) (k66 np) _ (p66_17 np) dX11_fitsOf_8 ?_
      refine j_iload_n X dX11_fitsOf_11 rfl ?_
      refine j_nrm _ (by first | (simp only [fa_lit, pk_mul, nI_add]; done) | (simp only [fa_lit, pk_mul, nI_add]; rfl) | rfl) ?_
      refine j_ialdN X (o81 np) (k81 np) (by rw [l81]; omega) (by rw [l81]; decide) (mem 81) rfl dX11_fitsOf_12 ?_
      refine j_nrm (nI q) hc ?_
      refine j_icmp_ge X 121 dX11_fitsOf_13 (by decide) (fun c_13 => ?_) (fun c_13 => ?_)
      · obtain rfl : k = q := by clear hE hr hR X; (try simp only [lg_cmp_lt, lg_cmp_gt, lg_cmp_le, lg_cmp_ge] at *); (try simp (disch := omega) only [Int64.le_iff_toInt_le, Int64.lt_iff_toInt_lt, Int32.le_iff_toInt_le, Int32.lt_iff_toInt_lt, fa_eq, fa_lit, fa_litL, nI_toInt, pk_lT, Int32.toInt_toInt64, jadd64, jin, jnoneT] at *); omega
        refine j_iload_n X dX11_fitsOf_121 rfl ?_
        refine s_iret X hE hr dX11_fitsOf_122 rfl ?_
        first | exact ⟨rfl, rfl⟩ | (exfalso; clear hE hr hR X; (try simp only [lg_cmp_lt, lg_cmp_gt, lg_cmp_le, lg_cmp_ge] at *); (try simp (disch := omega) only [Int64.le_iff_toInt_le, Int64.lt_iff_toInt_lt, Int32.le_iff_toInt_le, Int32.lt_iff_toInt_lt, fa_eq, fa_lit, fa_litL, nI_toInt, pk_lT, Int32.toInt_toInt64, jadd64, jin, jnoneT] at *); omega)
      · have hk2 : k < q := by clear hE hr hR X; (try simp only [lg_cmp_lt, lg_cmp_gt, lg_cmp_le, lg_cmp_ge] at *); (try simp (disch := omega) only [Int64.le_iff_toInt_le, Int64.lt_iff_toInt_lt, Int32.le_iff_toInt_le, Int32.lt_iff_toInt_lt, fa_eq, fa_lit, fa_litL, nI_toInt, pk_lT, Int32.toInt_toInt64, jadd64, jin, jnoneT] at *); omega
        refine j_bipush X dX11_fitsOf_16 8 (by decide) ?_
        refine j_iload_n X dX11_fitsOf_18 rfl ?_
        refine j_imul X dX11_fitsOf_19 ?_
        refine j_iload X dX11_fitsOf_20 rfl ?_
        refine j_iadd X dX11_fitsOf_22 ?_
        refine j_nrm (nI (8 * d + k)) (by simp only [fa_lit, pk_mul, nI_add]) ?_
        refine j_istore X dX11_fitsOf_23 (by decide) ?_
        refine j_aload_n X dX11_fitsOf_25 rfl ?_
        refine j_getR X 11 18 (by decide) (by decide) rfl u968 (o66 np) (k66 np) _ (p66_18 np) dX11_fitsOf_26 ?_
        refine j_iload X dX11_fitsOf_29 rfl ?_
        refine j_nrm _ (by first | (simp only [fa_lit, pk_mul, nI_add]; done) | (simp only [fa_lit, pk_mul, nI_add]; rfl) | rfl) ?_
        refine j_ialdN X (o82 np) (k82 np) (by rw [l82]; omega) (by rw [l82]; decide) (mem 82) rfl dX11_fitsOf_31 ?_
        refine j_if_ne X 59 dX11_fitsOf_32 (by decide) (fun c_32 => ?_) (fun c_32 => ?_)
        · refine j_aload_n X dX11_fitsOf_59 rfl ?_
          refine j_getR X 11 18 (by decide) (by decide) rfl u968 (o66 np) (k66 np) _ (p66_18 np) dX11_fitsOf_60 ?_
          refine j_iload X dX11_fitsOf_63 rfl ?_
          refine j_nrm _ (by first | (simp only [fa_lit, pk_mul, nI_add]; done) | (simp only [fa_lit, pk_mul, nI_add]; rfl) | rfl) ?_
          refine j_ialdN X (o82 np) (k82 np) (by rw [l82]; omega) (by rw [l82]; decide) (mem 82) rfl dX11_fitsOf_65 ?_
          refine j_iconst X dX11_fitsOf_66 1 (by decide) ?_
          refine j_icmp_eq X 92 dX11_fitsOf_67 (by decide) (fun c_67 => ?_) (fun c_67 => ?_)
          · refine j_iconst X dX11_fitsOf_92 1 (by decide) ?_
            refine j_goto X 97 dX11_fitsOf_93 (by decide) ?_
            refine j_istore X dX11_fitsOf_97 (by decide) ?_
            refine j_iload_n X dX11_fitsOf_99 rfl ?_
            refine j_iload X dX11_fitsOf_100 rfl ?_
            refine j_if_eq X 112 dX11_fitsOf_102 (by decide) (fun c_102 => absurd c_102 (by decide)) (fun c_102 => ?_)
            refine j_iconst X dX11_fitsOf_105 1 (by decide) ?_
            refine j_iload X dX11_fitsOf_106 rfl ?_
            refine j_ishl X dX11_fitsOf_108 ?_
            refine j_goto X 113 dX11_fitsOf_109 (by decide) ?_
            refine j_ior X dX11_fitsOf_113 ?_
            refine j_istore_n X dX11_fitsOf_114 (by decide) ?_
            refine j_iinc X dX11_fitsOf_115 rfl 1 rfl ?_
            refine j_goto X 5 dX11_fitsOf_118 (by decide) ?_
            refine j_lv [some (.ref 66), some (.int (nI p)), some (.int (nI d)), some (.int (jBits (fun k => decide (if mem 82 (8 * d + k) = 0 then mem 74 (9 * p) = mem 83 (8 * d + k) else (mem 82 (8 * d + k) = 1 ∨ mem 84 (8 * d + k) ≤ mem 74 (9 * p + 5 + (mem 83 (8 * d + k)).toNatClampNeg)))) nI (k + 1))), some (.int (nI (k + 1)))] ⟨rfl, rfl, rfl, (congrArg (fun z => some (Value.int z)) (by first | exact jBits_t (decide_eq_true (by first | (rw [if_pos c_32]; exact c_48) | (rw [if_neg c_32]; exact Or.inl c_67) | (rw [if_neg c_32]; exact Or.inr (Int32.not_lt.mp c_89)))) | exact jBits_f (fun z => (show ¬ _ from (by first | (rw [if_pos c_32]; exact c_48) | (rw [if_neg c_32]; exact fun z => z.elim c_67 (fun z => absurd c_89 (Int32.not_lt.mpr z))))) (of_decide_eq_true z)))), (by rw [← nI_1]; rfl), trivial⟩ ?_
            exact ih5 (k + 1) (by omega) (by omega)
          · refine j_aload_n X dX11_fitsOf_70 rfl ?_
            refine j_iload_n X dX11_fitsOf_71 rfl ?_
            refine j_aload_n X dX11_fitsOf_72 rfl ?_
            refine j_getR X 11 19 (by decide) (by decide) rfl u969 (o66 np) (k66 np) _ (p66_19 np) dX11_fitsOf_73 ?_
            refine j_iload X dX11_fitsOf_76 rfl ?_
            refine j_nrm _ (by first | (simp only [fa_lit, pk_mul, nI_add]; done) | (simp only [fa_lit, pk_mul, nI_add]; rfl) | rfl) ?_
            refine j_ialdN X (o83 np) (k83 np) (by rw [l83]; omega) (by rw [l83]; decide) (mem 83) rfl dX11_fitsOf_78 ?_
            obtain ⟨w, hw1, hw2⟩ := hof k hk2
            refine j_nrm (nI w) hw2 ?_
            refine s_callVi X hR (m_field np _ p w hp hw1) rfl 11 (by decide) (o66 np) (k66 np) rfl u1160 u1157 u1159 qp41 u12 hyX11_field (by decide) (by decide) (Nat.le_of_ble_eq_true rfl) dX11_fitsOf_79 (fun v_79 m_79 h_79 => ?_)
            obtain ⟨e1, e2⟩ := h_79; have e1 := e1.symm; have e2 := e2.symm; subst e1; subst e2
            refine j_nrm (mem 74 (9 * p + 5 + (mem 83 (8 * d + k)).toNatClampNeg)) (by rw [hw2, nI_clamp (by omega)]) ?_
            refine j_aload_n X dX11_fitsOf_82 rfl ?_
            refine j_getR X 11 20 (by decide) (by decide) rfl u970 (o66 np) (k66 np) _ (p66_20 np) dX11_fitsOf_83 ?_
            refine j_iload X dX11_fitsOf_86 rfl ?_
            refine j_nrm _ (by first | (simp only [fa_lit, pk_mul, nI_add]; done) | (simp only [fa_lit, pk_mul, nI_add]; rfl) | rfl) ?_
            refine j_ialdN X (o84 np) (k84 np) (by rw [l84]; omega) (by rw [l84]; decide) (mem 84) rfl dX11_fitsOf_88 ?_
            refine j_icmp_lt X 96 dX11_fitsOf_89 (by decide) (fun c_89 => ?_) (fun c_89 => ?_)
            · refine j_iconst X dX11_fitsOf_96 0 (by decide) ?_
              refine j_istore X dX11_fitsOf_97 (by decide) ?_
              refine j_iload_n X dX11_fitsOf_99 rfl ?_
              refine j_iload X dX11_fitsOf_100 rfl ?_
              refine j_if_eq X 112 dX11_fitsOf_102 (by decide) (fun c_102 => ?_) (fun c_102 => absurd c_102 (by decide))
              refine j_iconst X dX11_fitsOf_112 0 (by decide) ?_
              refine j_ior X dX11_fitsOf_113 ?_
              refine j_istore_n X dX11_fitsOf_114 (by decide) ?_
              refine j_iinc X dX11_fitsOf_115 rfl 1 rfl ?_
              refine j_goto X 5 dX11_fitsOf_118 (by decide) ?_
              refine j_lv [some (.ref 66), some (.int (nI p)), some (.int (nI d)), some (.int (jBits (fun k => decide (if mem 82 (8 * d + k) = 0 then mem 74 (9 * p) = mem 83 (8 * d + k) else (mem 82 (8 * d + k) = 1 ∨ mem 84 (8 * d + k) ≤ mem 74 (9 * p + 5 + (mem 83 (8 * d + k)).toNatClampNeg)))) nI (k + 1))), some (.int (nI (k + 1)))] ⟨rfl, rfl, rfl, (congrArg (fun z => some (Value.int z)) (by first | exact jBits_t (decide_eq_true (by first | (rw [if_pos c_32]; exact c_48) | (rw [if_neg c_32]; exact Or.inl c_67) | (rw [if_neg c_32]; exact Or.inr (Int32.not_lt.mp c_89)))) | exact jBits_f (fun z => (show ¬ _ from (by first | (rw [if_pos c_32]; exact c_48) | (rw [if_neg c_32]; exact fun z => z.elim c_67 (fun z => absurd c_89 (Int32.not_lt.mpr z))))) (of_decide_eq_true z)))), (by rw [← nI_1]; rfl), trivial⟩ ?_
              exact ih5 (k + 1) (by omega) (by omega)
            · refine j_iconst X dX11_fitsOf_92 1 (by decide) ?_
              refine j_goto X 97 dX11_fitsOf_93 (by decide) ?_
              refine j_istore X dX11_fitsOf_97 (by decide) ?_
              refine j_iload_n X dX11_fitsOf_99 rfl ?_
              refine j_iload X dX11_fitsOf_100 rfl ?_
              refine j_if_eq X 112 dX11_fitsOf_102 (by decide) (fun c_102 => absurd c_102 (by decide)) (fun c_102 => ?_)
              refine j_iconst X dX11_fitsOf_105 1 (by decide) ?_
              refine j_iload X dX11_fitsOf_106 rfl ?_
              refine j_ishl X dX11_fitsOf_108 ?_
              refine j_goto X 113 dX11_fitsOf_109 (by decide) ?_
              refine j_ior X dX11_fitsOf_113 ?_
              refine j_istore_n X dX11_fitsOf_114 (by decide) ?_
              refine j_iinc X dX11_fitsOf_115 rfl 1 rfl ?_
              refine j_goto X 5 dX11_fitsOf_118 (by decide) ?_
              refine j_lv [some (.ref 66), some (.int (nI p)), some (.int (nI d)), some (.int (jBits (fun k => decide (if mem 82 (8 * d + k) = 0 then mem 74 (9 * p) = mem 83 (8 * d + k) else (mem 82 (8 * d + k) = 1 ∨ mem 84 (8 * d + k) ≤ mem 74 (9 * p + 5 + (mem 83 (8 * d + k)).toNatClampNeg)))) nI (k + 1))), some (.int (nI (k + 1)))] ⟨rfl, rfl, rfl, (congrArg (fun z => some (Value.int z)) (by first | exact jBits_t (decide_eq_true (by first | (rw [if_pos c_32]; exact c_48) | (rw [if_neg c_32]; exact Or.inl c_67) | (rw [if_neg c_32]; exact Or.inr (Int32.not_lt.mp c_89)))) | exact jBits_f (fun z => (show ¬ _ from (by first | (rw [if_pos c_32]; exact c_48) | (rw [if_neg c_32]; exact fun z => z.elim c_67 (fun z => absurd c_89 (Int32.not_lt.mpr z))))) (of_decide_eq_true z)))), (by rw [← nI_1]; rfl), trivial⟩ ?_
              exact ih5 (k + 1) (by omega) (by omega)
        · refine j_aload_n X dX11_fitsOf_35 rfl ?_
          refine j_iload_n X dX11_fitsOf_36 rfl ?_
          refine j_iconst X dX11_fitsOf_37 0 (by decide) ?_
          refine s_callVi X hR (m_of np _ p 0 hp (by omega)) rfl 11 (by decide) (o66 np) (k66 np) rfl u1180 u1177 u1179 qp44 u12 hyX11_of (by decide) (by decide) (Nat.le_of_ble_eq_true rfl) dX11_fitsOf_38 (fun v_38 m_38 h_38 => ?_)
          obtain ⟨e1, e2⟩ := h_38; have e1 := e1.symm; have e2 := e2.symm; subst e1; subst e2
          refine j_aload_n X dX11_fitsOf_41 rfl ?_
          refine j_getR X 11 19 (by decide) (by decide) rfl u969 (o66 np) (k66 np) _ (p66_19 np) dX11_fitsOf_42 ?_
          refine j_iload X dX11_fitsOf_45 rfl ?_
          refine j_nrm _ (by first | (simp only [fa_lit, pk_mul, nI_add]; done) | (simp only [fa_lit, pk_mul, nI_add]; rfl) | rfl) ?_
          refine j_ialdN X (o83 np) (k83 np) (by rw [l83]; omega) (by rw [l83]; decide) (mem 83) rfl dX11_fitsOf_47 ?_
          refine j_icmp_ne X 55 dX11_fitsOf_48 (by decide) (fun c_48 => ?_) (fun c_48 => ?_)
          · refine j_iconst X dX11_fitsOf_55 0 (by decide) ?_
            refine j_goto X 97 dX11_fitsOf_56 (by decide) ?_
            refine j_istore X dX11_fitsOf_97 (by decide) ?_
            refine j_iload_n X dX11_fitsOf_99 rfl ?_
            refine j_iload X dX11_fitsOf_100 rfl ?_
            refine j_if_eq X 112 dX11_fitsOf_102 (by decide) (fun c_102 => ?_) (fun c_102 => absurd c_102 (by decide))
            refine j_iconst X dX11_fitsOf_112 0 (by decide) ?_
            refine j_ior X dX11_fitsOf_113 ?_
            refine j_istore_n X dX11_fitsOf_114 (by decide) ?_
            refine j_iinc X dX11_fitsOf_115 rfl 1 rfl ?_
            refine j_goto X 5 dX11_fitsOf_118 (by decide) ?_
            refine j_lv [some (.ref 66), some (.int (nI p)), some (.int (nI d)), some (.int (jBits (fun k => decide (if mem 82 (8 * d + k) = 0 then mem 74 (9 * p) = mem 83 (8 * d + k) else (mem 82 (8 * d + k) = 1 ∨ mem 84 (8 * d + k) ≤ mem 74 (9 * p + 5 + (mem 83 (8 * d + k)).toNatClampNeg)))) nI (k + 1))), some (.int (nI (k + 1)))] ⟨rfl, rfl, rfl, (congrArg (fun z => some (Value.int z)) (by first | exact jBits_t (decide_eq_true (by first | (rw [if_pos c_32]; exact c_48) | (rw [if_neg c_32]; exact Or.inl c_67) | (rw [if_neg c_32]; exact Or.inr (Int32.not_lt.mp c_89)))) | exact jBits_f (fun z => (show ¬ _ from (by first | (rw [if_pos c_32]; exact c_48) | (rw [if_neg c_32]; exact fun z => z.elim c_67 (fun z => absurd c_89 (Int32.not_lt.mpr z))))) (of_decide_eq_true z)))), (by rw [← nI_1]; rfl), trivial⟩ ?_
            exact ih5 (k + 1) (by omega) (by omega)
          · refine j_iconst X dX11_fitsOf_51 1 (by decide) ?_
            refine j_goto X 97 dX11_fitsOf_52 (by decide) ?_
            refine j_istore X dX11_fitsOf_97 (by decide) ?_
            refine j_iload_n X dX11_fitsOf_99 rfl ?_
            refine j_iload X dX11_fitsOf_100 rfl ?_
            refine j_if_eq X 112 dX11_fitsOf_102 (by decide) (fun c_102 => absurd c_102 (by decide)) (fun c_102 => ?_)
            refine j_iconst X dX11_fitsOf_105 1 (by decide) ?_
            refine j_iload X dX11_fitsOf_106 rfl ?_
            refine j_ishl X dX11_fitsOf_108 ?_
            refine j_goto X 113 dX11_fitsOf_109 (by decide) ?_
            refine j_ior X dX11_fitsOf_113 ?_
            refine j_istore_n X dX11_fitsOf_114 (by decide) ?_
            refine j_iinc X dX11_fitsOf_115 rfl 1 rfl ?_
            refine j_goto X 5 dX11_fitsOf_118 (by decide) ?_
            refine j_lv [some (.ref 66), some (.int (nI p)), some (.int (nI d)), some (.int (jBits (fun k => decide (if mem 82 (8 * d + k) = 0 then mem 74 (9 * p) = mem 83 (8 * d + k) else (mem 82 (8 * d + k) = 1 ∨ mem 84 (8 * d + k) ≤ mem 74 (9 * p + 5 + (mem 83 (8 * d + k)).toNatClampNeg)))) nI (k + 1))), some (.int (nI (k + 1)))] ⟨rfl, rfl, rfl, (congrArg (fun z => some (Value.int z)) (by first | exact jBits_t (decide_eq_true (by first | (rw [if_pos c_32]; exact c_48) | (rw [if_neg c_32]; exact Or.inl c_67) | (rw [if_neg c_32]; exact Or.inr (Int32.not_lt.mp c_89)))) | exact jBits_f (fun z => (show ¬ _ from (by first | (rw [if_pos c_32]; exact c_48) | (rw [if_neg c_32]; exact fun z => z.elim c_67 (fun z => absurd c_89 (Int32.not_lt.mpr z))))) (of_decide_eq_true z)))), (by rw [← nI_1]; rfl), trivial⟩ ?_
            exact ih5 (k + 1) (by omega) (by omega)
  refine j_lv [some (.ref 66), some (.int (nI p)), some (.int (nI d)), some (.int (jBits (fun k => decide (if mem 82 (8 * d + k) = 0 then mem 74 (9 * p) = mem 83 (8 * d + k) else (mem 82 (8 * d + k) = 1 ∨ mem 84 (8 * d + k) ≤ mem 74 (9 * p + 5 + (mem 83 (8 * d + k)).toNatClampNeg)))) nI 0)), some (.int (nI 0))] ⟨rfl, rfl, rfl, rfl, rfl, trivial⟩ ?_
  exact lp5 (q + 1) 0 (by omega) (by omega)
